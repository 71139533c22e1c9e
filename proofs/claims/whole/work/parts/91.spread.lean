/-! the class: a port spreads an exploring frame -/
theorem rg_bit : ∀ g, g < 8 → ∀ r, r < 3 → (((nI g >>> (nI r &&& 31)) &&& 1) = 1 ↔ ¬ (nI g &&& ((1 : Int32) <<< (nI r &&& 31))) = 0) := by decide +kernel
section RHF
variable {d : Nat} {Q : Option Value → rb_H → Prop} {nd : Nat → Nat → Nat} {X A : Nat → Nat → Int32} {R : Nat → Nat → Option Nat} {t : Int32} {B : Nat}
theorem rg_spread {r n pl w h q r2 pl2 w2 h2 q2 : Nat} (H : rg_Rel nd X R A t B) (hr : r < 3) (hon : rg_on A r n) (h9 : 9 ≤ n) (hN : rg_N nd X A n r pl w h q) (hr2 : r2 < 3) (hne : ¬ r2 = r) (hon2 : rg_on A r2 (rr_oth n)) (hN2 : rg_N nd X A (rr_oth n) r2 pl2 w2 h2 q2) (hf : rg_F (X (2 + 44 * r + 43)) (fun j => A j (60 + r)) (A 41) (A 37)) (hk0 : A 8 (60 + r) = 0)
    (hq1 : ¬ (0 ≤ A 15 (60 + r) ∨ ((A 16 (60 + r) >>> (A 3 (rr_oth n) &&& 31)) &&& 1) = 1) → w2 < 4 → ∀ X', rg_Rel nd X' R (rr_queue (rr_spread A r (rr_oth n) (nI ((n - 9) / 2))) (rr_oth n) w2) t B → Q (some (.int 1)) (rc_h X' R)) (hq0 : ((0 ≤ A 15 (60 + r) ∨ ((A 16 (60 + r) >>> (A 3 (rr_oth n) &&& 31)) &&& 1) = 1) ∨ w2 = 4) → Q (some (.int 0)) (rc_h X R)) : rb_cw (d + 3) 32 [.ref 0, .ref (2 + 44 * r), .ref (rg_o nd r pl), .ref (2 + 44 * r + 43)] (rc_h X R) Q := by
  have hf0 := hf
  obtain ⟨k, p, a, b, u, v, s, t', f1, f2, f3, f4, f5, f6, f7, f8⟩ := hf
  obtain ⟨k1, k2, k3, k4, k5⟩ := rg_kp n hon.1 h9
  have hn := hon.1
  have b0 := hN.1
  have b2 := hN.2.2.1
  have tN := rg_oT H b0.1 b0.2.1
  have tF := (rc_t1 (rc_tR hr)).2.2
  have tN2 := rg_oT H hr2 hN2.1.2.1
  have tG := rc_t2f tN2 (show (h2 + w2) % 4 < 4 by omega)
  have x3 : X (rg_o nd r pl) 3 = nI (10 + (n - 9) / 2) := b2.1.trans k1
  have hkk : k = 0 := by
    have : nI k = 0 := f1.1.symm.trans hk0
    exact (nI_eq (a := k) (b := 0) (by omega) (by omega)).mp this
  obtain ⟨hu, g, hg, hgA, hgX⟩ := f7 hkk
  have hgA : A 16 (60 + r) = nI g := hgA
  have f6a : A 14 (60 + r) = nI s - 1 := f6.1
  have f6b : A 15 (60 + r) = nI t' - 1 := f6.2.1
  have hp := f6.2.2.1
  have ho3 : A 3 (rr_oth n) = nI r2 := hon2.2.2
  have hfar : 0 ≤ A 15 (60 + r) ↔ ¬ t' = 0 := by rw [f6b]; exact rg_nn3 t' (by have := hp.2.1; omega)
  have hvis : ((A 16 (60 + r) >>> (A 3 (rr_oth n) &&& 31)) &&& 1) = 1 ↔ ¬ (nI g &&& ((1 : Int32) <<< (nI r2 &&& 31))) = 0 := by rw [hgA, ho3]; exact rg_bit g hg r2 hr2
  obtain ⟨m2, a2, y2, kk2, p2, v2, gR⟩ := H.2.2.1 r2 hr2
  refine rw_ent rfl rfl rfl ?_
  refine rw_step rfl rfl ?_
  refine rw_step rfl rfl ?_
  refine rw_step rfl rfl ?_
  refine rc_gv rfl tN rfl x3 ?_
  refine rc_call rfl rfl (by decide) rfl rfl rfl rfl ?_
  refine rg_beyondP H hr hon h9 hr2 hne hon2 ?_
  refine rw_step rfl rfl ?_
  refine rw_step rfl rfl ?_
  refine rw_step rfl rfl ?_
  refine rw_step rfl rfl ?_
  refine rc_gv rfl tF rfl f6.2.2.2 ?_
  refine rw_call rfl rfl rfl ?_
  refine rk_hasTwo ?_
  by_cases ht : t' = 0
  · have hle : nI (s + 4 * t') ≤ 3 := nI_le (b := 3) (by have := hp.1; omega) (by omega)
    rw [if_pos hle]
    refine rw_step rfl rfl ?_
    refine rw_step rfl rfl ?_
    refine rw_step rfl rfl ?_
    refine rc_gv rfl (rc_tR hr2) rfl gR.2.2.1.1 ?_
    refine rw_step rfl rfl ?_
    refine rw_step rfl rfl ?_
    refine rw_step rfl rfl ?_
    refine rc_gv rfl tF rfl hgX ?_
    refine rw_step rfl rfl ?_
    refine rw_step rfl rfl ?_
    refine rw_if rfl (fun h8 => ?_) (fun h8 => ?_)
    · have h8 : (nI g &&& ((1 : Int32) <<< (nI r2 &&& 31))) = 0 := rw_eq h8
      have hno : ¬ (0 ≤ A 15 (60 + r) ∨ ((A 16 (60 + r) >>> (A 3 (rr_oth n) &&& 31)) &&& 1) = 1) := by
        rintro (h7 | h7)
        · exact hfar.mp h7 ht
        · exact hvis.mp h7 h8
      refine rw_step rfl rfl ?_
      refine rw_step rfl rfl ?_
      refine rc_gv rfl tN rfl x3 ?_
      refine rc_call rfl (rc_tR hr2) (by decide) rfl rfl rfl rfl ?_
      refine rg_addAt H hr2 hon2 hN2 k2 (fun hw => ?_) (fun hw => ?_)
      · have hFN : 2 + 44 * r + 43 ≠ rg_o nd r2 pl2 := rk_tne tF tN2 rfl
        have hap2 := rg_sepR (r := r) (i := 2 + (h2 + w2) % 4) hr hr2 (H.1.1.2 r2 hr2 pl2 hN2.1.2.1).2.1 (by omega)
        have hFG : 2 + 44 * r + 43 ≠ rg_o nd r2 pl2 + 2 + (h2 + w2) % 4 := by unfold rg_o; omega
        have hNG : rg_o nd r2 pl2 ≠ rg_o nd r2 pl2 + 2 + (h2 + w2) % 4 := by omega
        have hdi : rg_o nd r pl ≠ rg_o nd r2 pl2 := by
          have q1 := (H.1.1.2 r hr pl b0.2.1).2.1
          have q2 := (H.1.1.2 r2 hr2 pl2 hN2.1.2.1).2.1
          have := rg_sepN (i := 0) hr2 hr q2 q1 (by omega) (fun h => hne h.1.symm)
          unfold rg_o
          omega
        have hdG : rg_o nd r pl ≠ rg_o nd r2 pl2 + 2 + (h2 + w2) % 4 := rk_tne tN tG rfl
        refine rw_step rfl rfl ?_
        refine rw_step rfl rfl ?_
        refine rw_step rfl rfl ?_
        refine rw_step rfl rfl ?_
        refine rw_step rfl rfl ?_
        refine rc_call rfl tG (by decide) rfl rfl rfl rfl ?_
        refine rk_copy tG tF hFG ?_
        refine rw_step rfl rfl ?_
        refine rw_step rfl rfl ?_
        refine rc_gv (v := nI s) rfl tF rfl ((rk_cp_ne hFG).trans ((rk_ne hFN).trans (f6.2.2.2.trans (by rw [ht]; rfl)))) ?_
        refine rw_step rfl rfl ?_
        refine rc_gv rfl tN rfl ((rk_cp_ne hdG).trans ((rk_ne hdi).trans x3)) ?_
        refine rw_call rfl rfl rfl ?_
        refine rk_withLast ?_
        refine rc_p rfl tG rfl rfl ?_
        refine rw_step rfl rfl ?_
        refine rw_step rfl rfl ?_
        refine rc_gv rfl tF rfl ((rk_ne hFG).trans ((rk_cp_ne hFG).trans ((rk_ne hFN).trans hgX))) ?_
        refine rw_step rfl rfl ?_
        refine rw_step rfl rfl ?_
        refine rc_p rfl tG rfl rfl ?_
        refine rw_step rfl rfl ?_
        refine rw_ret rfl rfl rfl ?_
        refine hq1 hno hw _ (rg_enq H hon2 hN2 hw (fun q' j c1 c2 => ?_) ?_ (fun j i c1 => rg_spread_at c1) ?_).1
        · rw [rk_ne c1, rk_ne c1, rk_cp_ne c1, rr_up_at, if_neg c2]
        · rw [rk_ne hNG, rk_ne hNG, rk_cp_ne hNG, rr_up_same]
        · exact rg_sprF (X1 := rr_up X (rg_o nd r2 pl2) 5 (nI (w2 + 1))) (X := X) hr hr2 (show (n - 9) / 2 < 3 by omega) hf0 hk0 hFG (fun j => rk_ne hFN) ho3 hg hgA hp.1 f6a (by rw [f6b, ht]; exact rg_m1)
      · repeat refine rw_step rfl rfl ?_
        exact rw_ret rfl rfl rfl (hq0 (Or.inr hw))
    · have h8 : ¬ (nI g &&& ((1 : Int32) <<< (nI r2 &&& 31))) = 0 := rw_eqF h8
      refine rw_step rfl rfl ?_
      exact rw_ret rfl rfl rfl (hq0 (Or.inl (Or.inr (hvis.mpr h8))))
  · have hle : ¬ nI (s + 4 * t') ≤ 3 := nI_ge (a := 3) (by omega) (by have := hp.1; have := hp.2.1; omega)
    rw [if_neg hle]
    refine rw_step rfl rfl ?_
    refine rw_step rfl rfl ?_
    exact rw_ret rfl rfl rfl (hq0 (Or.inl (Or.inl (hfar.mpr ht))))
end RHF
