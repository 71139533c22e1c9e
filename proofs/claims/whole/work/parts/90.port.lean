/-! the class: a port carries a frame on, or spreads it -/
theorem rg_kp : ∀ n, n < 15 → 9 ≤ n → rr_addr (nI n) = nI (10 + (n - 9) / 2) ∧ rr_addr (nI (rr_oth n)) = nI (10 + (n - 9) / 2) ∧ rr_oth n < 15 ∧ 9 ≤ rr_oth n ∧ rr_addr (nI n) - 10 = nI ((n - 9) / 2) := by decide +kernel
theorem rg_kpU : ∀ k, k < 3 → ∀ n', n' < 15 → rr_addr (nI n') = nI (10 + k) → 9 ≤ n' ∧ (n' - 9) / 2 = k := by decide +kernel
section RHE
variable {d : Nat} {Q : Option Value → rb_H → Prop} {nd : Nat → Nat → Nat} {X A : Nat → Nat → Int32} {R : Nat → Nat → Option Nat} {t : Int32} {B : Nat}
/-- the port's other end stands on another ring -/
theorem rg_far {r n : Nat} (H : rg_Rel nd X R A t B) (hr : r < 3) (hon : rg_on A r n) (h9 : 9 ≤ n) : ∃ r2 pl2 w2 h2 q2, r2 < 3 ∧ ¬ r2 = r ∧ rg_on A r2 (rr_oth n) ∧ rg_N nd X A (rr_oth n) r2 pl2 w2 h2 q2 := by
  obtain ⟨k1, k2, k3, k4, k5⟩ := rg_kp n hon.1 h9
  have h2 : ¬ A 2 (rr_oth n) = 0 := by
    have hk := (H.2.1.2.2 ((n - 9) / 2) (by have := hon.1; omega)).1
    have hn := hon.1
    unfold rr_oth
    split
    · rename_i e
      rw [show 9 + 2 * ((n - 9) / 2) = n by omega, show 10 + 2 * ((n - 9) / 2) = n + 1 by omega] at hk
      exact fun h => hon.2.1 (hk.mpr h)
    · rename_i e
      rw [show 9 + 2 * ((n - 9) / 2) = n - 1 by omega, show 10 + 2 * ((n - 9) / 2) = n by omega] at hk
      exact fun h => hon.2.1 (hk.mp h)
  obtain ⟨r2, pl2, w2, h2', q2, hN⟩ := H.2.2.2.1 (rr_oth n) k3 h2
  have hon2 : rg_on A r2 (rr_oth n) := ⟨k3, h2, hN.2.1.1⟩
  refine ⟨r2, pl2, w2, h2', q2, hN.1.1, fun h => ?_, hon2, hN⟩
  exact rg_oth H.2.1 hon h9 hon2 (by rw [h])
/-- the ring beyond a port -/
theorem rg_beyondP {r r2 n : Nat} (H : rg_Rel nd X R A t B) (hr : r < 3) (hon : rg_on A r n) (h9 : 9 ≤ n) (hr2 : r2 < 3) (hne : ¬ r2 = r) (hon2 : rg_on A r2 (rr_oth n)) (hq : Q (some (.ref (2 + 44 * r2))) (rc_h X R)) : rb_cw (d + 2) 24 [.ref 0, .ref (2 + 44 * r), .int (nI (10 + (n - 9) / 2))] (rc_h X R) Q := by
  obtain ⟨k1, k2, k3, k4, k5⟩ := rg_kp n hon.1 h9
  have hn := hon.1
  refine rg_beyond H hr (fun r' n' hr' hne' hon' ha => ?_) (fun h => absurd k2 (h r2 _ hr2 hne hon2))
  obtain ⟨q1, q2⟩ := rg_kpU ((n - 9) / 2) (by omega) n' hon'.1 ha
  have : n' = n ∨ n' = rr_oth n := by
    unfold rr_oth
    split <;> omega
  rcases this with e | e
  · subst e
    exact absurd ((nI_eq (by omega) (by omega)).mp (hon'.2.2.symm.trans hon.2.2)) hne'
  · subst e
    have : r' = r2 := (nI_eq (by omega) (by omega)).mp (hon'.2.2.symm.trans hon2.2.2)
    subst this
    exact hq
theorem rg_carry_at {r j i : Nat} (h : ¬ ((8 ≤ j ∧ j ≤ 20) ∧ i = 63)) : rr_carry A r j i = A j i := by
  rw [rr_carry, rr_up_at, if_neg (by omega), rr_up_at, if_neg (by omega), rg_copy_at, if_neg h]
theorem rg_spread_at {r o j i : Nat} {kk : Int32} (h : ¬ ((8 ≤ j ∧ j ≤ 20) ∧ i = 63)) : rr_spread A r o kk j i = A j i := by
  rw [rr_spread, rr_up_at, if_neg (by omega), rr_spread1]
  split
  · rw [rr_up_at, if_neg (by omega), rg_copy_at, if_neg h]
  · rw [rr_up_at, if_neg (by omega), rg_copy_at, if_neg h]
/-- the row of a frame behind those that wait at node o, found by its address -/
theorem rg_addAt {r2 o pl2 w2 h2 q2 : Nat} {x : Int32} (H : rg_Rel nd X R A t B) (hr2 : r2 < 3) (hon2 : rg_on A r2 o) (hN2 : rg_N nd X A o r2 pl2 w2 h2 q2) (hx : rr_addr (nI o) = x) (hq1 : w2 < 4 → Q (some (.ref (rg_o nd r2 pl2 + 2 + (h2 + w2) % 4))) (rc_h (rr_up X (rg_o nd r2 pl2) 5 (nI (w2 + 1))) R)) (hq0 : w2 = 4 → Q (some .null) (rc_h X R)) : rb_cw (d + 2) 117 [.ref (2 + 44 * r2), .int x] (rc_h X R) Q := by
  obtain ⟨m, hm5, hm, hX⟩ := rg_size H hr2
  obtain ⟨p', w', h', q', c1, c2⟩ := rg_stand H hr2 hon2 hm hm5
  have hpl : pl2 < 5 := hN2.1.2.1
  have e : p' = pl2 := (nI_eq (by omega) (by omega)).mp (c2.2.1.2.1.symm.trans hN2.2.1.2.1)
  subst e
  have b2 := hN2.2.2.1
  have tN := rg_oT H hr2 hpl
  refine rk_addAt (rc_tR hr2) (rg_npH H hr2) hX hm5 c1 (b2.1.trans hx) (fun i hi h9 => ?_) ?_
  · obtain ⟨n', w'', h'', q'', d1, d2⟩ := rg_who H hr2 hm hm5 (show i < m by omega)
    have e : n' = o := rg_uniq H.2.1 d1 hon2 (d2.2.2.1.1.symm.trans (h9.trans hx.symm))
    subst e
    have := (nI_eq (by omega) (by omega)).mp (d2.2.1.2.1.symm.trans hN2.2.1.2.1)
    omega
  by_cases hw : w2 < 4
  · refine rk_addFrame (i := (h2 + w2) % 4) H.1.1.1 tN ?_ ?_ (by omega) ?_
    · rw [b2.2.2.1]; exact nI_lt (b := 4) hw (by omega)
    · rw [b2.2.1, b2.2.2.1, nI_add, rg_and3]
    rw [b2.2.2.1, nI_1]
    exact ⟨Or.inl ⟨_, rfl⟩, hq1 hw⟩
  · have e4 : w2 = 4 := by have := hN2.1.2.2.1; omega
    refine rk_addNull tN ?_ ⟨Or.inr rfl, hq0 e4⟩
    rw [b2.2.2.1, e4]; decide
theorem rg_carry {r n pl w h q r2 pl2 w2 h2 q2 : Nat} (H : rg_Rel nd X R A t B) (hr : r < 3) (hon : rg_on A r n) (h9 : 9 ≤ n) (hN : rg_N nd X A n r pl w h q) (hr2 : r2 < 3) (hne : ¬ r2 = r) (hon2 : rg_on A r2 (rr_oth n)) (hN2 : rg_N nd X A (rr_oth n) r2 pl2 w2 h2 q2) (hf : rg_F (X (2 + 44 * r + 43)) (fun j => A j (60 + r)) (A 41) (A 37)) (hk0 : ¬ A 8 (60 + r) = 0)
    (hq1 : A 12 (60 + r) = nI ((n - 9) / 2) → w2 < 4 → ∀ X', rg_Rel nd X' R (rr_queue (rr_carry A r) (rr_oth n) w2) t B → Q (some (.int 1)) (rc_h X' R)) (hq0 : (¬ A 12 (60 + r) = nI ((n - 9) / 2) ∨ w2 = 4) → Q (some (.int 0)) (rc_h X R)) : rb_cw (d + 3) 31 [.ref 0, .ref (2 + 44 * r), .ref (rg_o nd r pl), .ref (2 + 44 * r + 43)] (rc_h X R) Q := by
  have hf0 := hf
  obtain ⟨k, p, a, b, u, v, s, t', f1, f2, f3, f4, f5, f6, f7, f8⟩ := hf
  obtain ⟨k1, k2, k3, k4, k5⟩ := rg_kp n hon.1 h9
  have hn := hon.1
  have b0 := hN.1
  have b2 := hN.2.2.1
  have tN := rg_oT H b0.1 b0.2.1
  have tF := (rc_t1 (rc_tR hr)).2.2
  have tN2 := rg_oT H hr2 hN2.1.2.1
  have tG := rc_t2f tN2 (show (h2 + w2) % 4 < 4 by omega)
  have x3 : X (rg_o nd r pl) 3 = nI (10 + (n - 9) / 2) := b2.1.trans k1
  have f5a : A 12 (60 + r) = nI u - 1 := f5.1
  have hu3 := f5.2.2.1.1
  have hiff : (if u = 0 then (0 : Int32) else nI (9 + u)) = nI (10 + (n - 9) / 2) ↔ A 12 (60 + r) = nI ((n - 9) / 2) := by
    rw [f5a]
    by_cases hu : u = 0
    · rw [if_pos hu, hu]
      constructor
      · intro h9
        have := (nI_eq (a := 0) (b := 10 + (n - 9) / 2) (by omega) (by omega)).mp h9
        omega
      · intro h9
        exfalso
        rw [rg_m1] at h9
        have := nI_pos' (n := (n - 9) / 2) (by omega)
        rw [← h9] at this
        exact absurd this (by decide)
    · rw [if_neg hu]
      obtain ⟨u', rfl⟩ : ∃ u', u = u' + 1 := ⟨u - 1, by omega⟩
      rw [nI_pred, nI_eq (by omega) (by omega), nI_eq (by omega) (by omega)]
      omega
  refine rw_ent rfl rfl rfl ?_
  refine rw_step rfl rfl ?_
  refine rc_gv rfl tF rfl f5.2.2.2 ?_
  refine rw_call rfl rfl rfl ?_
  refine rk_firstPort ?_
  rw [rk_fp_ok f5.2.2.1]
  refine rw_step rfl rfl ?_
  refine rc_gv rfl tN rfl x3 ?_
  refine rw_icmp rfl (fun h8 => ?_) (fun h8 => ?_)
  · have h12 := hiff.mp (rw_eq h8)
    refine rw_step rfl rfl ?_
    refine rw_step rfl rfl ?_
    refine rw_step rfl rfl ?_
    refine rc_gv rfl tN rfl x3 ?_
    refine rc_call rfl rfl (by decide) rfl rfl rfl rfl ?_
    refine rg_beyondP H hr hon h9 hr2 hne hon2 ?_
    refine rw_step rfl rfl ?_
    refine rw_step rfl rfl ?_
    refine rw_step rfl rfl ?_
    refine rw_step rfl rfl ?_
    refine rw_step rfl rfl ?_
    refine rc_gv rfl tN rfl x3 ?_
    refine rc_call rfl (rc_tR hr2) (by decide) rfl rfl rfl rfl ?_
    refine rg_addAt H hr2 hon2 hN2 k2 (fun hw => ?_) (fun hw => ?_)
    · have hFN : 2 + 44 * r + 43 ≠ rg_o nd r2 pl2 := rk_tne tF tN2 rfl
      have hap2 := rg_sepR (r := r) (i := 2 + (h2 + w2) % 4) hr hr2 (H.1.1.2 r2 hr2 pl2 hN2.1.2.1).2.1 (by omega)
      have hFG : 2 + 44 * r + 43 ≠ rg_o nd r2 pl2 + 2 + (h2 + w2) % 4 := by unfold rg_o; omega
      have hNG : rg_o nd r2 pl2 ≠ rg_o nd r2 pl2 + 2 + (h2 + w2) % 4 := by omega
      refine rw_step rfl rfl ?_
      refine rw_step rfl rfl ?_
      refine rw_step rfl rfl ?_
      refine rw_step rfl rfl ?_
      refine rw_step rfl rfl ?_
      refine rc_call rfl tG (by decide) rfl rfl rfl rfl ?_
      refine rk_copy tG tF hFG ?_
      refine rw_step rfl rfl ?_
      refine rw_step rfl rfl ?_
      refine rc_gv (v := rr_up X (rg_o nd r2 pl2) 5 (nI (w2 + 1)) (2 + 44 * r + 43) 4) rfl tF rfl (rk_cp_ne hFG) ?_
      refine rw_call rfl rfl rfl ?_
      refine rk_without ?_
      refine rc_p rfl tG rfl rfl ?_
      refine rw_step rfl rfl ?_
      refine rw_ret rfl rfl rfl ?_
      refine hq1 h12 hw _ (rg_enq H hon2 hN2 hw (fun q' j c1 c2 => ?_) ?_ (fun j i c1 => rg_carry_at c1) ?_).1
      · rw [rk_ne c1, rk_cp_ne c1, rr_up_at, if_neg c2]
      · rw [rk_ne hNG, rk_cp_ne hNG, rr_up_same]
      · exact rg_carF (X1 := rr_up X (rg_o nd r2 pl2) 5 (nI (w2 + 1))) hr hf0 hk0 hFG (fun j => rk_ne hFN)
    · repeat refine rw_step rfl rfl ?_
      exact rw_ret rfl rfl rfl (hq0 (Or.inr hw))
  · have h12 : ¬ A 12 (60 + r) = nI ((n - 9) / 2) := fun h7 => rw_eqF h8 (hiff.mpr h7)
    refine rw_step rfl rfl ?_
    exact rw_ret rfl rfl rfl (hq0 (Or.inl h12))
end RHE
