/-! the class: answers and replies; the signal S may still hold z where COPIED is to stand -/
section RHB
variable {d : Nat} {Q : Option Value → rb_H → Prop} {nd : Nat → Nat → Nat} {X A : Nat → Nat → Int32} {R : Nat → Nat → Option Nat} {t : Int32} {B : Nat}
theorem rg_upup {X : Nat → Nat → Int32} {S : Nat} {u z : Int32} (h : X S 7 = z) : rr_up (rr_up X S 7 u) S 7 z = X := by
  funext q j
  simp only [rr_up_at]
  by_cases c : q = S ∧ j = 7
  · rw [if_pos c, c.1, c.2, h]
  · rw [if_neg c, if_neg c]
theorem rg_oT (H : rg_Rel nd X R A t B) {r p : Nat} (hr : r < 3) (hp : p < 5) : rc_ty (rg_o nd r p) = 2 := (rg_npH H hr p hp).2
theorem rg_ans0_at {c : Nat} {k one two : Int32} {j i : Nat} (h : ¬ ((8 ≤ j ∧ j ≤ 20) ∧ i = 63)) : rr_ans0 A c k one two j i = A j i := by
  rw [rr_ans0, rr_up_at, if_neg (by omega), rr_up_at, if_neg (by omega), rr_up_at, if_neg (by omega)]
  exact rg_make_at (by omega)
theorem rg_qAns {S n r pl w h q c kk a b p u v f s k st e ik is ti tr : Nat} {z : Int32} (hS : rc_ty S = 4) (H : rg_Rel nd X R A t B) (hB : B ≤ 900000) (hon : rg_on A r n) (hN : rg_N nd X A n r pl w h q) (hc : c < 4) (hC : rg_C X A c B a b p u v f s k st e ik is ti tr) (hk : 3 ≤ kk) (hk5 : kk ≤ 5) (hq : ∀ X', rg_Rel nd X' R (rr_ans A c (nI kk) n w) t B → Q none (rc_h (rr_up X' S 7 z) R)) : rb_cw (d + 2) 36 [.ref (rg_o nd r pl), .ref (135 + 5 * c), .int (nI (kk + 1))] (rc_h (rr_up X S 7 z) R) Q := by
  have hN0 := hN
  obtain ⟨b0, b1, b2, b3, b4⟩ := hN
  obtain ⟨f0, f1, f2, f3, f4, f5, f6, f7⟩ := hC
  obtain ⟨g0, g1, g2, ⟨O, hO, hO2, hO3⟩, g4⟩ := H.2.2.2.2.2 c hc
  have tN := rg_oT H b0.1 b0.2.1
  have tL := rc_tL hc
  have tG := rc_t2f tN (show (h + w) % 4 < 4 by omega)
  have nS : ∀ j, rr_up X S 7 z (rg_o nd r pl) j = X (rg_o nd r pl) j := fun j => rk_ne (rk_tne tN hS rfl)
  have lS : ∀ j, rr_up X S 7 z (135 + 5 * c) j = X (135 + 5 * c) j := fun j => rk_ne (rk_tne tL hS rfl)
  have hLN : 135 + 5 * c ≠ rg_o nd r pl := rk_tne tL tN rfl
  have hLG : 135 + 5 * c ≠ rg_o nd r pl + 2 + (h + w) % 4 := rk_tne tL tG rfl
  have hNG : rg_o nd r pl ≠ rg_o nd r pl + 2 + (h + w) % 4 := by omega
  have hSG : S ≠ rg_o nd r pl + 2 + (h + w) % 4 := rk_tne hS tG rfl
  have hSN : S ≠ rg_o nd r pl := rk_tne hS tN rfl
  refine rw_ent rfl rfl rfl ?_
  refine rw_step rfl rfl ?_
  refine rc_call rfl tN (by decide) rfl rfl rfl rfl ?_
  by_cases hw : w < 4
  · refine rk_addFrame (i := (h + w) % 4) H.1.1.1 tN ?_ ?_ (by omega) ?_
    · rw [nS, b2.2.2.1]; exact nI_lt (b := 4) hw (by omega)
    · rw [nS, nS, b2.2.1, b2.2.2.1, nI_add, rg_and3]
    have e5 : rr_up X S 7 z (rg_o nd r pl) 5 + 1 = nI (w + 1) := by rw [nS, b2.2.2.1, nI_1]
    rw [e5]
    refine rw_step rfl rfl ?_
    refine rw_step rfl rfl ?_
    refine rw_step rfl rfl ?_
    refine rw_step rfl rfl ?_
    refine rw_step rfl rfl ?_
    refine rw_step rfl rfl ?_
    refine rw_step rfl rfl ?_
    refine rc_gv rfl tL rfl ((rk_ne hLN).trans ((lS 6).trans f1.2.2.2.1)) ?_
    refine rw_step rfl rfl ?_
    refine rc_gv rfl tL rfl ((rk_ne hLN).trans ((lS 5).trans f1.2.1)) ?_
    refine rc_call rfl tG (by decide) rfl rfl rfl rfl ?_
    refine rk_fbegin tG ?_
    refine rw_step rfl rfl ?_
    refine rw_step rfl rfl ?_
    refine rc_gv rfl tL rfl ((rg_bg_ne hLG).trans ((rk_ne hLN).trans ((lS 8).trans f2.2.2))) ?_
    refine rw_call rfl rfl rfl ?_
    refine rk_backwards ?_
    refine rc_p rfl tG rfl rfl ?_
    refine rw_step rfl rfl ?_
    refine rw_step rfl rfl ?_
    refine rw_step rfl rfl ?_
    refine rc_gv rfl tL rfl ((rk_ne hLG).trans ((rg_bg_ne hLG).trans ((rk_ne hLN).trans ((lS 13).trans f3.2.2.2.2.2.2.2.2.2)))) ?_
    refine rw_step rfl rfl ?_
    refine rw_step rfl rfl ?_
    refine rc_call rfl tG (by decide) rfl rfl rfl rfl ?_
    refine rk_belong tG tL ?_
    have e0 : rr_up (rk_bgX (rr_up (rr_up X S 7 z) (rg_o nd r pl) 5 (nI (w + 1))) (rg_o nd r pl + 2 + (h + w) % 4) (nI (kk + 1)) 2 (nI b) (nI a)) (rg_o nd r pl + 2 + (h + w) % 4) 4 (rk_bk (nI (u + 4 * v))) (135 + 5 * c) 0 = nI c := (rk_ne hLG).trans ((rg_bg_ne hLG).trans ((rk_ne hLN).trans ((lS 0).trans g0.1)))
    have e4 : rr_up (rk_bgX (rr_up (rr_up X S 7 z) (rg_o nd r pl) 5 (nI (w + 1))) (rg_o nd r pl + 2 + (h + w) % 4) (nI (kk + 1)) 2 (nI b) (nI a)) (rg_o nd r pl + 2 + (h + w) % 4) 4 (rk_bk (nI (u + 4 * v))) (135 + 5 * c) 4 = nI O := (rk_ne hLG).trans ((rg_bg_ne hLG).trans ((rk_ne hLN).trans ((lS 4).trans hO3)))
    rw [e0, e4]
    refine rw_ret rfl rfl rfl ?_
    have hz : rr_up (rr_up (rr_up (rr_up (rk_bgX (rr_up (rr_up X S 7 z) (rg_o nd r pl) 5 (nI (w + 1))) (rg_o nd r pl + 2 + (h + w) % 4) (nI (kk + 1)) 2 (nI b) (nI a)) (rg_o nd r pl + 2 + (h + w) % 4) 4 (rk_bk (nI (u + 4 * v)))) (rg_o nd r pl + 2 + (h + w) % 4) 7 (nI c)) (rg_o nd r pl + 2 + (h + w) % 4) 8 (nI O)) (rg_o nd r pl + 2 + (h + w) % 4) 9 (nI e &&& 7) S 7 = z := by
      rw [rk_ne hSG, rk_ne hSG, rk_ne hSG, rk_ne hSG, rg_bg_ne hSG, rk_ne hSN, rr_up_same]
    have key := hq (rr_up _ S 7 (X S 7)) (rg_enq (X' := rr_up (rr_up (rr_up (rr_up (rr_up (rk_bgX (rr_up (rr_up X S 7 z) (rg_o nd r pl) 5 (nI (w + 1))) (rg_o nd r pl + 2 + (h + w) % 4) (nI (kk + 1)) 2 (nI b) (nI a)) (rg_o nd r pl + 2 + (h + w) % 4) 4 (rk_bk (nI (u + 4 * v)))) (rg_o nd r pl + 2 + (h + w) % 4) 7 (nI c)) (rg_o nd r pl + 2 + (h + w) % 4) 8 (nI O)) (rg_o nd r pl + 2 + (h + w) % 4) 9 (nI e &&& 7)) S 7 (X S 7)) H hon hN0 hw (fun q' j h1 h2 => ?_) ?_ (fun j i h1 => rg_ans0_at h1) ?_).1
    · rw [rg_upup hz] at key
      exact key
    · rw [rr_up_at]
      by_cases e9 : q' = S ∧ j = 7
      · rw [if_pos e9, e9.1, e9.2]
      · rw [if_neg e9, rk_ne h1, rk_ne h1, rk_ne h1, rk_ne h1, rg_bg_ne h1, rr_up_at, if_neg h2, rr_up_at, if_neg e9]
    · rw [rk_ne (Ne.symm hSN), rk_ne hNG, rk_ne hNG, rk_ne hNG, rk_ne hNG, rg_bg_ne hNG, rr_up_same]
    · refine rg_F_congr (rg_ansF (G := rg_o nd r pl + 2 + (h + w) % 4) (X1 := rr_up (rr_up X S 7 z) (rg_o nd r pl) 5 (nI (w + 1))) hc hk hk5 f0.1 f0.2.1 f0.2.2.1 f0.2.2.2.1 f0.2.2.2.2.2.1 (by omega) f1.1 f1.2.2.1 f2.1 f2.2.1 hO2 (by omega) f3.2.2.2.2.2.2.2.2.1 hO2) (fun j _ => ?_) (fun _ _ _ => rfl) (fun _ _ => rfl) (fun _ _ => rfl)
      rw [rk_ne (Ne.symm hSG)]
  · have e4 : w = 4 := by omega
    subst e4
    refine rk_addNull tN ?_ ?_
    · rw [nS, b2.2.2.1]; decide
    repeat refine rw_step rfl rfl ?_
    refine rw_ret rfl rfl rfl ?_
    exact hq X (rg_drop H (fun j i h1 => rg_ans0_at h1))
end RHB
