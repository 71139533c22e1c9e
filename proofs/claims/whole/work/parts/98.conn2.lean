/-! a connection's tick whole -/
theorem rr_dloop_stop {c n : Nat} {A : Nat → Nat → Int32} (h : ¬ (A 35 c = 1 ∧ A 46 c = 0)) : ∀ f s w, rr_dloop c n f s w A = A
  | 0, _, _ => rfl
  | f + 1, s, w => by rw [rr_dloop, if_neg (fun h9 => h h9.1.1.1)]
section RHN
variable {nd : Nat → Nat → Nat} {X A : Nat → Nat → Int32} {R : Nat → Nat → Option Nat} {t : Int32} {B : Nat}
theorem rg_conn {c : Nat} (H : rg_Rel nd X R A t B) (hB : B ≤ 900000) (hc : c < 4) : ∃ A' X1 : Nat → Nat → Int32, (¬ A 35 c = 1 → A' = A) ∧ (A 35 c = 1 → ∀ (d : Nat) (Q : Option Value → rb_H → Prop), Q none (rr_h A' t) → rb_cw (d + 3) 67 [.ref 0, .int (nI c)] (rr_h A t) Q) ∧ (∀ (d : Nat) (Q : Option Value → rb_H → Prop), Q none (rc_h X1 R) → rb_cw (d + 1) 102 [.ref (135 + 5 * c)] (rc_h X R) Q) ∧ ∀ (d : Nat) (Q : Option Value → rb_H → Prop), (∀ X', rg_Rel nd X' R A' t B → Q none (rc_h X' R)) → rb_cw (d + 3) 37 [.ref 0, .ref (135 + 5 * c)] (rc_h X1 R) Q := by
  have tL := rc_tL hc
  obtain ⟨g0, g1, g2, g3, g4⟩ := H.2.2.2.2.2 c hc
  by_cases h35 : A 35 c = 1
  · obtain ⟨a, b, p, u, v, f, s, k, st, e, ik, is, ti, tr, hC⟩ := g4 (by rw [h35]; decide)
    obtain ⟨H1, hst, s', ti', tr', C1⟩ := rg_timer hc H hC h35
    have f0 := C1.1
    have f1 := C1.2.1
    have f3 := C1.2.2.2.1
    have f5 := C1.2.2.2.2.2.1
    have ha2 : ¬ A 2 (a - 1) = 0 := (hC.2.2.2.2.2.2.2 h35).2.1
    have k2 : ∀ i, rr_t2 (rr_t1 A c) c 2 i = A 2 i := by
      intro i
      have e1 : ∀ i, rr_t1 A c 2 i = A 2 i := fun i => by unfold rr_t1; rw [rr_up_at, if_neg (by omega)]
      have e3 : ∀ (B0 : Nat → Nat → Int32) i, rr_t3 B0 c 2 i = B0 2 i := fun B0 i => by unfold rr_t3; rw [rr_up_at, if_neg (by omega), rr_up_at, if_neg (by omega), rr_up_at, if_neg (by omega), rr_up_at, if_neg (by omega)]
      unfold rr_t2
      split
      · split
        · rw [rr_up_at, if_neg (by omega), e3, e1]
        · rw [e3, e1]
      · exact e1 i
    have hon2 : ¬ rr_t2 (rr_t1 A c) c 2 (a - 1) = 0 := by rw [k2]; exact ha2
    obtain ⟨r, pl, w, h, q, hN⟩ := H1.2.2.2.1 (a - 1) (by omega) hon2
    have hn1 : rr_t2 (rr_t1 A c) c 36 c = nI (a - 1 + 1) := by rw [show a - 1 + 1 = a by omega]; exact f1.1
    refine ⟨rr_conn A c (a - 1) s' w, rk_rt X (135 + 5 * c), fun h8 => absurd h35 h8, fun _ d Q hq => rr_connect hc (by omega) hn1 f3.2.2.1 f0.2.2.2.2.2.2.2.1 f5.1 f0.2.2.2.2.2.2.2.2.2.1 hN.2.1.2.2.1 hN.1.2.2.1 hq, fun d Q hq => rk_timer tL (g1.trans h35) hq, fun d Q hq => ?_⟩
    unfold rr_conn at hq
    obtain ⟨G0, G1, -, -, -⟩ := H1.2.2.2.2.2 c hc
    generalize rr_t2 (rr_t1 A c) c = A1 at H1 hst C1 hn1 hN hon2 hq f1 f3 f5 G1
    generalize rk_rt X (135 + 5 * c) = X1 at H1 C1 hN G0 G1 f1 f3 f5 ⊢
    have G46 := C1.2.2.2.2.1.1
    refine rw_ent rfl rfl rfl ?_
    refine rw_step rfl rfl ?_
    refine rc_gv rfl tL rfl G1 ?_
    refine rw_step rfl rfl ?_
    refine rw_icmp rfl (fun h8 => ?_) (fun h8 => ?_)
    · have h8 := rw_ne h8
      rw [rr_dloop_stop (fun h7 => h8 h7.1)] at hq
      exact rw_ret rfl rfl rfl (hq X1 H1)
    have h351 : A1 35 c = 1 := rw_neF h8
    refine rw_step rfl rfl ?_
    refine rc_gv rfl tL rfl G46 ?_
    refine rw_if rfl (fun h8 => ?_) (fun h8 => ?_)
    · have h46 : A1 46 c = 0 := rw_eq h8
      refine rw_step rfl rfl ?_
      refine rw_step rfl rfl ?_
      refine rc_gv rfl tL rfl f1.2.1 ?_
      refine rc_call rfl rfl (by decide) rfl rfl rfl rfl ?_
      refine rg_nodeOf H1 (fun r' n' p' w' h' q' hr' hon' had hN' => ?_) (fun hno => ?_)
      · have hn9 : a - 1 < 9 := by omega
        have en : n' = a - 1 := rg_addrS (a - 1) hn9 n' hon'.1 (by rw [had, show a - 1 + 1 = a by omega])
        subst en
        have ew : w' = w := (nI_eq (by have := hN'.1.2.2.1; omega) (by have := hN.1.2.2.1; omega)).mp (hN'.2.1.2.2.1.symm.trans hN.2.1.2.2.1)
        subst ew
        refine rw_step rfl rfl ?_
        refine rw_step rfl rfl ?_
        refine rw_step rfl rfl ?_
        exact rg_dloop hB hc hr' hN'.1.2.1 (3 - s') s' w' X1 A1 _ (by have := f0.2.2.2.2.2.2.2.1; omega) H1 C1 hon' hN' h351 h46 d Q hq
      · obtain ⟨r', h6, h7⟩ := rg_here H1 (show a - 1 < 15 by omega) hon2
        refine absurd ?_ (hno r' (a - 1) h6 h7)
        rw [rr_addrS (by omega), show a - 1 + 1 = a by omega]
    · have h46 : ¬ A1 46 c = 0 := rw_eqF h8
      rw [rr_dloop_stop (fun h7 => h46 h7.2)] at hq
      exact rw_ret rfl rfl rfl (hq X1 H1)
  · refine ⟨A, X, fun _ => rfl, fun h8 => absurd h8 h35, fun d Q hq => rk_timerNo tL (by rw [g1]; exact h35) hq, fun d Q hq => ?_⟩
    refine rw_ent rfl rfl rfl ?_
    refine rw_step rfl rfl ?_
    refine rc_gv rfl tL rfl g1 ?_
    refine rw_step rfl rfl ?_
    refine rw_icmp rfl (fun _ => rw_ret rfl rfl rfl (hq X H)) (fun h8 => absurd (rw_neF h8) h35)
end RHN
