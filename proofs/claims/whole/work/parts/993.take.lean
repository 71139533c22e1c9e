/-! take, on both sides -/
section RHQ
variable {nd : Nat → Nat → Nat} {X A : Nat → Nat → Int32} {R : Nat → Nat → Option Nat} {t : Int32} {B : Nat}
theorem rg_takeP {x : Int32} (H : rg_Rel nd X R A t B) (hB : B ≤ 900000) : rg_pub nd X R A t B 11 81 [.int x] := by
  by_cases hok : ((0 ≤ x ∧ x ≤ 3) ∧ ¬ A 35 x.toNatClampNeg = 0) ∧ ¬ A 50 x.toNatClampNeg = 0
  · obtain ⟨⟨hx, h35⟩, h50⟩ := hok
    obtain ⟨c, hc, rfl⟩ := rr_link4 hx
    rw [rr_u4 hc] at h35 h50
    obtain ⟨g0, g1, g2, g3, g4⟩ := H.2.2.2.2.2 c hc
    obtain ⟨a, b, p, u, v, f, s, k, st, e, ik, is, ti, tr, hC⟩ := g4 h35
    have f6 := hC.2.2.2.2.2.2.1
    have f0 := hC.1
    have hik : 0 < ik := by
      rcases Nat.eq_zero_or_pos ik with h8 | h8
      · exact absurd (f6.1.trans (by rw [h8]; rfl)) h50
      · exact h8
    obtain ⟨m, rfl⟩ : ∃ m, ik = m + 1 := ⟨ik - 1, by omega⟩
    have h12 : A 35 c = 1 ∨ A 35 c = 2 := g2.elim (fun h8 => absurd h8 h35) (fun h8 => h8)
    obtain ⟨H1, C1⟩ := rg_takeC hc H hC h12
    have tL := rc_tL hc
    have tI := (rc_t5 tL).2.2.1
    have hA : ∀ j i, ¬ j = 50 → ¬ j = 51 → rr_takeG A c m j i = A j i := by
      intro j i q1 q2
      unfold rr_takeG
      rw [rg_gap_at, if_neg (fun h8 => q2 h8.1), rr_up_at, if_neg (fun h8 => q1 h8.1)]
    have x2 : (X (135 + 5 * c + 3) 2 + 0) &&& X (135 + 5 * c + 3) 1 = nI is := by
      rw [Int32.add_zero, f6.2.2.1, g0.2.2, rg_and3, show is % 4 = is by omega]
    have d2 : (X (135 + 5 * c + 3) 2 + 1) &&& X (135 + 5 * c + 3) 1 = nI ((is + 1) % 4) := by
      rw [f6.2.2.1, g0.2.2, nI_1, rg_and3]
    have d3 : X (135 + 5 * c + 3) 3 - 1 = nI m := by rw [f6.2.1, nI_pred]
    have val : X (135 + 5 * c + 3 + 1) is = A 51 (4 * c) := by
      have := f6.2.2.2 0 (by omega)
      rw [show (is + 0) % 4 = is by omega, Nat.add_zero] at this
      exact this
    -- the class, up to the answer
    have head : ∀ Q : Option Value → rb_H → Prop, rb_wp 7 11 46 [.ref 0, .int (nI c), .ref (135 + 5 * c), .int (A 51 (4 * c)), .retAddr 0] [] (rc_h (rr_up (rr_up X (135 + 5 * c + 3) 2 (nI ((is + 1) % 4))) (135 + 5 * c + 3) 3 (nI m)) R) Q → rb_cw 8 11 [.ref 0, .int (nI c)] (rc_h X R) Q := by
      intro Q kk
      refine rw_ent rfl rfl rfl ?_
      refine rw_step rfl rfl ?_
      refine rw_step rfl rfl ?_
      refine rc_call rfl rfl (by decide) rfl rfl rfl rfl ?_
      refine rk_link H.1.1.1 hc ?_
      refine rw_step rfl rfl ?_
      refine rw_step rfl rfl ?_
      refine rw_step rfl rfl ?_
      refine rw_step rfl rfl ?_
      refine rc_gv rfl tL rfl g1 ?_
      refine rw_if rfl (fun h8 => absurd (rw_eq h8) h35) (fun _ => ?_)
      refine rw_step rfl rfl ?_
      refine rc_gr rfl tL rfl ?_
      refine rc_gv rfl tI rfl f6.2.1 ?_
      refine rw_if rfl (fun _ => ?_) (fun h8 => absurd (rw_neF h8) (nI_ne0 (by omega) (by omega)))
      refine rw_step rfl rfl ?_
      refine rc_gr rfl tL rfl ?_
      refine rw_step rfl rfl ?_
      refine rc_call rfl tI (by decide) rfl rfl rfl rfl ?_
      refine rk_bget (n := 4) (i := is) tI (rc_t5 tL).2.2.2 rfl (by decide) ?_ x2 (by omega) ?_
      · rw [f6.2.1]; exact nI_lt (a := 0) (by omega) (by omega)
      rw [val]
      refine rw_step rfl rfl ?_
      refine rw_step rfl rfl ?_
      refine rc_gr rfl tL rfl ?_
      refine rw_step rfl rfl ?_
      refine rc_call rfl tI (by decide) rfl rfl rfl rfl ?_
      refine rk_bdrop tI (by decide) ?_ ?_
      · rw [f6.2.1]; exact nI_le (a := 1) (by omega) (by omega)
      rw [d2, d3]
      exact kk
    have e35 : rr_takeG A c m 35 c = A 35 c := hA 35 c (by omega) (by omega)
    have e53 : rr_takeG A c m 53 c = A 53 c := hA 53 c (by omega) (by omega)
    have y3 : rr_up (rr_up X (135 + 5 * c + 3) 2 (nI ((is + 1) % 4))) (135 + 5 * c + 3) 3 (nI m) (135 + 5 * c) 3 = A 35 c := (rk_ne (by omega)).trans ((rk_ne (by omega)).trans g1)
    have f4' := C1.2.2.2.2.1
    have fin : ∀ (Q : Option Value → rb_H → Prop) (X' : Nat → Nat → Int32) (l : Value), Q (some (.int (A 51 (4 * c)))) (rc_h X' R) → rb_wp 7 11 96 [.ref 0, .int (nI c), .ref (135 + 5 * c), .int (A 51 (4 * c)), l] [] (rc_h X' R) Q := by
      intro Q X' l hq
      refine rw_step rfl rfl ?_
      exact rw_ret rfl rfl rfl hq
    by_cases h1 : A 35 c = 1
    · have f7 := hC.2.2.2.2.2.2.2 h1
      have f1' := C1.2.1
      have hb2 : ¬ rr_takeG A c m 2 (b - 1) = 0 := by rw [hA _ _ (by omega) (by omega)]; exact f7.2.2
      obtain ⟨r, pl, w, h, q, hN⟩ := H1.2.2.2.1 (b - 1) (by omega) hb2
      have hon : rg_on (rr_takeG A c m) r (b - 1) := ⟨by omega, hb2, hN.2.1.1⟩
      have e37 : rr_takeG A c m 37 c = nI (b - 1 + 1) := by rw [show b - 1 + 1 = b by omega]; exact f1'.2.2.1
      refine rg_pub_of (B' := B) (by omega) (fun Q hq => ?_) (fun Q hq => rr_takeYes (d := 4) (n := b - 1) (w := w) hc h35 f6.1 (by omega) (fun _ => ⟨by omega, e37⟩) (fun _ => hN.2.1.2.2.1) hN.1.2.2.1 hq)
      refine head Q ?_
      refine rw_step rfl rfl ?_
      refine rc_gv rfl tL rfl y3 ?_
      refine rw_step rfl rfl ?_
      refine rw_icmp rfl (fun h8 => absurd h1 (rw_ne h8)) (fun _ => ?_)
      refine rw_step rfl rfl ?_
      refine rc_gv rfl tL rfl (f4'.2.2.2.2.1.trans e53) ?_
      refine rw_if rfl (fun h8 => ?_) (fun h8 => ?_)
      · have h53 := rw_eq h8
        rw [rr_takeE, if_neg (fun h7 => h7.1.2 (e53.trans h53))] at hq
        exact fin Q _ _ (hq _ H1)
      have h53 := rw_eqF h8
      refine rw_step rfl rfl ?_
      refine rw_step rfl rfl ?_
      refine rc_gv rfl tL rfl f1'.2.2.2.1 ?_
      refine rc_call rfl rfl (by decide) rfl rfl rfl rfl ?_
      refine rg_nodeOf (d := 5) H1 (fun r' n' p' w' h' q' hr' hon' had hN' => ?_) (fun hno => ?_)
      · have en : n' = b - 1 := rg_addrS (b - 1) (by omega) n' hon'.1 (by rw [had, show b - 1 + 1 = b by omega])
        subst en
        have ew : w' = w := (nI_eq (by have := hN'.1.2.2.1; omega) (by have := hN.1.2.2.1; omega)).mp (hN'.2.1.2.2.1.symm.trans hN.2.1.2.2.1)
        subst ew
        have tN := rg_oT H1 hr' hN'.1.2.1
        refine rw_step rfl rfl ?_
        refine rw_step rfl rfl ?_
        refine rw_step rfl rfl ?_
        refine rw_step rfl rfl ?_
        refine rc_call rfl tN (by decide) rfl rfl rfl rfl ?_
        refine rk_nfull tN ?_
        rw [hN'.2.2.1.2.2.1]
        by_cases hw : w' < 4
        · rw [if_pos (show nI w' < 4 from nI_lt (b := 4) hw (by omega))]
          rw [rr_takeE, if_pos ⟨⟨e35.trans h1, fun h7 => h53 (e53.symm.trans h7)⟩, hw⟩] at hq
          refine rw_step rfl rfl ?_
          refine rw_step rfl rfl ?_
          refine rw_step rfl rfl ?_
          refine rc_p rfl tL rfl rfl ?_
          obtain ⟨H2, C2⟩ := rg_mark (z := 0) (Or.inr (Or.inr ⟨rfl, rfl⟩)) (Or.inl rfl) hc H1 C1 (Or.inl (e35.trans h1))
          refine rw_step rfl rfl ?_
          refine rw_step rfl rfl ?_
          refine rw_step rfl rfl ?_
          refine rw_call rfl rfl rfl ?_
          have hS : rc_ty 44 = 4 := by decide
          have N2 := rg_N_keep (X' := rr_up (rr_up (rr_up X (135 + 5 * c + 3) 2 (nI ((is + 1) % 4))) (135 + 5 * c + 3) 3 (nI m)) (135 + 5 * c) 16 0) (A' := rr_up (rr_takeG A c m) 53 c 0) H1 hN' (fun q' j h7 => rk_ne (by omega)) (fun j i h7 => by rw [rr_up_at, if_neg (by omega)]) (fun c' _ => by rw [rr_up_at, if_neg (by omega)]) (fun c' _ => by rw [rr_up_at, if_neg (by omega)])
          have on2 : rg_on (rr_up (rr_takeG A c m) 53 c 0) r' (b - 1) := by
            unfold rg_on
            rw [rr_up_at, if_neg (by omega), rr_up_at, if_neg (by omega)]
            exact hon'
          rw [← rg_up_id (X := rr_up (rr_up (rr_up X (135 + 5 * c + 3) 2 (nI ((is + 1) % 4))) (135 + 5 * c + 3) 3 (nI m)) (135 + 5 * c) 16 0) (p := 44) (j := 7) rfl]
          refine rg_qAns (kk := 3) (d := 5) hS H2 hB on2 N2 hc C2 (by omega) (by omega) (fun X' H' => ?_)
          obtain ⟨m1, a1, y1, k1, p1, v1, R1⟩ := H'.2.2.1 0 (by omega)
          have R2 := H2.2.2.1 0 (by omega)
          obtain ⟨m2, a2, y2, k2, p2, v2, R2⟩ := R2
          have e28 : X' 44 7 = rr_up (rr_up (rr_up X (135 + 5 * c + 3) 2 (nI ((is + 1) % 4))) (135 + 5 * c + 3) 3 (nI m)) (135 + 5 * c) 16 0 44 7 := by
            have q1 : X' 44 7 = rr_ans (rr_up (rr_takeG A c m) 53 c 0) c (nI 3) (b - 1) w' 28 0 := R1.2.2.2.2.2.1.2.2
            have q2 : rr_up (rr_up (rr_up X (135 + 5 * c + 3) 2 (nI ((is + 1) % 4))) (135 + 5 * c + 3) 3 (nI m)) (135 + 5 * c) 16 0 44 7 = rr_up (rr_takeG A c m) 53 c 0 28 0 := R2.2.2.2.2.2.1.2.2
            rw [q1, q2, rg_ansK (Or.inr rfl) (by omega)]
          rw [rg_up_id e28]
          exact fin Q X' _ (hq X' H')
        · rw [if_neg (show ¬ nI w' < 4 from nI_nlt (b := 4) (by omega) (by have := hN'.1.2.2.1; omega))]
          rw [rr_takeE, if_neg (fun h7 => hw h7.2)] at hq
          refine rw_step rfl rfl ?_
          exact fin Q _ _ (hq _ H1)
      · refine absurd ?_ (hno r (b - 1) hN.1.1 hon)
        rw [rr_addrS (by omega), show b - 1 + 1 = b by omega]
    · refine rg_pub_of (B' := B) (by omega) (fun Q hq => ?_) (fun Q hq => rr_takeYes (d := 4) (n := 0) (w := 0) hc h35 f6.1 (by omega) (fun h8 => absurd (e35.symm.trans h8) h1) (fun h8 => absurd (e35.symm.trans h8) h1) (by omega) hq)
      rw [rr_takeE, if_neg (fun h7 => h1 (e35.symm.trans h7.1.1))] at hq
      refine head Q ?_
      refine rw_step rfl rfl ?_
      refine rc_gv rfl tL rfl y3 ?_
      refine rw_step rfl rfl ?_
      refine rw_icmp rfl (fun _ => fin Q _ _ (hq _ H1)) (fun h8 => absurd (rw_neF h8) h1)
  · refine rg_pub_of (B' := B) (a := -1) (by omega) (fun Q hq => ?_) (fun Q hq => rr_takeNo (d := 4) hok hq)
    have no : ∀ ls : List Value, rb_wp 7 11 27 ls [] (rc_h X R) Q := by
      intro ls
      refine rw_step rfl rfl ?_
      exact rw_ret rfl rfl rfl (hq X H)
    refine rw_ent rfl rfl rfl ?_
    refine rw_step rfl rfl ?_
    refine rw_step rfl rfl ?_
    refine rc_call rfl rfl (by decide) rfl rfl rfl rfl ?_
    by_cases hx : 0 ≤ x ∧ x ≤ 3
    · obtain ⟨c, hc, rfl⟩ := rr_link4 hx
      obtain ⟨g0, g1, g2, g3, g4⟩ := H.2.2.2.2.2 c hc
      have tL := rc_tL hc
      have tI := (rc_t5 tL).2.2.1
      rw [rr_u4 hc] at hok
      refine rk_link H.1.1.1 hc ?_
      refine rw_step rfl rfl ?_
      refine rw_step rfl rfl ?_
      refine rw_step rfl rfl ?_
      refine rw_step rfl rfl ?_
      refine rc_gv rfl tL rfl g1 ?_
      refine rw_if rfl (fun _ => no _) (fun h8 => ?_)
      have h35 := rw_eqF h8
      obtain ⟨a, b, p, u, v, f, s, k, st, e, ik, is, ti, tr, hC⟩ := g4 h35
      have f6 := hC.2.2.2.2.2.2.1
      refine rw_step rfl rfl ?_
      refine rc_gr rfl tL rfl ?_
      refine rc_gv rfl tI rfl (f6.2.1.trans f6.1.symm) ?_
      refine rw_if rfl (fun h7 => absurd ⟨⟨hx, h35⟩, rw_ne h7⟩ hok) (fun _ => no _)
    · refine rk_linkNo hx ?_
      refine rw_step rfl rfl ?_
      refine rw_step rfl rfl ?_
      refine rw_step rfl rfl ?_
      exact no _
end RHQ
