/-! damage, offer, explore, on both sides -/
/-- both sides answer alike -/
def rg_pub (nd : Nat → Nat → Nat) (X : Nat → Nat → Int32) (R : Nat → Nat → Option Nat) (A : Nat → Nat → Int32) (t : Int32) (B k1 k2 : Nat) (as : List Value) : Prop := ∃ (a : Int32) (nd' : Nat → Nat → Nat) (X' : Nat → Nat → Int32) (R' : Nat → Nat → Option Nat) (A' : Nat → Nat → Int32) (t' : Int32), rg_Rel nd' X' R' A' t' (B + 600) ∧ (∀ Q : Option Value → rb_H → Prop, Q (some (.int a)) (rc_h X' R') → rb_cw 8 k1 (.ref 0 :: as) (rc_h X R) Q) ∧ ∀ Q : Option Value → rb_H → Prop, Q (some (.int a)) (rr_h A' t') → rb_cw 8 k2 (.ref 0 :: as) (rr_h A t) Q
section RHP
variable {nd : Nat → Nat → Nat} {X A : Nat → Nat → Int32} {R : Nat → Nat → Option Nat} {t : Int32} {B : Nat}
/-- from a contract of the class and the reference's -/
theorem rg_pub_of {k1 k2 : Nat} {as : List Value} {a : Int32} {A' : Nat → Nat → Int32} {B' : Nat} (hB' : B' ≤ B + 600) (hc : ∀ Q : Option Value → rb_H → Prop, (∀ X', rg_Rel nd X' R A' t B' → Q (some (.int a)) (rc_h X' R)) → rb_cw 8 k1 (.ref 0 :: as) (rc_h X R) Q) (hr : ∀ Q : Option Value → rb_H → Prop, Q (some (.int a)) (rr_h A' t) → rb_cw 8 k2 (.ref 0 :: as) (rr_h A t) Q) : rg_pub nd X R A t B k1 k2 as := by
  obtain ⟨r, h', hrel, hr', X', hh, hP⟩ := hc (fun v h => v = some (.int a) ∧ ∃ X', h = rc_h X' R ∧ rg_Rel nd X' R A' t B') (fun X' hP => ⟨rfl, X', rfl, hP⟩)
  subst hr' hh
  exact ⟨a, nd, X', R, A', t, rg_monoB hB' hP, fun Q hq => ⟨_, _, hrel, hq⟩, hr⟩
theorem rg_damM {d : Nat} {Q : Option Value → rb_H → Prop} {x : Int32} (H : rg_Rel nd X R A t B) (hq : ∀ X', rg_Rel nd X' R (rr_damA A x).2 t B → Q (some (.int (rr_damA A x).1)) (rc_h X' R)) : rb_cw (d + 2) 4 [.ref 0, .int x] (rc_h X R) Q := by
  refine rw_ent rfl rfl rfl ?_
  refine rw_step rfl rfl ?_
  refine rw_step rfl rfl ?_
  refine rc_call rfl rfl (by decide) rfl rfl rfl rfl ?_
  by_cases hx : 0 ≤ x ∧ x ≤ 2
  · obtain ⟨r, hr, rfl⟩ := rr_ring3 hx
    have tR := rc_tR hr
    have tS := (rc_t1 tR).2.1
    obtain ⟨m, a, y, k, p, v, h9⟩ := H.2.2.1 r hr
    obtain ⟨e1, e2, e3, e4⟩ := rg_R_E h9
    rw [rr_damA, rr_u3 hr] at hq
    refine rk_ring H.1.1.1 hr ?_
    refine rw_step rfl rfl ?_
    refine rw_step rfl rfl ?_
    refine rw_step rfl rfl ?_
    refine rw_step rfl rfl ?_
    refine rc_gr rfl tR rfl ?_
    refine rc_gv rfl tS rfl e3.1 ?_
    refine rw_if rfl (fun h8 => ?_) (fun h8 => ?_)
    · rw [if_pos ⟨hx, rw_ne h8⟩] at hq
      dsimp only at hq
      refine rw_step rfl rfl ?_
      refine rc_gr rfl tR rfl ?_
      refine rc_gv rfl tS rfl e3.1 ?_
      refine rw_step rfl rfl ?_
      refine rw_icmp rfl (fun h7 => ?_) (fun h7 => ?_)
      · rw [if_neg (rw_ne h7)] at hq
        refine rw_step rfl rfl ?_
        refine rc_call rfl tR (by decide) rfl rfl rfl rfl ?_
        refine rk_silent tR ?_
        refine rw_step rfl rfl ?_
        exact rw_ret rfl rfl rfl (hq _ (rg_silent hr H h9))
      · rw [if_pos (rw_neF h7)] at hq
        refine rw_step rfl rfl ?_
        refine rc_gr rfl tR rfl ?_
        refine rw_step rfl rfl ?_
        refine rc_p rfl tS rfl rfl ?_
        refine rw_step rfl rfl ?_
        refine rw_step rfl rfl ?_
        exact rw_ret rfl rfl rfl (hq _ (rg_bad hr H h9).1)
    · rw [if_neg (fun h7 => h7.2 (rw_neF h8))] at hq
      refine rw_step rfl rfl ?_
      exact rw_ret rfl rfl rfl (hq X H)
  · rw [rr_damA, if_neg (fun h8 => hx h8.1)] at hq
    refine rk_ringNo hx ?_
    repeat refine rw_step rfl rfl ?_
    exact rw_ret rfl rfl rfl (hq X H)
theorem rg_offerP {x z : Int32} (H : rg_Rel nd X R A t B) : rg_pub nd X R A t B 10 80 [.int x, .int z] := by
  by_cases hok : rr_offC A x z
  · obtain ⟨⟨⟨hx, h1⟩, h2, h3⟩, h8⟩ := hok
    obtain ⟨c, hc, rfl⟩ := rr_link4 hx
    rw [rr_u4 hc] at h1 h8
    obtain ⟨g0, g1, g2, g3, g4⟩ := H.2.2.2.2.2 c hc
    obtain ⟨a, b, p, u, v, f, s, k, st, e, ik, is, ti, tr, hC⟩ := g4 (by rw [h1]; decide)
    have f5 := hC.2.2.2.2.2.1
    have f0 := hC.1
    have hk : k < 8 := by
      have : ¬ k = 8 := fun h7 => h8 (f5.1.trans (by rw [h7]; rfl))
      omega
    have tL := rc_tL hc
    have tO := (rc_t5 tL).1
    refine rg_pub_of (B' := B) (by omega) (fun Q hq => ?_) (fun Q hq => rr_offYes (d := 6) hc f5.1 hk h1 h2 h3 hq)
    refine rw_ent rfl rfl rfl ?_
    refine rw_step rfl rfl ?_
    refine rw_step rfl rfl ?_
    refine rc_call rfl rfl (by decide) rfl rfl rfl rfl ?_
    refine rk_link H.1.1.1 hc ?_
    refine rw_step rfl rfl ?_
    refine rw_step rfl rfl ?_
    refine rw_step rfl rfl ?_
    refine rw_step rfl rfl ?_
    refine rc_gv rfl tL rfl g1 ?_
    refine rw_step rfl rfl ?_
    refine rw_icmp rfl (fun h7 => absurd h1 (rw_ne h7)) (fun _ => ?_)
    refine rw_step rfl rfl ?_
    refine rw_if rfl (fun h7 => absurd (of_decide_eq_true h7) (Int32.not_lt.mpr h2)) (fun _ => ?_)
    refine rw_step rfl rfl ?_
    refine rw_step rfl rfl ?_
    refine rw_icmp rfl (fun h7 => absurd (of_decide_eq_true h7) (Int32.not_lt.mpr h3)) (fun _ => ?_)
    refine rw_step rfl rfl ?_
    refine rc_gr rfl tL rfl ?_
    refine rc_call rfl tO (by decide) rfl rfl rfl rfl ?_
    refine rk_bfull (n := 8) tO (rc_t5 tL).2.1 rfl (by omega) ?_
    rw [f5.2.1, if_pos (nI_lt hk (by omega))]
    refine rw_step rfl rfl ?_
    refine rw_step rfl rfl ?_
    refine rc_gr rfl tL rfl ?_
    refine rw_step rfl rfl ?_
    refine rc_call rfl tO (by decide) rfl rfl rfl rfl ?_
    refine rk_badd (n := 8) (i := (st + k) % 8) tO (rc_t5 tL).2.1 rfl ?_ ?_ (by omega) ?_
    · rw [f5.2.1]; exact nI_lt hk (by omega)
    · rw [f5.2.1, f5.2.2.1, g0.2.1, nI_add, rg_and7]
    rw [f5.2.1]
    refine rw_step rfl rfl ?_
    exact rw_ret rfl rfl rfl (hq _ (rg_offC hc H hC h1 hk))
  · refine rg_pub_of (B' := B) (a := 0) (by omega) (fun Q hq => ?_) (fun Q hq => rr_offNo (d := 6) hok hq)
    have no : ∀ ls : List Value, rb_wp 7 10 39 ls [] (rc_h X R) Q := by
      intro ls
      refine rw_step rfl rfl ?_
      exact rw_ret rfl rfl rfl (hq X H)
    refine rw_ent rfl rfl rfl ?_
    refine rw_step rfl rfl ?_
    refine rw_step rfl rfl ?_
    refine rc_call rfl rfl (by decide) rfl rfl rfl rfl ?_
    by_cases hx : 0 ≤ x ∧ x ≤ 3
    · obtain ⟨c, hc, rfl⟩ := rr_link4 hx
      obtain ⟨g0, g1, g2, g3, g4⟩ := H.2.2.2.2.2 c hc
      have tL := rc_tL hc
      have tO := (rc_t5 tL).1
      refine rk_link H.1.1.1 hc ?_
      refine rw_step rfl rfl ?_
      refine rw_step rfl rfl ?_
      refine rw_step rfl rfl ?_
      refine rw_step rfl rfl ?_
      refine rc_gv rfl tL rfl g1 ?_
      refine rw_step rfl rfl ?_
      refine rw_icmp rfl (fun _ => no _) (fun h7 => ?_)
      have h1 : A 35 c = 1 := rw_neF h7
      refine rw_step rfl rfl ?_
      refine rw_if rfl (fun _ => no _) (fun h7 => ?_)
      have h2 : 0 ≤ z := Int32.not_lt.mp (of_decide_eq_false h7)
      refine rw_step rfl rfl ?_
      refine rw_step rfl rfl ?_
      refine rw_icmp rfl (fun _ => no _) (fun h7 => ?_)
      have h3 : z ≤ 255 := Int32.not_lt.mp (of_decide_eq_false h7)
      have h44 : A 44 c = 8 := by
        refine Classical.byContradiction (fun h6 => hok ⟨⟨⟨hx, ?_⟩, h2, h3⟩, ?_⟩)
        · rw [rr_u4 hc]; exact h1
        · rw [rr_u4 hc]; exact h6
      obtain ⟨a, b, p, u, v, f, s, k, st, e, ik, is, ti, tr, hC⟩ := g4 (by rw [h1]; decide)
      have f5 := hC.2.2.2.2.2.1
      have f0 := hC.1
      have hk : k = 8 := (nI_eq (a := k) (b := 8) (by omega) (by omega)).mp (f5.1.symm.trans h44)
      refine rw_step rfl rfl ?_
      refine rc_gr rfl tL rfl ?_
      refine rc_call rfl tO (by decide) rfl rfl rfl rfl ?_
      refine rk_bfull (n := 8) tO (rc_t5 tL).2.1 rfl (by omega) ?_
      rw [f5.2.1, if_neg (by rw [hk]; exact nI_nlt (Nat.le_refl _) (by omega))]
      refine rw_step rfl rfl ?_
      exact no _
    · refine rk_linkNo hx ?_
      refine rw_step rfl rfl ?_
      refine rw_step rfl rfl ?_
      refine rw_step rfl rfl ?_
      exact no _
theorem rg_exploreP {x z : Int32} (H : rg_Rel nd X R A t B) : rg_pub nd X R A t B 5 74 [.int x, .int z] := by
  by_cases hok : ((rr_isSt A x = 1 ∧ (1 ≤ z ∧ z ≤ 9)) ∧ ¬ x = z) ∧ ¬ A 4 (x - 1).toNatClampNeg = 4
  · obtain ⟨⟨⟨h1, h2⟩, h3⟩, h4⟩ := hok
    have hst : (1 ≤ x ∧ x ≤ 9) ∧ ¬ A 2 (x - 1).toNatClampNeg = 0 := by
      refine Classical.byContradiction (fun h8 => ?_)
      rw [rr_isSt, if_neg h8] at h1
      exact absurd h1 (by decide)
    obtain ⟨n, hn, rfl⟩ := rr_addr9 hst.1
    obtain ⟨y, hy, rfl⟩ := rr_addr9 h2
    have e1 : (nI (n + 1) - 1).toNatClampNeg = n := by rw [nI_pred]; exact nI_clamp (by omega)
    rw [e1] at hst h4
    obtain ⟨r, hr, hon⟩ := rg_here H (by omega) hst.2
    obtain ⟨m, hm5, hm, hX⟩ := rg_size H hr
    obtain ⟨pl, w, h, q, hpl, hN⟩ := rg_stand H hr hon hm hm5
    have b0 := hN.1
    have b1 := hN.2.1
    have hw : w < 4 := by
      have : ¬ w = 4 := fun h8 => h4 (b1.2.2.1.trans (by rw [h8]; rfl))
      have := b0.2.2.1
      omega
    have tR := rc_tR hr
    have tN := rg_oT H hr b0.2.1
    have tG := rc_t2f tN (show (h + w) % 4 < 4 by omega)
    obtain ⟨m', a', y', k', p', v', h9⟩ := H.2.2.1 r hr
    refine rg_pub_of (B' := B) (by omega) (fun Q hq => ?_) (fun Q hq => rr_expYes (d := 5) hn hst.2 h2 h3 b1.2.2.1 hw hq)
    refine rw_ent rfl rfl rfl ?_
    refine rw_step rfl rfl ?_
    refine rw_call rfl rfl rfl ?_
    refine rk_isSt ?_
    rw [if_pos hst.1]
    refine rw_step rfl rfl ?_
    refine rw_step rfl rfl ?_
    refine rw_call rfl rfl rfl ?_
    refine rk_isSt ?_
    rw [if_pos h2]
    refine rw_step rfl rfl ?_
    refine rw_step rfl rfl ?_
    refine rw_step rfl rfl ?_
    refine rw_icmp rfl (fun _ => ?_) (fun h8 => absurd (rw_neF h8) h3)
    refine rw_step rfl rfl ?_
    refine rw_step rfl rfl ?_
    refine rc_call rfl rfl (by decide) rfl rfl rfl rfl ?_
    refine rg_holding (d := 5) H (fun r' n' hr' hon' had => ?_) (fun hno => absurd (rr_addrS hn) (hno r n hr hon))
    have en := rg_addrS n hn n' hon'.1 had
    subst en
    have er : r' = r := (nI_eq (by omega) (by omega)).mp (hon'.2.2.symm.trans hon.2.2)
    subst er
    refine rw_step rfl rfl ?_
    refine rw_step rfl rfl ?_
    refine rw_step rfl rfl ?_
    refine rw_step rfl rfl ?_
    refine rw_step rfl rfl ?_
    refine rc_call rfl tR (by decide) rfl rfl rfl rfl ?_
    refine rg_addAt (d := 5) H hr hon hN (rr_addrS hn) (fun _ => ?_) (fun h8 => by omega)
    refine rw_step rfl rfl ?_
    refine rw_step rfl rfl ?_
    refine rw_step rfl rfl ?_
    refine rw_step rfl rfl ?_
    refine rw_step rfl rfl ?_
    refine rw_step rfl rfl ?_
    refine rw_step rfl rfl ?_
    refine rw_step rfl rfl ?_
    refine rc_call rfl tG (by decide) rfl rfl rfl rfl ?_
    refine rk_fbegin tG ?_
    have hRN : 2 + 44 * r' ≠ rg_o nd r' pl := rk_tne tR tN rfl
    have hRG : 2 + 44 * r' ≠ rg_o nd r' pl + 2 + (h + w) % 4 := rk_tne tR tG rfl
    have hNG : rg_o nd r' pl ≠ rg_o nd r' pl + 2 + (h + w) % 4 := by omega
    refine rw_step rfl rfl ?_
    refine rw_step rfl rfl ?_
    refine rw_step rfl rfl ?_
    refine rc_gv rfl tR rfl ((rg_bg_ne hRG).trans ((rk_ne hRN).trans h9.2.2.1.1)) ?_
    refine rw_step rfl rfl ?_
    refine rc_p rfl tG rfl rfl ?_
    refine rw_step rfl rfl ?_
    refine rw_ret rfl rfl rfl (hq _ ?_)
    refine (rg_enq H hon hN hw (fun q' j c1 c2 => ?_) ?_ (fun j i c1 => ?_) ?_).1
    · rw [rk_ne c1, rg_bg_ne c1, rr_up_at, if_neg c2]
    · rw [rk_ne hNG, rg_bg_ne hNG, rr_up_same]
    · rw [rr_exp0, rr_up_at, if_neg (by omega)]
      exact rg_make_at (by omega)
    · exact rg_expF (X1 := rr_up X (rg_o nd r' pl) 5 (nI (w + 1))) hn (by omega) (by omega) hr hon.2.2
  · refine rg_pub_of (B' := B) (a := 0) (by omega) (fun Q hq => ?_) (fun Q hq => rr_expNo (d := 5) hok hq)
    have no : ∀ ls : List Value, rb_wp 7 5 19 ls [] (rc_h X R) Q := by
      intro ls
      refine rw_step rfl rfl ?_
      exact rw_ret rfl rfl rfl (hq X H)
    refine rw_ent rfl rfl rfl ?_
    refine rw_step rfl rfl ?_
    refine rw_call rfl rfl rfl ?_
    refine rk_isSt ?_
    by_cases hx : 1 ≤ x ∧ x ≤ 9
    · rw [if_pos hx]
      refine rw_step rfl rfl ?_
      refine rw_step rfl rfl ?_
      refine rw_call rfl rfl rfl ?_
      refine rk_isSt ?_
      by_cases hz : 1 ≤ z ∧ z ≤ 9
      · rw [if_pos hz]
        refine rw_step rfl rfl ?_
        refine rw_step rfl rfl ?_
        refine rw_step rfl rfl ?_
        refine rw_icmp rfl (fun h8 => ?_) (fun _ => no _)
        have h3 := rw_ne h8
        obtain ⟨n, hn, rfl⟩ := rr_addr9 hx
        have e1 : (nI (n + 1) - 1).toNatClampNeg = n := by rw [nI_pred]; exact nI_clamp (by omega)
        rw [rr_isSt, e1] at hok
        refine rw_step rfl rfl ?_
        refine rw_step rfl rfl ?_
        refine rc_call rfl rfl (by decide) rfl rfl rfl rfl ?_
        refine rg_holding (d := 5) H (fun r n' hr hon had => ?_) (fun hno => ?_)
        · have en := rg_addrS n hn n' hon.1 had
          subst en
          have h4 : A 4 n' = 4 := by
            refine Classical.byContradiction (fun h6 => hok ⟨⟨⟨?_, hz⟩, h3⟩, h6⟩)
            rw [if_pos ⟨hx, hon.2.1⟩]
          obtain ⟨m, hm5, hm, hX⟩ := rg_size H hr
          obtain ⟨pl, w, h, q, hpl, hN⟩ := rg_stand H hr hon hm hm5
          have hw : w = 4 := (nI_eq (a := w) (b := 4) (by have := hN.1.2.2.1; omega) (by omega)).mp (hN.2.1.2.2.1.symm.trans h4)
          refine rw_step rfl rfl ?_
          refine rw_step rfl rfl ?_
          refine rw_step rfl rfl ?_
          refine rw_step rfl rfl ?_
          refine rw_step rfl rfl ?_
          refine rc_call rfl (rc_tR hr) (by decide) rfl rfl rfl rfl ?_
          refine rg_addAt (d := 5) H hr hon hN (rr_addrS hn) (fun h8 => by omega) (fun _ => ?_)
          refine rw_step rfl rfl ?_
          refine rw_step rfl rfl ?_
          refine rw_step rfl rfl ?_
          refine rw_step rfl rfl ?_
          exact rw_ret rfl rfl rfl (hq X H)
        · refine rw_step rfl rfl ?_
          refine rw_step rfl rfl ?_
          refine rw_step rfl rfl ?_
          refine rw_step rfl rfl ?_
          exact rw_ret rfl rfl rfl (hq X H)
      · rw [if_neg hz]
        refine rw_step rfl rfl ?_
        exact no _
    · rw [if_neg hx]
      refine rw_step rfl rfl ?_
      exact no _
end RHP
