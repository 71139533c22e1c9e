/-! open, on both sides -/
theorem rg_first (A : Nat → Nat → Int32) : (∃ c, c < 4 ∧ A 35 c = 0 ∧ ∀ i, i < c → ¬ A 35 i = 0) ∨ ∀ i, i < 4 → ¬ A 35 i = 0 := by
  by_cases h0 : A 35 0 = 0
  · exact Or.inl ⟨0, by omega, h0, fun i hi => by omega⟩
  by_cases h1 : A 35 1 = 0
  · refine Or.inl ⟨1, by omega, h1, fun i hi => ?_⟩
    have : i = 0 := by omega
    subst this; exact h0
  by_cases h2 : A 35 2 = 0
  · refine Or.inl ⟨2, by omega, h2, fun i hi => ?_⟩
    have : i = 0 ∨ i = 1 := by omega
    rcases this with rfl | rfl
    · exact h0
    · exact h1
  by_cases h3 : A 35 3 = 0
  · refine Or.inl ⟨3, by omega, h3, fun i hi => ?_⟩
    have : i = 0 ∨ i = 1 ∨ i = 2 := by omega
    rcases this with rfl | rfl | rfl
    · exact h0
    · exact h1
    · exact h2
  · refine Or.inr (fun i hi => ?_)
    have : i = 0 ∨ i = 1 ∨ i = 2 ∨ i = 3 := by omega
    rcases this with rfl | rfl | rfl | rfl
    · exact h0
    · exact h1
    · exact h2
    · exact h3
section RHR
variable {nd : Nat → Nat → Nat} {X A : Nat → Nat → Int32} {R : Nat → Nat → Option Nat} {t : Int32} {B : Nat}
/-- the class looks for a free connection, from the i-th on -/
theorem rg_opFree {Q : Option Value → rb_H → Prop} {x y p way ap : Int32} {l4 l5 : Value} {c : Nat} (H : rg_Rel nd X R A t B) (hc : c < 4) (hfree : A 35 c = 0) (hno : ∀ i, i < c → ¬ A 35 i = 0) (hq : Q (some (.int (nI c))) (rc_h (rk_lb3 (rk_lb2 (rk_lb1 X (135 + 5 * c) x y p way) (135 + 5 * c)) (135 + 5 * c)) R)) : ∀ (f i : Nat), i + f = c → rb_wp 7 8 115 [.ref 0, .int x, .int y, .int p, l4, l5, .int ap, .int way, .int (nI i)] [] (rc_h X R) Q := by
  intro f
  induction f with
  | zero =>
    intro i hi
    have hi : i = c := by omega
    subst hi
    have tL := rc_tL hc
    refine rw_step rfl rfl ?_
    refine rw_step rfl rfl ?_
    refine rw_icmp rfl (fun h8 => absurd (of_decide_eq_true h8) (nI_ge (a := i) (b := 4) hc (by omega))) (fun _ => ?_)
    refine rw_step rfl rfl ?_
    refine rc_gr rfl rfl rfl ?_
    refine rw_step rfl rfl ?_
    refine rc_aa rfl (T := 14) rfl rfl hc (H.1.1.1.2.1 i hc) ?_
    refine rc_gv rfl tL rfl (H.2.2.2.2.2 i hc).2.1 ?_
    refine rw_if rfl (fun h8 => absurd hfree (rw_ne h8)) (fun _ => ?_)
    refine rw_step rfl rfl ?_
    refine rc_gr rfl rfl rfl ?_
    refine rw_step rfl rfl ?_
    refine rc_aa rfl (T := 14) rfl rfl hc (H.1.1.1.2.1 i hc) ?_
    refine rw_step rfl rfl ?_
    refine rw_step rfl rfl ?_
    refine rw_step rfl rfl ?_
    refine rw_step rfl rfl ?_
    refine rc_call rfl tL (by decide) rfl rfl rfl rfl ?_
    refine rk_lbegin (d := 5) tL ?_
    refine rw_step rfl rfl ?_
    exact rw_ret rfl rfl rfl hq
  | succ f ih =>
    intro i hi
    have hi4 : i < 4 := by omega
    have tL := rc_tL hi4
    refine rw_step rfl rfl ?_
    refine rw_step rfl rfl ?_
    refine rw_icmp rfl (fun h8 => absurd (of_decide_eq_true h8) (nI_ge (a := i) (b := 4) hi4 (by omega))) (fun _ => ?_)
    refine rw_step rfl rfl ?_
    refine rc_gr rfl rfl rfl ?_
    refine rw_step rfl rfl ?_
    refine rc_aa rfl (T := 14) rfl rfl hi4 (H.1.1.1.2.1 i hi4) ?_
    refine rc_gv rfl tL rfl (H.2.2.2.2.2 i hi4).2.1 ?_
    refine rw_if rfl (fun _ => ?_) (fun h8 => absurd (rw_neF h8) (hno i (by omega)))
    refine rw_step rfl rfl ?_
    refine rw_step rfl rfl ?_
    have := ih (i + 1) (by omega)
    rw [← nI_1 i] at this
    exact this
theorem rg_opNone {Q : Option Value → rb_H → Prop} {x y p way ap : Int32} {l4 l5 : Value} (H : rg_Rel nd X R A t B) (hno : ∀ i, i < 4 → ¬ A 35 i = 0) (hq : Q (some (.int (-3))) (rc_h X R)) : ∀ (f i : Nat), i + f = 4 → rb_wp 7 8 115 [.ref 0, .int x, .int y, .int p, l4, l5, .int ap, .int way, .int (nI i)] [] (rc_h X R) Q := by
  intro f
  induction f with
  | zero =>
    intro i hi
    have hi : i = 4 := by omega
    subst hi
    refine rw_step rfl rfl ?_
    refine rw_step rfl rfl ?_
    refine rw_step rfl rfl ?_
    refine rw_step rfl rfl ?_
    exact rw_ret rfl rfl rfl hq
  | succ f ih =>
    intro i hi
    have hi4 : i < 4 := by omega
    have tL := rc_tL hi4
    refine rw_step rfl rfl ?_
    refine rw_step rfl rfl ?_
    refine rw_icmp rfl (fun h8 => absurd (of_decide_eq_true h8) (nI_ge (a := i) (b := 4) hi4 (by omega))) (fun _ => ?_)
    refine rw_step rfl rfl ?_
    refine rc_gr rfl rfl rfl ?_
    refine rw_step rfl rfl ?_
    refine rc_aa rfl (T := 14) rfl rfl hi4 (H.1.1.1.2.1 i hi4) ?_
    refine rc_gv rfl tL rfl (H.2.2.2.2.2 i hi4).2.1 ?_
    refine rw_if rfl (fun _ => ?_) (fun h8 => absurd (rw_neF h8) (hno i (by omega)))
    refine rw_step rfl rfl ?_
    refine rw_step rfl rfl ?_
    have := ih (i + 1) (by omega)
    rw [← nI_1 i] at this
    exact this
/-- the class's first questions -/
theorem rg_opHead {Q : Option Value → rb_H → Prop} {n m pp r1 r2 : Nat} (H : rg_Rel nd X R A t B) (hn : n < 9) (hm : m < 9) (hnm : ¬ n = m) (hp : pp ≤ 3) (hr1 : r1 < 3) (hr2 : r2 < 3) (h1 : rg_on A r1 n) (h2 : rg_on A r2 m)
    (k1 : r1 = r2 → rb_wp 7 8 115 [.ref 0, .int (nI (n + 1)), .int (nI (m + 1)), .int (nI pp), .ref (2 + 44 * r1), .ref (2 + 44 * r2), .int 1, .int 0, .int (nI 0)] [] (rc_h X R) Q)
    (k2 : ¬ r1 = r2 → (rr_routeA A (nI (n + 1)) (nI (m + 1)) = -1 ∨ rr_routeA A (nI (n + 1)) (nI (m + 1)) = 0) → Q (some (.int (-2))) (rc_h X R))
    (k3 : ¬ r1 = r2 → ¬ rr_routeA A (nI (n + 1)) (nI (m + 1)) = -1 → ¬ rr_routeA A (nI (n + 1)) (nI (m + 1)) = 0 → rb_wp 7 8 115 [.ref 0, .int (nI (n + 1)), .int (nI (m + 1)), .int (nI pp), .ref (2 + 44 * r1), .ref (2 + 44 * r2), .int 0, .int (rr_routeA A (nI (n + 1)) (nI (m + 1))), .int (nI 0)] [] (rc_h X R) Q) : rb_cw 8 8 [.ref 0, .int (nI (n + 1)), .int (nI (m + 1)), .int (nI pp)] (rc_h X R) Q := by
  obtain ⟨m1, a1, y1, kk1, p1, v1, R1⟩ := H.2.2.1 r1 hr1
  obtain ⟨m2, a2, y2, kk2, p2, v2, R2⟩ := H.2.2.1 r2 hr2
  have same : ∀ r' n' r n0, n0 < 9 → r < 3 → rg_on A r n0 → r' < 3 → rg_on A r' n' → rr_addr (nI n') = nI (n0 + 1) → r' = r := by
    intro r' n' r n0 q1 q2 q3 q4 q5 q6
    have := rg_addrS n0 q1 n' q5.1 q6
    subst this
    exact (nI_eq (by omega) (by omega)).mp (q5.2.2.symm.trans q3.2.2)
  refine rw_ent rfl rfl rfl ?_
  refine rw_step rfl rfl ?_
  refine rw_call rfl rfl rfl ?_
  refine rk_isSt ?_
  rw [if_pos (rk_st1 (by omega) (by omega))]
  refine rw_step rfl rfl ?_
  refine rw_step rfl rfl ?_
  refine rw_call rfl rfl rfl ?_
  refine rk_isSt ?_
  rw [if_pos (rk_st1 (by omega) (by omega))]
  refine rw_step rfl rfl ?_
  refine rw_step rfl rfl ?_
  refine rw_step rfl rfl ?_
  refine rw_icmp rfl (fun h8 => absurd ((nI_eq (by omega) (by omega)).mp (rw_eq h8)) (by omega)) (fun _ => ?_)
  refine rw_step rfl rfl ?_
  refine rw_if rfl (fun h8 => absurd (of_decide_eq_true h8) (nI_pos (by omega))) (fun _ => ?_)
  refine rw_step rfl rfl ?_
  refine rw_step rfl rfl ?_
  refine rw_icmp rfl (fun _ => ?_) (fun h8 => absurd (nI_le (b := 3) hp (by omega)) (of_decide_eq_false h8))
  refine rw_step rfl rfl ?_
  refine rw_step rfl rfl ?_
  refine rc_call rfl rfl (by decide) rfl rfl rfl rfl ?_
  refine rg_holding (d := 5) H (fun r' n' q4 q5 q6 => ?_) (fun hno => absurd (rr_addrS hn) (hno r1 n hr1 h1))
  have e1 := same r' n' r1 n hn hr1 h1 q4 q5 q6
  subst e1
  refine rw_step rfl rfl ?_
  refine rw_step rfl rfl ?_
  refine rw_step rfl rfl ?_
  refine rc_call rfl rfl (by decide) rfl rfl rfl rfl ?_
  refine rg_holding (d := 5) H (fun r'' n'' q4' q5' q6' => ?_) (fun hno => absurd (rr_addrS hm) (hno r2 m hr2 h2))
  have e2 := same r'' n'' r2 m hm hr2 h2 q4' q5' q6'
  subst e2
  refine rw_step rfl rfl ?_
  refine rw_step rfl rfl ?_
  refine rw_step rfl rfl ?_
  refine rw_step rfl rfl ?_
  refine rw_step rfl rfl ?_
  refine rw_step rfl rfl ?_
  refine rc_gv rfl (rc_tR hr1) rfl R1.2.2.1.1 ?_
  refine rw_step rfl rfl ?_
  refine rc_gv rfl (rc_tR hr2) rfl R2.2.2.1.1 ?_
  refine rw_icmp rfl (fun h8 => ?_) (fun h8 => ?_)
  · have hne : ¬ r' = r'' := fun h7 => rw_ne h8 (by rw [h7])
    refine rw_step rfl rfl ?_
    refine rw_step rfl rfl ?_
    refine rw_step rfl rfl ?_
    refine rw_step rfl rfl ?_
    refine rw_step rfl rfl ?_
    refine rw_step rfl rfl ?_
    refine rw_step rfl rfl ?_
    refine rc_call rfl rfl (by decide) rfl rfl rfl rfl ?_
    refine rg_known (d := 5) H ?_
    refine rw_step rfl rfl ?_
    refine rw_step rfl rfl ?_
    refine rw_step rfl rfl ?_
    refine rw_step rfl rfl ?_
    refine rw_step rfl rfl ?_
    have out : ∀ ls : List Value, (rr_routeA A (nI (n + 1)) (nI (m + 1)) = -1 ∨ rr_routeA A (nI (n + 1)) (nI (m + 1)) = 0) → rb_wp 7 8 109 ls [] (rc_h X R) Q := by
      intro ls h7
      refine rw_step rfl rfl ?_
      exact rw_ret rfl rfl rfl (k2 hne h7)
    refine rw_icmp rfl (fun h7 => out _ (Or.inl (rw_eq h7))) (fun h7 => ?_)
    refine rw_step rfl rfl ?_
    refine rw_if rfl (fun h6 => ?_) (fun h6 => out _ (Or.inr (rw_neF h6)))
    refine rw_step rfl rfl ?_
    refine rw_step rfl rfl ?_
    exact k3 hne (rw_eqF h7) (rw_ne h6)
  · have heq : r' = r'' := (nI_eq (by omega) (by omega)).mp (rw_neF h8)
    refine rw_step rfl rfl ?_
    refine rw_step rfl rfl ?_
    refine rw_step rfl rfl ?_
    refine rw_step rfl rfl ?_
    refine rw_step rfl rfl ?_
    refine rw_step rfl rfl ?_
    refine rw_step rfl rfl ?_
    refine rw_step rfl rfl ?_
    refine rw_step rfl rfl ?_
    refine rw_step rfl rfl ?_
    refine rw_step rfl rfl ?_
    refine rw_step rfl rfl ?_
    exact k1 heq
theorem rg_openP {x y p : Int32} (H : rg_Rel nd X R A t B) (hB : B ≤ 900000) : rg_pub nd X R A t B 8 77 [.int x, .int y, .int p] := by
  by_cases hok : rr_opOk A x y p
  · have hok0 := hok
    obtain ⟨⟨⟨h1, h2⟩, h3⟩, h4, h5⟩ := hok
    have st : ∀ z, rr_isSt A z = 1 → (1 ≤ z ∧ z ≤ 9) ∧ ¬ A 2 (z - 1).toNatClampNeg = 0 := by
      intro z hz
      refine Classical.byContradiction (fun h8 => ?_)
      rw [rr_isSt, if_neg h8] at hz
      exact absurd hz (by decide)
    obtain ⟨hx, hx2⟩ := st x h1
    obtain ⟨hy, hy2⟩ := st y h2
    obtain ⟨n, hn, rfl⟩ := rr_addr9 hx
    obtain ⟨m, hm, rfl⟩ := rr_addr9 hy
    obtain ⟨pp, hp4, rfl⟩ := rr_link4 ⟨h4, h5⟩
    have cl : ∀ n, n < 9 → (nI (n + 1) - 1).toNatClampNeg = n := fun n hn => by rw [nI_pred]; exact nI_clamp (by omega)
    rw [cl n hn] at hx2
    rw [cl m hm] at hy2
    have hnm : ¬ n = m := fun h8 => h3 (by rw [h8])
    obtain ⟨r1, hr1, on1⟩ := rg_here H (by omega) hx2
    obtain ⟨r2, hr2, on2⟩ := rg_here H (by omega) hy2
    have hring : A 3 n = A 3 m ↔ r1 = r2 := by
      rw [on1.2.2, on2.2.2]
      exact nI_eq (by omega) (by omega)
    by_cases hsame : r1 = r2
    · rcases rg_first A with ⟨c, hc, hfree, hno⟩ | hno
      · refine rg_pub_of (B' := B + 1) (a := nI c) (A' := rr_op2 (rr_op1 A c n m (nI pp) (-1) (-1)) c) (by omega) (fun Q hq => ?_) (fun Q hq => ?_)
        · refine rg_opHead H hn hm hnm (by omega) hr1 hr2 on1 on2 (fun _ => ?_) (fun h8 => absurd hsame h8) (fun h8 => absurd hsame h8)
          refine rg_opFree H hc hfree hno ?_ c 0 (by omega)
          have := rg_openC (u := 0) (v := 0) hc H hB hn hm (show pp ≤ 3 by omega) ⟨by omega, by omega, fun _ => rfl⟩ hx2 hy2
          rw [rg_m1] at this
          exact hq _ this
        · refine rr_openHead (d := 5) hn hm hok0 (fun _ => ?_) (fun h8 => absurd (hring.mpr hsame) h8) (fun h8 => absurd (hring.mpr hsame) h8)
          exact rr_opLoop hc hfree hno (rr_op1S hc hq) c 0 (by omega)
      · refine rg_pub_of (B' := B) (a := -3) (A' := A) (by omega) (fun Q hq => ?_) (fun Q hq => ?_)
        · refine rg_opHead H hn hm hnm (by omega) hr1 hr2 on1 on2 (fun _ => ?_) (fun h8 => absurd hsame h8) (fun h8 => absurd hsame h8)
          exact rg_opNone H hno (hq X H) 4 0 (by omega)
        · refine rr_openHead (d := 5) hn hm hok0 (fun _ => ?_) (fun h8 => absurd (hring.mpr hsame) h8) (fun h8 => absurd (hring.mpr hsame) h8)
          exact rr_opNone hno hq 4 0 (by omega)
    · have hne : ¬ A 3 n = A 3 m := fun h8 => hsame (hring.mp h8)
      by_cases hk : A 32 (9 * n + m) = 0
      · have hrt : rr_routeA A (nI (n + 1)) (nI (m + 1)) = -1 := by
          rw [rr_routeA, rr_rtE hn hm, if_neg (fun h8 => h8.2 hk)]
        refine rg_pub_of (B' := B) (a := -2) (A' := A) (by omega) (fun Q hq => ?_) (fun Q hq => ?_)
        · exact rg_opHead H hn hm hnm (by omega) hr1 hr2 on1 on2 (fun h8 => absurd h8 hsame) (fun _ _ => hq X H) (fun _ h8 => absurd hrt h8)
        · exact rr_openHead (d := 5) hn hm hok0 (fun h8 => absurd h8 hne) (fun _ _ => hq) (fun _ h8 => absurd hk h8)
      · obtain ⟨u, v, hp, h33, h34, hrt⟩ := rg_routeV H hn hm hk
        have hneg : A 33 (9 * n + m) < 0 ↔ u = 0 := by rw [h33]; exact rg_neg3 u (by have := hp.1; omega)
        by_cases hu : u = 0
        · have hrt0 : rr_routeA A (nI (n + 1)) (nI (m + 1)) = 0 := by rw [hrt, hu, hp.2.2 hu]; rfl
          refine rg_pub_of (B' := B) (a := -2) (A' := A) (by omega) (fun Q hq => ?_) (fun Q hq => ?_)
          · exact rg_opHead H hn hm hnm (by omega) hr1 hr2 on1 on2 (fun h8 => absurd h8 hsame) (fun _ _ => hq X H) (fun _ _ h8 => absurd hrt0 h8)
          · exact rr_openHead (d := 5) hn hm hok0 (fun h8 => absurd h8 hne) (fun _ _ => hq) (fun _ _ h8 => absurd (hneg.mpr hu) h8)
        · have hrt1 : ¬ rr_routeA A (nI (n + 1)) (nI (m + 1)) = -1 := by rw [hrt]; exact rg_code_ne hp
          have hrt2 : ¬ rr_routeA A (nI (n + 1)) (nI (m + 1)) = 0 := by
            rw [hrt]
            exact nI_ne0 (by omega) (by have := hp.1; have := hp.2.1; omega)
          rcases rg_first A with ⟨c, hc, hfree, hno⟩ | hno
          · refine rg_pub_of (B' := B + 1) (a := nI c) (A' := rr_op2 (rr_op1 A c n m (nI pp) (A 33 (9 * n + m)) (A 34 (9 * n + m))) c) (by omega) (fun Q hq => ?_) (fun Q hq => ?_)
            · refine rg_opHead H hn hm hnm (by omega) hr1 hr2 on1 on2 (fun h8 => absurd h8 hsame) (fun _ h8 => absurd h8 (fun h7 => h7.elim hrt1 hrt2)) (fun _ _ _ => ?_)
              refine rg_opFree H hc hfree hno ?_ c 0 (by omega)
              rw [h33, h34] at hq
              rw [hrt]
              exact hq _ (rg_openC hc H hB hn hm (show pp ≤ 3 by omega) hp hx2 hy2)
            · refine rr_openHead (d := 5) hn hm hok0 (fun h8 => absurd h8 hne) (fun _ h8 => absurd h8 (fun h7 => h7.elim hk (fun h6 => hu (hneg.mp h6)))) (fun _ _ _ => ?_)
              exact rr_opLoop hc hfree hno (rr_op1A hc hn hm rfl hq) c 0 (by omega)
          · refine rg_pub_of (B' := B) (a := -3) (A' := A) (by omega) (fun Q hq => ?_) (fun Q hq => ?_)
            · refine rg_opHead H hn hm hnm (by omega) hr1 hr2 on1 on2 (fun h8 => absurd h8 hsame) (fun _ h8 => absurd h8 (fun h7 => h7.elim hrt1 hrt2)) (fun _ _ _ => ?_)
              exact rg_opNone H hno (hq X H) 4 0 (by omega)
            · refine rr_openHead (d := 5) hn hm hok0 (fun h8 => absurd h8 hne) (fun _ h8 => absurd h8 (fun h7 => h7.elim hk (fun h6 => hu (hneg.mp h6)))) (fun _ _ _ => ?_)
              exact rr_opNone hno hq 4 0 (by omega)
  · refine rg_pub_of (B' := B) (a := -1) (A' := A) (by omega) (fun Q hq => ?_) (fun Q hq => rr_openNo (d := 5) hok hq)
    have no : ∀ ls : List Value, rb_wp 7 8 28 ls [] (rc_h X R) Q := by
      intro ls
      refine rw_step rfl rfl ?_
      exact rw_ret rfl rfl rfl (hq X H)
    have no2 : ∀ ls : List Value, rb_wp 7 8 54 ls [] (rc_h X R) Q := by
      intro ls
      refine rw_step rfl rfl ?_
      exact rw_ret rfl rfl rfl (hq X H)
    refine rw_ent rfl rfl rfl ?_
    refine rw_step rfl rfl ?_
    refine rw_call rfl rfl rfl ?_
    refine rk_isSt ?_
    by_cases hx : 1 ≤ x ∧ x ≤ 9
    · rw [if_pos hx]
      refine rw_step rfl rfl ?_
      refine rw_step rfl rfl ?_
      refine rw_call rfl rfl rfl ?_
      refine rk_isSt ?_
      by_cases hy : 1 ≤ y ∧ y ≤ 9
      · rw [if_pos hy]
        refine rw_step rfl rfl ?_
        refine rw_step rfl rfl ?_
        refine rw_step rfl rfl ?_
        refine rw_icmp rfl (fun _ => no _) (fun h8 => ?_)
        have h3 := rw_eqF h8
        refine rw_step rfl rfl ?_
        refine rw_if rfl (fun _ => no _) (fun h8 => ?_)
        have h4 : 0 ≤ p := Int32.not_lt.mp (of_decide_eq_false h8)
        refine rw_step rfl rfl ?_
        refine rw_step rfl rfl ?_
        refine rw_icmp rfl (fun h8 => ?_) (fun _ => no _)
        have h5 : p ≤ 3 := of_decide_eq_true h8
        obtain ⟨n, hn, rfl⟩ := rr_addr9 hx
        obtain ⟨m, hm, rfl⟩ := rr_addr9 hy
        have cl : ∀ n, n < 9 → (nI (n + 1) - 1).toNatClampNeg = n := fun n hn => by rw [nI_pred]; exact nI_clamp (by omega)
        have hnot : A 2 n = 0 ∨ A 2 m = 0 := by
          by_cases q1 : A 2 n = 0
          · exact Or.inl q1
          · refine Or.inr (Classical.byContradiction (fun q2 => hok ⟨⟨⟨?_, ?_⟩, h3⟩, h4, h5⟩))
            · rw [rr_isSt, cl n hn, if_pos ⟨hx, q1⟩]
            · rw [rr_isSt, cl m hm, if_pos ⟨hy, q2⟩]
        refine rw_step rfl rfl ?_
        refine rw_step rfl rfl ?_
        refine rc_call rfl rfl (by decide) rfl rfl rfl rfl ?_
        refine rg_holding (d := 5) H (fun r1 n1 q1 q2 q3 => ?_) (fun hno1 => ?_)
        · have e1 := rg_addrS n hn n1 q2.1 q3
          subst e1
          have hm0 : A 2 m = 0 := hnot.elim (fun h7 => absurd h7 q2.2.1) (fun h7 => h7)
          refine rw_step rfl rfl ?_
          refine rw_step rfl rfl ?_
          refine rw_step rfl rfl ?_
          refine rc_call rfl rfl (by decide) rfl rfl rfl rfl ?_
          refine rg_holding (d := 5) H (fun r2 n2 q4 q5 q6 => ?_) (fun _ => ?_)
          · have e2 := rg_addrS m hm n2 q5.1 q6
            subst e2
            exact absurd hm0 q5.2.1
          · refine rw_step rfl rfl ?_
            refine rw_step rfl rfl ?_
            refine rw_step rfl rfl ?_
            refine rw_step rfl rfl ?_
            refine rw_step rfl rfl ?_
            exact no2 _
        · refine rw_step rfl rfl ?_
          refine rw_step rfl rfl ?_
          refine rw_step rfl rfl ?_
          refine rc_call rfl rfl (by decide) rfl rfl rfl rfl ?_
          refine rg_holding (d := 5) H (fun r2 n2 q4 q5 q6 => ?_) (fun _ => ?_)
          · refine rw_step rfl rfl ?_
            refine rw_step rfl rfl ?_
            refine rw_step rfl rfl ?_
            exact no2 _
          · refine rw_step rfl rfl ?_
            refine rw_step rfl rfl ?_
            refine rw_step rfl rfl ?_
            exact no2 _
      · rw [if_neg hy]
        refine rw_step rfl rfl ?_
        exact no _
    · rw [if_neg hx]
      refine rw_step rfl rfl ?_
      exact no _
end RHR
