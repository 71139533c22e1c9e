/-! the reference: leave, open -/
section RSC
variable {d : Nat} {Q : Option Value → rb_H → Prop} {A : Nat → Nat → Int32} {t : Int32}
def rr_op1 (A : Nat → Nat → Int32) (c n m : Nat) (p wa wb : Int32) : Nat → Nat → Int32 := rr_up (rr_up (rr_up (rr_up (rr_up (rr_up A 35 c 1) 36 c (nI (n + 1))) 37 c (nI (m + 1))) 38 c p) 39 c wa) 40 c wb
def rr_op2 (A : Nat → Nat → Int32) (c : Nat) : Nat → Nat → Int32 := rr_up (rr_up (rr_up (rr_up (rr_up (rr_up (rr_up (rr_up (rr_up (rr_up (rr_up A 41 c (A 41 c + 1)) 42 c 0) 43 c 0) 44 c 0) 46 c 0) 47 c 0) 48 c 0) 49 c 0) 50 c 0) 52 c 0) 53 c 0
theorem rr_op2M {n m c : Nat} {p ap e : Int32} (hc : c < 4) (hq : Q (some (.int (nI c))) (rr_h (rr_op2 A c) t)) : rb_wp d 77 210 [.ref 0, .int (nI (n + 1)), .int (nI (m + 1)), .int p, .int ap, .int e, .int (nI c)] [] (rr_h A t) Q := by
  repeat (first | refine rw_step rfl rfl ?_ | refine rr_ld rfl rfl rfl (by omega) rfl ?_ | refine rr_st rfl (fun _ => rfl) rfl (by omega) rfl ?_ | refine rr_stz rfl rfl (fun _ => rfl) rfl (by omega) rfl ?_)
  exact rw_ret rfl rfl rfl hq
theorem rr_op1S {n m c : Nat} {p e : Int32} (hc : c < 4) (hq : Q (some (.int (nI c))) (rr_h (rr_op2 (rr_op1 A c n m p (-1) (-1)) c) t)) : rb_wp d 77 132 [.ref 0, .int (nI (n + 1)), .int (nI (m + 1)), .int p, .int 0, .int e, .int (nI c)] [] (rr_h A t) Q := by
  iterate 4
    refine rw_step rfl rfl ?_
    refine rw_step rfl rfl ?_
    refine rw_step rfl rfl ?_
    refine rw_step rfl rfl ?_
    refine rr_st rfl (fun _ => rfl) rfl (by omega) rfl ?_
  iterate 2
    refine rw_step rfl rfl ?_
    refine rw_step rfl rfl ?_
    refine rw_step rfl rfl ?_
    refine rw_step rfl rfl ?_
    refine rw_step rfl rfl ?_
    refine rw_step rfl rfl ?_
    refine rr_st rfl (fun _ => rfl) rfl (by omega) rfl ?_
  exact rr_op2M hc hq
theorem rr_op1A {n m c : Nat} {p e : Int32} (hc : c < 4) (hn : n < 9) (hm : m < 9) (he : e = nI (9 * n + m)) (hq : Q (some (.int (nI c))) (rr_h (rr_op2 (rr_op1 A c n m p (A 33 (9 * n + m)) (A 34 (9 * n + m))) c) t)) : rb_wp d 77 132 [.ref 0, .int (nI (n + 1)), .int (nI (m + 1)), .int p, .int 1, .int e, .int (nI c)] [] (rr_h A t) Q := by
  subst he
  iterate 4
    refine rw_step rfl rfl ?_
    refine rw_step rfl rfl ?_
    refine rw_step rfl rfl ?_
    refine rw_step rfl rfl ?_
    refine rr_st rfl (fun _ => rfl) rfl (by omega) rfl ?_
  iterate 2
    refine rw_step rfl rfl ?_
    refine rw_step rfl rfl ?_
    refine rw_step rfl rfl ?_
    refine rw_step rfl rfl ?_
    refine rw_step rfl rfl ?_
    refine rw_step rfl rfl ?_
    refine rw_step rfl rfl ?_
    refine rw_step rfl rfl ?_
    refine rr_ld rfl rfl rfl (by omega) rfl ?_
    refine rw_step rfl rfl ?_
    refine rr_st rfl (fun _ => rfl) rfl (by omega) rfl ?_
  exact rr_op2M hc hq
theorem rr_opLoop {n m c : Nat} {p ap e : Int32} (hc : c < 4) (hfree : A 35 c = 0) (hno : ∀ i, i < c → ¬ A 35 i = 0) (kk : rb_wp d 77 132 [.ref 0, .int (nI (n + 1)), .int (nI (m + 1)), .int p, .int ap, .int e, .int (nI c)] [] (rr_h A t) Q) : ∀ (f i : Nat), i + f = c → rb_wp d 77 101 [.ref 0, .int (nI (n + 1)), .int (nI (m + 1)), .int p, .int ap, .int e, .int (nI i)] [] (rr_h A t) Q := by
  intro f
  induction f with
  | zero =>
    intro i hi
    have hi : i = c := by omega
    subst hi
    refine rw_step rfl rfl ?_
    refine rw_step rfl rfl ?_
    refine rw_icmp rfl (fun h9 => absurd (of_decide_eq_true h9) (nI_ge (a := i) (b := 4) hc (by omega))) (fun _ => ?_)
    repeat (first | refine rw_step rfl rfl ?_ | refine rr_ld rfl rfl rfl (by omega) rfl ?_)
    refine rw_if rfl (fun _ => ?_) (fun h9 => absurd hfree (rw_eqF h9))
    refine rw_step rfl rfl ?_
    refine rw_step rfl rfl ?_
    refine rw_icmp rfl (fun _ => kk) (fun h9 => absurd ((nI_eq (a := i) (b := 4) (by omega) (by omega)).mp (rw_neF h9)) (by omega))
  | succ f ih =>
    intro i hi
    refine rw_step rfl rfl ?_
    refine rw_step rfl rfl ?_
    refine rw_icmp rfl (fun h9 => absurd (of_decide_eq_true h9) (nI_ge (a := i) (b := 4) (by omega) (by omega))) (fun _ => ?_)
    repeat (first | refine rw_step rfl rfl ?_ | refine rr_ld rfl rfl rfl (by omega) rfl ?_)
    refine rw_if rfl (fun h9 => absurd (rw_eq h9) (hno i (by omega))) (fun _ => ?_)
    refine rw_step rfl rfl ?_
    refine rw_step rfl rfl ?_
    have := ih (i + 1) (by omega)
    rw [← nI_1 i] at this
    exact this
theorem rr_opNone {n m : Nat} {p ap e : Int32} (hno : ∀ i, i < 4 → ¬ A 35 i = 0) (hq : Q (some (.int (-3))) (rr_h A t)) : ∀ (f i : Nat), i + f = 4 → rb_wp d 77 101 [.ref 0, .int (nI (n + 1)), .int (nI (m + 1)), .int p, .int ap, .int e, .int (nI i)] [] (rr_h A t) Q := by
  intro f
  induction f with
  | zero =>
    intro i hi
    have hi : i = 4 := by omega
    subst hi
    refine rw_step rfl rfl ?_
    refine rw_step rfl rfl ?_
    refine rw_step rfl rfl ?_
    refine rw_step rfl rfl ?_
    refine rw_step rfl rfl ?_
    refine rw_step rfl rfl ?_
    refine rw_step rfl rfl ?_
    exact rw_ret rfl rfl rfl hq
  | succ f ih =>
    intro i hi
    refine rw_step rfl rfl ?_
    refine rw_step rfl rfl ?_
    refine rw_icmp rfl (fun h9 => absurd (of_decide_eq_true h9) (nI_ge (a := i) (b := 4) (by omega) (by omega))) (fun _ => ?_)
    repeat (first | refine rw_step rfl rfl ?_ | refine rr_ld rfl rfl rfl (by omega) rfl ?_)
    refine rw_if rfl (fun h9 => absurd (rw_eq h9) (hno i (by omega))) (fun _ => ?_)
    refine rw_step rfl rfl ?_
    refine rw_step rfl rfl ?_
    have := ih (i + 1) (by omega)
    rw [← nI_1 i] at this
    exact this
def rr_opOk (A : Nat → Nat → Int32) (x y p : Int32) : Prop := ((rr_isSt A x = 1 ∧ rr_isSt A y = 1) ∧ ¬ x = y) ∧ (0 ≤ p ∧ p ≤ 3)
theorem rr_isSt01 (x : Int32) : rr_isSt A x = 1 ∨ rr_isSt A x = 0 := by
  unfold rr_isSt
  split
  · exact Or.inl rfl
  · exact Or.inr rfl
theorem rr_openNo {x y p : Int32} (hno : ¬ rr_opOk A x y p) (hq : Q (some (.int (-1))) (rr_h A t)) : rb_cw (d + 3) 77 [.ref 0, .int x, .int y, .int p] (rr_h A t) Q := by
  have no : rb_wp (d + 2) 77 30 (rb_ent 77 [.ref 0, .int x, .int y, .int p]) [] (rr_h A t) Q := by
    refine rw_step rfl rfl ?_
    exact rw_ret rfl rfl rfl hq
  refine rw_ent rfl rfl rfl ?_
  refine rw_step rfl rfl ?_
  refine rw_step rfl rfl ?_
  refine rw_call rfl rfl rfl ?_
  refine rr_isStation ?_
  rcases rr_isSt01 (A := A) x with h1 | h1
  · rw [h1]
    refine rw_step rfl rfl ?_
    refine rw_step rfl rfl ?_
    refine rw_step rfl rfl ?_
    refine rw_call rfl rfl rfl ?_
    refine rr_isStation ?_
    rcases rr_isSt01 (A := A) y with h2 | h2
    · rw [h2]
      refine rw_step rfl rfl ?_
      refine rw_step rfl rfl ?_
      refine rw_step rfl rfl ?_
      refine rw_icmp rfl (fun _ => no) (fun h3 => ?_)
      have h3 := rw_eqF h3
      refine rw_step rfl rfl ?_
      refine rw_if rfl (fun _ => no) (fun h4 => ?_)
      have h4 : 0 ≤ p := Int32.not_lt.mp (of_decide_eq_false h4)
      refine rw_step rfl rfl ?_
      refine rw_step rfl rfl ?_
      refine rw_icmp rfl (fun h5 => absurd ⟨⟨⟨h1, h2⟩, h3⟩, h4, of_decide_eq_true h5⟩ hno) (fun _ => no)
    · rw [h2]
      refine rw_step rfl rfl ?_
      exact no
  · rw [h1]
    refine rw_step rfl rfl ?_
    exact no
theorem rr_openHead {n m : Nat} {p : Int32} (hn : n < 9) (hm : m < 9) (hok : rr_opOk A (nI (n + 1)) (nI (m + 1)) p) (k1 : A 3 n = A 3 m → rb_wp (d + 2) 77 101 [.ref 0, .int (nI (n + 1)), .int (nI (m + 1)), .int p, .int 0, .int (nI (9 * n + m)), .int (nI 0)] [] (rr_h A t) Q) (k2 : ¬ A 3 n = A 3 m → (A 32 (9 * n + m) = 0 ∨ A 33 (9 * n + m) < 0) → Q (some (.int (-2))) (rr_h A t)) (k3 : ¬ A 3 n = A 3 m → ¬ A 32 (9 * n + m) = 0 → ¬ A 33 (9 * n + m) < 0 → rb_wp (d + 2) 77 101 [.ref 0, .int (nI (n + 1)), .int (nI (m + 1)), .int p, .int 1, .int (nI (9 * n + m)), .int (nI 0)] [] (rr_h A t) Q) : rb_cw (d + 3) 77 [.ref 0, .int (nI (n + 1)), .int (nI (m + 1)), .int p] (rr_h A t) Q := by
  obtain ⟨⟨⟨h1, h2⟩, h3⟩, h4, h5⟩ := hok
  have en : nI (n + 1) - 1 = nI n := nI_pred n
  have em : nI (m + 1) - 1 = nI m := nI_pred m
  refine rw_ent rfl rfl rfl ?_
  refine rw_step rfl rfl ?_
  refine rw_step rfl rfl ?_
  refine rw_call rfl rfl rfl ?_
  refine rr_isStation ?_
  rw [h1]
  refine rw_step rfl rfl ?_
  refine rw_step rfl rfl ?_
  refine rw_step rfl rfl ?_
  refine rw_call rfl rfl rfl ?_
  refine rr_isStation ?_
  rw [h2]
  refine rw_step rfl rfl ?_
  refine rw_step rfl rfl ?_
  refine rw_step rfl rfl ?_
  refine rw_icmp rfl (fun h9 => absurd (rw_eq h9) h3) (fun _ => ?_)
  refine rw_step rfl rfl ?_
  refine rw_if rfl (fun h9 => absurd (of_decide_eq_true h9) (Int32.not_lt.mpr h4)) (fun _ => ?_)
  refine rw_step rfl rfl ?_
  refine rw_step rfl rfl ?_
  refine rw_icmp rfl (fun _ => ?_) (fun h9 => absurd h5 (of_decide_eq_false h9))
  refine rw_step rfl rfl ?_
  refine rw_step rfl rfl ?_
  refine rw_step rfl rfl ?_
  refine rw_step rfl rfl ?_
  refine rw_step rfl rfl ?_
  refine rr_ld (i := n) rfl rfl en (by omega) rfl ?_
  refine rw_step rfl rfl ?_
  refine rw_step rfl rfl ?_
  refine rw_step rfl rfl ?_
  refine rw_step rfl rfl ?_
  refine rw_step rfl rfl ?_
  refine rr_ld (i := m) rfl rfl em (by omega) rfl ?_
  refine rw_icmp rfl (fun h9 => ?_) (fun h9 => ?_)
  · have h9 := rw_eq h9
    have := k1 h9
    rw [← rr_rtI] at this
    iterate 16 refine rw_step rfl rfl ?_
    exact this
  · have h9 := rw_eqF h9
    iterate 13 refine rw_step rfl rfl ?_
    refine rw_step rfl rfl ?_
    refine rw_step rfl rfl ?_
    refine rw_step rfl rfl ?_
    refine rw_step rfl rfl ?_
    refine rw_step rfl rfl ?_
    refine rr_ldz (i := 9 * n + m) rfl rfl rr_rtI (by omega) rfl ?_
    have out : (A 32 (9 * n + m) = 0 ∨ A 33 (9 * n + m) < 0) → ∀ ls : List Value, rb_wp (d + 2) 77 95 ls [] (rr_h A t) Q := by
      intro h8 ls
      refine rw_step rfl rfl ?_
      exact rw_ret rfl rfl rfl (k2 h9 h8)
    refine rw_if rfl (fun h8 => out (Or.inl (rw_eq h8)) _) (fun h8 => ?_)
    have h8 := rw_eqF h8
    refine rw_step rfl rfl ?_
    refine rw_step rfl rfl ?_
    refine rw_step rfl rfl ?_
    refine rr_ld (i := 9 * n + m) rfl rfl rr_rtI (by omega) rfl ?_
    refine rw_if rfl (fun h7 => ?_) (fun h7 => out (Or.inr (Int32.not_le.mp (of_decide_eq_false h7))) _)
    have := k3 h9 h8 (Int32.not_lt.mpr (of_decide_eq_true h7))
    rw [← rr_rtI] at this
    refine rw_step rfl rfl ?_
    refine rw_step rfl rfl ?_
    exact this
end RSC
