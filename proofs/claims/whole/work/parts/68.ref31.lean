/-! the reference: leave -/
theorem rr_c9a (n i : Nat) : (9 : Int32) * nI n + nI i = nI (9 * n + i) := by rw [rr_c9, nI_add]
section RSD
variable {d : Nat} {Q : Option Value → rb_H → Prop} {A : Nat → Nat → Int32} {t : Int32}
def rr_lvK (A : Nat → Nat → Int32) (n : Nat) : Nat → Nat → Nat → Int32
  | 0 => A
  | x + 1 => rr_up (rr_up (rr_lvK A n x) 32 (9 * n + x) 0) 32 (9 * x + n) 0
def rr_lvC (A : Nat → Nat → Int32) (a : Int32) : Nat → Nat → Nat → Int32
  | 0 => A
  | c + 1 => if rr_lvC A a c 35 c = 1 ∧ (rr_lvC A a c 36 c = a ∨ rr_lvC A a c 37 c = a) then rr_up (rr_lvC A a c) 35 c 2 else rr_lvC A a c
theorem rr_lvCM {x : Int32} {y : Value} {A0 : Nat → Nat → Int32} (hq : Q (some (.int 1)) (rr_h (rr_lvC A0 x 4) t)) : ∀ (f c : Nat), c + f = 4 → rb_wp d 72 106 [.ref 0, .int x, y, .int (nI c)] [] (rr_h (rr_lvC A0 x c) t) Q := by
  intro f
  induction f with
  | zero =>
    intro c hc
    have hc : c = 4 := by omega
    subst hc
    refine rw_step rfl rfl ?_
    refine rw_step rfl rfl ?_
    refine rw_step rfl rfl ?_
    refine rw_step rfl rfl ?_
    exact rw_ret rfl rfl rfl hq
  | succ f ih =>
    intro c hc
    have nxt : ∀ C : Nat → Nat → Int32, C = rr_lvC A0 x (c + 1) → rb_wp d 72 148 [.ref 0, .int x, y, .int (nI c)] [] (rr_h C t) Q := by
      intro C hC
      subst hC
      refine rw_step rfl rfl ?_
      refine rw_step rfl rfl ?_
      have := ih (c + 1) (by omega)
      rw [← nI_1] at this
      exact this
    refine rw_step rfl rfl ?_
    refine rw_step rfl rfl ?_
    refine rw_icmp rfl (fun h9 => absurd (of_decide_eq_true h9) (nI_ge (a := c) (b := 4) (by omega) (by omega))) (fun _ => ?_)
    repeat (first | refine rw_step rfl rfl ?_ | refine rr_ld rfl rfl rfl (by omega) rfl ?_)
    refine rw_icmp rfl (fun h1 => ?_) (fun h1 => ?_)
    · have h1 := rw_ne h1
      exact nxt _ (by rw [rr_lvC, if_neg (fun h9 => h1 h9.1)])
    have h1 := rw_neF h1
    have yes : (rr_lvC A0 x c 36 c = x ∨ rr_lvC A0 x c 37 c = x) → rb_wp d 72 141 [.ref 0, .int x, y, .int (nI c)] [] (rr_h (rr_lvC A0 x c) t) Q := by
      intro h2
      refine rw_step rfl rfl ?_
      refine rw_step rfl rfl ?_
      refine rw_step rfl rfl ?_
      refine rw_step rfl rfl ?_
      refine rr_st rfl (fun _ => rfl) rfl (by omega) rfl ?_
      exact nxt _ (by rw [rr_lvC, if_pos ⟨h1, h2⟩])
    repeat (first | refine rw_step rfl rfl ?_ | refine rr_ld rfl rfl rfl (by omega) rfl ?_)
    refine rw_icmp rfl (fun h2 => yes (Or.inl (rw_eq h2))) (fun h2 => ?_)
    have h2 := rw_eqF h2
    repeat (first | refine rw_step rfl rfl ?_ | refine rr_ld rfl rfl rfl (by omega) rfl ?_)
    refine rw_icmp rfl (fun h3 => ?_) (fun h3 => yes (Or.inr (rw_neF h3)))
    have h3 := rw_ne h3
    exact nxt _ (by rw [rr_lvC, if_neg (fun h9 => h9.2.elim h2 h3)])
theorem rr_lvKM {x : Int32} {n : Nat} {A0 : Nat → Nat → Int32} (hn : n < 9) (hq : Q (some (.int 1)) (rr_h (rr_lvC (rr_lvK A0 n 9) x 4) t)) : ∀ (f i : Nat), i + f = 9 → rb_wp d 72 68 [.ref 0, .int x, .int (nI n), .int (nI i)] [] (rr_h (rr_lvK A0 n i) t) Q := by
  intro f
  induction f with
  | zero =>
    intro i hi
    have hi : i = 9 := by omega
    subst hi
    refine rw_step rfl rfl ?_
    refine rw_step rfl rfl ?_
    refine rw_step rfl rfl ?_
    refine rw_step rfl rfl ?_
    refine rw_step rfl rfl ?_
    exact rr_lvCM hq 4 0 (by omega)
  | succ f ih =>
    intro i hi
    refine rw_step rfl rfl ?_
    refine rw_step rfl rfl ?_
    refine rw_icmp rfl (fun h9 => absurd (of_decide_eq_true h9) (nI_ge (a := i) (b := 9) (by omega) (by omega))) (fun _ => ?_)
    repeat refine rw_step rfl rfl ?_
    refine rr_stz (i := 9 * n + i) rfl rfl (fun _ => rfl) (rr_c9a n i) (by omega) rfl ?_
    repeat refine rw_step rfl rfl ?_
    refine rr_stz (i := 9 * i + n) rfl rfl (fun _ => rfl) (rr_c9a i n) (by omega) rfl ?_
    refine rw_step rfl rfl ?_
    refine rw_step rfl rfl ?_
    have := ih (i + 1) (by omega)
    rw [← nI_1] at this
    exact this
theorem rr_leaveOut {x : Int32} (hx : ¬ (1 ≤ x ∧ x ≤ 12)) (hq : Q (some (.int 0)) (rr_h A t)) : rb_cw (d + 1) 72 [.ref 0, .int x] (rr_h A t) Q := by
  have no : rb_wp d 72 11 (rb_ent 72 [.ref 0, .int x]) [] (rr_h A t) Q := by
    refine rw_step rfl rfl ?_
    exact rw_ret rfl rfl rfl hq
  refine rw_ent rfl rfl rfl ?_
  refine rw_step rfl rfl ?_
  refine rw_step rfl rfl ?_
  refine rw_icmp rfl (fun _ => no) (fun h1 => ?_)
  have h1 : 1 ≤ x := Int32.not_lt.mp (of_decide_eq_false h1)
  refine rw_step rfl rfl ?_
  refine rw_step rfl rfl ?_
  refine rw_icmp rfl (fun h2 => absurd ⟨h1, of_decide_eq_true h2⟩ hx) (fun _ => no)
/-- the node that an address means to leave() -/
def rr_lvN (a : Nat) : Nat := if a < 10 then a - 1 else 9 + 2 * (a - 10)
theorem rr_leaveHead {a : Nat} (h1 : 1 ≤ a) (h12 : a ≤ 12) (k0 : A 2 (rr_lvN a) = 0 → Q (some (.int 0)) (rr_h A t)) (k1 : ¬ A 2 (rr_lvN a) = 0 → ∀ y : Value, rb_wp d 72 46 [.ref 0, .int (nI a), .int (nI (rr_lvN a)), y] [] (rr_h A t) Q) : rb_cw (d + 1) 72 [.ref 0, .int (nI a)] (rr_h A t) Q := by
  have hb : rr_lvN a < 15 := by unfold rr_lvN; split <;> omega
  have tail : ∀ (z : Int32) (y1 y2 : Value), z = nI (rr_lvN a) → rb_wp d 72 34 [.ref 0, .int (nI a), y1, y2] [.int z] (rr_h A t) Q := by
    intro z y1 y2 hz
    subst hz
    refine rw_step rfl rfl ?_
    refine rw_step rfl rfl ?_
    refine rw_step rfl rfl ?_
    refine rw_step rfl rfl ?_
    refine rr_ldz rfl rfl rfl (by omega) rfl ?_
    refine rw_if rfl (fun h => k1 (rw_ne h) _) (fun h => ?_)
    refine rw_step rfl rfl ?_
    exact rw_ret rfl rfl rfl (k0 (rw_neF h))
  refine rw_ent rfl rfl rfl ?_
  refine rw_step rfl rfl ?_
  refine rw_step rfl rfl ?_
  refine rw_icmp rfl (fun h => absurd (of_decide_eq_true h) (nI_nlt (a := a) (b := 1) h1 (by omega))) (fun _ => ?_)
  refine rw_step rfl rfl ?_
  refine rw_step rfl rfl ?_
  refine rw_icmp rfl (fun _ => ?_) (fun h => absurd (nI_le (a := a) (b := 12) h12 (by omega)) (of_decide_eq_false h))
  refine rw_step rfl rfl ?_
  refine rw_step rfl rfl ?_
  refine rw_icmp rfl (fun h => ?_) (fun h => ?_)
  · have h : ¬ a < 10 := fun h9 => nI_ge (a := a) (b := 10) h9 (by omega) (of_decide_eq_true h)
    refine rw_step rfl rfl ?_
    refine rw_step rfl rfl ?_
    refine rw_step rfl rfl ?_
    refine rw_step rfl rfl ?_
    refine rw_step rfl rfl ?_
    refine rw_step rfl rfl ?_
    refine rw_step rfl rfl ?_
    refine tail _ _ _ ?_
    have : a = 10 ∨ a = 11 ∨ a = 12 := by omega
    rcases this with rfl | rfl | rfl <;> decide +kernel
  · have h : a < 10 := by
      refine Nat.not_le.mp (fun h9 => of_decide_eq_false h ?_)
      exact nI_le (a := 10) (b := a) h9 (by omega)
    refine rw_step rfl rfl ?_
    refine rw_step rfl rfl ?_
    refine rw_step rfl rfl ?_
    refine rw_step rfl rfl ?_
    refine tail _ _ _ ?_
    rw [rr_lvN, if_pos h]
    obtain ⟨v, rfl⟩ : ∃ v, a = v + 1 := ⟨a - 1, by omega⟩
    exact nI_pred v
theorem rr_leaveS {n r : Nat} (hn : n < 9) (hr : r < 3) (h2 : ¬ A 2 n = 0) (h3 : A 3 n = nI r) (hq : Q (some (.int 1)) (rr_h (rr_lvC (rr_lvK (rr_go A r n) n 9) (nI (n + 1)) 4) t)) : rb_cw (d + 3) 72 [.ref 0, .int (nI (n + 1))] (rr_h A t) Q := by
  have e : rr_lvN (n + 1) = n := by unfold rr_lvN; rw [if_pos (by omega)]; omega
  refine rr_leaveHead (by omega) (by omega) (fun h => absurd (e ▸ h) h2) (fun _ y => ?_)
  rw [e]
  refine rw_step rfl rfl ?_
  refine rw_step rfl rfl ?_
  refine rw_call rfl rfl rfl ?_
  refine rr_goM hr (by omega) h3 ?_
  refine rw_step rfl rfl ?_
  refine rw_step rfl rfl ?_
  refine rw_icmp rfl (fun _ => ?_) (fun h => absurd (nI_lt (a := n) (b := 9) hn (by omega)) (of_decide_eq_false h))
  refine rw_step rfl rfl ?_
  refine rw_step rfl rfl ?_
  exact rr_lvKM hn hq 9 0 (by omega)
theorem rr_leaveP {k r r' : Nat} (hk : k < 3) (hr : r < 3) (hr' : r' < 3) (h2 : ¬ A 2 (9 + 2 * k) = 0) (h3 : A 3 (9 + 2 * k) = nI r) (h3' : rr_go A r (9 + 2 * k) 3 (10 + 2 * k) = nI r') (hq : Q (some (.int 1)) (rr_h (rr_go (rr_go A r (9 + 2 * k)) r' (10 + 2 * k)) t)) : rb_cw (d + 3) 72 [.ref 0, .int (nI (10 + k))] (rr_h A t) Q := by
  have e : rr_lvN (10 + k) = 9 + 2 * k := by unfold rr_lvN; rw [if_neg (by omega)]; omega
  refine rr_leaveHead (by omega) (by omega) (fun h => absurd (e ▸ h) h2) (fun _ y => ?_)
  rw [e]
  refine rw_step rfl rfl ?_
  refine rw_step rfl rfl ?_
  refine rw_call rfl rfl rfl ?_
  refine rr_goM hr (by omega) h3 ?_
  refine rw_step rfl rfl ?_
  refine rw_step rfl rfl ?_
  refine rw_icmp rfl (fun h => absurd (of_decide_eq_true h) (nI_nlt (a := 9 + 2 * k) (b := 9) (by omega) (by omega))) (fun _ => ?_)
  refine rw_step rfl rfl ?_
  refine rw_step rfl rfl ?_
  refine rw_step rfl rfl ?_
  refine rw_step rfl rfl ?_
  refine rw_call rfl rfl rfl ?_
  have e2 : nI (9 + 2 * k) + 1 = nI (10 + 2 * k) := by rw [nI_1, show 9 + 2 * k + 1 = 10 + 2 * k by omega]
  show rb_cw (d + 2) 71 [.ref 0, .int (nI (9 + 2 * k) + 1)] _ _
  rw [e2]
  refine rr_goM hr' (by omega) h3' ?_
  refine rw_step rfl rfl ?_
  exact rw_ret rfl rfl rfl hq
end RSD
