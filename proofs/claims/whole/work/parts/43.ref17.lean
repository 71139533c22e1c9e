/-! the reference: go -/
section RRT
variable {d : Nat} {Q : Option Value → rb_H → Prop} {A : Nat → Nat → Int32} {t : Int32}
def rr_g5 (B : Nat → Nat → Int32) (r n : Nat) : Nat → Nat → Int32 := if (B 21 r = 3 ∨ B 21 r = 4) ∧ B 29 r = rr_addr (nI n) then rr_up (rr_up B 21 r 0) 23 r 0 else B
theorem rr_g5M {B : Nat → Nat → Int32} {r n : Nat} {x3 x4 : Value} (hr : r < 3) (hq : Q none (rr_h (rr_g5 B r n) t)) : rb_wp (d + 1) 71 210 [.ref 0, .int (nI n), .int (nI r), x3, x4] [] (rr_h B t) Q := by
  have tail : (B 21 r = 3 ∨ B 21 r = 4) → rb_wp (d + 1) 71 230 [.ref 0, .int (nI n), .int (nI r), x3, x4] [] (rr_h B t) Q := by
    intro h9
    repeat (first | refine rw_step rfl rfl ?_ | refine rr_ld rfl rfl rfl (by omega) rfl ?_)
    refine rw_call rfl rfl rfl ?_
    refine rr_addressOf ?_
    refine rw_icmp rfl (fun h1 => ?_) (fun h1 => ?_)
    · rw [rr_g5, if_neg (fun h8 => rw_ne h1 h8.2)] at hq
      exact rw_ret rfl rfl rfl hq
    · rw [rr_g5, if_pos ⟨h9, rw_neF h1⟩] at hq
      repeat (first | refine rw_step rfl rfl ?_ | refine rr_st rfl (fun _ => rfl) rfl (by omega) rfl ?_)
      exact rw_ret rfl rfl rfl hq
  repeat (first | refine rw_step rfl rfl ?_ | refine rr_ld rfl rfl rfl (by omega) rfl ?_)
  refine rw_icmp rfl (fun h1 => tail (Or.inl (rw_eq h1))) (fun h1 => ?_)
  repeat (first | refine rw_step rfl rfl ?_ | refine rr_ld rfl rfl rfl (by omega) rfl ?_)
  refine rw_icmp rfl (fun h2 => ?_) (fun h2 => tail (Or.inr (rw_neF h2)))
  rw [rr_g5, if_neg (fun h8 => h8.1.elim (rw_eqF h1) (rw_ne h2))] at hq
  exact rw_ret rfl rfl rfl hq
def rr_g4 (B : Nat → Nat → Int32) (r n : Nat) : Nat → Nat → Int32 := rr_up B 30 r (if B 30 r = rr_addr (nI n) then 0 else B 30 r)
theorem rr_g4M {B : Nat → Nat → Int32} {r n : Nat} {x3 x4 : Value} (hr : r < 3) (hq : Q none (rr_h (rr_g5 (rr_g4 B r n) r n) t)) : rb_wp (d + 1) 71 181 [.ref 0, .int (nI n), .int (nI r), x3, x4] [] (rr_h B t) Q := by
  repeat (first | refine rw_step rfl rfl ?_ | refine rr_ld rfl rfl rfl (by omega) rfl ?_)
  refine rw_call rfl rfl rfl ?_
  refine rr_addressOf ?_
  refine rw_icmp rfl (fun h1 => ?_) (fun h1 => ?_)
  · rw [rr_g4, if_neg (rw_ne h1)] at hq
    refine rw_step rfl rfl ?_
    refine rw_step rfl rfl ?_
    refine rw_step rfl rfl ?_
    refine rr_ld rfl rfl rfl (by omega) rfl ?_
    refine rr_st rfl (fun _ => rfl) rfl (by omega) rfl ?_
    exact rr_g5M hr hq
  · rw [rr_g4, if_pos (rw_neF h1)] at hq
    refine rw_step rfl rfl ?_
    refine rw_step rfl rfl ?_
    refine rr_st rfl (fun _ => rfl) rfl (by omega) rfl ?_
    exact rr_g5M hr hq
def rr_g3 (B : Nat → Nat → Int32) (r : Nat) : Nat → Nat → Int32 := if B 1 r = 0 then rr_up (rr_up B 21 r 0) 23 r 0 else B
theorem rr_g3M {B : Nat → Nat → Int32} {r n : Nat} {x3 x4 : Value} (hr : r < 3) (hq : Q none (rr_h (rr_g5 (rr_g4 (rr_g3 B r) r n) r n) t)) : rb_wp (d + 1) 71 158 [.ref 0, .int (nI n), .int (nI r), x3, x4] [] (rr_h B t) Q := by
  repeat (first | refine rw_step rfl rfl ?_ | refine rr_ld rfl rfl rfl (by omega) rfl ?_)
  refine rw_if rfl (fun h1 => ?_) (fun h1 => ?_)
  · rw [rr_g3, if_neg (rw_ne h1)] at hq
    exact rr_g4M hr hq
  · rw [rr_g3, if_pos (rw_neF h1)] at hq
    refine rw_step rfl rfl ?_
    refine rw_step rfl rfl ?_
    refine rw_step rfl rfl ?_
    refine rw_step rfl rfl ?_
    refine rr_st rfl (fun _ => rfl) rfl (by omega) rfl ?_
    refine rw_step rfl rfl ?_
    refine rw_step rfl rfl ?_
    refine rw_step rfl rfl ?_
    refine rw_step rfl rfl ?_
    refine rr_st rfl (fun _ => rfl) rfl (by omega) rfl ?_
    exact rr_g4M hr hq
def rr_g2 (B : Nat → Nat → Int32) (r : Nat) : Nat → Nat → Int32 := if B 1 r ≤ 0 then B else rr_up B 22 r (rr_rem (B 22 r) (B 1 r))
theorem rr_g2M {B : Nat → Nat → Int32} {r n : Nat} {x3 x4 : Value} (hr : r < 3) (hq : Q none (rr_h (rr_g5 (rr_g4 (rr_g3 (rr_g2 B r) r) r n) r n) t)) : rb_wp (d + 1) 71 130 [.ref 0, .int (nI n), .int (nI r), x3, x4] [] (rr_h B t) Q := by
  repeat (first | refine rw_step rfl rfl ?_ | refine rr_ld rfl rfl rfl (by omega) rfl ?_)
  refine rw_if rfl (fun h1 => ?_) (fun h1 => ?_)
  · rw [rr_g2, if_pos (of_decide_eq_true h1)] at hq
    exact rr_g3M hr hq
  · have h2 : ¬ B 1 r ≤ 0 := of_decide_eq_false h1
    rw [rr_g2, if_neg h2] at hq
    repeat (first | refine rw_step rfl rfl ?_ | refine rr_ld rfl rfl rfl (by omega) rfl ?_)
    refine rw_rem rfl (fun h9 => h2 (by rw [h9]; decide)) ?_
    refine rr_st rfl (fun _ => rfl) rfl (by omega) rfl ?_
    exact rr_g3M hr hq
def rr_g1 (B : Nat → Nat → Int32) (r : Nat) (p : Int32) : Nat → Nat → Int32 := rr_up B 22 r (if B 22 r ≤ p then B 22 r else B 22 r - 1)
theorem rr_g1M {B : Nat → Nat → Int32} {r n : Nat} {p : Int32} {x4 : Value} (hr : r < 3) (hq : Q none (rr_h (rr_g5 (rr_g4 (rr_g3 (rr_g2 (rr_g1 B r p) r) r) r n) r n) t)) : rb_wp (d + 1) 71 97 [.ref 0, .int (nI n), .int (nI r), .int p, x4] [] (rr_h B t) Q := by
  repeat (first | refine rw_step rfl rfl ?_ | refine rr_ld rfl rfl rfl (by omega) rfl ?_)
  refine rw_icmp rfl (fun h1 => ?_) (fun h1 => ?_)
  · rw [rr_g1, if_pos (of_decide_eq_true h1)] at hq
    refine rw_step rfl rfl ?_
    refine rw_step rfl rfl ?_
    refine rw_step rfl rfl ?_
    refine rr_ld rfl rfl rfl (by omega) rfl ?_
    refine rr_st rfl (fun _ => rfl) rfl (by omega) rfl ?_
    exact rr_g2M hr hq
  · rw [rr_g1, if_neg (of_decide_eq_false h1)] at hq
    refine rw_step rfl rfl ?_
    refine rw_step rfl rfl ?_
    refine rw_step rfl rfl ?_
    refine rr_ld rfl rfl rfl (by omega) rfl ?_
    refine rw_step rfl rfl ?_
    refine rw_step rfl rfl ?_
    refine rw_step rfl rfl ?_
    refine rr_st rfl (fun _ => rfl) rfl (by omega) rfl ?_
    exact rr_g2M hr hq
end RRT
