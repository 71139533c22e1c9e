/-! the reference: move in silence -/
section RRP
variable {d : Nat} {Q : Option Value → rb_H → Prop} {A : Nat → Nat → Int32} {t : Int32}
def rr_q1 (A : Nat → Nat → Int32) (r : Nat) : Nat → Nat → Int32 := rr_up A 23 r (A 23 r + 1)
def rr_q2 (A : Nat → Nat → Int32) (r : Nat) : Nat → Nat → Int32 := rr_up (rr_q1 A r) 23 r 0
def rr_quiet (A : Nat → Nat → Int32) (r l m : Nat) : Nat → Nat → Int32 :=
  if ¬ 6 ≤ rr_q1 A r 23 r then rr_q1 A r
  else if A 30 r = 0 then rr_up (rr_up (rr_up (rr_q2 A r) 21 r 3) 29 r (rr_addr (nI l))) 22 r (rr_rem (A 0 l + 1) (A 1 r))
  else rr_purge (rr_q2 A r) r m
set_option maxRecDepth 100000 in
theorem rr_moveQuiet {r l m : Nat} (hr : r < 3) (hmem : ¬ A 1 r = 0) (hsig : A 21 r = 0) (hl : 6 ≤ rr_q1 A r 23 r → A 30 r = 0 → l < 15 ∧ rr_at (rr_q2 A r) (nI r) 0 15 = nI l ∧ A 3 l = nI r) (hm : 6 ≤ rr_q1 A r 23 r → ¬ A 30 r = 0 → m < 15 ∧ rr_with (rr_q2 A r) (nI r) (A 30 r) 15 = nI m ∧ A 3 m = nI r) (hq : Q none (rr_h (rr_quiet A r l m) t)) : rb_cw (d + 4) 62 [.ref 0, .int (nI r)] (rr_h A t) Q := by
  refine rw_ent rfl rfl rfl ?_
  repeat (first | refine rw_step rfl rfl ?_ | refine rr_ld rfl rfl rfl (by omega) rfl ?_)
  refine rw_if rfl (fun _ => ?_) (fun h1 => absurd (rw_neF h1) hmem)
  repeat (first | refine rw_step rfl rfl ?_ | refine rr_ld rfl rfl rfl (by omega) rfl ?_)
  refine rw_if rfl (fun h1 => absurd hsig (rw_ne h1)) (fun _ => ?_)
  repeat (first | refine rw_step rfl rfl ?_ | refine rr_ld rfl rfl rfl (by omega) rfl ?_ | refine rr_st rfl (fun _ => rfl) rfl (by omega) rfl ?_)
  refine rw_icmp rfl (fun h1 => ?_) (fun h1 => ?_)
  · have h1 : 6 ≤ rr_q1 A r 23 r := of_decide_eq_true h1
    rw [rr_quiet, if_neg (fun h9 => h9 h1)] at hq
    repeat (first | refine rw_step rfl rfl ?_ | refine rr_st rfl (fun _ => rfl) rfl (by omega) rfl ?_)
    refine rw_call rfl rfl rfl ?_
    show rb_cw (d + 3) 48 [.ref 0, .int (nI r), .int 0] (rr_h (rr_q2 A r) t) _
    refine rr_nodeAt ?_
    repeat (first | refine rw_step rfl rfl ?_ | refine rr_ld rfl rfl rfl (by omega) rfl ?_)
    refine rw_if rfl (fun h2 => ?_) (fun h2 => ?_)
    · have h2 : A 30 r = 0 := rw_eq h2
      rw [if_pos h2] at hq
      obtain ⟨g1, g2, g3⟩ := hl h1 h2
      rw [g2]
      repeat (first | refine rw_step rfl rfl ?_ | refine rr_st rfl (fun _ => rfl) rfl (by omega) rfl ?_)
      refine rw_call rfl rfl rfl ?_
      refine rr_addressOf ?_
      refine rr_st rfl (fun _ => rfl) rfl (by omega) rfl ?_
      repeat refine rw_step rfl rfl ?_
      refine rw_call rfl rfl rfl ?_
      refine rr_behind (r := r) g1 g3 hr hmem ?_
      refine rr_st rfl (fun _ => rfl) rfl (by omega) rfl ?_
      refine rw_ret rfl rfl rfl ?_
      exact hq
    · have h2 : ¬ A 30 r = 0 := rw_eqF h2
      rw [if_neg h2] at hq
      obtain ⟨g1, g2, g3⟩ := hm h1 h2
      repeat refine rw_step rfl rfl ?_
      refine rw_call rfl rfl rfl ?_
      refine rr_purgeM (A := rr_q2 A r) (m := m) hr g1 g2 g3 hmem ?_
      refine rw_step rfl rfl ?_
      refine rw_ret rfl rfl rfl ?_
      exact hq
  · have h1 : ¬ 6 ≤ rr_q1 A r 23 r := of_decide_eq_false h1
    rw [rr_quiet, if_pos h1] at hq
    refine rw_ret rfl rfl rfl ?_
    exact hq
end RRP
