/-! the reference: frame -/
section RRN
variable {d : Nat} {Q : Option Value → rb_H → Prop} {A : Nat → Nat → Int32} {t : Int32}
def rr_max (w v : Int32) : Int32 := if w ≤ v then v else w
def rr_fe1 (A : Nat → Nat → Int32) (r : Nat) : Nat → Nat → Int32 := rr_up A 31 (3 * r + 2) (A 31 (3 * r + 2) + (if A 28 r = 0 then 1 else 0))
def rr_fe2 (B : Nat → Nat → Int32) (r n q : Nat) (m : Int32) : Nat → Nat → Int32 := if m ≤ B 24 r then rr_tok B r (B 24 r) m else rr_tok (rr_up (rr_up (rr_up B 6 (8 * n + q) (B 24 r)) 7 (8 * n + q) m) 5 n (B 5 n + 1)) r m 0
theorem rr_fe2M {B : Nat → Nat → Int32} {r n q : Nat} {m : Int32} {x3 x4 x5 : Value} (hr : r < 3) (hn : n < 15) (hqv : B 5 n = nI q) (hq7 : q ≤ 7) (hq : Q none (rr_h (rr_fe2 B r n q m) t)) : rb_wp (d + 1) 61 66 [.ref 0, .int (nI r), .int (nI n), x3, x4, x5] [.int m] (rr_h B t) Q := by
  have etop : (8 : Int32) * nI n + B 5 n = nI (8 * n + q) := by rw [rr_c8, hqv, nI_add]
  repeat (first | refine rw_step rfl rfl ?_ | refine rr_ld rfl rfl rfl (by omega) rfl ?_)
  refine rw_icmp rfl (fun h1 => ?_) (fun h1 => ?_)
  · rw [rr_fe2, if_pos (of_decide_eq_true h1)] at hq
    repeat refine rw_step rfl rfl ?_
    refine rw_call rfl rfl rfl ?_
    refine rr_setToken hr ?_
    refine rw_ret rfl rfl rfl ?_
    exact hq
  · rw [rr_fe2, if_neg (of_decide_eq_false h1)] at hq
    repeat (first | refine rw_step rfl rfl ?_ | refine rr_ld rfl rfl rfl (by omega) rfl ?_)
    refine rr_st (i := 8 * n + q) rfl (fun _ => rfl) etop (by omega) rfl ?_
    repeat (first | refine rw_step rfl rfl ?_ | refine rr_ld rfl rfl rfl (by omega) rfl ?_)
    refine rr_st (i := 8 * n + q) rfl (fun _ => rfl) etop (by omega) rfl ?_
    repeat (first | refine rw_step rfl rfl ?_ | refine rr_ld rfl rfl rfl (by omega) rfl ?_ | refine rr_st rfl (fun _ => rfl) rfl (by omega) rfl ?_)
    refine rw_call rfl rfl rfl ?_
    refine rr_setToken hr ?_
    refine rw_step rfl rfl ?_
    refine rw_ret rfl rfl rfl ?_
    exact hq
theorem rr_fe1M {B : Nat → Nat → Int32} {r n q : Nat} {w : Int32} {x4 x5 : Value} (hr : r < 3) (hn : n < 15) (hqv : B 5 n = nI q) (hq7 : q ≤ 7) (hq : Q none (rr_h (rr_fe2 B r n q (rr_max w (B 25 r))) t)) : rb_wp (d + 1) 61 46 [.ref 0, .int (nI r), .int (nI n), .int w, x4, x5] [] (rr_h B t) Q := by
  refine rw_step rfl rfl ?_
  refine rw_step rfl rfl ?_
  refine rw_step rfl rfl ?_
  refine rw_step rfl rfl ?_
  refine rr_ld rfl rfl rfl (by omega) rfl ?_
  refine rw_icmp rfl (fun h1 => ?_) (fun h1 => ?_)
  · rw [rr_max, if_pos (of_decide_eq_true h1)] at hq
    refine rw_step rfl rfl ?_
    refine rw_step rfl rfl ?_
    refine rw_step rfl rfl ?_
    refine rr_ld rfl rfl rfl (by omega) rfl ?_
    exact rr_fe2M hr hn hqv hq7 hq
  · rw [rr_max, if_neg (of_decide_eq_false h1)] at hq
    refine rw_step rfl rfl ?_
    refine rw_step rfl rfl ?_
    exact rr_fe2M hr hn hqv hq7 hq
theorem rr_frameEnd {r n q : Nat} {w : Int32} {x4 x5 : Value} (hr : r < 3) (hn : n < 15) (hqv : A 5 n = nI q) (hq7 : q ≤ 7) (hq : Q none (rr_h (rr_fe2 (rr_fe1 A r) r n q (rr_max w (A 25 r))) t)) : rb_wp (d + 1) 61 19 [.ref 0, .int (nI r), .int (nI n), .int w, x4, x5] [] (rr_h A t) Q := by
  have e1 : (3 : Int32) * nI r + 2 = nI (3 * r + 2) := by rw [rr_c3, lw_nI2]
  repeat refine rw_step rfl rfl ?_
  refine rr_ld (i := 3 * r + 2) rfl rfl e1 (by omega) rfl ?_
  repeat (first | refine rw_step rfl rfl ?_ | refine rr_ldz rfl rfl rfl (by omega) rfl ?_)
  refine rw_if rfl (fun h1 => ?_) (fun h1 => ?_)
  · have h1 : A 28 r = 0 := rw_eq h1
    rw [rr_fe1, if_pos h1] at hq
    refine rw_step rfl rfl ?_
    refine rw_step rfl rfl ?_
    refine rr_st (i := 3 * r + 2) rfl (fun _ => rfl) e1 (by omega) rfl ?_
    exact rr_fe1M (B := rr_up A 31 (3 * r + 2) (A 31 (3 * r + 2) + 1)) hr hn hqv hq7 hq
  · have h1 : ¬ A 28 r = 0 := rw_eqF h1
    rw [rr_fe1, if_neg h1] at hq
    refine rw_step rfl rfl ?_
    refine rw_step rfl rfl ?_
    refine rw_step rfl rfl ?_
    refine rr_st (i := 3 * r + 2) rfl (fun _ => rfl) e1 (by omega) rfl ?_
    exact rr_fe1M (B := rr_up A 31 (3 * r + 2) (A 31 (3 * r + 2) + 0)) hr hn hqv hq7 hq
def rr_fp (C : Nat → Nat → Int32) (r n : Nat) : Nat → Nat → Int32 := rr_up C 25 r (rr_max (rr_wish C n) (C 25 r))
theorem rr_fpM {C : Nat → Nat → Int32} {r n : Nat} {x3 x4 x5 : Value} (hr : r < 3) (hn : n < 15) (hq : Q none (rr_h (rr_fp C r n) t)) : rb_wp (d + 1) 61 175 [.ref 0, .int (nI r), .int (nI n), x3, x4, x5] [] (rr_h C t) Q := by
  repeat refine rw_step rfl rfl ?_
  refine rw_call rfl rfl rfl ?_
  refine rr_wishM hn ?_
  repeat (first | refine rw_step rfl rfl ?_ | refine rr_ld rfl rfl rfl (by omega) rfl ?_)
  refine rw_icmp rfl (fun h1 => ?_) (fun h1 => ?_)
  · rw [rr_fp, rr_max, if_pos (of_decide_eq_true h1)] at hq
    repeat (first | refine rw_step rfl rfl ?_ | refine rr_ld rfl rfl rfl (by omega) rfl ?_ | refine rr_st rfl (fun _ => rfl) rfl (by omega) rfl ?_)
    refine rw_ret rfl rfl rfl ?_
    exact hq
  · rw [rr_fp, rr_max, if_neg (of_decide_eq_false h1)] at hq
    repeat (first | refine rw_step rfl rfl ?_ | refine rr_st rfl (fun _ => rfl) rfl (by omega) rfl ?_)
    refine rw_ret rfl rfl rfl ?_
    exact hq
/-- frame: C is what receive makes of the state behind watch -/
def rr_frame (A : Nat → Nat → Int32) (r n q : Nat) (C : Nat → Nat → Int32) : Nat → Nat → Int32 :=
  if rr_addr (nI n) = A 29 r then rr_fe2 (rr_fe1 A r) r n q (rr_max (rr_wish A n) (A 25 r))
  else if ¬ (rr_watch A r n).1 = 0 then (rr_watch A r n).2
  else if (rr_watch A r n).2 27 r = 0 then rr_fp C r n else rr_fp (rr_watch A r n).2 r n
theorem rr_frameM {r n q : Nat} {C : Nat → Nat → Int32} (hr : r < 3) (hn : n < 15) (hqv : A 5 n = nI q) (hq7 : q ≤ 7) (hwi : rr_with A (nI r) (rr_addr (nI n)) 15 = nI n) (hnr : A 3 n = nI r) (hmem : ¬ A 1 r = 0) (hrec : ∀ Q' : Option Value → rb_H → Prop, Q' none (rr_h C t) → rb_cw (d + 5) 63 [.ref 0, .int (nI r), .int (nI n)] (rr_h (rr_watch A r n).2 t) Q') (hq : Q none (rr_h (rr_frame A r n q C) t)) : rb_cw (d + 6) 61 [.ref 0, .int (nI r), .int (nI n)] (rr_h A t) Q := by
  refine rw_ent rfl rfl rfl ?_
  repeat refine rw_step rfl rfl ?_
  refine rw_call rfl rfl rfl ?_
  refine rr_wishM hn ?_
  repeat refine rw_step rfl rfl ?_
  refine rw_call rfl rfl rfl ?_
  refine rr_addressOf ?_
  repeat (first | refine rw_step rfl rfl ?_ | refine rr_ld rfl rfl rfl (by omega) rfl ?_)
  refine rw_icmp rfl (fun h1 => ?_) (fun h1 => ?_)
  · have h1 : ¬ rr_addr (nI n) = A 29 r := rw_ne h1
    rw [rr_frame, if_neg h1] at hq
    repeat refine rw_step rfl rfl ?_
    refine rw_call rfl rfl rfl ?_
    refine rr_watchM hr hn hwi hnr hmem ?_
    refine rw_if rfl (fun h2 => ?_) (fun h2 => ?_)
    · have h2 : (rr_watch A r n).1 = 0 := rw_eq h2
      rw [if_neg (fun h9 => h9 h2)] at hq
      repeat (first | refine rw_step rfl rfl ?_ | refine rr_ldz rfl rfl rfl (by omega) rfl ?_)
      refine rw_if rfl (fun h3 => ?_) (fun h3 => ?_)
      · rw [if_neg (rw_ne h3)] at hq
        exact rr_fpM hr hn hq
      · rw [if_pos (rw_neF h3)] at hq
        repeat refine rw_step rfl rfl ?_
        refine rw_call rfl rfl rfl ?_
        refine hrec _ ?_
        exact rr_fpM hr hn hq
    · have h2 : ¬ (rr_watch A r n).1 = 0 := rw_eqF h2
      rw [if_pos h2] at hq
      refine rw_ret rfl rfl rfl ?_
      exact hq
  · have h1 : rr_addr (nI n) = A 29 r := rw_neF h1
    rw [rr_frame, if_pos h1] at hq
    exact rr_frameEnd hr hn hqv hq7 hq
end RRN
