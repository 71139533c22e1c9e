/-! the reference: receive at a station -/
section RRK
variable {d : Nat} {Q : Option Value → rb_H → Prop} {A : Nat → Nat → Int32} {t : Int32}
def rr_use (B : Nat → Nat → Int32) (f c ib nn ww mm o : Nat) : Nat → Nat → Int32 := if B 35 c = 1 ∧ B 41 c = B 18 f then (if B 8 f = 2 then rr_acc B c (B 19 f) (B 20 f) ib nn ww else rr_hear B c (B 8 f) (B 19 f) mm o) else B
set_option maxRecDepth 100000 in
theorem rr_useM {B : Nat → Nat → Int32} {r c ib nn ww mm o : Nat} {x2 x4 x5 x6 : Value} (hr : r < 3) (hc : c < 4) (hcl : B 17 (60 + r) = nI c) (hA : (B 35 c = 1 ∧ B 41 c = B 18 (60 + r)) → B 8 (60 + r) = 2 → B 50 c = nI ib ∧ ib ≤ 4 ∧ nn < 15 ∧ B 37 c = nI (nn + 1) ∧ B 4 nn = nI ww ∧ ww ≤ 4) (hH : (B 35 c = 1 ∧ B 41 c = B 18 (60 + r)) → ¬ B 8 (60 + r) = 2 → rr_many B c (B 19 (60 + r)) = nI mm ∧ B 44 c = nI o ∧ o ≤ 8 ∧ (rr_many B c (B 19 (60 + r)) ≤ B 43 c → mm ≤ o)) (hq : Q none (rr_h (rr_use B (60 + r) c ib nn ww mm o) t)) : rb_wp (d + 4) 63 418 [.ref 0, .int (nI r), x2, .int (nI (60 + r)), x4, x5, x6] [] (rr_h B t) Q := by
  repeat (first | refine rw_step rfl rfl ?_ | refine rr_ld rfl rfl rfl (by omega) rfl ?_)
  refine rr_ld (i := c) rfl rfl hcl (by omega) rfl ?_
  repeat refine rw_step rfl rfl ?_
  refine rw_icmp rfl (fun h1 => ?_) (fun h1 => ?_)
  · have h1 : ¬ B 35 c = 1 := rw_ne h1
    rw [rr_use, if_neg (fun h9 => h1 h9.1)] at hq
    refine rw_ret rfl rfl rfl ?_
    exact hq
  have h1 : B 35 c = 1 := rw_neF h1
  repeat (first | refine rw_step rfl rfl ?_ | refine rr_ld rfl rfl rfl (by omega) rfl ?_)
  refine rr_ld (i := c) rfl rfl hcl (by omega) rfl ?_
  repeat (first | refine rw_step rfl rfl ?_ | refine rr_ld rfl rfl rfl (by omega) rfl ?_)
  refine rw_icmp rfl (fun h2 => ?_) (fun h2 => ?_)
  · have h2 : ¬ B 41 c = B 18 (60 + r) := rw_ne h2
    rw [rr_use, if_neg (fun h9 => h2 h9.2)] at hq
    refine rw_ret rfl rfl rfl ?_
    exact hq
  have h2 : B 41 c = B 18 (60 + r) := rw_neF h2
  rw [rr_use, if_pos ⟨h1, h2⟩] at hq
  repeat (first | refine rw_step rfl rfl ?_ | refine rr_ld rfl rfl rfl (by omega) rfl ?_)
  refine rw_icmp rfl (fun h3 => ?_) (fun h3 => ?_)
  · have h3 : ¬ B 8 (60 + r) = 2 := rw_ne h3
    rw [if_neg h3] at hq
    obtain ⟨g1, g2, g3, g4⟩ := hH ⟨h1, h2⟩ h3
    repeat (first | refine rw_step rfl rfl ?_ | refine rr_ld rfl rfl rfl (by omega) rfl ?_)
    refine rw_call rfl rfl rfl ?_
    show rb_cw (d + 4) 66 [.ref 0, .int (B 17 (60 + r)), .int (B 8 (60 + r)), .int (B 19 (60 + r))] (rr_h B t) _
    rw [hcl]
    refine rr_heard hc g1 g2 g3 g4 ?_
    refine rw_ret rfl rfl rfl ?_
    exact hq
  · have h3 : B 8 (60 + r) = 2 := rw_neF h3
    rw [if_pos h3] at hq
    obtain ⟨g1, g2, g3, g4, g5, g6⟩ := hA ⟨h1, h2⟩ h3
    repeat (first | refine rw_step rfl rfl ?_ | refine rr_ld rfl rfl rfl (by omega) rfl ?_)
    refine rw_call rfl rfl rfl ?_
    show rb_cw (d + 4) 65 [.ref 0, .int (B 17 (60 + r)), .int (B 19 (60 + r)), .int (B 20 (60 + r))] (rr_h B t) _
    rw [hcl]
    refine rr_accept hc g1 g2 g3 g4 g5 g6 ?_
    refine rw_step rfl rfl ?_
    refine rw_ret rfl rfl rfl ?_
    exact hq
def rr_learn (B : Nat → Nat → Int32) (f x : Nat) : Nat → Nat → Int32 := if B 32 x = 0 then rr_up (rr_up (rr_up B 32 x 1) 33 x (B 14 f)) 34 x (B 15 f) else B
theorem rr_c9 (n : Nat) : (9 : Int32) * nI n = nI (9 * n) := rr_mul 9 n
set_option maxRecDepth 100000 in
theorem rr_learnM {B : Nat → Nat → Int32} {r n m : Nat} {x2 x5 x6 : Value} (hr : r < 3) (hn : n < 9) (hm : m < 9) (hfrom : B 10 (60 + r) = nI (m + 1)) (hq : Q none (rr_h (rr_learn B (60 + r) (9 * n + m)) t)) : rb_wp d 63 353 [.ref 0, .int (nI r), x2, .int (nI (60 + r)), .int (nI (n + 1)), x5, x6] [] (rr_h B t) Q := by
  repeat (first | refine rw_step rfl rfl ?_ | refine rr_ld rfl rfl rfl (by omega) rfl ?_)
  have e1 : (9 : Int32) * (nI (n + 1) - 1) + B 10 (60 + r) - 1 = nI (9 * n + m) := by
    rw [nI_pred n, rr_c9, hfrom, nI_add]
    exact nI_pred (9 * n + m)
  refine rr_ldz (i := 9 * n + m) rfl rfl e1 (by omega) rfl ?_
  refine rw_if rfl (fun h1 => ?_) (fun h1 => ?_)
  · have h1 : ¬ B 32 (9 * n + m) = 0 := rw_ne h1
    rw [rr_learn, if_neg h1] at hq
    refine rw_step rfl rfl ?_
    refine rw_ret rfl rfl rfl ?_
    exact hq
  · have h1 : B 32 (9 * n + m) = 0 := rw_neF h1
    rw [rr_learn, if_pos h1] at hq
    repeat refine rw_step rfl rfl ?_
    refine rr_stz (i := 9 * n + m) rfl rfl (fun _ => rfl) e1 (by omega) rfl ?_
    repeat (first | refine rw_step rfl rfl ?_ | refine rr_ld rfl rfl rfl (by omega) rfl ?_)
    refine rr_st (i := 9 * n + m) rfl (fun _ => rfl) e1 (by omega) rfl ?_
    repeat (first | refine rw_step rfl rfl ?_ | refine rr_ld rfl rfl rfl (by omega) rfl ?_)
    refine rr_st (i := 9 * n + m) rfl (fun _ => rfl) e1 (by omega) rfl ?_
    refine rw_step rfl rfl ?_
    refine rw_ret rfl rfl rfl ?_
    exact hq
def rr_reply0 (B : Nat → Nat → Int32) (f : Nat) (a one two : Int32) : Nat → Nat → Int32 := rr_up (rr_up (rr_make B 1 2 a (B 10 f) one two) 14 63 (rr_make B 1 2 a (B 10 f) one two 14 f)) 15 63 (rr_make B 1 2 a (B 10 f) one two 15 f)
def rr_reply (B : Nat → Nat → Int32) (f n w : Nat) (a : Int32) : Nat → Nat → Int32 := if B 15 f < 0 then rr_queue (rr_reply0 B f a (B 14 f) (-1)) n w else rr_queue (rr_reply0 B f a (B 15 f) (B 14 f)) n w
set_option maxRecDepth 100000 in
theorem rr_replyTail {B : Nat → Nat → Int32} {r n w : Nat} {a one two : Int32} (hr : r < 3) (hn : n < 15) (hw : B 4 n = nI w) (hw4 : w ≤ 4) (hq : Q none (rr_h (rr_queue (rr_reply0 B (60 + r) a one two) n w) t)) : rb_wp (d + 2) 63 291 [.ref 0, .int (nI r), .int (nI n), .int (nI (60 + r)), .int a, .int one, .int two] [] (rr_h B t) Q := by
  repeat (first | refine rw_step rfl rfl ?_ | refine rr_ld rfl rfl rfl (by omega) rfl ?_)
  refine rw_call rfl rfl rfl ?_
  refine rr_makeFrame ?_
  repeat (first | refine rr_st (i := 63) rfl (fun _ => rfl) rfl (by omega) rfl ?_ | refine rw_step rfl rfl ?_ | refine rr_ld rfl rfl rfl (by omega) rfl ?_)
  refine rw_call rfl rfl rfl ?_
  refine rr_queueNew (w := w) hn hw hw4 ?_
  refine rw_step rfl rfl ?_
  refine rw_ret rfl rfl rfl ?_
  exact hq
set_option maxRecDepth 100000 in
theorem rr_replyM {B : Nat → Nat → Int32} {r n w : Nat} {a : Int32} {x5 x6 : Value} (hr : r < 3) (hn : n < 15) (hw : B 4 n = nI w) (hw4 : w ≤ 4) (hq : Q none (rr_h (rr_reply B (60 + r) n w a) t)) : rb_wp (d + 2) 63 244 [.ref 0, .int (nI r), .int (nI n), .int (nI (60 + r)), .int a, x5, x6] [] (rr_h B t) Q := by
  repeat (first | refine rw_step rfl rfl ?_ | refine rr_ld rfl rfl rfl (by omega) rfl ?_)
  refine rw_if rfl (fun h1 => ?_) (fun h1 => ?_)
  · rw [rr_reply, if_pos (of_decide_eq_true h1)] at hq
    repeat (first | refine rw_step rfl rfl ?_ | refine rr_ld rfl rfl rfl (by omega) rfl ?_)
    refine rw_if rfl (fun _ => ?_) (fun h3 => absurd (h1.symm.trans h3) (by decide))
    refine rw_step rfl rfl ?_
    refine rw_step rfl rfl ?_
    exact rr_replyTail hr hn hw hw4 hq
  · rw [rr_reply, if_neg (of_decide_eq_false h1)] at hq
    repeat (first | refine rw_step rfl rfl ?_ | refine rr_ld rfl rfl rfl (by omega) rfl ?_)
    refine rw_if rfl (fun h3 => absurd (h3.symm.trans h1) (by decide)) (fun _ => ?_)
    refine rw_step rfl rfl ?_
    refine rw_step rfl rfl ?_
    refine rw_step rfl rfl ?_
    refine rr_ld rfl rfl rfl (by omega) rfl ?_
    refine rw_step rfl rfl ?_
    refine rw_step rfl rfl ?_
    exact rr_replyTail hr hn hw hw4 hq
end RRK
