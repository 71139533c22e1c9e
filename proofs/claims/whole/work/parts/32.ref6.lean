/-! the reference: answer, accept -/
theorem rw_ne {x y : Int32} (h : rb_cmp .ne x y = true) : ¬ x = y := by simpa [rb_cmp] using h
theorem rw_neF {x y : Int32} (h : rb_cmp .ne x y = false) : x = y := by simpa [rb_cmp] using h
theorem rw_eq {x y : Int32} (h : rb_cmp .eq x y = true) : x = y := by simpa [rb_cmp] using h
theorem rw_eqF {x y : Int32} (h : rb_cmp .eq x y = false) : ¬ x = y := by simpa [rb_cmp] using h
section RRG
variable {d : Nat} {Q : Option Value → rb_H → Prop} {A : Nat → Nat → Int32} {t : Int32}
def rr_one (A : Nat → Nat → Int32) (c : Nat) : Int32 := if A 40 c < 0 then A 39 c else A 40 c
def rr_two (A : Nat → Nat → Int32) (c : Nat) : Int32 := if A 40 c < 0 then -1 else A 39 c
def rr_ans0 (A : Nat → Nat → Int32) (c : Nat) (k one two : Int32) : Nat → Nat → Int32 := rr_up (rr_up (rr_up (rr_make A k 2 (A 37 c) (A 36 c) one two) 17 63 (nI c)) 18 63 (A 41 c)) 19 63 (rr_rem (A 49 c) 8)
def rr_ans (A : Nat → Nat → Int32) (c : Nat) (k : Int32) (n w : Nat) : Nat → Nat → Int32 := rr_queue (rr_ans0 A c k (rr_one A c) (rr_two A c)) n w
theorem rr_ans_tail {c n w : Nat} {k one two : Int32} (hc : c < 4) (hn : n < 15) (hto : A 37 c = nI (n + 1)) (hw : A 4 n = nI w) (hw4 : w ≤ 4) (hq : Q none (rr_h (rr_queue (rr_ans0 A c k one two) n w) t)) : rb_wp (d + 2) 64 46 [.ref 0, .int (nI c), .int k, .int one, .int two] [] (rr_h A t) Q := by
  repeat (first | refine rw_step rfl rfl ?_ | refine rr_ld rfl rfl rfl (by omega) rfl ?_)
  refine rw_call rfl rfl rfl ?_
  refine rr_makeFrame ?_
  repeat (first | refine rr_st (i := 63) rfl (fun _ => rfl) rfl (by omega) rfl ?_ | refine rw_step rfl rfl ?_ | refine rr_ld rfl rfl rfl (by omega) rfl ?_)
  refine rw_call rfl rfl rfl ?_
  have e1 : A 37 c - 1 = nI n := by rw [hto]; exact nI_pred n
  show rb_cw (d + 2) 54 [.ref 0, .int (A 37 c - 1)] (rr_h (rr_ans0 A c k one two) t) _
  rw [e1]
  refine rr_queueNew hn hw hw4 ?_
  refine rw_ret rfl rfl rfl ?_
  exact hq
theorem rr_answer {c n w : Nat} {k : Int32} (hc : c < 4) (hn : n < 15) (hto : A 37 c = nI (n + 1)) (hw : A 4 n = nI w) (hw4 : w ≤ 4) (hq : Q none (rr_h (rr_ans A c k n w) t)) : rb_cw (d + 3) 64 [.ref 0, .int (nI c), .int k] (rr_h A t) Q := by
  refine rw_ent rfl rfl rfl ?_
  repeat (first | refine rw_step rfl rfl ?_ | refine rr_ld rfl rfl rfl (by omega) rfl ?_)
  refine rw_if rfl (fun h1 => ?_) (fun h1 => ?_)
  · have h2 : A 40 c < 0 := of_decide_eq_true h1
    rw [rr_ans, rr_one, rr_two, if_pos h2, if_pos h2] at hq
    repeat (first | refine rw_step rfl rfl ?_ | refine rr_ld rfl rfl rfl (by omega) rfl ?_)
    refine rw_if rfl (fun _ => ?_) (fun h3 => absurd (h1.symm.trans h3) (by decide))
    refine rw_step rfl rfl ?_
    refine rw_step rfl rfl ?_
    exact rr_ans_tail hc hn hto hw hw4 hq
  · have h2 : ¬ A 40 c < 0 := of_decide_eq_false h1
    rw [rr_ans, rr_one, rr_two, if_neg h2, if_neg h2] at hq
    repeat (first | refine rw_step rfl rfl ?_ | refine rr_ld rfl rfl rfl (by omega) rfl ?_)
    refine rw_if rfl (fun h3 => absurd (h3.symm.trans h1) (by decide)) (fun _ => ?_)
    refine rw_step rfl rfl ?_
    refine rw_step rfl rfl ?_
    refine rw_step rfl rfl ?_
    refine rr_ld rfl rfl rfl (by omega) rfl ?_
    refine rw_step rfl rfl ?_
    refine rw_step rfl rfl ?_
    exact rr_ans_tail hc hn hto hw hw4 hq
def rr_late (A : Nat → Nat → Int32) (c : Nat) (s : Int32) : Int32 := rr_rem (rr_rem (A 49 c) 8 - s + 8) 8
def rr_take (A : Nat → Nat → Int32) (c ib : Nat) (v : Int32) : Nat → Nat → Int32 := rr_up (rr_up (rr_up (rr_up A 51 (4 * c + ib) v) 50 c (A 50 c + 1)) 49 c (A 49 c + 1)) 52 c 0
def rr_acc (A : Nat → Nat → Int32) (c : Nat) (s v : Int32) (ib n w : Nat) : Nat → Nat → Int32 :=
  if rr_late A c s = 0 ∧ ¬ 4 ≤ A 50 c then rr_ans (rr_take A c ib v) c 3 n w
  else if rr_late A c s = 0 then rr_ans (rr_up A 53 c 1) c 5 n w
  else if ¬ 4 < rr_late A c s then rr_ans A c 3 n w
  else if A 52 c = 0 then rr_ans (rr_up A 52 c 1) c 4 n w else A
theorem rr_accept {c ib n w : Nat} {s v : Int32} (hc : c < 4) (hib : A 50 c = nI ib) (hib4 : ib ≤ 4) (hn : n < 15) (hto : A 37 c = nI (n + 1)) (hw : A 4 n = nI w) (hw4 : w ≤ 4) (hq : Q none (rr_h (rr_acc A c s v ib n w) t)) : rb_cw (d + 4) 65 [.ref 0, .int (nI c), .int s, .int v] (rr_h A t) Q := by
  refine rw_ent rfl rfl rfl ?_
  repeat (first | refine rw_step rfl rfl ?_ | refine rr_ld rfl rfl rfl (by omega) rfl ?_)
  have low : (¬ (rr_late A c s = 0 ∧ ¬ 4 ≤ A 50 c)) → rb_wp (d + 3) 65 90 [.ref 0, .int (nI c), .int s, .int v, .int (rr_rem (A 49 c) 8), .int (rr_late A c s)] [] (rr_h A t) Q := by
    intro hne
    rw [rr_acc, if_neg hne] at hq
    repeat refine rw_step rfl rfl ?_
    refine rw_if rfl (fun h1 => ?_) (fun h1 => ?_)
    · have h1 : ¬ rr_late A c s = 0 := by simpa [rb_cmp] using h1
      rw [if_neg h1] at hq
      repeat refine rw_step rfl rfl ?_
      refine rw_icmp rfl (fun h2 => ?_) (fun h2 => ?_)
      · have h2 : 4 < rr_late A c s := of_decide_eq_true h2
        rw [if_neg (fun h9 => h9 h2)] at hq
        repeat (first | refine rw_step rfl rfl ?_ | refine rr_ldz rfl rfl rfl (by omega) rfl ?_)
        refine rw_if rfl (fun h3 => ?_) (fun h3 => ?_)
        · have h3 : ¬ A 52 c = 0 := by simpa [rb_cmp] using h3
          rw [if_neg h3] at hq
          refine rw_ret rfl rfl rfl ?_
          exact hq
        · have h3 : A 52 c = 0 := by simpa [rb_cmp] using h3
          rw [if_pos h3] at hq
          repeat (first | refine rw_step rfl rfl ?_ | refine rr_stz rfl rfl (fun _ => rfl) rfl (by omega) rfl ?_)
          refine rw_call rfl rfl rfl ?_
          refine rr_answer hc hn hto hw hw4 ?_
          refine rw_ret rfl rfl rfl ?_
          exact hq
      · have h2 : ¬ 4 < rr_late A c s := of_decide_eq_false h2
        rw [if_pos h2] at hq
        repeat refine rw_step rfl rfl ?_
        refine rw_call rfl rfl rfl ?_
        refine rr_answer hc hn hto hw hw4 ?_
        refine rw_step rfl rfl ?_
        refine rw_ret rfl rfl rfl ?_
        exact hq
    · have h1 : rr_late A c s = 0 := by simpa [rb_cmp] using h1
      rw [if_pos h1] at hq
      repeat (first | refine rw_step rfl rfl ?_ | refine rr_stz rfl rfl (fun _ => rfl) rfl (by omega) rfl ?_)
      refine rw_call rfl rfl rfl ?_
      refine rr_answer hc hn hto hw hw4 ?_
      refine rw_step rfl rfl ?_
      refine rw_ret rfl rfl rfl ?_
      exact hq
  refine rw_if rfl (fun h1 => ?_) (fun h1 => ?_)
  · have h1 : ¬ rr_late A c s = 0 := rw_ne h1
    exact low (fun h9 => h1 h9.1)
  have h1 : rr_late A c s = 0 := rw_neF h1
  repeat (first | refine rw_step rfl rfl ?_ | refine rr_ld rfl rfl rfl (by omega) rfl ?_)
  refine rw_icmp rfl (fun h2 => ?_) (fun h2 => ?_)
  · have h2 : 4 ≤ A 50 c := of_decide_eq_true h2
    exact low (fun h9 => h9.2 h2)
  have h2 : ¬ 4 ≤ A 50 c := of_decide_eq_false h2
  have hib3 : ib < 4 := by
    refine Nat.lt_of_le_of_ne hib4 (fun h9 => h2 ?_)
    subst h9
    rw [hib]
    decide
  rw [rr_acc, if_pos ⟨h1, h2⟩] at hq
  repeat (first | refine rw_step rfl rfl ?_ | refine rr_ld rfl rfl rfl (by omega) rfl ?_)
  have e1 : (4 : Int32) * nI c + A 50 c = nI (4 * c + ib) := by rw [rr_c4, hib, nI_add]
  refine rr_st (i := 4 * c + ib) rfl (fun _ => rfl) e1 (by omega) rfl ?_
  repeat (first | refine rw_step rfl rfl ?_ | refine rr_ld rfl rfl rfl (by omega) rfl ?_ | refine rr_st rfl (fun _ => rfl) rfl (by omega) rfl ?_ | refine rr_stz rfl rfl (fun _ => rfl) rfl (by omega) rfl ?_)
  refine rw_call rfl rfl rfl ?_
  refine rr_answer (n := n) hc hn hto hw hw4 ?_
  refine rw_step rfl rfl ?_
  refine rw_ret rfl rfl rfl ?_
  exact hq
end RRG
