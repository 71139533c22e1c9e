/-! the reference: connect, its timer -/
section RRR
variable {d : Nat} {Q : Option Value → rb_H → Prop} {A : Nat → Nat → Int32} {t : Int32}
def rr_t1 (A : Nat → Nat → Int32) (c : Nat) : Nat → Nat → Int32 := rr_up A 47 c (if 0 < A 43 c ∨ ¬ A 46 c = 0 then A 47 c + 1 else 0)
def rr_t3 (B : Nat → Nat → Int32) (c : Nat) : Nat → Nat → Int32 := rr_up (rr_up (rr_up (rr_up B 48 c (B 48 c + 1)) 47 c 0) 43 c 0) 46 c 0
def rr_t2 (B : Nat → Nat → Int32) (c : Nat) : Nat → Nat → Int32 := if B 47 c = 60 then (if rr_t3 B c 48 c = 4 then rr_up (rr_t3 B c) 35 c 2 else rr_t3 B c) else B
theorem rr_connTail {D : Nat → Nat → Int32} {c n s o w : Nat} {x2 : Value} (hc : c < 4) (hn : n < 15) (hfrom : D 36 c = nI (n + 1)) (hs : D 43 c = nI s) (hs3 : s ≤ 3) (ho : D 44 c = nI o) (ho8 : o ≤ 8) (hw : D 4 n = nI w) (hw4 : w ≤ 4) (hq : Q none (rr_h (rr_dloop c n (3 - s) s w D) t)) : rb_wp (d + 2) 67 95 [.ref 0, .int (nI c), x2] [] (rr_h D t) Q := by
  refine rw_step rfl rfl ?_
  refine rw_step rfl rfl ?_
  refine rw_step rfl rfl ?_
  refine rr_ld rfl rfl rfl (by omega) rfl ?_
  refine rw_step rfl rfl ?_
  refine rw_step rfl rfl ?_
  refine rw_step rfl rfl ?_
  have e1 : D 36 c - 1 = nI n := by rw [hfrom]; exact nI_pred n
  show rb_wp (d + 2) 67 104 [.ref 0, .int (nI c), .int (D 36 c - 1)] [] (rr_h D t) Q
  rw [e1]
  exact rr_dloopM hc hn ho8 (3 - s) s w D (by omega) hs ho hw hw4 hq
theorem rr_connMid {B : Nat → Nat → Int32} {c n s o w : Nat} {x2 : Value} (hc : c < 4) (hn : n < 15) (hfrom : rr_t2 B c 36 c = nI (n + 1)) (hs : rr_t2 B c 43 c = nI s) (hs3 : s ≤ 3) (ho : rr_t2 B c 44 c = nI o) (ho8 : o ≤ 8) (hw : rr_t2 B c 4 n = nI w) (hw4 : w ≤ 4) (hq : Q none (rr_h (rr_dloop c n (3 - s) s w (rr_t2 B c)) t)) : rb_wp (d + 2) 67 36 [.ref 0, .int (nI c), x2] [] (rr_h B t) Q := by
  repeat (first | refine rw_step rfl rfl ?_ | refine rr_ld rfl rfl rfl (by omega) rfl ?_)
  refine rw_icmp rfl (fun h1 => ?_) (fun h1 => ?_)
  · have h1 : ¬ B 47 c = 60 := rw_ne h1
    rw [rr_t2, if_neg h1] at hfrom hs ho hw hq
    exact rr_connTail hc hn hfrom hs hs3 ho ho8 hw hw4 hq
  · have h1 : B 47 c = 60 := rw_neF h1
    rw [rr_t2, if_pos h1] at hfrom hs ho hw hq
    repeat (first | refine rw_step rfl rfl ?_ | refine rr_ld rfl rfl rfl (by omega) rfl ?_ | refine rr_st rfl (fun _ => rfl) rfl (by omega) rfl ?_ | refine rr_stz rfl rfl (fun _ => rfl) rfl (by omega) rfl ?_)
    refine rw_icmp rfl (fun h2 => ?_) (fun h2 => ?_)
    · have h2 : ¬ rr_t3 B c 48 c = 4 := rw_ne h2
      rw [if_neg h2] at hfrom hs ho hw hq
      exact rr_connTail (D := rr_t3 B c) hc hn hfrom hs hs3 ho ho8 hw hw4 hq
    · have h2 : rr_t3 B c 48 c = 4 := rw_neF h2
      rw [if_pos h2] at hfrom hs ho hw hq
      refine rw_step rfl rfl ?_
      refine rw_step rfl rfl ?_
      refine rw_step rfl rfl ?_
      refine rw_step rfl rfl ?_
      refine rr_st rfl (fun _ => rfl) rfl (by omega) rfl ?_
      exact rr_connTail (D := rr_up (rr_t3 B c) 35 c 2) hc hn hfrom hs hs3 ho ho8 hw hw4 hq
def rr_conn (A : Nat → Nat → Int32) (c n s w : Nat) : Nat → Nat → Int32 := rr_dloop c n (3 - s) s w (rr_t2 (rr_t1 A c) c)
theorem rr_connect {c n s o w : Nat} (hc : c < 4) (hn : n < 15) (hfrom : rr_t2 (rr_t1 A c) c 36 c = nI (n + 1)) (hs : rr_t2 (rr_t1 A c) c 43 c = nI s) (hs3 : s ≤ 3) (ho : rr_t2 (rr_t1 A c) c 44 c = nI o) (ho8 : o ≤ 8) (hw : rr_t2 (rr_t1 A c) c 4 n = nI w) (hw4 : w ≤ 4) (hq : Q none (rr_h (rr_conn A c n s w) t)) : rb_cw (d + 3) 67 [.ref 0, .int (nI c)] (rr_h A t) Q := by
  refine rw_ent rfl rfl rfl ?_
  repeat (first | refine rw_step rfl rfl ?_ | refine rr_ld rfl rfl rfl (by omega) rfl ?_)
  have up : (0 < A 43 c ∨ ¬ A 46 c = 0) → rb_wp (d + 2) 67 23 [.ref 0, .int (nI c), .retAddr 0] [.int (nI c), .ref 48] (rr_h A t) Q := by
    intro h9
    have e1 : rr_t1 A c = rr_up A 47 c (A 47 c + 1) := by rw [rr_t1, if_pos h9]
    rw [rr_conn] at hq
    rw [e1] at hfrom hs ho hw hq
    refine rw_step rfl rfl ?_
    refine rw_step rfl rfl ?_
    refine rw_step rfl rfl ?_
    refine rr_ld rfl rfl rfl (by omega) rfl ?_
    refine rw_step rfl rfl ?_
    refine rw_step rfl rfl ?_
    refine rw_step rfl rfl ?_
    refine rr_st rfl (fun _ => rfl) rfl (by omega) rfl ?_
    exact rr_connMid hc hn hfrom hs hs3 ho ho8 hw hw4 hq
  refine rw_if rfl (fun h1 => up (Or.inl (of_decide_eq_true h1))) (fun h1 => ?_)
  repeat (first | refine rw_step rfl rfl ?_ | refine rr_ldz rfl rfl rfl (by omega) rfl ?_)
  refine rw_if rfl (fun h2 => ?_) (fun h2 => up (Or.inr (rw_eqF h2)))
  have h0 : ¬ (0 < A 43 c ∨ ¬ A 46 c = 0) := fun h9 => h9.elim (of_decide_eq_false h1) (fun h8 => h8 (rw_eq h2))
  have e1 : rr_t1 A c = rr_up A 47 c 0 := by rw [rr_t1, if_neg h0]
  rw [rr_conn] at hq
  rw [e1] at hfrom hs ho hw hq
  refine rw_step rfl rfl ?_
  refine rr_st rfl (fun _ => rfl) rfl (by omega) rfl ?_
  exact rr_connMid hc hn hfrom hs hs3 ho ho8 hw hw4 hq
end RRR
