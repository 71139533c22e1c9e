/-! the reference: take -/
section RSE
variable {d : Nat} {Q : Option Value → rb_H → Prop} {A : Nat → Nat → Int32} {t : Int32}
def rr_takeE (B : Nat → Nat → Int32) (c n w : Nat) : Nat → Nat → Int32 := if (B 35 c = 1 ∧ ¬ B 53 c = 0) ∧ w < 4 then rr_ans (rr_up B 53 c 0) c 3 n w else B
theorem rr_takeEnd {B : Nat → Nat → Int32} {c n w : Nat} {v x : Int32} (hc : c < 4) (hn : B 35 c = 1 → n < 9 ∧ B 37 c = nI (n + 1)) (hw : B 35 c = 1 → B 4 n = nI w) (hw4 : w ≤ 4) (hq : Q (some (.int v)) (rr_h (rr_takeE B c n w) t)) : rb_wp (d + 3) 81 86 [.ref 0, .int (nI c), .int v, .int x] [] (rr_h B t) Q := by
  have no : (¬ ((B 35 c = 1 ∧ ¬ B 53 c = 0) ∧ w < 4)) → rb_wp (d + 3) 81 135 [.ref 0, .int (nI c), .int v, .int x] [] (rr_h B t) Q := by
    intro h9
    rw [rr_takeE, if_neg h9] at hq
    repeat refine rw_step rfl rfl ?_
    exact rw_ret rfl rfl rfl hq
  repeat (first | refine rw_step rfl rfl ?_ | refine rr_ld rfl rfl rfl (by omega) rfl ?_)
  refine rw_icmp rfl (fun h1 => no (fun h9 => rw_ne h1 h9.1.1)) (fun h1 => ?_)
  have h35 := rw_neF h1
  obtain ⟨hn9, h37⟩ := hn h35
  have e1 : B 37 c - 1 = nI n := by rw [h37]; exact nI_pred n
  repeat (first | refine rw_step rfl rfl ?_ | refine rr_ldz rfl rfl rfl (by omega) rfl ?_)
  refine rw_if rfl (fun h2 => no (fun h9 => h9.1.2 (rw_eq h2))) (fun h2 => ?_)
  iterate 5 refine rw_step rfl rfl ?_
  refine rr_ld rfl rfl rfl (by omega) rfl ?_
  iterate 2 refine rw_step rfl rfl ?_
  refine rr_ld (i := n) rfl rfl e1 (by omega) rfl ?_
  refine rw_step rfl rfl ?_
  rw [hw h35]
  refine rw_icmp rfl (fun h3 => no (fun h9 => absurd (of_decide_eq_true h3) (nI_ge (b := 4) h9.2 (by decide)))) (fun h3 => ?_)
  have hw3 : w < 4 := by
    rcases Nat.lt_or_ge w 4 with h | h
    · exact h
    · exact absurd (nI_le (a := 4) h (by omega)) (of_decide_eq_false h3)
  rw [rr_takeE, if_pos ⟨⟨h35, rw_eqF h2⟩, hw3⟩] at hq
  repeat (first | refine rr_stz rfl rfl (fun _ => rfl) rfl (by omega) rfl ?_ | refine rw_step rfl rfl ?_)
  refine rw_call rfl rfl rfl ?_
  refine rr_answer (n := n) hc (by omega) h37 (hw h35) hw4 ?_
  repeat refine rw_step rfl rfl ?_
  exact rw_ret rfl rfl rfl hq
end RSE
