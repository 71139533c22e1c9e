/-! the reference: connect -/
section RRQ
variable {d : Nat} {Q : Option Value → rb_H → Prop} {A : Nat → Nat → Int32} {t : Int32}
def rr_dmake (B : Nat → Nat → Int32) (c s : Nat) : Nat → Nat → Int32 := rr_up (rr_up (rr_up (rr_up (rr_make B 2 (B 38 c) (B 36 c) (B 37 c) (B 39 c) (B 40 c)) 17 63 (nI c)) 18 63 (B 41 c)) 19 63 (rr_rem (B 42 c + B 43 c) 8)) 20 63 (B 45 (8 * c + s))
def rr_dsend (B : Nat → Nat → Int32) (c n s w : Nat) : Nat → Nat → Int32 := rr_up (rr_queue (rr_dmake B c s) n w) 43 c (nI (s + 1))
def rr_dloop (c n : Nat) : Nat → Nat → Nat → (Nat → Nat → Int32) → Nat → Nat → Int32
  | 0, _, _, B => B
  | f + 1, s, w, B => if (((B 35 c = 1 ∧ B 46 c = 0) ∧ ¬ 3 ≤ B 43 c) ∧ ¬ B 44 c ≤ B 43 c) ∧ ¬ 4 ≤ B 4 n then rr_dloop c n f (s + 1) (w + 1) (rr_dsend B c n s w) else B
set_option maxRecDepth 100000 in
theorem rr_dloopM {c n o : Nat} (hc : c < 4) (hn : n < 15) (ho8 : o ≤ 8) : ∀ (f s w : Nat) (B : Nat → Nat → Int32), s + f = 3 → B 43 c = nI s → B 44 c = nI o → B 4 n = nI w → w ≤ 4 → Q none (rr_h (rr_dloop c n f s w B) t) → rb_wp (d + 2) 67 104 [.ref 0, .int (nI c), .int (nI n)] [] (rr_h B t) Q := by
  intro f
  induction f with
  | zero =>
    intro s w B hf hs ho hw hw4 hq
    have h3 : s = 3 := by omega
    subst h3
    repeat (first | refine rw_step rfl rfl ?_ | refine rr_ld rfl rfl rfl (by omega) rfl ?_)
    refine rw_icmp rfl (fun _ => rw_ret rfl rfl rfl hq) (fun _ => ?_)
    repeat (first | refine rw_step rfl rfl ?_ | refine rr_ldz rfl rfl rfl (by omega) rfl ?_)
    refine rw_if rfl (fun _ => rw_ret rfl rfl rfl hq) (fun _ => ?_)
    repeat (first | refine rw_step rfl rfl ?_ | refine rr_ld rfl rfl rfl (by omega) rfl ?_)
    refine rw_icmp rfl (fun _ => rw_ret rfl rfl rfl hq) (fun h9 => absurd (of_decide_eq_false h9) (fun h8 => h8 (by rw [hs]; decide)))
  | succ f ih =>
    intro s w B hf hs ho hw hw4 hq
    have hs2 : s ≤ 2 := by omega
    repeat (first | refine rw_step rfl rfl ?_ | refine rr_ld rfl rfl rfl (by omega) rfl ?_)
    refine rw_icmp rfl (fun h1 => ?_) (fun h1 => ?_)
    · rw [rr_dloop, if_neg (fun h9 => rw_ne h1 h9.1.1.1.1)] at hq
      exact rw_ret rfl rfl rfl hq
    have h1 : B 35 c = 1 := rw_neF h1
    repeat (first | refine rw_step rfl rfl ?_ | refine rr_ldz rfl rfl rfl (by omega) rfl ?_)
    refine rw_if rfl (fun h2 => ?_) (fun h2 => ?_)
    · rw [rr_dloop, if_neg (fun h9 => rw_ne h2 h9.1.1.1.2)] at hq
      exact rw_ret rfl rfl rfl hq
    have h2 : B 46 c = 0 := rw_neF h2
    repeat (first | refine rw_step rfl rfl ?_ | refine rr_ld rfl rfl rfl (by omega) rfl ?_)
    refine rw_icmp rfl (fun h3 => ?_) (fun h3 => ?_)
    · rw [rr_dloop, if_neg (fun h9 => h9.1.1.2 (of_decide_eq_true h3))] at hq
      exact rw_ret rfl rfl rfl hq
    have h3 : ¬ 3 ≤ B 43 c := of_decide_eq_false h3
    repeat (first | refine rw_step rfl rfl ?_ | refine rr_ld rfl rfl rfl (by omega) rfl ?_)
    refine rw_icmp rfl (fun h4 => ?_) (fun h4 => ?_)
    · rw [rr_dloop, if_neg (fun h9 => h9.1.2 (of_decide_eq_true h4))] at hq
      exact rw_ret rfl rfl rfl hq
    have h4 : ¬ B 44 c ≤ B 43 c := of_decide_eq_false h4
    repeat (first | refine rw_step rfl rfl ?_ | refine rr_ld rfl rfl rfl (by omega) rfl ?_)
    refine rw_icmp rfl (fun h5 => ?_) (fun h5 => ?_)
    · rw [rr_dloop, if_neg (fun h9 => h9.2 (of_decide_eq_true h5))] at hq
      exact rw_ret rfl rfl rfl hq
    have h5 : ¬ 4 ≤ B 4 n := of_decide_eq_false h5
    rw [rr_dloop, if_pos ⟨⟨⟨⟨h1, h2⟩, h3⟩, h4⟩, h5⟩] at hq
    have hw3 : w < 4 := by
      refine Nat.lt_of_le_of_ne hw4 (fun h9 => h5 ?_)
      subst h9
      rw [hw]
      decide
    have e1 : (8 : Int32) * nI c + B 43 c = nI (8 * c + s) := by rw [rr_c8, hs, nI_add]
    repeat (first | refine rw_step rfl rfl ?_ | refine rr_ld rfl rfl rfl (by omega) rfl ?_)
    refine rw_call rfl rfl rfl ?_
    refine rr_makeFrame ?_
    repeat (first | refine rr_st (i := 63) rfl (fun _ => rfl) rfl (by omega) rfl ?_ | refine rw_step rfl rfl ?_ | refine rr_ld rfl rfl rfl (by omega) rfl ?_)
    refine rr_ld (i := 8 * c + s) rfl rfl e1 (by omega) rfl ?_
    refine rr_st (i := 63) rfl (fun _ => rfl) rfl (by omega) rfl ?_
    repeat refine rw_step rfl rfl ?_
    refine rw_call rfl rfl rfl ?_
    show rb_cw (d + 2) 54 [.ref 0, .int (nI n)] (rr_h (rr_dmake B c s) t) _
    refine rr_queueNew (w := w) hn hw hw4 ?_
    have e2 : rr_queue (rr_dmake B c s) n w 43 c = nI s := by
      rw [rr_queue, if_neg (by omega)]
      show rr_copy (rr_dmake B c s) 63 (4 * n + w) 43 c = nI s
      rw [rr_copy_lo (by omega)]
      exact hs
    repeat (first | refine rw_step rfl rfl ?_ | refine rr_ld rfl rfl rfl (by omega) rfl ?_)
    refine rr_st rfl (fun _ => rfl) rfl (by omega) rfl ?_
    dsimp only
    rw [e2, nI_1]
    refine rw_step rfl rfl ?_
    refine ih (s + 1) (w + 1) (rr_dsend B c n s w) (by omega) (rr_up_same _ _ _ _) ?_ ?_ (by omega) hq
    · show rr_queue (rr_dmake B c s) n w 44 c = nI o
      rw [rr_queue, if_neg (by omega)]
      show rr_copy (rr_dmake B c s) 63 (4 * n + w) 44 c = nI o
      rw [rr_copy_lo (by omega)]
      exact ho
    · show rr_queue (rr_dmake B c s) n w 4 n = nI (w + 1)
      rw [rr_queue, if_neg (by omega)]
      exact rr_up_same _ _ _ _
end RRQ
