/-! the reference: watch, token -/
section RRE
variable {d : Nat} {Q : Option Value → rb_H → Prop} {A : Nat → Nat → Int32} {t : Int32}
def rr_watch (A : Nat → Nat → Int32) (r n : Nat) : Int32 × (Nat → Nat → Int32) :=
  if ¬ rr_addr (nI n) = A 30 r then (0, A) else if A 21 r = 1 ∧ A 24 r = 0 then (0, A) else if A 26 r = 0 then (0, rr_up A 26 r 1) else (1, rr_purge A r n)
theorem rr_watchM {r n : Nat} (hr : r < 3) (hn : n < 15) (hw : rr_with A (nI r) (rr_addr (nI n)) 15 = nI n) (hnr : A 3 n = nI r) (hmem : ¬ A 1 r = 0) (hq : Q (some (.int (rr_watch A r n).1)) (rr_h (rr_watch A r n).2 t)) : rb_cw (d + 4) 59 [.ref 0, .int (nI r), .int (nI n)] (rr_h A t) Q := by
  refine rw_ent rfl rfl rfl ?_
  refine rw_step rfl rfl ?_
  refine rw_call rfl rfl rfl ?_
  refine rr_addressOf ?_
  repeat (first | refine rw_step rfl rfl ?_ | refine rr_ld rfl rfl rfl (by omega) rfl ?_)
  refine rw_icmp rfl (fun hc => ?_) (fun hc => ?_)
  · have hc : rr_addr (nI n) = A 30 r := by simpa [rb_cmp] using hc
    rw [rr_watch, if_neg (fun h9 => h9 hc)] at hq
    repeat (first | refine rw_step rfl rfl ?_ | refine rr_ld rfl rfl rfl (by omega) rfl ?_)
    have tail : (¬ (A 21 r = 1 ∧ A 24 r = 0)) → rb_wp (d + 3) 59 36 [.ref 0, .int (nI r), .int (nI n)] [] (rr_h A t) Q := by
      intro hne
      rw [if_neg hne] at hq
      repeat (first | refine rw_step rfl rfl ?_ | refine rr_ldz rfl rfl rfl (by omega) rfl ?_)
      refine rw_if rfl (fun h26 => ?_) (fun h26 => ?_)
      · have h26 : A 26 r = 0 := by simpa [rb_cmp] using h26
        rw [if_pos h26] at hq
        repeat (first | refine rw_step rfl rfl ?_ | refine rr_stz rfl rfl (fun _ => rfl) rfl (by omega) rfl ?_)
        refine rw_ret rfl rfl rfl ?_
        exact hq
      · have h26 : ¬ A 26 r = 0 := by simpa [rb_cmp] using h26
        rw [if_neg h26] at hq
        repeat refine rw_step rfl rfl ?_
        refine rw_call rfl rfl rfl ?_
        refine rr_purgeM (m := n) hr hn (by rw [← hc]; exact hw) hnr hmem ?_
        repeat refine rw_step rfl rfl ?_
        refine rw_ret rfl rfl rfl ?_
        exact hq
    refine rw_icmp rfl (fun h21 => ?_) (fun h21 => ?_)
    · have h21 : ¬ A 21 r = 1 := by simpa [rb_cmp] using h21
      exact tail (fun h9 => h21 h9.1)
    have h21 : A 21 r = 1 := by simpa [rb_cmp] using h21
    repeat (first | refine rw_step rfl rfl ?_ | refine rr_ld rfl rfl rfl (by omega) rfl ?_)
    refine rw_if rfl (fun h24 => ?_) (fun h24 => ?_)
    · have h24 : ¬ A 24 r = 0 := by simpa [rb_cmp] using h24
      exact tail (fun h9 => h24 h9.2)
    have h24 : A 24 r = 0 := by simpa [rb_cmp] using h24
    rw [if_pos ⟨h21, h24⟩] at hq
    repeat refine rw_step rfl rfl ?_
    refine rw_ret rfl rfl rfl ?_
    exact hq
  · have hc : ¬ rr_addr (nI n) = A 30 r := by simpa [rb_cmp] using hc
    rw [rr_watch, if_pos hc] at hq
    repeat refine rw_step rfl rfl ?_
    refine rw_ret rfl rfl rfl ?_
    exact hq
def rr_shift (A : Nat → Nat → Int32) (b : Nat) : Nat → Nat → Nat → Int32
  | 0 => A
  | k + 1 => rr_copy (rr_shift A b k) (b + k + 1) (b + k)
theorem rr_copy_lo {x y j i : Nat} (h : ¬ (8 ≤ j ∧ j ≤ 20)) : rr_copy A x y j i = A j i := by
  unfold rr_copy
  rw [if_neg (fun h9 => h h9.1)]
theorem rr_shift_lo {b j i : Nat} (h : ¬ (8 ≤ j ∧ j ≤ 20)) : ∀ k, rr_shift A b k j i = A j i
  | 0 => rfl
  | k + 1 => by rw [rr_shift, rr_copy_lo h, rr_shift_lo h k]
/-- the first frame of node n goes on ring r; w wait -/
def rr_send1 (A : Nat → Nat → Int32) (r n w : Nat) : Nat → Nat → Int32 := rr_shift (rr_up (rr_copy A (4 * n) (60 + r)) 4 n (nI (w - 1))) (4 * n) (w - 1)
def rr_send2 (A : Nat → Nat → Int32) (r n : Nat) : Nat → Nat → Int32 := rr_up (rr_up (rr_up (rr_up (rr_up (rr_up A 21 r 2) 25 r 0) 26 r 0) 27 r 0) 28 r 0) 29 r (rr_addr (nI n))
def rr_send (A : Nat → Nat → Int32) (r n w : Nat) : Nat → Nat → Int32 := rr_up (rr_send2 (rr_send1 A r n w) r n) 31 (3 * r + 1) (rr_send2 (rr_send1 A r n w) r n 31 (3 * r + 1) + 1)
theorem rr_send_end {B : Nat → Nat → Int32} {r n : Nat} {x3 x4 x5 : Value} (hr : r < 3) (hq : Q none (rr_h (rr_up (rr_send2 B r n) 31 (3 * r + 1) (rr_send2 B r n 31 (3 * r + 1) + 1)) t)) : rb_wp (d + 1) 60 203 [.ref 0, .int (nI r), .int (nI n), x3, x4, x5] [] (rr_h B t) Q := by
  repeat (first | refine rw_step rfl rfl ?_ | refine rr_st rfl (fun _ => rfl) rfl (by omega) rfl ?_ | refine rr_stz rfl rfl (fun _ => rfl) rfl (by omega) rfl ?_)
  refine rw_call rfl rfl rfl ?_
  refine rr_addressOf ?_
  refine rr_st rfl (fun _ => rfl) rfl (by omega) rfl ?_
  repeat refine rw_step rfl rfl ?_
  have e1 : (3 : Int32) * nI r + 1 = nI (3 * r + 1) := by rw [rr_c3, nI_1]
  refine rr_ld (i := 3 * r + 1) rfl rfl e1 (by omega) rfl ?_
  repeat refine rw_step rfl rfl ?_
  refine rr_st (i := 3 * r + 1) rfl (fun _ => rfl) e1 (by omega) rfl ?_
  repeat refine rw_step rfl rfl ?_
  refine rw_ret rfl rfl rfl ?_
  exact hq
theorem rr_send_loop {B : Nat → Nat → Int32} {r n w : Nat} {x3 x4 : Value} (hr : r < 3) (hn : n < 15) (hw : w ≤ 3) (hB : B 4 n = nI w) (hq : Q none (rr_h (rr_up (rr_send2 (rr_shift B (4 * n) w) r n) 31 (3 * r + 1) (rr_send2 (rr_shift B (4 * n) w) r n 31 (3 * r + 1) + 1)) t)) : ∀ (f k : Nat) (x : Int32), k + f = w → x = nI k → rb_wp (d + 1) 60 168 [.ref 0, .int (nI r), .int (nI n), x3, x4, .int x] [] (rr_h (rr_shift B (4 * n) k) t) Q := by
  intro f
  induction f with
  | zero =>
    intro k x hf hx
    have hk : k = w := by omega
    subst hk hx
    repeat (first | refine rw_step rfl rfl ?_ | refine rr_ld rfl rfl rfl (by omega) rfl ?_)
    rw [rr_shift_lo (by omega) k, hB]
    refine rw_icmp rfl (fun hc => ?_) (fun hc => ?_)
    · exact rr_send_end hr hq
    · exact absurd (of_decide_eq_false hc) (fun h9 => h9 (nI_le (Nat.le_refl _) (by omega)))
  | succ f ih =>
    intro k x hf hx
    subst hx
    repeat (first | refine rw_step rfl rfl ?_ | refine rr_ld rfl rfl rfl (by omega) rfl ?_)
    rw [rr_shift_lo (by omega) k, hB]
    refine rw_icmp rfl (fun hc => absurd (of_decide_eq_true hc) (nI_ge (by omega) (by omega))) (fun _ => ?_)
    repeat refine rw_step rfl rfl ?_
    refine rw_call rfl rfl rfl ?_
    have e1 : (4 : Int32) * nI n + nI k + 1 = nI (4 * n + k + 1) := by rw [rr_c4, nI_add, nI_1]
    have e2 : (4 : Int32) * nI n + nI k = nI (4 * n + k) := by rw [rr_c4, nI_add]
    show rb_cw (d + 1) 53 [.ref 0, .int ((4 : Int32) * nI n + nI k + 1), .int ((4 : Int32) * nI n + nI k)] _ _
    rw [e1, e2]
    refine rr_copyFrame (by omega) (by omega) ?_
    refine rw_step rfl rfl ?_
    refine rw_step rfl rfl ?_
    exact ih (k + 1) (nI k + 1) (by omega) (nI_1 k)
end RRE
