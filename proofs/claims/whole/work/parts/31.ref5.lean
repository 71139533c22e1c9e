/-! the reference: token -/
section RRF
variable {d : Nat} {Q : Option Value → rb_H → Prop} {A : Nat → Nat → Int32} {t : Int32}
def rr_tokEnd (B : Nat → Nat → Int32) (r n w : Nat) : Nat → Nat → Int32 := if ¬ rr_wish B n < B 24 r then rr_send B r n w else if ¬ rr_wish B n ≤ B 25 r then rr_up B 25 r (rr_wish B n) else B
theorem rr_tokEndM {B : Nat → Nat → Int32} {r n w : Nat} {x3 x4 x5 : Value} (hr : r < 3) (hn : n < 15) (hw : B 4 n = nI w) (hw4 : w ≤ 4) (hp : -1 < B 24 r) (hq : Q none (rr_h (rr_tokEnd B r n w) t)) : rb_wp (d + 1) 60 126 [.ref 0, .int (nI r), .int (nI n), x3, x4, x5] [] (rr_h B t) Q := by
  repeat refine rw_step rfl rfl ?_
  refine rw_call rfl rfl rfl ?_
  refine rr_wishM hn ?_
  repeat (first | refine rw_step rfl rfl ?_ | refine rr_ld rfl rfl rfl (by omega) rfl ?_)
  refine rw_icmp rfl (fun hc => ?_) (fun hc => ?_)
  · have hc : rr_wish B n < B 24 r := of_decide_eq_true hc
    rw [rr_tokEnd, if_neg (fun h9 => h9 hc)] at hq
    repeat (first | refine rw_step rfl rfl ?_ | refine rr_ld rfl rfl rfl (by omega) rfl ?_)
    refine rw_icmp rfl (fun hc2 => ?_) (fun hc2 => ?_)
    · have hc2 : rr_wish B n ≤ B 25 r := of_decide_eq_true hc2
      rw [if_neg (fun h9 => h9 hc2)] at hq
      refine rw_ret rfl rfl rfl ?_
      exact hq
    · have hc2 : ¬ rr_wish B n ≤ B 25 r := of_decide_eq_false hc2
      rw [if_pos hc2] at hq
      repeat (first | refine rw_step rfl rfl ?_ | refine rr_st rfl (fun _ => rfl) rfl (by omega) rfl ?_)
      refine rw_ret rfl rfl rfl ?_
      exact hq
  · have hc : ¬ rr_wish B n < B 24 r := of_decide_eq_false hc
    rw [rr_tokEnd, if_pos hc] at hq
    have hw0 : 1 ≤ w := by
      refine Nat.not_lt.mp (fun h9 => hc ?_)
      have : w = 0 := by omega
      subst this
      rw [rr_wish, if_pos (show B 4 n = 0 from hw)]
      exact hp
    repeat refine rw_step rfl rfl ?_
    refine rw_call rfl rfl rfl ?_
    have e1 : (60 : Int32) + nI r = nI (60 + r) := nI_add 60 r
    show rb_cw (d + 1) 53 [.ref 0, .int ((4 : Int32) * nI n), .int ((60 : Int32) + nI r)] _ _
    rw [rr_c4, e1]
    refine rr_copyFrame (by omega) (by omega) ?_
    repeat (first | refine rw_step rfl rfl ?_ | refine rr_ld rfl rfl rfl (by omega) rfl ?_)
    refine rr_st rfl (fun _ => rfl) rfl (by omega) rfl ?_
    have e2 : rr_copy B (4 * n) (60 + r) 4 n - 1 = nI (w - 1) := by
      rw [rr_copy_lo (by omega), hw]
      obtain ⟨v, rfl⟩ : ∃ v, w = v + 1 := ⟨w - 1, by omega⟩
      exact nI_pred v
    dsimp only
    rw [e2]
    refine rw_step rfl rfl ?_
    refine rw_step rfl rfl ?_
    exact rr_send_loop (B := rr_up (rr_copy B (4 * n) (60 + r)) 4 n (nI (w - 1))) (w := w - 1) hr hn (by omega) (rr_up_same _ _ _ _) hq (w - 1) 0 0 (by omega) rfl
def rr_low (B : Nat → Nat → Int32) (r n q : Nat) : Nat → Nat → Int32 :=
  if 0 < q ∧ B 7 (8 * n + q - 1) = B 24 r then rr_up (if ¬ B 25 r ≤ B 6 (8 * n + q - 1) then rr_up (rr_up (rr_up B 7 (8 * n + q - 1) (B 25 r)) 24 r (B 25 r)) 25 r 0 else rr_up (rr_up B 5 n (nI (q - 1))) 24 r (B 6 (8 * n + q - 1))) 26 r 0 else B
theorem rr_c8 (n : Nat) : (8 : Int32) * nI n = nI (8 * n) := rr_mul 8 n
theorem rr_lowM {B : Nat → Nat → Int32} {r n w q : Nat} {x3 x4 x5 : Value} (hr : r < 3) (hn : n < 15) (hqv : B 5 n = nI q) (hq8 : q ≤ 8) (hw : rr_low B r n q 4 n = nI w) (hw4 : w ≤ 4) (hp : -1 < rr_low B r n q 24 r) (hq : Q none (rr_h (rr_tokEnd (rr_low B r n q) r n w) t)) : rb_wp (d + 1) 60 10 [.ref 0, .int (nI r), .int (nI n), x3, x4, x5] [] (rr_h B t) Q := by
  repeat (first | refine rw_step rfl rfl ?_ | refine rr_ld rfl rfl rfl (by omega) rfl ?_)
  refine rw_if rfl (fun hc => ?_) (fun hc => ?_)
  · have hc : B 5 n ≤ 0 := of_decide_eq_true hc
    have h0 : ¬ (0 < q ∧ B 7 (8 * n + q - 1) = B 24 r) := by
      rintro ⟨h9, -⟩
      rw [hqv] at hc
      exact nI_nle h9 (by omega) hc
    rw [rr_low, if_neg h0] at hq hw hp
    exact rr_tokEndM hr hn hw hw4 hp hq
  · have hc : ¬ B 5 n ≤ 0 := of_decide_eq_false hc
    have h0 : 0 < q := by
      refine Nat.pos_of_ne_zero (fun h9 => hc ?_)
      subst h9
      rw [hqv]
      decide
    have etop : (8 : Int32) * nI n + B 5 n - 1 = nI (8 * n + q - 1) := by
      rw [rr_c8, hqv, nI_add]
      obtain ⟨v, rfl⟩ : ∃ v, q = v + 1 := ⟨q - 1, by omega⟩
      exact nI_pred (8 * n + v)
    repeat refine rw_step rfl rfl ?_
    refine rr_ld (i := 8 * n + q - 1) rfl rfl etop (by omega) rfl ?_
    repeat (first | refine rw_step rfl rfl ?_ | refine rr_ld rfl rfl rfl (by omega) rfl ?_)
    refine rw_icmp rfl (fun hc2 => ?_) (fun hc2 => ?_)
    · have hc2 : ¬ B 7 (8 * n + q - 1) = B 24 r := by simpa [rb_cmp] using hc2
      rw [rr_low, if_neg (fun h9 => hc2 h9.2)] at hq hw hp
      exact rr_tokEndM hr hn hw hw4 hp hq
    have hc2 : B 7 (8 * n + q - 1) = B 24 r := by simpa [rb_cmp] using hc2
    rw [rr_low, if_pos ⟨h0, hc2⟩] at hq hw hp
    repeat (first | refine rw_step rfl rfl ?_ | refine rr_ld rfl rfl rfl (by omega) rfl ?_)
    refine rr_ld (i := 8 * n + q - 1) rfl rfl etop (by omega) rfl ?_
    refine rw_icmp rfl (fun hc3 => ?_) (fun hc3 => ?_)
    · have hc3 : B 25 r ≤ B 6 (8 * n + q - 1) := of_decide_eq_true hc3
      rw [if_neg (fun h9 => h9 hc3)] at hq hw hp
      repeat (first | refine rw_step rfl rfl ?_ | refine rr_ld rfl rfl rfl (by omega) rfl ?_)
      refine rr_st rfl (fun _ => rfl) rfl (by omega) rfl ?_
      have e5 : B 5 n - 1 = nI (q - 1) := by
        rw [hqv]
        obtain ⟨v, rfl⟩ : ∃ v, q = v + 1 := ⟨q - 1, by omega⟩
        exact nI_pred v
      dsimp only
      rw [e5]
      repeat refine rw_step rfl rfl ?_
      refine rr_ld (i := 8 * n + q - 1) rfl rfl etop (by omega) rfl ?_
      refine rr_st rfl (fun _ => rfl) rfl (by omega) rfl ?_
      repeat refine rw_step rfl rfl ?_
      refine rr_stz rfl rfl (fun _ => rfl) rfl (by omega) rfl ?_
      exact rr_tokEndM hr hn hw hw4 hp hq
    · have hc3 : ¬ B 25 r ≤ B 6 (8 * n + q - 1) := of_decide_eq_false hc3
      rw [if_pos hc3] at hq hw hp
      repeat (first | refine rw_step rfl rfl ?_ | refine rr_ld rfl rfl rfl (by omega) rfl ?_)
      refine rr_st (i := 8 * n + q - 1) rfl (fun _ => rfl) etop (by omega) rfl ?_
      repeat (first | refine rw_step rfl rfl ?_ | refine rr_ld rfl rfl rfl (by omega) rfl ?_)
      refine rr_st rfl (fun _ => rfl) rfl (by omega) rfl ?_
      repeat refine rw_step rfl rfl ?_
      refine rr_st rfl (fun _ => rfl) rfl (by omega) rfl ?_
      repeat refine rw_step rfl rfl ?_
      refine rr_stz rfl rfl (fun _ => rfl) rfl (by omega) rfl ?_
      exact rr_tokEndM hr hn hw hw4 hp hq
def rr_token (A : Nat → Nat → Int32) (r n w q : Nat) : Nat → Nat → Int32 := if (rr_watch A r n).1 = 0 then rr_tokEnd (rr_low (rr_watch A r n).2 r n q) r n w else (rr_watch A r n).2
theorem rr_tokenM {r n w q : Nat} (hr : r < 3) (hn : n < 15) (hwi : rr_with A (nI r) (rr_addr (nI n)) 15 = nI n) (hnr : A 3 n = nI r) (hmem : ¬ A 1 r = 0) (hqv : (rr_watch A r n).2 5 n = nI q) (hq8 : q ≤ 8) (hw : rr_low (rr_watch A r n).2 r n q 4 n = nI w) (hw4 : w ≤ 4) (hp : (rr_watch A r n).1 = 0 → -1 < rr_low (rr_watch A r n).2 r n q 24 r) (hq : Q none (rr_h (rr_token A r n w q) t)) : rb_cw (d + 5) 60 [.ref 0, .int (nI r), .int (nI n)] (rr_h A t) Q := by
  refine rw_ent rfl rfl rfl ?_
  repeat refine rw_step rfl rfl ?_
  refine rw_call rfl rfl rfl ?_
  refine rr_watchM hr hn hwi hnr hmem ?_
  refine rw_if rfl (fun hc => ?_) (fun hc => ?_)
  · have hc : (rr_watch A r n).1 = 0 := by simpa [rb_cmp] using hc
    rw [rr_token, if_pos hc] at hq
    exact rr_lowM hr hn hqv hq8 hw hw4 (hp hc) hq
  · have hc : ¬ (rr_watch A r n).1 = 0 := by simpa [rb_cmp] using hc
    rw [rr_token, if_neg hc] at hq
    refine rw_ret rfl rfl rfl ?_
    exact hq
end RRF
