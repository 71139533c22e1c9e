/-! the reference: receive at a port -/
section RRJ
variable {d : Nat} {h : rb_H} {Q : Option Value → rb_H → Prop} {A : Nat → Nat → Int32} {t : Int32}
def rr_oth (n : Nat) : Nat := if n % 2 = 1 then n + 1 else n - 1
theorem rr_rem2 : ∀ n, n < 15 → rr_rem (nI n) 2 = nI (n % 2) := by decide +kernel
theorem rr_other {n : Nat} (hn : n < 15) (h1 : 1 ≤ n) (hq : Q (some (.int (nI (rr_oth n)))) h) : rb_cw (d + 1) 52 [.int (nI n)] h Q := by
  refine rw_ent rfl rfl rfl ?_
  repeat refine rw_step rfl rfl ?_
  refine rw_icmp rfl (fun hc => ?_) (fun hc => ?_)
  · have hc : ¬ rr_rem (nI n) 2 = 1 := rw_ne hc
    have h2 : ¬ n % 2 = 1 := fun h9 => hc (by rw [rr_rem2 n hn, h9]; rfl)
    rw [rr_oth, if_neg h2] at hq
    repeat refine rw_step rfl rfl ?_
    refine rw_ret rfl rfl rfl ?_
    have e1 : nI n - 1 = nI (n - 1) := by
      obtain ⟨v, rfl⟩ : ∃ v, n = v + 1 := ⟨n - 1, by omega⟩
      exact nI_pred v
    dsimp only
    rw [e1]
    exact hq
  · have hc : rr_rem (nI n) 2 = 1 := rw_neF hc
    have h2 : n % 2 = 1 := by
      rw [rr_rem2 n hn] at hc
      exact (nI_eq (by omega) (by omega)).mp hc
    rw [rr_oth, if_pos h2] at hq
    repeat refine rw_step rfl rfl ?_
    refine rw_ret rfl rfl rfl ?_
    dsimp only
    rw [nI_1]
    exact hq
/-- the frame made at place 63 goes into the queue of the other port, and the frame is COPIED -/
def rr_pfin (B : Nat → Nat → Int32) (r o w : Nat) : Nat → Nat → Int32 := rr_up (rr_queue B o w) 28 r 1
theorem rr_pfinM {B : Nat → Nat → Int32} {r o w : Nat} {x2 x3 x4 x5 : Value} (hr : r < 3) (ho : o < 15) (hw : B 4 o = nI w) (hw4 : w ≤ 4) (hq : Q none (rr_h (rr_pfin B r o w) t)) : rb_wp (d + 2) 63 184 [.ref 0, .int (nI r), x2, x3, x4, x5, .int (nI o)] [] (rr_h B t) Q := by
  repeat refine rw_step rfl rfl ?_
  refine rw_call rfl rfl rfl ?_
  refine rr_queueNew ho hw hw4 ?_
  repeat (first | refine rw_step rfl rfl ?_ | refine rr_stz rfl rfl (fun _ => rfl) rfl (by omega) rfl ?_)
  refine rw_ret rfl rfl rfl ?_
  exact hq
def rr_spread1 (A : Nat → Nat → Int32) (r : Nat) (kk : Int32) : Nat → Nat → Int32 := if 0 ≤ rr_copy A (60 + r) 63 14 (60 + r) then rr_up (rr_copy A (60 + r) 63) 15 63 kk else rr_up (rr_copy A (60 + r) 63) 14 63 kk
def rr_spread (A : Nat → Nat → Int32) (r o : Nat) (kk : Int32) : Nat → Nat → Int32 := rr_up (rr_spread1 A r kk) 16 63 (rr_spread1 A r kk 16 (60 + r) ||| (1 : Int32) <<< (rr_spread1 A r kk 3 o &&& 31))
def rr_carry (A : Nat → Nat → Int32) (r : Nat) : Nat → Nat → Int32 := rr_up (rr_up (rr_copy A (60 + r) 63) 12 63 (rr_copy A (60 + r) 63 13 (60 + r))) 13 63 (-1)
def rr_port (A : Nat → Nat → Int32) (r o w : Nat) (kk : Int32) : Nat → Nat → Int32 :=
  if A 4 o = 4 then A
  else if A 8 (60 + r) = 0 then (if 0 ≤ A 15 (60 + r) ∨ ((A 16 (60 + r) >>> (A 3 o &&& 31)) &&& 1) = 1 then A else rr_pfin (rr_spread A r o kk) r o w)
  else if ¬ A 12 (60 + r) = kk then A else rr_pfin (rr_carry A r) r o w
theorem rr_spread2M {B : Nat → Nat → Int32} {r o w : Nat} {x2 x4 x5 : Value} (hr : r < 3) (ho : o < 15) (hw : B 4 o = nI w) (hw4 : w ≤ 4) (hq : Q none (rr_h (rr_pfin (rr_up B 16 63 (B 16 (60 + r) ||| (1 : Int32) <<< (B 3 o &&& 31))) r o w) t)) : rb_wp (d + 2) 63 118 [.ref 0, .int (nI r), x2, .int (nI (60 + r)), x4, x5, .int (nI o)] [] (rr_h B t) Q := by
  repeat (first | refine rr_st (i := 63) rfl (fun _ => rfl) rfl (by omega) rfl ?_ | refine rw_step rfl rfl ?_ | refine rr_ld rfl rfl rfl (by omega) rfl ?_)
  refine rw_call rfl rfl rfl ?_
  refine rr_queueNew ho hw hw4 ?_
  repeat (first | refine rw_step rfl rfl ?_ | refine rr_stz rfl rfl (fun _ => rfl) rfl (by omega) rfl ?_)
  refine rw_ret rfl rfl rfl ?_
  exact hq
theorem rr_portM {r n w : Nat} {x4 x5 x6 : Value} {kk : Int32} (hr : r < 3) (hn : n < 15) (hn9 : 9 ≤ n) (ho : rr_oth n < 15) (hw : A 4 (rr_oth n) = nI w) (hw4 : w ≤ 4) (hq : Q none (rr_h (rr_port A r (rr_oth n) w kk) t)) : rb_wp (d + 2) 63 24 [.ref 0, .int (nI r), .int (nI n), .int (nI (60 + r)), x4, .int kk, x6] [] (rr_h A t) Q := by
  refine rw_step rfl rfl ?_
  refine rw_call rfl rfl rfl ?_
  refine rr_other hn (by omega) ?_
  generalize rr_oth n = o at *
  repeat (first | refine rw_step rfl rfl ?_ | refine rr_ld rfl rfl rfl (by omega) rfl ?_)
  refine rw_icmp rfl (fun h1 => ?_) (fun h1 => ?_)
  · have h1 : ¬ A 4 o = 4 := rw_ne h1
    rw [rr_port, if_neg h1] at hq
    repeat (first | refine rw_step rfl rfl ?_ | refine rr_ld rfl rfl rfl (by omega) rfl ?_)
    refine rw_if rfl (fun h2 => ?_) (fun h2 => ?_)
    · have h2 : ¬ A 8 (60 + r) = 0 := rw_ne h2
      rw [if_neg h2] at hq
      repeat (first | refine rw_step rfl rfl ?_ | refine rr_ld rfl rfl rfl (by omega) rfl ?_)
      refine rw_icmp rfl (fun h3 => ?_) (fun h3 => ?_)
      · have h3 : A 12 (60 + r) = kk := rw_eq h3
        rw [if_neg (fun h9 => h9 h3)] at hq
        repeat refine rw_step rfl rfl ?_
        refine rw_call rfl rfl rfl ?_
        refine rr_copyFrame (x := 60 + r) (y := 63) (by omega) (by omega) ?_
        repeat (first | refine rr_st (i := 63) rfl (fun _ => rfl) rfl (by omega) rfl ?_ | refine rw_step rfl rfl ?_ | refine rr_ld rfl rfl rfl (by omega) rfl ?_)
        refine rw_call rfl rfl rfl ?_
        refine rr_queueNew (w := w) ho ((rr_copy_lo (A := A) (x := 60 + r) (y := 63) (j := 4) (i := o) (by omega)).trans hw) hw4 ?_
        repeat (first | refine rw_step rfl rfl ?_ | refine rr_stz rfl rfl (fun _ => rfl) rfl (by omega) rfl ?_)
        refine rw_ret rfl rfl rfl ?_
        exact hq
      · have h3 : ¬ A 12 (60 + r) = kk := rw_eqF h3
        rw [if_pos h3] at hq
        refine rw_ret rfl rfl rfl ?_
        exact hq
    · have h2 : A 8 (60 + r) = 0 := rw_neF h2
      rw [if_pos h2] at hq
      repeat (first | refine rw_step rfl rfl ?_ | refine rr_ld rfl rfl rfl (by omega) rfl ?_)
      refine rw_if rfl (fun h3 => ?_) (fun h3 => ?_)
      · have h3 : 0 ≤ A 15 (60 + r) := of_decide_eq_true h3
        rw [if_pos (Or.inl h3)] at hq
        refine rw_ret rfl rfl rfl ?_
        exact hq
      have h3 : ¬ 0 ≤ A 15 (60 + r) := of_decide_eq_false h3
      repeat (first | refine rw_step rfl rfl ?_ | refine rr_ld rfl rfl rfl (by omega) rfl ?_)
      refine rw_icmp rfl (fun h4 => ?_) (fun h4 => ?_)
      · have h4 : ¬ ((A 16 (60 + r) >>> (A 3 o &&& 31)) &&& 1) = 1 := rw_ne h4
        rw [if_neg (fun h9 => h9.elim h3 h4)] at hq
        repeat refine rw_step rfl rfl ?_
        refine rw_call rfl rfl rfl ?_
        refine rr_copyFrame (x := 60 + r) (y := 63) (by omega) (by omega) ?_
        repeat (first | refine rw_step rfl rfl ?_ | refine rr_ld rfl rfl rfl (by omega) rfl ?_)
        refine rw_if rfl (fun h5 => ?_) (fun h5 => ?_)
        · have h5 := of_decide_eq_true h5
          rw [rr_spread, rr_spread1, if_pos h5] at hq
          refine rw_step rfl rfl ?_
          refine rw_step rfl rfl ?_
          refine rw_step rfl rfl ?_
          refine rw_step rfl rfl ?_
          refine rr_st (i := 63) rfl (fun _ => rfl) rfl (by omega) rfl ?_
          exact rr_spread2M hr ho ((rr_copy_lo (A := A) (x := 60 + r) (y := 63) (j := 4) (i := o) (by omega)).trans hw) hw4 hq
        · have h5 := of_decide_eq_false h5
          rw [rr_spread, rr_spread1, if_neg h5] at hq
          refine rw_step rfl rfl ?_
          refine rw_step rfl rfl ?_
          refine rw_step rfl rfl ?_
          refine rw_step rfl rfl ?_
          refine rr_st (i := 63) rfl (fun _ => rfl) rfl (by omega) rfl ?_
          refine rw_step rfl rfl ?_
          exact rr_spread2M hr ho ((rr_copy_lo (A := A) (x := 60 + r) (y := 63) (j := 4) (i := o) (by omega)).trans hw) hw4 hq
      · have h4 : ((A 16 (60 + r) >>> (A 3 o &&& 31)) &&& 1) = 1 := rw_neF h4
        rw [if_pos (Or.inr h4)] at hq
        refine rw_ret rfl rfl rfl ?_
        exact hq
  · have h1 : A 4 o = 4 := rw_neF h1
    rw [rr_port, if_pos h1] at hq
    refine rw_ret rfl rfl rfl ?_
    exact hq
end RRJ
