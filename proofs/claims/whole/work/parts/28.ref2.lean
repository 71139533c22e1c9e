/-! the reference: wish, queueNew, the searches -/
theorem rr_mul (a b : Nat) : nI a * nI b = nI (a * b) := by
  unfold nI
  exact (Int32.ofNat_mul a b).symm
theorem rr_c4 (n : Nat) : (4 : Int32) * nI n = nI (4 * n) := rr_mul 4 n
section RRC
variable {d : Nat} {h : rb_H} {Q : Option Value → rb_H → Prop} {A : Nat → Nat → Int32} {t : Int32}
def rr_wish (A : Nat → Nat → Int32) (n : Nat) : Int32 := if A 4 n = 0 then -1 else A 9 (4 * n)
theorem rr_wishM {n : Nat} (hn : n < 15) (hq : Q (some (.int (rr_wish A n))) (rr_h A t)) : rb_cw (d + 1) 56 [.ref 0, .int (nI n)] (rr_h A t) Q := by
  refine rw_ent rfl rfl rfl ?_
  repeat (first | refine rw_step rfl rfl ?_ | refine rr_ld rfl rfl rfl (by omega) rfl ?_)
  refine rw_if rfl (fun hc => ?_) (fun hc => ?_)
  · repeat refine rw_step rfl rfl ?_
    refine rr_ld (i := 4 * n) rfl rfl (rr_c4 n) (by omega) rfl ?_
    refine rw_ret rfl rfl rfl ?_
    have hc : ¬ A 4 n = 0 := by simpa [rb_cmp] using hc
    rw [rr_wish, if_neg hc] at hq
    exact hq
  · repeat refine rw_step rfl rfl ?_
    refine rw_ret rfl rfl rfl ?_
    have hc : A 4 n = 0 := by simpa [rb_cmp] using hc
    rw [rr_wish, if_pos hc] at hq
    exact hq
def rr_queue (A : Nat → Nat → Int32) (n w : Nat) : Nat → Nat → Int32 := if w = 4 then A else rr_up (rr_copy A 63 (4 * n + w)) 4 n (nI (w + 1))
theorem rr_queueNew {n w : Nat} (hn : n < 15) (hw : A 4 n = nI w) (hw4 : w ≤ 4) (hq : Q none (rr_h (rr_queue A n w) t)) : rb_cw (d + 2) 54 [.ref 0, .int (nI n)] (rr_h A t) Q := by
  refine rw_ent rfl rfl rfl ?_
  repeat (first | refine rw_step rfl rfl ?_ | refine rr_ld rfl rfl rfl (by omega) rfl ?_)
  refine rw_icmp rfl (fun hc => ?_) (fun hc => ?_)
  · have hc : ¬ A 4 n = 4 := by simpa [rb_cmp] using hc
    have hne : ¬ w = 4 := fun h9 => hc (by rw [hw, h9]; rfl)
    rw [rr_queue, if_neg hne] at hq
    repeat (first | refine rw_step rfl rfl ?_ | refine rr_ld rfl rfl rfl (by omega) rfl ?_)
    refine rw_call rfl rfl rfl ?_
    have e1 : (4 : Int32) * nI n + A 4 n = nI (4 * n + w) := by rw [rr_c4, hw, nI_add]
    show rb_cw (d + 1) 53 [.ref 0, .int (nI 63), .int ((4 : Int32) * nI n + A 4 n)] (rr_h A t) _
    rw [e1]
    refine rr_copyFrame (by omega) (by omega) ?_
    repeat (first | refine rw_step rfl rfl ?_ | refine rr_ld rfl rfl rfl (by omega) rfl ?_)
    refine rr_st rfl (fun _ => rfl) rfl (by omega) rfl ?_
    refine rw_ret rfl rfl rfl ?_
    have e2 : rr_copy A 63 (4 * n + w) 4 n + 1 = nI (w + 1) := by
      show (if (8 ≤ 4 ∧ 4 ≤ 20) ∧ n = 4 * n + w then _ else A 4 n) + 1 = _
      rw [if_neg (by omega), hw, nI_1]
    dsimp only
    rw [e2]
    exact hq
  · have hc : A 4 n = 4 := by simpa [rb_cmp] using hc
    have he : w = 4 := (nI_eq (by omega) (by omega)).mp (hw.symm.trans hc)
    rw [rr_queue, if_pos he] at hq
    refine rw_ret rfl rfl rfl ?_
    exact hq
def rr_at (A : Nat → Nat → Int32) (r p : Int32) : Nat → Int32
  | 0 => -1
  | n + 1 => if (¬ A 2 n = 0 ∧ A 3 n = r) ∧ A 0 n = p then nI n else rr_at A r p n
theorem rr_at_step {r p : Int32} {n : Nat} {y : Int32} (h1 : ((¬ A 2 n = 0 ∧ A 3 n = r) ∧ A 0 n = p) → y = nI n) (h2 : ¬ ((¬ A 2 n = 0 ∧ A 3 n = r) ∧ A 0 n = p) → y = rr_at A r p n) : y = rr_at A r p (n + 1) := by
  rw [rr_at]
  split
  · exact h1 (by assumption)
  · exact h2 (by assumption)
theorem rr_nodeAt_loop {r p : Int32} (hq : Q (some (.int (rr_at A r p 15))) (rr_h A t)) : ∀ (f n : Nat) (x y : Int32), n + f = 15 → x = nI n → y = rr_at A r p n → rb_wp d 48 5 [.ref 0, .int r, .int p, .int y, .int x] [] (rr_h A t) Q := by
  intro f
  induction f with
  | zero =>
    intro n x y hf hx hy
    have hn : n = 15 := by omega
    subst hn hx hy
    refine rw_step rfl rfl ?_
    refine rw_step rfl rfl ?_
    refine rw_icmp rfl (fun hc => ?_) (fun hc => ?_)
    · repeat refine rw_step rfl rfl ?_
      refine rw_ret rfl rfl rfl ?_
      exact hq
    · exact absurd hc (by decide)
  | succ f ih =>
    intro n x y hf hx hy
    subst hx
    have hn : n < 15 := by omega
    refine rw_step rfl rfl ?_
    refine rw_step rfl rfl ?_
    have hlt : ¬ (15 : Int32) ≤ nI n := nI_ge (a := n) (b := 15) hn (by omega)
    refine rw_icmp rfl (fun hc => absurd (of_decide_eq_true hc) hlt) (fun _ => ?_)
    repeat (first | refine rw_step rfl rfl ?_ | refine rr_ldz rfl rfl rfl (by omega) rfl ?_)
    have nxt : ∀ z : Int32, z = rr_at A r p (n + 1) → rb_wp d 48 50 [.ref 0, .int r, .int p, .int y, .int (nI n)] [.int z] (rr_h A t) Q := by
      intro z hz
      refine rw_step rfl rfl ?_
      refine rw_step rfl rfl ?_
      refine rw_step rfl rfl ?_
      exact ih (n + 1) (nI n + 1) z (by omega) (nI_1 n) hz
    refine rw_if rfl (fun hc => ?_) (fun hc => ?_)
    · have hc : A 2 n = 0 := by simpa [rb_cmp] using hc
      refine rw_step rfl rfl ?_
      exact nxt y (rr_at_step (fun h9 => absurd hc h9.1.1) (fun _ => hy))
    have hc : ¬ A 2 n = 0 := by simpa [rb_cmp] using hc
    repeat (first | refine rw_step rfl rfl ?_ | refine rr_ld rfl rfl rfl (by omega) rfl ?_)
    refine rw_icmp rfl (fun hc2 => ?_) (fun hc2 => ?_)
    · have hc2 : ¬ A 3 n = r := by simpa [rb_cmp] using hc2
      refine rw_step rfl rfl ?_
      exact nxt y (rr_at_step (fun h9 => absurd h9.1.2 hc2) (fun _ => hy))
    have hc2 : A 3 n = r := by simpa [rb_cmp] using hc2
    repeat (first | refine rw_step rfl rfl ?_ | refine rr_ld rfl rfl rfl (by omega) rfl ?_)
    refine rw_icmp rfl (fun hc3 => ?_) (fun hc3 => ?_)
    · have hc3 : ¬ A 0 n = p := by simpa [rb_cmp] using hc3
      refine rw_step rfl rfl ?_
      exact nxt y (rr_at_step (fun h9 => absurd h9.2 hc3) (fun _ => hy))
    have hc3 : A 0 n = p := by simpa [rb_cmp] using hc3
    refine rw_step rfl rfl ?_
    refine rw_step rfl rfl ?_
    exact nxt (nI n) (rr_at_step (fun _ => rfl) (fun h9 => absurd ⟨⟨hc, hc2⟩, hc3⟩ h9))
theorem rr_nodeAt {r p : Int32} (hq : Q (some (.int (rr_at A r p 15))) (rr_h A t)) : rb_cw (d + 1) 48 [.ref 0, .int r, .int p] (rr_h A t) Q := by
  refine rw_ent rfl rfl rfl ?_
  refine rw_step rfl rfl ?_
  refine rw_step rfl rfl ?_
  refine rw_step rfl rfl ?_
  refine rw_step rfl rfl ?_
  exact rr_nodeAt_loop hq 15 0 0 (-1) rfl rfl rfl
end RRC
