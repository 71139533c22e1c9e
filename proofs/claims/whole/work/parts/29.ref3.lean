/-! the reference: nodeWith, behind, purge, watch -/
def rr_rem (x y : Int32) : Int32 := x - x / y * y
section RRD
variable {d k pc nx a b : Nat} {ls : List Value} {h : rb_H} {Q : Option Value → rb_H → Prop} {A : Nat → Nat → Int32} {t kc : Int32}
theorem rw_rem {x y : Int32} {r : List Value} (hi : rb_ins k pc = some (.irem, nx, a, b, kc)) (hy : ¬ y = 0) (kk : rb_wp d k nx ls (.int (rr_rem x y) :: r) h Q) : rb_wp d k pc ls (.int y :: .int x :: r) h Q := by
  refine rw_step hi ?_ kk
  have hd : decide (y = 0) = false := decide_eq_false hy
  simp only [rb_step, rb_div, hd]
  rfl
def rr_with (A : Nat → Nat → Int32) (r x : Int32) : Nat → Int32
  | 0 => -1
  | n + 1 => if (¬ A 2 n = 0 ∧ A 3 n = r) ∧ rr_addr (nI n) = x then nI n else rr_with A r x n
theorem rr_with_step {r x : Int32} {n : Nat} {y : Int32} (h1 : ((¬ A 2 n = 0 ∧ A 3 n = r) ∧ rr_addr (nI n) = x) → y = nI n) (h2 : ¬ ((¬ A 2 n = 0 ∧ A 3 n = r) ∧ rr_addr (nI n) = x) → y = rr_with A r x n) : y = rr_with A r x (n + 1) := by
  rw [rr_with]
  split
  · exact h1 (by assumption)
  · exact h2 (by assumption)
theorem rr_nodeWith_loop {r p : Int32} (hq : Q (some (.int (rr_with A r p 15))) (rr_h A t)) : ∀ (f n : Nat) (x y : Int32), n + f = 15 → x = nI n → y = rr_with A r p n → rb_wp (d + 1) 49 5 [.ref 0, .int r, .int p, .int y, .int x] [] (rr_h A t) Q := by
  intro f
  induction f with
  | zero =>
    intro n x y hf hx hy
    have hn : n = 15 := by omega
    subst hn hx hy
    refine rw_step rfl rfl ?_
    refine rw_step rfl rfl ?_
    refine rw_icmp rfl (fun hc => ?_) (fun hc => ?_)
    · repeat refine rw_step rfl rfl ?_
      refine rw_ret rfl rfl rfl ?_
      exact hq
    · exact absurd hc (by decide)
  | succ f ih =>
    intro n x y hf hx hy
    subst hx
    have hn : n < 15 := by omega
    refine rw_step rfl rfl ?_
    refine rw_step rfl rfl ?_
    have hlt : ¬ (15 : Int32) ≤ nI n := nI_ge (a := n) (b := 15) hn (by omega)
    refine rw_icmp rfl (fun hc => absurd (of_decide_eq_true hc) hlt) (fun _ => ?_)
    repeat (first | refine rw_step rfl rfl ?_ | refine rr_ldz rfl rfl rfl (by omega) rfl ?_)
    have nxt : ∀ z : Int32, z = rr_with A r p (n + 1) → rb_wp (d + 1) 49 48 [.ref 0, .int r, .int p, .int y, .int (nI n)] [.int z] (rr_h A t) Q := by
      intro z hz
      refine rw_step rfl rfl ?_
      refine rw_step rfl rfl ?_
      refine rw_step rfl rfl ?_
      exact ih (n + 1) (nI n + 1) z (by omega) (nI_1 n) hz
    refine rw_if rfl (fun hc => ?_) (fun hc => ?_)
    · have hc : A 2 n = 0 := by simpa [rb_cmp] using hc
      refine rw_step rfl rfl ?_
      exact nxt y (rr_with_step (fun h9 => absurd hc h9.1.1) (fun _ => hy))
    have hc : ¬ A 2 n = 0 := by simpa [rb_cmp] using hc
    repeat (first | refine rw_step rfl rfl ?_ | refine rr_ld rfl rfl rfl (by omega) rfl ?_)
    refine rw_icmp rfl (fun hc2 => ?_) (fun hc2 => ?_)
    · have hc2 : ¬ A 3 n = r := by simpa [rb_cmp] using hc2
      refine rw_step rfl rfl ?_
      exact nxt y (rr_with_step (fun h9 => absurd h9.1.2 hc2) (fun _ => hy))
    have hc2 : A 3 n = r := by simpa [rb_cmp] using hc2
    refine rw_step rfl rfl ?_
    refine rw_call rfl rfl rfl ?_
    refine rr_addressOf ?_
    refine rw_step rfl rfl ?_
    refine rw_icmp rfl (fun hc3 => ?_) (fun hc3 => ?_)
    · have hc3 : ¬ rr_addr (nI n) = p := by simpa [rb_cmp] using hc3
      refine rw_step rfl rfl ?_
      exact nxt y (rr_with_step (fun h9 => absurd h9.2 hc3) (fun _ => hy))
    have hc3 : rr_addr (nI n) = p := by simpa [rb_cmp] using hc3
    refine rw_step rfl rfl ?_
    refine rw_step rfl rfl ?_
    exact nxt (nI n) (rr_with_step (fun _ => rfl) (fun h9 => absurd ⟨⟨hc, hc2⟩, hc3⟩ h9))
theorem rr_nodeWith {r p : Int32} (hq : Q (some (.int (rr_with A r p 15))) (rr_h A t)) : rb_cw (d + 2) 49 [.ref 0, .int r, .int p] (rr_h A t) Q := by
  refine rw_ent rfl rfl rfl ?_
  refine rw_step rfl rfl ?_
  refine rw_step rfl rfl ?_
  refine rw_step rfl rfl ?_
  refine rw_step rfl rfl ?_
  exact rr_nodeWith_loop hq 15 0 0 (-1) rfl rfl rfl
theorem rr_behind {n r : Nat} (hn : n < 15) (hr : A 3 n = nI r) (hr3 : r < 3) (hm : ¬ A 1 r = 0) (hq : Q (some (.int (rr_rem (A 0 n + 1) (A 1 r)))) (rr_h A t)) : rb_cw (d + 1) 50 [.ref 0, .int (nI n)] (rr_h A t) Q := by
  refine rw_ent rfl rfl rfl ?_
  repeat (first | refine rw_step rfl rfl ?_ | refine rr_ld rfl rfl rfl (by omega) rfl ?_)
  refine rr_ld (i := r) rfl rfl hr (by omega) rfl ?_
  refine rw_rem rfl hm ?_
  refine rw_ret rfl rfl rfl ?_
  exact hq
/-- purge of ring r, whose monitor is node m, on ring r -/
def rr_purge (A : Nat → Nat → Int32) (r m : Nat) : Nat → Nat → Int32 := rr_up (rr_up (rr_up (rr_up A 21 r 4) 29 r (A 30 r)) 22 r (rr_rem (A 0 m + 1) (A 1 r))) 31 (3 * r) (A 31 (3 * r) + 1)
theorem rr_c3 (n : Nat) : (3 : Int32) * nI n = nI (3 * n) := rr_mul 3 n
theorem rr_purgeM {r m : Nat} (hr : r < 3) (hm : m < 15) (hw : rr_with A (nI r) (A 30 r) 15 = nI m) (hmr : A 3 m = nI r) (hmem : ¬ A 1 r = 0) (hq : Q none (rr_h (rr_purge A r m) t)) : rb_cw (d + 3) 57 [.ref 0, .int (nI r)] (rr_h A t) Q := by
  refine rw_ent rfl rfl rfl ?_
  repeat (first | refine rw_step rfl rfl ?_ | refine rr_ld rfl rfl rfl (by omega) rfl ?_)
  refine rw_call rfl rfl rfl ?_
  refine rr_nodeWith ?_
  rw [hw]
  repeat (first | refine rw_step rfl rfl ?_ | refine rr_ld rfl rfl rfl (by omega) rfl ?_ | refine rr_st rfl (fun _ => rfl) rfl (by omega) rfl ?_)
  refine rw_call rfl rfl rfl ?_
  refine rr_behind (r := r) hm hmr hr hmem ?_
  refine rr_st rfl (fun _ => rfl) rfl (by omega) rfl ?_
  repeat refine rw_step rfl rfl ?_
  refine rr_ld (i := 3 * r) rfl rfl (rr_c3 r) (by omega) rfl ?_
  repeat refine rw_step rfl rfl ?_
  refine rr_st (i := 3 * r) rfl (fun _ => rfl) (rr_c3 r) (by omega) rfl ?_
  refine rw_ret rfl rfl rfl ?_
  exact hq
end RRD
