/-! the reference: leaves -/
section RRL
variable {d k pc nx a b : Nat} {ls : List Value} {Q : Option Value → rb_H → Prop} {kc : Int32} {A : Nat → Nat → Int32} {t : Int32}
theorem rr_clamp {i n : Nat} (hin : i < n) (hn : Nat.blt n 1000 = true) : (nI i).toNatClampNeg = i := nI_clamp (by have := rb_blt hn; omega)
theorem rr_vin {i n : Nat} (hin : i < n) (hn : Nat.blt n 1000 = true) : vp_in (nI i) n := vp_in_nI hin (by have := rb_blt hn; omega)
theorem rr_ld {x : Int32} {i j n : Nat} {r : List Value} (hi : rb_ins k pc = some (.iaload, nx, a, b, kc)) (hc : rr_cell j (A j) = .inl (0, n, .inl (A j))) (hx : x = nI i) (hin : i < n) (hn : Nat.blt n 1000 = true) (kk : rb_wp d k nx ls (.int (A j i) :: r) (rr_h A t) Q) : rb_wp d k pc ls (.int x :: .ref (j + 1) :: r) (rr_h A t) Q := by
  subst hx
  exact rr_iald hi hc (rr_vin hin hn) (by rw [rr_clamp hin hn]; exact kk)
theorem rr_ldz {x : Int32} {i j n : Nat} {r : List Value} (hi : rb_ins k pc = some (.baload, nx, a, b, kc)) (hc : rr_cell j (A j) = .inl (1, n, .inl (A j))) (hx : x = nI i) (hin : i < n) (hn : Nat.blt n 1000 = true) (kk : rb_wp d k nx ls (.int (A j i) :: r) (rr_h A t) Q) : rb_wp d k pc ls (.int x :: .ref (j + 1) :: r) (rr_h A t) Q := by
  subst hx
  exact rr_bald hi hc (rr_vin hin hn) (by rw [rr_clamp hin hn]; exact kk)
theorem rr_st {x v : Int32} {i j n : Nat} {r : List Value} (hi : rb_ins k pc = some (.iastore, nx, a, b, kc)) (hc : ∀ g, rr_cell j g = .inl (0, n, .inl g)) (hx : x = nI i) (hin : i < n) (hn : Nat.blt n 1000 = true) (kk : rb_wp d k nx ls r (rr_h (rr_up A j i v) t) Q) : rb_wp d k pc ls (.int v :: .int x :: .ref (j + 1) :: r) (rr_h A t) Q := by
  subst hx
  exact rr_iast hi hc (rr_vin hin hn) (by rw [rr_clamp hin hn]; exact kk)
theorem rr_stz {x v : Int32} {i j n : Nat} {r : List Value} (hi : rb_ins k pc = some (.bastore, nx, a, b, kc)) (hv : rb_fit .boolean (.int v) = true) (hc : ∀ g, rr_cell j g = .inl (1, n, .inl g)) (hx : x = nI i) (hin : i < n) (hn : Nat.blt n 1000 = true) (kk : rb_wp d k nx ls r (rr_h (rr_up A j i v) t) Q) : rb_wp d k pc ls (.int v :: .int x :: .ref (j + 1) :: r) (rr_h A t) Q := by
  subst hx
  exact rr_bast hi hv hc (rr_vin hin hn) (by rw [rr_clamp hin hn]; exact kk)
end RRL
section RRB
variable {d : Nat} {h : rb_H} {Q : Option Value → rb_H → Prop} {A : Nat → Nat → Int32} {t : Int32}
def rr_copy (A : Nat → Nat → Int32) (x y : Nat) : Nat → Nat → Int32 := fun j i => if (8 ≤ j ∧ j ≤ 20) ∧ i = y then A j x else A j i
set_option maxHeartbeats 2000000 in
theorem rr_copyFrame {x y : Nat} (hx : x < 64) (hy : y < 64) (hq : Q none (rr_h (rr_copy A x y) t)) : rb_cw (d + 1) 53 [.ref 0, .int (nI x), .int (nI y)] (rr_h A t) Q := by
  refine rw_ent rfl rfl rfl ?_
  repeat (first
      | refine rw_step rfl rfl ?_
      | refine rr_ld rfl rfl rfl (by omega) rfl ?_
      | refine rr_ldz rfl rfl rfl (by omega) rfl ?_
      | refine rr_st rfl (fun _ => rfl) rfl (by omega) rfl ?_
      | refine rr_stz rfl rfl (fun _ => rfl) rfl (by omega) rfl ?_)
  refine rw_ret rfl rfl rfl ?_
  refine cast (congrArg (fun B => Q none (rr_h B t)) ?_) hq
  funext j i
  simp only [rr_up_at, rr_copy]
  by_cases hi : i = y
  · subst hi
    by_cases hj : 8 ≤ j ∧ j ≤ 20
    · have : j = 8 ∨ j = 9 ∨ j = 10 ∨ j = 11 ∨ j = 12 ∨ j = 13 ∨ j = 14 ∨ j = 15 ∨ j = 16 ∨ j = 17 ∨ j = 18 ∨ j = 19 ∨ j = 20 := by omega
      rcases this with rfl | rfl | rfl | rfl | rfl | rfl | rfl | rfl | rfl | rfl | rfl | rfl | rfl <;> simp
    · have n8 : ¬ j = 8 := by omega
      have n9 : ¬ j = 9 := by omega
      have n10 : ¬ j = 10 := by omega
      have n11 : ¬ j = 11 := by omega
      have n12 : ¬ j = 12 := by omega
      have n13 : ¬ j = 13 := by omega
      have n14 : ¬ j = 14 := by omega
      have n15 : ¬ j = 15 := by omega
      have n16 : ¬ j = 16 := by omega
      have n17 : ¬ j = 17 := by omega
      have n18 : ¬ j = 18 := by omega
      have n19 : ¬ j = 19 := by omega
      have n20 : ¬ j = 20 := by omega
      simp [hj, n8, n9, n10, n11, n12, n13, n14, n15, n16, n17, n18, n19, n20]
  · simp [hi]
def rr_make (A : Nat → Nat → Int32) (k p a b w1 w2 : Int32) : Nat → Nat → Int32 := (rr_up (rr_up (rr_up (rr_up (rr_up (rr_up (rr_up (rr_up (rr_up (rr_up (rr_up A 8 63 k) 9 63 p) 10 63 a) 11 63 b) 12 63 w1) 13 63 w2) 14 63 (-1)) 15 63 (-1)) 16 63 0) 17 63 0) 18 63 0)
theorem rr_makeFrame {k p a b w1 w2 : Int32} (hq : Q none (rr_h (rr_make A k p a b w1 w2) t)) : rb_cw (d + 1) 55 [.ref 0, .int k, .int p, .int a, .int b, .int w1, .int w2] (rr_h A t) Q := by
  refine rw_ent rfl rfl rfl ?_
  repeat (first
    | refine rr_st (i := 63) rfl (fun _ => rfl) rfl (by omega) rfl ?_
    | refine rw_step rfl rfl ?_)
  refine rw_ret rfl rfl rfl ?_
  exact hq
def rr_tok (A : Nat → Nat → Int32) (r : Nat) (p v : Int32) : Nat → Nat → Int32 := rr_up (rr_up (rr_up (rr_up (rr_up (rr_up A 21 r 1) 24 r p) 25 r v) 26 r 0) 27 r 0) 28 r 0
theorem rr_setToken {r : Nat} {p v : Int32} (hr : r < 3) (hq : Q none (rr_h (rr_tok A r p v) t)) : rb_cw (d + 1) 58 [.ref 0, .int (nI r), .int p, .int v] (rr_h A t) Q := by
  refine rw_ent rfl rfl rfl ?_
  repeat (first
      | refine rw_step rfl rfl ?_
      | refine rr_ld rfl rfl rfl (by omega) rfl ?_
      | refine rr_ldz rfl rfl rfl (by omega) rfl ?_
      | refine rr_st rfl (fun _ => rfl) rfl (by omega) rfl ?_
      | refine rr_stz rfl rfl (fun _ => rfl) rfl (by omega) rfl ?_)
  refine rw_ret rfl rfl rfl ?_
  exact hq
def rr_come (A : Nat → Nat → Int32) (n r : Nat) : Nat → Nat → Int32 := rr_up (rr_up (rr_up (rr_up (rr_up (rr_up A 2 n 1) 3 n (nI r)) 0 n (A 1 r)) 1 r (A 1 r + 1)) 4 n 0) 5 n 0
theorem rr_comeM {n r : Nat} (hn : n < 15) (hr : r < 3) (hq : Q none (rr_h (rr_come A n r) t)) : rb_cw (d + 1) 51 [.ref 0, .int (nI n), .int (nI r)] (rr_h A t) Q := by
  refine rw_ent rfl rfl rfl ?_
  repeat (first
      | refine rw_step rfl rfl ?_
      | refine rr_ld rfl rfl rfl (by omega) rfl ?_
      | refine rr_ldz rfl rfl rfl (by omega) rfl ?_
      | refine rr_st rfl (fun _ => rfl) rfl (by omega) rfl ?_
      | refine rr_stz rfl rfl (fun _ => rfl) rfl (by omega) rfl ?_)
  refine rw_ret rfl rfl rfl ?_
  exact hq
theorem rr_isConnection {x : Int32} (hq : Q (some (.int (if 0 ≤ x ∧ x ≤ 3 then 1 else 0))) h) : rb_cw (d + 1) 78 [.int x] h Q := by
  refine rw_ent rfl rfl rfl ?_
  repeat refine rw_step rfl rfl ?_
  refine rw_if rfl (fun hc => ?_) (fun hc => ?_)
  · repeat refine rw_step rfl rfl ?_
    refine rw_ret rfl rfl rfl ?_
    have hc : x < 0 := of_decide_eq_true hc
    rw [if_neg (fun h9 => absurd hc (Int32.not_lt.mpr h9.1))] at hq
    exact hq
  · repeat refine rw_step rfl rfl ?_
    have hc : 0 ≤ x := Int32.not_lt.mp (of_decide_eq_false hc)
    refine rw_icmp rfl (fun hc2 => ?_) (fun hc2 => ?_)
    · repeat refine rw_step rfl rfl ?_
      refine rw_ret rfl rfl rfl ?_
      have hc2 : 3 < x := of_decide_eq_true hc2
      rw [if_neg (fun h9 => absurd hc2 (Int32.not_lt.mpr h9.2))] at hq
      exact hq
    · repeat refine rw_step rfl rfl ?_
      refine rw_ret rfl rfl rfl ?_
      have hc2 : x ≤ 3 := Int32.not_lt.mp (of_decide_eq_false hc2)
      rw [if_pos ⟨hc, hc2⟩] at hq
      exact hq
theorem rr_isAddress {x : Int32} (hq : Q (some (.int (if 1 ≤ x ∧ x ≤ 9 then 1 else 0))) h) : rb_cw (d + 1) 46 [.int x] h Q := by
  refine rw_ent rfl rfl rfl ?_
  repeat refine rw_step rfl rfl ?_
  refine rw_icmp rfl (fun hc => ?_) (fun hc => ?_)
  · repeat refine rw_step rfl rfl ?_
    refine rw_ret rfl rfl rfl ?_
    have hc : x < 1 := of_decide_eq_true hc
    rw [if_neg (fun h9 => absurd hc (Int32.not_lt.mpr h9.1))] at hq
    exact hq
  · repeat refine rw_step rfl rfl ?_
    have hc : 1 ≤ x := Int32.not_lt.mp (of_decide_eq_false hc)
    refine rw_icmp rfl (fun hc2 => ?_) (fun hc2 => ?_)
    · repeat refine rw_step rfl rfl ?_
      refine rw_ret rfl rfl rfl ?_
      have hc2 : 9 < x := of_decide_eq_true hc2
      rw [if_neg (fun h9 => absurd hc2 (Int32.not_lt.mpr h9.2))] at hq
      exact hq
    · repeat refine rw_step rfl rfl ?_
      refine rw_ret rfl rfl rfl ?_
      have hc2 : x ≤ 9 := Int32.not_lt.mp (of_decide_eq_false hc2)
      rw [if_pos ⟨hc, hc2⟩] at hq
      exact hq
end RRB
