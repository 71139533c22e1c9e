/-! the class: numbers, paths, routes -/
section RKE
variable {d : Nat} {h : rb_H} {Q : Option Value → rb_H → Prop} {X : Nat → Nat → Int32} {R : Nat → Nat → Option Nat}
theorem rk_isSt {x : Int32} (hq : Q (some (.int (if 1 ≤ x ∧ x ≤ 9 then 1 else 0))) h) : rb_cw (d + 1) 19 [.int x] h Q := by
  refine rw_ent rfl rfl rfl ?_
  repeat refine rw_step rfl rfl ?_
  refine rw_icmp rfl (fun hc => ?_) (fun hc => ?_)
  · repeat refine rw_step rfl rfl ?_
    refine rw_ret rfl rfl rfl ?_
    have hc : x < 1 := of_decide_eq_true hc
    rw [if_neg (fun h9 => absurd hc (Int32.not_lt.mpr h9.1))] at hq
    exact hq
  · repeat refine rw_step rfl rfl ?_
    have hc : 1 ≤ x := Int32.not_lt.mp (of_decide_eq_false hc)
    refine rw_icmp rfl (fun hc2 => ?_) (fun hc2 => ?_)
    · repeat refine rw_step rfl rfl ?_
      refine rw_ret rfl rfl rfl ?_
      have hc2 : 9 < x := of_decide_eq_true hc2
      rw [if_neg (fun h9 => absurd hc2 (Int32.not_lt.mpr h9.2))] at hq
      exact hq
    · repeat refine rw_step rfl rfl ?_
      refine rw_ret rfl rfl rfl ?_
      have hc2 : x ≤ 9 := Int32.not_lt.mp (of_decide_eq_false hc2)
      rw [if_pos ⟨hc, hc2⟩] at hq
      exact hq
theorem rk_ringNo {x : Int32} (hx : ¬ (0 ≤ x ∧ x ≤ 2)) (hq : Q (some .null) (rc_h X R)) : rb_cw (d + 1) 20 [.ref 0, .int x] (rc_h X R) Q := by
  refine rw_ent rfl rfl rfl ?_
  refine rw_step rfl rfl ?_
  refine rw_if rfl (fun _ => ?_) (fun hc => ?_)
  · refine rw_step rfl rfl ?_
    exact rw_ret rfl rfl rfl hq
  have hc : 0 ≤ x := Int32.not_lt.mp (of_decide_eq_false hc)
  refine rw_step rfl rfl ?_
  refine rw_step rfl rfl ?_
  refine rw_icmp rfl (fun _ => ?_) (fun hc2 => ?_)
  · refine rw_step rfl rfl ?_
    exact rw_ret rfl rfl rfl hq
  · have hc2 : ¬ (3 : Int32) ≤ x := of_decide_eq_false hc2
    refine absurd ⟨hc, ?_⟩ hx
    rw [Int32.le_iff_toInt_le] at hc2 ⊢
    have e3 : (3 : Int32).toInt = 3 := by decide
    have e2 : (2 : Int32).toInt = 2 := by decide
    omega
theorem rk_ring {r : Nat} (hW : rc_wf R) (hr : r < 3) (hq : Q (some (.ref (2 + 44 * r))) (rc_h X R)) : rb_cw (d + 1) 20 [.ref 0, .int (nI r)] (rc_h X R) Q := by
  refine rw_ent rfl rfl rfl ?_
  refine rw_step rfl rfl ?_
  refine rw_if rfl (fun hc => absurd (of_decide_eq_true hc) (Int32.not_lt.mpr (nI_le (a := 0) (b := r) (by omega) (by omega)))) (fun _ => ?_)
  refine rw_step rfl rfl ?_
  refine rw_step rfl rfl ?_
  refine rw_icmp rfl (fun hc => absurd (of_decide_eq_true hc) (nI_ge (a := r) (b := 3) hr (by omega))) (fun _ => ?_)
  refine rw_step rfl rfl ?_
  refine rc_gr rfl rfl rfl ?_
  refine rw_step rfl rfl ?_
  refine rc_aa rfl (T := 10) rfl rfl hr (hW.1 r hr) ?_
  refine rw_step rfl rfl ?_
  exact rw_ret rfl rfl rfl hq
theorem rk_linkNo {x : Int32} (hx : ¬ (0 ≤ x ∧ x ≤ 3)) (hq : Q (some .null) (rc_h X R)) : rb_cw (d + 1) 21 [.ref 0, .int x] (rc_h X R) Q := by
  refine rw_ent rfl rfl rfl ?_
  refine rw_step rfl rfl ?_
  refine rw_if rfl (fun _ => ?_) (fun hc => ?_)
  · refine rw_step rfl rfl ?_
    exact rw_ret rfl rfl rfl hq
  have hc : 0 ≤ x := Int32.not_lt.mp (of_decide_eq_false hc)
  refine rw_step rfl rfl ?_
  refine rw_step rfl rfl ?_
  refine rw_icmp rfl (fun _ => ?_) (fun hc2 => ?_)
  · refine rw_step rfl rfl ?_
    exact rw_ret rfl rfl rfl hq
  · have hc2 : ¬ (4 : Int32) ≤ x := of_decide_eq_false hc2
    refine absurd ⟨hc, ?_⟩ hx
    rw [Int32.le_iff_toInt_le] at hc2 ⊢
    have e3 : (4 : Int32).toInt = 4 := by decide
    have e2 : (3 : Int32).toInt = 3 := by decide
    omega
theorem rk_link {c : Nat} (hW : rc_wf R) (hc : c < 4) (hq : Q (some (.ref (135 + 5 * c))) (rc_h X R)) : rb_cw (d + 1) 21 [.ref 0, .int (nI c)] (rc_h X R) Q := by
  refine rw_ent rfl rfl rfl ?_
  refine rw_step rfl rfl ?_
  refine rw_if rfl (fun hc => absurd (of_decide_eq_true hc) (Int32.not_lt.mpr (nI_le (a := 0) (b := c) (by omega) (by omega)))) (fun _ => ?_)
  refine rw_step rfl rfl ?_
  refine rw_step rfl rfl ?_
  refine rw_icmp rfl (fun hc9 => absurd (of_decide_eq_true hc9) (nI_ge (a := c) (b := 4) hc (by omega))) (fun _ => ?_)
  refine rw_step rfl rfl ?_
  refine rc_gr rfl rfl rfl ?_
  refine rw_step rfl rfl ?_
  refine rc_aa rfl (T := 14) rfl rfl hc (hW.2.1 c hc) ?_
  refine rw_step rfl rfl ?_
  exact rw_ret rfl rfl rfl hq
theorem rk_knownNo {x y : Int32} (hx : ¬ ((1 ≤ x ∧ x ≤ 9) ∧ (1 ≤ y ∧ y ≤ 9))) (hq : Q (some (.int (-1))) (rc_h X R)) : rb_cw (d + 2) 25 [.ref 0, .int x, .int y] (rc_h X R) Q := by
  refine rw_ent rfl rfl rfl ?_
  refine rw_step rfl rfl ?_
  refine rw_call rfl rfl rfl ?_
  refine rk_isSt ?_
  by_cases h1 : 1 ≤ x ∧ x ≤ 9
  · rw [if_pos h1]
    refine rw_step rfl rfl ?_
    refine rw_step rfl rfl ?_
    refine rw_call rfl rfl rfl ?_
    refine rk_isSt ?_
    rw [if_neg (fun h9 => hx ⟨h1, h9⟩)]
    refine rw_step rfl rfl ?_
    refine rw_step rfl rfl ?_
    exact rw_ret rfl rfl rfl hq
  · rw [if_neg h1]
    refine rw_step rfl rfl ?_
    refine rw_step rfl rfl ?_
    exact rw_ret rfl rfl rfl hq
theorem rk_st1 {a : Nat} (h1 : 1 ≤ a) (h9 : a ≤ 9) : (1 : Int32) ≤ nI a ∧ nI a ≤ 9 := ⟨nI_le (a := 1) (b := a) h1 (by omega), nI_le (a := a) (b := 9) h9 (by omega)⟩
theorem rk_known {a b : Nat} (hW : rc_wf R) (ha : 1 ≤ a) (ha9 : a ≤ 9) (hb : 1 ≤ b) (hb9 : b ≤ 9) (hq : Q (some (.int (X (156 + a) b))) (rc_h X R)) : rb_cw (d + 2) 25 [.ref 0, .int (nI a), .int (nI b)] (rc_h X R) Q := by
  refine rw_ent rfl rfl rfl ?_
  refine rw_step rfl rfl ?_
  refine rw_call rfl rfl rfl ?_
  refine rk_isSt ?_
  rw [if_pos (rk_st1 ha ha9)]
  refine rw_step rfl rfl ?_
  refine rw_step rfl rfl ?_
  refine rw_call rfl rfl rfl ?_
  refine rk_isSt ?_
  rw [if_pos (rk_st1 hb hb9)]
  refine rw_step rfl rfl ?_
  refine rw_step rfl rfl ?_
  refine rc_gr rfl rfl rfl ?_
  refine rw_step rfl rfl ?_
  refine rc_aa rfl (T := 17) rfl rfl (show a < 10 by omega) (hW.2.2.1 a (by omega)) ?_
  refine rw_step rfl rfl ?_
  refine rc_il rfl (rc_tW (c := a) (by omega)) rfl (show b < 10 by omega) ?_
  refine rw_step rfl rfl ?_
  exact rw_ret rfl rfl rfl hq
theorem rk_setRoute {a b : Nat} {v : Int32} (hW : rc_wf R) (ha : 1 ≤ a) (ha9 : a ≤ 9) (hb : 1 ≤ b) (hb9 : b ≤ 9) (hq : Q none (rc_h (rr_up X (156 + a) b v) R)) : rb_cw (d + 2) 26 [.ref 0, .int (nI a), .int (nI b), .int v] (rc_h X R) Q := by
  refine rw_ent rfl rfl rfl ?_
  refine rw_step rfl rfl ?_
  refine rw_call rfl rfl rfl ?_
  refine rk_isSt ?_
  rw [if_pos (rk_st1 ha ha9)]
  refine rw_step rfl rfl ?_
  refine rw_step rfl rfl ?_
  refine rw_call rfl rfl rfl ?_
  refine rk_isSt ?_
  rw [if_pos (rk_st1 hb hb9)]
  refine rw_step rfl rfl ?_
  refine rw_step rfl rfl ?_
  refine rc_gr rfl rfl rfl ?_
  refine rw_step rfl rfl ?_
  refine rc_aa rfl (T := 17) rfl rfl (show a < 10 by omega) (hW.2.2.1 a (by omega)) ?_
  refine rw_step rfl rfl ?_
  refine rw_step rfl rfl ?_
  refine rc_is rfl (rc_tW (c := a) (by omega)) rfl (show b < 10 by omega) ?_
  exact rw_ret rfl rfl rfl hq
/-! paths are held as u + 4 v, u and v from 0 to 3, v = 0 where u = 0 -/
def rk_pth (u v : Nat) : Prop := u ≤ 3 ∧ v ≤ 3 ∧ (u = 0 → v = 0)
theorem rk_pth_all {P : Nat → Nat → Prop} (h : P 0 0 ∧ P 1 0 ∧ P 2 0 ∧ P 3 0 ∧ P 1 1 ∧ P 2 1 ∧ P 3 1 ∧ P 1 2 ∧ P 2 2 ∧ P 3 2 ∧ P 1 3 ∧ P 2 3 ∧ P 3 3) {u v : Nat} (hp : rk_pth u v) : P u v := by
  obtain ⟨h1, h2, h3⟩ := hp
  obtain ⟨a, b, c, d, e, f, g, i, j, k, l, m, n⟩ := h
  have : (u = 0 ∧ v = 0) ∨ (u = 1 ∧ v = 0) ∨ (u = 2 ∧ v = 0) ∨ (u = 3 ∧ v = 0) ∨ (u = 1 ∧ v = 1) ∨ (u = 2 ∧ v = 1) ∨ (u = 3 ∧ v = 1) ∨ (u = 1 ∧ v = 2) ∨ (u = 2 ∧ v = 2) ∨ (u = 3 ∧ v = 2) ∨ (u = 1 ∧ v = 3) ∨ (u = 2 ∧ v = 3) ∨ (u = 3 ∧ v = 3) := by omega
  rcases this with ⟨rfl, rfl⟩ | ⟨rfl, rfl⟩ | ⟨rfl, rfl⟩ | ⟨rfl, rfl⟩ | ⟨rfl, rfl⟩ | ⟨rfl, rfl⟩ | ⟨rfl, rfl⟩ | ⟨rfl, rfl⟩ | ⟨rfl, rfl⟩ | ⟨rfl, rfl⟩ | ⟨rfl, rfl⟩ | ⟨rfl, rfl⟩ | ⟨rfl, rfl⟩ <;> assumption
def rk_fp (x : Int32) : Int32 := if x = 0 then 0 else 10 + (x &&& 3) - 1
theorem rk_firstPort {x : Int32} (hq : Q (some (.int (rk_fp x))) h) : rb_cw (d + 1) 38 [.int x] h Q := by
  refine rw_ent rfl rfl rfl ?_
  refine rw_step rfl rfl ?_
  refine rw_if rfl (fun hc => ?_) (fun hc => ?_)
  · have hc : ¬ x = 0 := by simpa [rb_cmp] using hc
    rw [rk_fp, if_neg hc] at hq
    repeat refine rw_step rfl rfl ?_
    exact rw_ret rfl rfl rfl hq
  · have hc : x = 0 := by simpa [rb_cmp] using hc
    rw [rk_fp, if_pos hc] at hq
    repeat refine rw_step rfl rfl ?_
    exact rw_ret rfl rfl rfl hq
theorem rk_without {x : Int32} (hq : Q (some (.int (x >>> (2 &&& 31)))) h) : rb_cw (d + 1) 39 [.int x] h Q := by
  refine rw_ent rfl rfl rfl ?_
  repeat refine rw_step rfl rfl ?_
  exact rw_ret rfl rfl rfl hq
theorem rk_hasTwo {x : Int32} (hq : Q (some (.int (if x ≤ 3 then 0 else 1))) h) : rb_cw (d + 1) 40 [.int x] h Q := by
  refine rw_ent rfl rfl rfl ?_
  repeat refine rw_step rfl rfl ?_
  refine rw_icmp rfl (fun hc => ?_) (fun hc => ?_)
  · rw [if_pos (show x ≤ 3 from of_decide_eq_true hc)] at hq
    repeat refine rw_step rfl rfl ?_
    exact rw_ret rfl rfl rfl hq
  · rw [if_neg (show ¬ x ≤ 3 from of_decide_eq_false hc)] at hq
    repeat refine rw_step rfl rfl ?_
    exact rw_ret rfl rfl rfl hq
def rk_wl (x y : Int32) : Int32 := if x = 0 then y - 10 + 1 else x + 4 * (y - 10 + 1)
theorem rk_withLast {x y : Int32} (hq : Q (some (.int (rk_wl x y))) h) : rb_cw (d + 1) 41 [.int x, .int y] h Q := by
  refine rw_ent rfl rfl rfl ?_
  repeat refine rw_step rfl rfl ?_
  refine rw_if rfl (fun hc => ?_) (fun hc => ?_)
  · have hc : ¬ x = 0 := by simpa [rb_cmp] using hc
    rw [rk_wl, if_neg hc] at hq
    repeat refine rw_step rfl rfl ?_
    exact rw_ret rfl rfl rfl hq
  · have hc : x = 0 := by simpa [rb_cmp] using hc
    rw [rk_wl, if_pos hc] at hq
    repeat refine rw_step rfl rfl ?_
    exact rw_ret rfl rfl rfl hq
def rk_bk (x : Int32) : Int32 := if x ≤ 3 then x else (x >>> (2 &&& 31)) + 4 * (x &&& 3)
theorem rk_backwards {x : Int32} (hq : Q (some (.int (rk_bk x))) h) : rb_cw (d + 1) 42 [.int x] h Q := by
  refine rw_ent rfl rfl rfl ?_
  repeat refine rw_step rfl rfl ?_
  refine rw_icmp rfl (fun hc => ?_) (fun hc => ?_)
  · rw [rk_bk, if_pos (show x ≤ 3 from of_decide_eq_true hc)] at hq
    repeat refine rw_step rfl rfl ?_
    exact rw_ret rfl rfl rfl hq
  · rw [rk_bk, if_neg (show ¬ x ≤ 3 from of_decide_eq_false hc)] at hq
    repeat refine rw_step rfl rfl ?_
    exact rw_ret rfl rfl rfl hq
theorem rk_bk_ok {u v : Nat} (hp : rk_pth u v) : rk_bk (nI (u + 4 * v)) = (if v = 0 then nI u else nI (v + 4 * u)) := rk_pth_all (P := fun u v => rk_bk (nI (u + 4 * v)) = (if v = 0 then nI u else nI (v + 4 * u))) (by decide +kernel) hp
theorem rk_fp_ok {u v : Nat} (hp : rk_pth u v) : rk_fp (nI (u + 4 * v)) = (if u = 0 then 0 else nI (9 + u)) := rk_pth_all (P := fun u v => rk_fp (nI (u + 4 * v)) = (if u = 0 then 0 else nI (9 + u))) (by decide +kernel) hp
theorem rk_wo_ok {u v : Nat} (hp : rk_pth u v) : (nI (u + 4 * v)) >>> (2 &&& 31) = nI v := rk_pth_all (P := fun u v => (nI (u + 4 * v)) >>> (2 &&& 31) = nI v) (by decide +kernel) hp
end RKE
