/-! the reference: count, forget, route -/
section RRW
variable {d : Nat} {Q : Option Value → rb_H → Prop} {A : Nat → Nat → Int32} {t : Int32}
def rr_countA (A : Nat → Nat → Int32) (x y : Int32) : Int32 := if (0 ≤ x ∧ x ≤ 2) ∧ (0 ≤ y ∧ y ≤ 2) then A 31 (3 * x.toNatClampNeg + y.toNatClampNeg) else -1
theorem rr_countM {x y : Int32} (hq : Q (some (.int (rr_countA A x y))) (rr_h A t)) : rb_cw (d + 2) 86 [.ref 0, .int x, .int y] (rr_h A t) Q := by
  have no : (¬ ((0 ≤ x ∧ x ≤ 2) ∧ (0 ≤ y ∧ y ≤ 2))) → rb_wp (d + 1) 86 16 [.ref 0, .int x, .int y] [] (rr_h A t) Q := by
    intro h9
    rw [rr_countA, if_neg h9] at hq
    repeat refine rw_step rfl rfl ?_
    exact rw_ret rfl rfl rfl hq
  refine rw_ent rfl rfl rfl ?_
  refine rw_step rfl rfl ?_
  refine rw_call rfl rfl rfl ?_
  refine rr_isRing ?_
  by_cases hx : 0 ≤ x ∧ x ≤ 2
  · rw [if_pos hx]
    refine rw_if rfl (fun h9 => absurd (rw_eq h9) (by decide)) (fun _ => ?_)
    repeat refine rw_step rfl rfl ?_
    refine rw_if rfl (fun h1 => no (fun h9 => absurd h9.2.1 (Int32.not_le.mpr (of_decide_eq_true h1)))) (fun h1 => ?_)
    repeat refine rw_step rfl rfl ?_
    refine rw_icmp rfl (fun h2 => ?_) (fun h2 => no (fun h9 => of_decide_eq_false h2 h9.2.2))
    have hy : 0 ≤ y ∧ y ≤ 2 := ⟨Int32.not_lt.mp (of_decide_eq_false h1), of_decide_eq_true h2⟩
    rw [rr_countA, if_pos ⟨hx, hy⟩] at hq
    obtain ⟨r, hr, rfl⟩ := rr_ring3 hx
    obtain ⟨m, hm, rfl⟩ := rr_ring3 hy
    rw [rr_u3 hr, rr_u3 hm] at hq
    have e1 : (3 : Int32) * nI r + nI m = nI (3 * r + m) := by rw [rr_c3, nI_add]
    repeat refine rw_step rfl rfl ?_
    refine rr_ld (i := 3 * r + m) rfl rfl e1 (by omega) rfl ?_
    exact rw_ret rfl rfl rfl hq
  · rw [if_neg hx]
    refine rw_if rfl (fun _ => no (fun h9 => hx h9.1)) (fun h9 => absurd rfl (rw_eqF h9))
def rr_rt (x y : Int32) : Nat := 9 * (x - 1).toNatClampNeg + (y - 1).toNatClampNeg
theorem rr_rtE {n m : Nat} (hn : n < 9) (hm : m < 9) : rr_rt (nI (n + 1)) (nI (m + 1)) = 9 * n + m := by rw [rr_rt, nI_pred, nI_pred, nI_clamp (by omega), nI_clamp (by omega)]
theorem rr_rtI {n m : Nat} : (9 : Int32) * (nI (n + 1) - 1) + nI (m + 1) - 1 = nI (9 * n + m) := by rw [nI_pred n, rr_c9, nI_add, ← Nat.add_assoc, nI_pred]
def rr_forgetA (A : Nat → Nat → Int32) (x y : Int32) : Int32 × (Nat → Nat → Int32) := if ((1 ≤ x ∧ x ≤ 9) ∧ (1 ≤ y ∧ y ≤ 9)) ∧ ¬ A 32 (rr_rt x y) = 0 then (1, rr_up A 32 (rr_rt x y) 0) else (0, A)
theorem rr_forgetM {x y : Int32} (hq : Q (some (.int (rr_forgetA A x y).1)) (rr_h (rr_forgetA A x y).2 t)) : rb_cw (d + 2) 75 [.ref 0, .int x, .int y] (rr_h A t) Q := by
  have no : (¬ (((1 ≤ x ∧ x ≤ 9) ∧ (1 ≤ y ∧ y ≤ 9)) ∧ ¬ A 32 (rr_rt x y) = 0)) → rb_wp (d + 1) 75 32 [.ref 0, .int x, .int y] [] (rr_h A t) Q := by
    intro h9
    rw [rr_forgetA, if_neg h9] at hq
    repeat refine rw_step rfl rfl ?_
    exact rw_ret rfl rfl rfl hq
  refine rw_ent rfl rfl rfl ?_
  refine rw_step rfl rfl ?_
  refine rw_call rfl rfl rfl ?_
  refine rr_isAddress ?_
  by_cases hx : 1 ≤ x ∧ x ≤ 9
  · rw [if_pos hx]
    refine rw_if rfl (fun h9 => absurd (rw_eq h9) (by decide)) (fun _ => ?_)
    repeat refine rw_step rfl rfl ?_
    refine rw_call rfl rfl rfl ?_
    refine rr_isAddress ?_
    by_cases hy : 1 ≤ y ∧ y ≤ 9
    · rw [if_pos hy]
      refine rw_if rfl (fun h9 => absurd (rw_eq h9) (by decide)) (fun _ => ?_)
      obtain ⟨n, hn, rfl⟩ := rr_addr9 hx
      obtain ⟨m, hm, rfl⟩ := rr_addr9 hy
      repeat refine rw_step rfl rfl ?_
      refine rr_ldz (i := 9 * n + m) rfl rfl rr_rtI (by omega) rfl ?_
      refine rw_if rfl (fun h1 => ?_) (fun h1 => no (fun h9 => h9.2 (by rw [rr_rtE hn hm]; exact rw_neF h1)))
      rw [rr_forgetA, if_pos ⟨⟨hx, hy⟩, by rw [rr_rtE hn hm]; exact rw_ne h1⟩, rr_rtE hn hm] at hq
      repeat refine rw_step rfl rfl ?_
      refine rr_stz (i := 9 * n + m) rfl rfl (fun _ => rfl) rr_rtI (by omega) rfl ?_
      repeat refine rw_step rfl rfl ?_
      exact rw_ret rfl rfl rfl hq
    · rw [if_neg hy]
      refine rw_if rfl (fun _ => no (fun h9 => hy h9.1.2)) (fun h9 => absurd rfl (rw_eqF h9))
  · rw [if_neg hx]
    refine rw_if rfl (fun _ => no (fun h9 => hx h9.1.1)) (fun h9 => absurd rfl (rw_eqF h9))
def rr_routeA (A : Nat → Nat → Int32) (x y : Int32) : Int32 := if ((1 ≤ x ∧ x ≤ 9) ∧ (1 ≤ y ∧ y ≤ 9)) ∧ ¬ A 32 (rr_rt x y) = 0 then A 33 (rr_rt x y) + 1 + 4 * (A 34 (rr_rt x y) + 1) else -1
theorem rr_routeM {x y : Int32} (hq : Q (some (.int (rr_routeA A x y))) (rr_h A t)) : rb_cw (d + 2) 76 [.ref 0, .int x, .int y] (rr_h A t) Q := by
  have no : (¬ (((1 ≤ x ∧ x ≤ 9) ∧ (1 ≤ y ∧ y ≤ 9)) ∧ ¬ A 32 (rr_rt x y) = 0)) → rb_wp (d + 1) 76 32 (rb_ent 76 [.ref 0, .int x, .int y]) [] (rr_h A t) Q := by
    intro h9
    rw [rr_routeA, if_neg h9] at hq
    repeat refine rw_step rfl rfl ?_
    exact rw_ret rfl rfl rfl hq
  refine rw_ent rfl rfl rfl ?_
  refine rw_step rfl rfl ?_
  refine rw_call rfl rfl rfl ?_
  refine rr_isAddress ?_
  by_cases hx : 1 ≤ x ∧ x ≤ 9
  · rw [if_pos hx]
    refine rw_if rfl (fun h9 => absurd (rw_eq h9) (by decide)) (fun _ => ?_)
    repeat refine rw_step rfl rfl ?_
    refine rw_call rfl rfl rfl ?_
    refine rr_isAddress ?_
    by_cases hy : 1 ≤ y ∧ y ≤ 9
    · rw [if_pos hy]
      refine rw_if rfl (fun h9 => absurd (rw_eq h9) (by decide)) (fun _ => ?_)
      obtain ⟨n, hn, rfl⟩ := rr_addr9 hx
      obtain ⟨m, hm, rfl⟩ := rr_addr9 hy
      repeat refine rw_step rfl rfl ?_
      refine rr_ldz (i := 9 * n + m) rfl rfl rr_rtI (by omega) rfl ?_
      refine rw_if rfl (fun h1 => ?_) (fun h1 => no (fun h9 => h9.2 (by rw [rr_rtE hn hm]; exact rw_neF h1)))
      rw [rr_routeA, if_pos ⟨⟨hx, hy⟩, by rw [rr_rtE hn hm]; exact rw_ne h1⟩, rr_rtE hn hm] at hq
      repeat (first | refine rw_step rfl rfl ?_ | refine rr_ld (i := 9 * n + m) rfl rfl rr_rtI (by omega) rfl ?_)
      exact rw_ret rfl rfl rfl hq
    · rw [if_neg hy]
      refine rw_if rfl (fun _ => no (fun h9 => hy h9.1.2)) (fun h9 => absurd rfl (rw_eqF h9))
  · rw [if_neg hx]
    refine rw_if rfl (fun _ => no (fun h9 => hx h9.1.1)) (fun h9 => absurd rfl (rw_eqF h9))
end RRW
