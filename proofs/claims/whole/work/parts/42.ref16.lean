/-! the reference: at, monitor, close -/
theorem rr_ring3 {x : Int32} (h : 0 ≤ x ∧ x ≤ 2) : ∃ r : Nat, r < 3 ∧ x = nI r := by
  obtain ⟨j, hj, rfl⟩ := nI_of2 (M := 2) (n := 2) (by decide) (Int32.not_lt.mpr h.1) h.2
  exact ⟨j, by omega, rfl⟩
theorem rr_link4 {x : Int32} (h : 0 ≤ x ∧ x ≤ 3) : ∃ c : Nat, c < 4 ∧ x = nI c := by
  obtain ⟨j, hj, rfl⟩ := nI_of2 (M := 3) (n := 3) (by decide) (Int32.not_lt.mpr h.1) h.2
  exact ⟨j, by omega, rfl⟩
theorem rr_u3 {r : Nat} (h : r < 3) : (nI r).toNatClampNeg = r := nI_clamp (by omega)
theorem rr_u4 {r : Nat} (h : r < 4) : (nI r).toNatClampNeg = r := nI_clamp (by omega)
section RRS
variable {d : Nat} {Q : Option Value → rb_H → Prop} {A : Nat → Nat → Int32} {t : Int32}
def rr_atA (A : Nat → Nat → Int32) (x : Int32) : Int32 := if 0 ≤ x ∧ x ≤ 2 then (if A 21 x.toNatClampNeg = 0 then -1 else A 22 x.toNatClampNeg) else -1
theorem rr_atM {x : Int32} (hq : Q (some (.int (rr_atA A x))) (rr_h A t)) : rb_cw (d + 2) 83 [.ref 0, .int x] (rr_h A t) Q := by
  refine rw_ent rfl rfl rfl ?_
  refine rw_step rfl rfl ?_
  refine rw_call rfl rfl rfl ?_
  refine rr_isRing ?_
  by_cases hx : 0 ≤ x ∧ x ≤ 2
  · rw [rr_atA, if_pos hx] at hq
    rw [if_pos hx]
    obtain ⟨r, hr, rfl⟩ := rr_ring3 hx
    rw [rr_u3 hr] at hq
    refine rw_if rfl (fun h9 => absurd (rw_eq h9) (by decide)) (fun _ => ?_)
    repeat (first | refine rw_step rfl rfl ?_ | refine rr_ld rfl rfl rfl (by omega) rfl ?_)
    refine rw_if rfl (fun h1 => ?_) (fun h1 => ?_)
    · rw [if_neg (rw_ne h1)] at hq
      repeat (first | refine rw_step rfl rfl ?_ | refine rr_ld rfl rfl rfl (by omega) rfl ?_)
      exact rw_ret rfl rfl rfl hq
    · rw [if_pos (rw_neF h1)] at hq
      repeat refine rw_step rfl rfl ?_
      exact rw_ret rfl rfl rfl hq
  · rw [rr_atA, if_neg hx] at hq
    rw [if_neg hx]
    refine rw_if rfl (fun _ => ?_) (fun h9 => absurd rfl (rw_eqF h9))
    repeat refine rw_step rfl rfl ?_
    exact rw_ret rfl rfl rfl hq
def rr_monA (A : Nat → Nat → Int32) (x : Int32) : Int32 := if 0 ≤ x ∧ x ≤ 2 then A 30 x.toNatClampNeg else -1
theorem rr_monM {x : Int32} (hq : Q (some (.int (rr_monA A x))) (rr_h A t)) : rb_cw (d + 2) 84 [.ref 0, .int x] (rr_h A t) Q := by
  refine rw_ent rfl rfl rfl ?_
  refine rw_step rfl rfl ?_
  refine rw_call rfl rfl rfl ?_
  refine rr_isRing ?_
  by_cases hx : 0 ≤ x ∧ x ≤ 2
  · rw [rr_monA, if_pos hx] at hq
    rw [if_pos hx]
    obtain ⟨r, hr, rfl⟩ := rr_ring3 hx
    rw [rr_u3 hr] at hq
    refine rw_if rfl (fun h9 => absurd (rw_eq h9) (by decide)) (fun _ => ?_)
    repeat (first | refine rw_step rfl rfl ?_ | refine rr_ld rfl rfl rfl (by omega) rfl ?_)
    exact rw_ret rfl rfl rfl hq
  · rw [rr_monA, if_neg hx] at hq
    rw [if_neg hx]
    refine rw_if rfl (fun _ => ?_) (fun h9 => absurd rfl (rw_eqF h9))
    repeat refine rw_step rfl rfl ?_
    exact rw_ret rfl rfl rfl hq
def rr_closeA (A : Nat → Nat → Int32) (x : Int32) : Int32 × (Nat → Nat → Int32) := if 0 ≤ x ∧ x ≤ 3 then (if A 35 x.toNatClampNeg = 0 then (0, A) else (1, rr_up A 35 x.toNatClampNeg 0)) else (0, A)
theorem rr_closeM {x : Int32} (hq : Q (some (.int (rr_closeA A x).1)) (rr_h (rr_closeA A x).2 t)) : rb_cw (d + 2) 79 [.ref 0, .int x] (rr_h A t) Q := by
  refine rw_ent rfl rfl rfl ?_
  refine rw_step rfl rfl ?_
  refine rw_call rfl rfl rfl ?_
  refine rr_isConnection ?_
  by_cases hx : 0 ≤ x ∧ x ≤ 3
  · rw [rr_closeA, if_pos hx] at hq
    rw [if_pos hx]
    obtain ⟨c, hc, rfl⟩ := rr_link4 hx
    rw [rr_u4 hc] at hq
    refine rw_if rfl (fun h9 => absurd (rw_eq h9) (by decide)) (fun _ => ?_)
    repeat (first | refine rw_step rfl rfl ?_ | refine rr_ld rfl rfl rfl (by omega) rfl ?_)
    refine rw_if rfl (fun h1 => ?_) (fun h1 => ?_)
    · rw [if_neg (rw_ne h1)] at hq
      repeat (first | refine rw_step rfl rfl ?_ | refine rr_st rfl (fun _ => rfl) rfl (by omega) rfl ?_)
      exact rw_ret rfl rfl rfl hq
    · rw [if_pos (rw_neF h1)] at hq
      repeat refine rw_step rfl rfl ?_
      exact rw_ret rfl rfl rfl hq
  · rw [rr_closeA, if_neg hx] at hq
    rw [if_neg hx]
    refine rw_if rfl (fun _ => ?_) (fun h9 => absurd rfl (rw_eqF h9))
    repeat refine rw_step rfl rfl ?_
    exact rw_ret rfl rfl rfl hq
end RRS
