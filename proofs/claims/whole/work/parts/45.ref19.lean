/-! the reference: join, damage -/
section RRV
variable {d : Nat} {Q : Option Value → rb_H → Prop} {A : Nat → Nat → Int32} {t : Int32}
def rr_joinA (A : Nat → Nat → Int32) (x y : Int32) : Int32 × (Nat → Nat → Int32) := if (((0 ≤ x ∧ x ≤ 2) ∧ (1 ≤ y ∧ y ≤ 9)) ∧ A 2 (y - 1).toNatClampNeg = 0) ∧ ¬ A 1 x.toNatClampNeg = 5 then (1, rr_come A (y - 1).toNatClampNeg x.toNatClampNeg) else (0, A)
theorem rr_joinM {x y : Int32} (hq : Q (some (.int (rr_joinA A x y).1)) (rr_h (rr_joinA A x y).2 t)) : rb_cw (d + 3) 69 [.ref 0, .int x, .int y] (rr_h A t) Q := by
  refine rw_ent rfl rfl rfl ?_
  refine rw_step rfl rfl ?_
  refine rw_call rfl rfl rfl ?_
  refine rr_isRing ?_
  have no : (¬ ((((0 ≤ x ∧ x ≤ 2) ∧ (1 ≤ y ∧ y ≤ 9)) ∧ A 2 (y - 1).toNatClampNeg = 0) ∧ ¬ A 1 x.toNatClampNeg = 5)) → rb_wp (d + 2) 69 32 [.ref 0, .int x, .int y] [] (rr_h A t) Q := by
    intro h9
    rw [rr_joinA, if_neg h9] at hq
    repeat refine rw_step rfl rfl ?_
    exact rw_ret rfl rfl rfl hq
  by_cases hx : 0 ≤ x ∧ x ≤ 2
  · rw [if_pos hx]
    refine rw_if rfl (fun h9 => absurd (rw_eq h9) (by decide)) (fun _ => ?_)
    refine rw_step rfl rfl ?_
    refine rw_call rfl rfl rfl ?_
    refine rr_isAddress ?_
    by_cases hy : 1 ≤ y ∧ y ≤ 9
    · rw [if_pos hy]
      refine rw_if rfl (fun h9 => absurd (rw_eq h9) (by decide)) (fun _ => ?_)
      repeat refine rw_step rfl rfl ?_
      refine rw_call rfl rfl rfl ?_
      refine rr_isStation ?_
      by_cases hs : A 2 (y - 1).toNatClampNeg = 0
      · rw [rr_isSt, if_neg (fun h9 => h9.2 hs)]
        refine rw_if rfl (fun h9 => absurd rfl (rw_ne h9)) (fun _ => ?_)
        obtain ⟨r, hr, rfl⟩ := rr_ring3 hx
        obtain ⟨n, hn, rfl⟩ := rr_addr9 hy
        have e1 : nI (n + 1) - 1 = nI n := nI_pred n
        have e2 : (nI (n + 1) - 1).toNatClampNeg = n := by rw [e1]; exact nI_clamp (by omega)
        repeat (first | refine rw_step rfl rfl ?_ | refine rr_ld rfl rfl rfl (by omega) rfl ?_)
        refine rw_icmp rfl (fun h1 => ?_) (fun h1 => ?_)
        · rw [rr_joinA, if_pos ⟨⟨⟨hx, hy⟩, hs⟩, by rw [rr_u3 hr]; exact rw_ne h1⟩, e2, rr_u3 hr] at hq
          repeat refine rw_step rfl rfl ?_
          refine rw_call rfl rfl rfl ?_
          show rb_cw (d + 2) 51 [.ref 0, .int (nI (n + 1) - 1), .int (nI r)] (rr_h A t) _
          rw [e1]
          refine rr_comeM (by omega) hr ?_
          repeat refine rw_step rfl rfl ?_
          exact rw_ret rfl rfl rfl hq
        · exact no (fun h9 => h9.2 (by rw [rr_u3 hr]; exact rw_neF h1))
      · rw [rr_isSt, if_pos ⟨hy, hs⟩]
        refine rw_if rfl (fun _ => no (fun h9 => hs h9.1.2)) (fun h9 => absurd (rw_neF h9) (by decide))
    · rw [if_neg hy]
      refine rw_if rfl (fun _ => no (fun h9 => hy h9.1.1.2)) (fun h9 => absurd rfl (rw_eqF h9))
  · rw [if_neg hx]
    refine rw_if rfl (fun _ => no (fun h9 => hx h9.1.1.1)) (fun h9 => absurd rfl (rw_eqF h9))
def rr_damA (A : Nat → Nat → Int32) (x : Int32) : Int32 × (Nat → Nat → Int32) := if (0 ≤ x ∧ x ≤ 2) ∧ ¬ A 21 x.toNatClampNeg = 0 then (1, if A 21 x.toNatClampNeg = 2 then rr_up A 27 x.toNatClampNeg 1 else rr_up (rr_up A 21 x.toNatClampNeg 0) 23 x.toNatClampNeg 0) else (0, A)
theorem rr_damM {x : Int32} (hq : Q (some (.int (rr_damA A x).1)) (rr_h (rr_damA A x).2 t)) : rb_cw (d + 2) 73 [.ref 0, .int x] (rr_h A t) Q := by
  refine rw_ent rfl rfl rfl ?_
  refine rw_step rfl rfl ?_
  refine rw_call rfl rfl rfl ?_
  refine rr_isRing ?_
  by_cases hx : 0 ≤ x ∧ x ≤ 2
  · rw [if_pos hx]
    obtain ⟨r, hr, rfl⟩ := rr_ring3 hx
    refine rw_if rfl (fun h9 => absurd (rw_eq h9) (by decide)) (fun _ => ?_)
    repeat (first | refine rw_step rfl rfl ?_ | refine rr_ld rfl rfl rfl (by omega) rfl ?_)
    refine rw_if rfl (fun h1 => ?_) (fun h1 => ?_)
    · have h2 : (0 ≤ nI r ∧ nI r ≤ 2) ∧ ¬ A 21 (nI r).toNatClampNeg = 0 := ⟨hx, by rw [rr_u3 hr]; exact rw_ne h1⟩
      rw [rr_damA, if_pos h2, rr_u3 hr] at hq
      repeat (first | refine rw_step rfl rfl ?_ | refine rr_ld rfl rfl rfl (by omega) rfl ?_)
      refine rw_icmp rfl (fun h3 => ?_) (fun h3 => ?_)
      · rw [if_neg (rw_ne h3)] at hq
        repeat (first | refine rw_step rfl rfl ?_ | refine rr_st rfl (fun _ => rfl) rfl (by omega) rfl ?_)
        exact rw_ret rfl rfl rfl hq
      · rw [if_pos (rw_neF h3)] at hq
        repeat (first | refine rw_step rfl rfl ?_ | refine rr_stz rfl rfl (fun _ => rfl) rfl (by omega) rfl ?_)
        exact rw_ret rfl rfl rfl hq
    · rw [rr_damA, if_neg (fun h9 => h9.2 (by rw [rr_u3 hr]; exact rw_neF h1))] at hq
      repeat refine rw_step rfl rfl ?_
      exact rw_ret rfl rfl rfl hq
  · rw [if_neg hx]
    rw [rr_damA, if_neg (fun h9 => hx h9.1)] at hq
    refine rw_if rfl (fun _ => ?_) (fun h9 => absurd rfl (rw_eqF h9))
    repeat refine rw_step rfl rfl ?_
    exact rw_ret rfl rfl rfl hq
end RRV
