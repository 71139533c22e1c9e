/-! the reference: bridge, connection -/
section RRY
variable {d : Nat} {Q : Option Value → rb_H → Prop} {A : Nat → Nat → Int32} {t : Int32}
def rr_brA (A : Nat → Nat → Int32) (b x y : Int32) : Int32 × (Nat → Nat → Int32) := if (((0 ≤ b ∧ b ≤ 2) ∧ ((0 ≤ x ∧ x ≤ 2) ∧ (0 ≤ y ∧ y ≤ 2))) ∧ ¬ x = y) ∧ (A 2 (9 + 2 * b.toNatClampNeg) = 0 ∧ (¬ A 1 x.toNatClampNeg = 5 ∧ ¬ A 1 y.toNatClampNeg = 5)) then (1, rr_come (rr_come A (9 + 2 * b.toNatClampNeg) x.toNatClampNeg) (10 + 2 * b.toNatClampNeg) y.toNatClampNeg) else (0, A)
theorem rr_brM {b x y : Int32} (hq : Q (some (.int (rr_brA A b x y).1)) (rr_h (rr_brA A b x y).2 t)) : rb_cw (d + 2) 70 [.ref 0, .int b, .int x, .int y] (rr_h A t) Q := by
  have no : (¬ ((((0 ≤ b ∧ b ≤ 2) ∧ ((0 ≤ x ∧ x ≤ 2) ∧ (0 ≤ y ∧ y ≤ 2))) ∧ ¬ x = y) ∧ (A 2 (9 + 2 * b.toNatClampNeg) = 0 ∧ (¬ A 1 x.toNatClampNeg = 5 ∧ ¬ A 1 y.toNatClampNeg = 5)))) → rb_wp (d + 1) 70 28 [.ref 0, .int b, .int x, .int y] [] (rr_h A t) Q := by
    intro h9
    rw [rr_brA, if_neg h9] at hq
    repeat refine rw_step rfl rfl ?_
    exact rw_ret rfl rfl rfl hq
  have no2 : (¬ ((((0 ≤ b ∧ b ≤ 2) ∧ ((0 ≤ x ∧ x ≤ 2) ∧ (0 ≤ y ∧ y ≤ 2))) ∧ ¬ x = y) ∧ (A 2 (9 + 2 * b.toNatClampNeg) = 0 ∧ (¬ A 1 x.toNatClampNeg = 5 ∧ ¬ A 1 y.toNatClampNeg = 5)))) → rb_wp (d + 1) 70 64 [.ref 0, .int b, .int x, .int y] [] (rr_h A t) Q := by
    intro h9
    rw [rr_brA, if_neg h9] at hq
    repeat refine rw_step rfl rfl ?_
    exact rw_ret rfl rfl rfl hq
  refine rw_ent rfl rfl rfl ?_
  refine rw_step rfl rfl ?_
  refine rw_if rfl (fun h1 => no (fun h9 => absurd h9.1.1.1.1 (Int32.not_le.mpr (of_decide_eq_true h1)))) (fun h1 => ?_)
  repeat refine rw_step rfl rfl ?_
  refine rw_icmp rfl (fun h2 => no (fun h9 => absurd h9.1.1.1.2 (Int32.not_le.mpr (of_decide_eq_true h2)))) (fun h2 => ?_)
  have hb : 0 ≤ b ∧ b ≤ 2 := ⟨Int32.not_lt.mp (of_decide_eq_false h1), Int32.not_lt.mp (of_decide_eq_false h2)⟩
  refine rw_step rfl rfl ?_
  refine rw_call rfl rfl rfl ?_
  refine rr_isRing ?_
  by_cases hx : 0 ≤ x ∧ x ≤ 2
  · rw [if_pos hx]
    refine rw_if rfl (fun h9 => absurd (rw_eq h9) (by decide)) (fun _ => ?_)
    refine rw_step rfl rfl ?_
    refine rw_call rfl rfl rfl ?_
    refine rr_isRing ?_
    by_cases hy : 0 ≤ y ∧ y ≤ 2
    · rw [if_pos hy]
      refine rw_if rfl (fun h9 => absurd (rw_eq h9) (by decide)) (fun _ => ?_)
      repeat refine rw_step rfl rfl ?_
      refine rw_icmp rfl (fun h3 => ?_) (fun h3 => no (fun h9 => h9.1.2 (rw_neF h3)))
      have hxy := rw_ne h3
      obtain ⟨k, hk, rfl⟩ := rr_ring3 hb
      obtain ⟨r, hr, rfl⟩ := rr_ring3 hx
      obtain ⟨s, hs, rfl⟩ := rr_ring3 hy
      have e1 : (9 : Int32) + 2 * nI k = nI (9 + 2 * k) := by rw [show (2 : Int32) * nI k = nI (2 * k) from rr_mul 2 k]; exact nI_add 9 (2 * k)
      have e2 : (10 : Int32) + 2 * nI k = nI (10 + 2 * k) := by rw [show (2 : Int32) * nI k = nI (2 * k) from rr_mul 2 k]; exact nI_add 10 (2 * k)
      repeat refine rw_step rfl rfl ?_
      refine rr_ldz (i := 9 + 2 * k) rfl rfl e1 (by omega) rfl ?_
      refine rw_if rfl (fun h4 => no2 (fun h9 => rw_ne h4 (by rw [← h9.2.1, rr_u3 hk]))) (fun h4 => ?_)
      repeat (first | refine rw_step rfl rfl ?_ | refine rr_ld rfl rfl rfl (by omega) rfl ?_)
      refine rw_icmp rfl (fun h5 => no2 (fun h9 => h9.2.2.1 (by rw [rr_u3 hr]; exact rw_eq h5))) (fun h5 => ?_)
      repeat (first | refine rw_step rfl rfl ?_ | refine rr_ld rfl rfl rfl (by omega) rfl ?_)
      refine rw_icmp rfl (fun h6 => ?_) (fun h6 => no2 (fun h9 => h9.2.2.2 (by rw [rr_u3 hs]; exact rw_neF h6)))
      rw [rr_brA, if_pos ⟨⟨⟨hb, hx, hy⟩, hxy⟩, by rw [rr_u3 hk]; exact rw_neF h4, by rw [rr_u3 hr]; exact rw_eqF h5, by rw [rr_u3 hs]; exact rw_ne h6⟩, rr_u3 hk, rr_u3 hr, rr_u3 hs] at hq
      repeat refine rw_step rfl rfl ?_
      refine rw_call rfl rfl rfl ?_
      show rb_cw (d + 1) 51 [.ref 0, .int ((9 : Int32) + 2 * nI k), .int (nI r)] (rr_h A t) _
      rw [e1]
      refine rr_comeM (by omega) hr ?_
      repeat refine rw_step rfl rfl ?_
      refine rw_call rfl rfl rfl ?_
      show rb_cw (d + 1) 51 [.ref 0, .int ((10 : Int32) + 2 * nI k), .int (nI s)] (rr_h (rr_come A (9 + 2 * k) r) t) _
      rw [e2]
      refine rr_comeM (by omega) hs ?_
      repeat refine rw_step rfl rfl ?_
      exact rw_ret rfl rfl rfl hq
    · rw [if_neg hy]
      refine rw_if rfl (fun _ => no (fun h9 => hy h9.1.1.2.2)) (fun h9 => absurd rfl (rw_eqF h9))
  · rw [if_neg hx]
    refine rw_if rfl (fun _ => no (fun h9 => hx h9.1.1.2.1)) (fun h9 => absurd rfl (rw_eqF h9))
def rr_conV (A : Nat → Nat → Int32) (c : Nat) : Nat → Int32
  | 0 => A 35 c
  | 1 => A 42 c
  | 2 => A 43 c
  | 3 => A 44 c
  | 4 => A 49 c
  | 5 => A 50 c
  | 6 => A 48 c
  | _ => A 47 c + (if A 46 c = 0 then 0 else 100)
theorem rr_conTail {c m : Nat} (hc : c < 4) (hm : m < 8) (hq : Q (some (.int (rr_conV A c m))) (rr_h A t)) : rb_wp d 87 32 [.ref 0, .int (nI c), .int (nI m)] [] (rr_h A t) Q := by
  have h : m = 0 ∨ m = 1 ∨ m = 2 ∨ m = 3 ∨ m = 4 ∨ m = 5 ∨ m = 6 ∨ m = 7 := by omega
  rcases h with rfl | rfl | rfl | rfl | rfl | rfl | rfl | rfl
  all_goals repeat (first | refine rw_step rfl rfl ?_ | refine rr_ld rfl rfl rfl (by omega) rfl ?_ | refine rr_ldz rfl rfl rfl (by omega) rfl ?_)
  iterate 7 (refine rw_ret rfl rfl rfl ?_; exact hq)
  have hq : Q (some (.int (A 47 c + (if A 46 c = 0 then 0 else 100)))) (rr_h A t) := hq
  refine rw_if rfl (fun h1 => ?_) (fun h1 => ?_)
  · rw [if_pos (rw_eq h1)] at hq
    repeat refine rw_step rfl rfl ?_
    exact rw_ret rfl rfl rfl hq
  · rw [if_neg (rw_eqF h1)] at hq
    repeat refine rw_step rfl rfl ?_
    exact rw_ret rfl rfl rfl hq
end RRY
