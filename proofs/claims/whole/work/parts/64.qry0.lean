/-! the class: what only looks -/
section RGQ
variable {d : Nat} {Q : Option Value → rb_H → Prop} {nd : Nat → Nat → Nat} {X A : Nat → Nat → Int32} {R : Nat → Nat → Option Nat} {t : Int32} {B : Nat}
theorem rg_atM {x : Int32} (H : rg_Rel nd X R A t B) (hq : Q (some (.int (rr_atA A x))) (rc_h X R)) : rb_cw (d + 2) 14 [.ref 0, .int x] (rc_h X R) Q := by
  refine rw_ent rfl rfl rfl ?_
  refine rw_step rfl rfl ?_
  refine rw_step rfl rfl ?_
  refine rc_call rfl rfl (by decide) rfl rfl rfl rfl ?_
  by_cases hx : 0 ≤ x ∧ x ≤ 2
  · obtain ⟨r, hr, rfl⟩ := rr_ring3 hx
    rw [rr_atA, if_pos hx, rr_u3 hr] at hq
    obtain ⟨m, a, y, k, p, v, h9⟩ := H.2.2.1 r hr
    refine rk_ring H.1.1.1 hr ?_
    repeat refine rw_step rfl rfl ?_
    refine rc_gr rfl (rc_tR hr) rfl ?_
    refine rc_gv rfl (rc_t1 (rc_tR hr)).2.1 rfl (h9.2.2.2.2.1.1.trans h9.2.1.2.2.2.1.symm) ?_
    refine rw_if rfl (fun hc => ?_) (fun hc => ?_)
    · rw [if_neg (rw_ne hc)] at hq
      refine rw_step rfl rfl ?_
      refine rc_gv rfl (rc_tR hr) rfl (h9.2.2.1.2.2.1.trans h9.2.1.2.1.symm) ?_
      exact rw_ret rfl rfl rfl hq
    · rw [if_pos (rw_neF hc)] at hq
      repeat refine rw_step rfl rfl ?_
      exact rw_ret rfl rfl rfl hq
  · rw [rr_atA, if_neg hx] at hq
    refine rk_ringNo hx ?_
    repeat refine rw_step rfl rfl ?_
    exact rw_ret rfl rfl rfl hq
theorem rg_monM {x : Int32} (H : rg_Rel nd X R A t B) (hq : Q (some (.int (rr_monA A x))) (rc_h X R)) : rb_cw (d + 2) 15 [.ref 0, .int x] (rc_h X R) Q := by
  refine rw_ent rfl rfl rfl ?_
  refine rw_step rfl rfl ?_
  refine rw_step rfl rfl ?_
  refine rc_call rfl rfl (by decide) rfl rfl rfl rfl ?_
  by_cases hx : 0 ≤ x ∧ x ≤ 2
  · obtain ⟨r, hr, rfl⟩ := rr_ring3 hx
    rw [rr_monA, if_pos hx, rr_u3 hr] at hq
    obtain ⟨m, a, y, k, p, v, h9⟩ := H.2.2.1 r hr
    refine rk_ring H.1.1.1 hr ?_
    repeat refine rw_step rfl rfl ?_
    refine rc_gv rfl (rc_tR hr) rfl h9.2.2.1.2.2.2.2 ?_
    exact rw_ret rfl rfl rfl hq
  · rw [rr_monA, if_neg hx] at hq
    refine rk_ringNo hx ?_
    repeat refine rw_step rfl rfl ?_
    exact rw_ret rfl rfl rfl hq
theorem rw_sw {d k pc nx a b : Nat} {ls : List Value} {h : rb_H} {Q : Option Value → rb_H → Prop} {kc x : Int32} {r : List Value} {i : Jvm.ClassFile.Instr} {tg : Nat} (hi : rb_ins k pc = some (i, nx, a, b, kc)) (hs : rb_step k false i nx a b kc ls (.int x :: r) h = rb_go (rb_sw x (rb_swt a) b) ls r h) (hx : rb_sw x (rb_swt a) b = tg) (kk : rb_wp d k tg ls r h Q) : rb_wp d k pc ls (.int x :: r) h Q := by
  rw [hx] at hs
  exact rw_step hi hs kk
theorem rw_swN {x y : Int32} {tg b : Nat} {ps : List (Int32 × Nat)} {z : Nat} (h : ¬ x = y) (hz : rb_sw x ps b = z) : rb_sw x ((y, tg) :: ps) b = z := by
  rw [rb_sw, decide_eq_false h]
  exact hz
theorem rg_ran3 {y : Int32} (h : 0 ≤ y ∧ y ≤ 2) : y = 0 ∨ y = 1 ∨ y = 2 := by
  obtain ⟨r, hr, rfl⟩ := rr_ring3 h
  have : r = 0 ∨ r = 1 ∨ r = 2 := by omega
  rcases this with rfl | rfl | rfl
  · exact Or.inl rfl
  · exact Or.inr (Or.inl rfl)
  · exact Or.inr (Or.inr rfl)
theorem rg_countM {x y : Int32} (H : rg_Rel nd X R A t B) (hq : Q (some (.int (rr_countA A x y))) (rc_h X R)) : rb_cw (d + 2) 17 [.ref 0, .int x, .int y] (rc_h X R) Q := by
  refine rw_ent rfl rfl rfl ?_
  refine rw_step rfl rfl ?_
  refine rw_step rfl rfl ?_
  refine rc_call rfl rfl (by decide) rfl rfl rfl rfl ?_
  by_cases hx : 0 ≤ x ∧ x ≤ 2
  · obtain ⟨r, hr, rfl⟩ := rr_ring3 hx
    obtain ⟨m, a, yy, k, p, v, h9⟩ := H.2.2.1 r hr
    refine rk_ring H.1.1.1 hr ?_
    refine rw_step rfl rfl ?_
    refine rw_step rfl rfl ?_
    refine rw_step rfl rfl ?_
    refine rw_step rfl rfl ?_
    by_cases hy : 0 ≤ y ∧ y ≤ 2
    · rw [rr_countA, if_pos ⟨hx, hy⟩, rr_u3 hr] at hq
      rcases rg_ran3 hy with rfl | rfl | rfl
      · refine rw_step rfl rfl ?_
        refine rw_step rfl rfl ?_
        refine rc_gv rfl (rc_tR hr) rfl h9.2.2.2.1.1 ?_
        exact rw_ret rfl rfl rfl hq
      · refine rw_step rfl rfl ?_
        refine rw_step rfl rfl ?_
        refine rc_gv rfl (rc_tR hr) rfl h9.2.2.2.1.2.1 ?_
        exact rw_ret rfl rfl rfl hq
      · refine rw_step rfl rfl ?_
        refine rw_step rfl rfl ?_
        refine rc_gv rfl (rc_tR hr) rfl h9.2.2.2.1.2.2 ?_
        exact rw_ret rfl rfl rfl hq
    · rw [rr_countA, if_neg (fun h => hy h.2)] at hq
      refine rw_sw (tg := 55) rfl rfl (rw_swN (fun h => hy (by rw [h]; decide)) (rw_swN (fun h => hy (by rw [h]; decide)) (rw_swN (fun h => hy (by rw [h]; decide)) rfl))) ?_
      refine rw_step rfl rfl ?_
      exact rw_ret rfl rfl rfl hq
  · rw [rr_countA, if_neg (fun h => hx h.1)] at hq
    refine rk_ringNo hx ?_
    repeat refine rw_step rfl rfl ?_
    exact rw_ret rfl rfl rfl hq
theorem rg_codeM {r : Nat} (H : rg_Rel nd X R A t B) (hr : r < 3) (hq : Q (some (.int (rr_sigV A r))) (rc_h X R)) : rb_cw (d + 1) 132 [.ref (2 + 44 * r + 42)] (rc_h X R) Q := by
  have hS := (rc_t1 (rc_tR hr)).2.1
  obtain ⟨m, a, y, k, p, v, ⟨g0, g1, g2, g3, g4, g5, g6, -⟩⟩ := H.2.2.1 r hr
  have hk : A 21 r = nI k := g1.2.2.2.1
  have h1 : X (2 + 44 * r + 42) 1 = nI k := g4.1
  have h2 : X (2 + 44 * r + 42) 2 = A 24 r := g4.2.1.trans g1.2.2.2.2.1.symm
  have h3 : X (2 + 44 * r + 42) 3 = A 25 r := g4.2.2.1.trans g1.2.2.2.2.2.symm
  have h4 : X (2 + 44 * r + 42) 4 = A 29 r := g4.2.2.2
  have claim : ∀ s : Nat, (s = 3 ∨ s = 4) → k = s → rb_wp d 132 42 [.ref (2 + 44 * r + 42)] [] (rc_h X R) Q := by
    intro s hs hks
    subst hks
    have h5 : A 21 r = 3 ∨ A 21 r = 4 := by
      rw [hk]
      rcases hs with rfl | rfl
      · exact Or.inl rfl
      · exact Or.inr rfl
    rw [rr_sigV, if_pos h5, hk] at hq
    refine rw_step rfl rfl ?_
    refine rc_gv rfl hS rfl h1 ?_
    refine rw_step rfl rfl ?_
    refine rw_step rfl rfl ?_
    refine rc_gv rfl hS rfl h4 ?_
    repeat refine rw_step rfl rfl ?_
    exact rw_ret rfl rfl rfl hq
  have goes : ∀ s : Nat, (s = 1 ∨ s = 2) → k = s → rb_wp d 132 55 [.ref (2 + 44 * r + 42)] [] (rc_h X R) Q := by
    intro s hs hks
    subst hks
    have n3 : ¬ (A 21 r = 3 ∨ A 21 r = 4) := by
      rw [hk]
      rcases hs with rfl | rfl <;> decide
    have n0 : ¬ A 21 r = 0 := by
      rw [hk]
      rcases hs with rfl | rfl <;> decide
    rw [rr_sigV, if_neg n3, if_neg n0, hk] at hq
    refine rw_step rfl rfl ?_
    refine rc_gv rfl hS rfl h1 ?_
    refine rw_step rfl rfl ?_
    refine rw_step rfl rfl ?_
    refine rc_gv rfl hS rfl h2 ?_
    refine rw_step rfl rfl ?_
    refine rw_step rfl rfl ?_
    refine rw_step rfl rfl ?_
    refine rw_step rfl rfl ?_
    refine rc_gv rfl hS rfl h3 ?_
    refine rw_step rfl rfl ?_
    refine rw_step rfl rfl ?_
    refine rw_step rfl rfl ?_
    refine rc_gv rfl hS rfl g5.1 ?_
    have t3 : ∀ z : Int32, Q (some (.int (z + (if A 28 r = 0 then 0 else 512)))) (rc_h X R) → rb_wp d 132 105 [.ref (2 + 44 * r + 42)] [.int z] (rc_h X R) Q := by
      intro z hz
      refine rw_step rfl rfl ?_
      refine rc_gv rfl hS rfl g5.2.2 ?_
      refine rw_if rfl (fun hc => ?_) (fun hc => ?_)
      · rw [if_pos (rw_eq hc)] at hz
        repeat refine rw_step rfl rfl ?_
        exact rw_ret rfl rfl rfl hz
      · rw [if_neg (rw_eqF hc)] at hz
        repeat refine rw_step rfl rfl ?_
        exact rw_ret rfl rfl rfl hz
    have t2 : ∀ z : Int32, Q (some (.int (z + (if A 27 r = 0 then 0 else 256) + (if A 28 r = 0 then 0 else 512)))) (rc_h X R) → rb_wp d 132 90 [.ref (2 + 44 * r + 42)] [.int z] (rc_h X R) Q := by
      intro z hz
      refine rw_step rfl rfl ?_
      refine rc_gv rfl hS rfl g5.2.1 ?_
      refine rw_if rfl (fun hc => ?_) (fun hc => ?_)
      · rw [if_pos (rw_eq hc)] at hz
        refine rw_step rfl rfl ?_
        refine rw_step rfl rfl ?_
        exact t3 _ hz
      · rw [if_neg (rw_eqF hc)] at hz
        refine rw_step rfl rfl ?_
        refine rw_step rfl rfl ?_
        refine rw_step rfl rfl ?_
        exact t3 _ hz
    refine rw_if rfl (fun hc => ?_) (fun hc => ?_)
    · rw [if_pos (rw_eq hc)] at hq
      refine rw_step rfl rfl ?_
      refine rw_step rfl rfl ?_
      exact t2 _ hq
    · rw [if_neg (rw_eqF hc)] at hq
      refine rw_step rfl rfl ?_
      refine rw_step rfl rfl ?_
      refine rw_step rfl rfl ?_
      exact t2 _ hq
  refine rw_ent rfl rfl rfl ?_
  refine rw_step rfl rfl ?_
  refine rc_gv rfl hS rfl h1 ?_
  have hk4 : k ≤ 4 := g0.2.2.2.1
  have : k = 0 ∨ k = 1 ∨ k = 2 ∨ k = 3 ∨ k = 4 := by omega
  rcases this with e | e | e | e | e
  · subst e
    refine rw_step rfl rfl ?_
    refine rw_step rfl rfl ?_
    rw [rr_sigV, hk] at hq
    exact rw_ret rfl rfl rfl hq
  · have hh := goes 1 (Or.inl rfl) e
    rw [e]
    exact rw_step rfl rfl hh
  · have hh := goes 2 (Or.inr rfl) e
    rw [e]
    exact rw_step rfl rfl hh
  · have hh := claim 3 (Or.inl rfl) e
    rw [e]
    exact rw_step rfl rfl hh
  · have hh := claim 4 (Or.inr rfl) e
    rw [e]
    exact rw_step rfl rfl hh
theorem rg_sigM {x : Int32} (H : rg_Rel nd X R A t B) (hq : Q (some (.int (rr_sigA A x))) (rc_h X R)) : rb_cw (d + 2) 13 [.ref 0, .int x] (rc_h X R) Q := by
  refine rw_ent rfl rfl rfl ?_
  refine rw_step rfl rfl ?_
  refine rw_step rfl rfl ?_
  refine rc_call rfl rfl (by decide) rfl rfl rfl rfl ?_
  by_cases hx : 0 ≤ x ∧ x ≤ 2
  · obtain ⟨r, hr, rfl⟩ := rr_ring3 hx
    rw [rr_sigA, if_pos hx, rr_u3 hr] at hq
    refine rk_ring H.1.1.1 hr ?_
    repeat refine rw_step rfl rfl ?_
    refine rc_gr rfl (rc_tR hr) rfl ?_
    refine rc_call rfl (rc_t1 (rc_tR hr)).2.1 (by decide) rfl rfl rfl rfl ?_
    refine rg_codeM H hr ?_
    exact rw_ret rfl rfl rfl hq
  · rw [rr_sigA, if_neg hx] at hq
    refine rk_ringNo hx ?_
    repeat refine rw_step rfl rfl ?_
    exact rw_ret rfl rfl rfl hq
end RGQ
