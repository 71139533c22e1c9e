/-! a node goes: the reference's arrays -/
section RGZ
variable {A A' : Nat → Nat → Int32}
theorem rg_goL_at {B : Nat → Nat → Int32} {r p : Int32} : ∀ m j i, rr_goL B r p m j i = if j = 0 ∧ i < m ∧ (¬ B 2 i = 0 ∧ B 3 i = r) ∧ ¬ B 0 i ≤ p then B 0 i - 1 else B j i
  | 0, j, i => by rw [rr_goL, if_neg (by omega)]
  | m + 1, j, i => by
    have e2 : rr_goL B r p m 2 m = B 2 m := by rw [rg_goL_at m, if_neg (by omega)]
    have e3 : rr_goL B r p m 3 m = B 3 m := by rw [rg_goL_at m, if_neg (by omega)]
    have e0 : rr_goL B r p m 0 m = B 0 m := by rw [rg_goL_at m, if_neg (by omega)]
    rw [rr_goL, e2, e3, e0]
    by_cases h : (¬ B 2 m = 0 ∧ B 3 m = r) ∧ ¬ B 0 m ≤ p
    · rw [if_pos h, rr_up_at]
      by_cases h1 : j = 0 ∧ i = m
      · rw [if_pos h1, if_pos ⟨h1.1, by omega, by rw [h1.2]; exact h⟩, h1.2]
      · rw [if_neg h1, rg_goL_at m]
        by_cases h2 : j = 0 ∧ i < m ∧ (¬ B 2 i = 0 ∧ B 3 i = r) ∧ ¬ B 0 i ≤ p
        · rw [if_pos h2, if_pos ⟨h2.1, by omega, h2.2.2⟩]
        · rw [if_neg h2, if_neg]
          rintro ⟨q1, q2, q3⟩
          exact h2 ⟨q1, by omega, q3⟩
    · rw [if_neg h, rg_goL_at m]
      by_cases h2 : j = 0 ∧ i < m ∧ (¬ B 2 i = 0 ∧ B 3 i = r) ∧ ¬ B 0 i ≤ p
      · rw [if_pos h2, if_pos ⟨h2.1, by omega, h2.2.2⟩]
      · rw [if_neg h2, if_neg]
        rintro ⟨q1, q2, q3⟩
        by_cases e : i = m
        · subst e
          exact h q3
        · exact h2 ⟨q1, by omega, q3⟩
/-- where AT is when a node has gone -/
def rg_gat (x p m : Int32) : Int32 := if m ≤ 0 then (if x ≤ p then x else x - 1) else rr_rem (if x ≤ p then x else x - 1) m
abbrev rg_gsil (A : Nat → Nat → Int32) (r n : Nat) : Prop := A 1 r - 1 = 0 ∨ ((A 21 r = 3 ∨ A 21 r = 4) ∧ A 29 r = rr_addr (nI n))
theorem rg_go_at {r n : Nat} (hn : n < 15) (j i : Nat) : rr_go A r n j i = if j = 2 ∧ i = n then 0 else if j = 4 ∧ i = n then 0 else if j = 1 ∧ i = r then A 1 r - 1 else if j = 0 ∧ i < 15 ∧ (¬ i = n ∧ ¬ A 2 i = 0 ∧ A 3 i = nI r) ∧ ¬ A 0 i ≤ A 0 n then A 0 i - 1 else if j = 22 ∧ i = r then rg_gat (A 22 r) (A 0 n) (A 1 r - 1) else if j = 30 ∧ i = r then (if A 30 r = rr_addr (nI n) then 0 else A 30 r) else if (j = 21 ∨ j = 23) ∧ i = r ∧ rg_gsil A r n then 0 else A j i := by
  have b0 : ∀ j i, rr_go0 A r n j i = if j = 4 ∧ i = n then 0 else if j = 1 ∧ i = r then A 1 r - 1 else if j = 2 ∧ i = n then 0 else A j i := by
    intro j i
    unfold rr_go0
    simp only [rr_up_at]
  have b1 : ∀ j i, rr_goL (rr_go0 A r n) (nI r) (A 0 n) 15 j i = if j = 0 ∧ i < 15 ∧ (¬ i = n ∧ ¬ A 2 i = 0 ∧ A 3 i = nI r) ∧ ¬ A 0 i ≤ A 0 n then A 0 i - 1 else rr_go0 A r n j i := by
    intro j i
    rw [rg_goL_at]
    have q0 : rr_go0 A r n 0 i = A 0 i := by rw [b0, if_neg (by omega), if_neg (by omega), if_neg (by omega)]
    have q3 : rr_go0 A r n 3 i = A 3 i := by rw [b0, if_neg (by omega), if_neg (by omega), if_neg (by omega)]
    have q2 : rr_go0 A r n 2 i = if i = n then 0 else A 2 i := by
      rw [b0, if_neg (by omega), if_neg (by omega)]
      by_cases e : i = n
      · rw [if_pos ⟨rfl, e⟩, if_pos e]
      · rw [if_neg (fun h => e h.2), if_neg e]
    rw [q0, q2, q3]
    by_cases e : i = n
    · rw [if_pos e, if_neg (fun h => h.2.2.1.1 rfl), if_neg (fun h => h.2.2.1.1 e)]
    · rw [if_neg e]
      by_cases h : j = 0 ∧ i < 15 ∧ (¬ A 2 i = 0 ∧ A 3 i = nI r) ∧ ¬ A 0 i ≤ A 0 n
      · rw [if_pos h, if_pos ⟨h.1, h.2.1, ⟨e, h.2.2.1⟩, h.2.2.2⟩]
      · rw [if_neg h, if_neg (fun h2 => h ⟨h2.1, h2.2.1, h2.2.2.1.2, h2.2.2.2⟩)]
  unfold rr_go rr_gEnd
  have hBlo : ∀ j i, ¬ j = 0 → rr_goL (rr_go0 A r n) (nI r) (A 0 n) 15 j i = rr_go0 A r n j i := by
    intro j i h
    rw [b1, if_neg (fun h2 => h h2.1)]
  have h1 : rr_goL (rr_go0 A r n) (nI r) (A 0 n) 15 1 r = A 1 r - 1 := by rw [hBlo _ _ (by omega), b0, if_neg (by omega), if_pos ⟨rfl, rfl⟩]
  have hk : ∀ j, 5 ≤ j → rr_goL (rr_go0 A r n) (nI r) (A 0 n) 15 j r = A j r := by
    intro j hj
    rw [hBlo _ _ (by omega), b0, if_neg (by omega), if_neg (by omega), if_neg (by omega)]
  -- the last five steps
  generalize hBg : rr_goL (rr_go0 A r n) (nI r) (A 0 n) 15 = B0 at b1 hBlo h1 hk ⊢
  have s1 : ∀ j i, rr_g2 (rr_g1 B0 r (A 0 n)) r j i = if j = 22 ∧ i = r then rg_gat (A 22 r) (A 0 n) (A 1 r - 1) else B0 j i := by
    intro j i
    have e1 : rr_g1 B0 r (A 0 n) 1 r = A 1 r - 1 := by unfold rr_g1; rw [rr_up_at, if_neg (by omega), h1]
    have e22 : rr_g1 B0 r (A 0 n) 22 r = if A 22 r ≤ A 0 n then A 22 r else A 22 r - 1 := by unfold rr_g1; rw [rr_up_same, hk 22 (by omega)]
    unfold rr_g2
    rw [e1]
    unfold rg_gat
    by_cases c : A 1 r - 1 ≤ 0
    · rw [if_pos c, if_pos c]
      by_cases d : j = 22 ∧ i = r
      · rw [if_pos d, d.1, d.2, e22]
      · rw [if_neg d]
        unfold rr_g1
        rw [rr_up_at, if_neg d]
    · rw [if_neg c, if_neg c, rr_up_at, e22]
      by_cases d : j = 22 ∧ i = r
      · rw [if_pos d, if_pos d]
      · rw [if_neg d, if_neg d]
        unfold rr_g1
        rw [rr_up_at, if_neg d]
  generalize rr_g2 (rr_g1 B0 r (A 0 n)) r = B1 at s1 ⊢
  have s2 : ∀ j i, rr_g4 (rr_g3 B1 r) r n j i = if j = 30 ∧ i = r then (if A 30 r = rr_addr (nI n) then 0 else A 30 r) else if (j = 21 ∨ j = 23) ∧ i = r ∧ A 1 r - 1 = 0 then 0 else B1 j i := by
    intro j i
    have e1 : B1 1 r = A 1 r - 1 := by rw [s1, if_neg (by omega), h1]
    have g3 : ∀ j i, rr_g3 B1 r j i = if (j = 21 ∨ j = 23) ∧ i = r ∧ A 1 r - 1 = 0 then 0 else B1 j i := by
      intro j i
      unfold rr_g3
      rw [e1]
      by_cases c : A 1 r - 1 = 0
      · rw [if_pos c]
        simp only [rr_up_at]
        by_cases d : i = r
        · by_cases d1 : j = 23
          · simp [d, d1, c]
          · by_cases d2 : j = 21
            · simp [d, d2, c]
            · simp [d1, d2]
        · simp [d]
      · rw [if_neg c, if_neg (fun h => c h.2.2)]
    have e30 : rr_g3 B1 r 30 r = A 30 r := by rw [g3, if_neg (by omega), s1, if_neg (by omega), hk 30 (by omega)]
    unfold rr_g4
    rw [rr_up_at, e30]
    by_cases d : j = 30 ∧ i = r
    · rw [if_pos d, if_pos d]
    · rw [if_neg d, if_neg d, g3]
  generalize rr_g4 (rr_g3 B1 r) r n = B2 at s2 ⊢
  have e21 : B2 21 r = if A 1 r - 1 = 0 then 0 else A 21 r := by
    rw [s2, if_neg (by omega)]
    by_cases c : A 1 r - 1 = 0
    · rw [if_pos ⟨Or.inl rfl, rfl, c⟩, if_pos c]
    · rw [if_neg (fun h => c h.2.2), if_neg c, s1, if_neg (by omega), hk 21 (by omega)]
  have e29 : B2 29 r = A 29 r := by rw [s2, if_neg (by omega), if_neg (by omega), s1, if_neg (by omega), hk 29 (by omega)]
  have z0 : ¬ ((0 : Int32) = 3 ∨ (0 : Int32) = 4) := by decide
  have s3 : rr_g5 B2 r n j i = if (j = 21 ∨ j = 23) ∧ i = r ∧ rg_gsil A r n then 0 else B2 j i := by
    unfold rr_g5
    rw [e21, e29]
    unfold rg_gsil
    by_cases c : A 1 r - 1 = 0
    · rw [if_pos c, if_neg (fun h => z0 h.1)]
      by_cases d : (j = 21 ∨ j = 23) ∧ i = r
      · rw [if_pos ⟨d.1, d.2, Or.inl c⟩, s2, if_neg (by omega), if_pos ⟨d.1, d.2, c⟩]
      · rw [if_neg (fun h => d ⟨h.1, h.2.1⟩)]
    · rw [if_neg c]
      by_cases c2 : (A 21 r = 3 ∨ A 21 r = 4) ∧ A 29 r = rr_addr (nI n)
      · rw [if_pos c2]
        simp only [rr_up_at]
        by_cases d : i = r
        · by_cases d1 : j = 23
          · simp [d, d1, c2]
          · by_cases d2 : j = 21
            · simp [d, d2, c2]
            · simp [d1, d2]
        · simp [d]
      · rw [if_neg c2, if_neg (fun h => h.2.2.elim c c2)]
  rw [s3, s2, s1, b1, b0]
  by_cases d0 : j = 0
  · subst d0
    simp
  · by_cases d1 : j = 21 ∨ j = 23
    · by_cases d2 : i = r
      · by_cases d3 : rg_gsil A r n
        · rcases d1 with rfl | rfl <;> simp [d2, d3]
        · have d4 : ¬ A 1 r - 1 = 0 := fun h => d3 (Or.inl h)
          rcases d1 with rfl | rfl <;> simp [d2, d3, d4]
      · rcases d1 with rfl | rfl <;> simp [d2]
    · have d5 : ¬ j = 21 := fun h => d1 (Or.inl h)
      have d6 : ¬ j = 23 := fun h => d1 (Or.inr h)
      simp [d0, d5, d6]
      by_cases e4 : j = 4
      · subst e4; simp
      · by_cases e1 : j = 1
        · subst e1; simp
        · by_cases e2 : j = 2
          · subst e2; simp
          · by_cases e22 : j = 22
            · subst e22; simp
            · by_cases e30 : j = 30
              · subst e30; simp
              · simp [e4, e1, e2, e22, e30]
end RGZ
