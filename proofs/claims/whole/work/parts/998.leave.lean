/-! leave: two nodes of two rings go in either order -/
section RHV
variable {A : Nat → Nat → Int32} {C : Nat → Nat → Int32} {r n : Nat}
theorem rg_go0 (hn : n < 15) (i : Nat) : rr_go C r n 0 i = if i < 15 ∧ (¬ i = n ∧ ¬ C 2 i = 0 ∧ C 3 i = nI r) ∧ ¬ C 0 i ≤ C 0 n then C 0 i - 1 else C 0 i := by
  rw [rg_go_at hn]
  simp
theorem rg_go1 (hn : n < 15) (i : Nat) : rr_go C r n 1 i = if i = r then C 1 r - 1 else C 1 i := by
  rw [rg_go_at hn]
  simp
theorem rg_go2 (hn : n < 15) (i : Nat) : rr_go C r n 2 i = if i = n then 0 else C 2 i := by
  rw [rg_go_at hn]
  simp
theorem rg_go4 (hn : n < 15) (i : Nat) : rr_go C r n 4 i = if i = n then 0 else C 4 i := by
  rw [rg_go_at hn]
  simp
theorem rg_go22 (hn : n < 15) (i : Nat) : rr_go C r n 22 i = if i = r then rg_gat (C 22 r) (C 0 n) (C 1 r - 1) else C 22 i := by
  rw [rg_go_at hn]
  simp
theorem rg_go30 (hn : n < 15) (i : Nat) : rr_go C r n 30 i = if i = r then (if C 30 r = rr_addr (nI n) then 0 else C 30 r) else C 30 i := by
  rw [rg_go_at hn]
  simp
theorem rg_goSy (hn : n < 15) (j : Nat) (hj : j = 21 ∨ j = 23) (h : rg_gsil C r n) : rr_go C r n j r = 0 := by
  rw [rg_go_at hn, if_neg (by omega), if_neg (by omega), if_neg (by omega), if_neg (by omega), if_neg (by omega), if_neg (by omega), if_pos ⟨hj, rfl, h⟩]
theorem rg_goSn (hn : n < 15) (j i : Nat) (hj : j = 21 ∨ j = 23) (h : ¬ (i = r ∧ rg_gsil C r n)) : rr_go C r n j i = C j i := by
  rw [rg_go_at hn, if_neg (by omega), if_neg (by omega), if_neg (by omega), if_neg (by omega), if_neg (by omega), if_neg (by omega), if_neg (fun h2 => h h2.2)]
theorem rg_goK (hn : n < 15) (j i : Nat) (hj : ¬ (j = 0 ∨ j = 1 ∨ j = 2 ∨ j = 4 ∨ j = 21 ∨ j = 22 ∨ j = 23 ∨ j = 30)) : rr_go C r n j i = C j i := by
  rw [rg_go_at hn, if_neg (by omega), if_neg (by omega), if_neg (by omega), if_neg (by omega), if_neg (by omega), if_neg (by omega), if_neg (fun h => by rcases h.1 with h | h <;> omega)]
theorem rg_go_comm {r1 r2 n1 n2 : Nat} (h1 : n1 < 15) (h2 : n2 < 15) (hne : ¬ n1 = n2) (hr : ¬ r1 = r2) (hr1 : r1 < 3) (hr2 : r2 < 3) (e1 : A 3 n1 = nI r1) (e2 : A 3 n2 = nI r2) : rr_go (rr_go A r1 n1) r2 n2 = rr_go (rr_go A r2 n2) r1 n1 := by
  have hnr : ¬ nI r1 = nI r2 := fun h => hr ((nI_eq (by omega) (by omega)).mp h)
  have hr' : ¬ r2 = r1 := fun h => hr h.symm
  have hne' : ¬ n2 = n1 := fun h => hne h.symm
  have a0 : rr_go A r1 n1 0 n2 = A 0 n2 := by rw [rg_go0 h1, if_neg (fun h => hnr (h.2.1.2.2.symm.trans e2))]
  have b0 : rr_go A r2 n2 0 n1 = A 0 n1 := by rw [rg_go0 h2, if_neg (fun h => hnr (e1.symm.trans h.2.1.2.2))]
  have a1 : rr_go A r1 n1 1 r2 = A 1 r2 := by rw [rg_go1 h1, if_neg hr']
  have b1 : rr_go A r2 n2 1 r1 = A 1 r1 := by rw [rg_go1 h2, if_neg hr]
  have a22 : rr_go A r1 n1 22 r2 = A 22 r2 := by rw [rg_go22 h1, if_neg hr']
  have b22 : rr_go A r2 n2 22 r1 = A 22 r1 := by rw [rg_go22 h2, if_neg hr]
  have a30 : rr_go A r1 n1 30 r2 = A 30 r2 := by rw [rg_go30 h1, if_neg hr']
  have b30 : rr_go A r2 n2 30 r1 = A 30 r1 := by rw [rg_go30 h2, if_neg hr]
  have a21 : rr_go A r1 n1 21 r2 = A 21 r2 := rg_goSn h1 21 r2 (Or.inl rfl) (fun h => hr' h.1)
  have b21 : rr_go A r2 n2 21 r1 = A 21 r1 := rg_goSn h2 21 r1 (Or.inl rfl) (fun h => hr h.1)
  have a29 : rr_go A r1 n1 29 r2 = A 29 r2 := rg_goK h1 29 r2 (by omega)
  have b29 : rr_go A r2 n2 29 r1 = A 29 r1 := rg_goK h2 29 r1 (by omega)
  have s12 : rg_gsil (rr_go A r1 n1) r2 n2 ↔ rg_gsil A r2 n2 := by unfold rg_gsil; rw [a1, a21, a29]
  have s21 : rg_gsil (rr_go A r2 n2) r1 n1 ↔ rg_gsil A r1 n1 := by unfold rg_gsil; rw [b1, b21, b29]
  funext j i
  by_cases d : j = 0 ∨ j = 1 ∨ j = 2 ∨ j = 4 ∨ j = 21 ∨ j = 22 ∨ j = 23 ∨ j = 30
  · have sS : ∀ j, (j = 21 ∨ j = 23) → rr_go (rr_go A r1 n1) r2 n2 j i = rr_go (rr_go A r2 n2) r1 n1 j i := by
      intro j hj
      by_cases q1 : i = r1 ∧ rg_gsil A r1 n1
      · obtain ⟨rfl, q1⟩ := q1
        rw [rg_goSn h2 j i hj (fun h => hr h.1), rg_goSy h1 j hj q1, rg_goSy h1 j hj (s21.mpr q1)]
      · rw [rg_goSn (C := rr_go A r2 n2) h1 j i hj (fun h => q1 ⟨h.1, s21.mp h.2⟩)]
        by_cases q2 : i = r2 ∧ rg_gsil A r2 n2
        · obtain ⟨rfl, q2⟩ := q2
          rw [rg_goSy h2 j hj (s12.mpr q2), rg_goSy h2 j hj q2]
        · rw [rg_goSn (C := rr_go A r1 n1) h2 j i hj (fun h => q2 ⟨h.1, s12.mp h.2⟩), rg_goSn h1 j i hj q1, rg_goSn h2 j i hj q2]
    rcases d with rfl | rfl | rfl | rfl | rfl | rfl | rfl | rfl
    · have k3 : rr_go A r1 n1 3 i = A 3 i := rg_goK h1 3 i (by omega)
      have k3' : rr_go A r2 n2 3 i = A 3 i := rg_goK h2 3 i (by omega)
      rw [rg_go0 (C := rr_go A r1 n1) h2, rg_go0 (C := rr_go A r2 n2) h1, a0, b0, k3, k3', rg_go2 h1, rg_go2 h2]
      by_cases c2 : A 3 i = nI r2
      · have c1 : ¬ A 3 i = nI r1 := fun h => hnr (h.symm.trans c2)
        have ni1 : ¬ i = n1 := fun h => c1 (by rw [h]; exact e1)
        have L0 : rr_go A r1 n1 0 i = A 0 i := by rw [rg_go0 h1, if_neg (fun h => c1 h.2.1.2.2)]
        rw [L0, if_neg ni1, if_neg (fun h : i < 15 ∧ (¬ i = n1 ∧ ¬ (if i = n2 then (0 : Int32) else A 2 i) = 0 ∧ A 3 i = nI r1) ∧ ¬ rr_go A r2 n2 0 i ≤ A 0 n1 => c1 h.2.1.2.2), rg_go0 h2]
      · have R0 : rr_go A r2 n2 0 i = A 0 i := by rw [rg_go0 h2, if_neg (fun h => c2 h.2.1.2.2)]
        rw [R0, if_neg (fun h : i < 15 ∧ (¬ i = n2 ∧ ¬ (if i = n1 then (0 : Int32) else A 2 i) = 0 ∧ A 3 i = nI r2) ∧ ¬ rr_go A r1 n1 0 i ≤ A 0 n2 => c2 h.2.1.2.2), rg_go0 h1]
        by_cases c1 : A 3 i = nI r1
        · have ni2 : ¬ i = n2 := fun h => hnr (c1.symm.trans (by rw [h]; exact e2))
          rw [if_neg ni2]
        · rw [if_neg (fun h => c1 h.2.1.2.2), if_neg (fun h => c1 h.2.1.2.2)]
    · rw [rg_go1 (C := rr_go A r1 n1) h2, rg_go1 (C := rr_go A r2 n2) h1, a1, b1, rg_go1 h1, rg_go1 h2]
      by_cases c1 : i = r1
      · rw [if_neg (fun h => hr (c1.symm.trans h)), if_pos c1, if_pos c1]
      · rw [if_neg c1, if_neg c1]
    · rw [rg_go2 (C := rr_go A r1 n1) h2, rg_go2 (C := rr_go A r2 n2) h1, rg_go2 h1, rg_go2 h2]
      by_cases c1 : i = n1
      · rw [if_neg (fun h => hne (c1.symm.trans h)), if_pos c1, if_pos c1]
      · rw [if_neg c1, if_neg c1]
    · rw [rg_go4 (C := rr_go A r1 n1) h2, rg_go4 (C := rr_go A r2 n2) h1, rg_go4 h1, rg_go4 h2]
      by_cases c1 : i = n1
      · rw [if_neg (fun h => hne (c1.symm.trans h)), if_pos c1, if_pos c1]
      · rw [if_neg c1, if_neg c1]
    · exact sS 21 (Or.inl rfl)
    · rw [rg_go22 (C := rr_go A r1 n1) h2, rg_go22 (C := rr_go A r2 n2) h1, a1, b1, a22, b22, a0, b0, rg_go22 h1, rg_go22 h2]
      by_cases c1 : i = r1
      · rw [if_neg (fun h => hr (c1.symm.trans h)), if_pos c1, if_pos c1]
      · rw [if_neg c1, if_neg c1]
    · exact sS 23 (Or.inr rfl)
    · rw [rg_go30 (C := rr_go A r1 n1) h2, rg_go30 (C := rr_go A r2 n2) h1, a30, b30, rg_go30 h1, rg_go30 h2]
      by_cases c1 : i = r1
      · rw [if_neg (fun h => hr (c1.symm.trans h)), if_pos c1, if_pos c1]
      · rw [if_neg c1, if_neg c1]
  · rw [rg_goK h2 j i d, rg_goK h1 j i d, rg_goK h1 j i d, rg_goK h2 j i d]
end RHV
