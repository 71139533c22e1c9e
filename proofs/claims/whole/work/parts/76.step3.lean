/-! the pairs of a ring -/
section RGK
variable {A A' : Nat → Nat → Int32}
theorem rg_S_mono {r p p' : Nat} (h : p ≤ p') (H : rg_S A r p) : rg_S A r p' := by
  obtain ⟨s1, s2, s3⟩ := H
  refine ⟨fun n i q h1 h2 h3 h4 => ?_, s2, s3⟩
  obtain ⟨l, u, f1, f2, f3, f4⟩ := s1 n i q h1 h2 h3 h4
  exact ⟨l, u, f1, f2, f3, by omega⟩
/-- a node has no more pairs than the priority -/
theorem rg_S_q {r p n q : Nat} (H : rg_S A r p) (hp : p ≤ 3) (hon : rg_on A r n) (h5 : A 5 n = nI q) (hq : q ≤ 3) : q ≤ p := by
  obtain ⟨s1, s2, s3⟩ := H
  have key : ∀ i, i < q → ∃ l u, A 6 (8 * n + i) = nI l ∧ A 7 (8 * n + i) = nI u ∧ l < u ∧ u ≤ p ∧ i < u := by
    intro i
    induction i with
    | zero =>
      intro h
      obtain ⟨l, u, f1, f2, f3, f4⟩ := s1 n 0 q hon h5 hq h
      exact ⟨l, u, f1, f2, f3, f4, by omega⟩
    | succ i ih =>
      intro h
      obtain ⟨l, u, f1, f2, f3, f4, f5⟩ := ih (by omega)
      obtain ⟨l', u', d1, d2, d3, d4⟩ := s1 n (i + 1) q hon h5 hq h
      have := s3 n i (i + 1) l u l' u' (by omega) (by omega) f3 d3 (by omega) ⟨hon, ⟨q, h5, by omega, hq⟩, f1, f2⟩ ⟨hon, ⟨q, h5, by omega, hq⟩, d1, d2⟩
      exact ⟨l', u', d1, d2, d3, d4, by omega⟩
  rcases Nat.eq_zero_or_pos q with h | h
  · omega
  · obtain ⟨l, u, f1, f2, f3, f4, f5⟩ := key (q - 1) (by omega)
    omega
theorem rg_S_pop {r p n q l : Nat} (H : rg_S A r p) (hp : p ≤ 3) (hon : rg_on A r n) (h5 : A 5 n = nI (q + 1)) (hq : q < 3) (h6 : A 6 (8 * n + q) = nI l) (hlp : l < p) (h7 : A 7 (8 * n + q) = nI p) (on' : ∀ i, rg_on A' r i ↔ rg_on A r i) (a5 : ∀ i, A' 5 i = if i = n then nI q else A 5 i) (a6 : ∀ i, A' 6 i = A 6 i) (a7 : ∀ i, A' 7 i = A 7 i) : rg_S A' r l := by
  obtain ⟨s1, s2, s3⟩ := H
  have top : rg_pr A r n q l p := ⟨hon, ⟨q + 1, h5, by omega, by omega⟩, h6, h7⟩
  have pr' : ∀ i j l1 u1, rg_pr A' r i j l1 u1 → rg_pr A r i j l1 u1 := by
    rintro i j l1 u1 ⟨f1, ⟨q', f2, f3, f4⟩, f5, f6⟩
    rw [a6] at f5
    rw [a7] at f6
    rw [a5] at f2
    refine ⟨(on' i).mp f1, ?_, f5, f6⟩
    by_cases e : i = n
    · rw [if_pos e] at f2
      have := (nI_eq (by omega) (by omega)).mp f2
      subst e
      exact ⟨q + 1, h5, by omega, by omega⟩
    · rw [if_neg e] at f2
      exact ⟨q', f2, f3, f4⟩
  refine ⟨fun i j q' f1 f2 f3 f4 => ?_, fun n n' i i' l u l' u' a b c d h4 h5 => s2 n n' i i' l u l' u' a b c d (pr' _ _ _ _ h4) (pr' _ _ _ _ h5), fun n i i' l u l' u' a b c d f h4 h5 => s3 n i i' l u l' u' a b c d f (pr' _ _ _ _ h4) (pr' _ _ _ _ h5)⟩
  have f1 := (on' i).mp f1
  rw [a6, a7]
  rw [a5] at f2
  have hne : ¬ (i = n ∧ j = q) := by
    rintro ⟨rfl, rfl⟩
    rw [if_pos rfl] at f2
    have := (nI_eq (by omega) (by omega)).mp f2
    omega
  have : ∃ q2, A 5 i = nI q2 ∧ q2 ≤ 3 ∧ j < q2 := by
    by_cases e : i = n
    · rw [if_pos e] at f2
      have := (nI_eq (by omega) (by omega)).mp f2
      subst e
      exact ⟨q + 1, h5, by omega, by omega⟩
    · rw [if_neg e] at f2
      exact ⟨q', f2, f3, f4⟩
  obtain ⟨q2, d1, d2, d3⟩ := this
  obtain ⟨l1, u1, c1, c2, c3, c4⟩ := s1 i j q2 f1 d1 d2 d3
  refine ⟨l1, u1, c1, c2, c3, ?_⟩
  rcases s2 i n j q l1 u1 l p (by omega) hp c3 hlp ⟨f1, ⟨q2, d1, d3, d2⟩, c1, c2⟩ top with h | h | h
  · exact absurd h hne
  · exact h
  · omega
theorem rg_S_raise {r p n q l v : Nat} (H : rg_S A r p) (hp : p ≤ 3) (hv : v ≤ 3) (hon : rg_on A r n) (h5 : A 5 n = nI (q + 1)) (hq : q < 3) (h6 : A 6 (8 * n + q) = nI l) (hlp : l < p) (hlv : l < v) (h7 : A 7 (8 * n + q) = nI p) (on' : ∀ i, rg_on A' r i ↔ rg_on A r i) (a5 : ∀ i, A' 5 i = A 5 i) (a6 : ∀ i, A' 6 i = A 6 i) (a7 : ∀ i, A' 7 i = if i = 8 * n + q then nI v else A 7 i) : rg_S A' r v := by
  obtain ⟨s1, s2, s3⟩ := H
  have top : rg_pr A r n q l p := ⟨hon, ⟨q + 1, h5, by omega, by omega⟩, h6, h7⟩
  have low : ∀ i j l1 u1, u1 ≤ p → l1 < u1 → ¬ (i = n ∧ j = q) → rg_pr A r i j l1 u1 → u1 ≤ l := by
    intro i j l1 u1 c1 c2 c3 c4
    rcases s2 i n j q l1 u1 l p (by omega) hp c2 hlp c4 top with h | h | h
    · exact absurd h c3
    · exact h
    · omega
  have idx : ∀ i j, j < 3 → (8 * i + j = 8 * n + q ↔ (i = n ∧ j = q)) := by intro i j h; omega
  have pr' : ∀ i j l1 u1, rg_pr A' r i j l1 u1 → ¬ (i = n ∧ j = q) → rg_pr A r i j l1 u1 := by
    rintro i j l1 u1 ⟨f1, ⟨q', f2, f3, f4⟩, f5, f6⟩ h9
    rw [a6] at f5
    rw [a5] at f2
    rw [a7, if_neg (fun h => h9 ((idx i j (by omega)).mp h))] at f6
    exact ⟨(on' i).mp f1, ⟨q', f2, f3, f4⟩, f5, f6⟩
  have prT : ∀ l1 u1, l1 ≤ 3 → u1 ≤ 3 → rg_pr A' r n q l1 u1 → l1 = l ∧ u1 = v := by
    rintro l1 u1 d1 d2 ⟨f1, -, f5, f6⟩
    rw [a6] at f5
    rw [a7, if_pos rfl] at f6
    exact ⟨(nI_eq (by omega) (by omega)).mp (f5.symm.trans h6), ((nI_eq (by omega) (by omega)).mp f6).symm⟩
  have upto : ∀ i j l1 u1, u1 ≤ 3 → rg_pr A r i j l1 u1 → u1 ≤ p := by
    rintro i j l1 u1 d1 ⟨f1, ⟨q', f2, f3, f4⟩, f5, f6⟩
    obtain ⟨l2, u2, c1, c2, c3, c4⟩ := s1 i j q' f1 f2 f4 f3
    have := (nI_eq (by omega) (by omega)).mp (f6.symm.trans c2)
    omega
  refine ⟨fun i j q' f1 f2 f3 f4 => ?_, fun i i' j j' l1 u1 l2 u2 a b c d h8 h9 => ?_, fun i j j' l1 u1 l2 u2 a b c d f h8 h9 => ?_⟩
  · have f1 := (on' i).mp f1
    rw [a6, a7]
    rw [a5] at f2
    by_cases e : i = n ∧ j = q
    · obtain ⟨rfl, rfl⟩ := e
      exact ⟨l, v, h6, by rw [if_pos rfl], hlv, Nat.le_refl _⟩
    · rw [if_neg (fun h => e ((idx i j (by omega)).mp h))]
      obtain ⟨l1, u1, c1, c2, c3, c4⟩ := s1 i j q' f1 f2 f3 f4
      have := low i j l1 u1 c4 c3 e ⟨f1, ⟨q', f2, f4, f3⟩, c1, c2⟩
      exact ⟨l1, u1, c1, c2, c3, by omega⟩
  · by_cases e : i = n ∧ j = q
    · by_cases e' : i' = n ∧ j' = q
      · exact Or.inl ⟨e.1.trans e'.1.symm, e.2.trans e'.2.symm⟩
      · obtain ⟨rfl, rfl⟩ := e
        obtain ⟨rfl, rfl⟩ := prT l1 u1 (by omega) a h8
        have h9' := pr' _ _ _ _ h9 e'
        exact Or.inr (Or.inr (low _ _ _ _ (upto _ _ _ _ b h9') d e' h9'))
    · by_cases e' : i' = n ∧ j' = q
      · obtain ⟨rfl, rfl⟩ := e'
        obtain ⟨rfl, rfl⟩ := prT l2 u2 (by omega) b h9
        have h8' := pr' _ _ _ _ h8 e
        exact Or.inr (Or.inl (low _ _ _ _ (upto _ _ _ _ a h8') c e h8'))
      · exact s2 i i' j j' l1 u1 l2 u2 a b c d (pr' _ _ _ _ h8 e) (pr' _ _ _ _ h9 e')
  · by_cases e : i = n ∧ j = q
    · obtain ⟨rfl, rfl⟩ := e
      obtain ⟨-, ⟨q', f2, f3, f4⟩, -, -⟩ := h9
      rw [a5] at f2
      have := (nI_eq (by omega) (by omega)).mp (f2.symm.trans h5)
      omega
    · by_cases e' : i = n ∧ j' = q
      · obtain ⟨rfl, rfl⟩ := e'
        obtain ⟨rfl, rfl⟩ := prT l2 u2 (by omega) b h9
        have h8' := pr' _ _ _ _ h8 e
        exact low _ _ _ _ (upto _ _ _ _ a h8') c e h8'
      · exact s3 i j j' l1 u1 l2 u2 a b c d f (pr' _ _ _ _ h8 e) (pr' _ _ _ _ h9 e')
theorem rg_S_push {r p n q v : Nat} (H : rg_S A r p) (hpv : p < v) (hv : v ≤ 3) (hon : rg_on A r n) (h5 : A 5 n = nI q) (hq : q < 3) (on' : ∀ i, rg_on A' r i ↔ rg_on A r i) (a5 : ∀ i, A' 5 i = if i = n then nI (q + 1) else A 5 i) (a6 : ∀ i, A' 6 i = if i = 8 * n + q then nI p else A 6 i) (a7 : ∀ i, A' 7 i = if i = 8 * n + q then nI v else A 7 i) : rg_S A' r v := by
  obtain ⟨s1, s2, s3⟩ := H
  have idx : ∀ i j, j < 3 → (8 * i + j = 8 * n + q ↔ (i = n ∧ j = q)) := by intro i j h; omega
  have pr' : ∀ i j l1 u1, rg_pr A' r i j l1 u1 → ¬ (i = n ∧ j = q) → rg_pr A r i j l1 u1 := by
    rintro i j l1 u1 ⟨f1, ⟨q', f2, f3, f4⟩, f5, f6⟩ h9
    rw [a6, if_neg (fun h => h9 ((idx i j (by omega)).mp h))] at f5
    rw [a7, if_neg (fun h => h9 ((idx i j (by omega)).mp h))] at f6
    rw [a5] at f2
    refine ⟨(on' i).mp f1, ?_, f5, f6⟩
    by_cases e : i = n
    · rw [if_pos e] at f2
      have := (nI_eq (by omega) (by omega)).mp f2
      subst e
      exact ⟨q, h5, by omega, by omega⟩
    · rw [if_neg e] at f2
      exact ⟨q', f2, f3, f4⟩
  have prT : ∀ l1 u1, l1 ≤ 3 → u1 ≤ 3 → rg_pr A' r n q l1 u1 → l1 = p ∧ u1 = v := by
    rintro l1 u1 d1 d2 ⟨f1, -, f5, f6⟩
    rw [a6, if_pos rfl] at f5
    rw [a7, if_pos rfl] at f6
    exact ⟨((nI_eq (by omega) (by omega)).mp f5).symm, ((nI_eq (by omega) (by omega)).mp f6).symm⟩
  have upto : ∀ i j l1 u1, u1 ≤ 3 → rg_pr A r i j l1 u1 → u1 ≤ p := by
    rintro i j l1 u1 d1 ⟨f1, ⟨q', f2, f3, f4⟩, f5, f6⟩
    obtain ⟨l2, u2, c1, c2, c3, c4⟩ := s1 i j q' f1 f2 f4 f3
    have := (nI_eq (by omega) (by omega)).mp (f6.symm.trans c2)
    omega
  refine ⟨fun i j q' f1 f2 f3 f4 => ?_, fun i i' j j' l1 u1 l2 u2 a b c d h8 h9 => ?_, fun i j j' l1 u1 l2 u2 a b c d f h8 h9 => ?_⟩
  · have f1 := (on' i).mp f1
    rw [a6, a7]
    rw [a5] at f2
    by_cases e : i = n ∧ j = q
    · obtain ⟨rfl, rfl⟩ := e
      exact ⟨p, v, by rw [if_pos rfl], by rw [if_pos rfl], hpv, Nat.le_refl _⟩
    · rw [if_neg (fun h => e ((idx i j (by omega)).mp h)), if_neg (fun h => e ((idx i j (by omega)).mp h))]
      have : ∃ q2, A 5 i = nI q2 ∧ q2 ≤ 3 ∧ j < q2 := by
        by_cases e2 : i = n
        · rw [if_pos e2] at f2
          have := (nI_eq (by omega) (by omega)).mp f2
          subst e2
          exact ⟨q, h5, by omega, by omega⟩
        · rw [if_neg e2] at f2
          exact ⟨q', f2, f3, f4⟩
      obtain ⟨q2, d1, d2, d3⟩ := this
      obtain ⟨l1, u1, c1, c2, c3, c4⟩ := s1 i j q2 f1 d1 d2 d3
      exact ⟨l1, u1, c1, c2, c3, by omega⟩
  · by_cases e : i = n ∧ j = q
    · by_cases e' : i' = n ∧ j' = q
      · exact Or.inl ⟨e.1.trans e'.1.symm, e.2.trans e'.2.symm⟩
      · obtain ⟨rfl, rfl⟩ := e
        obtain ⟨rfl, rfl⟩ := prT l1 u1 (by omega) a h8
        have h9' := pr' _ _ _ _ h9 e'
        exact Or.inr (Or.inr (upto _ _ _ _ b h9'))
    · by_cases e' : i' = n ∧ j' = q
      · obtain ⟨rfl, rfl⟩ := e'
        obtain ⟨rfl, rfl⟩ := prT l2 u2 (by omega) b h9
        have h8' := pr' _ _ _ _ h8 e
        exact Or.inr (Or.inl (upto _ _ _ _ a h8'))
      · exact s2 i i' j j' l1 u1 l2 u2 a b c d (pr' _ _ _ _ h8 e) (pr' _ _ _ _ h9 e')
  · by_cases e : i = n ∧ j = q
    · obtain ⟨rfl, rfl⟩ := e
      obtain ⟨-, ⟨q', f2, f3, f4⟩, -, -⟩ := h9
      rw [a5, if_pos rfl] at f2
      have := (nI_eq (by omega) (by omega)).mp f2
      omega
    · by_cases e' : i = n ∧ j' = q
      · obtain ⟨rfl, rfl⟩ := e'
        obtain ⟨rfl, rfl⟩ := prT l2 u2 (by omega) b h9
        have h8' := pr' _ _ _ _ h8 e
        exact upto _ _ _ _ a h8'
      · exact s3 i j j' l1 u1 l2 u2 a b c d f (pr' _ _ _ _ h8 e) (pr' _ _ _ _ h9 e')
end RGK
