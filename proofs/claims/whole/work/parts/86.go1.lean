/-! a node goes: the relation -/
section RHA
variable {nd nd' : Nat → Nat → Nat} {X X' A A' : Nat → Nat → Int32} {R R' : Nat → Nat → Option Nat} {t : Int32} {B : Nat}
/-- the relation but for the ports and the connections -/
def rg_Rel0 (nd : Nat → Nat → Nat) (X : Nat → Nat → Int32) (R : Nat → Nat → Option Nat) (A : Nat → Nat → Int32) (t : Int32) : Prop :=
  (rg_W nd R ∧ X 0 3 = t) ∧ ((∀ r, r < 3 → ∃ m, m ≤ 5 ∧ A 1 r = nI m ∧ (∀ p, p < m → ∃ n, n < 15 ∧ ¬ A 2 n = 0 ∧ A 3 n = nI r ∧ A 0 n = nI p) ∧ ∀ n, n < 15 → ¬ A 2 n = 0 → A 3 n = nI r → ∃ p, p < m ∧ A 0 n = nI p)
  ∧ (∀ n n', n < 15 → n' < 15 → ¬ A 2 n = 0 → ¬ A 2 n' = 0 → A 3 n = A 3 n' → A 0 n = A 0 n' → n = n')) ∧ (∀ r, r < 3 → ∃ m a y k p v, rg_R X A r m a y k p v) ∧ (∀ n, n < 15 → ¬ A 2 n = 0 → ∃ r p w h q, rg_N nd X A n r p w h q)
  ∧ (∀ a b, a < 9 → b < 9 → rg_T X A a b)
theorem rg_to0 (H : rg_Rel nd X R A t B) : rg_Rel0 nd X R A t := ⟨H.1, ⟨H.2.1.1, H.2.1.2.1⟩, H.2.2.1, H.2.2.2.1, H.2.2.2.2.1⟩
theorem rg_of0 (H : rg_Rel0 nd X R A t) (hp : rg_ports A) (hL : ∀ c, c < 4 → rg_L X A c B) : rg_Rel nd X R A t B := ⟨H.1, ⟨H.2.1.1, H.2.1.2, hp⟩, H.2.2.1, H.2.2.2.1, H.2.2.2.2, hL⟩
/-- which of a ring's objects stands where when that of place p0 has gone -/
def rg_ndg (nd : Nat → Nat → Nat) (r p0 m : Nat) : Nat → Nat → Nat := fun r' x => if r' = r then (if x < p0 then nd r x else if x + 1 < m then nd r (x + 1) else if x + 1 = m then nd r p0 else nd r x) else nd r' x
theorem rg_gat_ok : ∀ m, m < 6 → ∀ p0, p0 < m → ∀ a, a < 6 → (a < m ∨ a = 0) → rg_gat (nI a) (nI p0) (nI (m - 1)) = nI (if p0 < a then a - 1 else if m - 1 ≤ a then 0 else a) := by decide +kernel
theorem rg_iv {m p0 a pm p2 p' : Nat} (hp0 : p0 < m) (ha : a < m ∨ a = 0) (hpm : pm < m) (hpm0 : ¬ pm = p0) (hp2 : p2 < m) (h20 : ¬ p2 = p0) (e2 : (if p0 < p2 then p2 - 1 else p2) = p') (h : ((if p0 < pm then pm - 1 else pm) < (if p0 < a then a - 1 else if m - 1 ≤ a then 0 else a) ∧ (if p0 < pm then pm - 1 else pm) < p' ∧ p' < (if p0 < a then a - 1 else if m - 1 ≤ a then 0 else a)) ∨ ((if p0 < a then a - 1 else if m - 1 ≤ a then 0 else a) ≤ (if p0 < pm then pm - 1 else pm) ∧ ((if p0 < pm then pm - 1 else pm) < p' ∨ p' < (if p0 < a then a - 1 else if m - 1 ≤ a then 0 else a)))) : (pm < a ∧ pm < p2 ∧ p2 < a) ∨ (a ≤ pm ∧ (pm < p2 ∨ p2 < a)) := by
  have hpmE : ∃ x, x = (if p0 < pm then pm - 1 else pm) ∧ ((p0 < pm ∧ x = pm - 1) ∨ (pm ≤ p0 ∧ x = pm)) := by
    refine ⟨_, rfl, ?_⟩
    split <;> omega
  have haE : ∃ x, x = (if p0 < a then a - 1 else if m - 1 ≤ a then 0 else a) ∧ ((p0 < a ∧ x = a - 1) ∨ (a ≤ p0 ∧ m - 1 ≤ a ∧ x = 0) ∨ (a ≤ p0 ∧ a < m - 1 ∧ x = a)) := by
    refine ⟨_, rfl, ?_⟩
    split
    · omega
    · split <;> omega
  have h2E : (p0 < p2 ∧ p' = p2 - 1) ∨ (p2 ≤ p0 ∧ p' = p2) := by
    split at e2 <;> omega
  obtain ⟨x, ex, hx⟩ := hpmE
  obtain ⟨z, ez, hz⟩ := haE
  rw [← ex, ← ez] at h
  omega
theorem rg_goRel {n r p0 m a y k p v w h q : Nat} (hr : r < 3) (H : rg_Rel0 nd X R A t) (h9 : rg_R X A r m a y k p v) (hon : rg_on A r n) (hN : rg_N nd X A n r p0 w h q) (hp0 : p0 < m) (hW' : rg_W (rg_ndg nd r p0 m) R')
    (hX : ∀ q' j, ¬ (q' = 2 + 44 * r ∧ 3 ≤ j ∧ j ≤ 6) → ¬ (q' = 2 + 44 * r + 42 ∧ j = 1) → X' q' j = X q' j) (x3 : X' (2 + 44 * r) 3 = nI (m - 1)) (x4 : X' (2 + 44 * r) 4 = nI (if p0 < a then a - 1 else if m - 1 ≤ a then 0 else a))
    (x6 : X' (2 + 44 * r) 6 = if A 30 r = rr_addr (nI n) then 0 else A 30 r) (hs : (m = 1 ∨ ((k = 3 ∨ k = 4) ∧ A 29 r = rr_addr (nI n))) → X' (2 + 44 * r) 5 = 0 ∧ X' (2 + 44 * r + 42) 1 = 0) (hs' : ¬ (m = 1 ∨ ((k = 3 ∨ k = 4) ∧ A 29 r = rr_addr (nI n))) → X' (2 + 44 * r) 5 = nI y ∧ X' (2 + 44 * r + 42) 1 = nI k) : rg_Rel0 (rg_ndg nd r p0 m) X' R' (rr_go A r n) t := by
  obtain ⟨⟨hW, hT⟩, ⟨hM1, hM2⟩, hRi, hNo, hRo⟩ := H
  have h9' := h9
  obtain ⟨g0, g1, g2, g3, g4, g5, g6, g7, g8, g9, g10⟩ := h9
  have b1 := hN.2.1
  have hn := hon.1
  have hA := fun j i => rg_go_at (A := A) (r := r) hn j i
  have em1 : A 1 r - 1 = nI (m - 1) := by
    rw [g1.1]
    obtain ⟨z, rfl⟩ : ∃ z, m = z + 1 := ⟨m - 1, by omega⟩
    exact nI_pred z
  have esil : rg_gsil A r n ↔ (m = 1 ∨ ((k = 3 ∨ k = 4) ∧ A 29 r = rr_addr (nI n))) := by
    unfold rg_gsil
    rw [em1, g1.2.2.2.1]
    have e1 : nI (m - 1) = 0 ↔ m = 1 := by
      constructor
      · intro h
        have := (nI_eq (a := m - 1) (b := 0) (by omega) (by omega)).mp h
        omega
      · intro h; rw [h]; rfl
    have e3 : nI k = 3 ↔ k = 3 := nI_eq (b := 3) (by omega) (by omega)
    have e4 : nI k = 4 ↔ k = 4 := nI_eq (b := 4) (by omega) (by omega)
    rw [e1, e3, e4]
  have c2 : ∀ i, rr_go A r n 2 i = if i = n then 0 else A 2 i := by
    intro i; rw [hA]
    by_cases e : i = n <;> simp [e]
  have c1 : ∀ i, rr_go A r n 1 i = if i = r then nI (m - 1) else A 1 i := by
    intro i; rw [hA]
    by_cases e : i = r
    · simp [e, em1]
    · simp [e]
  have c4 : ∀ i, ¬ i = n → rr_go A r n 4 i = A 4 i := by
    intro i e; rw [hA]; simp [e]
  have cj : ∀ j i, ¬ j = 0 → ¬ j = 1 → ¬ j = 2 → ¬ j = 4 → ¬ (i = r ∧ (j = 21 ∨ j = 22 ∨ j = 23 ∨ j = 30)) → rr_go A r n j i = A j i := by
    intro j i q0 q1 q2 q4 q5
    rw [hA, if_neg (by omega), if_neg (by omega), if_neg (by omega), if_neg (by omega), if_neg (by omega), if_neg (by omega), if_neg (fun h => q5 ⟨h.2.1, by rcases h.1 with h | h <;> simp [h]⟩)]
  have c0 : ∀ i, ¬ (i < 15 ∧ ¬ i = n ∧ ¬ A 2 i = 0 ∧ A 3 i = nI r) → rr_go A r n 0 i = A 0 i := by
    intro i e
    rw [hA, if_neg (by omega), if_neg (by omega), if_neg (by omega), if_neg (fun h => e ⟨h.2.1, h.2.2.1⟩), if_neg (by omega), if_neg (by omega), if_neg (fun h => by rcases h.1 with h | h <;> omega)]
  have c0r : ∀ i p', rg_on A r i → ¬ i = n → A 0 i = nI p' → p' < 5 → rr_go A r n 0 i = nI (if p0 < p' then p' - 1 else p') := by
    intro i p' q1 q2 q3 q4
    have hle : A 0 i ≤ A 0 n ↔ p' ≤ p0 := by rw [q3, b1.2.1]; exact nI_leI (by omega) (by omega)
    by_cases e : p0 < p'
    · rw [hA, if_neg (by omega), if_neg (by omega), if_neg (by omega), if_pos ⟨rfl, q1.1, ⟨q2, q1.2⟩, fun h => by have := hle.mp h; omega⟩, if_pos e, q3]
      obtain ⟨z, rfl⟩ : ∃ z, p' = z + 1 := ⟨p' - 1, by omega⟩
      exact nI_pred z
    · rw [hA, if_neg (by omega), if_neg (by omega), if_neg (by omega), if_neg (fun h => h.2.2.2 (hle.mpr (by omega))), if_neg (by omega), if_neg (by omega), if_neg (fun h => by rcases h.1 with h | h <;> omega), if_neg e, q3]
  have c22 : rr_go A r n 22 r = nI (if p0 < a then a - 1 else if m - 1 ≤ a then 0 else a) := by
    rw [hA, if_neg (by omega), if_neg (by omega), if_neg (by omega), if_neg (by omega), if_pos ⟨rfl, rfl⟩, em1, g1.2.1, b1.2.1]
    exact rg_gat_ok m (by omega) p0 hp0 a (by omega) g0.2.1
  have c30 : rr_go A r n 30 r = if A 30 r = rr_addr (nI n) then 0 else A 30 r := by
    rw [hA, if_neg (by omega), if_neg (by omega), if_neg (by omega), if_neg (by omega), if_neg (by omega), if_pos ⟨rfl, rfl⟩]
  have csil : rg_gsil A r n → rr_go A r n 21 r = 0 ∧ rr_go A r n 23 r = 0 := by
    intro h
    refine ⟨?_, ?_⟩
    · rw [hA, if_neg (by omega), if_neg (by omega), if_neg (by omega), if_neg (by omega), if_neg (by omega), if_neg (by omega), if_pos ⟨Or.inl rfl, rfl, h⟩]
    · rw [hA, if_neg (by omega), if_neg (by omega), if_neg (by omega), if_neg (by omega), if_neg (by omega), if_neg (by omega), if_pos ⟨Or.inr rfl, rfl, h⟩]
  have cnsil : ¬ rg_gsil A r n → rr_go A r n 21 r = A 21 r ∧ rr_go A r n 23 r = A 23 r := by
    intro h
    refine ⟨?_, ?_⟩
    · rw [hA, if_neg (by omega), if_neg (by omega), if_neg (by omega), if_neg (by omega), if_neg (by omega), if_neg (by omega), if_neg (fun h2 => h h2.2.2)]
    · rw [hA, if_neg (by omega), if_neg (by omega), if_neg (by omega), if_neg (by omega), if_neg (by omega), if_neg (by omega), if_neg (fun h2 => h h2.2.2)]
  generalize rr_go A r n = A' at c0 c0r c1 c2 c4 cj c22 c30 csil cnsil ⊢
  clear hA
  have c3 : ∀ i, A' 3 i = A 3 i := fun i => cj 3 i (by omega) (by omega) (by omega) (by omega) (by omega)
  have onr : ∀ r' i, rg_on A' r' i ↔ (rg_on A r' i ∧ ¬ i = n) := by
    intro r' i
    unfold rg_on
    rw [c2, c3]
    by_cases e : i = n
    · subst e
      rw [if_pos rfl]
      exact ⟨fun h => absurd rfl h.2.1, fun h => absurd rfl h.2⟩
    · rw [if_neg e]
      exact ⟨fun h => ⟨h, e⟩, fun h => h.1⟩
  -- the places of the ring's nodes
  have hplace : ∀ i, rg_on A r i → ∃ p', p' < m ∧ A 0 i = nI p' ∧ (¬ i = n → ¬ p' = p0) := by
    intro i q1
    obtain ⟨m', d1, d2, d3, d4⟩ := hM1 r hr
    have e : m' = m := (nI_eq (by omega) (by omega)).mp (d2.symm.trans g1.1)
    obtain ⟨p', d5, d6⟩ := d4 i q1.1 q1.2.1 q1.2.2
    refine ⟨p', by omega, d6, fun h1 h2 => h1 ?_⟩
    subst h2
    exact hM2 i n q1.1 hn q1.2.1 hon.2.1 (q1.2.2.trans hon.2.2.symm) (d6.trans b1.2.1.symm)
  have other : ∀ r' i, r' < 3 → ¬ r' = r → rg_on A r' i → ¬ i = n ∧ ¬ A 3 i = nI r := by
    intro r' i q1 q2 q3
    have h3 : ¬ A 3 i = nI r := fun h => q2 ((nI_eq (by omega) (by omega)).mp (q3.2.2.symm.trans h))
    refine ⟨fun h => h3 ?_, h3⟩
    rw [h]; exact hon.2.2
  refine ⟨⟨hW', ?_⟩, ⟨?_, ?_⟩, ?_, ?_, ?_⟩
  · rw [hX 0 3 (by omega) (by omega)]; exact hT
  · intro r' hr'
    obtain ⟨m', d1, d2, d3, d4⟩ := hM1 r' hr'
    by_cases e : r' = r
    · subst e
      have e : m' = m := (nI_eq (by omega) (by omega)).mp (d2.symm.trans g1.1)
      subst e
      refine ⟨m' - 1, by omega, by rw [c1, if_pos rfl], fun p' hp' => ?_, fun i q1 q2 q3 => ?_⟩
      · obtain ⟨i, d5, d6, d7, d8⟩ := d3 (if p' < p0 then p' else p' + 1) (by split <;> omega)
        have hi : rg_on A r' i := ⟨d5, d6, d7⟩
        have hne : ¬ i = n := by
          intro h8
          rw [h8, b1.2.1] at d8
          have := (nI_eq (by omega) (by split <;> omega)).mp d8
          split at this <;> omega
        refine ⟨i, d5, by rw [c2, if_neg hne]; exact d6, by rw [c3]; exact d7, ?_⟩
        rw [c0r i _ hi hne d8 (by split <;> omega)]
        congr 1
        by_cases e1 : p' < p0
        · rw [if_pos e1, if_neg (by omega)]
        · rw [if_neg e1, if_pos (by omega)]
          omega
      · have hi := (onr r' i).mp ⟨q1, q2, q3⟩
        obtain ⟨p', f1, f2, f3⟩ := hplace i hi.1
        have := f3 hi.2
        refine ⟨if p0 < p' then p' - 1 else p', by split <;> omega, c0r i p' hi.1 hi.2 f2 (by omega)⟩
    · refine ⟨m', d1, by rw [c1, if_neg e]; exact d2, fun p' hp' => ?_, fun i q1 q2 q3 => ?_⟩
      · obtain ⟨i, d5, d6, d7, d8⟩ := d3 p' hp'
        obtain ⟨f1, f2⟩ := other r' i hr' e ⟨d5, d6, d7⟩
        exact ⟨i, d5, by rw [c2, if_neg f1]; exact d6, by rw [c3]; exact d7, by rw [c0 i (fun h => f2 h.2.2.2)]; exact d8⟩
      · have hi := ((onr r' i).mp ⟨q1, q2, q3⟩).1
        obtain ⟨f1, f2⟩ := other r' i hr' e hi
        obtain ⟨p', f3, f4⟩ := d4 i q1 hi.2.1 hi.2.2
        exact ⟨p', f3, by rw [c0 i (fun h => f2 h.2.2.2)]; exact f4⟩
  · intro i i' q1 q2 q3 q4 q5 q6
    have e : ¬ i = n := fun h => q3 (by rw [c2, if_pos h])
    have e' : ¬ i' = n := fun h => q4 (by rw [c2, if_pos h])
    rw [c2, if_neg e] at q3
    rw [c2, if_neg e'] at q4
    rw [c3, c3] at q5
    by_cases hir : A 3 i = nI r
    · have hi : rg_on A r i := ⟨q1, q3, hir⟩
      have hi' : rg_on A r i' := ⟨q2, q4, q5.symm.trans hir⟩
      obtain ⟨p1, f1, f2, f3⟩ := hplace i hi
      obtain ⟨p2, f4, f5, f6⟩ := hplace i' hi'
      have f3 := f3 e
      have f6 := f6 e'
      rw [c0r i p1 hi e f2 (by omega), c0r i' p2 hi' e' f5 (by omega)] at q6
      have := (nI_eq (by split <;> omega) (by split <;> omega)).mp q6
      have e12 : p1 = p2 := by
        split at this <;> split at this <;> omega
      subst e12
      exact hM2 i i' q1 q2 q3 q4 q5 (f2.trans f5.symm)
    · rw [c0 i (fun h => hir h.2.2.2), c0 i' (fun h => hir (q5.trans h.2.2.2))] at q6
      exact hM2 i i' q1 q2 q3 q4 q5 q6
  · intro r' hr'
    by_cases e : r' = r
    · subst e
      have hE : ∀ j, 7 ≤ j ∨ j < 3 → X' (2 + 44 * r') j = X (2 + 44 * r') j := fun j hj => hX _ j (by omega) (by omega)
      have hE2 : ∀ j, ¬ j = 1 → X' (2 + 44 * r' + 42) j = X (2 + 44 * r' + 42) j := fun j hj => hX _ j (by omega) (by omega)
      have cc : ∀ j, 5 ≤ j → ¬ j = 21 → ¬ j = 22 → ¬ j = 23 → ¬ j = 30 → ∀ i, A' j i = A j i := fun j q1 q2 q3 q4 q5 i => cj j i (by omega) (by omega) (by omega) (by omega) (by omega)
      -- the monitor
      have hmon : A' 30 r' = 0 ∨ ∃ i, rg_on A' r' i ∧ rr_addr (nI i) = A' 30 r' := by
        rw [c30]
        by_cases e : A 30 r' = rr_addr (nI n)
        · rw [if_pos e]; exact Or.inl rfl
        · rw [if_neg e]
          rcases g7 with g7 | ⟨i, g7, g7'⟩
          · exact Or.inl g7
          · refine Or.inr ⟨i, (onr r' i).mpr ⟨g7, fun h => e ?_⟩, g7'⟩
            rw [← g7', h]
      have ham : (if p0 < a then a - 1 else if m - 1 ≤ a then 0 else a) < m - 1 ∨ (if p0 < a then a - 1 else if m - 1 ≤ a then 0 else a) = 0 := by
        split
        · omega
        · split <;> omega
      by_cases hsl : m = 1 ∨ ((k = 3 ∨ k = 4) ∧ A 29 r' = rr_addr (nI n))
      · obtain ⟨s1, s2⟩ := csil (esil.mpr hsl)
        obtain ⟨s3, s4⟩ := hs hsl
        refine ⟨m - 1, if p0 < a then a - 1 else if m - 1 ≤ a then 0 else a, 0, 0, p, v, ⟨by omega, ham, by omega, by omega, fun h => absurd rfl h, g0.2.2.2.2.2.1, g0.2.2.2.2.2.2⟩, ?_, ?_, ?_, ?_, ?_, ?_, hmon, fun h => absurd h (by omega), fun h => absurd h (by omega), fun h => absurd h (by omega)⟩
        · rw [c1, if_pos rfl, c22, s1, s2, cc 24 (by omega) (by omega) (by omega) (by omega) (by omega), cc 25 (by omega) (by omega) (by omega) (by omega) (by omega)]
          exact ⟨rfl, rfl, rfl, rfl, g1.2.2.2.2⟩
        · rw [hE 0 (by omega), x3, x4, s3, x6, c30]
          exact ⟨g2.1, rfl, rfl, rfl, rfl⟩
        · rw [hE 7 (by omega), hE 8 (by omega), hE 9 (by omega), cc 31 (by omega) (by omega) (by omega) (by omega) (by omega), cc 31 (by omega) (by omega) (by omega) (by omega) (by omega), cc 31 (by omega) (by omega) (by omega) (by omega) (by omega)]
          exact g3
        · rw [s4, hE2 2 (by omega), hE2 3 (by omega), hE2 4 (by omega), cc 29 (by omega) (by omega) (by omega) (by omega) (by omega)]
          exact ⟨rfl, g4.2⟩
        · rw [hE2 5 (by omega), hE2 6 (by omega), hE2 7 (by omega), cc 26 (by omega) (by omega) (by omega) (by omega) (by omega), cc 27 (by omega) (by omega) (by omega) (by omega) (by omega), cc 28 (by omega) (by omega) (by omega) (by omega) (by omega)]
          exact g5
        · rw [cc 26 (by omega) (by omega) (by omega) (by omega) (by omega), cc 27 (by omega) (by omega) (by omega) (by omega) (by omega), cc 28 (by omega) (by omega) (by omega) (by omega) (by omega)]
          exact g6
      · obtain ⟨s1, s2⟩ := cnsil (fun h => hsl (esil.mp h))
        obtain ⟨s3, s4⟩ := hs' hsl
        refine ⟨m - 1, if p0 < a then a - 1 else if m - 1 ≤ a then 0 else a, y, k, p, v, ⟨by omega, ham, g0.2.2.1, g0.2.2.2.1, fun _ => by omega, g0.2.2.2.2.2.1, g0.2.2.2.2.2.2⟩, ?_, ?_, ?_, ?_, ?_, ?_, hmon, fun hk => ?_, fun hk => ?_, fun hk => ?_⟩
        · rw [c1, if_pos rfl, c22, s1, s2, cc 24 (by omega) (by omega) (by omega) (by omega) (by omega), cc 25 (by omega) (by omega) (by omega) (by omega) (by omega)]
          exact ⟨rfl, rfl, g1.2.2.1, g1.2.2.2.1, g1.2.2.2.2⟩
        · rw [hE 0 (by omega), x3, x4, s3, x6, c30]
          exact ⟨g2.1, rfl, rfl, rfl, rfl⟩
        · rw [hE 7 (by omega), hE 8 (by omega), hE 9 (by omega), cc 31 (by omega) (by omega) (by omega) (by omega) (by omega), cc 31 (by omega) (by omega) (by omega) (by omega) (by omega), cc 31 (by omega) (by omega) (by omega) (by omega) (by omega)]
          exact g3
        · rw [s4, hE2 2 (by omega), hE2 3 (by omega), hE2 4 (by omega), cc 29 (by omega) (by omega) (by omega) (by omega) (by omega)]
          exact ⟨rfl, g4.2⟩
        · rw [hE2 5 (by omega), hE2 6 (by omega), hE2 7 (by omega), cc 26 (by omega) (by omega) (by omega) (by omega) (by omega), cc 27 (by omega) (by omega) (by omega) (by omega) (by omega), cc 28 (by omega) (by omega) (by omega) (by omega) (by omega)]
          exact g5
        · rw [cc 26 (by omega) (by omega) (by omega) (by omega) (by omega), cc 27 (by omega) (by omega) (by omega) (by omega) (by omega), cc 28 (by omega) (by omega) (by omega) (by omega) (by omega)]
          exact g6
        · exact rg_F_congr (g8 hk) (fun j _ => hX _ _ (by omega) (by omega)) (fun j q1 q2 => cj j _ (by omega) (by omega) (by omega) (by omega) (by omega)) (fun c _ => cc 41 (by omega) (by omega) (by omega) (by omega) (by omega) c) (fun c _ => cc 37 (by omega) (by omega) (by omega) (by omega) (by omega) c)
        · obtain ⟨t1, t2, t3⟩ := g9 hk
          have pr' : ∀ i j l u, rg_pr A' r' i j l u → rg_pr A r' i j l u := by
            rintro i j l u ⟨f1, ⟨q', f2, f3, f4⟩, f5, f6⟩
            rw [cc 5 (by omega) (by omega) (by omega) (by omega) (by omega)] at f2
            rw [cc 6 (by omega) (by omega) (by omega) (by omega) (by omega)] at f5
            rw [cc 7 (by omega) (by omega) (by omega) (by omega) (by omega)] at f6
            exact ⟨((onr r' i).mp f1).1, ⟨q', f2, f3, f4⟩, f5, f6⟩
          refine ⟨fun i j q' f1 f2 f3 f4 => ?_, fun i1 i2 i3 i4 l u l' u' f1 f2 f3 f4 f5 f6 => t2 i1 i2 i3 i4 l u l' u' f1 f2 f3 f4 (pr' _ _ _ _ f5) (pr' _ _ _ _ f6), fun i1 i3 i4 l u l' u' f1 f2 f3 f4 f7 f5 f6 => t3 i1 i3 i4 l u l' u' f1 f2 f3 f4 f7 (pr' _ _ _ _ f5) (pr' _ _ _ _ f6)⟩
          rw [cc 5 (by omega) (by omega) (by omega) (by omega) (by omega)] at f2
          rw [cc 6 (by omega) (by omega) (by omega) (by omega) (by omega), cc 7 (by omega) (by omega) (by omega) (by omega) (by omega)]
          exact t1 i j q' ((onr r' i).mp f1).1 f2 f3 f4
        · obtain ⟨q1, mn, pm, q2, q3, q4, q5, q6⟩ := g10 hk
          have hmn : ¬ mn = n := by
            intro h
            refine hsl (Or.inr ⟨Or.inr hk, ?_⟩)
            rw [q1, ← q3, h]
          have h30 : ¬ A 30 r' = rr_addr (nI n) := by
            intro h
            refine hsl (Or.inr ⟨Or.inr hk, ?_⟩)
            rw [q1, h]
          obtain ⟨pm2, f1, f2, f3⟩ := hplace mn q2
          have epm : pm2 = pm := (nI_eq (by omega) (by omega)).mp (f2.symm.trans q4)
          subst epm
          have f3 := f3 hmn
          refine ⟨by rw [cc 29 (by omega) (by omega) (by omega) (by omega) (by omega), c30, if_neg h30]; exact q1, mn, if p0 < pm2 then pm2 - 1 else pm2, (onr r' mn).mpr ⟨q2, hmn⟩, by rw [c30, if_neg h30]; exact q3, c0r mn pm2 q2 hmn q4 q5, by split <;> omega, fun i p' d1 d2 d3 d4 => ?_⟩
          rw [cc 5 (by omega) (by omega) (by omega) (by omega) (by omega)]
          have hi := (onr r' i).mp d1
          obtain ⟨p2, f4, f5, f6⟩ := hplace i hi.1
          have f6 := f6 hi.2
          rw [c0r i p2 hi.1 hi.2 f5 (by omega)] at d2
          have e2 := (nI_eq (by split <;> omega) (by omega)).mp d2
          refine q6 i p2 hi.1 f5 (by omega) ?_
          exact rg_iv hp0 g0.2.1 f1 f3 f4 f6 e2 d4
    · obtain ⟨m', a', y', k', p', v', h8⟩ := hRi r' hr'
      refine ⟨m', a', y', k', p', v', rg_R_congr (fun q' j hq => hX q' j (by omega) (by omega)) (by rw [c1, if_neg e]) (fun j _ _ => cj j _ (by omega) (by omega) (by omega) (by omega) (fun h => e h.1)) (fun i _ => cj _ _ (by omega) (by omega) (by omega) (by omega) (by omega)) (fun j _ _ => cj _ _ (by omega) (by omega) (by omega) (by omega) (by omega)) ⟨fun i => ?_, fun i h7 => ?_⟩ (fun c _ => cj _ _ (by omega) (by omega) (by omega) (by omega) (by omega)) (fun c _ => cj _ _ (by omega) (by omega) (by omega) (by omega) (by omega)) h8⟩
      · rw [onr]
        exact ⟨fun h => h.1, fun h => ⟨h, (other r' i hr' e h).1⟩⟩
      · obtain ⟨f1, f2⟩ := other r' i hr' e h7
        exact ⟨c0 i (fun h => f2 h.2.2.2), cj _ _ (by omega) (by omega) (by omega) (by omega) (by omega), fun i' _ => ⟨cj _ _ (by omega) (by omega) (by omega) (by omega) (by omega), cj _ _ (by omega) (by omega) (by omega) (by omega) (by omega)⟩⟩
  · intro i d1 d2
    have e : ¬ i = n := fun h => d2 (by rw [c2, if_pos h])
    rw [c2, if_neg e] at d2
    obtain ⟨r', p', w', h', q', d0, e1, e2, e3, e4⟩ := hNo i d1 d2
    have hr9 := d0.1
    have hp9 := d0.2.1
    have hnd' := (hW.2 r' hr9 p' hp9).2.1
    -- the object stays where it is
    have ho : ∃ p'', p'' < 5 ∧ A' 0 i = nI p'' ∧ rg_o (rg_ndg nd r p0 m) r' p'' = rg_o nd r' p' := by
      by_cases er : r' = r
      · subst er
        obtain ⟨p2, f1, f2, f3⟩ := hplace i ⟨d1, d2, e1.1⟩
        have f3 := f3 e
        have ep : p2 = p' := (nI_eq (by omega) (by omega)).mp (f2.symm.trans e1.2.1)
        subst ep
        refine ⟨if p0 < p2 then p2 - 1 else p2, by split <;> omega, c0r i p2 ⟨d1, d2, e1.1⟩ e f2 (by omega), ?_⟩
        unfold rg_o rg_ndg
        rw [if_pos rfl]
        by_cases h1 : p0 < p2
        · rw [if_pos h1, if_neg (by omega), if_pos (by omega), show p2 - 1 + 1 = p2 by omega]
        · rw [if_neg h1, if_pos (by omega)]
      · refine ⟨p', hp9, by rw [c0 i (fun h => er ((nI_eq (by omega) (by omega)).mp (e1.1.symm.trans h.2.2.2)))]; exact e1.2.1, ?_⟩
        unfold rg_o rg_ndg
        rw [if_neg er]
    obtain ⟨p'', ho1, ho2, ho3⟩ := ho
    have xo : ∀ i', i' < 8 → ∀ j, X' (rg_o nd r' p' + i') j = X (rg_o nd r' p' + i') j := by
      intro i' hi' j
      have hs := rg_sepR (i := i') hr hr9 hnd' hi'
      refine hX _ j ?_ ?_
      · unfold rg_o; omega
      · unfold rg_o; omega
    have xo0 : ∀ j, X' (rg_o nd r' p') j = X (rg_o nd r' p') j := fun j => xo 0 (by omega) j
    refine ⟨r', p'', w', h', q', ⟨d0.1, ho1, d0.2.2⟩, ?_, ?_, fun i' hi' => ?_, fun i' hi' => ?_⟩
    · rw [c3, ho2, c4 i e, cj 5 i (by omega) (by omega) (by omega) (by omega) (by omega)]
      exact ⟨e1.1, rfl, e1.2.2⟩
    · rw [ho3, xo0, xo0, xo0, xo0]
      exact e2
    · rw [ho3]
      refine rg_F_congr (e3 i' hi') (fun j _ => ?_) (fun j _ _ => cj _ _ (by omega) (by omega) (by omega) (by omega) (by omega)) (fun c _ => cj _ _ (by omega) (by omega) (by omega) (by omega) (by omega)) (fun c _ => cj _ _ (by omega) (by omega) (by omega) (by omega) (by omega))
      rw [Nat.add_assoc]
      exact xo _ (by omega) j
    · rw [ho3, xo 6 (by omega), xo 7 (by omega), cj _ _ (by omega) (by omega) (by omega) (by omega) (by omega), cj _ _ (by omega) (by omega) (by omega) (by omega) (by omega)]
      exact e4 i' hi'
  · intro a b ha hb
    exact rg_T_congr (hX _ _ (by omega) (by omega)) (cj _ _ (by omega) (by omega) (by omega) (by omega) (by omega)) (cj _ _ (by omega) (by omega) (by omega) (by omega) (by omega)) (cj _ _ (by omega) (by omega) (by omega) (by omega) (by omega)) (hRo a b ha hb)
end RHA
