/-! a connection's numbers: timers, what is heard, what is taken and offered -/
section RGU
variable {nd : Nat → Nat → Nat} {X X' A A' : Nat → Nat → Int32} {R : Nat → Nat → Option Nat} {t : Int32} {B : Nat}
variable {c a b p u v f s k st e ik is ti tr : Nat}
/-- timer and tries change -/
theorem rg_timC {ti' tr' : Nat} {x y : Int32} (hc : c < 4) (H : rg_Rel nd X R A t B) (hC : rg_C X A c B a b p u v f s k st e ik is ti tr) (h1 : A 35 c = 1) (hti : ti' < 60) (htr : tr' < 4) (hx : x = nI ti') (hy : y = nI tr') : rg_Rel nd (rr_up (rr_up X (135 + 5 * c) 11 x) (135 + 5 * c) 12 y) R (rr_up (rr_up A 47 c x) 48 c y) t B ∧ rg_C (rr_up (rr_up X (135 + 5 * c) 11 x) (135 + 5 * c) 12 y) (rr_up (rr_up A 47 c x) 48 c y) c B a b p u v f s k st e ik is ti' tr' := by
  obtain ⟨f0, f1, f2, f3, f4, f5, f6, f7⟩ := hC
  have g1 := (H.2.2.2.2.2 c hc).2.1
  have hC' : rg_C (rr_up (rr_up X (135 + 5 * c) 11 x) (135 + 5 * c) 12 y) (rr_up (rr_up A 47 c x) 48 c y) c B a b p u v f s k st e ik is ti' tr' := by
    refine ⟨⟨f0.1, f0.2.1, f0.2.2.1, f0.2.2.2.1, f0.2.2.2.2.1, f0.2.2.2.2.2.1, by omega, by omega, by omega, by omega, by omega, by omega, by omega, by omega, by omega, by omega⟩, ?_, ?_, ?_, ?_, ⟨?_, ?_, ?_, fun i hi => ?_⟩, ⟨?_, ?_, ?_, fun i hi => ?_⟩, ?_⟩
    · simp [rr_up_at, f1]
    · simp [rr_up_at, f2]
    · simp [rr_up_at, f3, hx, hy]
    · simp [rr_up_at, f4.1, f4.2.1, f4.2.2.1, f4.2.2.2.1, f4.2.2.2.2.1, f4.2.2.2.2.2]
    · simp [rr_up_at, f5.1]
    · simp [rr_up_at, f5.2.1]
    · simp [rr_up_at, f5.2.2.1]
    · simp [rr_up_at, f5.2.2.2 i hi]
    · simp [rr_up_at, f6.1]
    · simp [rr_up_at, f6.2.1]
    · simp [rr_up_at, f6.2.2.1]
    · simp [rr_up_at, f6.2.2.2 i hi]
    · simp [rr_up_at]
      exact fun h => ⟨htr, (f7 h).2⟩
  refine ⟨rg_linkC hc H (Nat.le_refl _) (fun q j hq => ?_) (fun j i hj => ?_) ?_ ?_ hC', hC'⟩
  · rw [rr_up_at, if_neg (by omega), rr_up_at, if_neg (by omega)]
  · rw [rr_up_at, if_neg (by omega), rr_up_at, if_neg (by omega)]
  · simp [rr_up_at, g1]
  · simp [rr_up_at, h1]
theorem rg_drop_at {B : Nat → Nat → Int32} {c mm : Nat} : ∀ i j x, rr_drop B c mm i j x = if j = 45 ∧ 8 * c ≤ x ∧ x < 8 * c + i then B 45 (x + mm) else B j x
  | 0, j, x => by rw [rr_drop, if_neg (by omega)]
  | i + 1, j, x => by
    rw [rr_drop, rr_up_at]
    by_cases h : j = 45 ∧ x = 8 * c + i
    · rw [if_pos h, rg_drop_at i, if_neg (by omega), if_pos ⟨h.1, by omega, by omega⟩, h.2]
    · rw [if_neg h, rg_drop_at i]
      by_cases h2 : j = 45 ∧ 8 * c ≤ x ∧ x < 8 * c + i
      · rw [if_pos h2, if_pos ⟨h2.1, by omega, by omega⟩]
      · rw [if_neg h2, if_neg (by omega)]
/-- mm bytes are known to have come -/
theorem rg_hear1 {mm : Nat} {x : Int32} (hc : c < 4) (H : rg_Rel nd X R A t B) (hC : rg_C X A c B a b p u v f s k st e ik is ti tr) (h1 : A 35 c = 1) (hmm : mm ≤ s) (hx : x = nI mm) :
    rg_Rel nd (rk_aa1 X (135 + 5 * c) x) R (rr_up (rr_up (rr_drop (rr_up A 44 c (nI (k - mm))) c mm (k - mm)) 42 c (nI f + x)) 43 c (nI s - x)) t (B + 1) ∧ rg_C (rk_aa1 X (135 + 5 * c) x) (rr_up (rr_up (rr_drop (rr_up A 44 c (nI (k - mm))) c mm (k - mm)) 42 c (nI f + x)) 43 c (nI s - x)) c (B + 1) a b p u v (f + mm) (s - mm) (k - mm) ((st + mm) % 8) e ik is ti tr := by
  subst hx
  obtain ⟨f0, f1, f2, f3, f4, f5, f6, f7⟩ := hC
  obtain ⟨g0, g1, -, -, -⟩ := H.2.2.2.2.2 c hc
  have x2 : (X (135 + 5 * c + 1) 2 + nI mm) &&& X (135 + 5 * c + 1) 1 = nI ((st + mm) % 8) := by rw [f5.2.2.1, g0.2.1, nI_add, rg_and7]
  have x3 : X (135 + 5 * c + 1) 3 - nI mm = nI (k - mm) := by rw [f5.2.1, rg_sub (by omega)]
  have x9 : X (135 + 5 * c) 9 + nI mm = nI (f + mm) := by rw [f3.2.1, nI_add]
  have x10 : X (135 + 5 * c) 10 - nI mm = nI (s - mm) := by rw [f3.2.2.2.1, rg_sub hmm]
  have e9 : nI f + nI mm = nI (f + mm) := nI_add f mm
  have e10 : nI s - nI mm = nI (s - mm) := rg_sub hmm
  have hA : ∀ j i, rr_up (rr_up (rr_drop (rr_up A 44 c (nI (k - mm))) c mm (k - mm)) 42 c (nI f + nI mm)) 43 c (nI s - nI mm) j i = if j = 43 ∧ i = c then nI (s - mm) else if j = 42 ∧ i = c then nI (f + mm) else if j = 45 ∧ 8 * c ≤ i ∧ i < 8 * c + (k - mm) then A 45 (i + mm) else if j = 44 ∧ i = c then nI (k - mm) else A j i := by
    intro j i
    rw [rr_up_at, rr_up_at, rg_drop_at, rr_up_at, rr_up_at, if_neg (show ¬ (45 = 44 ∧ i + mm = c) by omega), e9, e10]
  have hX : ∀ q j, rk_aa1 X (135 + 5 * c) (nI mm) q j = if q = 135 + 5 * c ∧ j = 10 then nI (s - mm) else if q = 135 + 5 * c ∧ j = 9 then nI (f + mm) else if q = 135 + 5 * c + 1 ∧ j = 3 then nI (k - mm) else if q = 135 + 5 * c + 1 ∧ j = 2 then nI ((st + mm) % 8) else X q j := by
    intro q j
    unfold rk_aa1
    rw [x2, x3, x9, x10, rr_up_at, rr_up_at, rr_up_at, rr_up_at]
  generalize rr_up (rr_up (rr_drop (rr_up A 44 c (nI (k - mm))) c mm (k - mm)) 42 c (nI f + nI mm)) 43 c (nI s - nI mm) = A' at hA ⊢
  generalize rk_aa1 X (135 + 5 * c) (nI mm) = X' at hX ⊢
  have hC' : rg_C X' A' c (B + 1) a b p u v (f + mm) (s - mm) (k - mm) ((st + mm) % 8) e ik is ti tr := by
    refine ⟨⟨f0.1, f0.2.1, f0.2.2.1, f0.2.2.2.1, f0.2.2.2.2.1, f0.2.2.2.2.2.1, by omega, by omega, by omega, by omega, by omega, by omega, by omega, by omega, by omega, by omega⟩, ?_, ?_, ?_, ?_, ⟨?_, ?_, ?_, fun i hi => ?_⟩, ⟨?_, ?_, ?_, fun i hi => ?_⟩, ?_⟩
    · simp [hX, hA, f1]
    · simp [hX, hA, f2]
    · simp [hX, hA, f3]
    · simp [hX, hA, f4.1, f4.2.1, f4.2.2.1, f4.2.2.2.1, f4.2.2.2.2.1, f4.2.2.2.2.2]
    · simp [hA]
    · simp [hX]
    · simp [hX]
    · rw [hX, if_neg (by omega), if_neg (by omega), if_neg (by omega), if_neg (by omega), hA, if_neg (by omega), if_neg (by omega), if_pos ⟨rfl, by omega, by omega⟩]
      have := f5.2.2.2 (i + mm) (by omega)
      rw [show ((st + mm) % 8 + i) % 8 = (st + (i + mm)) % 8 by omega, show 8 * c + i + mm = 8 * c + (i + mm) by omega]
      exact this
    · simp [hA, f6.1]
    · simp [hX, f6.2.1]
    · simp [hX, f6.2.2.1]
    · simp [hX, hA, f6.2.2.2 i hi]
    · simp [hA]
      exact f7
  refine ⟨rg_linkC hc H (by omega) (fun q j hq => ?_) (fun j i hj => ?_) ?_ ?_ hC', hC'⟩
  · rw [hX, if_neg (by omega), if_neg (by omega), if_neg (by omega), if_neg (by omega)]
  · rw [hA, if_neg (by omega), if_neg (by omega), if_neg (by omega), if_neg (by omega)]
  · simp [hX, hA, g1]
  · simp [hA, h1]
/-- the timer runs -/
theorem rg_timer (hc : c < 4) (H : rg_Rel nd X R A t B) (hC : rg_C X A c B a b p u v f s k st e ik is ti tr) (h1 : A 35 c = 1) :
    rg_Rel nd (rk_rt X (135 + 5 * c)) R (rr_t2 (rr_t1 A c) c) t B ∧ (rr_t2 (rr_t1 A c) c 35 c = 1 ∨ rr_t2 (rr_t1 A c) c 35 c = 2) ∧ ∃ s' ti' tr', rg_C (rk_rt X (135 + 5 * c)) (rr_t2 (rr_t1 A c) c) c B a b p u v f s' k st e ik is ti' tr' := by
  have hC0 := hC
  obtain ⟨f0, f1, f2, f3, f4, f5, f6, f7⟩ := hC
  obtain ⟨g0, g1, -, -, -⟩ := H.2.2.2.2.2 c hc
  have x3 : X (135 + 5 * c) 3 = 1 := g1.trans h1
  have htr := (f7 h1).1
  have cond : (0 < A 43 c ∨ ¬ A 46 c = 0) ↔ ¬ (X (135 + 5 * c) 10 = 0 ∧ X (135 + 5 * c) 14 = 0) := by
    rw [f3.2.2.1, f3.2.2.2.1, f4.1]
    constructor
    · rintro (h | h) ⟨h2, h3⟩
      · rw [h2] at h
        exact absurd h (by decide)
      · exact h h3
    · intro h
      by_cases h2 : A 46 c = 0
      · refine Or.inl ?_
        have : ¬ nI s = 0 := fun h3 => h ⟨h3, h2⟩
        have hs : ¬ s = 0 := fun h3 => this (by rw [h3]; rfl)
        exact nI_lt (a := 0) (b := s) (by omega) (by omega)
      · exact Or.inr h2
  have ex : ∃ τ, τ ≤ 60 ∧ (if X (135 + 5 * c) 10 = 0 ∧ X (135 + 5 * c) 14 = 0 then 0 else X (135 + 5 * c) 11 + 1) = nI τ ∧ (if 0 < A 43 c ∨ ¬ A 46 c = 0 then A 47 c + 1 else 0) = nI τ := by
    by_cases h : X (135 + 5 * c) 10 = 0 ∧ X (135 + 5 * c) 14 = 0
    · exact ⟨0, by omega, by rw [if_pos h]; rfl, by rw [if_neg (fun h2 => cond.mp h2 h)]; rfl⟩
    · exact ⟨ti + 1, by omega, by rw [if_neg h, f3.2.2.2.2.2.1, nI_1], by rw [if_pos (cond.mpr h), f3.2.2.2.2.1, nI_1]⟩
  obtain ⟨τ, hτ, eX, eA⟩ := ex
  unfold rk_rt rr_t1
  rw [eX, eA]
  by_cases h60 : τ < 60
  · have hlt : nI τ < 60 := nI_lt (b := 60) h60 (by omega)
    have hne : ¬ rr_up A 47 c (nI τ) 47 c = 60 := by
      rw [rr_up_same]
      intro h
      have := (nI_eq (a := τ) (b := 60) (by omega) (by omega)).mp h
      omega
    unfold rk_rt2 rr_t2
    rw [if_neg (fun h => h hlt), if_neg hne]
    obtain ⟨h2, h3⟩ := rg_timC (x := nI τ) (y := nI tr) hc H hC0 h1 h60 htr rfl rfl
    have ea : rr_up (rr_up A 47 c (nI τ)) 48 c (nI tr) = rr_up A 47 c (nI τ) := rg_up_id (by rw [rr_up_at, if_neg (by omega)]; exact f3.2.2.2.2.2.2.1)
    have exx : rr_up (rr_up X (135 + 5 * c) 11 (nI τ)) (135 + 5 * c) 12 (nI tr) = rr_up X (135 + 5 * c) 11 (nI τ) := rg_up_id (by rw [rk_ne2 (by decide)]; exact f3.2.2.2.2.2.2.2.1)
    rw [ea, exx] at h2 h3
    exact ⟨h2, Or.inl (by rw [rr_up_at, if_neg (by omega)]; exact h1), _, _, _, h3⟩
  · have e60 : τ = 60 := by omega
    subst e60
    have hlt : ¬ nI 60 < 60 := by decide
    have heq : rr_up A 47 c (nI 60) 47 c = 60 := by rw [rr_up_same]; rfl
    have x12 : X (135 + 5 * c) 12 + 1 = nI (tr + 1) := by rw [f3.2.2.2.2.2.2.2.1, nI_1]
    have a48 : rr_up A 47 c (nI 60) 48 c + 1 = nI (tr + 1) := by rw [rr_up_at, if_neg (by omega), f3.2.2.2.2.2.2.1, nI_1]
    have t48 : rr_t3 (rr_up A 47 c (nI 60)) c 48 c = nI (tr + 1) := by
      unfold rr_t3
      rw [rr_up_at, if_neg (by omega), rr_up_at, if_neg (by omega), rr_up_at, if_neg (by omega), rr_up_same, a48]
    have base : ∀ (X' A' : Nat → Nat → Int32), (∀ q j, X' q j = if q = 135 + 5 * c ∧ j = 14 then 0 else if q = 135 + 5 * c ∧ j = 10 then 0 else if q = 135 + 5 * c ∧ j = 11 then 0 else if q = 135 + 5 * c ∧ j = 12 then nI (tr + 1) else if q = 135 + 5 * c ∧ j = 3 then (if tr + 1 < 4 then 1 else 2) else X q j) → (∀ j i, A' j i = if j = 46 ∧ i = c then 0 else if j = 43 ∧ i = c then 0 else if j = 47 ∧ i = c then 0 else if j = 48 ∧ i = c then nI (tr + 1) else if j = 35 ∧ i = c then (if tr + 1 < 4 then 1 else 2) else A j i) → rg_Rel nd X' R A' t B ∧ (A' 35 c = 1 ∨ A' 35 c = 2) ∧ ∃ s' ti' tr', rg_C X' A' c B a b p u v f s' k st e ik is ti' tr' := by
      intro X' A' hX hA
      have h35 : A' 35 c = 1 ∨ A' 35 c = 2 := by
        rw [hA, if_neg (by omega), if_neg (by omega), if_neg (by omega), if_neg (by omega), if_pos ⟨rfl, rfl⟩]
        split
        · exact Or.inl rfl
        · exact Or.inr rfl
      have hC' : rg_C X' A' c B a b p u v f 0 k st e ik is 0 (tr + 1) := by
        refine ⟨⟨f0.1, f0.2.1, f0.2.2.1, f0.2.2.2.1, f0.2.2.2.2.1, f0.2.2.2.2.2.1, by omega, by omega, by omega, by omega, by omega, by omega, by omega, by omega, by omega, by omega⟩, ?_, ?_, ?_, ?_, ⟨?_, ?_, ?_, fun i hi => ?_⟩, ⟨?_, ?_, ?_, fun i hi => ?_⟩, ?_⟩
        · simp [hX, hA, f1]
        · simp [hX, hA, f2]
        · simp [hX, hA, f3, nI]
        · simp [hX, hA, f4.1, f4.2.1, f4.2.2.1, f4.2.2.2.1, f4.2.2.2.2.1, f4.2.2.2.2.2]
        · simp [hA, f5.1]
        · simp [hX, f5.2.1]
        · simp [hX, f5.2.2.1]
        · simp [hX, hA, f5.2.2.2 i hi]
        · simp [hA, f6.1]
        · simp [hX, f6.2.1]
        · simp [hX, f6.2.2.1]
        · simp [hX, hA, f6.2.2.2 i hi]
        · intro h
          rw [hA, if_neg (by omega), if_neg (by omega), if_neg (by omega), if_neg (by omega), if_pos ⟨rfl, rfl⟩] at h
          rw [hA, if_neg (by omega), if_neg (by omega), if_neg (by omega), if_neg (by omega), if_neg (by omega), hA, if_neg (by omega), if_neg (by omega), if_neg (by omega), if_neg (by omega), if_neg (by omega)]
          split at h
          · exact ⟨by assumption, (f7 h1).2⟩
          · exact absurd h (by decide)
      refine ⟨rg_linkC hc H (Nat.le_refl _) (fun q j hq => ?_) (fun j i hj => ?_) ?_ h35 hC', h35, _, _, _, hC'⟩
      · rw [hX, if_neg (by omega), if_neg (by omega), if_neg (by omega), if_neg (by omega), if_neg (by omega)]
      · rw [hA, if_neg (by omega), if_neg (by omega), if_neg (by omega), if_neg (by omega), if_neg (by omega)]
      · have e1 : X' (135 + 5 * c) 3 = (if tr + 1 < 4 then 1 else 2) := by rw [hX, if_neg (by omega), if_neg (by omega), if_neg (by omega), if_neg (by omega), if_pos ⟨rfl, rfl⟩]
        have e2 : A' 35 c = (if tr + 1 < 4 then 1 else 2) := by rw [hA, if_neg (by omega), if_neg (by omega), if_neg (by omega), if_neg (by omega), if_pos ⟨rfl, rfl⟩]
        rw [e1, e2]
    unfold rk_rt2 rr_t2
    rw [if_pos hlt, if_pos heq, t48, x12]
    by_cases h4 : tr + 1 < 4
    · have c1 : nI (tr + 1) < 4 := nI_lt (b := 4) h4 (by omega)
      have c2 : ¬ nI (tr + 1) = 4 := fun h => by
        have := (nI_eq (a := tr + 1) (b := 4) (by omega) (by omega)).mp h
        omega
      rw [if_neg (fun h => h c1), if_neg c2]
      refine base _ _ (fun q j => ?_) (fun j i => ?_)
      · rw [if_pos h4]
        simp only [rr_up_at]
        by_cases cq : q = 135 + 5 * c
        · by_cases c3 : j = 3
          · subst c3
            simp [cq, x3]
          · by_cases c11 : j = 11
            · simp [cq, c11]
            · simp [cq, c3, c11]
        · simp [cq]
      · rw [if_pos h4]
        unfold rr_t3
        rw [a48]
        simp only [rr_up_at]
        by_cases ci : i = c
        · by_cases c3 : j = 35
          · subst c3
            simp [ci, h1]
          · by_cases c11 : j = 47
            · simp [ci, c11]
            · simp [ci, c3, c11]
        · simp [ci]
    · have c1 : ¬ nI (tr + 1) < 4 := nI_nlt (b := 4) (by omega) (by omega)
      have c2 : nI (tr + 1) = 4 := by rw [show tr + 1 = 4 by omega]; rfl
      rw [if_pos c1, if_pos c2]
      refine base _ _ (fun q j => ?_) (fun j i => ?_)
      · rw [if_neg h4]
        simp only [rr_up_at]
        by_cases cq : q = 135 + 5 * c
        · by_cases c3 : j = 3
          · subst c3
            simp [cq]
          · by_cases c11 : j = 11
            · simp [cq, c11]
            · simp [cq, c3, c11]
        · simp [cq]
      · rw [if_neg h4]
        unfold rr_t3
        rw [a48]
        simp only [rr_up_at]
        by_cases ci : i = c
        · by_cases c3 : j = 35
          · subst c3
            simp [ci]
          · by_cases c11 : j = 47
            · simp [ci, c11]
            · simp [ci, c3, c11]
        · simp [ci]
end RGU
