/-! what does not touch a part of the relation keeps it -/
theorem rg_sepR {r r' j i : Nat} (hr : r < 3) (hr' : r' < 3) (hj : j < 5) (hi : i < 8) : ¬ (4 + 44 * r' + 8 * j + i = 2 + 44 * r ∨ 4 + 44 * r' + 8 * j + i = 2 + 44 * r + 42 ∨ 4 + 44 * r' + 8 * j + i = 2 + 44 * r + 43) := by
  have h1 : r = 0 ∨ r = 1 ∨ r = 2 := by omega
  have h2 : r' = 0 ∨ r' = 1 ∨ r' = 2 := by omega
  rcases h1 with rfl | rfl | rfl <;> rcases h2 with rfl | rfl | rfl <;> omega
theorem rg_sepN {r r' j j' i : Nat} (hr : r < 3) (hr' : r' < 3) (hj : j < 5) (hj' : j' < 5) (hi : i < 8) (h : ¬ (r' = r ∧ j' = j)) : ¬ (4 + 44 * r + 8 * j ≤ 4 + 44 * r' + 8 * j' + i ∧ 4 + 44 * r' + 8 * j' + i < 4 + 44 * r + 8 * j + 8) := by
  have h1 : r = 0 ∨ r = 1 ∨ r = 2 := by omega
  have h2 : r' = 0 ∨ r' = 1 ∨ r' = 2 := by omega
  rcases h1 with rfl | rfl | rfl <;> rcases h2 with rfl | rfl | rfl <;> omega
section RGC
variable {nd : Nat → Nat → Nat} {X X' A A' : Nat → Nat → Int32} {R : Nat → Nat → Option Nat} {t : Int32} {B : Nat}
theorem rg_M_congr (hA : ∀ j i, j ≤ 3 → A' j i = A j i) (H : rg_M A) : rg_M A' := by
  have e0 : A' 0 = A 0 := funext fun i => hA 0 i (by omega)
  have e1 : A' 1 = A 1 := funext fun i => hA 1 i (by omega)
  have e2 : A' 2 = A 2 := funext fun i => hA 2 i (by omega)
  have e3 : A' 3 = A 3 := funext fun i => hA 3 i (by omega)
  unfold rg_M
  rw [e0, e1, e2, e3]
  exact H
/-- the nodes of ring r, their places and pairs, are the same -/
def rg_sm (A A' : Nat → Nat → Int32) (r : Nat) : Prop := (∀ n, rg_on A' r n ↔ rg_on A r n) ∧ ∀ n, rg_on A r n → A' 0 n = A 0 n ∧ A' 5 n = A 5 n ∧ ∀ i, i < 3 → A' 6 (8 * n + i) = A 6 (8 * n + i) ∧ A' 7 (8 * n + i) = A 7 (8 * n + i)
theorem rg_pr_congr {r n i l u : Nat} (e : rg_sm A A' r) (H : rg_pr A' r n i l u) : rg_pr A r n i l u := by
  obtain ⟨h1, ⟨q, h2, h3, h4⟩, h5, h6⟩ := H
  have h1 := (e.1 n).mp h1
  obtain ⟨-, e5, e6⟩ := e.2 n h1
  obtain ⟨e6, e7⟩ := e6 i (by omega)
  rw [e5] at h2
  rw [e6] at h5
  rw [e7] at h6
  exact ⟨h1, ⟨q, h2, h3, h4⟩, h5, h6⟩
theorem rg_S_congr {r p : Nat} (e : rg_sm A A' r) (H : rg_S A r p) : rg_S A' r p := by
  obtain ⟨h1, h2, h3⟩ := H
  refine ⟨fun n i q hn h5 hq hi => ?_, fun n n' i i' l u l' u' a b c d h4 h5 => h2 n n' i i' l u l' u' a b c d (rg_pr_congr e h4) (rg_pr_congr e h5), fun n i i' l u l' u' a b c d f h4 h5 => h3 n i i' l u l' u' a b c d f (rg_pr_congr e h4) (rg_pr_congr e h5)⟩
  have hn := (e.1 n).mp hn
  obtain ⟨-, e5, e6⟩ := e.2 n hn
  obtain ⟨e6, e7⟩ := e6 i (by omega)
  rw [e6, e7]
  exact h1 n i q hn (e5 ▸ h5) hq hi
theorem rg_R_congr {r m a y k p v : Nat} (hX : ∀ q j, q = 2 + 44 * r ∨ q = 2 + 44 * r + 42 ∨ q = 2 + 44 * r + 43 → X' q j = X q j) (h1 : A' 1 r = A 1 r) (h2 : ∀ j, 21 ≤ j → j ≤ 30 → A' j r = A j r) (h3 : ∀ i, i ≤ 2 → A' 31 (3 * r + i) = A 31 (3 * r + i)) (h4 : ∀ j, 8 ≤ j → j ≤ 20 → A' j (60 + r) = A j (60 + r)) (e : rg_sm A A' r) (h37 : ∀ c, c < 4 → A' 37 c = A 37 c) (h41 : ∀ c, c < 4 → A' 41 c = A 41 c) (H : rg_R X A r m a y k p v) : rg_R X' A' r m a y k p v := by
  have x1 : X' (2 + 44 * r) = X (2 + 44 * r) := funext fun j => hX _ j (Or.inl rfl)
  have x2 : X' (2 + 44 * r + 42) = X (2 + 44 * r + 42) := funext fun j => hX _ j (Or.inr (Or.inl rfl))
  have x3 : X' (2 + 44 * r + 43) = X (2 + 44 * r + 43) := funext fun j => hX _ j (Or.inr (Or.inr rfl))
  obtain ⟨g0, g1, g2, g3, g4, g5, g6, g7, g8, g9, g10⟩ := H
  refine ⟨g0, ?_, ?_, ?_, ?_, ?_, ?_, ?_, ?_, ?_, ?_⟩
  · rw [h1, h2 22 (by omega) (by omega), h2 23 (by omega) (by omega), h2 21 (by omega) (by omega), h2 24 (by omega) (by omega), h2 25 (by omega) (by omega)]; exact g1
  · rw [x1, h2 30 (by omega) (by omega)]; exact g2
  · rw [x1, show A' 31 (3 * r) = A 31 (3 * r) from h3 0 (by omega), h3 1 (by omega), h3 2 (by omega)]; exact g3
  · rw [x2, h2 29 (by omega) (by omega)]; exact g4
  · rw [x2, h2 26 (by omega) (by omega), h2 27 (by omega) (by omega), h2 28 (by omega) (by omega)]; exact g5
  · rw [h2 26 (by omega) (by omega), h2 27 (by omega) (by omega), h2 28 (by omega) (by omega)]; exact g6
  · rw [h2 30 (by omega) (by omega)]
    rcases g7 with g7 | ⟨n, g7, g7'⟩
    · exact Or.inl g7
    · exact Or.inr ⟨n, (e.1 n).mpr g7, g7'⟩
  · intro hk
    rw [x3]
    exact rg_F_congr (g8 hk) (fun _ _ => rfl) h4 h41 h37
  · intro hk
    exact rg_S_congr e (g9 hk)
  · intro hk
    obtain ⟨q1, mn, pm, q2, q3, q4, q5, q6⟩ := g10 hk
    unfold rg_P
    rw [h2 29 (by omega) (by omega), h2 30 (by omega) (by omega)]
    refine ⟨q1, mn, pm, (e.1 mn).mpr q2, q3, (e.2 mn q2).1.trans q4, q5, fun n p hn h0 hp hc => ?_⟩
    have hn := (e.1 n).mp hn
    rw [(e.2 n hn).2.1]
    exact q6 n p hn ((e.2 n hn).1 ▸ h0) hp hc
theorem rg_N_congr {n r p w h q : Nat} {nd' : Nat → Nat → Nat} (hn : nd' r p = nd r p) (hX : ∀ i j, i < 8 → X' (rg_o nd r p + i) j = X (rg_o nd r p + i) j) (h1 : A' 3 n = A 3 n) (h2 : A' 0 n = A 0 n) (h3 : A' 4 n = A 4 n) (h4 : A' 5 n = A 5 n) (h6 : ∀ i, i < 3 → A' 6 (8 * n + i) = A 6 (8 * n + i) ∧ A' 7 (8 * n + i) = A 7 (8 * n + i)) (h8 : ∀ j i, 8 ≤ j → j ≤ 20 → i < 4 → A' j (4 * n + i) = A j (4 * n + i)) (h37 : ∀ c, c < 4 → A' 37 c = A 37 c) (h41 : ∀ c, c < 4 → A' 41 c = A 41 c) (H : rg_N nd X A n r p w h q) : rg_N nd' X' A' n r p w h q := by
  have ho : rg_o nd' r p = rg_o nd r p := by unfold rg_o; rw [hn]
  obtain ⟨g0, g1, g2, g3, g4⟩ := H
  unfold rg_N
  rw [ho]
  refine ⟨g0, ?_, ?_, ?_, ?_⟩
  · rw [h1, h2, h3, h4]; exact g1
  · have hX0 : ∀ j, X' (rg_o nd r p) j = X (rg_o nd r p) j := fun j => hX 0 j (by omega)
    rw [hX0, hX0, hX0, hX0]; exact g2
  · intro i hi
    refine rg_F_congr (g3 i hi) (fun j _ => ?_) (fun j h8a h8b => h8 j i h8a h8b (by omega)) h41 h37
    rw [Nat.add_assoc]
    exact hX (2 + (h + i) % 4) j (by omega)
  · intro i hi
    rw [hX 6 i (by omega), hX 7 i (by omega), (h6 i (by omega)).1, (h6 i (by omega)).2]
    exact g4 i hi
theorem rg_T_congr {a b : Nat} (hX : X' (156 + (a + 1)) (b + 1) = X (156 + (a + 1)) (b + 1)) (h1 : A' 32 (9 * a + b) = A 32 (9 * a + b)) (h2 : A' 33 (9 * a + b) = A 33 (9 * a + b)) (h3 : A' 34 (9 * a + b) = A 34 (9 * a + b)) (H : rg_T X A a b) : rg_T X' A' a b := by
  unfold rg_T
  rw [hX, h1, h2, h3]
  exact H
theorem rg_L_congr {c B' : Nat} (hB : B ≤ B') (hX : ∀ i j, i < 5 → X' (135 + 5 * c + i) j = X (135 + 5 * c + i) j) (h1 : ∀ j, 35 ≤ j → j ≤ 53 → ¬ j = 45 → ¬ j = 51 → A' j c = A j c) (h2 : ∀ i, i < 8 → A' 45 (8 * c + i) = A 45 (8 * c + i)) (h3 : ∀ i, i < 4 → A' 51 (4 * c + i) = A 51 (4 * c + i)) (e2 : ∀ n, n < 9 → A 35 c = 1 → ¬ A 2 n = 0 → ¬ A' 2 n = 0) (H : rg_L X A c B) : rg_L X' A' c B' := by
  have x0 : ∀ j, X' (135 + 5 * c) j = X (135 + 5 * c) j := fun j => hX 0 j (by omega)
  have x1 : ∀ j, X' (135 + 5 * c + 1) j = X (135 + 5 * c + 1) j := fun j => hX 1 j (by omega)
  have x2 : ∀ j, X' (135 + 5 * c + 2) j = X (135 + 5 * c + 2) j := fun j => hX 2 j (by omega)
  have x3 : ∀ j, X' (135 + 5 * c + 3) j = X (135 + 5 * c + 3) j := fun j => hX 3 j (by omega)
  have x4 : ∀ j, X' (135 + 5 * c + 4) j = X (135 + 5 * c + 4) j := fun j => hX 4 j (by omega)
  have a35 := h1 35 (by omega) (by omega) (by omega) (by omega)
  obtain ⟨g0, g1, g2, ⟨O, hO, hO2⟩, g4⟩ := H
  refine ⟨?_, ?_, ?_, ⟨O, by omega, ?_⟩, ?_⟩
  · rw [x0, x1, x3]; exact g0
  · rw [x0, a35]; exact g1
  · rw [a35]; exact g2
  · rw [x0, h1 41 (by omega) (by omega) (by omega) (by omega)]; exact hO2
  · rw [a35]
    intro h9
    obtain ⟨a, b, p, u, v, f, s, k, st, e, ik, is, ti, tr, f0, f1, f2, f3, f4, f5, f6, f7⟩ := g4 h9
    refine ⟨a, b, p, u, v, f, s, k, st, e, ik, is, ti, tr, ?_, ?_, ?_, ?_, ?_, ?_, ?_, ?_⟩
    · obtain ⟨q1, q2, q3, q4, q5, q6, q7, q8, q9, q10, q11, q12, q13⟩ := f0
      exact ⟨q1, q2, q3, q4, q5, q6, by omega, q8, q9, q10, q11, by omega, q13⟩
    · rw [x0, x0, x0, h1 36 (by omega) (by omega) (by omega) (by omega), h1 37 (by omega) (by omega) (by omega) (by omega), h1 38 (by omega) (by omega) (by omega) (by omega)]; exact f1
    · rw [x0, h1 39 (by omega) (by omega) (by omega) (by omega), h1 40 (by omega) (by omega) (by omega) (by omega)]; exact f2
    · rw [x0, x0, x0, x0, x0, h1 42 (by omega) (by omega) (by omega) (by omega), h1 43 (by omega) (by omega) (by omega) (by omega), h1 47 (by omega) (by omega) (by omega) (by omega), h1 48 (by omega) (by omega) (by omega) (by omega), h1 49 (by omega) (by omega) (by omega) (by omega)]; exact f3
    · rw [x0, x0, x0, h1 46 (by omega) (by omega) (by omega) (by omega), h1 52 (by omega) (by omega) (by omega) (by omega), h1 53 (by omega) (by omega) (by omega) (by omega)]; exact f4
    · obtain ⟨q1, q2, q3, q4⟩ := f5
      refine ⟨?_, ?_, ?_, ?_⟩
      · rw [h1 44 (by omega) (by omega) (by omega) (by omega)]; exact q1
      · rw [x1]; exact q2
      · rw [x1]; exact q3
      · intro i hi
        rw [x2, h2 i (by omega)]; exact q4 i hi
    · obtain ⟨q1, q2, q3, q4⟩ := f6
      refine ⟨?_, ?_, ?_, ?_⟩
      · rw [h1 50 (by omega) (by omega) (by omega) (by omega)]; exact q1
      · rw [x3]; exact q2
      · rw [x3]; exact q3
      · intro i hi
        rw [x4, h3 i (by omega)]; exact q4 i hi
    · rw [a35]
      intro h1'
      obtain ⟨q1, q2, q3⟩ := f7 h1'
      exact ⟨q1, e2 _ (by omega) h1' q2, e2 _ (by omega) h1' q3⟩
/-- ring r alone is touched -/
theorem rg_ring {r : Nat} (hr : r < 3) (H : rg_Rel nd X R A t B) (hX : ∀ q j, ¬ ((q = 2 + 44 * r) ∨ q = 2 + 44 * r + 42 ∨ q = 2 + 44 * r + 43) → X' q j = X q j) (hA : ∀ j i, ¬ ((21 ≤ j ∧ j ≤ 30 ∧ i = r) ∨ (j = 31 ∧ 3 * r ≤ i ∧ i ≤ 3 * r + 2) ∨ (8 ≤ j ∧ j ≤ 20 ∧ (i = 60 + r ∨ i = 63))) → A' j i = A j i) (hR : ∃ m a y k p v, rg_R X' A' r m a y k p v) : rg_Rel nd X' R A' t B := by
  obtain ⟨⟨hW, hT⟩, hM, hRi, hNo, hRo, hLi⟩ := H
  have fe : ∀ j, ¬ (21 ≤ j ∧ j ≤ 31) → ¬ (8 ≤ j ∧ j ≤ 20) → A' j = A j := fun j h1 h2 => funext fun i => hA j i (by omega)
  refine ⟨⟨hW, ?_⟩, rg_M_congr (fun j i hj => hA j i (by omega)) hM, ?_, ?_, ?_, ?_⟩
  · rw [hX 0 3 (by omega)]; exact hT
  · intro r' hr'
    by_cases e : r' = r
    · subst e; exact hR
    · obtain ⟨m, a, y, k, p, v, h9⟩ := hRi r' hr'
      exact ⟨m, a, y, k, p, v, rg_R_congr (fun q j hq => hX q j (by omega)) (hA _ _ (by omega)) (fun j _ _ => hA _ _ (by omega)) (fun i _ => hA _ _ (by omega)) (fun j _ _ => hA _ _ (by omega)) ⟨fun n => by unfold rg_on; rw [fe 2 (by omega) (by omega), fe 3 (by omega) (by omega)], fun n _ => ⟨hA _ _ (by omega), hA _ _ (by omega), fun i _ => ⟨hA _ _ (by omega), hA _ _ (by omega)⟩⟩⟩ (fun c _ => hA _ _ (by omega)) (fun c _ => hA _ _ (by omega)) h9⟩
  · intro n hn h2
    rw [fe 2 (by omega) (by omega)] at h2
    obtain ⟨r', p, w, h, q, h9⟩ := hNo n hn h2
    have hr9 := h9.1.1
    have hp9 := h9.1.2.1
    have hnd := (hW.2 r' hr9 p hp9).2.1
    refine ⟨r', p, w, h, q, rg_N_congr rfl (fun i j hi => hX _ j ?_) (hA _ _ (by omega)) (hA _ _ (by omega)) (hA _ _ (by omega)) (hA _ _ (by omega)) (fun i _ => ⟨hA _ _ (by omega), hA _ _ (by omega)⟩) (fun j i _ _ _ => hA _ _ (by omega)) (fun c _ => hA _ _ (by omega)) (fun c _ => hA _ _ (by omega)) h9⟩
    exact rg_sepR hr hr9 hnd hi
  · intro a b ha hb
    exact rg_T_congr (hX _ _ (by omega)) (hA _ _ (by omega)) (hA _ _ (by omega)) (hA _ _ (by omega)) (hRo a b ha hb)
  · intro c hc
    refine rg_L_congr (Nat.le_refl _) (fun i j _ => hX _ _ (by omega)) (fun j _ _ _ _ => hA _ _ (by omega)) (fun i _ => hA _ _ (by omega)) (fun i _ => hA _ _ (by omega)) (fun n _ _ h9 => ?_) (hLi c hc)
    rw [fe 2 (by omega) (by omega)]
    exact h9
/-- ring r and its node n alone are touched -/
theorem rg_nr {n r p : Nat} (H : rg_Rel nd X R A t B) (hr : r < 3) (hp : p < 5) (hn : n < 15) (h2 : ¬ A 2 n = 0) (h3 : A 3 n = nI r) (h0 : A 0 n = nI p) (hX : ∀ q j, ¬ (q = 2 + 44 * r ∨ q = 2 + 44 * r + 42 ∨ q = 2 + 44 * r + 43 ∨ (rg_o nd r p ≤ q ∧ q < rg_o nd r p + 8)) → X' q j = X q j) (hA : ∀ j i, ¬ ((21 ≤ j ∧ j ≤ 30 ∧ i = r) ∨ (j = 31 ∧ 3 * r ≤ i ∧ i ≤ 3 * r + 2) ∨ (4 ≤ j ∧ j ≤ 5 ∧ i = n) ∨ (6 ≤ j ∧ j ≤ 7 ∧ 8 * n ≤ i ∧ i < 8 * n + 8) ∨ (8 ≤ j ∧ j ≤ 20 ∧ (i = 60 + r ∨ i = 63 ∨ (4 * n ≤ i ∧ i < 4 * n + 4)))) → A' j i = A j i) (hR : ∃ m a y k p v, rg_R X' A' r m a y k p v) (hN : ∃ w h q, rg_N nd X' A' n r p w h q) : rg_Rel nd X' R A' t B := by
  obtain ⟨⟨hW, hT⟩, hM, hRi, hNo, hRo, hLi⟩ := H
  have fe : ∀ j, j ≤ 3 → A' j = A j := fun j h1 => funext fun i => hA j i (by omega)
  have hnd := (hW.2 r hr p hp).2.1
  unfold rg_o at hX
  refine ⟨⟨hW, ?_⟩, rg_M_congr (fun j i hj => hA j i (by omega)) hM, ?_, ?_, ?_, ?_⟩
  · rw [hX 0 3 (by omega)]; exact hT
  · intro r' hr'
    by_cases e : r' = r
    · subst e; exact hR
    · obtain ⟨m, a, y, k, p', v, h9⟩ := hRi r' hr'
      have hne : ∀ n', rg_on A r' n' → n' ≠ n := by
        rintro n' ⟨-, -, h5⟩ rfl
        rw [h3] at h5
        exact e ((nI_eq (by omega) (by omega)).mp h5).symm
      exact ⟨m, a, y, k, p', v, rg_R_congr (fun q j hq => hX q j (by omega)) (hA _ _ (by omega)) (fun j _ _ => hA _ _ (by omega)) (fun i _ => hA _ _ (by omega)) (fun j _ _ => hA _ _ (by omega)) ⟨fun n => by unfold rg_on; rw [fe 2 (by omega), fe 3 (by omega)], fun n' h7 => ⟨hA _ _ (by omega), hA _ _ (by have := hne n' h7; omega), fun i _ => ⟨hA _ _ (by have := hne n' h7; omega), hA _ _ (by have := hne n' h7; omega)⟩⟩⟩ (fun c _ => hA _ _ (by omega)) (fun c _ => hA _ _ (by omega)) h9⟩
  · intro n' hn' h2'
    rw [fe 2 (by omega)] at h2'
    by_cases e : n' = n
    · subst e
      obtain ⟨w, h, q, h9⟩ := hN
      exact ⟨r, p, w, h, q, h9⟩
    obtain ⟨r', p', w, h, q, h9⟩ := hNo n' hn' h2'
    have hr9 := h9.1.1
    have hp9 := h9.1.2.1
    have hnd' := (hW.2 r' hr9 p' hp9).2.1
    have hne : ¬ (r' = r ∧ nd r' p' = nd r p) := by
      rintro ⟨rfl, h8⟩
      have h7 := (hW.2 r' hr p' hp9).2.2 p hp h8
      subst h7
      exact e (hM.2.1 n' n hn' hn h2' h2 (h9.2.1.1.trans h3.symm) (h9.2.1.2.1.trans h0.symm))
    refine ⟨r', p', w, h, q, rg_N_congr rfl (fun i j hi => hX _ j ?_) (hA _ _ (by omega)) (hA _ _ (by omega)) (hA _ _ (by omega)) (hA _ _ (by omega)) (fun i _ => ⟨hA _ _ (by omega), hA _ _ (by omega)⟩) (fun j i _ _ _ => hA _ _ (by omega)) (fun c _ => hA _ _ (by omega)) (fun c _ => hA _ _ (by omega)) h9⟩
    have a1 := rg_sepR hr hr9 hnd' hi
    have a2 := rg_sepN hr hr9 hnd hnd' hi hne
    unfold rg_o
    omega
  · intro a b ha hb
    exact rg_T_congr (hX _ _ (by omega)) (hA _ _ (by omega)) (hA _ _ (by omega)) (hA _ _ (by omega)) (hRo a b ha hb)
  · intro c hc
    refine rg_L_congr (Nat.le_refl _) (fun i j _ => hX _ _ (by omega)) (fun j _ _ _ _ => hA _ _ (by omega)) (fun i _ => hA _ _ (by omega)) (fun i _ => hA _ _ (by omega)) (fun n _ _ h9 => ?_) (hLi c hc)
    rw [fe 2 (by omega)]
    exact h9
/-- node n's queue alone is touched -/
theorem rg_node {n r p : Nat} (H : rg_Rel nd X R A t B) (hr : r < 3) (hp : p < 5) (hn : n < 15) (h2 : ¬ A 2 n = 0) (h3 : A 3 n = nI r) (h0 : A 0 n = nI p) (hX : ∀ q j, ¬ (rg_o nd r p ≤ q ∧ q < rg_o nd r p + 8) → X' q j = X q j) (hA : ∀ j i, ¬ ((j = 4 ∧ i = n) ∨ (8 ≤ j ∧ j ≤ 20 ∧ (i = 63 ∨ (4 * n ≤ i ∧ i < 4 * n + 4)))) → A' j i = A j i) (hN : ∃ w h q, rg_N nd X' A' n r p w h q) : rg_Rel nd X' R A' t B := by
  have hnd := (H.1.1.2 r hr p hp).2.1
  obtain ⟨m, a, y, k, p', v, h9⟩ := H.2.2.1 r hr
  refine rg_nr H hr hp hn h2 h3 h0 (fun q j hq => hX q j (by omega)) (fun j i hj => hA j i (by omega)) ⟨m, a, y, k, p', v, rg_R_congr (fun q j hq => hX q j (by unfold rg_o; omega)) (hA _ _ (by omega)) (fun j _ _ => hA _ _ (by omega)) (fun i _ => hA _ _ (by omega)) (fun j _ _ => hA _ _ (by omega)) ⟨fun n => ?_, fun n' h7 => ⟨hA _ _ (by omega), hA _ _ (by omega), fun i _ => ⟨hA _ _ (by omega), hA _ _ (by omega)⟩⟩⟩ (fun c _ => hA _ _ (by omega)) (fun c _ => hA _ _ (by omega)) h9⟩ hN
  unfold rg_on
  rw [hA 2 n (by omega), hA 3 n (by omega)]
/-- connection c alone is touched; its opening and its receiver stay -/
theorem rg_link {c B' : Nat} (hc : c < 4) (H : rg_Rel nd X R A t B) (hB : B ≤ B') (hX : ∀ q j, ¬ (135 + 5 * c ≤ q ∧ q < 135 + 5 * c + 5) → X' q j = X q j) (hA : ∀ j i, ¬ ((35 ≤ j ∧ j ≤ 53 ∧ ¬ j = 37 ∧ ¬ j = 41 ∧ ¬ j = 45 ∧ ¬ j = 51 ∧ i = c) ∨ (j = 45 ∧ 8 * c ≤ i ∧ i < 8 * c + 8) ∨ (j = 51 ∧ 4 * c ≤ i ∧ i < 4 * c + 4) ∨ (8 ≤ j ∧ j ≤ 20 ∧ i = 63)) → A' j i = A j i) (hL : rg_L X' A' c B') : rg_Rel nd X' R A' t B' := by
  obtain ⟨⟨hW, hT⟩, hM, hRi, hNo, hRo, hLi⟩ := H
  have fe : ∀ j, j ≤ 7 → A' j = A j := fun j h1 => funext fun i => hA j i (by omega)
  refine ⟨⟨hW, ?_⟩, rg_M_congr (fun j i hj => hA j i (by omega)) hM, ?_, ?_, ?_, ?_⟩
  · rw [hX 0 3 (by omega)]; exact hT
  · intro r' hr'
    obtain ⟨m, a, y, k, p', v, h9⟩ := hRi r' hr'
    exact ⟨m, a, y, k, p', v, rg_R_congr (fun q j hq => hX q j (by omega)) (hA _ _ (by omega)) (fun j _ _ => hA _ _ (by omega)) (fun i _ => hA _ _ (by omega)) (fun j _ _ => hA _ _ (by omega)) ⟨fun n => by unfold rg_on; rw [fe 2 (by omega), fe 3 (by omega)], fun n' h7 => ⟨hA _ _ (by omega), hA _ _ (by omega), fun i _ => ⟨hA _ _ (by omega), hA _ _ (by omega)⟩⟩⟩ (fun c _ => hA _ _ (by omega)) (fun c _ => hA _ _ (by omega)) h9⟩
  · intro n' hn' h2'
    rw [fe 2 (by omega)] at h2'
    obtain ⟨r', p', w, h, q, h9⟩ := hNo n' hn' h2'
    have hr9 := h9.1.1
    have hp9 := h9.1.2.1
    have hnd' := (hW.2 r' hr9 p' hp9).2.1
    refine ⟨r', p', w, h, q, rg_N_congr rfl (fun i j hi => hX _ j ?_) (hA _ _ (by omega)) (hA _ _ (by omega)) (hA _ _ (by omega)) (hA _ _ (by omega)) (fun i _ => ⟨hA _ _ (by omega), hA _ _ (by omega)⟩) (fun j i _ _ _ => hA _ _ (by omega)) (fun c _ => hA _ _ (by omega)) (fun c _ => hA _ _ (by omega)) h9⟩
    unfold rg_o
    omega
  · intro a b ha hb
    exact rg_T_congr (hX _ _ (by omega)) (hA _ _ (by omega)) (hA _ _ (by omega)) (hA _ _ (by omega)) (hRo a b ha hb)
  · intro c' hc'
    by_cases e : c' = c
    · subst e; exact hL
    refine rg_L_congr hB (fun i j _ => hX _ _ (by omega)) (fun j _ _ _ _ => hA _ _ (by omega)) (fun i _ => hA _ _ (by omega)) (fun i _ => hA _ _ (by omega)) (fun n _ _ h9 => ?_) (hLi c' hc')
    rw [fe 2 (by omega)]
    exact h9
end RGC
