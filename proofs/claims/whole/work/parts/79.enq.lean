/-! a frame is queued -/
section RGN
variable {nd : Nat → Nat → Nat} {X X' A A1 : Nat → Nat → Int32} {R : Nat → Nat → Option Nat} {t : Int32} {B : Nat}
/-- the scratch frame (63) is nobody's -/
theorem rg_scr (H : rg_Rel nd X R A t B) (hA : ∀ j i, ¬ ((8 ≤ j ∧ j ≤ 20) ∧ i = 63) → A1 j i = A j i) : rg_Rel nd X R A1 t B := by
  refine rg_link (c := 0) (by omega) H (Nat.le_refl _) (fun _ _ _ => rfl) (fun j i hj => hA j i (by omega)) (rg_L_congr (Nat.le_refl _) (fun _ _ _ => rfl) (fun j _ _ _ _ => hA j _ (by omega)) (fun i _ => hA _ _ (by omega)) (fun i _ => hA _ _ (by omega)) (fun n _ _ h => by rw [hA 2 n (by omega)]; exact h) (H.2.2.2.2.2 0 (by omega)))
theorem rg_queue_at {A : Nat → Nat → Int32} {n w j i : Nat} (hw : w < 4) : rr_queue A n w j i = if j = 4 ∧ i = n then nI (w + 1) else if (8 ≤ j ∧ j ≤ 20) ∧ i = 4 * n + w then A j 63 else A j i := by
  rw [rr_queue, if_neg (by omega), rr_up_at]
  rfl
theorem rg_enq {n r pl w h q : Nat} (H : rg_Rel nd X R A t B) (hon : rg_on A r n) (hN : rg_N nd X A n r pl w h q) (hw : w < 4) (hX : ∀ q' j, ¬ q' = rg_o nd r pl + 2 + (h + w) % 4 → ¬ (q' = rg_o nd r pl ∧ j = 5) → X' q' j = X q' j) (hX5 : X' (rg_o nd r pl) 5 = nI (w + 1)) (hA : ∀ j i, ¬ ((8 ≤ j ∧ j ≤ 20) ∧ i = 63) → A1 j i = A j i) (hF : rg_F (X' (rg_o nd r pl + 2 + (h + w) % 4)) (fun j => A1 j 63) (A 41) (A 37)) : rg_Rel nd X' R (rr_queue A1 n w) t B ∧ rg_N nd X' (rr_queue A1 n w) n r pl (w + 1) h q := by
  obtain ⟨b0, b1, b2, b3, b4⟩ := hN
  have hn := hon.1
  have hA' : ∀ j i, rr_queue A1 n w j i = if j = 4 ∧ i = n then nI (w + 1) else if (8 ≤ j ∧ j ≤ 20) ∧ i = 4 * n + w then A1 j 63 else if (8 ≤ j ∧ j ≤ 20) ∧ i = 63 then A1 j 63 else A j i := by
    intro j i
    rw [rg_queue_at hw]
    by_cases c1 : j = 4 ∧ i = n
    · rw [if_pos c1, if_pos c1]
    · rw [if_neg c1, if_neg c1]
      by_cases c2 : (8 ≤ j ∧ j ≤ 20) ∧ i = 4 * n + w
      · rw [if_pos c2, if_pos c2]
      · rw [if_neg c2, if_neg c2]
        by_cases c3 : (8 ≤ j ∧ j ≤ 20) ∧ i = 63
        · rw [if_pos c3, c3.2]
        · rw [if_neg c3, hA j i c3]
  generalize rr_queue A1 n w = A' at hA' ⊢
  have hNn : rg_N nd X' A' n r pl (w + 1) h q := by
    refine ⟨⟨b0.1, b0.2.1, by omega, b0.2.2.2.1, b0.2.2.2.2⟩, ?_, ?_, fun i hi => ?_, fun i hi => ?_⟩
    · simp only [hA']
      simp [b1]
    · rw [hX _ 3 (by omega) (by omega), hX _ 4 (by omega) (by omega), hX _ 6 (by omega) (by omega), hX5]
      exact ⟨b2.1, b2.2.1, rfl, b2.2.2.2⟩
    · by_cases e : i = w
      · subst e
        refine rg_F_congr hF (fun _ _ => rfl) (fun j h1 h2 => ?_) (fun c _ => ?_) (fun c _ => ?_)
        · show A' j (4 * n + i) = A1 j 63
          rw [hA', if_neg (by omega), if_pos ⟨⟨h1, h2⟩, rfl⟩]
        · rw [hA', if_neg (by omega), if_neg (by omega), if_neg (by omega)]
        · rw [hA', if_neg (by omega), if_neg (by omega), if_neg (by omega)]
      · refine rg_F_congr (b3 i (by omega)) (fun j _ => hX _ j ?_ ?_) (fun j h1 h2 => ?_) (fun c _ => ?_) (fun c _ => ?_)
        · have := b0.2.2.2.1
          omega
        · omega
        · show A' j (4 * n + i) = A j (4 * n + i)
          rw [hA', if_neg (by omega), if_neg (by omega), if_neg (by omega)]
        · rw [hA', if_neg (by omega), if_neg (by omega), if_neg (by omega)]
        · rw [hA', if_neg (by omega), if_neg (by omega), if_neg (by omega)]
    · rw [hX _ i (by omega) (by omega), hX _ i (by omega) (by omega), hA', if_neg (by omega), if_neg (by omega), if_neg (by omega), hA', if_neg (by omega), if_neg (by omega), if_neg (by omega)]
      exact b4 i hi
  exact ⟨rg_node H b0.1 b0.2.1 hn hon.2.1 hon.2.2 b1.2.1 (fun q' j hq => hX q' j (by omega) (by omega)) (fun j i hj => by rw [hA', if_neg (by omega), if_neg (by omega), if_neg (by omega)]) ⟨_, _, _, hNn⟩, hNn⟩
/-- nothing is queued where four wait -/
theorem rg_drop {n : Nat} (H : rg_Rel nd X R A t B) (hA : ∀ j i, ¬ ((8 ≤ j ∧ j ≤ 20) ∧ i = 63) → A1 j i = A j i) : rg_Rel nd X R (rr_queue A1 n 4) t B := by
  rw [rr_queue, if_pos rfl]
  exact rg_scr H hA
theorem rg_make_at {A : Nat → Nat → Int32} {k p a b w1 w2 : Int32} {j i : Nat} : ¬ (8 ≤ j ∧ j ≤ 18 ∧ i = 63) → rr_make A k p a b w1 w2 j i = A j i := by
  intro h
  unfold rr_make
  iterate 11 rw [rr_up_at, if_neg (by omega)]
theorem rg_make_63 {A : Nat → Nat → Int32} {k p a b w1 w2 : Int32} : (rr_make A k p a b w1 w2 8 63 = k ∧ rr_make A k p a b w1 w2 9 63 = p ∧ rr_make A k p a b w1 w2 10 63 = a ∧ rr_make A k p a b w1 w2 11 63 = b ∧ rr_make A k p a b w1 w2 12 63 = w1 ∧ rr_make A k p a b w1 w2 13 63 = w2) ∧ (rr_make A k p a b w1 w2 14 63 = -1 ∧ rr_make A k p a b w1 w2 15 63 = -1 ∧ rr_make A k p a b w1 w2 16 63 = 0 ∧ rr_make A k p a b w1 w2 17 63 = 0 ∧ rr_make A k p a b w1 w2 18 63 = 0) := by
  unfold rr_make
  simp [rr_up_at]
theorem rg_bg_ne {X : Nat → Nat → Int32} {F : Nat} {k p a b : Int32} {q j : Nat} (h : ¬ q = F) : rk_bgX X F k p a b q j = X q j := by
  unfold rk_bgX
  iterate 6 rw [rk_ne h]
theorem rg_bg_at {X : Nat → Nat → Int32} {F : Nat} {k p a b : Int32} : (rk_bgX X F k p a b F 0 = k ∧ rk_bgX X F k p a b F 1 = p ∧ rk_bgX X F k p a b F 2 = a ∧ rk_bgX X F k p a b F 3 = b ∧ rk_bgX X F k p a b F 4 = 0 ∧ rk_bgX X F k p a b F 5 = 0) := by
  unfold rk_bgX
  simp [rr_up_at]
theorem rg_m1 : (nI 0 - 1 : Int32) = -1 := by decide +kernel
/-- the frame that explores -/
theorem rg_expF {n y r : Nat} {X1 : Nat → Nat → Int32} {G : Nat} {op to : Nat → Int32} (hn : n < 9) (hy : 1 ≤ y) (hy9 : y ≤ 9) (hr : r < 3) (h3 : A 3 n = nI r) : rg_F (rr_up (rk_bgX X1 G 1 1 (nI (n + 1)) (nI y)) G 6 ((1 : Int32) <<< (nI r &&& 31)) G) (fun j => rr_exp0 A n (nI y) j 63) op to := by
  have hs : ∀ r, r < 3 → (1 : Int32) <<< (nI r &&& 31) = nI (2 ^ r) := by decide +kernel
  have hp : 2 ^ r < 8 := by
    have : r = 0 ∨ r = 1 ∨ r = 2 := by omega
    rcases this with rfl | rfl | rfl <;> decide
  have e3 : rr_make A 0 1 (nI (n + 1)) (nI y) (-1) (-1) 3 n = nI r := (rg_make_at (by omega)).trans h3
  obtain ⟨⟨m1, m2, m3, m4, m5, m6⟩, m7, m8, m9, m10, m11⟩ := rg_make_63 (A := A) (k := 0) (p := 1) (a := nI (n + 1)) (b := nI y) (w1 := -1) (w2 := -1)
  obtain ⟨c1, c2, c3, c4, c5, c6⟩ := rg_bg_at (X := X1) (F := G) (k := 1) (p := 1) (a := nI (n + 1)) (b := nI y)
  refine ⟨0, 1, n + 1, y, 0, 0, 0, 0, ?_, ?_, ?_, ?_, ?_, ?_, fun _ => ⟨rfl, 2 ^ r, hp, ?_, ?_⟩, fun h => absurd h (by omega)⟩
  · refine ⟨?_, ?_, by omega⟩
    · show rr_exp0 A n (nI y) 8 63 = _
      rw [rr_exp0, rr_up_at, if_neg (by omega), m1]; rfl
    · rw [rk_ne2 (by decide), c1]; rfl
  · refine ⟨?_, ?_, by omega⟩
    · show rr_exp0 A n (nI y) 9 63 = _
      rw [rr_exp0, rr_up_at, if_neg (by omega), m2]; rfl
    · rw [rk_ne2 (by decide), c2]; rfl
  · refine ⟨?_, ?_, by omega, by omega⟩
    · show rr_exp0 A n (nI y) 10 63 = _
      rw [rr_exp0, rr_up_at, if_neg (by omega), m3]
    · rw [rk_ne2 (by decide), c3]
  · refine ⟨?_, ?_, hy, hy9⟩
    · show rr_exp0 A n (nI y) 11 63 = _
      rw [rr_exp0, rr_up_at, if_neg (by omega), m4]
    · rw [rk_ne2 (by decide), c4]
  · refine ⟨?_, ?_, ⟨by omega, by omega, fun _ => rfl⟩, ?_⟩
    · show rr_exp0 A n (nI y) 12 63 = _
      rw [rr_exp0, rr_up_at, if_neg (by omega), m5, rg_m1]
    · show rr_exp0 A n (nI y) 13 63 = _
      rw [rr_exp0, rr_up_at, if_neg (by omega), m6, rg_m1]
    · rw [rk_ne2 (by decide), c5]; rfl
  · refine ⟨?_, ?_, ⟨by omega, by omega, fun _ => rfl⟩, ?_⟩
    · show rr_exp0 A n (nI y) 14 63 = _
      rw [rr_exp0, rr_up_at, if_neg (by omega), m7, rg_m1]
    · show rr_exp0 A n (nI y) 15 63 = _
      rw [rr_exp0, rr_up_at, if_neg (by omega), m8, rg_m1]
    · rw [rk_ne2 (by decide), c6]; rfl
  · show rr_exp0 A n (nI y) 16 63 = _
    rw [rr_exp0, rr_up_at, if_pos ⟨rfl, rfl⟩, e3, hs r hr]
  · rw [rr_up_same, hs r hr]
end RGN
