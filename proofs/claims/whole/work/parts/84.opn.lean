/-! a connection is opened -/
section RGY
variable {nd : Nat → Nat → Nat} {X X' A A' : Nat → Nat → Int32} {R : Nat → Nat → Option Nat} {t : Int32} {B : Nat}
theorem rg_F_open {x y op to op' to' : Nat → Int32} {c O : Nat} (h : rg_F x y op to) (hO : op c = nI O) (hO9 : O ≤ 900000) (hop : ∀ i, op' i = if i = c then nI (O + 1) else op i) (hto : ∀ i, ¬ i = c → to' i = to i) : rg_F x y op' to' := by
  obtain ⟨k, p, a, b, u, v, s, t, h1, h2, h3, h4, h5, h6, h7, h8⟩ := h
  refine ⟨k, p, a, b, u, v, s, t, h1, h2, h3, h4, h5, h6, h7, fun hk => ?_⟩
  obtain ⟨c1, o, O1, z, g1, g2, g3, g4, g5, g6, g7, g8, g9, g10, g11, g12⟩ := h8 hk
  by_cases e : c1 = c
  · subst e
    have e2 : O1 = O := (nI_eq (by omega) (by omega)).mp (g6.symm.trans hO)
    subst e2
    refine ⟨c1, o, O1 + 1, z, g1, g2, g3, g4, g5, by rw [hop, if_pos rfl], by omega, by omega, g9, g10, g11, fun h2 => ⟨(g12 h2).1, fun h3 => ?_⟩⟩
    omega
  · exact ⟨c1, o, O1, z, g1, g2, g3, g4, g5, by rw [hop, if_neg e]; exact g6, g7, g8, g9, g10, g11, by rw [hto c1 e]; exact g12⟩
theorem rg_open {c O B' : Nat} (hc : c < 4) (H : rg_Rel nd X R A t B) (hB : B ≤ B') (hX : ∀ q j, ¬ (135 + 5 * c ≤ q ∧ q < 135 + 5 * c + 5) → X' q j = X q j) (hA : ∀ j i, ¬ (35 ≤ j ∧ j ≤ 53 ∧ ¬ j = 45 ∧ ¬ j = 51 ∧ i = c) → A' j i = A j i) (hO : A 41 c = nI O) (hO9 : O ≤ 900000) (hO' : A' 41 c = nI (O + 1)) (hL : rg_L X' A' c B') : rg_Rel nd X' R A' t B' := by
  obtain ⟨⟨hW, hT⟩, hM, hRi, hNo, hRo, hLi⟩ := H
  have fe : ∀ j, j ≤ 34 → A' j = A j := fun j h1 => funext fun i => hA j i (by omega)
  have hF : ∀ x y, rg_F x y (A 41) (A 37) → rg_F x y (A' 41) (A' 37) := by
    intro x y h
    refine rg_F_open h hO hO9 (fun i => ?_) (fun i hi => hA _ _ (by omega))
    by_cases e : i = c
    · rw [if_pos e, e, hO']
    · rw [if_neg e, hA _ _ (by omega)]
  refine ⟨⟨hW, ?_⟩, rg_M_congr (fun j i hj => hA j i (by omega)) hM, ?_, ?_, ?_, ?_⟩
  · rw [hX 0 3 (by omega)]; exact hT
  · intro r' hr'
    obtain ⟨m, a, y, k, p', v, g0, g1, g2, g3, g4, g5, g6, g7, g8, g9, g10⟩ := hRi r' hr'
    have x1 : X' (2 + 44 * r') = X (2 + 44 * r') := funext fun j => hX _ j (by omega)
    have x2 : X' (2 + 44 * r' + 42) = X (2 + 44 * r' + 42) := funext fun j => hX _ j (by omega)
    have x3 : X' (2 + 44 * r' + 43) = X (2 + 44 * r' + 43) := funext fun j => hX _ j (by omega)
    have e : rg_sm A A' r' := ⟨fun n => by unfold rg_on; rw [fe 2 (by omega), fe 3 (by omega)], fun n' h7 => ⟨hA _ _ (by omega), hA _ _ (by omega), fun i _ => ⟨hA _ _ (by omega), hA _ _ (by omega)⟩⟩⟩
    refine ⟨m, a, y, k, p', v, g0, ?_, ?_, ?_, ?_, ?_, ?_, ?_, ?_, ?_, ?_⟩
    · rw [fe 1 (by omega), fe 22 (by omega), fe 23 (by omega), fe 21 (by omega), fe 24 (by omega), fe 25 (by omega)]; exact g1
    · rw [x1, fe 30 (by omega)]; exact g2
    · rw [x1, fe 31 (by omega)]; exact g3
    · rw [x2, fe 29 (by omega)]; exact g4
    · rw [x2, fe 26 (by omega), fe 27 (by omega), fe 28 (by omega)]; exact g5
    · rw [fe 26 (by omega), fe 27 (by omega), fe 28 (by omega)]; exact g6
    · unfold rg_on
      rw [fe 30 (by omega), fe 2 (by omega), fe 3 (by omega)]
      exact g7
    · intro hk
      rw [x3]
      exact hF _ _ (rg_F_congr (g8 hk) (fun _ _ => rfl) (fun j _ _ => hA _ _ (by omega)) (fun _ _ => rfl) (fun _ _ => rfl))
    · intro hk
      exact rg_S_congr e (g9 hk)
    · intro hk
      have := g10 hk
      unfold rg_P rg_on at this ⊢
      rw [fe 29 (by omega), fe 30 (by omega), fe 0 (by omega), fe 2 (by omega), fe 3 (by omega), fe 5 (by omega)]
      exact this
  · intro n' hn' h2'
    rw [fe 2 (by omega)] at h2'
    obtain ⟨r', p', w, h, q, b0, b1, b2, b3, b4⟩ := hNo n' hn' h2'
    have hr9 := b0.1
    have hp9 := b0.2.1
    have hnd' := (hW.2 r' hr9 p' hp9).2.1
    have xo : ∀ i, i < 8 → X' (rg_o nd r' p' + i) = X (rg_o nd r' p' + i) := by
      intro i hi
      funext j
      refine hX _ j ?_
      unfold rg_o
      omega
    refine ⟨r', p', w, h, q, b0, ?_, ?_, fun i hi => ?_, fun i hi => ?_⟩
    · rw [fe 3 (by omega), fe 0 (by omega), fe 4 (by omega), fe 5 (by omega)]; exact b1
    · have := xo 0 (by omega)
      rw [Nat.add_zero] at this
      rw [this]; exact b2
    · rw [Nat.add_assoc, xo (2 + (h + i) % 4) (by omega), ← Nat.add_assoc]
      exact hF _ _ (rg_F_congr (b3 i hi) (fun _ _ => rfl) (fun j _ _ => hA _ _ (by omega)) (fun _ _ => rfl) (fun _ _ => rfl))
    · rw [xo 6 (by omega), xo 7 (by omega), fe 6 (by omega), fe 7 (by omega)]
      exact b4 i hi
  · intro a b ha hb
    exact rg_T_congr (hX _ _ (by omega)) (hA _ _ (by omega)) (hA _ _ (by omega)) (hA _ _ (by omega)) (hRo a b ha hb)
  · intro c' hc'
    by_cases e : c' = c
    · subst e; exact hL
    refine rg_L_congr hB (fun i j _ => hX _ _ (by omega)) (fun j _ _ _ _ => hA _ _ (by omega)) (fun i _ => hA _ _ (by omega)) (fun i _ => hA _ _ (by omega)) (fun n _ _ h9 => ?_) (hLi c' hc')
    rw [fe 2 (by omega)]
    exact h9
theorem rg_openC {c n m p u v : Nat} (hc : c < 4) (H : rg_Rel nd X R A t B) (hB : B ≤ 900000) (hn : n < 9) (hm : m < 9) (hp : p ≤ 3) (huv : rk_pth u v) (h2 : ¬ A 2 n = 0) (h2' : ¬ A 2 m = 0) : rg_Rel nd (rk_lb3 (rk_lb2 (rk_lb1 X (135 + 5 * c) (nI (n + 1)) (nI (m + 1)) (nI p) (nI (u + 4 * v))) (135 + 5 * c)) (135 + 5 * c)) R (rr_op2 (rr_op1 A c n m (nI p) (nI u - 1) (nI v - 1)) c) t (B + 1) := by
  obtain ⟨g0, g1, g2, ⟨O, hO, hO2, hO3⟩, g4⟩ := H.2.2.2.2.2 c hc
  have e41 : rr_op1 A c n m (nI p) (nI u - 1) (nI v - 1) 41 c + 1 = nI (O + 1) := by
    unfold rr_op1
    rw [rr_up_at, if_neg (by omega), rr_up_at, if_neg (by omega), rr_up_at, if_neg (by omega), rr_up_at, if_neg (by omega), rr_up_at, if_neg (by omega), rr_up_at, if_neg (by omega), hO2, nI_1]
  have x4 : X (135 + 5 * c) 4 + 1 = nI (O + 1) := by rw [hO3, nI_1]
  have hA : ∀ j i, rr_op2 (rr_op1 A c n m (nI p) (nI u - 1) (nI v - 1)) c j i = if i = c then (if j = 35 then 1 else if j = 36 then nI (n + 1) else if j = 37 then nI (m + 1) else if j = 38 then nI p else if j = 39 then nI u - 1 else if j = 40 then nI v - 1 else if j = 41 then nI (O + 1) else if j = 42 ∨ j = 43 ∨ j = 44 ∨ j = 46 ∨ j = 47 ∨ j = 48 ∨ j = 49 ∨ j = 50 ∨ j = 52 ∨ j = 53 then 0 else A j i) else A j i := by
    intro j i
    unfold rr_op2
    rw [e41]
    unfold rr_op1
    simp only [rr_up_at]
    by_cases ci : i = c
    · subst ci
      rcases Nat.lt_or_ge j 35 with hj | hj
      · have q : ∀ k, 35 ≤ k → ¬ j = k := by intro k hk; omega
        simp [q]
      · rcases Nat.lt_or_ge 53 j with hj' | hj'
        · have q : ∀ k, k ≤ 53 → ¬ j = k := by intro k hk; omega
          simp [q]
        · have : j = 35 ∨ j = 36 ∨ j = 37 ∨ j = 38 ∨ j = 39 ∨ j = 40 ∨ j = 41 ∨ j = 42 ∨ j = 43 ∨ j = 44 ∨ j = 45 ∨ j = 46 ∨ j = 47 ∨ j = 48 ∨ j = 49 ∨ j = 50 ∨ j = 51 ∨ j = 52 ∨ j = 53 := by omega
          rcases this with rfl | rfl | rfl | rfl | rfl | rfl | rfl | rfl | rfl | rfl | rfl | rfl | rfl | rfl | rfl | rfl | rfl | rfl | rfl <;> simp
    · simp [ci]
  have hX : ∀ q j, rk_lb3 (rk_lb2 (rk_lb1 X (135 + 5 * c) (nI (n + 1)) (nI (m + 1)) (nI p) (nI (u + 4 * v))) (135 + 5 * c)) (135 + 5 * c) q j = if q = 135 + 5 * c then (if j = 3 then 1 else if j = 4 then nI (O + 1) else if j = 5 then nI (n + 1) else if j = 6 then nI (m + 1) else if j = 7 then nI p else if j = 8 then nI (u + 4 * v) else if 9 ≤ j ∧ j ≤ 16 then 0 else X q j) else if (q = 135 + 5 * c + 1 ∨ q = 135 + 5 * c + 3) ∧ (j = 2 ∨ j = 3) then 0 else X q j := by
    intro q j
    unfold rk_lb3 rk_lb2 rk_lb1
    rw [x4]
    simp only [rr_up_at]
    by_cases c0 : q = 135 + 5 * c
    · subst c0
      rcases Nat.lt_or_ge j 3 with hj | hj
      · have q : ∀ k, 3 ≤ k → ¬ j = k := by intro k hk; omega
        have q2 : ¬ 9 ≤ j := by omega
        simp [q, q2]
      · rcases Nat.lt_or_ge 16 j with hj' | hj'
        · have q : ∀ k, k ≤ 16 → ¬ j = k := by intro k hk; omega
          have q2 : ¬ j ≤ 16 := by omega
          simp [q, q2]
        · have : j = 3 ∨ j = 4 ∨ j = 5 ∨ j = 6 ∨ j = 7 ∨ j = 8 ∨ j = 9 ∨ j = 10 ∨ j = 11 ∨ j = 12 ∨ j = 13 ∨ j = 14 ∨ j = 15 ∨ j = 16 := by omega
          rcases this with rfl | rfl | rfl | rfl | rfl | rfl | rfl | rfl | rfl | rfl | rfl | rfl | rfl | rfl <;> simp
    · by_cases c1 : q = 135 + 5 * c + 1
      · subst c1
        by_cases j2 : j = 2
        · simp [j2]
        · by_cases j3 : j = 3
          · simp [j3]
          · simp [j2, j3]
      · by_cases c3 : q = 135 + 5 * c + 3
        · subst c3
          by_cases j2 : j = 2
          · simp [j2]
          · by_cases j3 : j = 3
            · simp [j3]
            · simp [j2, j3]
        · simp [c0, c1, c3]
  generalize rr_op2 (rr_op1 A c n m (nI p) (nI u - 1) (nI v - 1)) c = A' at hA ⊢
  generalize rk_lb3 (rk_lb2 (rk_lb1 X (135 + 5 * c) (nI (n + 1)) (nI (m + 1)) (nI p) (nI (u + 4 * v))) (135 + 5 * c)) (135 + 5 * c) = X' at hX ⊢
  refine rg_open hc H (by omega) (fun q j hq => ?_) (fun j i hj => ?_) hO2 (by omega) ?_ ⟨?_, ?_, Or.inr (Or.inl ?_), ⟨O + 1, by omega, ?_, ?_⟩, fun _ => ⟨n + 1, m + 1, p, u, v, 0, 0, 0, 0, 0, 0, 0, 0, 0, ⟨by omega, by omega, by omega, by omega, hp, huv, by omega, by omega, by omega, by omega, by omega, by omega, by omega, by omega, by omega, by omega⟩, ?_, ?_, ?_, ?_, ⟨?_, ?_, ?_, fun i hi => by omega⟩, ⟨?_, ?_, ?_, fun i hi => by omega⟩, fun _ => ⟨by omega, ?_, ?_⟩⟩⟩
  · rw [hX, if_neg (by omega), if_neg (by omega)]
  · rw [hA]
    by_cases ci : i = c
    · rw [if_pos ci, if_neg (by omega), if_neg (by omega), if_neg (by omega), if_neg (by omega), if_neg (by omega), if_neg (by omega), if_neg (by omega), if_neg (by omega)]
    · rw [if_neg ci]
  · simp [hA]
  · simp [hX, g0]
  · simp [hX, hA]
  · simp [hA]
  · simp [hA]
  · simp [hX]
  · simp [hX, hA]
  · simp [hX, hA]
  · simp [hX, hA, nI]
  · simp [hX, hA]
  · simp [hA, nI]
  · simp [hX, nI]
  · simp [hX, nI]
  · simp [hA, nI]
  · simp [hX, nI]
  · simp [hX, nI]
  · rw [hA]
    simp [h2]
  · rw [hA]
    simp [h2']
end RGY
