/-! a pair is pushed; a frame is sent -/
section RGM
variable {nd : Nat → Nat → Nat} {X X' A A' : Nat → Nat → Int32} {R : Nat → Nat → Option Nat} {t : Int32} {B : Nat}
theorem rg_pushT {r m a y p v n pl w h q v' : Nat} {x : Int32} (hr : r < 3) (H : rg_Rel nd X R A t B) (h9 : rg_R X A r m a y 2 p v) (hon : rg_on A r n) (hN : rg_N nd X A n r pl w h q) (hpv : p < v') (hv : v' ≤ 3) (hx : x = nI v') : q < 3 ∧
    rg_Rel nd (rk_btX (rk_puX X (rg_o nd r pl) q (nI p) x) (2 + 44 * r + 42) x 0) R (rr_tok (rr_up (rr_up (rr_up A 6 (8 * n + q) (nI p)) 7 (8 * n + q) x) 5 n (nI (q + 1))) r x 0) t B := by
  subst hx
  obtain ⟨e1, e2, e3, e4⟩ := rg_R_E h9
  obtain ⟨g0, g1, g2, g3, g4, g5, g6, g7, g8, g9, g10⟩ := h9
  obtain ⟨b0, b1, b2, b3, b4⟩ := hN
  have hS := g9 (Or.inr rfl)
  have hpl := b0.2.1
  have hap := rg_apart H hr hpl
  have a0 := hap 0 (by omega)
  have a6 := hap 6 (by omega)
  have a7 := hap 7 (by omega)
  rw [Nat.add_zero] at a0
  have hq3 : q < 3 := by
    have := rg_S_q hS g0.2.2.2.2.2.1 hon b1.2.2.2 b0.2.2.2.2
    omega
  refine ⟨hq3, ?_⟩
  unfold rk_btX rk_cmX rk_puX rr_tok
  have o1 : ¬ 2 + 44 * r = rg_o nd r pl := fun h => a0.1 h.symm
  have o2 : ¬ 2 + 44 * r + 42 = rg_o nd r pl := fun h => a0.2.1 h.symm
  have o3 : ¬ 2 + 44 * r = rg_o nd r pl + 6 := fun h => a6.1 h.symm
  have o4 : ¬ 2 + 44 * r + 42 = rg_o nd r pl + 6 := fun h => a6.2.1 h.symm
  have o5 : ¬ 2 + 44 * r = rg_o nd r pl + 7 := fun h => a7.1 h.symm
  have o6 : ¬ 2 + 44 * r + 42 = rg_o nd r pl + 7 := fun h => a7.2.1 h.symm
  refine rg_nr H hr hpl hon.1 hon.2.1 hon.2.2 b1.2.1 (fun q j hq => ?_) (fun j i hj => ?_) ⟨m, a, y, 1, v', 0, rg_R_mk ?_ ⟨g0.1, g0.2.1, g0.2.2.1, by omega, fun _ => g0.2.2.2.2.1 (by omega), hv, by omega⟩ ?_ ?_ ?_ (fun h => absurd h (by omega)) (fun _ => ?_) (fun h => absurd h (by omega))⟩ ⟨w, h, q + 1, ⟨b0.1, b0.2.1, b0.2.2.1, b0.2.2.2.1, by omega⟩, ?_, ?_, fun i hi => ?_, fun i hi => ?_⟩
  · iterate 9 rw [rk_ne (by omega)]
  · iterate 9 rw [rr_up_at, if_neg (by omega)]
  · unfold rg_E
    simp [rr_up_at, e1, e2, e3, e4, o1, o2, o3, o4, o5, o6]
  · simp only [rr_up_at]
    simp [g1, nI]
  · simp [rr_up_at]
  · unfold rg_on
    simpa [rr_up_at, rg_on] using g7
  · exact rg_S_push hS hpv hv hon b1.2.2.2 hq3 (fun i => by simp [rg_on, rr_up_at]) (fun i => by simp [rr_up_at]) (fun i => by simp [rr_up_at]) (fun i => by simp [rr_up_at])
  · simp only [rr_up_at]
    simp [b1]
  · have z6 : ¬ rg_o nd r pl = rg_o nd r pl + 6 := by omega
    have z7 : ¬ rg_o nd r pl = rg_o nd r pl + 7 := by omega
    simp only [rr_up_at]
    simp [b2, a0.2.1]
  · have as := hap (2 + (h + i) % 4) (by omega)
    refine rg_F_congr (b3 i hi) (fun j _ => ?_) (fun j _ _ => ?_) (fun c _ => ?_) (fun c _ => ?_)
    · iterate 9 rw [rk_ne (by omega)]
    · iterate 9 rw [rr_up_at, if_neg (by omega)]
    · iterate 9 rw [rr_up_at, if_neg (by omega)]
    · iterate 9 rw [rr_up_at, if_neg (by omega)]
  · have z : ¬ rg_o nd r pl + 6 = rg_o nd r pl := by omega
    have z' : ¬ rg_o nd r pl + 7 = rg_o nd r pl := by omega
    iterate 6 rw [rk_ne a6.2.1]
    iterate 6 rw [rk_ne a7.2.1]
    rw [rk_ne z, rk_ne z', rk_ne (show rg_o nd r pl + 6 ≠ rg_o nd r pl + 7 by omega)]
    simp only [rr_up_at]
    by_cases e : i = q
    · simp [e]
    · have := b4 i (by omega)
      simp [e, this]
theorem rg_copy_at {A : Nat → Nat → Int32} {x y j i : Nat} : rr_copy A x y j i = if (8 ≤ j ∧ j ≤ 20) ∧ i = y then A j x else A j i := rfl
theorem rg_shift_at {A : Nat → Nat → Int32} {b : Nat} : ∀ k j i, rr_shift A b k j i = if (8 ≤ j ∧ j ≤ 20) ∧ b ≤ i ∧ i < b + k then A j (i + 1) else A j i
  | 0, j, i => by rw [rr_shift, if_neg (by omega)]
  | k + 1, j, i => by
    rw [rr_shift, rg_copy_at]
    by_cases h : (8 ≤ j ∧ j ≤ 20) ∧ i = b + k
    · rw [if_pos h, rg_shift_at k, if_neg (by omega), if_pos ⟨h.1, by omega, by omega⟩, h.2]
    · rw [if_neg h, rg_shift_at k]
      by_cases h2 : (8 ≤ j ∧ j ≤ 20) ∧ b ≤ i ∧ i < b + k
      · rw [if_pos h2, if_pos ⟨h2.1, by omega, by omega⟩]
      · rw [if_neg h2, if_neg (by omega)]
theorem rg_cp_at {X : Nat → Nat → Int32} {G F p j : Nat} : rk_cp X G F p j = if p = F ∧ j ≤ 10 then X G j else X p j := rfl
/-- the first of w + 1 frames goes on the ring -/
theorem rg_send {r m a y p v n pl w h q : Nat} {x : Int32} (hr : r < 3) (H : rg_Rel nd X R A t B) (h9 : rg_R X A r m a y 1 p v) (hon : rg_on A r n) (hN : rg_N nd X A n r pl (w + 1) h q) (hx : x = rr_addr (nI n)) :
    rg_Rel nd (rr_up (rk_bfX (rk_mvX X (rg_o nd r pl) (2 + 44 * r + 43) h) (2 + 44 * r + 42) x) (2 + 44 * r) 8 (A 31 (3 * r + 1) + 1)) R (rr_send A r n (w + 1)) t B := by
  subst hx
  obtain ⟨e1, e2, e3, e4⟩ := rg_R_E h9
  obtain ⟨g0, g1, g2, g3, g4, g5, g6, g7, g8, g9, g10⟩ := h9
  obtain ⟨b0, b1, b2, b3, b4⟩ := hN
  have hpl := b0.2.1
  have hn := hon.1
  have hap := rg_apart H hr hpl
  have a0 := hap 0 (by omega)
  rw [Nat.add_zero] at a0
  have x4 : (X (rg_o nd r pl) 4 + 1) &&& 3 = nI ((h + 1) % 4) := by rw [b2.2.1, nI_1, rg_and3]
  have x5 : X (rg_o nd r pl) 5 - 1 = nI w := by rw [b2.2.2.1, nI_pred]
  have hA : ∀ j i, rr_send A r n (w + 1) j i = if j = 31 ∧ i = 3 * r + 1 then A 31 (3 * r + 1) + 1 else if i = r ∧ j = 29 then rr_addr (nI n) else if i = r ∧ (j = 25 ∨ j = 26 ∨ j = 27 ∨ j = 28) then 0 else if i = r ∧ j = 21 then 2 else if j = 4 ∧ i = n then nI w else if (8 ≤ j ∧ j ≤ 20) ∧ i = 60 + r then A j (4 * n) else if (8 ≤ j ∧ j ≤ 20) ∧ 4 * n ≤ i ∧ i < 4 * n + w then A j (i + 1) else A j i := by
    have s1 : ∀ j i, rr_send1 A r n (w + 1) j i = if j = 4 ∧ i = n then nI w else if (8 ≤ j ∧ j ≤ 20) ∧ i = 60 + r then A j (4 * n) else if (8 ≤ j ∧ j ≤ 20) ∧ 4 * n ≤ i ∧ i < 4 * n + w then A j (i + 1) else A j i := by
      intro j i
      rw [rr_send1, rg_shift_at, show w + 1 - 1 = w by omega, rr_up_at, rr_up_at, rg_copy_at, rg_copy_at]
      by_cases c1 : j = 4 ∧ i = n
      · rw [if_pos c1, if_neg (by omega), if_pos c1]
      · rw [if_neg c1, if_neg c1]
        by_cases c2 : (8 ≤ j ∧ j ≤ 20) ∧ i = 60 + r
        · rw [if_pos c2, if_neg (by omega), if_pos c2]
        · rw [if_neg c2, if_neg c2]
          by_cases c3 : (8 ≤ j ∧ j ≤ 20) ∧ 4 * n ≤ i ∧ i < 4 * n + w
          · rw [if_pos c3, if_pos c3, if_neg (by omega), if_neg (by omega)]
          · rw [if_neg c3, if_neg c3]
    have s2 : ∀ j i, rr_send2 (rr_send1 A r n (w + 1)) r n j i = if i = r ∧ j = 29 then rr_addr (nI n) else if i = r ∧ (j = 25 ∨ j = 26 ∨ j = 27 ∨ j = 28) then 0 else if i = r ∧ j = 21 then 2 else rr_send1 A r n (w + 1) j i := by
      intro j i
      unfold rr_send2
      simp only [rr_up_at]
      by_cases c : i = r
      · subst c
        by_cases c1 : j = 29
        · simp [c1]
        · by_cases c2 : j = 28
          · simp [c2]
          · by_cases c3 : j = 27
            · simp [c3]
            · by_cases c4 : j = 26
              · simp [c4]
              · by_cases c5 : j = 25
                · simp [c5]
                · simp [c1, c2, c3, c4, c5]
      · simp [c]
    intro j i
    rw [rr_send, rr_up_at]
    by_cases c1 : j = 31 ∧ i = 3 * r + 1
    · rw [if_pos c1, if_pos c1, s2, if_neg (by omega), if_neg (by omega), if_neg (by omega), s1, if_neg (by omega), if_neg (by omega), if_neg (by omega)]
    · rw [if_neg c1, if_neg c1, s2, s1]
  have hX : ∀ q' j, rr_up (rk_bfX (rk_mvX X (rg_o nd r pl) (2 + 44 * r + 43) h) (2 + 44 * r + 42) (rr_addr (nI n))) (2 + 44 * r) 8 (A 31 (3 * r + 1) + 1) q' j = if q' = 2 + 44 * r ∧ j = 8 then A 31 (3 * r + 1) + 1 else if q' = 2 + 44 * r + 42 ∧ (j = 3 ∨ j = 5 ∨ j = 6 ∨ j = 7) then 0 else if q' = 2 + 44 * r + 42 ∧ j = 4 then rr_addr (nI n) else if q' = 2 + 44 * r + 42 ∧ j = 1 then 2 else if q' = rg_o nd r pl ∧ j = 5 then nI w else if q' = rg_o nd r pl ∧ j = 4 then nI ((h + 1) % 4) else if q' = 2 + 44 * r + 43 ∧ j ≤ 10 then X (rg_o nd r pl + 2 + h) j else X q' j := by
    intro q' j
    unfold rk_bfX rk_cmX rk_mvX
    rw [x4, x5]
    simp only [rr_up_at, rg_cp_at]
    by_cases c0 : q' = 2 + 44 * r ∧ j = 8
    · rw [if_pos c0, if_pos c0]
    · rw [if_neg c0, if_neg c0]
      by_cases c : q' = 2 + 44 * r + 42
      · subst c
        by_cases c1 : j = 7
        · simp [c1]
        · by_cases c2 : j = 6
          · simp [c2]
          · by_cases c3 : j = 5
            · simp [c3]
            · by_cases c4 : j = 3
              · simp [c4]
              · simp [c1, c2, c3, c4]
      · simp [c]
  generalize rr_send A r n (w + 1) = A' at hA ⊢
  generalize rr_up (rk_bfX (rk_mvX X (rg_o nd r pl) (2 + 44 * r + 43) h) (2 + 44 * r + 42) (rr_addr (nI n))) (2 + 44 * r) 8 (A 31 (3 * r + 1) + 1) = X' at hX ⊢
  have o1 : ¬ 2 + 44 * r = rg_o nd r pl := fun h => a0.1 h.symm
  have o2 : ¬ 2 + 44 * r + 42 = rg_o nd r pl := fun h => a0.2.1 h.symm
  have o3 : ¬ 2 + 44 * r + 43 = rg_o nd r pl := fun h => a0.2.2 h.symm
  refine rg_nr H hr hpl hon.1 hon.2.1 hon.2.2 b1.2.1 (fun q j hq => ?_) (fun j i hj => ?_) ⟨m, a, y, 2, p, 0, rg_R_mk ?_ ⟨g0.1, g0.2.1, g0.2.2.1, by omega, fun _ => g0.2.2.2.2.1 (by omega), g0.2.2.2.2.2.1, by omega⟩ ?_ ?_ ?_ (fun _ => ?_) (fun _ => ?_) (fun h => absurd h (by omega))⟩ ⟨w, (h + 1) % 4, q, ⟨b0.1, b0.2.1, by omega, by omega, b0.2.2.2.2⟩, ?_, ?_, fun i hi => ?_, fun i hi => ?_⟩
  · rw [hX, if_neg (by omega), if_neg (by omega), if_neg (by omega), if_neg (by omega), if_neg (by omega), if_neg (by omega), if_neg (by omega)]
  · rw [hA, if_neg (by omega), if_neg (by omega), if_neg (by omega), if_neg (by omega), if_neg (by omega), if_neg (by omega), if_neg (by omega)]
  · unfold rg_E
    simp only [hX, hA]
    simp [e1, e2, e3, e4, o1, o2]
  · simp only [hA]
    simp [g1, nI]
  · simp [hA]
  · unfold rg_on
    simpa [hA, rg_on] using g7
  · refine rg_F_congr (b3 0 (by omega)) (fun j hj => ?_) (fun j h1 h2 => ?_) (fun c _ => ?_) (fun c _ => ?_)
    · rw [hX, if_neg (by omega), if_neg (by omega), if_neg (by omega), if_neg (by omega), if_neg (by omega), if_neg (by omega), if_pos ⟨rfl, hj⟩, show (h + 0) % 4 = h by omega]
    · show A' j (60 + r) = A j (4 * n + 0)
      rw [hA, if_neg (by omega), if_neg (by omega), if_neg (by omega), if_neg (by omega), if_neg (by omega), if_pos ⟨⟨h1, h2⟩, rfl⟩, Nat.add_zero]
    · rw [hA, if_neg (by omega), if_neg (by omega), if_neg (by omega), if_neg (by omega), if_neg (by omega), if_neg (by omega), if_neg (by omega)]
    · rw [hA, if_neg (by omega), if_neg (by omega), if_neg (by omega), if_neg (by omega), if_neg (by omega), if_neg (by omega), if_neg (by omega)]
  · refine rg_S_congr ⟨fun i => ?_, fun i _ => ?_⟩ (g9 (Or.inl rfl))
    · simp [rg_on, hA]
    · simp [hA]
  · simp only [hA]
    simp [b1]
  · simp only [hX]
    simp [b2, a0.1, a0.2.1, a0.2.2]
  · have as := hap (2 + ((h + 1) % 4 + i) % 4) (by omega)
    refine rg_F_congr (b3 (i + 1) (by omega)) (fun j hj => ?_) (fun j h1 h2 => ?_) (fun c _ => ?_) (fun c _ => ?_)
    · rw [hX, if_neg (by omega), if_neg (by omega), if_neg (by omega), if_neg (by omega), if_neg (by omega), if_neg (by omega), if_neg (by omega), show ((h + 1) % 4 + i) % 4 = (h + (i + 1)) % 4 by omega]
    · show A' j (4 * n + i) = A j (4 * n + (i + 1))
      rw [hA, if_neg (by omega), if_neg (by omega), if_neg (by omega), if_neg (by omega), if_neg (by omega), if_neg (by omega), if_pos ⟨⟨h1, h2⟩, by omega, by omega⟩, Nat.add_assoc]
    · rw [hA, if_neg (by omega), if_neg (by omega), if_neg (by omega), if_neg (by omega), if_neg (by omega), if_neg (by omega), if_neg (by omega)]
    · rw [hA, if_neg (by omega), if_neg (by omega), if_neg (by omega), if_neg (by omega), if_neg (by omega), if_neg (by omega), if_neg (by omega)]
  · have a6 := hap 6 (by omega)
    have a7 := hap 7 (by omega)
    have := b4 i hi
    refine ⟨?_, ?_⟩
    · rw [hX, if_neg (by omega), if_neg (by omega), if_neg (by omega), if_neg (by omega), if_neg (by omega), if_neg (by omega), if_neg (by omega), hA, if_neg (by omega), if_neg (by omega), if_neg (by omega), if_neg (by omega), if_neg (by omega), if_neg (by omega), if_neg (by omega)]
      exact this.1
    · rw [hX, if_neg (by omega), if_neg (by omega), if_neg (by omega), if_neg (by omega), if_neg (by omega), if_neg (by omega), if_neg (by omega), hA, if_neg (by omega), if_neg (by omega), if_neg (by omega), if_neg (by omega), if_neg (by omega), if_neg (by omega), if_neg (by omega)]
      exact this.2
end RGM
