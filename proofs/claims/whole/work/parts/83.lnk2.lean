/-! what is heard, taken, offered; data -/
section RGX
variable {nd : Nat → Nat → Nat} {X X' A A' : Nat → Nat → Int32} {R : Nat → Nat → Option Nat} {t : Int32} {B : Nat}
variable {c a b p u v f s k st e ik is ti tr : Nat}
theorem rg_monoB {B' : Nat} (h : B ≤ B') (H : rg_Rel nd X R A t B) : rg_Rel nd X R A t B' :=
  ⟨H.1, H.2.1, H.2.2.1, H.2.2.2.1, H.2.2.2.2.1, fun c hc => rg_L_congr h (fun _ _ _ => rfl) (fun _ _ _ _ _ => rfl) (fun _ _ => rfl) (fun _ _ => rfl) (fun _ _ _ h9 => h9) (H.2.2.2.2.2 c hc)⟩
theorem rg_hear {kk zz : Nat} (hc : c < 4) (H : rg_Rel nd X R A t B) (hC : rg_C X A c B a b p u v f s k st e ik is ti tr) (h1 : A 35 c = 1) (hk : 3 ≤ kk) (hk5 : kk ≤ 5) (hz : zz < 8) (hf : f < 2 ^ 31) :
    rg_Rel nd (rk_aa X (135 + 5 * c) (nI (kk + 1)) (nI zz)) R (rr_hear A c (nI kk) (nI zz) ((zz + 7 * f) % 8) k) t (B + 1) := by
  have hC0 := hC
  obtain ⟨f0, f1, f2, f3, f4, f5, f6, f7⟩ := hC
  have mX : (nI zz - X (135 + 5 * c) 9) &&& 7 = nI ((zz + 7 * f) % 8) := by rw [f3.2.1, rg_sub7]
  have mA : rr_many A c (nI zz) = nI ((zz + 7 * f) % 8) := by unfold rr_many; rw [f3.1]; exact rg_many hz hf
  have htr := (f7 h1).1
  unfold rk_aa rr_hear
  rw [mX, mA, f3.2.2.1, f3.2.2.2.1]
  by_cases hle : (zz + 7 * f) % 8 ≤ s
  · have h2 : nI ((zz + 7 * f) % 8) ≤ nI s := nI_le hle (by omega)
    rw [if_pos h2, if_neg (show ¬ ¬ nI ((zz + 7 * f) % 8) ≤ nI s from fun h => h h2)]
    obtain ⟨H1, C1⟩ := rg_hear1 hc H hC0 h1 hle rfl
    generalize (zz + 7 * f) % 8 = mm at hle H1 C1 ⊢
    have b42 : rr_drop (rr_up A 44 c (nI (k - mm))) c mm (k - mm) 42 c = nI f := by
      rw [rg_drop_at, if_neg (by omega), rr_up_at, if_neg (by omega)]; exact f3.1
    have b43 : rr_drop (rr_up A 44 c (nI (k - mm))) c mm (k - mm) 43 c = nI s := by
      rw [rg_drop_at, if_neg (by omega), rr_up_at, if_neg (by omega)]; exact f3.2.2.1
    unfold rr_hd2
    rw [b42, b43]
    have h35 : rr_up (rr_up (rr_drop (rr_up A 44 c (nI (k - mm))) c mm (k - mm)) 42 c (nI f + nI mm)) 43 c (nI s - nI mm) 35 c = 1 := by
      rw [rr_up_at, if_neg (by omega), rr_up_at, if_neg (by omega), rg_drop_at, if_neg (by omega), rr_up_at, if_neg (by omega)]; exact h1
    generalize rk_aa1 X (135 + 5 * c) (nI mm) = X1 at H1 C1 ⊢
    generalize rr_up (rr_up (rr_drop (rr_up A 44 c (nI (k - mm))) c mm (k - mm)) 42 c (nI f + nI mm)) 43 c (nI s - nI mm) = A1 at H1 C1 h35 ⊢
    have fin : ∀ (X2 A2 : Nat → Nat → Int32) (s2 ti2 tr2 : Nat), rg_Rel nd X2 R A2 t (B + 1) → rg_C X2 A2 c (B + 1) a b p u v (f + mm) s2 (k - mm) ((st + mm) % 8) e ik is ti2 tr2 → A2 35 c = 1 → rg_Rel nd (rk_aa2 X2 (135 + 5 * c) (nI (kk + 1))) R (rr_hd3 A2 c (nI kk)) t (B + 1) := by
      intro X2 A2 s2 ti2 tr2 H2 C2 h35'
      have : kk = 3 ∨ kk = 4 ∨ kk = 5 := by omega
      unfold rk_aa2 rr_hd3
      rcases this with rfl | rfl | rfl
      · rw [if_neg (by decide), if_neg (by decide), if_neg (by decide), if_neg (by decide)]
        exact (rg_mark (Or.inl ⟨rfl, rfl⟩) (Or.inl rfl) hc H2 C2 (Or.inl h35')).1
      · rw [if_pos (by decide), if_neg (by decide), if_pos (by decide)]
        obtain ⟨H3, C3⟩ := rg_mark (Or.inl ⟨rfl, rfl⟩) (Or.inl rfl) hc H2 C2 (Or.inl h35')
        exact (rg_sentC (s' := 0) hc H3 C3 (Or.inl (by rw [rr_up_at, if_neg (by omega)]; exact h35')) (by omega) (by omega) rfl).1
      · rw [if_neg (by decide), if_pos (by decide), if_pos (by decide)]
        obtain ⟨H3, C3⟩ := rg_mark (z := 1) (Or.inl ⟨rfl, rfl⟩) (Or.inr rfl) hc H2 C2 (Or.inl h35')
        have h35'' : rr_up A2 46 c 1 35 c = 1 := by rw [rr_up_at, if_neg (by omega)]; exact h35'
        have H4 := (rg_timC (ti' := 0) (tr' := tr2) (x := 0) (y := nI tr2) hc H3 C3 h35'' (by omega) (C3.2.2.2.2.2.2.2 h35'').1 rfl rfl).1
        rw [rg_up_id (X := rr_up (rr_up X2 (135 + 5 * c) 14 1) (135 + 5 * c) 11 0) (by rw [rk_ne2 (by decide)]; exact C3.2.2.2.1.2.2.2.2.2.2.2.1), rg_up_id (X := rr_up (rr_up A2 46 c 1) 47 c 0) (by rw [rr_up_at, if_neg (by omega)]; exact C3.2.2.2.1.2.2.2.2.2.2.1)] at H4
        exact H4
    by_cases h0 : mm = 0
    · subst h0
      rw [if_pos (show nI 0 = 0 from rfl), if_pos (show nI 0 ≤ 0 by decide)]
      exact fin _ _ _ _ _ H1 C1 h35
    · rw [if_neg (nI_ne0 (by omega) (by omega)), if_neg (nI_nle (by omega) (by omega))]
      obtain ⟨H2, C2⟩ := rg_timC (ti' := 0) (tr' := 0) (x := 0) (y := 0) hc H1 C1 h35 (by omega) (by omega) rfl rfl
      exact fin _ _ _ _ _ H2 C2 (by rw [rr_up_at, if_neg (by omega), rr_up_at, if_neg (by omega)]; exact h35)
  · have h2 : ¬ nI ((zz + 7 * f) % 8) ≤ nI s := nI_ge (by omega) (by omega)
    rw [if_neg h2, if_pos h2]
    exact rg_monoB (by omega) H
theorem rg_gap_at {c : Nat} : ∀ (f i : Nat) (B : Nat → Nat → Int32) (j x : Nat), rr_gap c B f i j x = if j = 51 ∧ 4 * c + i ≤ x ∧ x < 4 * c + i + f then B 51 (x + 1) else B j x
  | 0, i, B, j, x => by rw [rr_gap, if_neg (by omega)]
  | f + 1, i, B, j, x => by
    rw [rr_gap, rg_gap_at f (i + 1)]
    by_cases h : j = 51 ∧ 4 * c + (i + 1) ≤ x ∧ x < 4 * c + (i + 1) + f
    · rw [if_pos h, if_pos ⟨h.1, by omega, by omega⟩, rr_up_at, if_neg (by omega)]
    · rw [if_neg h, rr_up_at]
      by_cases h2 : j = 51 ∧ x = 4 * c + i
      · rw [if_pos h2, if_pos ⟨h2.1, by omega, by omega⟩, h2.2]
      · rw [if_neg h2, if_neg (by omega)]
/-- the first byte of the inbox is taken -/
theorem rg_takeC {m : Nat} (hc : c < 4) (H : rg_Rel nd X R A t B) (hC : rg_C X A c B a b p u v f s k st e (m + 1) is ti tr) (h1 : A 35 c = 1 ∨ A 35 c = 2) : rg_Rel nd (rr_up (rr_up X (135 + 5 * c + 3) 2 (nI ((is + 1) % 4))) (135 + 5 * c + 3) 3 (nI m)) R (rr_takeG A c m) t B ∧ rg_C (rr_up (rr_up X (135 + 5 * c + 3) 2 (nI ((is + 1) % 4))) (135 + 5 * c + 3) 3 (nI m)) (rr_takeG A c m) c B a b p u v f s k st e m ((is + 1) % 4) ti tr := by
  obtain ⟨f0, f1, f2, f3, f4, f5, f6, f7⟩ := hC
  have g1 := (H.2.2.2.2.2 c hc).2.1
  have hA : ∀ j i, rr_takeG A c m j i = if j = 51 ∧ 4 * c ≤ i ∧ i < 4 * c + m then A 51 (i + 1) else if j = 50 ∧ i = c then nI m else A j i := by
    intro j i
    unfold rr_takeG
    rw [rg_gap_at, f6.1, nI_pred, rr_up_at, rr_up_at, if_neg (show ¬ (51 = 50 ∧ i + 1 = c) by omega), Nat.add_zero]
  generalize rr_takeG A c m = A' at hA ⊢
  have hC' : rg_C (rr_up (rr_up X (135 + 5 * c + 3) 2 (nI ((is + 1) % 4))) (135 + 5 * c + 3) 3 (nI m)) A' c B a b p u v f s k st e m ((is + 1) % 4) ti tr := by
    refine ⟨⟨f0.1, f0.2.1, f0.2.2.1, f0.2.2.2.1, f0.2.2.2.2.1, f0.2.2.2.2.2.1, by omega, by omega, by omega, by omega, by omega, by omega, by omega, by omega, by omega, by omega⟩, ?_, ?_, ?_, ?_, ⟨?_, ?_, ?_, fun i hi => ?_⟩, ⟨?_, ?_, ?_, fun i hi => ?_⟩, ?_⟩
    · simp [rr_up_at, hA, f1]
    · simp [rr_up_at, hA, f2]
    · simp [rr_up_at, hA, f3]
    · simp [rr_up_at, hA, f4.1, f4.2.1, f4.2.2.1, f4.2.2.2.1, f4.2.2.2.2.1, f4.2.2.2.2.2]
    · simp [hA, f5.1]
    · simp [rr_up_at, f5.2.1]
    · simp [rr_up_at, f5.2.2.1]
    · simp [rr_up_at, hA, f5.2.2.2 i hi]
    · simp [hA]
    · simp [rr_up_at]
    · simp [rr_up_at]
    · rw [rk_ne (by omega), rk_ne (by omega), hA, if_pos ⟨rfl, by omega, by omega⟩, show ((is + 1) % 4 + i) % 4 = (is + (i + 1)) % 4 by omega, Nat.add_assoc]
      exact f6.2.2.2 (i + 1) (by omega)
    · simp [hA]
      exact f7
  refine ⟨rg_linkC hc H (Nat.le_refl _) (fun q j hq => ?_) (fun j i hj => ?_) ?_ ?_ hC', hC'⟩
  · rw [rr_up_at, if_neg (by omega), rr_up_at, if_neg (by omega)]
  · rw [hA, if_neg (by omega), if_neg (by omega)]
  · simp [rr_up_at, hA, g1]
  · simp [hA, h1]
/-- a byte is offered -/
theorem rg_offC {x : Int32} (hc : c < 4) (H : rg_Rel nd X R A t B) (hC : rg_C X A c B a b p u v f s k st e ik is ti tr) (h1 : A 35 c = 1) (hk : k < 8) : rg_Rel nd (rr_up (rr_up X (135 + 5 * c + 2) ((st + k) % 8) x) (135 + 5 * c + 1) 3 (nI k + 1)) R (rr_offA A c k x) t B := by
  obtain ⟨f0, f1, f2, f3, f4, f5, f6, f7⟩ := hC
  have g1 := (H.2.2.2.2.2 c hc).2.1
  unfold rr_offA
  refine rg_linkC (a := a) (b := b) (p := p) (u := u) (v := v) (f := f) (s := s) (k := k + 1) (st := st) (e := e) (ik := ik) (is := is) (ti := ti) (tr := tr) hc H (Nat.le_refl _) (fun q j hq => ?_) (fun j i hj => ?_) ?_ (Or.inl ?_) ⟨⟨f0.1, f0.2.1, f0.2.2.1, f0.2.2.2.1, f0.2.2.2.2.1, f0.2.2.2.2.2.1, by omega, by omega, by omega, by omega, by omega, by omega, by omega, by omega, by omega, by omega⟩, ?_, ?_, ?_, ?_, ⟨?_, ?_, ?_, fun i hi => ?_⟩, ⟨?_, ?_, ?_, fun i hi => ?_⟩, ?_⟩
  · rw [rr_up_at, if_neg (by omega), rr_up_at, if_neg (by omega)]
  · rw [rr_up_at, if_neg (by omega), rr_up_at, if_neg (by omega)]
  · simp [rr_up_at, g1]
  · simp [rr_up_at, h1]
  · simp [rr_up_at, f1]
  · simp [rr_up_at, f2]
  · simp [rr_up_at, f3]
  · simp [rr_up_at, f4.1, f4.2.1, f4.2.2.1, f4.2.2.2.1, f4.2.2.2.2.1, f4.2.2.2.2.2]
  · simp [rr_up_at, nI_1]
  · simp [rr_up_at, nI_1]
  · simp [rr_up_at, f5.2.2.1]
  · by_cases e : i = k
    · subst e
      simp [rr_up_at]
    · have h2 : ¬ (st + i) % 8 = (st + k) % 8 := by omega
      simp [rr_up_at, e, h2, f5.2.2.2 i (by omega)]
  · simp [rr_up_at, f6.1]
  · simp [rr_up_at, f6.2.1]
  · simp [rr_up_at, f6.2.2.1]
  · simp [rr_up_at, f6.2.2.2 i hi]
  · simp [rr_up_at]
    exact f7
/-- the frame of a byte -/
theorem rg_datF {G O : Nat} {X1 : Nat → Nat → Int32} {z : Int32} (hc : c < 4) (hC : rg_C X A c B a b p u v f s k st e ik is ti tr) (hO : A 41 c = nI O) (hO6 : O ≤ 1000000) (hf : f + s < 2 ^ 31) (hz : z = A 45 (8 * c + s)) :
    rg_F (rr_up (rr_up (rr_up (rr_up (rr_up (rk_bgX X1 G 3 (nI p) (nI a) (nI b)) G 4 (nI (u + 4 * v))) G 7 (nI c)) G 8 (nI O)) G 9 ((nI f + nI s) &&& 7)) G 10 z G) (fun j => rr_dmake A c s j 63) (A 41) (A 37) := by
  obtain ⟨f0, f1, f2, f3, f4, f5, f6, f7⟩ := hC
  obtain ⟨c1, c2, c3, c4, c5, c6⟩ := rg_bg_at (X := X1) (F := G) (k := 3) (p := nI p) (a := nI a) (b := nI b)
  obtain ⟨⟨m1, m2, m3, m4, m5, m6⟩, m7, m8, m9, m10, m11⟩ := rg_make_63 (A := A) (k := 2) (p := A 38 c) (a := A 36 c) (b := A 37 c) (w1 := A 39 c) (w2 := A 40 c)
  have z' : ∀ j, ¬ j = 17 → ¬ j = 18 → ¬ j = 19 → ¬ j = 20 → rr_dmake A c s j 63 = rr_make A 2 (A 38 c) (A 36 c) (A 37 c) (A 39 c) (A 40 c) j 63 := by
    intro j q1 q2 q3 q4
    rw [rr_dmake, rr_up_at, if_neg (by omega), rr_up_at, if_neg (by omega), rr_up_at, if_neg (by omega), rr_up_at, if_neg (by omega)]
  rw [nI_add, rg_and7]
  refine ⟨2, p, a, b, u, v, 0, 0, ⟨(z' 8 (by omega) (by omega) (by omega) (by omega)).trans m1, ?_, by omega⟩, ⟨(z' 9 (by omega) (by omega) (by omega) (by omega)).trans (m2.trans f1.2.2.2.2.1), ?_, f0.2.2.2.2.1⟩, ⟨(z' 10 (by omega) (by omega) (by omega) (by omega)).trans (m3.trans f1.1), ?_, f0.1, f0.2.1⟩, ⟨(z' 11 (by omega) (by omega) (by omega) (by omega)).trans (m4.trans f1.2.2.1), ?_, f0.2.2.1, f0.2.2.2.1⟩, ⟨(z' 12 (by omega) (by omega) (by omega) (by omega)).trans (m5.trans f2.1), (z' 13 (by omega) (by omega) (by omega) (by omega)).trans (m6.trans f2.2.1), f0.2.2.2.2.2.1, ?_⟩, ⟨(z' 14 (by omega) (by omega) (by omega) (by omega)).trans (m7.trans rg_m1.symm), (z' 15 (by omega) (by omega) (by omega) (by omega)).trans (m8.trans rg_m1.symm), ⟨by omega, by omega, fun _ => rfl⟩, ?_⟩, fun h => absurd h (by omega), fun _ => ⟨c, O, O, (f + s) % 8, hc, ?_, ?_, ?_, ?_, hO, Nat.le_refl _, hO6, ?_, ?_, by omega, fun _ => ⟨?_, fun _ => (z' 11 (by omega) (by omega) (by omega) (by omega)).trans m4⟩⟩⟩
  · rw [rk_ne2 (by decide), rk_ne2 (by decide), rk_ne2 (by decide), rk_ne2 (by decide), rk_ne2 (by decide), c1]; rfl
  · rw [rk_ne2 (by decide), rk_ne2 (by decide), rk_ne2 (by decide), rk_ne2 (by decide), rk_ne2 (by decide), c2]
  · rw [rk_ne2 (by decide), rk_ne2 (by decide), rk_ne2 (by decide), rk_ne2 (by decide), rk_ne2 (by decide), c3]
  · rw [rk_ne2 (by decide), rk_ne2 (by decide), rk_ne2 (by decide), rk_ne2 (by decide), rk_ne2 (by decide), c4]
  · rw [rk_ne2 (by decide), rk_ne2 (by decide), rk_ne2 (by decide), rk_ne2 (by decide), rr_up_same]
  · rw [rk_ne2 (by decide), rk_ne2 (by decide), rk_ne2 (by decide), rk_ne2 (by decide), rk_ne2 (by decide), c6]; rfl
  · show rr_dmake A c s 17 63 = _
    rw [rr_dmake, rr_up_at, if_neg (by omega), rr_up_at, if_neg (by omega), rr_up_at, if_neg (by omega), rr_up_same]
  · rw [rk_ne2 (by decide), rk_ne2 (by decide), rk_ne2 (by decide), rr_up_same]
  · show rr_dmake A c s 18 63 = _
    rw [rr_dmake, rr_up_at, if_neg (by omega), rr_up_at, if_neg (by omega), rr_up_same, hO]
  · rw [rk_ne2 (by decide), rk_ne2 (by decide), rr_up_same]
  · show rr_dmake A c s 19 63 = _
    rw [rr_dmake, rr_up_at, if_neg (by omega), rr_up_same, f3.1, f3.2.2.1, nI_add, rg_rem8 hf]
  · rw [rk_ne2 (by decide), rr_up_same]
  · show _ = rr_dmake A c s 20 63
    rw [rr_dmake, rr_up_same, rr_up_same, hz]
end RGX
