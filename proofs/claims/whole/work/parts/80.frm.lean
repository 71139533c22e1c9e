/-! the frames that are made: reply, answer, data, and those that a port carries on -/
section RGO
variable {X A : Nat → Nat → Int32} {op to : Nat → Int32}
theorem rg_neg3 : ∀ t, t < 4 → ((nI t - 1 < 0) ↔ t = 0) := by decide +kernel
theorem rg_nn3 : ∀ t, t < 4 → (0 ≤ nI t - 1 ↔ ¬ t = 0) := by decide +kernel
/-- the asked frame, at row F and column f, is answered -/
theorem rg_repF {F f G : Nat} {X1 A1 : Nat → Nat → Int32} {n : Nat} (hn : n < 9) (hf : rg_F (X F) (fun j => A j f) op to) (hX : ∀ j, X1 F j = X F j) (hA : ∀ j, 8 ≤ j → j ≤ 20 → A1 j f = A j f) (hf63 : ¬ f = 63) : rg_F (rr_up (rr_up (rk_bgX X1 G 2 2 (nI (n + 1)) (X1 F 2)) G 5 (X1 F 5)) G 4 (rk_bk (X1 F 5)) G) (fun j => (if A1 15 f < 0 then rr_reply0 A1 f (nI (n + 1)) (A1 14 f) (-1) else rr_reply0 A1 f (nI (n + 1)) (A1 15 f) (A1 14 f)) j 63) op to := by
  obtain ⟨k, p, a, b, u, v, s, t, f1, f2, f3, f4, f5, f6, f7, f8⟩ := hf
  have y14 : A1 14 f = nI s - 1 := (hA 14 (by omega) (by omega)).trans f6.1
  have y15 : A1 15 f = nI t - 1 := (hA 15 (by omega) (by omega)).trans f6.2.1
  have y10 : A1 10 f = nI a := (hA 10 (by omega) (by omega)).trans f3.1
  have x5 : X1 F 5 = nI (s + 4 * t) := (hX 5).trans f6.2.2.2
  have x2 : X1 F 2 = nI a := (hX 2).trans f3.2.1
  have hp := f6.2.2.1
  have ht3 : t < 4 := by have := hp.2.1; omega
  rw [x5, x2, rk_bk_ok hp]
  obtain ⟨c1, c2, c3, c4, c5, c6⟩ := rg_bg_at (X := X1) (F := G) (k := 2) (p := 2) (a := nI (n + 1)) (b := nI a)
  have main : ∀ one two : Int32, ∀ u' v' : Nat, one = nI u' - 1 → two = nI v' - 1 → rk_pth u' v' → rg_F (rr_up (rr_up (rk_bgX X1 G 2 2 (nI (n + 1)) (nI a)) G 5 (nI (s + 4 * t))) G 4 (nI (u' + 4 * v')) G) (fun j => rr_reply0 A1 f (nI (n + 1)) one two j 63) op to := by
    intro one two u' v' h1 h2 h3
    obtain ⟨⟨m1, m2, m3, m4, m5, m6⟩, m7, m8, m9, m10, m11⟩ := rg_make_63 (A := A1) (k := 1) (p := 2) (a := nI (n + 1)) (b := A1 10 f) (w1 := one) (w2 := two)
    have k14 : rr_make A1 1 2 (nI (n + 1)) (A1 10 f) one two 14 f = nI s - 1 := (rg_make_at (fun h => hf63 h.2.2)).trans y14
    have k15 : rr_make A1 1 2 (nI (n + 1)) (A1 10 f) one two 15 f = nI t - 1 := (rg_make_at (fun h => hf63 h.2.2)).trans y15
    refine ⟨1, 2, n + 1, a, u', v', s, t, ?_, ?_, ?_, ?_, ?_, ?_, fun h => absurd h (by omega), fun h => absurd h (by omega)⟩
    · refine ⟨?_, ?_, by omega⟩
      · show rr_reply0 A1 f (nI (n + 1)) one two 8 63 = _
        rw [rr_reply0, rr_up_at, if_neg (by omega), rr_up_at, if_neg (by omega), m1]; rfl
      · rw [rk_ne2 (by decide), rk_ne2 (by decide), c1]; rfl
    · refine ⟨?_, ?_, by omega⟩
      · show rr_reply0 A1 f (nI (n + 1)) one two 9 63 = _
        rw [rr_reply0, rr_up_at, if_neg (by omega), rr_up_at, if_neg (by omega), m2]; rfl
      · rw [rk_ne2 (by decide), rk_ne2 (by decide), c2]; rfl
    · refine ⟨?_, ?_, by omega, by omega⟩
      · show rr_reply0 A1 f (nI (n + 1)) one two 10 63 = _
        rw [rr_reply0, rr_up_at, if_neg (by omega), rr_up_at, if_neg (by omega), m3]
      · rw [rk_ne2 (by decide), rk_ne2 (by decide), c3]
    · refine ⟨?_, ?_, f3.2.2.1, f3.2.2.2⟩
      · show rr_reply0 A1 f (nI (n + 1)) one two 11 63 = _
        rw [rr_reply0, rr_up_at, if_neg (by omega), rr_up_at, if_neg (by omega), m4, y10]
      · rw [rk_ne2 (by decide), rk_ne2 (by decide), c4]
    · refine ⟨?_, ?_, h3, ?_⟩
      · show rr_reply0 A1 f (nI (n + 1)) one two 12 63 = _
        rw [rr_reply0, rr_up_at, if_neg (by omega), rr_up_at, if_neg (by omega), m5, h1]
      · show rr_reply0 A1 f (nI (n + 1)) one two 13 63 = _
        rw [rr_reply0, rr_up_at, if_neg (by omega), rr_up_at, if_neg (by omega), m6, h2]
      · rw [rr_up_same]
    · refine ⟨?_, ?_, hp, ?_⟩
      · show rr_reply0 A1 f (nI (n + 1)) one two 14 63 = _
        rw [rr_reply0, rr_up_at, if_neg (by omega), rr_up_at, if_pos ⟨rfl, rfl⟩, k14]
      · show rr_reply0 A1 f (nI (n + 1)) one two 15 63 = _
        rw [rr_reply0, rr_up_at, if_pos ⟨rfl, rfl⟩, k15]
      · rw [rk_ne2 (by decide), rr_up_same]
  by_cases ht : t = 0
  · rw [if_pos ht]
    have hc : A1 15 f < 0 := by rw [y15]; exact (rg_neg3 t ht3).mpr ht
    have := main (A1 14 f) (-1) s 0 y14 rg_m1.symm ⟨hp.1, by omega, fun _ => rfl⟩
    simp only [if_pos hc]
    exact this
  · rw [if_neg ht]
    have hc : ¬ A1 15 f < 0 := by rw [y15]; exact fun h => ht ((rg_neg3 t ht3).mp h)
    have := main (A1 15 f) (A1 14 f) t s y15 y14 ⟨hp.2.1, hp.1, fun h => absurd h ht⟩
    simp only [if_neg hc]
    exact this
/-- the answer of a receiver -/
theorem rg_ansF {G c kk O a b u v e : Nat} {X1 : Nat → Nat → Int32} (hc : c < 4) (hk : 3 ≤ kk) (hk5 : kk ≤ 5) (ha : 1 ≤ a) (ha9 : a ≤ 9) (hb : 1 ≤ b) (hb9 : b ≤ 9) (hp : rk_pth u v) (he : e < 2 ^ 31) (h36 : A 36 c = nI a) (h37 : A 37 c = nI b) (h39 : A 39 c = nI u - 1) (h40 : A 40 c = nI v - 1) (h41 : A 41 c = nI O) (hO : O ≤ 1000000) (h49 : A 49 c = nI e) (hop : op c = nI O) :
    rg_F (rr_up (rr_up (rr_up (rr_up (rk_bgX X1 G (nI (kk + 1)) 2 (nI b) (nI a)) G 4 (rk_bk (nI (u + 4 * v)))) G 7 (nI c)) G 8 (nI O)) G 9 (nI e &&& 7) G) (fun j => rr_ans0 A c (nI kk) (rr_one A c) (rr_two A c) j 63) op to := by
  have hv3 : v < 4 := by have := hp.2.1; omega
  obtain ⟨c1, c2, c3, c4, c5, c6⟩ := rg_bg_at (X := X1) (F := G) (k := nI (kk + 1)) (p := 2) (a := nI b) (b := nI a)
  rw [rk_bk_ok hp, rg_and7]
  have main : ∀ one two : Int32, ∀ u' v' : Nat, one = nI u' - 1 → two = nI v' - 1 → rk_pth u' v' → rg_F (rr_up (rr_up (rr_up (rr_up (rk_bgX X1 G (nI (kk + 1)) 2 (nI b) (nI a)) G 4 (nI (u' + 4 * v'))) G 7 (nI c)) G 8 (nI O)) G 9 (nI (e % 8)) G) (fun j => rr_ans0 A c (nI kk) one two j 63) op to := by
    intro one two u' v' h1 h2 h3
    obtain ⟨⟨m1, m2, m3, m4, m5, m6⟩, m7, m8, m9, m10, m11⟩ := rg_make_63 (A := A) (k := nI kk) (p := 2) (a := A 37 c) (b := A 36 c) (w1 := one) (w2 := two)
    have z : ∀ j, ¬ j = 17 → ¬ j = 18 → ¬ j = 19 → rr_ans0 A c (nI kk) one two j 63 = rr_make A (nI kk) 2 (A 37 c) (A 36 c) one two j 63 := by
      intro j q1 q2 q3
      rw [rr_ans0, rr_up_at, if_neg (by omega), rr_up_at, if_neg (by omega), rr_up_at, if_neg (by omega)]
    refine ⟨kk, 2, b, a, u', v', 0, 0, ⟨(z 8 (by omega) (by omega) (by omega)).trans m1, ?_, hk5⟩, ⟨(z 9 (by omega) (by omega) (by omega)).trans m2, ?_, by omega⟩, ⟨(z 10 (by omega) (by omega) (by omega)).trans (m3.trans h37), ?_, hb, hb9⟩, ⟨(z 11 (by omega) (by omega) (by omega)).trans (m4.trans h36), ?_, ha, ha9⟩, ⟨(z 12 (by omega) (by omega) (by omega)).trans (m5.trans h1), (z 13 (by omega) (by omega) (by omega)).trans (m6.trans h2), h3, ?_⟩, ⟨(z 14 (by omega) (by omega) (by omega)).trans (m7.trans rg_m1.symm), (z 15 (by omega) (by omega) (by omega)).trans (m8.trans rg_m1.symm), ⟨by omega, by omega, fun _ => rfl⟩, ?_⟩, fun h => absurd h (by omega), fun _ => ⟨c, O, O, e % 8, hc, ?_, ?_, ?_, ?_, hop, Nat.le_refl _, hO, ?_, ?_, by omega, fun h => absurd h (by omega)⟩⟩
    · rw [rk_ne2 (by decide), rk_ne2 (by decide), rk_ne2 (by decide), rk_ne2 (by decide), c1]
    · rw [rk_ne2 (by decide), rk_ne2 (by decide), rk_ne2 (by decide), rk_ne2 (by decide), c2]; rfl
    · rw [rk_ne2 (by decide), rk_ne2 (by decide), rk_ne2 (by decide), rk_ne2 (by decide), c3]
    · rw [rk_ne2 (by decide), rk_ne2 (by decide), rk_ne2 (by decide), rk_ne2 (by decide), c4]
    · rw [rk_ne2 (by decide), rk_ne2 (by decide), rk_ne2 (by decide), rr_up_same]
    · rw [rk_ne2 (by decide), rk_ne2 (by decide), rk_ne2 (by decide), rk_ne2 (by decide), c6]; rfl
    · show rr_ans0 A c (nI kk) one two 17 63 = _
      rw [rr_ans0, rr_up_at, if_neg (by omega), rr_up_at, if_neg (by omega), rr_up_same]
    · rw [rk_ne2 (by decide), rk_ne2 (by decide), rr_up_same]
    · show rr_ans0 A c (nI kk) one two 18 63 = _
      rw [rr_ans0, rr_up_at, if_neg (by omega), rr_up_same, h41]
    · rw [rk_ne2 (by decide), rr_up_same]
    · show rr_ans0 A c (nI kk) one two 19 63 = _
      rw [rr_ans0, rr_up_same, h49, rg_rem8 he]
    · rw [rr_up_same]
  unfold rr_one rr_two
  rw [h39, h40]
  by_cases hv : v = 0
  · rw [if_pos hv]
    have hc' : nI v - 1 < 0 := (rg_neg3 v hv3).mpr hv
    rw [if_pos hc', if_pos hc']
    exact main _ _ u 0 rfl rg_m1.symm ⟨hp.1, by omega, fun _ => rfl⟩
  · rw [if_neg hv]
    have hc' : ¬ nI v - 1 < 0 := fun h => hv ((rg_neg3 v hv3).mp h)
    rw [if_neg hc', if_neg hc']
    exact main _ _ v u rfl rfl ⟨hp.2.1, hp.1, fun h => absurd h hv⟩
/-- the frame at row F and column f is copied and loses the first of its route -/
theorem rg_carF {F r G : Nat} {X1 : Nat → Nat → Int32} (hr : r < 3) (hf : rg_F (X F) (fun j => A j (60 + r)) op to) (hk : ¬ A 8 (60 + r) = 0) (hFG : ¬ F = G) (hX : ∀ j, X1 F j = X F j) : rg_F (rr_up (rk_cp X1 F G) G 4 (X1 F 4 >>> (2 &&& 31)) G) (fun j => rr_carry A r j 63) op to := by
  obtain ⟨k, p, a, b, u, v, s, t, f1, f2, f3, f4, f5, f6, f7, f8⟩ := hf
  have hk0 : ¬ k = 0 := fun h => hk (f1.1.trans (by rw [h]; rfl))
  have z : ∀ j, 8 ≤ j → j ≤ 20 → ¬ j = 12 → ¬ j = 13 → rr_carry A r j 63 = A j (60 + r) := by
    intro j h1 h2 h3 h4
    rw [rr_carry, rr_up_at, if_neg (by omega), rr_up_at, if_neg (by omega), rg_copy_at, if_pos ⟨⟨h1, h2⟩, rfl⟩]
  have x : ∀ j, j ≤ 10 → ¬ j = 4 → rr_up (rk_cp X1 F G) G 4 (X1 F 4 >>> (2 &&& 31)) G j = X F j := by
    intro j h1 h2
    rw [rk_ne2 h2, rg_cp_at, if_pos ⟨rfl, h1⟩, hX]
  refine ⟨k, p, a, b, v, 0, s, t, ⟨(z 8 (by omega) (by omega) (by omega) (by omega)).trans f1.1, (x 0 (by omega) (by omega)).trans f1.2.1, f1.2.2⟩, ⟨(z 9 (by omega) (by omega) (by omega) (by omega)).trans f2.1, (x 1 (by omega) (by omega)).trans f2.2.1, f2.2.2⟩, ⟨(z 10 (by omega) (by omega) (by omega) (by omega)).trans f3.1, (x 2 (by omega) (by omega)).trans f3.2.1, f3.2.2⟩, ⟨(z 11 (by omega) (by omega) (by omega) (by omega)).trans f4.1, (x 3 (by omega) (by omega)).trans f4.2.1, f4.2.2⟩, ⟨?_, ?_, ⟨f5.2.2.1.2.1, by omega, fun _ => rfl⟩, ?_⟩, ⟨(z 14 (by omega) (by omega) (by omega) (by omega)).trans f6.1, (z 15 (by omega) (by omega) (by omega) (by omega)).trans f6.2.1, f6.2.2.1, (x 5 (by omega) (by omega)).trans f6.2.2.2⟩, fun h => absurd h hk0, fun h => ?_⟩
  · show rr_carry A r 12 63 = _
    rw [rr_carry, rr_up_at, if_neg (by omega), rr_up_same, rg_copy_at, if_neg (by omega)]
    exact f5.2.1
  · show rr_carry A r 13 63 = _
    rw [rr_carry, rr_up_same, rg_m1]
  · rw [rr_up_same, hX, f5.2.2.2, rk_wo_ok f5.2.2.1]; rfl
  · obtain ⟨c, o, O, q, d1, d2, d3, d4, d5, d6, d7, d8, d9, d10, d11, d12⟩ := f8 h
    refine ⟨c, o, O, q, d1, (z 17 (by omega) (by omega) (by omega) (by omega)).trans d2, (x 7 (by omega) (by omega)).trans d3, (z 18 (by omega) (by omega) (by omega) (by omega)).trans d4, (x 8 (by omega) (by omega)).trans d5, d6, d7, d8, (z 19 (by omega) (by omega) (by omega) (by omega)).trans d9, (x 9 (by omega) (by omega)).trans d10, d11, fun h2 => ?_⟩
    obtain ⟨w1, w2⟩ := d12 h2
    exact ⟨(x 10 (by omega) (by omega)).trans (w1.trans (z 20 (by omega) (by omega) (by omega) (by omega)).symm), fun h3 => (z 11 (by omega) (by omega) (by omega) (by omega)).trans (w2 h3)⟩
/-- an exploring frame is copied and gets one bridge more -/
theorem rg_sprF {F r G o r2 kp g s : Nat} {X1 : Nat → Nat → Int32} (hr : r < 3) (hr2 : r2 < 3) (hkp : kp < 3) (hf : rg_F (X F) (fun j => A j (60 + r)) op to) (hk : A 8 (60 + r) = 0) (hFG : ¬ F = G) (hX : ∀ j, X1 F j = X F j) (ho : A 3 o = nI r2) (hg : g < 8) (hgA : A 16 (60 + r) = nI g) (hs : s ≤ 3) (hs14 : A 14 (60 + r) = nI s - 1) (hs15 : A 15 (60 + r) = -1) : rg_F (rr_up (rr_up (rk_cp X1 F G) G 5 (rk_wl (nI s) (nI (10 + kp)))) G 6 (nI g ||| ((1 : Int32) <<< (nI r2 &&& 31))) G) (fun j => rr_spread A r o (nI kp) j 63) op to := by
  obtain ⟨k, p, a, b, u, v, s', t, f1, f2, f3, f4, f5, f6, f7, f8⟩ := hf
  have hk0 : k = 0 := by
    have := f1.1.symm.trans hk
    exact (nI_eq (a := k) (b := 0) (by omega) (by omega)).mp this
  subst hk0
  have hu := (f7 rfl).1
  have s1 : ∀ j i, rr_spread1 A r (nI kp) j i = if s = 0 then (if j = 14 ∧ i = 63 then nI kp else rr_copy A (60 + r) 63 j i) else (if j = 15 ∧ i = 63 then nI kp else rr_copy A (60 + r) 63 j i) := by
    intro j i
    unfold rr_spread1
    have e : rr_copy A (60 + r) 63 14 (60 + r) = nI s - 1 := by rw [rg_copy_at, if_neg (by omega), hs14]
    rw [e]
    by_cases h0 : s = 0
    · rw [if_pos h0, if_neg (fun h => (rg_nn3 s (by omega)).mp h h0), rr_up_at]
    · rw [if_neg h0, if_pos ((rg_nn3 s (by omega)).mpr h0), rr_up_at]
  have z : ∀ j, 8 ≤ j → j ≤ 20 → ¬ j = 14 → ¬ j = 15 → ¬ j = 16 → rr_spread A r o (nI kp) j 63 = A j (60 + r) := by
    intro j h1 h2 h3 h4 h5
    rw [rr_spread, rr_up_at, if_neg (by omega), s1]
    have e : rr_copy A (60 + r) 63 j 63 = A j (60 + r) := by rw [rg_copy_at, if_pos ⟨⟨h1, h2⟩, rfl⟩]
    split
    · rw [if_neg (by omega), e]
    · rw [if_neg (by omega), e]
  have x : ∀ j, j ≤ 10 → ¬ j = 5 → ¬ j = 6 → rr_up (rr_up (rk_cp X1 F G) G 5 (rk_wl (nI s) (nI (10 + kp)))) G 6 (nI g ||| ((1 : Int32) <<< (nI r2 &&& 31))) G j = X F j := by
    intro j h1 h2 h3
    rw [rk_ne2 h3, rk_ne2 h2, rg_cp_at, if_pos ⟨rfl, h1⟩, hX]
  have hwl : ∀ s, s < 4 → ∀ kp, kp < 3 → rk_wl (nI s) (nI (10 + kp)) = nI ((if s = 0 then kp + 1 else s) + 4 * (if s = 0 then 0 else kp + 1)) := by decide +kernel
  have hor : ∀ g, g < 8 → ∀ r2, r2 < 3 → ∃ g', g' < 8 ∧ (nI g ||| ((1 : Int32) <<< (nI r2 &&& 31))) = nI g' := by decide +kernel
  obtain ⟨g', hg', hge⟩ := hor g hg r2 hr2
  refine ⟨0, p, a, b, u, v, if s = 0 then kp + 1 else s, if s = 0 then 0 else kp + 1, ⟨(z 8 (by omega) (by omega) (by omega) (by omega) (by omega)).trans f1.1, (x 0 (by omega) (by omega) (by omega)).trans f1.2.1, f1.2.2⟩, ⟨(z 9 (by omega) (by omega) (by omega) (by omega) (by omega)).trans f2.1, (x 1 (by omega) (by omega) (by omega)).trans f2.2.1, f2.2.2⟩, ⟨(z 10 (by omega) (by omega) (by omega) (by omega) (by omega)).trans f3.1, (x 2 (by omega) (by omega) (by omega)).trans f3.2.1, f3.2.2⟩, ⟨(z 11 (by omega) (by omega) (by omega) (by omega) (by omega)).trans f4.1, (x 3 (by omega) (by omega) (by omega)).trans f4.2.1, f4.2.2⟩, ⟨(z 12 (by omega) (by omega) (by omega) (by omega) (by omega)).trans f5.1, (z 13 (by omega) (by omega) (by omega) (by omega) (by omega)).trans f5.2.1, f5.2.2.1, (x 4 (by omega) (by omega) (by omega)).trans f5.2.2.2⟩, ⟨?_, ?_, ?_, ?_⟩, fun _ => ⟨hu, g', hg', ?_, ?_⟩, fun h => absurd h (by omega)⟩
  · show rr_spread A r o (nI kp) 14 63 = _
    rw [rr_spread, rr_up_at, if_neg (by omega), s1]
    by_cases h0 : s = 0
    · rw [if_pos h0, if_pos ⟨rfl, rfl⟩, if_pos h0, nI_pred]
    · rw [if_neg h0, if_neg (by omega), if_neg h0, rg_copy_at, if_pos ⟨by omega, rfl⟩, hs14]
  · show rr_spread A r o (nI kp) 15 63 = _
    rw [rr_spread, rr_up_at, if_neg (by omega), s1]
    by_cases h0 : s = 0
    · rw [if_pos h0, if_neg (by omega), if_pos h0, rg_copy_at, if_pos ⟨by omega, rfl⟩, hs15, rg_m1]
    · rw [if_neg h0, if_pos ⟨rfl, rfl⟩, if_neg h0, nI_pred]
  · by_cases h0 : s = 0
    · rw [if_pos h0, if_pos h0]
      exact ⟨by omega, by omega, fun h => by omega⟩
    · rw [if_neg h0, if_neg h0]
      exact ⟨by omega, by omega, fun h => absurd h h0⟩
  · rw [rk_ne2 (by decide), rr_up_same]
    exact hwl s (by omega) kp hkp
  · show rr_spread A r o (nI kp) 16 63 = _
    have e16 : rr_spread1 A r (nI kp) 16 (60 + r) = nI g := by
      rw [s1]
      have e : rr_copy A (60 + r) 63 16 (60 + r) = nI g := by rw [rg_copy_at, if_neg (by omega), hgA]
      split
      · rw [if_neg (by omega), e]
      · rw [if_neg (by omega), e]
    have e3 : rr_spread1 A r (nI kp) 3 o = nI r2 := by
      rw [s1]
      have e : rr_copy A (60 + r) 63 3 o = nI r2 := by rw [rg_copy_at, if_neg (by omega), ho]
      split
      · rw [if_neg (by omega), e]
      · rw [if_neg (by omega), e]
    rw [rr_spread, rr_up_same, e16, e3]
    exact hge
  · rw [rr_up_same, hge]
end RGO
