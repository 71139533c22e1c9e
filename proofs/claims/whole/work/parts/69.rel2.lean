/-! routes; a node comes -/
section RGD
variable {nd : Nat → Nat → Nat} {X X' A A' : Nat → Nat → Int32} {R : Nat → Nat → Option Nat} {t : Int32} {B : Nat}
theorem rg_routes (H : rg_Rel nd X R A t B) (hX : ∀ q j, ¬ (157 ≤ q ∧ q ≤ 165) → X' q j = X q j) (hA : ∀ j i, ¬ (32 ≤ j ∧ j ≤ 34) → A' j i = A j i) (hT : ∀ a b, a < 9 → b < 9 → rg_T X' A' a b) : rg_Rel nd X' R A' t B := by
  obtain ⟨⟨hW, hT0⟩, hM, hRi, hNo, hRo, hLi⟩ := H
  have fe : ∀ j, j ≤ 7 → A' j = A j := fun j h1 => funext fun i => hA j i (by omega)
  refine ⟨⟨hW, ?_⟩, rg_M_congr (fun j i hj => hA j i (by omega)) hM, ?_, ?_, hT, ?_⟩
  · rw [hX 0 3 (by omega)]; exact hT0
  · intro r' hr'
    obtain ⟨m, a, y, k, p', v, h9⟩ := hRi r' hr'
    exact ⟨m, a, y, k, p', v, rg_R_congr (fun q j hq => hX q j (by omega)) (hA _ _ (by omega)) (fun j _ _ => hA _ _ (by omega)) (fun i _ => hA _ _ (by omega)) (fun j _ _ => hA _ _ (by omega)) ⟨fun n => by unfold rg_on; rw [fe 2 (by omega), fe 3 (by omega)], fun n' h7 => ⟨hA _ _ (by omega), hA _ _ (by omega), fun i _ => ⟨hA _ _ (by omega), hA _ _ (by omega)⟩⟩⟩ (fun c _ => hA _ _ (by omega)) (fun c _ => hA _ _ (by omega)) h9⟩
  · intro n' hn' h2'
    rw [fe 2 (by omega)] at h2'
    obtain ⟨r', p', w, h, q, h9⟩ := hNo n' hn' h2'
    have hr9 := h9.1.1
    have hp9 := h9.1.2.1
    have hnd' := (hW.2 r' hr9 p' hp9).2.1
    refine ⟨r', p', w, h, q, rg_N_congr rfl (fun i j hi => hX _ j ?_) (hA _ _ (by omega)) (hA _ _ (by omega)) (hA _ _ (by omega)) (hA _ _ (by omega)) (fun i _ => ⟨hA _ _ (by omega), hA _ _ (by omega)⟩) (fun j i _ _ _ => hA _ _ (by omega)) (fun c _ => hA _ _ (by omega)) (fun c _ => hA _ _ (by omega)) h9⟩
    unfold rg_o
    omega
  · intro c' hc'
    refine rg_L_congr (Nat.le_refl _) (fun i j _ => hX _ _ (by omega)) (fun j _ _ _ _ => hA _ _ (by omega)) (fun i _ => hA _ _ (by omega)) (fun i _ => hA _ _ (by omega)) (fun n _ _ h9 => ?_) (hLi c' hc')
    rw [fe 2 (by omega)]
    exact h9
/-- the relation but for the ports -/
def rg_Rel1 (nd : Nat → Nat → Nat) (X : Nat → Nat → Int32) (R : Nat → Nat → Option Nat) (A : Nat → Nat → Int32) (t : Int32) (B : Nat) : Prop :=
  (rg_W nd R ∧ X 0 3 = t) ∧ ((∀ r, r < 3 → ∃ m, m ≤ 5 ∧ A 1 r = nI m ∧ (∀ p, p < m → ∃ n, n < 15 ∧ ¬ A 2 n = 0 ∧ A 3 n = nI r ∧ A 0 n = nI p) ∧ ∀ n, n < 15 → ¬ A 2 n = 0 → A 3 n = nI r → ∃ p, p < m ∧ A 0 n = nI p)
  ∧ (∀ n n', n < 15 → n' < 15 → ¬ A 2 n = 0 → ¬ A 2 n' = 0 → A 3 n = A 3 n' → A 0 n = A 0 n' → n = n')) ∧ (∀ r, r < 3 → ∃ m a y k p v, rg_R X A r m a y k p v) ∧ (∀ n, n < 15 → ¬ A 2 n = 0 → ∃ r p w h q, rg_N nd X A n r p w h q)
  ∧ (∀ a b, a < 9 → b < 9 → rg_T X A a b) ∧ ∀ c, c < 4 → rg_L X A c B
def rg_ports (A : Nat → Nat → Int32) : Prop := ∀ k, k < 3 → (A 2 (9 + 2 * k) = 0 ↔ A 2 (10 + 2 * k) = 0) ∧ (¬ A 2 (9 + 2 * k) = 0 → ¬ A 3 (9 + 2 * k) = A 3 (10 + 2 * k))
theorem rg_to1 (H : rg_Rel nd X R A t B) : rg_Rel1 nd X R A t B := ⟨H.1, ⟨H.2.1.1, H.2.1.2.1⟩, H.2.2⟩
theorem rg_of1 (H : rg_Rel1 nd X R A t B) (hp : rg_ports A) : rg_Rel nd X R A t B := ⟨H.1, ⟨H.2.1.1, H.2.1.2, hp⟩, H.2.2⟩
theorem rg_come_at (A : Nat → Nat → Int32) (n r j i : Nat) : rr_come A n r j i = if j = 5 ∧ i = n then 0 else if j = 4 ∧ i = n then 0 else if j = 1 ∧ i = r then A 1 r + 1 else if j = 0 ∧ i = n then A 1 r else if j = 3 ∧ i = n then nI r else if j = 2 ∧ i = n then 1 else A j i := by
  unfold rr_come
  simp only [rr_up_at]
theorem rg_come {n r m : Nat} {x : Int32} (hn : n < 15) (hr : r < 3) (H : rg_Rel1 nd X R A t B) (h2 : A 2 n = 0) (hm : A 1 r = nI m) (hm5 : m < 5) (hx : x = rr_addr (nI n)) : rg_Rel1 nd (rr_up (rk_nbX X (rg_o nd r m) x) (2 + 44 * r) 3 (nI (m + 1))) R (rr_come A n r) t B := by
  obtain ⟨⟨hW, hT⟩, ⟨hM1, hM2⟩, hRi, hNo, hRo, hLi⟩ := H
  have hnd := (hW.2 r hr m hm5).2.1
  have ho : rg_o nd r m = 4 + 44 * r + 8 * nd r m := rfl
  have one : ¬ (1 : Int32) = 0 := by decide
  have hX : ∀ q j, ¬ (q = 2 + 44 * r ∧ j = 3) → ¬ q = rg_o nd r m → rr_up (rk_nbX X (rg_o nd r m) x) (2 + 44 * r) 3 (nI (m + 1)) q j = X q j := by
    intro q j h5 h6
    rw [rr_up_at, if_neg h5, rk_nbX, rk_ne h6, rk_ne h6, rk_ne h6, rk_ne h6]
  have hXr : rr_up (rk_nbX X (rg_o nd r m) x) (2 + 44 * r) 3 (nI (m + 1)) (2 + 44 * r) 3 = nI (m + 1) := rr_up_same _ _ _ _
  have hXn : ∀ j, rr_up (rk_nbX X (rg_o nd r m) x) (2 + 44 * r) 3 (nI (m + 1)) (rg_o nd r m) j = rk_nbX X (rg_o nd r m) x (rg_o nd r m) j := fun j => rk_ne (by omega)
  generalize hXg : rr_up (rk_nbX X (rg_o nd r m) x) (2 + 44 * r) 3 (nI (m + 1)) = X' at hX hXr hXn ⊢
  have c0 : ∀ i, rr_come A n r 0 i = if i = n then nI m else A 0 i := by intro i; rw [rg_come_at, hm]; simp
  have c1 : ∀ i, rr_come A n r 1 i = if i = r then nI (m + 1) else A 1 i := by intro i; rw [rg_come_at, hm, nI_1]; simp
  have c2 : ∀ i, rr_come A n r 2 i = if i = n then 1 else A 2 i := by intro i; rw [rg_come_at]; simp
  have c3 : ∀ i, rr_come A n r 3 i = if i = n then nI r else A 3 i := by intro i; rw [rg_come_at]; simp
  have c4 : ∀ i, rr_come A n r 4 i = if i = n then 0 else A 4 i := by intro i; rw [rg_come_at]; simp
  have c5 : ∀ i, rr_come A n r 5 i = if i = n then 0 else A 5 i := by intro i; rw [rg_come_at]; simp
  have cj : ∀ j i, 6 ≤ j → rr_come A n r j i = A j i := by
    intro j i hj
    rw [rg_come_at, if_neg (by omega), if_neg (by omega), if_neg (by omega), if_neg (by omega), if_neg (by omega), if_neg (by omega)]
  generalize hAg : rr_come A n r = A' at c0 c1 c2 c3 c4 c5 cj ⊢
  have hne : ∀ i, ¬ A 2 i = 0 → ¬ i = n := by
    rintro i h5 rfl
    exact h5 h2
  have on' : ∀ r' i, rg_on A' r' i ↔ (rg_on A r' i ∨ (i = n ∧ r' = r ∨ i = n ∧ nI r' = nI r)) := by
    intro r' i
    unfold rg_on
    rw [c2, c3]
    by_cases e : i = n
    · subst e
      rw [if_pos rfl, if_pos rfl]
      constructor
      · rintro ⟨_, _, h7⟩
        exact Or.inr (Or.inr ⟨rfl, h7.symm⟩)
      · rintro (⟨_, h7, _⟩ | ⟨_, h7⟩ | ⟨_, h7⟩)
        · exact absurd h2 h7
        · exact ⟨hn, one, by rw [h7]⟩
        · exact ⟨hn, one, h7.symm⟩
    · rw [if_neg e, if_neg e]
      constructor
      · exact Or.inl
      · rintro (h7 | ⟨h7, _⟩ | ⟨h7, _⟩)
        · exact h7
        · exact absurd h7 e
        · exact absurd h7 e
  have onr : ∀ r' i, r' < 3 → ¬ r' = r → (rg_on A' r' i ↔ rg_on A r' i) := by
    intro r' i h5 h6
    rw [on']
    constructor
    · rintro (h7 | ⟨_, h7⟩ | ⟨_, h7⟩)
      · exact h7
      · exact absurd h7 h6
      · exact absurd ((nI_eq (by omega) (by omega)).mp h7) h6
    · exact Or.inl
  refine ⟨⟨hW, ?_⟩, ⟨?_, ?_⟩, ?_, ?_, ?_, ?_⟩
  · rw [hX 0 3 (by omega) (by omega)]; exact hT
  · intro r' hr'
    obtain ⟨m', b1, b2, b3, b4⟩ := hM1 r' hr'
    by_cases e : r' = r
    · subst e
      have e : m' = m := (nI_eq (by omega) (by omega)).mp (b2.symm.trans hm)
      subst e
      refine ⟨m' + 1, by omega, by rw [c1, if_pos rfl], ?_, ?_⟩
      · intro p hp
        by_cases e : p = m'
        · subst e
          exact ⟨n, hn, by rw [c2, if_pos rfl]; exact one, by rw [c3, if_pos rfl], by rw [c0, if_pos rfl]⟩
        · obtain ⟨i, d1, d2, d3, d4⟩ := b3 p (by omega)
          have := hne i d2
          exact ⟨i, d1, by rw [c2, if_neg this]; exact d2, by rw [c3, if_neg this]; exact d3, by rw [c0, if_neg this]; exact d4⟩
      · intro i d1 d2 d3
        by_cases e : i = n
        · exact ⟨m', by omega, by rw [c0, if_pos e]⟩
        · rw [c2, if_neg e] at d2
          rw [c3, if_neg e] at d3
          obtain ⟨p, d4, d5⟩ := b4 i d1 d2 d3
          exact ⟨p, by omega, by rw [c0, if_neg e]; exact d5⟩
    · refine ⟨m', b1, by rw [c1, if_neg e]; exact b2, ?_, ?_⟩
      · intro p hp
        obtain ⟨i, d1, d2, d3, d4⟩ := b3 p hp
        have := hne i d2
        exact ⟨i, d1, by rw [c2, if_neg this]; exact d2, by rw [c3, if_neg this]; exact d3, by rw [c0, if_neg this]; exact d4⟩
      · intro i d1 d2 d3
        have h5 := (onr r' i hr' e).mp ⟨d1, d2, d3⟩
        have := hne i h5.2.1
        obtain ⟨p, d4, d5⟩ := b4 i d1 h5.2.1 h5.2.2
        exact ⟨p, d4, by rw [c0, if_neg this]; exact d5⟩
  · have key : ∀ i, i < 15 → ¬ i = n → ¬ A' 2 i = 0 → A' 3 n = A' 3 i → ¬ A' 0 n = A' 0 i := by
      intro i d1 e d2 d3 d4
      rw [c2, if_neg e] at d2
      rw [c3, c3, if_pos rfl, if_neg e] at d3
      rw [c0, c0, if_pos rfl, if_neg e] at d4
      obtain ⟨m', b1, b2, b3, b4⟩ := hM1 r hr
      have e2 : m' = m := (nI_eq (by omega) (by omega)).mp (b2.symm.trans hm)
      subst e2
      obtain ⟨p, d5, d6⟩ := b4 i d1 d2 d3.symm
      have := (nI_eq (by omega) (by omega)).mp (d4.trans d6)
      omega
    intro i i' d1 d2 d3 d4 d5 d6
    by_cases e : i = n
    · by_cases e' : i' = n
      · rw [e, e']
      · subst e
        exact absurd d6 (key i' d2 e' d4 d5)
    · by_cases e' : i' = n
      · subst e'
        exact absurd d6.symm (key i d1 e d3 d5.symm)
      · rw [c2, if_neg e] at d3
        rw [c2, if_neg e'] at d4
        rw [c3, c3, if_neg e, if_neg e'] at d5
        rw [c0, c0, if_neg e, if_neg e'] at d6
        exact hM2 i i' d1 d2 d3 d4 d5 d6
  · intro r' hr'
    obtain ⟨m', a, y, k, p, v, h9⟩ := hRi r' hr'
    by_cases e : r' = r
    · subst e
      have e : m' = m := (nI_eq (by have := h9.1.1; omega) (by omega)).mp (h9.2.1.1.symm.trans hm)
      subst e
      obtain ⟨g0, g1, g2, g3, g4, g5, g6, g7, g8, g9, g10⟩ := h9
      have pr' : ∀ i i' l u, rg_pr A' r' i i' l u → rg_pr A r' i i' l u := by
        rintro i i' l u ⟨f1, ⟨q, f2, f3, f4⟩, f5, f6⟩
        have e : ¬ i = n := by
          intro e
          rw [c5, if_pos e] at f2
          have := (nI_eq (a := 0) (b := q) (by omega) (by omega)).mp f2
          omega
        rw [c5, if_neg e] at f2
        rw [cj _ _ (by omega)] at f5 f6
        refine ⟨?_, ⟨q, f2, f3, f4⟩, f5, f6⟩
        rcases (on' r' i).mp f1 with h7 | ⟨h7, _⟩ | ⟨h7, _⟩
        · exact h7
        · exact absurd h7 e
        · exact absurd h7 e
      refine ⟨m' + 1, a, y, k, p, v, ?_, ?_, ?_, ?_, ?_, ?_, ?_, ?_, ?_, ?_, ?_⟩
      · exact ⟨by omega, by omega, g0.2.2.1, g0.2.2.2.1, fun _ => by omega, g0.2.2.2.2.2.1, g0.2.2.2.2.2.2⟩
      · rw [c1, if_pos rfl, cj 22 _ (by omega), cj 23 _ (by omega), cj 21 _ (by omega), cj 24 _ (by omega), cj 25 _ (by omega)]
        exact ⟨rfl, g1.2⟩
      · rw [hX _ 0 (by omega) (by omega), hX _ 4 (by omega) (by omega), hX _ 5 (by omega) (by omega), hX _ 6 (by omega) (by omega), hXr, cj 30 _ (by omega)]
        exact ⟨g2.1, rfl, g2.2.2⟩
      · rw [hX _ 7 (by omega) (by omega), hX _ 8 (by omega) (by omega), hX _ 9 (by omega) (by omega), cj 31 _ (by omega), cj 31 _ (by omega), cj 31 _ (by omega)]
        exact g3
      · rw [hX _ 1 (by omega) (by omega), hX _ 2 (by omega) (by omega), hX _ 3 (by omega) (by omega), hX _ 4 (by omega) (by omega), cj 29 _ (by omega)]
        exact g4
      · rw [hX _ 5 (by omega) (by omega), hX _ 6 (by omega) (by omega), hX _ 7 (by omega) (by omega), cj 26 _ (by omega), cj 27 _ (by omega), cj 28 _ (by omega)]
        exact g5
      · rw [cj 26 _ (by omega), cj 27 _ (by omega), cj 28 _ (by omega)]
        exact g6
      · rw [cj 30 _ (by omega)]
        rcases g7 with g7 | ⟨i, g7, g7'⟩
        · exact Or.inl g7
        · exact Or.inr ⟨i, (on' r' i).mpr (Or.inl g7), g7'⟩
      · intro hk
        exact rg_F_congr (g8 hk) (fun j _ => hX _ _ (by omega) (by omega)) (fun j h5 _ => cj _ _ (by omega)) (fun c _ => cj _ _ (by omega)) (fun c _ => cj _ _ (by omega))
      · intro hk
        obtain ⟨s1, s2, s3⟩ := g9 hk
        refine ⟨fun i i' q f1 f2 f3 f4 => ?_, fun i1 i2 i3 i4 l u l' u' f1 f2 f3 f4 f5 f6 => s2 i1 i2 i3 i4 l u l' u' f1 f2 f3 f4 (pr' _ _ _ _ f5) (pr' _ _ _ _ f6), fun i1 i3 i4 l u l' u' f1 f2 f3 f4 f7 f5 f6 => s3 i1 i3 i4 l u l' u' f1 f2 f3 f4 f7 (pr' _ _ _ _ f5) (pr' _ _ _ _ f6)⟩
        have e : ¬ i = n := by
          intro e
          rw [c5, if_pos e] at f2
          have := (nI_eq (a := 0) (b := q) (by omega) (by omega)).mp f2
          omega
        rw [c5, if_neg e] at f2
        rw [cj _ _ (by omega), cj _ _ (by omega)]
        refine s1 i i' q ?_ f2 f3 f4
        rcases (on' r' i).mp f1 with h7 | ⟨h7, _⟩ | ⟨h7, _⟩
        · exact h7
        · exact absurd h7 e
        · exact absurd h7 e
      · intro hk
        obtain ⟨q1, mn, pm, q2, q3, q4, q5, q6⟩ := g10 hk
        have emn := hne mn q2.2.1
        refine ⟨by rw [cj _ _ (by omega), cj _ _ (by omega)]; exact q1, mn, pm, (on' r' mn).mpr (Or.inl q2), by rw [cj _ _ (by omega)]; exact q3, by rw [c0, if_neg emn]; exact q4, q5, fun i p' f1 f2 f3 f4 => ?_⟩
        rw [c5]
        by_cases e : i = n
        · rw [if_pos e]
        · rw [if_neg e]
          rw [c0, if_neg e] at f2
          refine q6 i p' ?_ f2 f3 f4
          rcases (on' r' i).mp f1 with h7 | ⟨h7, _⟩ | ⟨h7, _⟩
          · exact h7
          · exact absurd h7 e
          · exact absurd h7 e
    · refine ⟨m', a, y, k, p, v, rg_R_congr (fun q j hq => hX q j (by omega) (by omega)) (by rw [c1, if_neg e]) (fun j _ _ => cj _ _ (by omega)) (fun i _ => cj _ _ (by omega)) (fun j _ _ => cj _ _ (by omega)) ⟨fun i => onr r' i hr' e, fun i h7 => ?_⟩ (fun c _ => cj _ _ (by omega)) (fun c _ => cj _ _ (by omega)) h9⟩
      have := hne i h7.2.1
      exact ⟨by rw [c0, if_neg this], by rw [c5, if_neg this], fun i' _ => ⟨cj _ _ (by omega), cj _ _ (by omega)⟩⟩
  · intro i d1 d2
    by_cases e : i = n
    · subst e
      refine ⟨r, m, 0, 0, 0, ⟨hr, hm5, by omega, by omega, by omega⟩, ?_, ?_, fun i' h5 => by omega, fun i' h5 => by omega⟩
      · rw [c3, c0, c4, c5, if_pos rfl, if_pos rfl, if_pos rfl, if_pos rfl]
        exact ⟨rfl, rfl, rfl, rfl⟩
      · rw [hXn, hXn, hXn, hXn]
        unfold rk_nbX
        refine ⟨?_, ?_, ?_, ?_⟩
        · rw [rk_ne2 (by decide), rk_ne2 (by decide), rk_ne2 (by decide), rr_up_same, hx]
        · rw [rk_ne2 (by decide), rk_ne2 (by decide), rr_up_same]; rfl
        · rw [rk_ne2 (by decide), rr_up_same]; rfl
        · rw [rr_up_same]; rfl
    · rw [c2, if_neg e] at d2
      obtain ⟨r', p', w, h, q, h9⟩ := hNo i d1 d2
      have hr9 := h9.1.1
      have hp9 := h9.1.2.1
      have hnd' := (hW.2 r' hr9 p' hp9).2.1
      have hdi : ¬ (r' = r ∧ nd r' p' = nd r m) := by
        rintro ⟨rfl, h8⟩
        have h7 := (hW.2 r' hr p' hp9).2.2 m hm5 h8
        obtain ⟨m', b1, b2, b3, b4⟩ := hM1 r' hr
        have e2 : m' = m := (nI_eq (by omega) (by omega)).mp (b2.symm.trans hm)
        obtain ⟨p, d5, d6⟩ := b4 i d1 d2 h9.2.1.1
        have := (nI_eq (by omega) (by omega)).mp (d6.symm.trans h9.2.1.2.1)
        omega
      refine ⟨r', p', w, h, q, rg_N_congr rfl (fun i' j hi => hX _ j ?_ ?_) (by rw [c3, if_neg e]) (by rw [c0, if_neg e]) (by rw [c4, if_neg e]) (by rw [c5, if_neg e]) (fun i' _ => ⟨cj _ _ (by omega), cj _ _ (by omega)⟩) (fun j i' _ _ _ => cj _ _ (by omega)) (fun c _ => cj _ _ (by omega)) (fun c _ => cj _ _ (by omega)) h9⟩
      · have a1 := rg_sepR hr hr9 hnd' hi
        unfold rg_o
        omega
      · have a2 := rg_sepN hr hr9 hnd hnd' hi hdi
        unfold rg_o
        omega
  · intro a b ha hb
    exact rg_T_congr (hX _ _ (by omega) (by omega)) (cj _ _ (by omega)) (cj _ _ (by omega)) (cj _ _ (by omega)) (hRo a b ha hb)
  · intro c hc
    refine rg_L_congr (Nat.le_refl _) (fun i j _ => hX _ _ (by omega) (by omega)) (fun j _ _ _ _ => cj _ _ (by omega)) (fun i _ => cj _ _ (by omega)) (fun i _ => cj _ _ (by omega)) (fun i _ _ h9 => ?_) (hLi c hc)
    rw [c2]
    by_cases e : i = n
    · rw [if_pos e]; exact one
    · rw [if_neg e]; exact h9
end RGD
