/-! the purge's step; pairs are lowered and pushed -/
section RGJ
variable {nd : Nat → Nat → Nat} {X X' A A' : Nat → Nat → Int32} {R : Nat → Nat → Option Nat} {t : Int32} {B : Nat}
theorem rg_pl {r m n p' : Nat} (H : rg_Rel nd X R A t B) (hr : r < 3) (hm : A 1 r = nI m) (hm5 : m ≤ 5) (q1 : rg_on A r n) (q2 : A 0 n = nI p') (q3 : p' < 5) : p' < m := by
  obtain ⟨m', b1, b2, b3, b4⟩ := H.2.1.1 r hr
  have e : m' = m := (nI_eq (by omega) (by omega)).mp (b2.symm.trans hm)
  obtain ⟨p2, c1, c2⟩ := b4 n q1.1 q1.2.1 q1.2.2
  have := (nI_eq (by omega) (by omega)).mp (c2.symm.trans q2)
  omega
theorem rg_oNe {r p : Nat} (H : rg_Rel nd X R A t B) (hr : r < 3) (hp : p < 5) : ¬ rg_o nd r p = 2 + 44 * r ∧ ¬ rg_o nd r p = 2 + 44 * r + 42 ∧ ¬ rg_o nd r p = 2 + 44 * r + 43 := by
  have h := (H.1.1.2 r hr p hp).2.1
  have := rg_sepR (i := 0) hr hr h (by omega)
  unfold rg_o
  omega
theorem rg_meetP {r m a y p v n a' w h q : Nat} {x : Int32} (hr : r < 3) (H : rg_Rel nd X R A t B) (h9 : rg_R X A r m a y 4 p v) (hon : rg_on A r n) (hN : rg_N nd X A n r a w h q) (ham : a < m) (ha' : a' = if a + 1 < m then a + 1 else 0) (hx : x = nI a') :
    rg_Rel nd (rr_up (rr_up X (2 + 44 * r) 4 x) (rg_o nd r a) 6 0) R (rr_up (rr_up A 22 r x) 5 n 0) t B ∧ rg_R (rr_up (rr_up X (2 + 44 * r) 4 x) (rg_o nd r a) 6 0) (rr_up (rr_up A 22 r x) 5 n 0) r m a' y 4 p v ∧ (rr_addr (nI n) = A 29 r → ∀ n', rg_on A r n' → rr_up (rr_up A 22 r x) 5 n 0 5 n' = 0) := by
  obtain ⟨e1, e2, e3, e4⟩ := rg_R_E h9
  obtain ⟨g0, g1, g2, g3, g4, g5, g6, g7, g8, g9, g10⟩ := h9
  obtain ⟨q1, mn, pm, q2, q3, q4, q5, q6⟩ := g10 rfl
  have ho := rg_oNe H hr (show a < 5 by omega)
  have hpm := rg_pl H hr g1.1 g0.1 q2 q4 q5
  have i5 : ∀ i, rr_up (rr_up A 22 r x) 5 n 0 5 i = if i = n then 0 else A 5 i := by intro i; simp [rr_up_at]
  have i0 : ∀ i, rr_up (rr_up A 22 r x) 5 n 0 0 i = A 0 i := by intro i; simp [rr_up_at]
  have ion : ∀ i, rg_on (rr_up (rr_up A 22 r x) 5 n 0) r i ↔ rg_on A r i := by intro i; simp [rg_on, rr_up_at]
  have hRn : rg_R (rr_up (rr_up X (2 + 44 * r) 4 x) (rg_o nd r a) 6 0) (rr_up (rr_up A 22 r x) 5 n 0) r m a' y 4 p v := by
    refine rg_R_mk ?_ ⟨g0.1, by subst ha'; split <;> omega, g0.2.2.1, by omega, fun _ => by omega, g0.2.2.2.2.2.1, g0.2.2.2.2.2.2⟩ ?_ ?_ ?_ (fun h => absurd h (by omega)) (fun h => absurd h (by omega)) (fun _ => ?_)
    · unfold rg_E
      have o1 : ¬ 2 + 44 * r = rg_o nd r a := fun h => ho.1 h.symm
      have o2 : ¬ 2 + 44 * r + 42 = rg_o nd r a := fun h => ho.2.1 h.symm
      simp [rr_up_at, e1, e2, e3, e4, o1, o2]
    · simp only [rr_up_at]
      simp [g1, hx]
    · simpa [rr_up_at] using g6
    · unfold rg_on
      simpa [rr_up_at, rg_on] using g7
    · refine ⟨by simpa [rr_up_at] using q1, mn, pm, (ion mn).mpr q2, by simpa [rr_up_at] using q3, by rw [i0]; exact q4, q5, fun n' p' f1 f2 f3 f4 => ?_⟩
      rw [i5]
      by_cases e : n' = n
      · rw [if_pos e]
      · rw [if_neg e]
        have f1 := (ion n').mp f1
        rw [i0] at f2
        have hp' := rg_pl H hr g1.1 g0.1 f1 f2 f3
        have hne : ¬ p' = a := by
          intro h8
          subst h8
          exact e (H.2.1.2.1 n' n f1.1 hon.1 f1.2.1 hon.2.1 (f1.2.2.trans hon.2.2.symm) (f2.trans hN.2.1.2.1.symm))
        refine q6 n' p' f1 f2 f3 ?_
        subst ha'
        split at f4 <;> omega
  refine ⟨?_, hRn, fun hmon n' f1 => ?_⟩
  · refine rg_nr H hr (show a < 5 by omega) hon.1 hon.2.1 hon.2.2 hN.2.1.2.1 (fun q j hq => ?_) (fun j i hj => ?_) ⟨_, _, _, _, _, _, hRn⟩ ⟨w, h, 0, ?_⟩
    · rw [rr_up_at, if_neg (by omega), rr_up_at, if_neg (by omega)]
    · rw [rr_up_at, if_neg (by omega), rr_up_at, if_neg (by omega)]
    · obtain ⟨b0, b1, b2, b3, b4⟩ := hN
      refine ⟨⟨b0.1, b0.2.1, b0.2.2.1, b0.2.2.2.1, by omega⟩, ?_, ?_, ?_, fun i hi => by omega⟩
      · simp only [rr_up_at]
        simp [b1, nI]
      · have o1 : ¬ rg_o nd r a = 2 + 44 * r := ho.1
        simp only [rr_up_at]
        simp [b2, nI, o1]
      · intro i hi
        refine rg_F_congr (b3 i hi) (fun j _ => ?_) (fun j _ _ => ?_) (fun c _ => ?_) (fun c _ => ?_)
        · have := (H.1.1.2 r hr a (by omega)).2.1
          have hs := rg_sepR (i := 2 + (h + i) % 4) hr hr this (by omega)
          rw [rk_ne (by omega), rk_ne (by unfold rg_o; omega)]
        · rw [rr_up_at, if_neg (by omega), rr_up_at, if_neg (by omega)]
        · rw [rr_up_at, if_neg (by omega), rr_up_at, if_neg (by omega)]
        · rw [rr_up_at, if_neg (by omega), rr_up_at, if_neg (by omega)]
  · rw [i5]
    by_cases e : n' = n
    · rw [if_pos e]
    · rw [if_neg e]
      have emn : n = mn := rg_uniq H.2.1 hon q2 (hmon.trans (q1.trans q3.symm))
      obtain ⟨m', b1, b2, b3, b4⟩ := H.2.1.1 r hr
      obtain ⟨p', c1, c2⟩ := b4 n' f1.1 f1.2.1 f1.2.2
      have hne : ¬ p' = a := by
        intro h8
        subst h8
        exact e (H.2.1.2.1 n' n f1.1 hon.1 f1.2.1 hon.2.1 (f1.2.2.trans hon.2.2.symm) (c2.trans hN.2.1.2.1.symm))
      subst emn
      have epm : pm = a := (nI_eq (by omega) (by omega)).mp (q4.symm.trans hN.2.1.2.1)
      exact q6 n' p' f1 c2 (by omega) (by omega)
theorem rg_S0 {r : Nat} (h : ∀ n', rg_on A r n' → A 5 n' = 0) : rg_S A r 0 := by
  have z : ∀ n i q, rg_on A r n → A 5 n = nI q → q ≤ 3 → i < q → False := by
    intro n i q h1 h2 h3 h4
    have := (nI_eq (a := 0) (b := q) (by omega) (by omega)).mp ((h n h1).symm.trans h2)
    omega
  have z' : ∀ n i l u, ¬ rg_pr A r n i l u := by
    rintro n i l u ⟨h1, ⟨q, h2, h3, h4⟩, -, -⟩
    exact z n i q h1 h2 h4 h3
  exact ⟨fun n i q h1 h2 h3 h4 => absurd (z n i q h1 h2 h3 h4) (fun h => h), fun n n' i i' l u l' u' _ _ _ _ h5 _ => absurd h5 (z' _ _ _ _), fun n i i' l u l' u' _ _ _ _ _ h5 _ => absurd h5 (z' _ _ _ _)⟩
end RGJ
