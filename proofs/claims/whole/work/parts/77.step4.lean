/-! the token is lowered; a frame ends; a frame is sent -/
section RGL
variable {nd : Nat → Nat → Nat} {X X' A A' : Nat → Nat → Int32} {R : Nat → Nat → Option Nat} {t : Int32} {B : Nat}
/-- the rows of a node and of its ring lie apart -/
theorem rg_apart {r p : Nat} (H : rg_Rel nd X R A t B) (hr : r < 3) (hp : p < 5) : ∀ i, i < 8 → ¬ rg_o nd r p + i = 2 + 44 * r ∧ ¬ rg_o nd r p + i = 2 + 44 * r + 42 ∧ ¬ rg_o nd r p + i = 2 + 44 * r + 43 := by
  intro i hi
  have h := (H.1.1.2 r hr p hp).2.1
  have := rg_sepR (i := i) hr hr h hi
  unfold rg_o
  omega
theorem rg_low {r m a y p v n pl w h q : Nat} (hr : r < 3) (H : rg_Rel nd X R A t B) (h9 : rg_R X A r m a y 1 p v) (hon : rg_on A r n) (hN : rg_N nd X A n r pl w h (q + 1)) (hU : A 7 (8 * n + q) = A 24 r) :
    rg_Rel nd (rk_loX X (rg_o nd r pl) (2 + 44 * r + 42) q) R (rr_low A r n (q + 1)) t B ∧ ∃ p' v' q', rg_R (rk_loX X (rg_o nd r pl) (2 + 44 * r + 42) q) (rr_low A r n (q + 1)) r m a y 1 p' v' ∧ rg_N nd (rk_loX X (rg_o nd r pl) (2 + 44 * r + 42) q) (rr_low A r n (q + 1)) n r pl w h q' := by
  obtain ⟨e1, e2, e3, e4⟩ := rg_R_E h9
  obtain ⟨g0, g1, g2, g3, g4, g5, g6, g7, g8, g9, g10⟩ := h9
  have hN0 := hN
  obtain ⟨b0, b1, b2, b3, b4⟩ := hN
  have hS := g9 (Or.inl rfl)
  have hpl := b0.2.1
  have hap := rg_apart H hr hpl
  have a0 := hap 0 (by omega)
  have a6 := hap 6 (by omega)
  have a7 := hap 7 (by omega)
  rw [Nat.add_zero] at a0
  obtain ⟨l, u, f1, f2, f3, f4⟩ := hS.1 n q (q + 1) hon b1.2.2.2 b0.2.2.2.2 (by omega)
  have hup : u = p := (nI_eq (by omega) (by omega)).mp (f2.symm.trans (hU.trans g1.2.2.2.2.1))
  subst hup
  have hc : (0 < q + 1 ∧ A 7 (8 * n + (q + 1) - 1) = A 24 r) := ⟨by omega, hU⟩
  have x6 : X (rg_o nd r pl + 6) q = nI l := (b4 q (by omega)).1.trans f1
  have x3 : X (2 + 44 * r + 42) 3 = nI v := g4.2.2.1
  have hlo : rr_low A r n (q + 1) = rr_up (if ¬ nI v ≤ nI l then rr_up (rr_up (rr_up A 7 (8 * n + q) (nI v)) 24 r (nI v)) 25 r 0 else rr_up (rr_up A 5 n (nI q)) 24 r (nI l)) 26 r 0 := by
    unfold rr_low
    rw [if_pos hc, show 8 * n + (q + 1) - 1 = 8 * n + q by omega, f1, g1.2.2.2.2.2]
    rfl
  have hlX : rk_loX X (rg_o nd r pl) (2 + 44 * r + 42) q = rr_up (if nI v ≤ nI l then rr_up (rr_up X (rg_o nd r pl) 6 (nI q)) (2 + 44 * r + 42) 2 (nI l) else rr_up (rr_up (rr_up X (rg_o nd r pl + 7) q (nI v)) (2 + 44 * r + 42) 2 (nI v)) (2 + 44 * r + 42) 3 0) (2 + 44 * r + 42) 5 0 := by
    unfold rk_loX
    rw [x6, x3]
  rw [hlo, hlX]
  by_cases hv : v ≤ l
  · have hv' : nI v ≤ nI l := nI_le hv (by omega)
    rw [if_pos hv', if_neg (fun h => h hv')]
    have hRn : rg_R (rr_up (rr_up (rr_up X (rg_o nd r pl) 6 (nI q)) (2 + 44 * r + 42) 2 (nI l)) (2 + 44 * r + 42) 5 0) (rr_up (rr_up (rr_up A 5 n (nI q)) 24 r (nI l)) 26 r 0) r m a y 1 l v := by
      refine rg_R_mk ?_ ⟨g0.1, g0.2.1, g0.2.2.1, by omega, g0.2.2.2.2.1, by omega, g0.2.2.2.2.2.2⟩ ?_ ?_ ?_ (fun h => absurd h (by omega)) (fun _ => ?_) (fun h => absurd h (by omega))
      · have o1 : ¬ 2 + 44 * r = rg_o nd r pl := fun h => a0.1 h.symm
        have o2 : ¬ 2 + 44 * r + 42 = rg_o nd r pl := fun h => a0.2.1 h.symm
        unfold rg_E
        simp [rr_up_at, e1, e2, e3, e4, o1, o2]
      · simp only [rr_up_at]
        simp [g1]
      · have := g6.2
        simp [rr_up_at, this]
      · unfold rg_on
        simpa [rr_up_at, rg_on] using g7
      · exact rg_S_pop hS (by omega) hon b1.2.2.2 (by omega) f1 f3 f2 (fun i => by simp [rg_on, rr_up_at]) (fun i => by simp [rr_up_at]) (fun i => by simp [rr_up_at]) (fun i => by simp [rr_up_at])
    have hNn : rg_N nd (rr_up (rr_up (rr_up X (rg_o nd r pl) 6 (nI q)) (2 + 44 * r + 42) 2 (nI l)) (2 + 44 * r + 42) 5 0) (rr_up (rr_up (rr_up A 5 n (nI q)) 24 r (nI l)) 26 r 0) n r pl w h q := by
      refine ⟨⟨b0.1, b0.2.1, b0.2.2.1, b0.2.2.2.1, by omega⟩, ?_, ?_, fun i hi => ?_, fun i hi => ?_⟩
      · simp only [rr_up_at]
        simp [b1]
      · simp only [rr_up_at]
        simp [b2, a0.2.1]
      · have as := hap (2 + (h + i) % 4) (by omega)
        refine rg_F_congr (b3 i hi) (fun j _ => ?_) (fun j _ _ => ?_) (fun c _ => ?_) (fun c _ => ?_)
        · rw [rk_ne (by omega), rk_ne (by omega), rk_ne (by omega)]
        · rw [rr_up_at, if_neg (by omega), rr_up_at, if_neg (by omega), rr_up_at, if_neg (by omega)]
        · rw [rr_up_at, if_neg (by omega), rr_up_at, if_neg (by omega), rr_up_at, if_neg (by omega)]
        · rw [rr_up_at, if_neg (by omega), rr_up_at, if_neg (by omega), rr_up_at, if_neg (by omega)]
      · rw [rk_ne a6.2.1, rk_ne a6.2.1, rk_ne (by omega), rk_ne a7.2.1, rk_ne a7.2.1, rk_ne (by omega)]
        have := b4 i (by omega)
        simpa [rr_up_at] using this
    exact ⟨rg_nr H hr hpl hon.1 hon.2.1 hon.2.2 b1.2.1 (fun q j hq => by rw [rk_ne (by omega), rk_ne (by omega), rk_ne (by omega)]) (fun j i hj => by rw [rr_up_at, if_neg (by omega), rr_up_at, if_neg (by omega), rr_up_at, if_neg (by omega)]) ⟨_, _, _, _, _, _, hRn⟩ ⟨_, _, _, hNn⟩, _, _, _, hRn, hNn⟩
  · have hv' : ¬ nI v ≤ nI l := nI_ge (by omega) (by omega)
    rw [if_neg hv', if_pos hv']
    have hRn : rg_R (rr_up (rr_up (rr_up (rr_up X (rg_o nd r pl + 7) q (nI v)) (2 + 44 * r + 42) 2 (nI v)) (2 + 44 * r + 42) 3 0) (2 + 44 * r + 42) 5 0) (rr_up (rr_up (rr_up (rr_up A 7 (8 * n + q) (nI v)) 24 r (nI v)) 25 r 0) 26 r 0) r m a y 1 v 0 := by
      refine rg_R_mk ?_ ⟨g0.1, g0.2.1, g0.2.2.1, by omega, g0.2.2.2.2.1, by omega, by omega⟩ ?_ ?_ ?_ (fun h => absurd h (by omega)) (fun _ => ?_) (fun h => absurd h (by omega))
      · have o1 : ¬ 2 + 44 * r = rg_o nd r pl + 7 := fun h => a7.1 h.symm
        have o2 : ¬ 2 + 44 * r + 42 = rg_o nd r pl + 7 := fun h => a7.2.1 h.symm
        unfold rg_E
        simp [rr_up_at, e1, e2, e3, e4, o1, o2]
      · simp only [rr_up_at]
        simp [g1, nI]
      · have := g6.2
        simp [rr_up_at, this]
      · unfold rg_on
        simpa [rr_up_at, rg_on] using g7
      · exact rg_S_raise hS (by omega) (by omega) hon b1.2.2.2 (by omega) f1 f3 (by omega) f2 (fun i => by simp [rg_on, rr_up_at]) (fun i => by simp [rr_up_at]) (fun i => by simp [rr_up_at]) (fun i => by simp [rr_up_at])
    have hNn : rg_N nd (rr_up (rr_up (rr_up (rr_up X (rg_o nd r pl + 7) q (nI v)) (2 + 44 * r + 42) 2 (nI v)) (2 + 44 * r + 42) 3 0) (2 + 44 * r + 42) 5 0) (rr_up (rr_up (rr_up (rr_up A 7 (8 * n + q) (nI v)) 24 r (nI v)) 25 r 0) 26 r 0) n r pl w h (q + 1) := by
      refine ⟨b0, ?_, ?_, fun i hi => ?_, fun i hi => ?_⟩
      · simp only [rr_up_at]
        simp [b1]
      · simp only [rr_up_at]
        simp [b2, a0.2.1]
      · have as := hap (2 + (h + i) % 4) (by omega)
        refine rg_F_congr (b3 i hi) (fun j _ => ?_) (fun j _ _ => ?_) (fun c _ => ?_) (fun c _ => ?_)
        · rw [rk_ne (by omega), rk_ne (by omega), rk_ne (by omega), rk_ne (by omega)]
        · rw [rr_up_at, if_neg (by omega), rr_up_at, if_neg (by omega), rr_up_at, if_neg (by omega), rr_up_at, if_neg (by omega)]
        · rw [rr_up_at, if_neg (by omega), rr_up_at, if_neg (by omega), rr_up_at, if_neg (by omega), rr_up_at, if_neg (by omega)]
        · rw [rr_up_at, if_neg (by omega), rr_up_at, if_neg (by omega), rr_up_at, if_neg (by omega), rr_up_at, if_neg (by omega)]
      · rw [rk_ne a6.2.1, rk_ne a6.2.1, rk_ne a6.2.1, rk_ne (by omega), rk_ne a7.2.1, rk_ne a7.2.1, rk_ne a7.2.1]
        have := b4 i (by omega)
        refine ⟨by simpa [rr_up_at] using this.1, ?_⟩
        simp only [rr_up_at]
        by_cases e : i = q
        · simp [e]
        · simp [e, this.2]
    exact ⟨rg_nr H hr hpl hon.1 hon.2.1 hon.2.2 b1.2.1 (fun q j hq => by rw [rk_ne (by omega), rk_ne (by omega), rk_ne (by omega), rk_ne (by omega)]) (fun j i hj => by rw [rr_up_at, if_neg (by omega), rr_up_at, if_neg (by omega), rr_up_at, if_neg (by omega), rr_up_at, if_neg (by omega)]) ⟨_, _, _, _, _, _, hRn⟩ ⟨_, _, _, hNn⟩, _, _, _, hRn, hNn⟩
end RGL
