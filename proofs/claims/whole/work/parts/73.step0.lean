/-! a ring's scalars -/
section RGH
variable {nd : Nat → Nat → Nat} {X X' A A' : Nat → Nat → Int32} {R : Nat → Nat → Option Nat} {t : Int32} {B : Nat}
/-- the ring's entries on both sides, one by one -/
def rg_E (X A : Nat → Nat → Int32) (r : Nat) : Prop :=
  (X (2 + 44 * r) 0 = nI r ∧ X (2 + 44 * r) 3 = A 1 r ∧ X (2 + 44 * r) 4 = A 22 r ∧ X (2 + 44 * r) 5 = A 23 r ∧ X (2 + 44 * r) 6 = A 30 r)
  ∧ (X (2 + 44 * r) 7 = A 31 (3 * r) ∧ X (2 + 44 * r) 8 = A 31 (3 * r + 1) ∧ X (2 + 44 * r) 9 = A 31 (3 * r + 2))
  ∧ (X (2 + 44 * r + 42) 1 = A 21 r ∧ X (2 + 44 * r + 42) 2 = A 24 r ∧ X (2 + 44 * r + 42) 3 = A 25 r ∧ X (2 + 44 * r + 42) 4 = A 29 r)
  ∧ (X (2 + 44 * r + 42) 5 = A 26 r ∧ X (2 + 44 * r + 42) 6 = A 27 r ∧ X (2 + 44 * r + 42) 7 = A 28 r)
theorem rg_R_E {r m a y k p v : Nat} (h : rg_R X A r m a y k p v) : rg_E X A r := by
  obtain ⟨-, g1, g2, g3, g4, g5, -⟩ := h
  exact ⟨⟨g2.1, g2.2.1.trans g1.1.symm, g2.2.2.1.trans g1.2.1.symm, g2.2.2.2.1.trans g1.2.2.1.symm, g2.2.2.2.2⟩, g3, ⟨g4.1.trans g1.2.2.2.1.symm, g4.2.1.trans g1.2.2.2.2.1.symm, g4.2.2.1.trans g1.2.2.2.2.2.symm, g4.2.2.2⟩, g5⟩
theorem rg_R_mk {r m a y k p v : Nat} (hE : rg_E X A r) (g0 : m ≤ 5 ∧ (a < m ∨ a = 0) ∧ y < 6 ∧ k ≤ 4 ∧ (¬ k = 0 → 0 < m) ∧ p ≤ 3 ∧ v ≤ 3) (g1 : A 1 r = nI m ∧ A 22 r = nI a ∧ A 23 r = nI y ∧ A 21 r = nI k ∧ A 24 r = nI p ∧ A 25 r = nI v) (g6 : (A 26 r = 0 ∨ A 26 r = 1) ∧ (A 27 r = 0 ∨ A 27 r = 1) ∧ (A 28 r = 0 ∨ A 28 r = 1)) (g7 : A 30 r = 0 ∨ ∃ n, rg_on A r n ∧ rr_addr (nI n) = A 30 r) (g8 : k = 2 → rg_F (X (2 + 44 * r + 43)) (fun j => A j (60 + r)) (A 41) (A 37)) (g9 : k = 1 ∨ k = 2 → rg_S A r p) (g10 : k = 4 → rg_P A r a) : rg_R X A r m a y k p v := by
  obtain ⟨e1, e2, e3, e4⟩ := hE
  exact ⟨g0, g1, ⟨e1.1, e1.2.1.trans g1.1, e1.2.2.1.trans g1.2.1, e1.2.2.2.1.trans g1.2.2.1, e1.2.2.2.2⟩, e2, ⟨e3.1.trans g1.2.2.2.1, e3.2.1.trans g1.2.2.2.2.1, e3.2.2.1.trans g1.2.2.2.2.2, e3.2.2.2⟩, e4, g6, g7, g8, g9, g10⟩
/-- the ring's own numbers change: what the rest of the ring says stays, but for the kind, the priority, AT in a purge -/
theorem rg_scal {r m a y k p v a' y' v' : Nat} (hr : r < 3) (H : rg_Rel nd X R A t B) (h9 : rg_R X A r m a y k p v)
    (hX : ∀ q j, ¬ ((q = 2 + 44 * r ∧ 3 < j) ∨ (q = 2 + 44 * r + 42)) → X' q j = X q j)
    (hA : ∀ j i, ¬ ((22 ≤ j ∧ j ≤ 29 ∧ ¬ j = 24 ∧ i = r) ∨ (j = 31 ∧ 3 * r ≤ i ∧ i ≤ 3 * r + 2)) → A' j i = A j i)
    (hE : rg_E X' A' r) (ha : A' 22 r = nI a') (ham : a' < m ∨ a' = 0) (ha4 : k = 4 → a' = a ∧ A' 29 r = A 29 r) (hy : A' 23 r = nI y') (hy6 : y' < 6) (hv : A' 25 r = nI v') (hv3 : v' ≤ 3)
    (hb : (A' 26 r = 0 ∨ A' 26 r = 1) ∧ (A' 27 r = 0 ∨ A' 27 r = 1) ∧ (A' 28 r = 0 ∨ A' 28 r = 1)) : rg_Rel nd X' R A' t B ∧ rg_R X' A' r m a' y' k p v' := by
  obtain ⟨g0, g1, g2, g3, g4, g5, g6, g7, g8, g9, g10⟩ := h9
  have e : rg_sm A A' r := ⟨fun n => by unfold rg_on; rw [hA 2 n (by omega), hA 3 n (by omega)], fun n h7 => ⟨hA _ _ (by omega), hA _ _ (by omega), fun i _ => ⟨hA _ _ (by omega), hA _ _ (by omega)⟩⟩⟩
  have hR : rg_R X' A' r m a' y' k p v' := by
    refine rg_R_mk hE ⟨g0.1, ham, hy6, g0.2.2.2.1, g0.2.2.2.2.1, g0.2.2.2.2.2.1, hv3⟩ ⟨by rw [hA 1 r (by omega)]; exact g1.1, ha, hy, by rw [hA 21 r (by omega)]; exact g1.2.2.2.1, by rw [hA 24 r (by omega)]; exact g1.2.2.2.2.1, hv⟩ hb ?_ ?_ (fun hk => rg_S_congr e (g9 hk)) ?_
    · rw [hA 30 r (by omega)]
      rcases g7 with g7 | ⟨n, g7, g7'⟩
      · exact Or.inl g7
      · exact Or.inr ⟨n, (e.1 n).mpr g7, g7'⟩
    · intro hk
      exact rg_F_congr (g8 hk) (fun j _ => hX _ _ (by omega)) (fun j _ _ => hA _ _ (by omega)) (fun c _ => hA _ _ (by omega)) (fun c _ => hA _ _ (by omega))
    · intro hk
      obtain ⟨q1, mn, pm, q2, q3, q4, q5, q6⟩ := g10 hk
      obtain ⟨h4, h5⟩ := ha4 hk
      subst h4
      refine ⟨by rw [h5, hA 30 r (by omega)]; exact q1, mn, pm, (e.1 mn).mpr q2, by rw [hA 30 r (by omega)]; exact q3, (e.2 mn q2).1.trans q4, q5, fun n p hn h0 hp hc => ?_⟩
      have hn := (e.1 n).mp hn
      rw [(e.2 n hn).2.1]
      exact q6 n p hn ((e.2 n hn).1 ▸ h0) hp hc
  exact ⟨rg_ring hr H (fun q j hq => hX q j (by omega)) (fun j i hj => hA j i (by omega)) ⟨_, _, _, _, _, _, hR⟩, hR⟩
/-- AT goes on (no purge) -/
theorem rg_stepAt {r m a y k p v : Nat} {x : Int32} (hr : r < 3) (H : rg_Rel nd X R A t B) (h9 : rg_R X A r m a y k p v) (hk : ¬ k = 4) {a' : Nat} (ha : a' < m ∨ a' = 0) (hx : x = nI a') : rg_Rel nd (rr_up X (2 + 44 * r) 4 x) R (rr_up A 22 r x) t B ∧ rg_R (rr_up X (2 + 44 * r) 4 x) (rr_up A 22 r x) r m a' y k p v := by
  subst hx
  obtain ⟨e1, e2, e3, e4⟩ := rg_R_E h9
  refine rg_scal hr H h9 (fun q j hq => by rw [rr_up_at, if_neg (by omega)]) (fun j i hj => by rw [rr_up_at, if_neg (by omega)]) ?_ (rr_up_same _ _ _ _) ha (fun h => absurd h hk) ?_ h9.1.2.2.1 ?_ h9.1.2.2.2.2.2.2 ?_
  · unfold rg_E
    simp [rr_up_at, e1, e2, e3, e4]
  · rw [rr_up_at, if_neg (by omega)]; exact h9.2.1.2.2.1
  · rw [rr_up_at, if_neg (by omega)]; exact h9.2.1.2.2.2.2.2
  · simpa [rr_up_at] using h9.2.2.2.2.2.2.1
/-- SEEN is set -/
theorem rg_seen {r m a y k p v : Nat} (hr : r < 3) (H : rg_Rel nd X R A t B) (h9 : rg_R X A r m a y k p v) : rg_Rel nd (rr_up X (2 + 44 * r + 42) 5 1) R (rr_up A 26 r 1) t B ∧ rg_R (rr_up X (2 + 44 * r + 42) 5 1) (rr_up A 26 r 1) r m a y k p v := by
  obtain ⟨e1, e2, e3, e4⟩ := rg_R_E h9
  refine rg_scal hr H h9 (fun q j hq => by rw [rr_up_at, if_neg (by omega)]) (fun j i hj => by rw [rr_up_at, if_neg (by omega)]) ?_ ?_ h9.1.2.1 (fun _ => ⟨rfl, by rw [rr_up_at, if_neg (by omega)]⟩) ?_ h9.1.2.2.1 ?_ h9.1.2.2.2.2.2.2 ?_
  · unfold rg_E
    simp [rr_up_at, e1, e2, e3, e4]
  · rw [rr_up_at, if_neg (by omega)]; exact h9.2.1.2.1
  · rw [rr_up_at, if_neg (by omega)]; exact h9.2.1.2.2.1
  · rw [rr_up_at, if_neg (by omega)]; exact h9.2.1.2.2.2.2.2
  · have := h9.2.2.2.2.2.2.1
    simp [rr_up_at, this.2]
/-- BAD is set -/
theorem rg_bad {r m a y k p v : Nat} (hr : r < 3) (H : rg_Rel nd X R A t B) (h9 : rg_R X A r m a y k p v) : rg_Rel nd (rr_up X (2 + 44 * r + 42) 6 1) R (rr_up A 27 r 1) t B ∧ rg_R (rr_up X (2 + 44 * r + 42) 6 1) (rr_up A 27 r 1) r m a y k p v := by
  obtain ⟨e1, e2, e3, e4⟩ := rg_R_E h9
  refine rg_scal hr H h9 (fun q j hq => by rw [rr_up_at, if_neg (by omega)]) (fun j i hj => by rw [rr_up_at, if_neg (by omega)]) ?_ ?_ h9.1.2.1 (fun _ => ⟨rfl, by rw [rr_up_at, if_neg (by omega)]⟩) ?_ h9.1.2.2.1 ?_ h9.1.2.2.2.2.2.2 ?_
  · unfold rg_E
    simp [rr_up_at, e1, e2, e3, e4]
  · rw [rr_up_at, if_neg (by omega)]; exact h9.2.1.2.1
  · rw [rr_up_at, if_neg (by omega)]; exact h9.2.1.2.2.1
  · rw [rr_up_at, if_neg (by omega)]; exact h9.2.1.2.2.2.2.2
  · have := h9.2.2.2.2.2.2.1
    simp [rr_up_at, this.1, this.2.2]
/-- COPIED is set -/
theorem rg_copied {r m a y k p v : Nat} (hr : r < 3) (H : rg_Rel nd X R A t B) (h9 : rg_R X A r m a y k p v) : rg_Rel nd (rr_up X (2 + 44 * r + 42) 7 1) R (rr_up A 28 r 1) t B ∧ rg_R (rr_up X (2 + 44 * r + 42) 7 1) (rr_up A 28 r 1) r m a y k p v := by
  obtain ⟨e1, e2, e3, e4⟩ := rg_R_E h9
  refine rg_scal hr H h9 (fun q j hq => by rw [rr_up_at, if_neg (by omega)]) (fun j i hj => by rw [rr_up_at, if_neg (by omega)]) ?_ ?_ h9.1.2.1 (fun _ => ⟨rfl, by rw [rr_up_at, if_neg (by omega)]⟩) ?_ h9.1.2.2.1 ?_ h9.1.2.2.2.2.2.2 ?_
  · unfold rg_E
    simp [rr_up_at, e1, e2, e3, e4]
  · rw [rr_up_at, if_neg (by omega)]; exact h9.2.1.2.1
  · rw [rr_up_at, if_neg (by omega)]; exact h9.2.1.2.2.1
  · rw [rr_up_at, if_neg (by omega)]; exact h9.2.1.2.2.2.2.2
  · have := h9.2.2.2.2.2.2.1
    simp [rr_up_at, this.1, this.2.1]
/-- RESERVED changes -/
theorem rg_resv {r m a y k p v w : Nat} {x : Int32} (hr : r < 3) (H : rg_Rel nd X R A t B) (h9 : rg_R X A r m a y k p v) (hw : w ≤ 3) (hx : x = nI w) : rg_Rel nd (rr_up X (2 + 44 * r + 42) 3 x) R (rr_up A 25 r x) t B ∧ rg_R (rr_up X (2 + 44 * r + 42) 3 x) (rr_up A 25 r x) r m a y k p w := by
  subst hx
  obtain ⟨e1, e2, e3, e4⟩ := rg_R_E h9
  refine rg_scal hr H h9 (fun q j hq => by rw [rr_up_at, if_neg (by omega)]) (fun j i hj => by rw [rr_up_at, if_neg (by omega)]) ?_ ?_ h9.1.2.1 (fun _ => ⟨rfl, by rw [rr_up_at, if_neg (by omega)]⟩) ?_ h9.1.2.2.1 (rr_up_same _ _ _ _) hw ?_
  · unfold rg_E
    simp [rr_up_at, e1, e2, e3, e4]
  · rw [rr_up_at, if_neg (by omega)]; exact h9.2.1.2.1
  · rw [rr_up_at, if_neg (by omega)]; exact h9.2.1.2.2.1
  · simpa [rr_up_at] using h9.2.2.2.2.2.2.1
end RGH
