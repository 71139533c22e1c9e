/-! a connection's numbers -/
section RGP
variable {nd : Nat → Nat → Nat} {X X' A A' : Nat → Nat → Int32} {R : Nat → Nat → Option Nat} {t : Int32} {B : Nat}
/-- a connection that is open or failed, with its numbers -/
theorem rg_linkC {c B' a b p u v f s k st e ik is ti tr : Nat} (hc : c < 4) (H : rg_Rel nd X R A t B) (hB : B ≤ B')
    (hX : ∀ q j, ¬ ((q = 135 + 5 * c ∧ ¬ j = 0 ∧ ¬ j = 4) ∨ (q = 135 + 5 * c + 1 ∧ ¬ j = 1) ∨ q = 135 + 5 * c + 2 ∨ (q = 135 + 5 * c + 3 ∧ ¬ j = 1) ∨ q = 135 + 5 * c + 4) → X' q j = X q j)
    (hA : ∀ j i, ¬ ((35 ≤ j ∧ j ≤ 53 ∧ ¬ j = 37 ∧ ¬ j = 41 ∧ ¬ j = 45 ∧ ¬ j = 51 ∧ i = c) ∨ (j = 45 ∧ 8 * c ≤ i ∧ i < 8 * c + 8) ∨ (j = 51 ∧ 4 * c ≤ i ∧ i < 4 * c + 4) ∨ (8 ≤ j ∧ j ≤ 20 ∧ i = 63)) → A' j i = A j i)
    (h35 : X' (135 + 5 * c) 3 = A' 35 c) (h35' : A' 35 c = 1 ∨ A' 35 c = 2) (hC : rg_C X' A' c B' a b p u v f s k st e ik is ti tr) : rg_Rel nd X' R A' t B' := by
  obtain ⟨g0, g1, g2, ⟨O, g3, g3', g3''⟩, g4⟩ := H.2.2.2.2.2 c hc
  refine rg_link hc H hB (fun q j hq => hX q j (by omega)) hA ⟨?_, h35, Or.inr h35', ⟨O, by omega, ?_, ?_⟩, fun _ => ⟨_, _, _, _, _, _, _, _, _, _, _, _, _, _, hC⟩⟩
  · rw [hX _ 0 (by omega), hX _ 1 (by omega), hX _ 1 (by omega)]; exact g0
  · rw [hA _ _ (by omega)]; exact g3'
  · rw [hX _ 4 (by omega)]; exact g3''
variable {c a b p u v f s k st e ik is ti tr : Nat}
/-- a byte is taken into the inbox -/
theorem rg_acc1 {x : Int32} (hc : c < 4) (H : rg_Rel nd X R A t B) (hC : rg_C X A c B a b p u v f s k st e ik is ti tr) (h1 : A 35 c = 1) (hik : ik < 4) : rg_Rel nd (rr_up (rr_up (rr_up (rr_up X (135 + 5 * c + 4) ((is + ik) % 4) x) (135 + 5 * c + 3) 3 (nI ik + 1)) (135 + 5 * c) 13 (nI e + 1)) (135 + 5 * c) 15 0) R (rr_take A c ik x) t (B + 1) ∧ rg_C (rr_up (rr_up (rr_up (rr_up X (135 + 5 * c + 4) ((is + ik) % 4) x) (135 + 5 * c + 3) 3 (nI ik + 1)) (135 + 5 * c) 13 (nI e + 1)) (135 + 5 * c) 15 0) (rr_take A c ik x) c (B + 1) a b p u v f s k st (e + 1) (ik + 1) is ti tr := by
  obtain ⟨f0, f1, f2, f3, f4, f5, f6, f7⟩ := hC
  have g1 := (H.2.2.2.2.2 c hc).2.1
  have hC' : rg_C (rr_up (rr_up (rr_up (rr_up X (135 + 5 * c + 4) ((is + ik) % 4) x) (135 + 5 * c + 3) 3 (nI ik + 1)) (135 + 5 * c) 13 (nI e + 1)) (135 + 5 * c) 15 0) (rr_take A c ik x) c (B + 1) a b p u v f s k st (e + 1) (ik + 1) is ti tr := by
    unfold rr_take
    refine ⟨⟨f0.1, f0.2.1, f0.2.2.1, f0.2.2.2.1, f0.2.2.2.2.1, f0.2.2.2.2.2.1, by omega, by omega, by omega, by omega, by omega, by omega, by omega, by omega, by omega, by omega⟩, ?_, ?_, ?_, ?_, ?_, ?_, ?_⟩
    · simp [rr_up_at, f1]
    · simp [rr_up_at, f2]
    · simp [rr_up_at, f3, nI_1]
    · have := f4
      simp [rr_up_at, f4.1, f4.2.1, f4.2.2.2.2.1, f4.2.2.2.2.2]
    · refine ⟨?_, ?_, ?_, fun i hi => ?_⟩
      · simp [rr_up_at, f5.1]
      · simp [rr_up_at, f5.2.1]
      · simp [rr_up_at, f5.2.2.1]
      · simp [rr_up_at, f5.2.2.2 i hi]
    · refine ⟨?_, ?_, ?_, fun i hi => ?_⟩
      · simp [rr_up_at, f6.1, nI_1]
      · simp [rr_up_at, nI_1]
      · simp [rr_up_at, f6.2.2.1]
      · by_cases e : i = ik
        · subst e
          simp [rr_up_at]
        · have h2 : ¬ (is + i) % 4 = (is + ik) % 4 := by omega
          simp [rr_up_at, e, h2, f6.2.2.2 i (by omega)]
    · simp [rr_up_at]
      exact f7
  refine ⟨rg_linkC hc H (by omega) (fun q j hq => ?_) (fun j i hj => ?_) ?_ ?_ hC', hC'⟩
  · rw [rr_up_at, if_neg (by omega), rr_up_at, if_neg (by omega), rr_up_at, if_neg (by omega), rr_up_at, if_neg (by omega)]
  · unfold rr_take
    rw [rr_up_at, if_neg (by omega), rr_up_at, if_neg (by omega), rr_up_at, if_neg (by omega), rr_up_at, if_neg (by omega)]
  · unfold rr_take
    simp [rr_up_at, g1]
  · unfold rr_take
    simp [rr_up_at, h1]
/-- one of the three marks of a connection is set: slot 14 + j, array 46, 52, 53 -/
theorem rg_mark {jx ja : Nat} {z : Int32} (hj : (jx = 14 ∧ ja = 46) ∨ (jx = 15 ∧ ja = 52) ∨ (jx = 16 ∧ ja = 53)) (hz : z = 0 ∨ z = 1) (hc : c < 4) (H : rg_Rel nd X R A t B) (hC : rg_C X A c B a b p u v f s k st e ik is ti tr) (h1 : A 35 c = 1 ∨ A 35 c = 2) : rg_Rel nd (rr_up X (135 + 5 * c) jx z) R (rr_up A ja c z) t B ∧ rg_C (rr_up X (135 + 5 * c) jx z) (rr_up A ja c z) c B a b p u v f s k st e ik is ti tr := by
  obtain ⟨f0, f1, f2, f3, f4, f5, f6, f7⟩ := hC
  have g1 := (H.2.2.2.2.2 c hc).2.1
  have hC' : rg_C (rr_up X (135 + 5 * c) jx z) (rr_up A ja c z) c B a b p u v f s k st e ik is ti tr := by
    rcases hj with ⟨rfl, rfl⟩ | ⟨rfl, rfl⟩ | ⟨rfl, rfl⟩
    all_goals
      refine ⟨f0, ?_, ?_, ?_, ?_, ⟨?_, ?_, ?_, fun i hi => ?_⟩, ⟨?_, ?_, ?_, fun i hi => ?_⟩, ?_⟩
      · simp [rr_up_at, f1]
      · simp [rr_up_at, f2]
      · simp [rr_up_at, f3]
      · simp [rr_up_at, f4.1, f4.2.1, f4.2.2.1, f4.2.2.2.1, f4.2.2.2.2.1, f4.2.2.2.2.2, hz]
      · simp [rr_up_at, f5.1]
      · simp [rr_up_at, f5.2.1]
      · simp [rr_up_at, f5.2.2.1]
      · simp [rr_up_at, f5.2.2.2 i hi]
      · simp [rr_up_at, f6.1]
      · simp [rr_up_at, f6.2.1]
      · simp [rr_up_at, f6.2.2.1]
      · simp [rr_up_at, f6.2.2.2 i hi]
      · simp [rr_up_at]
        exact f7
  refine ⟨rg_linkC hc H (Nat.le_refl _) (fun q j hq => ?_) (fun j i hj => ?_) ?_ ?_ hC', hC'⟩
  · rw [rr_up_at, if_neg (by omega)]
  · rw [rr_up_at, if_neg (by omega)]
  · rw [rk_ne2 (by omega), rr_up_at, if_neg (by omega), g1]
  · rw [rr_up_at, if_neg (by omega)]; exact h1
/-- SENT changes -/
theorem rg_sentC {s' : Nat} {x : Int32} (hc : c < 4) (H : rg_Rel nd X R A t B) (hC : rg_C X A c B a b p u v f s k st e ik is ti tr) (h1 : A 35 c = 1 ∨ A 35 c = 2) (hs : s' ≤ 3) (hsk : s' ≤ k) (hx : x = nI s') : rg_Rel nd (rr_up X (135 + 5 * c) 10 x) R (rr_up A 43 c x) t B ∧ rg_C (rr_up X (135 + 5 * c) 10 x) (rr_up A 43 c x) c B a b p u v f s' k st e ik is ti tr := by
  obtain ⟨f0, f1, f2, f3, f4, f5, f6, f7⟩ := hC
  have g1 := (H.2.2.2.2.2 c hc).2.1
  have hC' : rg_C (rr_up X (135 + 5 * c) 10 x) (rr_up A 43 c x) c B a b p u v f s' k st e ik is ti tr := by
    refine ⟨⟨f0.1, f0.2.1, f0.2.2.1, f0.2.2.2.1, f0.2.2.2.2.1, f0.2.2.2.2.2.1, f0.2.2.2.2.2.2.1, hs, hsk, f0.2.2.2.2.2.2.2.2.2⟩, ?_, ?_, ?_, ?_, ⟨?_, ?_, ?_, fun i hi => ?_⟩, ⟨?_, ?_, ?_, fun i hi => ?_⟩, ?_⟩
    · simp [rr_up_at, f1]
    · simp [rr_up_at, f2]
    · simp [rr_up_at, f3, hx]
    · simp [rr_up_at, f4.1, f4.2.1, f4.2.2.1, f4.2.2.2.1, f4.2.2.2.2.1, f4.2.2.2.2.2]
    · simp [rr_up_at, f5.1]
    · simp [rr_up_at, f5.2.1]
    · simp [rr_up_at, f5.2.2.1]
    · simp [rr_up_at, f5.2.2.2 i hi]
    · simp [rr_up_at, f6.1]
    · simp [rr_up_at, f6.2.1]
    · simp [rr_up_at, f6.2.2.1]
    · simp [rr_up_at, f6.2.2.2 i hi]
    · simp [rr_up_at]
      exact f7
  refine ⟨rg_linkC hc H (Nat.le_refl _) (fun q j hq => ?_) (fun j i hj => ?_) ?_ ?_ hC', hC'⟩
  · rw [rr_up_at, if_neg (by omega)]
  · rw [rr_up_at, if_neg (by omega)]
  · rw [rk_ne2 (by omega), rr_up_at, if_neg (by omega), g1]
  · rw [rr_up_at, if_neg (by omega)]; exact h1
end RGP
