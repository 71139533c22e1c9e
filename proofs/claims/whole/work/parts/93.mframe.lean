/-! a node meets a frame, on both sides -/
section RHH
variable {d : Nat} {Q : Option Value → rb_H → Prop} {A : Nat → Nat → Int32} {t : Int32}
theorem rr_frameM2 {r n q : Nat} {C : Nat → Nat → Int32} (hr : r < 3) (hn : n < 15) (hqv : A 5 n = nI q) (hq7 : q ≤ 7) (hwi : rr_with A (nI r) (rr_addr (nI n)) 15 = nI n) (hnr : A 3 n = nI r) (hmem : ¬ A 1 r = 0) (hrec : ¬ rr_addr (nI n) = A 29 r → (rr_watch A r n).1 = 0 → (rr_watch A r n).2 27 r = 0 → ∀ Q' : Option Value → rb_H → Prop, Q' none (rr_h C t) → rb_cw (d + 5) 63 [.ref 0, .int (nI r), .int (nI n)] (rr_h (rr_watch A r n).2 t) Q') (hq : Q none (rr_h (rr_frame A r n q C) t)) : rb_cw (d + 6) 61 [.ref 0, .int (nI r), .int (nI n)] (rr_h A t) Q := by
  refine rw_ent rfl rfl rfl ?_
  repeat refine rw_step rfl rfl ?_
  refine rw_call rfl rfl rfl ?_
  refine rr_wishM hn ?_
  repeat refine rw_step rfl rfl ?_
  refine rw_call rfl rfl rfl ?_
  refine rr_addressOf ?_
  repeat (first | refine rw_step rfl rfl ?_ | refine rr_ld rfl rfl rfl (by omega) rfl ?_)
  refine rw_icmp rfl (fun h1 => ?_) (fun h1 => ?_)
  · have h1 : ¬ rr_addr (nI n) = A 29 r := rw_ne h1
    rw [rr_frame, if_neg h1] at hq
    repeat refine rw_step rfl rfl ?_
    refine rw_call rfl rfl rfl ?_
    refine rr_watchM hr hn hwi hnr hmem ?_
    refine rw_if rfl (fun h2 => ?_) (fun h2 => ?_)
    · have h2 : (rr_watch A r n).1 = 0 := rw_eq h2
      rw [if_neg (fun h9 => h9 h2)] at hq
      repeat (first | refine rw_step rfl rfl ?_ | refine rr_ldz rfl rfl rfl (by omega) rfl ?_)
      refine rw_if rfl (fun h3 => ?_) (fun h3 => ?_)
      · rw [if_neg (rw_ne h3)] at hq
        exact rr_fpM hr hn hq
      · have h3 := rw_neF h3
        rw [if_pos h3] at hq
        repeat refine rw_step rfl rfl ?_
        refine rw_call rfl rfl rfl ?_
        refine hrec h1 h2 h3 _ ?_
        exact rr_fpM hr hn hq
    · have h2 : ¬ (rr_watch A r n).1 = 0 := rw_eqF h2
      rw [if_pos h2] at hq
      refine rw_ret rfl rfl rfl ?_
      exact hq
  · have h1 : rr_addr (nI n) = A 29 r := rw_neF h1
    rw [rr_frame, if_pos h1] at hq
    exact rr_frameEnd hr hn hqv hq7 hq
end RHH
section RHI
variable {d : Nat} {Q : Option Value → rb_H → Prop} {nd : Nat → Nat → Nat} {X A : Nat → Nat → Int32} {R : Nat → Nat → Option Nat} {t : Int32} {B : Nat}
/-- what a node wants, both sides -/
theorem rg_wish {n r pl w h q : Nat} (hN : rg_N nd X A n r pl w h q) : (w = 0 ∧ rr_wish A n = -1) ∨ (0 < w ∧ ∃ p0, p0 ≤ 3 ∧ rr_wish A n = nI p0 ∧ X (rg_o nd r pl + 2 + h) 1 = nI p0) := by
  obtain ⟨b0, b1, b2, b3, b4⟩ := hN
  rcases Nat.eq_zero_or_pos w with h0 | h0
  · refine Or.inl ⟨h0, ?_⟩
    unfold rr_wish
    rw [if_pos (by rw [b1.2.2.1, h0]; rfl)]
  · refine Or.inr ⟨h0, ?_⟩
    obtain ⟨k, p, a, b, u, v, s, t', f1, f2, f3⟩ := b3 0 h0
    rw [show (h + 0) % 4 = h by omega] at f2
    refine ⟨p, f2.2.2, ?_, f2.2.1⟩
    unfold rr_wish
    rw [if_neg (by rw [b1.2.2.1]; exact nI_ne0 h0 (by omega))]
    exact f2.1
theorem rg_reserve {n r pl w h q m a y k p v : Nat} (H : rg_Rel nd X R A t B) (hr : r < 3) (hN : rg_N nd X A n r pl w h q) (h9 : rg_R X A r m a y k p v) (hq : ∀ X' v', v' ≤ 3 → rg_Rel nd X' R (rr_fp A r n) t B → rg_R X' (rr_fp A r n) r m a y k p v' → rr_max (rr_wish A n) (A 25 r) = nI v' → (∀ q' j, ¬ q' = 2 + 44 * r + 42 → X' q' j = X q' j) → Q none (rc_h X' R)) : rb_cw (d + 2) 131 [.ref (2 + 44 * r + 42), .ref (rg_o nd r pl)] (rc_h X R) Q := by
  have b0 := hN.1
  have b2 := hN.2.2.1
  have tN := rg_oT H b0.1 b0.2.1
  have tS := (rc_t1 (rc_tR hr)).2.1
  have x3 : X (2 + 44 * r + 42) 3 = nI v := h9.2.2.2.2.1.2.2.1
  have a25 : A 25 r = nI v := h9.2.1.2.2.2.2.2
  have hv3 : v ≤ 3 := h9.1.2.2.2.2.2.2
  refine rk_reserve (i := h) H.1.1.1 tS tN (by rw [b2.2.1, rg_and3, show h % 4 = h by have := b0.2.2.2.1; omega]) b0.2.2.2.1 ?_
  have idA : rr_up A 25 r (nI v) = A := rg_up_id a25
  rcases rg_wish hN with ⟨h0, h1⟩ | ⟨h0, p0, hp0, h1, h2⟩
  · have hmx : rr_max (rr_wish A n) (A 25 r) = nI v := by
      unfold rr_max
      rw [h1, a25, if_pos]
      exact Int32.le_of_lt (Int32.lt_of_lt_of_le (show (-1 : Int32) < 0 by decide) (nI_pos' (by omega)))
    rw [if_neg (fun h8 => h8.1 (by rw [b2.2.2.1, h0]; decide))]
    have efp : rr_fp A r n = A := by unfold rr_fp; rw [hmx, idA]
    exact hq X v hv3 (by rw [efp]; exact H) (by rw [efp]; exact h9) hmx (fun _ _ _ => rfl)
  · by_cases hle : p0 ≤ v
    · have hmx : rr_max (rr_wish A n) (A 25 r) = nI v := by
        unfold rr_max
        rw [h1, a25, if_pos (nI_le hle (by omega))]
      rw [if_neg (fun h8 => h8.2 (by rw [h2, x3]; exact nI_le hle (by omega)))]
      have efp : rr_fp A r n = A := by unfold rr_fp; rw [hmx, idA]
      exact hq X v hv3 (by rw [efp]; exact H) (by rw [efp]; exact h9) hmx (fun _ _ _ => rfl)
    · have hmx : rr_max (rr_wish A n) (A 25 r) = nI p0 := by
        unfold rr_max
        rw [h1, a25, if_neg (nI_ge (by omega) (by omega))]
      rw [if_pos ⟨by rw [b2.2.2.1]; exact nI_nle h0 (by omega), by rw [h2, x3]; exact nI_ge (by omega) (by omega)⟩, h2]
      obtain ⟨H1, R1⟩ := rg_resv (x := nI p0) hr H h9 hp0 rfl
      have efp : rr_fp A r n = rr_up A 25 r (nI p0) := by unfold rr_fp; rw [hmx]
      exact hq _ p0 hp0 (by rw [efp]; exact H1) (by rw [efp]; exact R1) hmx (fun q' j h8 => rk_ne h8)
/-- a frame that nobody copied is lost -/
theorem rg_lost {r m a y k p v : Nat} (hr : r < 3) (H : rg_Rel nd X R A t B) (h9 : rg_R X A r m a y k p v) (hc : A 28 r = 0) : rg_Rel nd (rr_up X (2 + 44 * r) 9 (A 31 (3 * r + 2) + 1)) R (rr_fe1 A r) t B ∧ rg_R (rr_up X (2 + 44 * r) 9 (A 31 (3 * r + 2) + 1)) (rr_fe1 A r) r m a y k p v := by
  unfold rr_fe1
  rw [if_pos hc]
  obtain ⟨e1, e2, e3, e4⟩ := rg_R_E h9
  refine rg_scal hr H h9 (fun q j hq => by rw [rr_up_at, if_neg (by omega)]) (fun j i hj => by rw [rr_up_at, if_neg (by omega)]) ?_ ?_ h9.1.2.1 (fun _ => ⟨rfl, by rw [rr_up_at, if_neg (by omega)]⟩) ?_ h9.1.2.2.1 ?_ h9.1.2.2.2.2.2.2 ?_
  · unfold rg_E
    simp [rr_up_at, e1, e2, e3, e4]
  · rw [rr_up_at, if_neg (by omega)]; exact h9.2.1.2.1
  · rw [rr_up_at, if_neg (by omega)]; exact h9.2.1.2.2.1
  · rw [rr_up_at, if_neg (by omega)]; exact h9.2.1.2.2.2.2.2
  · simpa [rr_up_at] using h9.2.2.2.2.2.2.1
theorem rg_tok25 {r n i : Nat} {x p v y a : Int32} : rr_tok (rr_up A 25 r x) r p v = rr_tok A r p v ∧ rr_tok (rr_up (rr_up (rr_up (rr_up A 25 r x) 6 i a) 7 i y) 5 n v) r p 0 = rr_tok (rr_up (rr_up (rr_up A 6 i a) 7 i y) 5 n v) r p 0 := by
  refine ⟨?_, ?_⟩
  · funext j i'
    unfold rr_tok
    simp only [rr_up_at]
    by_cases c : j = 25
    · subst c
      by_cases c2 : i' = r <;> simp [c2]
    · simp [c]
  · funext j i'
    unfold rr_tok
    simp only [rr_up_at]
    by_cases c : j = 25
    · subst c
      by_cases c2 : i' = r <;> simp [c2]
    · simp [c]
theorem rg_endF {n r pl w h q m a y p v : Nat} (H : rg_Rel nd X R A t B) (hr : r < 3) (hon : rg_on A r n) (hN : rg_N nd X A n r pl w h q) (h9 : rg_R X A r m a y 2 p v) (hq : ∀ X', rg_Rel nd X' R (rr_fe2 (rr_fe1 A r) r n q (rr_max (rr_wish A n) (A 25 r))) t B → Q none (rc_h X' R)) : rb_cw (d + 3) 124 [.ref (2 + 44 * r), .ref (rg_o nd r pl)] (rc_h X R) Q := by
  have b0 := hN.1
  have b1 := hN.2.1
  have tR := rc_tR hr
  have tN := rg_oT H b0.1 b0.2.1
  have tS := (rc_t1 tR).2.1
  obtain ⟨e1, e2, e3, e4⟩ := rg_R_E h9
  have hap := rg_apart H hr b0.2.1
  have hon1 : ∀ A', (∀ j i, j ≤ 20 → A' j i = A j i) → rg_on A' r n := by
    intro A' hA
    unfold rg_on
    rw [hA 2 n (by omega), hA 3 n (by omega)]
    exact hon
  have hN1 : ∀ X' A', (∀ q' j, ¬ (q' = 2 + 44 * r) → ¬ q' = 2 + 44 * r + 42 → X' q' j = X q' j) → (∀ j i, j ≤ 20 → A' j i = A j i) → (∀ c, A' 37 c = A 37 c) → (∀ c, A' 41 c = A 41 c) → rg_N nd X' A' n r pl w h q := by
    intro X' A' hX hA h37 h41
    exact rg_N_congr rfl (fun i j hi => hX _ j (hap i hi).1 (hap i hi).2.1) (hA _ _ (by omega)) (hA _ _ (by omega)) (hA _ _ (by omega)) (hA _ _ (by omega)) (fun i _ => ⟨hA _ _ (by omega), hA _ _ (by omega)⟩) (fun j i _ _ _ => hA _ _ (by omega)) (fun c _ => h37 c) (fun c _ => h41 c) hN
  -- behind the count of the lost
  have tail : ∀ X1, rg_Rel nd X1 R (rr_fe1 A r) t B → rg_R X1 (rr_fe1 A r) r m a y 2 p v → (∀ q' j, ¬ (q' = 2 + 44 * r) → ¬ q' = 2 + 44 * r + 42 → X1 q' j = X q' j) → rb_wp (d + 2) 124 20 (rb_ent 124 [.ref (2 + 44 * r), .ref (rg_o nd r pl)]) [] (rc_h X1 R) Q := by
    intro X1 H1 R1 hX1
    have hA1 : ∀ j i, ¬ j = 31 → rr_fe1 A r j i = A j i := fun j i hj => by unfold rr_fe1; rw [rr_up_at, if_neg (fun h8 => hj h8.1)]
    have N1 := hN1 X1 (rr_fe1 A r) hX1 (fun j i hj => hA1 j i (by omega)) (fun c => hA1 37 c (by omega)) (fun c => hA1 41 c (by omega))
    have ew : rr_wish (rr_fe1 A r) n = rr_wish A n := by unfold rr_wish; rw [hA1 _ _ (by omega), hA1 _ _ (by omega)]
    have e25 : rr_fe1 A r 25 r = A 25 r := hA1 _ _ (by omega)
    refine rw_step rfl rfl ?_
    refine rc_gr rfl tR rfl ?_
    refine rw_step rfl rfl ?_
    refine rc_call rfl tS (by decide) rfl rfl rfl rfl ?_
    refine rg_reserve H1 hr N1 R1 (fun X2 v2 hv2 H2 R2 hmx hX2 => ?_)
    rw [ew, e25] at hmx
    have s3 : X2 (2 + 44 * r + 42) 3 = nI v2 := R2.2.2.2.2.1.2.2.1
    have s2 : X2 (2 + 44 * r + 42) 2 = nI p := R2.2.2.2.2.1.2.1
    have efp : rr_fp (rr_fe1 A r) r n = rr_up (rr_fe1 A r) 25 r (nI v2) := by unfold rr_fp; rw [ew, e25, hmx]
    rw [efp] at H2 R2
    have hA2 : ∀ j i, j ≤ 20 ∨ j = 37 ∨ j = 41 → rr_up (rr_fe1 A r) 25 r (nI v2) j i = A j i := fun j i hj => by rw [rr_up_at, if_neg (by omega), hA1 j i (by omega)]
    have N2 := hN1 X2 (rr_up (rr_fe1 A r) 25 r (nI v2)) (fun q' j h1 h2 => (hX2 q' j h2).trans (hX1 q' j h1 h2)) (fun j i hj => hA2 j i (by omega)) (fun c => hA2 37 c (by omega)) (fun c => hA2 41 c (by omega))
    have a24 : rr_fe1 A r 24 r = nI p := (hA1 _ _ (by omega)).trans h9.2.1.2.2.2.2.1
    have a5 : rr_fe1 A r 5 n = nI q := (hA1 _ _ (by omega)).trans b1.2.2.2
    refine rw_step rfl rfl ?_
    refine rc_gr rfl tR rfl ?_
    refine rc_gv rfl tS rfl s3 ?_
    refine rw_step rfl rfl ?_
    refine rw_step rfl rfl ?_
    refine rw_step rfl rfl ?_
    refine rc_gr rfl tR rfl ?_
    refine rc_gv rfl tS rfl s2 ?_
    rw [hmx] at hq
    refine rw_icmp rfl (fun h8 => ?_) (fun h8 => ?_)
    · have hle : v2 ≤ p := (nI_leI (by omega) (by have := h9.1.2.2.2.2.2.1; omega)).mp (of_decide_eq_true h8)
      rw [rr_fe2, a24, if_pos (nI_le hle (by have := h9.1.2.2.2.2.2.1; omega))] at hq
      refine rw_step rfl rfl ?_
      refine rc_gr rfl tR rfl ?_
      refine rw_step rfl rfl ?_
      refine rc_gr rfl tR rfl ?_
      refine rc_gv rfl tS rfl s2 ?_
      refine rw_step rfl rfl ?_
      refine rc_call rfl tS (by decide) rfl rfl rfl rfl ?_
      refine rk_becomeT tS ?_
      refine rw_ret rfl rfl rfl (hq _ ?_)
      have := rg_setTok (x := nI p) (x' := nI v2) hr H2 R2 (h9.1.2.2.2.2.1 (by omega)) h9.1.2.2.2.2.2.1 hv2 rfl rfl (R2.2.2.2.2.2.2.2.2.2.1 (Or.inr rfl))
      rw [(rg_tok25 (n := 0) (i := 0) (y := 0) (a := 0)).1] at this
      exact this
    · have hlt : p < v2 := by
        refine Nat.not_le.mp (fun h7 => of_decide_eq_false h8 ?_)
        exact nI_le h7 (by have := h9.1.2.2.2.2.2.1; omega)
      rw [rr_fe2, a24, if_neg (nI_ge hlt (by omega)), a5, nI_1] at hq
      obtain ⟨hq3, H3⟩ := rg_pushT (x := nI v2) hr H2 R2 (hon1 _ (fun j i hj => hA2 j i (by omega))) N2 hlt hv2 rfl
      refine rw_step rfl rfl ?_
      refine rw_step rfl rfl ?_
      refine rc_gr rfl tR rfl ?_
      refine rc_gv rfl tS rfl s2 ?_
      refine rw_step rfl rfl ?_
      refine rc_call rfl tN (by decide) rfl rfl rfl rfl ?_
      refine rk_push tN N2.2.2.1.2.2.2 hq3 ?_
      refine rw_step rfl rfl ?_
      refine rc_gr rfl tR rfl ?_
      refine rw_step rfl rfl ?_
      refine rw_step rfl rfl ?_
      refine rc_call rfl tS (by decide) rfl rfl rfl rfl ?_
      refine rk_becomeT tS ?_
      refine rw_step rfl rfl ?_
      refine rw_ret rfl rfl rfl (hq _ ?_)
      rw [(rg_tok25 (A := rr_fe1 A r)).2] at H3
      exact H3
  refine rw_ent rfl rfl rfl ?_
  refine rw_step rfl rfl ?_
  refine rc_gr rfl tR rfl ?_
  refine rc_gv rfl tS rfl e4.2.2 ?_
  refine rw_if rfl (fun h8 => ?_) (fun h8 => ?_)
  · have efe : rr_fe1 A r = A := by
      unfold rr_fe1
      rw [if_neg (rw_ne h8), Int32.add_zero]
      exact rg_up_id rfl
    exact tail X (by rw [efe]; exact H) (by rw [efe]; exact h9) (fun _ _ _ _ => rfl)
  · have h28 := rw_neF h8
    obtain ⟨H1, R1⟩ := rg_lost hr H h9 h28
    refine rw_step rfl rfl ?_
    refine rw_step rfl rfl ?_
    refine rc_gv rfl tR rfl e2.2.2 ?_
    refine rw_step rfl rfl ?_
    refine rw_step rfl rfl ?_
    refine rc_p rfl tR rfl rfl ?_
    exact tail _ H1 R1 (fun q' j h1 _ => rk_ne h1)
end RHI
