/-! a ring moves, on both sides -/
section RHK
variable {nd : Nat → Nat → Nat} {X A : Nat → Nat → Int32} {R : Nat → Nat → Option Nat} {t : Int32} {B : Nat}
/-- QUIET changes -/
theorem rg_quietS {r m a y k p v y' : Nat} {x : Int32} (hr : r < 3) (H : rg_Rel nd X R A t B) (h9 : rg_R X A r m a y k p v) (hy : y' < 6) (hx : x = nI y') : rg_Rel nd (rr_up X (2 + 44 * r) 5 x) R (rr_up A 23 r x) t B ∧ rg_R (rr_up X (2 + 44 * r) 5 x) (rr_up A 23 r x) r m a y' k p v := by
  subst hx
  obtain ⟨e1, e2, e3, e4⟩ := rg_R_E h9
  refine rg_scal hr H h9 (fun q j hq => by rw [rr_up_at, if_neg (by omega)]) (fun j i hj => by rw [rr_up_at, if_neg (by omega)]) ?_ ?_ h9.1.2.1 (fun _ => ⟨rfl, by rw [rr_up_at, if_neg (by omega)]⟩) (rr_up_same _ _ _ _) hy ?_ h9.1.2.2.2.2.2.2 ?_
  · unfold rg_E
    simp [rr_up_at, e1, e2, e3, e4]
  · rw [rr_up_at, if_neg (by omega)]; exact h9.2.1.2.1
  · rw [rr_up_at, if_neg (by omega)]; exact h9.2.1.2.2.2.2.2
  · simpa [rr_up_at] using h9.2.2.2.2.2.2.1
/-- the claimer changes -/
theorem rg_claimer {r m a y p v : Nat} {x : Int32} (hr : r < 3) (H : rg_Rel nd X R A t B) (h9 : rg_R X A r m a y 3 p v) : rg_Rel nd (rr_up X (2 + 44 * r + 42) 4 x) R (rr_up A 29 r x) t B := by
  obtain ⟨e1, e2, e3, e4⟩ := rg_R_E h9
  refine (rg_scal (a' := a) (y' := y) (v' := v) hr H h9 (fun q j hq => by rw [rr_up_at, if_neg (by omega)]) (fun j i hj => by rw [rr_up_at, if_neg (by omega)]) ?_ ?_ h9.1.2.1 (fun h => absurd h (by omega)) ?_ h9.1.2.2.1 ?_ h9.1.2.2.2.2.2.2 ?_).1
  · unfold rg_E
    simp [rr_up_at, e1, e2, e3, e4]
  · rw [rr_up_at, if_neg (by omega)]; exact h9.2.1.2.1
  · rw [rr_up_at, if_neg (by omega)]; exact h9.2.1.2.2.1
  · rw [rr_up_at, if_neg (by omega)]; exact h9.2.1.2.2.2.2.2
  · simpa [rr_up_at] using h9.2.2.2.2.2.2.1
/-- the monitor changes while a claim goes round -/
theorem rg_monS {r m a y p v n : Nat} {x : Int32} (hr : r < 3) (H : rg_Rel nd X R A t B) (h9 : rg_R X A r m a y 3 p v) (hon : rg_on A r n) (hx : x = rr_addr (nI n)) : rg_Rel nd (rr_up X (2 + 44 * r) 6 x) R (rr_up A 30 r x) t B ∧ rg_R (rr_up X (2 + 44 * r) 6 x) (rr_up A 30 r x) r m a y 3 p v := by
  obtain ⟨e1, e2, e3, e4⟩ := rg_R_E h9
  obtain ⟨g0, g1, g2, g3, g4, g5, g6, g7, g8, g9, g10⟩ := h9
  have hR : rg_R (rr_up X (2 + 44 * r) 6 x) (rr_up A 30 r x) r m a y 3 p v := by
    refine rg_R_mk ?_ g0 ?_ ?_ (Or.inr ⟨n, ?_, ?_⟩) (fun h => absurd h (by omega)) (fun h => absurd h (by omega)) (fun h => absurd h (by omega))
    · unfold rg_E
      simp [rr_up_at, e1, e2, e3, e4]
    · simpa [rr_up_at] using g1
    · simpa [rr_up_at] using g6
    · simpa [rg_on, rr_up_at] using hon
    · rw [rr_up_same, hx]
  exact ⟨rg_ring hr H (fun q j hq => by rw [rr_up_at, if_neg (by omega)]) (fun j i hj => by rw [rr_up_at, if_neg (by omega)]) ⟨_, _, _, _, _, _, hR⟩, hR⟩
/-- a claim begins -/
theorem rg_claimS {r m a y p v a' : Nat} {x z : Int32} (hr : r < 3) (H : rg_Rel nd X R A t B) (h9 : rg_R X A r m a y 0 p v) (hm : 0 < m) (ha : a' < m ∨ a' = 0) (hx : x = nI a') : rg_Rel nd (rr_up (rr_up (rr_up X (2 + 44 * r) 4 x) (2 + 44 * r + 42) 1 3) (2 + 44 * r + 42) 4 z) R (rr_up (rr_up (rr_up A 21 r 3) 29 r z) 22 r x) t B := by
  subst hx
  obtain ⟨e1, e2, e3, e4⟩ := rg_R_E h9
  obtain ⟨g0, g1, g2, g3, g4, g5, g6, g7, g8, g9, g10⟩ := h9
  refine rg_ring hr H (fun q j hq => by rw [rr_up_at, if_neg (by omega), rr_up_at, if_neg (by omega), rr_up_at, if_neg (by omega)]) (fun j i hj => by rw [rr_up_at, if_neg (by omega), rr_up_at, if_neg (by omega), rr_up_at, if_neg (by omega)]) ⟨m, a', y, 3, p, v, rg_R_mk ?_ ⟨g0.1, ha, g0.2.2.1, by omega, fun _ => hm, g0.2.2.2.2.2.1, g0.2.2.2.2.2.2⟩ ?_ ?_ ?_ (fun h => absurd h (by omega)) (fun h => absurd h (by omega)) (fun h => absurd h (by omega))⟩
  · unfold rg_E
    simp [rr_up_at, e1, e2, e3, e4]
  · simp only [rr_up_at]
    simp [g1]
    rfl
  · simpa [rr_up_at] using g6
  · unfold rg_on
    simpa [rr_up_at, rg_on] using g7
theorem rg_quietM {r m a y p v : Nat} (H : rg_Rel nd X R A t B) (hr : r < 3) (h9 : rg_R X A r m a y 0 p v) (hm : 0 < m) : ∃ A' : Nat → Nat → Int32, (∀ (d : Nat) (Q : Option Value → rb_H → Prop), Q none (rr_h A' t) → rb_cw (d + 4) 62 [.ref 0, .int (nI r)] (rr_h A t) Q) ∧ ∀ (d : Nat) (Q : Option Value → rb_H → Prop), (∀ X', rg_Rel nd X' R A' t B → Q none (rc_h X' R)) → rb_cw (d + 3) 121 [.ref (2 + 44 * r)] (rc_h X R) Q := by
  have tR := rc_tR hr
  have tS := (rc_t1 tR).2.1
  obtain ⟨e1, e2, e3, e4⟩ := rg_R_E h9
  have g0 := h9.1
  have g1 := h9.2.1
  have hmem : ¬ A 1 r = 0 := by rw [g1.1]; exact nI_ne0 hm (by omega)
  have x5 : X (2 + 44 * r) 5 = nI y := e1.2.2.2.1.trans g1.2.2.1
  have q1 : rr_q1 A r 23 r = nI (y + 1) := by unfold rr_q1; rw [rr_up_same, g1.2.2.1, nI_1]
  have hq1 : rr_q1 A r = rr_up A 23 r (nI (y + 1)) := by unfold rr_q1; rw [g1.2.2.1, nI_1]
  have q2at : ∀ j i, ¬ j = 23 → rr_q2 A r j i = A j i := by
    intro j i hj
    unfold rr_q2
    rw [rr_up_at, if_neg (fun h => hj h.1), hq1, rr_up_at, if_neg (fun h => hj h.1)]
  have hq2 : rr_q2 A r = rr_up A 23 r 0 := by
    funext j i
    unfold rr_q2
    rw [hq1]
    simp only [rr_up_at]
    by_cases c : j = 23 ∧ i = r
    · rw [if_pos c, if_pos c]
    · rw [if_neg c, if_neg c, if_neg c]
  have hM2 : rg_M (rr_q2 A r) := rg_M_congr (fun j i hj => q2at j i (by omega)) H.2.1
  have on2 : ∀ n, rg_on (rr_q2 A r) r n ↔ rg_on A r n := by
    intro n
    unfold rg_on
    rw [q2at 2 n (by omega), q2at 3 n (by omega)]
  -- who stands at place 0
  obtain ⟨l, w, h, q, hl, hNl⟩ := rg_who H hr g1.1 g0.1 hm
  -- who is the monitor
  have hmn : ∃ mn, ¬ A 30 r = 0 → rg_on A r mn ∧ rr_addr (nI mn) = A 30 r := by
    rcases h9.2.2.2.2.2.2.2.1 with h8 | ⟨mn, h8, h7⟩
    · exact ⟨0, fun h7 => absurd h8 h7⟩
    · exact ⟨mn, fun _ => ⟨h8, h7⟩⟩
  obtain ⟨mn, hmn⟩ := hmn
  refine ⟨rr_quiet A r l mn, fun d Q hq => rr_moveQuiet hr hmem g1.2.2.2.1 (fun _ _ => ⟨hl.1, ?_, hl.2.2⟩) (fun _ h8 => ⟨(hmn h8).1.1, ?_, (hmn h8).1.2.2⟩) hq, fun d Q hq => ?_⟩
  · exact rg_at_is hM2 ((on2 l).mpr hl) ((q2at 0 l (by omega)).trans hNl.2.1.2.1)
  · have := rg_with_is hM2 ((on2 mn).mpr (hmn h8).1)
    rw [(hmn h8).2] at this
    exact this
  refine rw_ent rfl rfl rfl ?_
  refine rw_step rfl rfl ?_
  refine rw_step rfl rfl ?_
  refine rc_gv rfl tR rfl x5 ?_
  refine rw_step rfl rfl ?_
  refine rw_step rfl rfl ?_
  refine rc_p rfl tR rfl rfl ?_
  dsimp only
  rw [nI_1]
  refine rw_step rfl rfl ?_
  refine rc_gv rfl tR rfl (rr_up_same _ _ _ _) ?_
  refine rw_step rfl rfl ?_
  by_cases hy : y + 1 < 6
  · have hn6 : ¬ (6 : Int32) ≤ nI (y + 1) := nI_ge (b := 6) hy (by omega)
    rw [rr_quiet, q1, if_pos hn6, hq1] at hq
    refine rw_icmp rfl (fun h8 => absurd (of_decide_eq_true h8) hn6) (fun _ => ?_)
    exact rw_ret rfl rfl rfl (hq _ (rg_quietS hr H h9 hy rfl).1)
  · have h6 : (6 : Int32) ≤ nI (y + 1) := nI_le (a := 6) (by omega) (by omega)
    rw [rr_quiet, q1, if_neg (fun h8 => h8 h6)] at hq
    refine rw_icmp rfl (fun _ => ?_) (fun h8 => absurd h6 (of_decide_eq_false h8))
    refine rw_step rfl rfl ?_
    refine rw_step rfl rfl ?_
    refine rc_p rfl tR rfl rfl ?_
    have ex : rr_up (rr_up X (2 + 44 * r) 5 (nI (y + 1))) (2 + 44 * r) 5 0 = rr_up X (2 + 44 * r) 5 0 := by
      funext q' j
      simp only [rr_up_at]
      by_cases c : q' = 2 + 44 * r ∧ j = 5
      · rw [if_pos c, if_pos c]
      · rw [if_neg c, if_neg c, if_neg c]
    rw [ex]
    obtain ⟨H1, R1⟩ := rg_quietS (x := 0) (y' := 0) hr H h9 (by omega) rfl
    rw [← hq2] at H1 R1
    refine rw_step rfl rfl ?_
    refine rc_gv rfl tR rfl ((rk_ne2 (by decide)).trans e1.2.2.2.2) ?_
    have sz : rr_up X (2 + 44 * r) 5 0 (2 + 44 * r) 3 = nI m := (rk_ne2 (by decide)).trans (e1.2.1.trans g1.1)
    refine rw_if rfl (fun h8 => ?_) (fun h8 => ?_)
    · have h30 : A 30 r = 0 := rw_eq h8
      rw [if_pos h30] at hq
      refine rw_step rfl rfl ?_
      refine rw_step rfl rfl ?_
      refine rw_step rfl rfl ?_
      refine rc_call rfl tR (by decide) rfl rfl rfl rfl ?_
      refine rk_behind tR ?_
      have ea : (if (0 : Int32) + 1 < rr_up X (2 + 44 * r) 5 0 (2 + 44 * r) 3 then (0 : Int32) + 1 else 0) = nI (if 0 + 1 < m then 0 + 1 else 0) := by
        rw [sz]
        by_cases c : 0 + 1 < m
        · rw [if_pos c, if_pos (show (0 : Int32) + 1 < nI m from nI_lt (a := 1) c (by omega))]; rfl
        · rw [if_neg c, if_neg (show ¬ (0 : Int32) + 1 < nI m from nI_nlt (a := 1) (by omega) (by omega))]; rfl
      rw [ea]
      refine rc_p rfl tR rfl rfl ?_
      refine rw_step rfl rfl ?_
      refine rc_gr rfl tR rfl ?_
      refine rw_step rfl rfl ?_
      refine rc_p rfl tS rfl rfl ?_
      refine rw_step rfl rfl ?_
      refine rc_gr rfl tR rfl ?_
      refine rw_step rfl rfl ?_
      refine rc_gr rfl tR rfl ?_
      refine rw_step rfl rfl ?_
      refine rc_aa (i := 0) rfl (rc_t1 tR).1 rfl (show 0 < 5 by omega) (rg_npH H hr 0 (by omega)).1 ?_
      have tN := rg_oT H hr (show 0 < 5 by omega)
      have o1 : rg_o nd r 0 ≠ 2 + 44 * r := rk_tne tN tR rfl
      have o2 : rg_o nd r 0 ≠ 2 + 44 * r + 42 := rk_tne tN tS rfl
      refine rc_gv rfl tN rfl ((rk_ne o2).trans ((rk_ne o1).trans ((rk_ne o1).trans hNl.2.2.1.1))) ?_
      refine rc_p rfl tS rfl rfl ?_
      refine rw_ret rfl rfl rfl (hq _ ?_)
      have hat : rr_rem (A 0 l + 1) (A 1 r) = nI (if 0 + 1 < m then 0 + 1 else 0) := by
        rw [hNl.2.1.2.1, nI_1, g1.1]
        exact rg_remp m (by omega) (by omega) (0 + 1) (by omega) (by omega)
      rw [hat]
      exact rg_claimS hr H1 R1 hm (by split <;> omega) rfl
    · have h30 : ¬ A 30 r = 0 := rw_eqF h8
      rw [if_neg h30] at hq
      obtain ⟨hmon, hmad⟩ := hmn h30
      obtain ⟨pm, wm, hm', qm, hpm, hNm⟩ := rg_stand H hr hmon g1.1 g0.1
      have hpm0 := hNm.2.1.2.1
      refine rw_step rfl rfl ?_
      refine rw_step rfl rfl ?_
      refine rw_step rfl rfl ?_
      refine rw_step rfl rfl ?_
      refine rc_gv rfl tR rfl ((rk_ne2 (by decide)).trans e1.2.2.2.2) ?_
      refine rc_call rfl tR (by decide) rfl rfl rfl rfl ?_
      refine rg_placeIs (m := m) (p := pm) H1 hr ((on2 mn).mpr hmon) ((q2at 1 r (by omega)).trans g1.1) g0.1 sz hpm ((q2at 0 mn (by omega)).trans hpm0) hmad ?_
      refine rc_call rfl tR (by decide) rfl rfl rfl rfl ?_
      refine rk_behind tR ?_
      have ea : (if nI pm + 1 < rr_up X (2 + 44 * r) 5 0 (2 + 44 * r) 3 then nI pm + 1 else 0) = nI (if pm + 1 < m then pm + 1 else 0) := by
        rw [sz, nI_1]
        by_cases c : pm + 1 < m
        · rw [if_pos c, if_pos (nI_lt c (by omega))]
        · rw [if_neg c, if_neg (nI_nlt (by omega) (by omega))]; rfl
      rw [ea]
      refine rc_p rfl tR rfl rfl ?_
      refine rw_step rfl rfl ?_
      refine rc_call rfl tR (by decide) rfl rfl rfl rfl ?_
      refine rk_startP tR ?_
      refine rw_step rfl rfl ?_
      refine rw_ret rfl rfl rfl (hq _ ?_)
      exact rg_purge hr H1 R1 ((on2 mn).mpr hmon) (hmad.trans (q2at 30 r (by omega)).symm) ((q2at 0 mn (by omega)).trans hpm0) hpm rfl
end RHK
