/-! a ring moves whole, on both sides -/
section RHL
variable {nd : Nat → Nat → Nat} {X A : Nat → Nat → Int32} {R : Nat → Nat → Option Nat} {t : Int32} {B : Nat}
theorem rg_move {r : Nat} (H : rg_Rel nd X R A t B) (hB : B < 900000) (hr : r < 3) : ∃ A' : Nat → Nat → Int32, (∀ (d : Nat) (Q : Option Value → rb_H → Prop), Q none (rr_h A' t) → rb_cw (d + 7) 62 [.ref 0, .int (nI r)] (rr_h A t) Q) ∧ ∀ (d : Nat) (Q : Option Value → rb_H → Prop), (∀ X', rg_Rel nd X' R A' t (B + 1) → Q none (rc_h X' R)) → rb_cw (d + 7) 28 [.ref 0, .ref (2 + 44 * r)] (rc_h X R) Q := by
  have tR := rc_tR hr
  have tS := (rc_t1 tR).2.1
  obtain ⟨m, a, y, k, p, v, h9⟩ := H.2.2.1 r hr
  obtain ⟨e1, e2, e3, e4⟩ := rg_R_E h9
  have g0 := h9.1
  have g1 := h9.2.1
  have sz : X (2 + 44 * r) 3 = nI m := e1.2.1.trans g1.1
  have sk : X (2 + 44 * r + 42) 1 = nI k := e3.1.trans g1.2.2.2.1
  rcases Nat.eq_zero_or_pos m with hm | hm
  · refine ⟨A, fun d Q hq => rr_move0 hr (by rw [g1.1, hm]; rfl) hq, fun d Q hq => ?_⟩
    refine rw_ent rfl rfl rfl ?_
    refine rw_step rfl rfl ?_
    refine rc_gv rfl tR rfl sz ?_
    refine rw_if rfl (fun h8 => absurd (by rw [hm]; rfl) (rw_ne h8)) (fun _ => ?_)
    exact rw_ret rfl rfl rfl (hq X (rg_monoB (by omega) H))
  have hmem : ¬ A 1 r = 0 := by rw [g1.1]; exact nI_ne0 hm (by omega)
  have head : ∀ (d : Nat) (Q : Option Value → rb_H → Prop), rb_wp (d + 6) 28 15 (rb_ent 28 [.ref 0, .ref (2 + 44 * r)]) [.int (nI k)] (rc_h X R) Q → rb_cw (d + 7) 28 [.ref 0, .ref (2 + 44 * r)] (rc_h X R) Q := by
    intro d Q kk
    refine rw_ent rfl rfl rfl ?_
    refine rw_step rfl rfl ?_
    refine rc_gv rfl tR rfl sz ?_
    refine rw_if rfl (fun _ => ?_) (fun h8 => absurd (rw_neF h8) (nI_ne0 hm (by omega)))
    refine rw_step rfl rfl ?_
    refine rc_gr rfl tR rfl ?_
    exact rc_gv rfl tS rfl sk kk
  rcases Nat.eq_zero_or_pos k with hk | hk
  · subst hk
    obtain ⟨A', hA', hC'⟩ := rg_quietM H hr h9 hm
    refine ⟨A', fun d Q hq => hA' (d + 3) Q hq, fun d Q hq => head d Q ?_⟩
    refine rw_if rfl (fun h8 => absurd rfl (rw_ne h8)) (fun _ => ?_)
    refine rw_step rfl rfl ?_
    refine rc_call rfl tR (by decide) rfl rfl rfl rfl ?_
    refine hC' (d + 3) _ (fun X' H' => ?_)
    exact rw_ret rfl rfl rfl (hq X' (rg_monoB (by omega) H'))
  have ham : a < m := by have := g0.2.1; omega
  obtain ⟨n, w, h, q, hon, hN⟩ := rg_who H hr g1.1 g0.1 ham
  have hn := hon.1
  have b0 := hN.1
  have b1 := hN.2.1
  have tN := rg_oT H hr b0.2.1
  have hsig : ¬ A 21 r = 0 := by rw [g1.2.2.2.1]; exact nI_ne0 hk (by omega)
  have hat : rr_at A (nI r) (A 22 r) 15 = nI n := rg_at_is H.2.1 hon (by rw [g1.2.1]; exact b1.2.1)
  have hxs : rr_rem (A 0 n + 1) (A 1 r) = nI (if a + 1 < m then a + 1 else 0) := by
    rw [b1.2.1, nI_1, g1.1]
    exact rg_remp m (by omega) hm (a + 1) (by omega) (by omega)
  have hstep : rr_step A r n = rr_up A 22 r (nI (if a + 1 < m then a + 1 else 0)) := by unfold rr_step; rw [hxs]
  have sat : ∀ j i, ¬ j = 22 → rr_step A r n j i = A j i := fun j i hj => by rw [hstep, rr_up_at, if_neg (fun h8 => hj h8.1)]
  have hpg : A 21 r = 3 → rr_addr (nI n) = A 29 r → rr_with (rr_up (rr_step A r n) 30 r (rr_addr (nI n))) (nI r) (rr_up (rr_step A r n) 30 r (rr_addr (nI n)) 30 r) 15 = nI n := by
    intro _ _
    rw [rr_up_same]
    have hA : ∀ j i, j ≤ 3 → rr_up (rr_step A r n) 30 r (rr_addr (nI n)) j i = A j i := fun j i hj => by rw [rr_up_at, if_neg (by omega), sat j i (by omega)]
    refine rg_with_is (rg_M_congr hA H.2.1) ?_
    unfold rg_on
    rw [hA 2 n (by omega), hA 3 n (by omega)]
    exact hon
  -- the class, up to the meeting
  have go : ∀ (d : Nat) (Q : Option Value → rb_H → Prop), rb_wp (d + 6) 28 55 [.ref 0, .ref (2 + 44 * r), .int (nI a), .ref (rg_o nd r a)] [.int (nI k)] (rc_h (rr_up X (2 + 44 * r) 4 (nI (if a + 1 < m then a + 1 else 0))) R) Q → rb_cw (d + 7) 28 [.ref 0, .ref (2 + 44 * r)] (rc_h X R) Q := by
    intro d Q kk
    refine head d Q ?_
    refine rw_if rfl (fun _ => ?_) (fun h8 => absurd (rw_neF h8) (nI_ne0 hk (by omega)))
    refine rw_step rfl rfl ?_
    refine rc_gv rfl tR rfl (e1.2.2.1.trans g1.2.1) ?_
    refine rw_step rfl rfl ?_
    refine rw_step rfl rfl ?_
    refine rw_step rfl rfl ?_
    refine rc_call rfl tR (by decide) rfl rfl rfl rfl ?_
    refine rk_nodeIs tR (rg_npH H hr) sz g0.1 ham ?_
    refine rw_step rfl rfl ?_
    refine rw_step rfl rfl ?_
    refine rw_step rfl rfl ?_
    refine rw_step rfl rfl ?_
    refine rw_step rfl rfl ?_
    refine rw_step rfl rfl ?_
    refine rc_call rfl tR (by decide) rfl rfl rfl rfl ?_
    refine rk_behind tR ?_
    have ea : (if nI a + 1 < X (2 + 44 * r) 3 then nI a + 1 else 0) = nI (if a + 1 < m then a + 1 else 0) := by
      rw [sz, nI_1]
      by_cases c : a + 1 < m
      · rw [if_pos c, if_pos (nI_lt c (by omega))]
      · rw [if_neg c, if_neg (nI_nlt (by omega) (by omega))]; rfl
    rw [ea]
    refine rc_p rfl tR rfl rfl ?_
    refine rw_step rfl rfl ?_
    refine rc_gr rfl tR rfl ?_
    refine rc_gv rfl tS rfl ((rk_ne (by omega)).trans sk) ?_
    exact kk
  have ha'm : (if a + 1 < m then a + 1 else 0) < m ∨ (if a + 1 < m then a + 1 else 0) = 0 := by split <;> omega
  by_cases hk4 : k = 4
  · subst hk4
    obtain ⟨H1, R1, hz⟩ := rg_meetP (x := nI (if a + 1 < m then a + 1 else 0)) hr H h9 hon hN ham rfl rfl
    obtain ⟨E1, E2, E3, E4⟩ := rg_R_E R1
    refine ⟨rr_mv (rr_step A r n) r n A A, fun d Q hq => rr_moveGo hr hn hmem hsig hat hon.2.2 hpg (fun h8 => absurd (h8.symm.trans g1.2.2.2.1) (by decide)) (fun h8 => absurd (h8.symm.trans g1.2.2.2.1) (by decide)) hq, fun d Q hq => go d Q ?_⟩
    have s21 : rr_step A r n 21 r = nI 4 := (sat 21 r (by omega)).trans g1.2.2.2.1
    rw [rr_mv, s21, if_neg (by decide), if_neg (by decide), if_neg (by decide), sat 29 r (by omega), hstep] at hq
    refine rw_step rfl rfl ?_
    refine rw_step rfl rfl ?_
    refine rw_step rfl rfl ?_
    refine rc_call rfl tR (by decide) rfl rfl rfl rfl ?_
    refine rw_ent rfl rfl rfl ?_
    refine rw_step rfl rfl ?_
    refine rw_step rfl rfl ?_
    refine rc_p rfl tN rfl rfl ?_
    have o1 : rg_o nd r a ≠ 2 + 44 * r := rk_tne tN tR rfl
    have o2 : 2 + 44 * r + 42 ≠ rg_o nd r a := rk_tne tS tN rfl
    refine rw_step rfl rfl ?_
    refine rc_gv rfl tN rfl ((rk_ne2 (by decide)).trans ((rk_ne o1).trans hN.2.2.1.1)) ?_
    refine rw_step rfl rfl ?_
    refine rc_gr rfl tR rfl ?_
    refine rc_gv rfl tS rfl ((rk_ne o2).trans ((rk_ne (by omega)).trans e3.2.2.2)) ?_
    refine rw_icmp rfl (fun h8 => ?_) (fun h8 => ?_)
    · rw [if_neg (rw_ne h8)] at hq
      refine rw_ret rfl rfl rfl ?_
      exact rw_ret rfl rfl rfl (hq _ (rg_monoB (by omega) H1))
    · have h29 := rw_neF h8
      rw [if_pos h29] at hq
      refine rw_step rfl rfl ?_
      refine rc_gr rfl tR rfl ?_
      refine rw_step rfl rfl ?_
      refine rw_step rfl rfl ?_
      refine rc_call rfl tS (by decide) rfl rfl rfl rfl ?_
      refine rk_becomeT (d := d + 3) tS ?_
      refine rw_ret rfl rfl rfl ?_
      refine rw_ret rfl rfl rfl (hq _ (rg_monoB (B := B) (by omega) ?_))
      refine rg_setTok (p' := 0) (v' := 0) hr H1 R1 hm (by omega) (by omega) rfl rfl (rg_S0 (fun n' h7 => hz h29 n' ?_))
      simpa [rg_on, rr_up_at] using h7
  · obtain ⟨H1, R1⟩ := rg_stepAt (x := nI (if a + 1 < m then a + 1 else 0)) hr H h9 hk4 ha'm rfl
    rw [← hstep] at H1 R1
    obtain ⟨E1, E2, E3, E4⟩ := rg_R_E R1
    have on1 : rg_on (rr_step A r n) r n := by
      unfold rg_on
      rw [sat 2 n (by omega), sat 3 n (by omega)]
      exact hon
    obtain ⟨w1, h1, q1, N1⟩ := rg_here_at H1 hr b0.2.1 on1 ((sat 0 n (by omega)).trans b1.2.1)
    have : k = 1 ∨ k = 2 ∨ k = 3 := by omega
    rcases this with hk | hk | hk
    · subst hk
      obtain ⟨E, hE, hEc⟩ := rg_meetT H1 hr on1 N1 R1 ham rfl
      refine ⟨rr_mv (rr_step A r n) r n E A, fun d Q hq => rr_moveGo hr hn hmem hsig hat hon.2.2 hpg (fun _ Q' hq' => hE (d + 1) Q' hq') (fun h8 => absurd (h8.symm.trans g1.2.2.2.1) (by decide)) hq, fun d Q hq => go d Q ?_⟩
      have s21 : rr_step A r n 21 r = 1 := (sat 21 r (by omega)).trans g1.2.2.2.1
      rw [rr_mv, s21, if_pos rfl] at hq
      refine rw_step rfl rfl ?_
      refine rw_step rfl rfl ?_
      refine rw_step rfl rfl ?_
      refine rc_call rfl tR (by decide) rfl rfl rfl rfl ?_
      refine hEc (d + 1) _ (fun X' H' => ?_)
      refine rw_step rfl rfl ?_
      exact rw_ret rfl rfl rfl (hq X' (rg_monoB (by omega) H'))
    · subst hk
      obtain ⟨G, hG, hGc⟩ := rg_meetF H1 hB hr on1 N1 R1 ham rfl
      refine ⟨rr_mv (rr_step A r n) r n A G, fun d Q hq => rr_moveGo hr hn hmem hsig hat hon.2.2 hpg (fun h8 => absurd (h8.symm.trans g1.2.2.2.1) (by decide)) (fun _ Q' hq' => hG d Q' hq') hq, fun d Q hq => go d Q ?_⟩
      have s21 : rr_step A r n 21 r = 2 := (sat 21 r (by omega)).trans g1.2.2.2.1
      rw [rr_mv, s21, if_neg (by decide), if_pos rfl] at hq
      refine rw_step rfl rfl ?_
      refine rw_step rfl rfl ?_
      refine rw_step rfl rfl ?_
      refine rw_step rfl rfl ?_
      refine rc_call rfl rfl (by decide) rfl rfl rfl rfl ?_
      refine hGc d _ (fun X' H' => ?_)
      refine rw_step rfl rfl ?_
      exact rw_ret rfl rfl rfl (hq X' H')
    · subst hk
      refine ⟨rr_mv (rr_step A r n) r n A A, fun d Q hq => rr_moveGo hr hn hmem hsig hat hon.2.2 hpg (fun h8 => absurd (h8.symm.trans g1.2.2.2.1) (by decide)) (fun h8 => absurd (h8.symm.trans g1.2.2.2.1) (by decide)) hq, fun d Q hq => go d Q ?_⟩
      have s21 : rr_step A r n 21 r = 3 := (sat 21 r (by omega)).trans g1.2.2.2.1
      rw [rr_mv, s21, if_neg (by decide), if_neg (by decide), if_pos rfl] at hq
      have xn3 : rr_up X (2 + 44 * r) 4 (nI (if a + 1 < m then a + 1 else 0)) (rg_o nd r a) 3 = rr_addr (nI n) := N1.2.2.1.1
      refine rw_step rfl rfl ?_
      refine rw_step rfl rfl ?_
      refine rw_step rfl rfl ?_
      refine rc_call rfl tR (by decide) rfl rfl rfl rfl ?_
      refine rw_ent rfl rfl rfl ?_
      refine rw_step rfl rfl ?_
      refine rc_gv rfl tN rfl xn3 ?_
      refine rw_step rfl rfl ?_
      refine rc_gr rfl tR rfl ?_
      refine rc_gv rfl tS rfl E3.2.2.2 ?_
      refine rw_icmp rfl (fun h8 => ?_) (fun h8 => ?_)
      · have hle : rr_addr (nI n) ≤ rr_step A r n 29 r := of_decide_eq_true h8
        refine rw_step rfl rfl ?_
        refine rc_gv rfl tN rfl xn3 ?_
        refine rw_step rfl rfl ?_
        refine rc_gr rfl tR rfl ?_
        refine rc_gv rfl tS rfl E3.2.2.2 ?_
        refine rw_icmp rfl (fun h7 => ?_) (fun h7 => ?_)
        · rw [if_neg (rw_ne h7), if_pos hle] at hq
          refine rw_ret rfl rfl rfl ?_
          refine rw_step rfl rfl ?_
          exact rw_ret rfl rfl rfl (hq _ (rg_monoB (by omega) H1))
        · rw [if_pos (rw_neF h7)] at hq
          obtain ⟨H2, R2⟩ := rg_monS hr H1 R1 on1 rfl
          refine rw_step rfl rfl ?_
          refine rw_step rfl rfl ?_
          refine rc_gv rfl tN rfl xn3 ?_
          refine rc_p rfl tR rfl rfl ?_
          refine rw_step rfl rfl ?_
          refine rc_call rfl tR (by decide) rfl rfl rfl rfl ?_
          refine rk_startP tR ?_
          refine rw_ret rfl rfl rfl ?_
          refine rw_step rfl rfl ?_
          refine rw_ret rfl rfl rfl (hq _ (rg_monoB (B := B) (by omega) ?_))
          have hon2 : rg_on (rr_up (rr_step A r n) 30 r (rr_addr (nI n))) r n := by simpa [rg_on, rr_up_at] using on1
          have := rg_purge (x := nI (if a + 1 < m then a + 1 else 0)) hr H2 R2 hon2 (rr_up_same _ _ _ _).symm (by rw [rr_up_at, if_neg (by omega), sat 0 n (by omega)]; exact b1.2.1) ham rfl
          rw [rg_up_id (by rw [rk_ne2 (by decide), rr_up_same])] at this
          exact this
      · have hle : ¬ rr_addr (nI n) ≤ rr_step A r n 29 r := of_decide_eq_false h8
        have hne : ¬ rr_addr (nI n) = rr_step A r n 29 r := fun h7 => hle (by rw [h7]; exact Int32.le_refl _)
        rw [if_neg hne, if_neg hle] at hq
        refine rw_step rfl rfl ?_
        refine rc_gr rfl tR rfl ?_
        refine rw_step rfl rfl ?_
        refine rc_gv rfl tN rfl xn3 ?_
        refine rc_p rfl tS rfl rfl ?_
        refine rw_step rfl rfl ?_
        refine rw_ret rfl rfl rfl ?_
        refine rw_step rfl rfl ?_
        exact rw_ret rfl rfl rfl (hq _ (rg_monoB (by omega) (rg_claimer hr H1 R1)))
end RHL
