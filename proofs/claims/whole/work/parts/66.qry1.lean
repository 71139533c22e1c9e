/-! the class: what only looks, again -/
section RGV
variable {d : Nat} {Q : Option Value → rb_H → Prop} {nd : Nat → Nat → Nat} {X A : Nat → Nat → Int32} {R : Nat → Nat → Option Nat} {t : Int32} {B : Nat}
theorem rg_nodeM {x p k : Int32} (H : rg_Rel nd X R A t B) (hq : Q (some (.int (rr_nodeA A x p k))) (rc_h X R)) : rb_cw (d + 2) 16 [.ref 0, .int x, .int p, .int k] (rc_h X R) Q := by
  refine rw_ent rfl rfl rfl ?_
  refine rw_step rfl rfl ?_
  refine rw_step rfl rfl ?_
  refine rc_call rfl rfl (by decide) rfl rfl rfl rfl ?_
  by_cases hx : 0 ≤ x ∧ x ≤ 2
  · obtain ⟨r, hr, rfl⟩ := rr_ring3 hx
    obtain ⟨m, hm5, hm, hX⟩ := rg_size H hr
    refine rk_ring H.1.1.1 hr ?_
    refine rw_step rfl rfl ?_
    refine rw_step rfl rfl ?_
    refine rw_step rfl rfl ?_
    refine rw_step rfl rfl ?_
    refine rw_step rfl rfl ?_
    refine rc_call rfl (rc_tR hr) (by decide) rfl rfl rfl rfl ?_
    by_cases hex : ∃ n, rg_on A r n ∧ A 0 n = p
    · obtain ⟨n, hn, hp⟩ := hex
      obtain ⟨p', w, hh, q, b1, b2⟩ := rg_stand H hr hn hm hm5
      have e : p = nI p' := hp.symm.trans b2.2.1.2.1
      have hN := (rg_npH H hr p' (by omega)).2
      rw [rr_nodeA, rg_at_is H.2.1 hn hp] at hq
      rw [e]
      refine rk_nodeIs (rc_tR hr) (rg_npH H hr) hX hm5 b1 ?_
      refine rw_step rfl rfl ?_
      refine rw_step rfl rfl ?_
      refine rw_step rfl rfl ?_
      refine rw_step rfl rfl ?_
      by_cases hk : 0 ≤ k ∧ k ≤ 2
      · rw [if_pos ⟨hx, hk⟩, if_neg (nI_pos (by have := hn.1; omega)), nI_clamp (by have := hn.1; omega)] at hq
        rcases rg_ran3 hk with rfl | rfl | rfl
        · refine rw_step rfl rfl ?_
          refine rw_step rfl rfl ?_
          refine rc_gv rfl hN rfl b2.2.2.1.1 ?_
          exact rw_ret rfl rfl rfl hq
        · refine rw_step rfl rfl ?_
          refine rw_step rfl rfl ?_
          refine rc_gv rfl hN rfl (b2.2.2.1.2.2.1.trans b2.2.1.2.2.1.symm) ?_
          exact rw_ret rfl rfl rfl hq
        · refine rw_step rfl rfl ?_
          refine rw_step rfl rfl ?_
          refine rc_gv rfl hN rfl (b2.2.2.1.2.2.2.trans b2.2.1.2.2.2.symm) ?_
          exact rw_ret rfl rfl rfl hq
      · rw [if_neg (fun h => hk h.2)] at hq
        refine rw_sw (tg := 78) rfl rfl (rw_swN (fun h => hk (by rw [h]; decide)) (rw_swN (fun h => hk (by rw [h]; decide)) (rw_swN (fun h => hk (by rw [h]; decide)) rfl))) ?_
        refine rw_step rfl rfl ?_
        exact rw_ret rfl rfl rfl hq
    · have hno : p < 0 ∨ X (2 + 44 * r) 3 ≤ p := by
        by_cases h0 : p < 0
        · exact Or.inl h0
        · refine Or.inr ?_
          obtain ⟨j, hj, rfl⟩ := nI_of h0
          rw [hX, nI_leI (by omega) hj]
          refine Nat.not_lt.mp (fun h9 => hex ?_)
          obtain ⟨n, w, h, q, c1, c2⟩ := rg_who H hr hm hm5 h9
          exact ⟨n, c1, c2.2.1.2.1⟩
      have e1 : rr_nodeA A (nI r) p k = -1 := by
        rw [rr_nodeA, rg_at_no (fun n h1 h2 => hex ⟨n, h1, h2⟩)]
        split
        · rfl
        · rfl
      rw [e1] at hq
      refine rk_nodeNo (rc_tR hr) hno ?_
      repeat refine rw_step rfl rfl ?_
      exact rw_ret rfl rfl rfl hq
  · rw [rr_nodeA, if_neg (fun h => hx h.1)] at hq
    refine rk_ringNo hx ?_
    repeat refine rw_step rfl rfl ?_
    exact rw_ret rfl rfl rfl hq
theorem rg_conM {x k : Int32} (H : rg_Rel nd X R A t B) (hq : Q (some (.int (rr_conA A x k))) (rc_h X R)) : rb_cw (d + 2) 18 [.ref 0, .int x, .int k] (rc_h X R) Q := by
  refine rw_ent rfl rfl rfl ?_
  refine rw_step rfl rfl ?_
  refine rw_step rfl rfl ?_
  refine rc_call rfl rfl (by decide) rfl rfl rfl rfl ?_
  by_cases hx : 0 ≤ x ∧ x ≤ 3
  · obtain ⟨c, hc, rfl⟩ := rr_link4 hx
    obtain ⟨g0, g1, g2, g3, g4⟩ := H.2.2.2.2.2 c hc
    have hL := rc_tL hc
    refine rk_link H.1.1.1 hc ?_
    refine rw_step rfl rfl ?_
    refine rw_step rfl rfl ?_
    refine rw_step rfl rfl ?_
    refine rw_step rfl rfl ?_
    refine rc_gv rfl hL rfl g1 ?_
    have sw : (k = 0 ∨ ¬ A 35 c = 0) → rb_wp (d + 1) 18 23 [.ref 0, .int (nI c), .int k, .ref (135 + 5 * c)] [] (rc_h X R) Q := by
      intro h0
      refine rw_step rfl rfl ?_
      by_cases hk : 0 ≤ k ∧ k ≤ 7
      · rw [rr_conA, rr_u4 hc, if_pos ⟨⟨hx, hk⟩, h0⟩] at hq
        obtain ⟨j, hj, rfl⟩ := nI_of2 (M := 7) (n := 7) (x := k) (by decide) (Int32.not_lt.mpr hk.1) hk.2
        rw [nI_clamp (by omega)] at hq
        by_cases hj0 : j = 0
        · subst hj0
          refine rw_step rfl rfl ?_
          refine rw_step rfl rfl ?_
          refine rc_gv rfl hL rfl g1 ?_
          exact rw_ret rfl rfl rfl hq
        have h35 : ¬ A 35 c = 0 := by
          rcases h0 with h0 | h0
          · exact absurd h0 (nI_ne0 (by omega) (by omega))
          · exact h0
        obtain ⟨a, b, p, u, v, f, s, kk, st, e, ik, is, ti, tr, f0, f1, f2, f3, f4, f5, f6, f7⟩ := g4 h35
        have : j = 1 ∨ j = 2 ∨ j = 3 ∨ j = 4 ∨ j = 5 ∨ j = 6 ∨ j = 7 := by omega
        rcases this with rfl | rfl | rfl | rfl | rfl | rfl | rfl
        · refine rw_step rfl rfl ?_
          refine rw_step rfl rfl ?_
          refine rc_gv rfl hL rfl (f3.2.1.trans f3.1.symm) ?_
          exact rw_ret rfl rfl rfl hq
        · refine rw_step rfl rfl ?_
          refine rw_step rfl rfl ?_
          refine rc_gv rfl hL rfl (f3.2.2.2.1.trans f3.2.2.1.symm) ?_
          exact rw_ret rfl rfl rfl hq
        · refine rw_step rfl rfl ?_
          refine rw_step rfl rfl ?_
          refine rc_gr rfl hL rfl ?_
          refine rc_gv rfl (rc_t5 hL).1 rfl (f5.2.1.trans f5.1.symm) ?_
          exact rw_ret rfl rfl rfl hq
        · refine rw_step rfl rfl ?_
          refine rw_step rfl rfl ?_
          refine rc_gv rfl hL rfl (f3.2.2.2.2.2.2.2.2.2.trans f3.2.2.2.2.2.2.2.2.1.symm) ?_
          exact rw_ret rfl rfl rfl hq
        · refine rw_step rfl rfl ?_
          refine rw_step rfl rfl ?_
          refine rc_gr rfl hL rfl ?_
          refine rc_gv rfl (rc_t5 hL).2.2.1 rfl (f6.2.1.trans f6.1.symm) ?_
          exact rw_ret rfl rfl rfl hq
        · refine rw_step rfl rfl ?_
          refine rw_step rfl rfl ?_
          refine rc_gv rfl hL rfl (f3.2.2.2.2.2.2.2.1.trans f3.2.2.2.2.2.2.1.symm) ?_
          exact rw_ret rfl rfl rfl hq
        · have ht := f3.2.2.2.2.2.1.trans f3.2.2.2.2.1.symm
          have hq : Q (some (.int (A 47 c + (if A 46 c = 0 then 0 else 100)))) (rc_h X R) := hq
          refine rw_step rfl rfl ?_
          refine rw_step rfl rfl ?_
          refine rc_gv rfl hL rfl f4.1 ?_
          refine rw_if rfl (fun h8 => ?_) (fun h8 => ?_)
          · have h8 := rw_eq h8
            refine rw_step rfl rfl ?_
            refine rc_gv rfl hL rfl ht ?_
            refine rw_ret rfl rfl rfl ?_
            rw [if_pos h8, Int32.add_zero] at hq
            exact hq
          · have h8 := rw_eqF h8
            refine rw_step rfl rfl ?_
            refine rc_gv rfl hL rfl ht ?_
            repeat refine rw_step rfl rfl ?_
            refine rw_ret rfl rfl rfl ?_
            rw [if_neg h8] at hq
            exact hq
      · rw [rr_conA, if_neg (fun h => hk h.1.2)] at hq
        refine rw_sw (tg := 135) rfl rfl (rw_swN (fun h => hk (by rw [h]; decide)) (rw_swN (fun h => hk (by rw [h]; decide)) (rw_swN (fun h => hk (by rw [h]; decide)) (rw_swN (fun h => hk (by rw [h]; decide)) (rw_swN (fun h => hk (by rw [h]; decide)) (rw_swN (fun h => hk (by rw [h]; decide)) (rw_swN (fun h => hk (by rw [h]; decide)) (rw_swN (fun h => hk (by rw [h]; decide)) rfl)))))))) ?_
        refine rw_step rfl rfl ?_
        exact rw_ret rfl rfl rfl hq
    refine rw_if rfl (fun h8 => sw (Or.inr (rw_ne h8))) (fun h8 => ?_)
    have h8 := rw_neF h8
    refine rw_step rfl rfl ?_
    refine rw_if rfl (fun h7 => sw (Or.inl (rw_eq h7))) (fun h7 => ?_)
    have h7 := rw_eqF h7
    rw [rr_conA, rr_u4 hc, if_neg (fun h => h.2.elim h7 (fun h6 => h6 h8))] at hq
    refine rw_step rfl rfl ?_
    exact rw_ret rfl rfl rfl hq
  · rw [rr_conA, if_neg (fun h => hx h.1.1)] at hq
    refine rk_linkNo hx ?_
    repeat refine rw_step rfl rfl ?_
    exact rw_ret rfl rfl rfl hq
/-- what knownRoute answers -/
theorem rg_known {x y : Int32} (H : rg_Rel nd X R A t B) (hq : Q (some (.int (rr_routeA A x y))) (rc_h X R)) : rb_cw (d + 2) 25 [.ref 0, .int x, .int y] (rc_h X R) Q := by
  by_cases hx : (1 ≤ x ∧ x ≤ 9) ∧ (1 ≤ y ∧ y ≤ 9)
  · obtain ⟨n, hn, rfl⟩ := rr_addr9 hx.1
    obtain ⟨m, hm, rfl⟩ := rr_addr9 hx.2
    refine rk_known H.1.1.1 (by omega) (by omega) (by omega) (by omega) ?_
    rw [rr_routeA, rr_rtE hn hm] at hq
    rcases H.2.2.2.2.1 n m hn hm with ⟨h1, h2⟩ | ⟨h1, u, v, h2, h3, h4, h5⟩
    · rw [if_neg (fun h => h.2 h1)] at hq
      rw [h2]
      exact hq
    · rw [if_pos ⟨hx, by rw [h1]; decide⟩, h3, h4] at hq
      rw [h5]
      have e : nI u - 1 + 1 + 4 * (nI v - 1 + 1) = nI (u + 4 * v) := rk_pth_all (P := fun u v => nI u - 1 + 1 + 4 * (nI v - 1 + 1) = nI (u + 4 * v)) (by decide +kernel) h2
      rw [e] at hq
      exact hq
  · rw [rr_routeA, if_neg (fun h => hx h.1)] at hq
    exact rk_knownNo hx hq
theorem rg_routeM {x y : Int32} (H : rg_Rel nd X R A t B) (hq : Q (some (.int (rr_routeA A x y))) (rc_h X R)) : rb_cw (d + 3) 7 [.ref 0, .int x, .int y] (rc_h X R) Q := by
  refine rw_ent rfl rfl rfl ?_
  repeat refine rw_step rfl rfl ?_
  refine rc_call rfl rfl (by decide) rfl rfl rfl rfl ?_
  refine rg_known H ?_
  exact rw_ret rfl rfl rfl hq
end RGV
