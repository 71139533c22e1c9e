/-! the class: join, bridge, forget, close -/
theorem rg_addrS : ∀ n, n < 9 → ∀ n', n' < 15 → rr_addr (nI n') = nI (n + 1) → n' = n := by decide +kernel
theorem rg_addrP : ∀ k, k < 3 → ∀ n', n' < 15 → rr_addr (nI n') = nI (10 + k) → n' = 9 + 2 * k ∨ n' = 10 + 2 * k := by decide +kernel
theorem rg_addrP' : ∀ k, k < 3 → rr_addr (nI (9 + 2 * k)) = nI (10 + k) ∧ rr_addr (nI (10 + 2 * k)) = nI (10 + k) := by decide +kernel
section RGE
variable {d : Nat} {Q : Option Value → rb_H → Prop} {nd : Nat → Nat → Nat} {X A : Nat → Nat → Int32} {R : Nat → Nat → Option Nat} {t : Int32} {B : Nat}
theorem rg_here (H : rg_Rel nd X R A t B) {n : Nat} (hn : n < 15) (h2 : ¬ A 2 n = 0) : ∃ r, r < 3 ∧ rg_on A r n := by
  obtain ⟨r, p, w, h, q, h9⟩ := H.2.2.2.1 n hn h2
  exact ⟨r, h9.1.1, hn, h2, h9.2.1.1⟩
theorem rg_joinM {x y : Int32} (H : rg_Rel nd X R A t B) (hq : ∀ X', rg_Rel nd X' R (rr_joinA A x y).2 t B → Q (some (.int (rr_joinA A x y).1)) (rc_h X' R)) : rb_cw (d + 3) 1 [.ref 0, .int x, .int y] (rc_h X R) Q := by
  refine rw_ent rfl rfl rfl ?_
  refine rw_step rfl rfl ?_
  refine rw_step rfl rfl ?_
  refine rc_call rfl rfl (by decide) rfl rfl rfl rfl ?_
  by_cases hx : 0 ≤ x ∧ x ≤ 2
  · obtain ⟨r, hr, rfl⟩ := rr_ring3 hx
    obtain ⟨m, hm5, hm, hX⟩ := rg_size H hr
    refine rk_ring H.1.1.1 hr ?_
    refine rw_step rfl rfl ?_
    refine rw_step rfl rfl ?_
    refine rw_step rfl rfl ?_
    refine rw_step rfl rfl ?_
    refine rw_call rfl rfl rfl ?_
    refine rk_isSt ?_
    by_cases hy : 1 ≤ y ∧ y ≤ 9
    · rw [if_pos hy]
      obtain ⟨n, hn, rfl⟩ := rr_addr9 hy
      have e1 : (nI (n + 1) - 1).toNatClampNeg = n := by rw [nI_pred]; exact nI_clamp (by omega)
      rw [rr_joinA, e1, rr_u3 hr] at hq
      refine rw_step rfl rfl ?_
      refine rw_step rfl rfl ?_
      refine rc_call rfl (rc_tR hr) (by decide) rfl rfl rfl rfl ?_
      refine rk_rfull (rc_tR hr) ?_
      rw [hX]
      by_cases h5 : m < 5
      · rw [if_pos (show nI m < 5 from nI_lt (b := 5) h5 (by omega))]
        have h15 : ¬ A 1 r = 5 := fun h => by
          have := (nI_eq (a := m) (b := 5) (by omega) (by omega)).mp (hm.symm.trans h)
          omega
        refine rw_step rfl rfl ?_
        refine rw_step rfl rfl ?_
        refine rw_step rfl rfl ?_
        refine rc_call rfl rfl (by decide) rfl rfl rfl rfl ?_
        refine rg_holding H (fun r' n' hr' h6 h7 => ?_) (fun hno => ?_)
        · have e := rg_addrS n hn n' h6.1 h7
          subst e
          rw [if_neg (fun h => h6.2.1 h.1.2)] at hq
          refine rw_step rfl rfl ?_
          refine rw_step rfl rfl ?_
          exact rw_ret rfl rfl rfl (hq X H)
        · have h2 : A 2 n = 0 := by
            refine Classical.byContradiction (fun h2 => ?_)
            obtain ⟨r', h6, h7⟩ := rg_here H (by omega) h2
            exact hno r' n h6 h7 (rr_addrS hn)
          rw [if_pos ⟨⟨⟨hx, hy⟩, h2⟩, h15⟩] at hq
          dsimp only at hq
          refine rw_step rfl rfl ?_
          refine rw_step rfl rfl ?_
          refine rw_step rfl rfl ?_
          refine rc_call rfl (rc_tR hr) (by decide) rfl rfl rfl rfl ?_
          refine rk_addNode (rc_tR hr) (rg_npH H hr) hX h5 ?_
          refine rw_step rfl rfl ?_
          refine rw_ret rfl rfl rfl ?_
          refine hq _ (rg_of1 (rg_come (by omega) hr (rg_to1 H) h2 hm h5 (rr_addrS hn).symm) ?_)
          intro k hk
          have := H.2.1.2.2 k hk
          have f : ∀ j i, 9 ≤ i → 2 ≤ j → j ≤ 3 → rr_come A n r j i = A j i := by
            intro j i h6 h7 h8
            rw [rg_come_at, if_neg (by omega), if_neg (by omega), if_neg (by omega), if_neg (by omega), if_neg (by omega), if_neg (by omega)]
          rw [f 2 _ (by omega) (by omega) (by omega), f 2 _ (by omega) (by omega) (by omega), f 3 _ (by omega) (by omega) (by omega), f 3 _ (by omega) (by omega) (by omega)]
          exact this
      · rw [if_neg (show ¬ nI m < 5 from nI_nlt (b := 5) (by omega) (by omega))]
        have h15 : A 1 r = 5 := by rw [hm, show m = 5 by omega]; rfl
        rw [if_neg (fun h => h.2 h15)] at hq
        refine rw_step rfl rfl ?_
        refine rw_step rfl rfl ?_
        exact rw_ret rfl rfl rfl (hq X H)
    · rw [if_neg hy]
      rw [rr_joinA, if_neg (fun h => hy h.1.1.2)] at hq
      refine rw_step rfl rfl ?_
      refine rw_step rfl rfl ?_
      exact rw_ret rfl rfl rfl (hq X H)
  · rw [rr_joinA, if_neg (fun h => hx h.1.1.1)] at hq
    refine rk_ringNo hx ?_
    repeat refine rw_step rfl rfl ?_
    exact rw_ret rfl rfl rfl (hq X H)
theorem rg_routeV (H : rg_Rel nd X R A t B) {n m : Nat} (hn : n < 9) (hm : m < 9) (h : ¬ A 32 (9 * n + m) = 0) : ∃ u v, rk_pth u v ∧ A 33 (9 * n + m) = nI u - 1 ∧ A 34 (9 * n + m) = nI v - 1 ∧ rr_routeA A (nI (n + 1)) (nI (m + 1)) = nI (u + 4 * v) := by
  rcases H.2.2.2.2.1 n m hn hm with ⟨h1, h2⟩ | ⟨h1, u, v, h2, h3, h4, h5⟩
  · exact absurd h1 h
  · refine ⟨u, v, h2, h3, h4, ?_⟩
    rw [rr_routeA, rr_rtE hn hm, if_pos ⟨⟨rk_st1 (by omega) (by omega), rk_st1 (by omega) (by omega)⟩, h⟩, h3, h4]
    exact rk_pth_all (P := fun u v => nI u - 1 + 1 + 4 * (nI v - 1 + 1) = nI (u + 4 * v)) (by decide +kernel) h2
theorem rg_code_ne {u v : Nat} (h : rk_pth u v) : ¬ nI (u + 4 * v) = -1 := rk_pth_all (P := fun u v => ¬ nI (u + 4 * v) = -1) (by decide +kernel) h
theorem rg_forgetM {x y : Int32} (H : rg_Rel nd X R A t B) (hq : ∀ X', rg_Rel nd X' R (rr_forgetA A x y).2 t B → Q (some (.int (rr_forgetA A x y).1)) (rc_h X' R)) : rb_cw (d + 3) 6 [.ref 0, .int x, .int y] (rc_h X R) Q := by
  refine rw_ent rfl rfl rfl ?_
  refine rw_step rfl rfl ?_
  refine rw_step rfl rfl ?_
  refine rw_step rfl rfl ?_
  refine rc_call rfl rfl (by decide) rfl rfl rfl rfl ?_
  refine rg_known H ?_
  by_cases hc : ((1 ≤ x ∧ x ≤ 9) ∧ (1 ≤ y ∧ y ≤ 9)) ∧ ¬ A 32 (rr_rt x y) = 0
  · rw [rr_forgetA, if_pos hc] at hq
    obtain ⟨⟨hx, hy⟩, h32⟩ := hc
    obtain ⟨n, hn, rfl⟩ := rr_addr9 hx
    obtain ⟨m, hm, rfl⟩ := rr_addr9 hy
    rw [rr_rtE hn hm] at hq h32
    dsimp only at hq
    obtain ⟨u, v, h1, h2, h3, h4⟩ := rg_routeV H hn hm h32
    rw [h4]
    refine rw_step rfl rfl ?_
    refine rw_icmp rfl (fun _ => ?_) (fun h9 => absurd (rw_neF h9) (rg_code_ne h1))
    refine rw_step rfl rfl ?_
    refine rw_step rfl rfl ?_
    refine rw_step rfl rfl ?_
    refine rw_step rfl rfl ?_
    refine rc_call rfl rfl (by decide) rfl rfl rfl rfl ?_
    refine rk_setRoute H.1.1.1 (by omega) (by omega) (by omega) (by omega) ?_
    refine rw_step rfl rfl ?_
    refine rw_ret rfl rfl rfl ?_
    refine hq _ (rg_routes H (fun q j h9 => rk_ne (by omega)) (fun j i h9 => by rw [rr_up_at, if_neg (by omega)]) (fun a b ha hb => ?_))
    by_cases e : a = n ∧ b = m
    · obtain ⟨rfl, rfl⟩ := e
      exact Or.inl ⟨rr_up_same _ _ _ _, rr_up_same _ _ _ _⟩
    · exact rg_T_congr (by rw [rr_up_at, if_neg (by omega)]) (by rw [rr_up_at, if_neg (by omega)]) (by rw [rr_up_at, if_neg (by omega)]) (by rw [rr_up_at, if_neg (by omega)]) (H.2.2.2.2.1 a b ha hb)
  · rw [rr_forgetA, if_neg hc] at hq
    have e : rr_routeA A x y = -1 := by rw [rr_routeA, if_neg hc]
    rw [e]
    refine rw_step rfl rfl ?_
    refine rw_step rfl rfl ?_
    refine rw_step rfl rfl ?_
    exact rw_ret rfl rfl rfl (hq X H)
theorem rg_closeM {x : Int32} (H : rg_Rel nd X R A t B) (hq : ∀ X', rg_Rel nd X' R (rr_closeA A x).2 t B → Q (some (.int (rr_closeA A x).1)) (rc_h X' R)) : rb_cw (d + 2) 9 [.ref 0, .int x] (rc_h X R) Q := by
  refine rw_ent rfl rfl rfl ?_
  refine rw_step rfl rfl ?_
  refine rw_step rfl rfl ?_
  refine rc_call rfl rfl (by decide) rfl rfl rfl rfl ?_
  by_cases hx : 0 ≤ x ∧ x ≤ 3
  · obtain ⟨c, hc, rfl⟩ := rr_link4 hx
    rw [rr_closeA, if_pos hx, rr_u4 hc] at hq
    obtain ⟨g0, g1, g2, g3, g4⟩ := H.2.2.2.2.2 c hc
    have hL := rc_tL hc
    refine rk_link H.1.1.1 hc ?_
    refine rw_step rfl rfl ?_
    refine rw_step rfl rfl ?_
    refine rw_step rfl rfl ?_
    refine rw_step rfl rfl ?_
    refine rc_gv rfl hL rfl g1 ?_
    refine rw_if rfl (fun h9 => ?_) (fun h9 => ?_)
    · rw [if_neg (rw_ne h9)] at hq
      dsimp only at hq
      refine rw_step rfl rfl ?_
      refine rw_step rfl rfl ?_
      refine rc_p rfl hL rfl rfl ?_
      refine rw_step rfl rfl ?_
      refine rw_ret rfl rfl rfl ?_
      refine hq _ (rg_link hc H (Nat.le_refl _) (fun q j h8 => rk_ne (by omega)) (fun j i h8 => by rw [rr_up_at, if_neg (by omega)]) ?_)
      obtain ⟨O, hO, hO2, hO3⟩ := g3
      refine ⟨?_, ?_, Or.inl (rr_up_same _ _ _ _), ⟨O, hO, ?_, ?_⟩, fun h8 => absurd (rr_up_same _ _ _ _) h8⟩
      · rw [rk_ne2 (by decide), rk_ne2 (by decide), rk_ne2 (by decide)]; exact g0
      · rw [rr_up_same, rr_up_same]
      · rw [rr_up_at, if_neg (by omega)]; exact hO2
      · rw [rk_ne2 (by decide)]; exact hO3
    · rw [if_pos (rw_neF h9)] at hq
      refine rw_step rfl rfl ?_
      exact rw_ret rfl rfl rfl (hq X H)
  · rw [rr_closeA, if_neg hx] at hq
    refine rk_linkNo hx ?_
    repeat refine rw_step rfl rfl ?_
    exact rw_ret rfl rfl rfl (hq X H)
end RGE
