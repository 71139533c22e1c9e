/-! the class: bridge -/
section RGF
variable {d : Nat} {Q : Option Value → rb_H → Prop} {nd : Nat → Nat → Nat} {X A : Nat → Nat → Int32} {R : Nat → Nat → Option Nat} {t : Int32} {B : Nat}
theorem rg_bridgeM {b x y : Int32} (H : rg_Rel nd X R A t B) (hq : ∀ X', rg_Rel nd X' R (rr_brA A b x y).2 t B → Q (some (.int (rr_brA A b x y).1)) (rc_h X' R)) : rb_cw (d + 3) 2 [.ref 0, .int b, .int x, .int y] (rc_h X R) Q := by
  have no : ∀ ls : List Value, (rr_brA A b x y) = (0, A) → rb_wp (d + 2) 2 38 ls [] (rc_h X R) Q := by
    intro ls h
    rw [h] at hq
    refine rw_step rfl rfl ?_
    exact rw_ret rfl rfl rfl (hq X H)
  have no2 : ∀ ls : List Value, (rr_brA A b x y) = (0, A) → rb_wp (d + 2) 2 71 ls [] (rc_h X R) Q := by
    intro ls h
    rw [h] at hq
    refine rw_step rfl rfl ?_
    exact rw_ret rfl rfl rfl (hq X H)
  refine rw_ent rfl rfl rfl ?_
  refine rw_step rfl rfl ?_
  refine rw_step rfl rfl ?_
  refine rc_call rfl rfl (by decide) rfl rfl rfl rfl ?_
  -- what the two rings are does not matter until both are asked for
  by_cases hx : 0 ≤ x ∧ x ≤ 2
  · obtain ⟨r, hr, rfl⟩ := rr_ring3 hx
    obtain ⟨m, hm5, hm, hX⟩ := rg_size H hr
    refine rk_ring H.1.1.1 hr ?_
    refine rw_step rfl rfl ?_
    refine rw_step rfl rfl ?_
    refine rw_step rfl rfl ?_
    refine rc_call rfl rfl (by decide) rfl rfl rfl rfl ?_
    by_cases hy : 0 ≤ y ∧ y ≤ 2
    · obtain ⟨s, hs, rfl⟩ := rr_ring3 hy
      obtain ⟨m', hm5', hm', hX'⟩ := rg_size H hs
      refine rk_ring H.1.1.1 hs ?_
      refine rw_step rfl rfl ?_
      refine rw_step rfl rfl ?_
      refine rw_if rfl (fun h => no _ (by rw [rr_brA, if_neg (fun h9 => absurd (of_decide_eq_true h) (Int32.not_lt.mpr h9.1.1.1.1))])) (fun h1 => ?_)
      have h1 : 0 ≤ b := Int32.not_lt.mp (of_decide_eq_false h1)
      refine rw_step rfl rfl ?_
      refine rw_step rfl rfl ?_
      have b3 : (3 : Int32) ≤ b → ¬ b ≤ 2 := by
        intro h9 h8
        rw [Int32.le_iff_toInt_le] at h9 h8
        have e3 : (3 : Int32).toInt = 3 := by decide
        have e2 : (2 : Int32).toInt = 2 := by decide
        omega
      have b2 : ¬ (3 : Int32) ≤ b → b ≤ 2 := by
        intro h9
        rw [Int32.le_iff_toInt_le] at h9 ⊢
        have e3 : (3 : Int32).toInt = 3 := by decide
        have e2 : (2 : Int32).toInt = 2 := by decide
        omega
      refine rw_icmp rfl (fun h => no _ (by rw [rr_brA, if_neg (fun h9 => b3 (of_decide_eq_true h) h9.1.1.1.2)])) (fun h2 => ?_)
      have h2 : b ≤ 2 := b2 (of_decide_eq_false h2)
      obtain ⟨k, hk, rfl⟩ := rr_ring3 ⟨h1, h2⟩
      refine rw_step rfl rfl ?_
      refine rw_step rfl rfl ?_
      refine rw_step rfl rfl ?_
      refine rw_step rfl rfl ?_
      refine rw_step rfl rfl ?_
      refine rw_step rfl rfl ?_
      refine rw_icmp rfl (fun h3 => ?_) (fun h3 => no _ (by rw [rr_brA, if_neg (fun h9 => h9.1.2 (rw_neF h3))]))
      have h3 := rw_ne h3
      have hrs : ¬ s = r := fun h => h3 (by rw [h])
      have ebr : ∀ z : Int32 × (Nat → Nat → Int32), z = rr_brA A (nI k) (nI r) (nI s) → (A 2 (9 + 2 * k) = 0 ∧ (¬ A 1 r = 5 ∧ ¬ A 1 s = 5) → z = (1, rr_come (rr_come A (9 + 2 * k) r) (10 + 2 * k) s)) ∧ (¬ (A 2 (9 + 2 * k) = 0 ∧ (¬ A 1 r = 5 ∧ ¬ A 1 s = 5)) → z = (0, A)) := by
        intro z hz
        rw [rr_brA, rr_u3 hk, rr_u3 hr, rr_u3 hs] at hz
        refine ⟨fun h9 => ?_, fun h9 => ?_⟩
        · rw [hz, if_pos ⟨⟨⟨⟨h1, h2⟩, hx, hy⟩, h3⟩, h9⟩]
        · rw [hz, if_neg (fun h8 => h9 h8.2)]
      refine rw_step rfl rfl ?_
      refine rw_step rfl rfl ?_
      refine rw_step rfl rfl ?_
      refine rw_step rfl rfl ?_
      refine rw_step rfl rfl ?_
      refine rc_call rfl (rc_tR hr) (by decide) rfl rfl rfl rfl ?_
      refine rk_rfull (rc_tR hr) ?_
      rw [hX]
      by_cases h5 : m < 5
      · rw [if_pos (show nI m < 5 from nI_lt (b := 5) h5 (by omega))]
        have h15 : ¬ A 1 r = 5 := fun h => by
          have := (nI_eq (a := m) (b := 5) (by omega) (by omega)).mp (hm.symm.trans h)
          omega
        refine rw_step rfl rfl ?_
        refine rw_step rfl rfl ?_
        refine rc_call rfl (rc_tR hs) (by decide) rfl rfl rfl rfl ?_
        refine rk_rfull (rc_tR hs) ?_
        rw [hX']
        by_cases h5' : m' < 5
        · rw [if_pos (show nI m' < 5 from nI_lt (b := 5) h5' (by omega))]
          have h15' : ¬ A 1 s = 5 := fun h => by
            have := (nI_eq (a := m') (b := 5) (by omega) (by omega)).mp (hm'.symm.trans h)
            omega
          refine rw_step rfl rfl ?_
          refine rw_step rfl rfl ?_
          refine rw_step rfl rfl ?_
          refine rc_call rfl rfl (by decide) rfl rfl rfl rfl ?_
          have ek : (10 : Int32) + nI k = nI (10 + k) := nI_add 10 k
          show rb_cw (d + 2) 22 [.ref 0, .int ((10 : Int32) + nI k)] _ _
          rw [ek]
          refine rg_holding H (fun r' n' hr' h6 h7 => ?_) (fun hno => ?_)
          · have hh : ¬ A 2 (9 + 2 * k) = 0 := by
              rcases rg_addrP k hk n' h6.1 h7 with e | e
              · subst e; exact h6.2.1
              · subst e
                exact fun h9 => h6.2.1 ((H.2.1.2.2 k hk).1.mp h9)
            refine rw_step rfl rfl ?_
            exact no2 _ ((ebr _ rfl).2 (fun h9 => hh h9.1))
          · have h2a : A 2 (9 + 2 * k) = 0 := by
              refine Classical.byContradiction (fun h9 => ?_)
              obtain ⟨r', h6, h7⟩ := rg_here H (by omega) h9
              exact hno r' _ h6 h7 (rg_addrP' k hk).1
            have h2b : A 2 (10 + 2 * k) = 0 := (H.2.1.2.2 k hk).1.mp h2a
            rw [(ebr _ rfl).1 ⟨h2a, h15, h15'⟩] at hq
            dsimp only at hq
            refine rw_step rfl rfl ?_
            refine rw_step rfl rfl ?_
            refine rw_step rfl rfl ?_
            refine rc_call rfl (rc_tR hr) (by decide) rfl rfl rfl rfl ?_
            show rb_cw (d + 2) 118 [.ref (2 + 44 * r), .int ((10 : Int32) + nI k)] _ _
            rw [ek]
            refine rk_addNode (rc_tR hr) (rg_npH H hr) hX h5 ?_
            have H1 := rg_come (x := nI (10 + k)) (show 9 + 2 * k < 15 by omega) hr (rg_to1 H) h2a hm h5 (rg_addrP' k hk).1.symm
            have hXs : rr_up (rk_nbX X (rg_o nd r m) (nI (10 + k))) (2 + 44 * r) 3 (nI (m + 1)) (2 + 44 * s) 3 = nI m' := by
              have hnd := (H.1.1.2 r hr m h5).2.1
              have hne : ¬ 2 + 44 * s = rg_o nd r m := by unfold rg_o; omega
              rw [rk_ne (by omega), rk_nbX, rk_ne hne, rk_ne hne, rk_ne hne, rk_ne hne, hX']
            have hA2 : rr_come A (9 + 2 * k) r 2 (10 + 2 * k) = 0 := by
              rw [rg_come_at, if_neg (by omega), if_neg (by omega), if_neg (by omega), if_neg (by omega), if_neg (by omega), if_neg (by omega), h2b]
            have hA1 : rr_come A (9 + 2 * k) r 1 s = nI m' := by
              rw [rg_come_at, if_neg (by omega), if_neg (by omega), if_neg (by omega), if_neg (by omega), if_neg (by omega), if_neg (by omega), hm']
            have H2 := rg_come (x := nI (10 + k)) (show 10 + 2 * k < 15 by omega) hs H1 hA2 hA1 h5' (rg_addrP' k hk).2.symm
            refine rw_step rfl rfl ?_
            refine rw_step rfl rfl ?_
            refine rc_call rfl (rc_tR hs) (by decide) rfl rfl rfl rfl ?_
            show rb_cw (d + 2) 118 [.ref (2 + 44 * s), .int ((10 : Int32) + nI k)] _ _
            rw [ek]
            refine rk_addNode (rc_tR hs) (rg_npH H hs) hXs h5' ?_
            refine rw_step rfl rfl ?_
            refine rw_ret rfl rfl rfl ?_
            refine hq _ (rg_of1 H2 ?_)
            have one : ¬ (1 : Int32) = 0 := by decide
            have f2 : ∀ i, rr_come (rr_come A (9 + 2 * k) r) (10 + 2 * k) s 2 i = if i = 10 + 2 * k then 1 else if i = 9 + 2 * k then 1 else A 2 i := by
              intro i
              simp [rg_come_at]
            have f3 : ∀ i, rr_come (rr_come A (9 + 2 * k) r) (10 + 2 * k) s 3 i = if i = 10 + 2 * k then nI s else if i = 9 + 2 * k then nI r else A 3 i := by
              intro i
              simp [rg_come_at]
            intro k' hk'
            by_cases e : k' = k
            · subst e
              have a1 : rr_come (rr_come A (9 + 2 * k') r) (10 + 2 * k') s 2 (9 + 2 * k') = 1 := by rw [f2, if_neg (by omega), if_pos rfl]
              have a2 : rr_come (rr_come A (9 + 2 * k') r) (10 + 2 * k') s 2 (10 + 2 * k') = 1 := by rw [f2, if_pos rfl]
              have a3 : rr_come (rr_come A (9 + 2 * k') r) (10 + 2 * k') s 3 (9 + 2 * k') = nI r := by rw [f3, if_neg (by omega), if_pos rfl]
              have a4 : rr_come (rr_come A (9 + 2 * k') r) (10 + 2 * k') s 3 (10 + 2 * k') = nI s := by rw [f3, if_pos rfl]
              rw [a1, a2, a3, a4]
              exact ⟨⟨fun h9 => absurd h9 one, fun h9 => absurd h9 one⟩, fun _ => h3⟩
            · rw [f2, f2, f3, f3, if_neg (by omega), if_neg (by omega), if_neg (by omega), if_neg (by omega), if_neg (by omega), if_neg (by omega), if_neg (by omega), if_neg (by omega)]
              exact H.2.1.2.2 k' hk'
        · rw [if_neg (show ¬ nI m' < 5 from nI_nlt (b := 5) (by omega) (by omega))]
          have h15' : A 1 s = 5 := by rw [hm', show m' = 5 by omega]; rfl
          refine rw_step rfl rfl ?_
          exact no2 _ ((ebr _ rfl).2 (fun h9 => h9.2.2 h15'))
      · rw [if_neg (show ¬ nI m < 5 from nI_nlt (b := 5) (by omega) (by omega))]
        have h15 : A 1 r = 5 := by rw [hm, show m = 5 by omega]; rfl
        refine rw_step rfl rfl ?_
        exact no2 _ ((ebr _ rfl).2 (fun h9 => h9.2.1 h15))
    · refine rk_ringNo hy ?_
      have hz : rr_brA A b (nI r) y = (0, A) := by rw [rr_brA, if_neg (fun h9 => hy h9.1.1.2.2)]
      refine rw_step rfl rfl ?_
      refine rw_step rfl rfl ?_
      refine rw_if rfl (fun _ => no _ hz) (fun _ => ?_)
      refine rw_step rfl rfl ?_
      refine rw_step rfl rfl ?_
      refine rw_icmp rfl (fun _ => no _ hz) (fun _ => ?_)
      refine rw_step rfl rfl ?_
      refine rw_step rfl rfl ?_
      refine rw_step rfl rfl ?_
      refine rw_step rfl rfl ?_
      exact no _ hz
  · refine rk_ringNo hx ?_
    have hz : rr_brA A b x y = (0, A) := by rw [rr_brA, if_neg (fun h9 => hx h9.1.1.2.1)]
    refine rw_step rfl rfl ?_
    refine rw_step rfl rfl ?_
    refine rw_step rfl rfl ?_
    refine rc_call rfl rfl (by decide) rfl rfl rfl rfl ?_
    have tail : ∀ v : Value, rb_wp (d + 2) 2 14 [.ref 0, .int b, .int x, .int y, .null, v, .retAddr 0] [] (rc_h X R) Q := by
      intro v
      refine rw_step rfl rfl ?_
      refine rw_if rfl (fun _ => no _ hz) (fun _ => ?_)
      refine rw_step rfl rfl ?_
      refine rw_step rfl rfl ?_
      refine rw_icmp rfl (fun _ => no _ hz) (fun _ => ?_)
      refine rw_step rfl rfl ?_
      refine rw_step rfl rfl ?_
      exact no _ hz
    by_cases hy : 0 ≤ y ∧ y ≤ 2
    · obtain ⟨s, hs, rfl⟩ := rr_ring3 hy
      refine rk_ring H.1.1.1 hs ?_
      refine rw_step rfl rfl ?_
      exact tail _
    · refine rk_ringNo hy ?_
      refine rw_step rfl rfl ?_
      exact tail _
end RGF
