/-! the class: a station uses a frame of a connection -/
section RHD
variable {nd : Nat → Nat → Nat} {X A : Nat → Nat → Int32} {R : Nat → Nat → Option Nat} {t : Int32} {B : Nat}
theorem rg_latX {e zz : Nat} : ((nI e &&& 7) - nI zz) &&& 7 = nI ((e % 8 + 7 * zz) % 8) := by rw [rg_and7, rg_sub7]
theorem rg_latA {e zz : Nat} (hz : zz < 8) (he : e < 2 ^ 31) : rr_rem (rr_rem (nI e) 8 - nI zz + 8) 8 = nI ((e % 8 + 7 * zz) % 8) := by
  rw [rg_rem8 he]
  have e1 : nI (e % 8) - nI zz + 8 = nI (e % 8 + 8 - zz) := by
    have h1 : nI (e % 8 + 8 - zz) = nI (e % 8 + 8) - nI zz := (rg_sub (by omega)).symm
    rw [h1, ← nI_add (e % 8) 8]
    have : (8 : Int32) = nI 8 := rfl
    rw [this, Int32.sub_eq_add_neg, Int32.sub_eq_add_neg, Int32.add_assoc, Int32.add_assoc, Int32.add_comm (-nI zz)]
  rw [e1, rg_rem8 (by omega)]
  congr 1
  omega
theorem rg_C_mono {c B' a b p u v f s k st e ik is ti tr : Nat} (h : B ≤ B') (hC : rg_C X A c B a b p u v f s k st e ik is ti tr) : rg_C X A c B' a b p u v f s k st e ik is ti tr := by
  obtain ⟨f0, f1⟩ := hC
  exact ⟨⟨f0.1, f0.2.1, f0.2.2.1, f0.2.2.2.1, f0.2.2.2.2.1, f0.2.2.2.2.2.1, by omega, by omega, by omega, by omega, by omega, by omega, by omega, by omega, by omega, by omega⟩, f1⟩
/-- a node's queue after something else has changed -/
theorem rg_N_keep {X' A' : Nat → Nat → Int32} {n r pl w h q : Nat} (H : rg_Rel nd X R A t B) (hN : rg_N nd X A n r pl w h q) (hX : ∀ q' j, q' < 134 → X' q' j = X q' j) (hA : ∀ j i, j ≤ 20 → A' j i = A j i) (h37 : ∀ c, c < 4 → A' 37 c = A 37 c) (h41 : ∀ c, c < 4 → A' 41 c = A 41 c) : rg_N nd X' A' n r pl w h q := by
  have h1 := hN.1
  have h2 := (H.1.1.2 r h1.1 pl h1.2.1).2.1
  refine rg_N_congr rfl (fun i j hi => hX _ j ?_) (hA _ _ (by omega)) (hA _ _ (by omega)) (hA _ _ (by omega)) (hA _ _ (by omega)) (fun i _ => ⟨hA _ _ (by omega), hA _ _ (by omega)⟩) (fun j i _ _ _ => hA _ _ (by omega)) h37 h41 hN
  unfold rg_o
  omega
theorem rg_use {S r n pl w h q : Nat} {z : Int32} (hS : rc_ty S = 4) (H : rg_Rel nd X R A t B) (hB : B < 900000) (hr : r < 3) (hn : n < 9) (hon : rg_on A r n) (hN : rg_N nd X A n r pl w h q) (hf : rg_F (X (2 + 44 * r + 43)) (fun j => A j (60 + r)) (A 41) (A 37)) (hk0 : ¬ A 8 (60 + r) = 0) (hk1 : ¬ A 8 (60 + r) = 1) (h11 : A 11 (60 + r) = nI (n + 1)) :
    ∃ c ib mm o, rr_useOk A (60 + r) c ib n w mm o ∧ ∀ (d : Nat) (Q : Option Value → rb_H → Prop), (∀ X', rg_Rel nd X' R (rr_use A (60 + r) c ib n w mm o) t (B + 1) → Q none (rc_h (rr_up X' S 7 z) R)) → rb_cw (d + 4) 35 [.ref 0, .ref (rg_o nd r pl), .ref (2 + 44 * r + 43)] (rc_h (rr_up X S 7 z) R) Q := by
  obtain ⟨kk, p, a, b, u, v, s, t', f1, f2, f3, f4, f5, f6, f7, f8⟩ := hf
  have f1a : A 8 (60 + r) = nI kk := f1.1
  have hk2 : 2 ≤ kk := by
    have h0 : ¬ kk = 0 := fun h => hk0 (by rw [f1a, h]; rfl)
    have h1 : ¬ kk = 1 := fun h => hk1 (by rw [f1a, h]; rfl)
    omega
  obtain ⟨c, o, O, zz, d1, d2, d3, d4, d5, d6, d7, d8, d9, d10, d11, d12⟩ := f8 hk2
  have hkk : A 8 (60 + r) = 2 ↔ kk = 2 := by rw [f1a]; exact nI_eq (b := 2) (by omega) (by omega)
  obtain ⟨g0, g1, g2, g3, g4⟩ := H.2.2.2.2.2 c d1
  have b0 := hN.1
  have b1 := hN.2.1
  have tN := rg_oT H b0.1 b0.2.1
  have tF := (rc_t1 (rc_tR hr)).2.2
  have tL := rc_tL d1
  have fS : ∀ j, rr_up X S 7 z (2 + 44 * r + 43) j = X (2 + 44 * r + 43) j := fun j => rk_ne (rk_tne tF hS rfl)
  have sL : S ≠ 135 + 5 * c := rk_tne hS tL rfl
  have sL1 : S ≠ 135 + 5 * c + 1 := rk_tne hS (rc_t5 tL).1 rfl
  have sL3 : S ≠ 135 + 5 * c + 3 := rk_tne hS (rc_t5 tL).2.2.1 rfl
  have sL4 : S ≠ 135 + 5 * c + 4 := rk_tne hS (rc_t5 tL).2.2.2 rfl
  have lS : ∀ j, rr_up X S 7 z (135 + 5 * c) j = X (135 + 5 * c) j := fun j => rk_ne (Ne.symm sL)
  have l1S : ∀ j, rr_up X S 7 z (135 + 5 * c + 1) j = X (135 + 5 * c + 1) j := fun j => rk_ne (Ne.symm sL1)
  have l3S : ∀ j, rr_up X S 7 z (135 + 5 * c + 3) j = X (135 + 5 * c + 3) j := fun j => rk_ne (Ne.symm sL3)
  -- the way to the first decision
  have head : ∀ (d : Nat) (Q : Option Value → rb_H → Prop), ((A 35 c = 1 ∧ A 41 c = A 18 (60 + r)) → rb_wp (d + 3) 35 33 [.ref 0, .ref (rg_o nd r pl), .ref (2 + 44 * r + 43), .ref (135 + 5 * c), .retAddr 0] [] (rc_h (rr_up X S 7 z) R) Q) → (¬ (A 35 c = 1 ∧ A 41 c = A 18 (60 + r)) → Q none (rc_h (rr_up X S 7 z) R)) → rb_cw (d + 4) 35 [.ref 0, .ref (rg_o nd r pl), .ref (2 + 44 * r + 43)] (rc_h (rr_up X S 7 z) R) Q := by
    intro d Q k1 k2
    refine rw_ent rfl rfl rfl ?_
    refine rw_step rfl rfl ?_
    refine rw_step rfl rfl ?_
    refine rc_gv rfl tF rfl ((fS 7).trans d3) ?_
    refine rc_call rfl rfl (by decide) rfl rfl rfl rfl ?_
    refine rk_link H.1.1.1 d1 ?_
    refine rw_step rfl rfl ?_
    refine rw_step rfl rfl ?_
    refine rw_step rfl rfl ?_
    refine rw_step rfl rfl ?_
    refine rc_gv rfl tL rfl ((lS 3).trans g1) ?_
    refine rw_step rfl rfl ?_
    refine rw_icmp rfl (fun h9 => rw_ret rfl rfl rfl (k2 (fun h8 => rw_ne h9 h8.1))) (fun h9 => ?_)
    have h35 := rw_neF h9
    obtain ⟨O1, hO, hO2, hO3⟩ := g3
    refine rw_step rfl rfl ?_
    refine rc_gv rfl tL rfl ((lS 4).trans (hO3.trans hO2.symm)) ?_
    refine rw_step rfl rfl ?_
    refine rc_gv rfl tF rfl ((fS 8).trans (d5.trans d4.symm)) ?_
    refine rw_icmp rfl (fun h8 => k1 ⟨h35, rw_eq h8⟩) (fun h8 => rw_ret rfl rfl rfl (k2 (fun h7 => rw_eqF h8 h7.2)))
  by_cases hop : A 35 c = 1 ∧ A 41 c = A 18 (60 + r)
  · have h35 : ¬ A 35 c = 0 := by rw [hop.1]; decide
    obtain ⟨a', b', p', u', v', f, s', k, st, e, ik, is, ti, tr, hC⟩ := g4 h35
    have hC0 := hC
    obtain ⟨e0, e1, e2, e3, e4, e5, e6, e7⟩ := hC
    have hfb : f < 2 ^ 31 := by omega
    have heb : e < 2 ^ 31 := by omega
    refine ⟨c, ik, (zz + 7 * f) % 8, k, ⟨d1, d2, fun _ h2 => ⟨e6.1, e0.2.2.2.2.2.2.2.2.2.2.2.2.1, by omega, ?_, b1.2.2.1, b0.2.2.1⟩, fun _ _ => ⟨?_, e5.1, e0.2.2.2.2.2.2.2.2.2.1, fun h9 => ?_⟩⟩, fun d Q hq => ?_⟩
    · have := (d12 (hkk.mp h2)).2 ?_
      · exact this.symm.trans h11
      · have := d4.symm.trans (hop.2.symm.trans d6)
        exact (nI_eq (by omega) (by omega)).mp this
    · show rr_rem (A 19 (60 + r) - rr_rem (A 42 c) 8 + 8) 8 = _
      rw [show A 19 (60 + r) = nI zz from d9, e3.1]
      exact rg_many d11 hfb
    · have hm : rr_many A c (A 19 (60 + r)) = nI ((zz + 7 * f) % 8) := by
        show rr_rem (A 19 (60 + r) - rr_rem (A 42 c) 8 + 8) 8 = _
        rw [show A 19 (60 + r) = nI zz from d9, e3.1]
        exact rg_many d11 hfb
      rw [hm, e3.2.2.1] at h9
      have := (nI_leI (by omega) (by omega)).mp h9
      omega
    rw [rr_use, if_pos hop] at hq
    refine head d Q (fun _ => ?_) (fun h9 => absurd hop h9)
    refine rw_step rfl rfl ?_
    refine rc_gv rfl tF rfl ((fS 0).trans f1.2.1) ?_
    refine rw_step rfl rfl ?_
    by_cases hk : kk = 2
    · subst hk
      rw [if_pos (hkk.mpr rfl), show A 19 (60 + r) = nI zz from d9] at hq
      refine rw_icmp rfl (fun h9 => absurd rfl (rw_ne h9)) (fun _ => ?_)
      have d20 := (d12 rfl).1
      refine rw_step rfl rfl ?_
      refine rw_step rfl rfl ?_
      refine rc_gv rfl tF rfl ((fS 9).trans d10) ?_
      refine rw_step rfl rfl ?_
      refine rc_gv (v := A 20 (60 + r)) rfl tF rfl ((fS 10).trans d20) ?_
      refine rc_call rfl tL (by decide) rfl rfl rfl rfl ?_
      refine rk_acceptD (i := (is + ik) % 4) tL (fun _ => ?_) (by omega) ?_
      · rw [l3S, l3S, l3S, e6.2.2.1, e6.2.1, g0.2.2, nI_add, rg_and3]
      have hinb : rr_up X S 7 z (135 + 5 * c + 3) 3 = nI ik := (l3S 3).trans e6.2.1
      have hexp : rr_up X S 7 z (135 + 5 * c) 13 = nI e := (lS 13).trans e3.2.2.2.2.2.2.2.2.2
      have hcmp : rr_up X S 7 z (135 + 5 * c) 15 = A 52 c := (lS 15).trans e4.2.2.1
      have hlate : rr_late A c (nI zz) = nI ((e % 8 + 7 * zz) % 8) := by
        unfold rr_late
        rw [e3.2.2.2.2.2.2.2.2.1]
        exact rg_latA d11 heb
      -- what is queued, for each answer of acceptData
      have fin : ∀ (X1 A1 : Nat → Nat → Int32) (k' e' ik' : Nat), 3 ≤ k' → k' ≤ 5 → rg_Rel nd X1 R A1 t (B + 1) → rg_C X1 A1 c (B + 1) a' b' p' u' v' f s' k st e' ik' is ti tr → rg_N nd X1 A1 n r pl w h q → rg_on A1 r n → (∀ X', rg_Rel nd X' R (rr_ans A1 c (nI k') n w) t (B + 1) → Q none (rc_h (rr_up X' S 7 z) R)) → rb_wp (d + 3) 35 53 [.ref 0, .ref (rg_o nd r pl), .ref (2 + 44 * r + 43), .ref (135 + 5 * c), .retAddr 0] [.int (nI (k' + 1))] (rc_h (rr_up X1 S 7 z) R) Q := by
        intro X1 A1 k' e' ik' hk3 hk5 H1 C1 N1 on1 hq1
        refine rw_step rfl rfl ?_
        refine rw_step rfl rfl ?_
        refine rw_if rfl (fun h9 => absurd (rw_eq h9) (nI_ne0 (by omega) (by omega))) (fun _ => ?_)
        refine rw_step rfl rfl ?_
        refine rw_step rfl rfl ?_
        refine rw_step rfl rfl ?_
        refine rw_call rfl rfl rfl ?_
        refine rg_qAns (d := d + 1) hS H1 (by omega) on1 N1 d1 C1 hk3 hk5 (fun X' H' => ?_)
        refine rw_step rfl rfl ?_
        exact rw_ret rfl rfl rfl (hq1 X' H')
      unfold rk_ad
      rw [hexp, hinb, hcmp, rg_and7]
      by_cases hz : zz = e % 8
      · have hl0 : rr_late A c (nI zz) = 0 := by rw [hlate, show (e % 8 + 7 * zz) % 8 = 0 by omega]; rfl
        rw [if_pos (show nI zz = nI (e % 8) by rw [hz])]
        by_cases hik : ik < 4
        · rw [if_pos (show nI ik < 4 from nI_lt (b := 4) hik (by omega))]
          have hc4 : rr_late A c (nI zz) = 0 ∧ ¬ 4 ≤ A 50 c := ⟨hl0, by rw [e6.1]; exact nI_ge (b := 4) hik (by omega)⟩
          rw [rr_acc, if_pos hc4] at hq
          obtain ⟨H1, C1⟩ := rg_acc1 (x := A 20 (60 + r)) d1 H hC0 hop.1 hik
          dsimp only
          rw [rk_comm sL4, rk_comm sL3, rk_comm sL, rk_comm sL]
          refine fin _ _ 3 _ _ (by omega) (by omega) H1 C1 (rg_N_keep H hN (fun q' j h9 => ?_) (fun j i h9 => ?_) (fun c' _ => ?_) (fun c' _ => ?_)) ?_ hq
          · rw [rk_ne (by omega), rk_ne (by omega), rk_ne (by omega), rk_ne (by omega)]
          · unfold rr_take
            rw [rr_up_at, if_neg (by omega), rr_up_at, if_neg (by omega), rr_up_at, if_neg (by omega), rr_up_at, if_neg (by omega)]
          · unfold rr_take
            rw [rr_up_at, if_neg (by omega), rr_up_at, if_neg (by omega), rr_up_at, if_neg (by omega), rr_up_at, if_neg (by omega)]
          · unfold rr_take
            rw [rr_up_at, if_neg (by omega), rr_up_at, if_neg (by omega), rr_up_at, if_neg (by omega), rr_up_at, if_neg (by omega)]
          · unfold rr_take rg_on
            simpa [rr_up_at, rg_on] using hon
        · rw [if_neg (show ¬ nI ik < 4 from nI_nlt (b := 4) (by omega) (by omega))]
          have h4 : 4 ≤ A 50 c := by rw [e6.1]; exact nI_le (a := 4) (by omega) (by omega)
          rw [rr_acc, if_neg (fun h9 => h9.2 h4), if_pos hl0] at hq
          obtain ⟨H1, C1⟩ := rg_mark (z := 1) (Or.inr (Or.inr ⟨rfl, rfl⟩)) (Or.inr rfl) d1 H hC0 (Or.inl hop.1)
          dsimp only
          rw [rk_comm sL]
          have C2 := rg_C_mono (B' := B + 1) (by omega) C1
          refine fin _ _ 5 _ _ (by omega) (by omega) (rg_monoB (by omega) H1) C2 (rg_N_keep H hN (fun q' j h9 => rk_ne (by omega)) (fun j i h9 => by rw [rr_up_at, if_neg (by omega)]) (fun c' _ => by rw [rr_up_at, if_neg (by omega)]) (fun c' _ => by rw [rr_up_at, if_neg (by omega)])) (by simpa [rg_on, rr_up_at] using hon) hq
      · have hl0 : ¬ rr_late A c (nI zz) = 0 := by
          rw [hlate]
          exact nI_ne0 (by omega) (by omega)
        rw [if_neg (show ¬ nI zz = nI (e % 8) from fun h9 => hz ((nI_eq (by omega) (by omega)).mp h9)), rg_sub7]
        rw [rr_acc, if_neg (fun h9 => hl0 h9.1), if_neg hl0, hlate] at hq
        by_cases h4 : (e % 8 + 7 * zz) % 8 ≤ 4
        · rw [if_pos (show nI ((e % 8 + 7 * zz) % 8) ≤ 4 from nI_le (b := 4) h4 (by omega))]
          rw [if_pos (show ¬ 4 < nI ((e % 8 + 7 * zz) % 8) from nI_nlt (a := 4) h4 (by omega))] at hq
          exact fin _ _ 3 _ _ (by omega) (by omega) (rg_monoB (by omega) H) (rg_C_mono (B' := B + 1) (by omega) hC0) hN hon hq
        · rw [if_neg (show ¬ nI ((e % 8 + 7 * zz) % 8) ≤ 4 from nI_ge (a := 4) (by omega) (by omega))]
          rw [if_neg (show ¬ ¬ 4 < nI ((e % 8 + 7 * zz) % 8) from fun h9 => h9 (nI_lt (a := 4) (by omega) (by omega)))] at hq
          by_cases h52 : A 52 c = 0
          · rw [if_pos h52]
            rw [if_pos h52] at hq
            obtain ⟨H1, C1⟩ := rg_mark (z := 1) (Or.inr (Or.inl ⟨rfl, rfl⟩)) (Or.inr rfl) d1 H hC0 (Or.inl hop.1)
            dsimp only
            rw [rk_comm sL]
            exact fin _ _ 4 _ _ (by omega) (by omega) (rg_monoB (by omega) H1) (rg_C_mono (B' := B + 1) (by omega) C1) (rg_N_keep H hN (fun q' j h9 => rk_ne (by omega)) (fun j i h9 => by rw [rr_up_at, if_neg (by omega)]) (fun c' _ => by rw [rr_up_at, if_neg (by omega)]) (fun c' _ => by rw [rr_up_at, if_neg (by omega)])) (by simpa [rg_on, rr_up_at] using hon) hq
          · rw [if_neg h52]
            rw [if_neg h52] at hq
            repeat refine rw_step rfl rfl ?_
            exact rw_ret rfl rfl rfl (hq X (rg_monoB (by omega) H))
    · rw [if_neg (fun h9 => hk (hkk.mp h9)), show A 19 (60 + r) = nI zz from d9, f1a] at hq
      refine rw_icmp rfl (fun _ => ?_) (fun h9 => absurd ((nI_eq (a := kk + 1) (b := 3) (by omega) (by omega)).mp (rw_neF h9)) (by omega))
      refine rw_step rfl rfl ?_
      refine rw_step rfl rfl ?_
      refine rc_gv rfl tF rfl ((fS 0).trans f1.2.1) ?_
      refine rw_step rfl rfl ?_
      refine rc_gv rfl tF rfl ((fS 9).trans d10) ?_
      refine rc_call rfl tL (by decide) rfl rfl rfl rfl ?_
      have m0 : (nI zz - rr_up X S 7 z (135 + 5 * c) 9) &&& 7 = nI ((zz + 7 * f) % 8) := by rw [lS, e3.2.1, rg_sub7]
      refine rk_acceptA (d := d + 1) tL ?_ (fun h9 => ?_) ?_
      · rw [m0]; exact nI_pos (by omega)
      · rw [m0] at h9 ⊢
        rw [lS, e3.2.2.2.1] at h9
        rw [l1S, e5.2.1]
        have := (nI_leI (by omega) (by omega)).mp h9
        exact nI_le (by omega) (by omega)
      rw [rg_aa_comm sL sL1]
      refine rw_ret rfl rfl rfl ?_
      exact hq _ (rg_hear d1 H hC0 hop.1 (by omega) f1.2.2 d11 hfb)
  · refine ⟨c, 0, 0, 0, ⟨d1, d2, fun h9 => absurd h9 hop, fun h9 => absurd h9 hop⟩, fun d Q hq => ?_⟩
    rw [rr_use, if_neg hop] at hq
    exact head d Q (fun h9 => absurd h9 hop) (fun _ => hq X (rg_monoB (by omega) H))
end RHD
