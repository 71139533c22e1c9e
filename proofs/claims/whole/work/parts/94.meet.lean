/-! a node meets the frame, the token, on both sides -/
section RHJ
variable {nd : Nat → Nat → Nat} {X A : Nat → Nat → Int32} {R : Nat → Nat → Option Nat} {t : Int32} {B : Nat}
theorem rg_here_at {X' A' : Nat → Nat → Int32} {B' r n pl : Nat} (H : rg_Rel nd X' R A' t B') (hr : r < 3) (hpl : pl < 5) (hon : rg_on A' r n) (h0 : A' 0 n = nI pl) : ∃ w h q, rg_N nd X' A' n r pl w h q := by
  obtain ⟨r', p', w, h, q, hN⟩ := H.2.2.2.1 n hon.1 hon.2.1
  have e1 : r' = r := (nI_eq (by have := hN.1.1; omega) (by omega)).mp (hN.2.1.1.symm.trans hon.2.2)
  subst e1
  have e2 : p' = pl := (nI_eq (by have := hN.1.2.1; omega) (by omega)).mp (hN.2.1.2.1.symm.trans h0)
  subst e2
  exact ⟨w, h, q, hN⟩
theorem rg_meetF {n r pl w h q m a y p v : Nat} (H : rg_Rel nd X R A t B) (hB : B < 900000) (hr : r < 3) (hon : rg_on A r n) (hN : rg_N nd X A n r pl w h q) (h9 : rg_R X A r m a y 2 p v) (hpl : pl < m) (ha : a = if pl + 1 < m then pl + 1 else 0) :
    ∃ G : Nat → Nat → Int32, (∀ (d : Nat) (Q : Option Value → rb_H → Prop), Q none (rr_h G t) → rb_cw (d + 6) 61 [.ref 0, .int (nI r), .int (nI n)] (rr_h A t) Q) ∧ ∀ (d : Nat) (Q : Option Value → rb_H → Prop), (∀ X', rg_Rel nd X' R G t (B + 1) → Q none (rc_h X' R)) → rb_cw (d + 6) 29 [.ref 0, .ref (2 + 44 * r), .ref (rg_o nd r pl)] (rc_h X R) Q := by
  have hn := hon.1
  have b0 := hN.1
  have b1 := hN.2.1
  have b2 := hN.2.2.1
  have tR := rc_tR hr
  have tN := rg_oT H b0.1 b0.2.1
  have tS := (rc_t1 tR).2.1
  obtain ⟨e1, e2, e3, e4⟩ := rg_R_E h9
  have hmem : ¬ A 1 r = 0 := by rw [h9.2.1.1]; exact nI_ne0 (by omega) (by have := h9.1.1; omega)
  have hwi := rg_with_is H.2.1 hon
  have q7 : q ≤ 7 := by have := b0.2.2.2.2; omega
  have x3 : X (rg_o nd r pl) 3 = rr_addr (nI n) := b2.1
  by_cases hown : rr_addr (nI n) = A 29 r
  · refine ⟨rr_frame A r n q A, fun d Q hq => rr_frameM2 hr hn b1.2.2.2 q7 hwi hon.2.2 hmem (fun h8 => absurd hown h8) hq, fun d Q hq => ?_⟩
    rw [rr_frame, if_pos hown] at hq
    refine rw_ent rfl rfl rfl ?_
    refine rw_step rfl rfl ?_
    refine rc_gr rfl tR rfl ?_
    refine rw_step rfl rfl ?_
    refine rw_step rfl rfl ?_
    refine rc_gv rfl tN rfl x3 ?_
    refine rw_step rfl rfl ?_
    refine rc_gv rfl tS rfl e3.2.2.2 ?_
    refine rw_icmp rfl (fun h8 => absurd hown (rw_ne h8)) (fun _ => ?_)
    refine rw_step rfl rfl ?_
    refine rw_step rfl rfl ?_
    refine rc_call rfl tR (by decide) rfl rfl rfl rfl ?_
    refine rg_endF (d := d + 2) H hr hon hN h9 (fun X' H' => ?_)
    exact rw_ret rfl rfl rfl (hq X' (rg_monoB (by omega) H'))
  -- the tail behind the watch
  have tail : ∀ X1 A1 : Nat → Nat → Int32, rg_Rel nd X1 R A1 t B → rg_R X1 A1 r m a y 2 p v → (∀ j i, j ≤ 3 → A1 j i = A j i) → rg_N nd X1 A1 n r pl w h q →
      ∃ C : Nat → Nat → Int32, (A1 27 r = 0 → ∀ (d : Nat) (Q : Option Value → rb_H → Prop), Q none (rr_h C t) → rb_cw (d + 5) 63 [.ref 0, .int (nI r), .int (nI n)] (rr_h A1 t) Q) ∧ ∀ (d : Nat) (Q : Option Value → rb_H → Prop), (∀ X', rg_Rel nd X' R (if A1 27 r = 0 then rr_fp C r n else rr_fp A1 r n) t (B + 1) → Q none (rc_h X' R)) → rb_wp (d + 5) 29 50 [.ref 0, .ref (2 + 44 * r), .ref (rg_o nd r pl), .ref (2 + 44 * r + 42)] [] (rc_h X1 R) Q := by
    intro X1 A1 H1 R1 hA1 N1
    obtain ⟨-, -, -, E4⟩ := rg_R_E R1
    have on1 : rg_on A1 r n := by unfold rg_on; rw [hA1 2 n (by omega), hA1 3 n (by omega)]; exact hon
    obtain ⟨C, hC3, hCr, hCc⟩ := rg_recv H1 hB hr on1 N1 R1
    -- the wish at the end
    have fin : ∀ (X2 C2 : Nat → Nat → Int32) (B2 : Nat), B2 ≤ B + 1 → rg_Rel nd X2 R C2 t B2 → (∀ j i, j ≤ 3 → C2 j i = A1 j i) → ∀ (d : Nat) (Q : Option Value → rb_H → Prop), (∀ X', rg_Rel nd X' R (rr_fp C2 r n) t (B + 1) → Q none (rc_h X' R)) → rb_wp (d + 5) 29 71 [.ref 0, .ref (2 + 44 * r), .ref (rg_o nd r pl), .ref (2 + 44 * r + 42)] [] (rc_h X2 R) Q := by
      intro X2 C2 B2 hB2 H2 hC2 d Q hq
      have on2 : rg_on C2 r n := by unfold rg_on; rw [hC2 2 n (by omega), hC2 3 n (by omega)]; exact on1
      have h0 : C2 0 n = nI pl := by rw [hC2 0 n (by omega), hA1 0 n (by omega)]; exact b1.2.1
      obtain ⟨w2, h2, q2, N2⟩ := rg_here_at H2 hr b0.2.1 on2 h0
      obtain ⟨m2, a2, y2, k2, p2, v2, R2⟩ := H2.2.2.1 r hr
      refine rw_step rfl rfl ?_
      refine rw_step rfl rfl ?_
      refine rc_call rfl tS (by decide) rfl rfl rfl rfl ?_
      refine rg_reserve (d := d + 3) H2 hr N2 R2 (fun X' v' _ H' _ _ _ => ?_)
      exact rw_ret rfl rfl rfl (hq X' (rg_monoB hB2 H'))
    by_cases hbad : A1 27 r = 0
    · refine ⟨C, fun _ => hCr, fun d Q hq => ?_⟩
      rw [if_pos hbad] at hq
      refine rw_step rfl rfl ?_
      refine rc_gv rfl tS rfl E4.2.1 ?_
      refine rw_if rfl (fun h8 => absurd hbad (rw_ne h8)) (fun _ => ?_)
      refine rw_step rfl rfl ?_
      refine rw_step rfl rfl ?_
      refine rw_step rfl rfl ?_
      refine rc_call rfl rfl (by decide) rfl rfl rfl rfl ?_
      refine hCc d _ (fun X' H' => ?_) (fun X' H' => ?_)
      · refine rw_step rfl rfl ?_
        exact fin X' C (B + 1) (Nat.le_refl _) H' hC3 d Q hq
      · refine rw_step rfl rfl ?_
        refine rw_step rfl rfl ?_
        refine rw_step rfl rfl ?_
        refine rc_p rfl tS rfl rfl ?_
        exact fin _ C (B + 1) (Nat.le_refl _) H' hC3 d Q hq
    · refine ⟨A1, fun h8 => absurd h8 hbad, fun d Q hq => ?_⟩
      rw [if_neg hbad] at hq
      refine rw_step rfl rfl ?_
      refine rc_gv rfl tS rfl E4.2.1 ?_
      refine rw_if rfl (fun _ => ?_) (fun h8 => absurd (rw_neF h8) hbad)
      exact fin X1 A1 B (by omega) H1 (fun _ _ _ => rfl) d Q hq
  have head : ∀ (d : Nat) (Q : Option Value → rb_H → Prop), rb_wp (d + 5) 29 22 [.ref 0, .ref (2 + 44 * r), .ref (rg_o nd r pl), .ref (2 + 44 * r + 42)] [] (rc_h X R) Q → rb_cw (d + 6) 29 [.ref 0, .ref (2 + 44 * r), .ref (rg_o nd r pl)] (rc_h X R) Q := by
    intro d Q kk
    refine rw_ent rfl rfl rfl ?_
    refine rw_step rfl rfl ?_
    refine rc_gr rfl tR rfl ?_
    refine rw_step rfl rfl ?_
    refine rw_step rfl rfl ?_
    refine rc_gv rfl tN rfl x3 ?_
    refine rw_step rfl rfl ?_
    refine rc_gv rfl tS rfl e3.2.2.2 ?_
    exact rw_icmp rfl (fun _ => kk) (fun h8 => absurd (rw_neF h8) hown)
  have hk21 : ¬ (A 21 r = 1 ∧ A 24 r = 0) := fun h8 => absurd (h8.1.symm.trans h9.2.1.2.2.2.1) (by decide)
  by_cases hmon : rr_addr (nI n) = A 30 r
  · by_cases hseen : A 26 r = 0
    · have hw : rr_watch A r n = (0, rr_up A 26 r 1) := by
        unfold rr_watch
        rw [if_neg (fun h8 => h8 hmon), if_neg hk21, if_pos hseen]
      obtain ⟨H1, R1⟩ := rg_seen hr H h9
      have hap := rg_apart H hr b0.2.1
      have N1 : rg_N nd (rr_up X (2 + 44 * r + 42) 5 1) (rr_up A 26 r 1) n r pl w h q := by
        refine rg_N_congr rfl (fun i j hi => rk_ne (hap i hi).2.1) ?_ ?_ ?_ ?_ (fun i _ => ⟨?_, ?_⟩) (fun j i _ _ _ => ?_) (fun c _ => ?_) (fun c _ => ?_) hN <;> rw [rr_up_at, if_neg (by omega)]
      obtain ⟨C, hC1, hC2⟩ := tail _ _ H1 R1 (fun j i hj => by rw [rr_up_at, if_neg (by omega)]) N1
      refine ⟨rr_frame A r n q C, fun d Q hq => rr_frameM2 hr hn b1.2.2.2 q7 hwi hon.2.2 hmem (fun _ _ h7 => ?_) hq, fun d Q hq => head d Q ?_⟩
      · rw [hw] at h7 ⊢
        exact hC1 h7 d
      · rw [rr_frame, if_neg hown, hw, if_neg (fun h8 => h8 rfl)] at hq
        refine rw_step rfl rfl ?_
        refine rc_gv rfl tN rfl x3 ?_
        refine rw_step rfl rfl ?_
        refine rc_gv rfl tR rfl e1.2.2.2.2 ?_
        refine rw_icmp rfl (fun h8 => absurd hmon (rw_ne h8)) (fun _ => ?_)
        refine rw_step rfl rfl ?_
        refine rc_gv rfl tS rfl e4.1 ?_
        refine rw_if rfl (fun _ => ?_) (fun h8 => absurd hseen (rw_eqF h8))
        refine rw_step rfl rfl ?_
        refine rw_step rfl rfl ?_
        refine rc_p rfl tS rfl rfl ?_
        exact hC2 d Q hq
    · have hw : rr_watch A r n = (1, rr_purge A r n) := by
        unfold rr_watch
        rw [if_neg (fun h8 => h8 hmon), if_neg hk21, if_neg hseen]
      refine ⟨rr_frame A r n q A, fun d Q hq => rr_frameM2 hr hn b1.2.2.2 q7 hwi hon.2.2 hmem (fun _ h7 => absurd h7 (by rw [hw]; exact (by decide : ¬ (1 : Int32) = 0))) hq, fun d Q hq => head d Q ?_⟩
      rw [rr_frame, if_neg hown, hw, if_pos (show ¬ (1 : Int32) = 0 by decide)] at hq
      refine rw_step rfl rfl ?_
      refine rc_gv rfl tN rfl x3 ?_
      refine rw_step rfl rfl ?_
      refine rc_gv rfl tR rfl e1.2.2.2.2 ?_
      refine rw_icmp rfl (fun h8 => absurd hmon (rw_ne h8)) (fun _ => ?_)
      refine rw_step rfl rfl ?_
      refine rc_gv rfl tS rfl e4.1 ?_
      refine rw_if rfl (fun h8 => absurd (rw_eq h8) hseen) (fun _ => ?_)
      refine rw_step rfl rfl ?_
      refine rc_call rfl tR (by decide) rfl rfl rfl rfl ?_
      refine rk_startP tR ?_
      refine rw_ret rfl rfl rfl (hq _ ?_)
      have := rg_purge (x := nI a) hr H h9 hon hmon b1.2.1 hpl (by rw [ha])
      rw [rg_up_id (e1.2.2.1.trans h9.2.1.2.1)] at this
      exact rg_monoB (by omega) this
  · have hw : rr_watch A r n = (0, A) := by
      unfold rr_watch
      rw [if_pos hmon]
    obtain ⟨C, hC1, hC2⟩ := tail _ _ H h9 (fun _ _ _ => rfl) hN
    refine ⟨rr_frame A r n q C, fun d Q hq => rr_frameM2 hr hn b1.2.2.2 q7 hwi hon.2.2 hmem (fun _ _ h7 => ?_) hq, fun d Q hq => head d Q ?_⟩
    · rw [hw] at h7 ⊢
      exact hC1 h7 d
    · rw [rr_frame, if_neg hown, hw, if_neg (fun h8 => h8 rfl)] at hq
      refine rw_step rfl rfl ?_
      refine rc_gv rfl tN rfl x3 ?_
      refine rw_step rfl rfl ?_
      refine rc_gv rfl tR rfl e1.2.2.2.2 ?_
      refine rw_icmp rfl (fun _ => ?_) (fun h8 => absurd (rw_neF h8) hmon)
      exact hC2 d Q hq
theorem rg_meetT {n r pl w h q m a y p v : Nat} (H : rg_Rel nd X R A t B) (hr : r < 3) (hon : rg_on A r n) (hN : rg_N nd X A n r pl w h q) (h9 : rg_R X A r m a y 1 p v) (hpl : pl < m) (ha : a = if pl + 1 < m then pl + 1 else 0) :
    ∃ E : Nat → Nat → Int32, (∀ (d : Nat) (Q : Option Value → rb_H → Prop), Q none (rr_h E t) → rb_cw (d + 5) 60 [.ref 0, .int (nI r), .int (nI n)] (rr_h A t) Q) ∧ ∀ (d : Nat) (Q : Option Value → rb_H → Prop), (∀ X', rg_Rel nd X' R E t B → Q none (rc_h X' R)) → rb_cw (d + 5) 123 [.ref (2 + 44 * r), .ref (rg_o nd r pl)] (rc_h X R) Q := by
  have hn := hon.1
  have b0 := hN.1
  have b1 := hN.2.1
  have b2 := hN.2.2.1
  have tR := rc_tR hr
  have tN := rg_oT H b0.1 b0.2.1
  have tS := (rc_t1 tR).2.1
  have tF := (rc_t1 tR).2.2
  obtain ⟨e1, e2, e3, e4⟩ := rg_R_E h9
  have hmem : ¬ A 1 r = 0 := by rw [h9.2.1.1]; exact nI_ne0 (by omega) (by have := h9.1.1; omega)
  have hwi := rg_with_is H.2.1 hon
  have x3 : X (rg_o nd r pl) 3 = rr_addr (nI n) := b2.1
  have a24 : A 24 r = nI p := h9.2.1.2.2.2.2.1
  have hp3 : p ≤ 3 := h9.1.2.2.2.2.2.1
  have hap := rg_apart H hr b0.2.1
  -- the end: the wish
  have fin : ∀ (X2 A2 : Nat → Nat → Int32) (p2 v2 q2 : Nat), rg_Rel nd X2 R A2 t B → rg_R X2 A2 r m a y 1 p2 v2 → rg_N nd X2 A2 n r pl w h q2 → ¬ A2 2 n = 0 → ∀ (d : Nat) (Q : Option Value → rb_H → Prop), (∀ X', rg_Rel nd X' R (rr_tokEnd A2 r n w) t B → Q none (rc_h X' R)) → rb_wp (d + 4) 123 73 [.ref (2 + 44 * r), .ref (rg_o nd r pl)] [] (rc_h X2 R) Q := by
    intro X2 A2 p2 v2 q2 H2 R2 N2 h2n d Q hq
    obtain ⟨E1, E2, E3, E4⟩ := rg_R_E R2
    have c2 := N2.2.2.1
    have on2 : rg_on A2 r n := ⟨hn, h2n, N2.2.1.1⟩
    have r24 : A2 24 r = nI p2 := R2.2.1.2.2.2.2.1
    have hp2 : p2 ≤ 3 := R2.1.2.2.2.2.2.1
    refine rw_step rfl rfl ?_
    refine rc_gv rfl tN rfl c2.2.2.1 ?_
    -- RESERVED alone
    have resv : rr_wish A2 n < A2 24 r → rb_wp (d + 4) 123 129 [.ref (2 + 44 * r), .ref (rg_o nd r pl)] [] (rc_h X2 R) Q := by
      intro hlt
      refine rw_step rfl rfl ?_
      refine rc_gr rfl tR rfl ?_
      refine rw_step rfl rfl ?_
      refine rc_call rfl tS (by decide) rfl rfl rfl rfl ?_
      refine rg_reserve (d := d + 2) H2 hr N2 R2 (fun X' v' _ H' _ hmx _ => ?_)
      refine rw_ret rfl rfl rfl (hq X' ?_)
      have : rr_tokEnd A2 r n w = rr_fp A2 r n := by
        unfold rr_tokEnd rr_fp rr_max
        rw [if_neg (fun h8 => h8 hlt)]
        by_cases h7 : rr_wish A2 n ≤ A2 25 r
        · rw [if_neg (fun h8 => h8 h7), if_pos h7]
          exact (rg_up_id rfl).symm
        · rw [if_pos h7, if_neg h7]
      rw [this]
      exact H'
    rcases rg_wish N2 with ⟨h0, h1⟩ | ⟨h0, p0, hp0, h1, h2⟩
    · subst h0
      refine rw_if rfl (fun _ => ?_) (fun h8 => absurd (show nI 0 ≤ 0 by decide) (of_decide_eq_false h8))
      refine resv ?_
      rw [h1, r24]
      exact Int32.lt_of_lt_of_le (show (-1 : Int32) < 0 by decide) (nI_pos' (by omega))
    · refine rw_if rfl (fun h8 => absurd (of_decide_eq_true h8) (nI_nle h0 (by have := b0.2.2.1; omega))) (fun _ => ?_)
      refine rw_step rfl rfl ?_
      refine rc_call rfl tN (by decide) rfl rfl rfl rfl ?_
      refine rk_firstP (i := h) H2.1.1.1 tN (by rw [c2.2.1, rg_and3, show h % 4 = h by have := b0.2.2.2.1; omega]) b0.2.2.2.1 ?_
      rw [h2]
      refine rw_step rfl rfl ?_
      refine rc_gr rfl tR rfl ?_
      refine rc_gv rfl tS rfl (E3.2.1.trans r24) ?_
      refine rw_icmp rfl (fun h8 => resv (by rw [h1, r24]; exact of_decide_eq_true h8)) (fun h8 => ?_)
      have h8 : ¬ nI p0 < nI p2 := of_decide_eq_false h8
      obtain ⟨w', rfl⟩ : ∃ w', w = w' + 1 := ⟨w - 1, by omega⟩
      have hFG : rg_o nd r pl + 2 + h ≠ 2 + 44 * r + 43 := by
        have := (hap (2 + h) (by have := b0.2.2.2.1; omega)).2.2
        omega
      rw [rr_tokEnd, if_pos (by rw [h1, r24]; exact h8)] at hq
      refine rw_step rfl rfl ?_
      refine rw_step rfl rfl ?_
      refine rc_gr rfl tR rfl ?_
      refine rc_gr rfl tS rfl ?_
      refine rc_call rfl tN (by decide) rfl rfl rfl rfl ?_
      refine rk_moveF (d := d + 2) (i := h) H2.1.1.1 tN tF hFG (by rw [c2.2.1, rg_and3, show h % 4 = h by have := b0.2.2.2.1; omega]) b0.2.2.2.1 ?_
      have xa : rk_mvX X2 (rg_o nd r pl) (2 + 44 * r + 43) h (rg_o nd r pl) 3 = rr_addr (nI n) := by
        unfold rk_mvX
        rw [rk_ne2 (by decide), rk_ne2 (by decide), rk_cp_ne (by have := (hap 0 (by omega)).2.2; omega)]
        exact c2.1
      have xs : rk_bfX (rk_mvX X2 (rg_o nd r pl) (2 + 44 * r + 43) h) (2 + 44 * r + 42) (rr_addr (nI n)) (2 + 44 * r) 8 = A2 31 (3 * r + 1) := by
        have hne : 2 + 44 * r ≠ 2 + 44 * r + 42 := by omega
        have hne2 : 2 + 44 * r ≠ rg_o nd r pl := fun h7 => (hap 0 (by omega)).1 (by rw [Nat.add_zero]; exact h7.symm)
        unfold rk_bfX rk_cmX rk_mvX
        rw [rk_ne hne, rk_ne hne, rk_ne hne, rk_ne hne, rk_ne hne, rk_ne hne, rk_ne hne2, rk_ne hne2, rk_cp_ne (by omega)]
        exact E2.2.1
      refine rw_step rfl rfl ?_
      refine rc_gr rfl tR rfl ?_
      refine rw_step rfl rfl ?_
      refine rc_gv rfl tN rfl xa ?_
      refine rc_call rfl tS (by decide) rfl rfl rfl rfl ?_
      refine rk_becomeF (d := d + 2) tS ?_
      refine rw_step rfl rfl ?_
      refine rw_step rfl rfl ?_
      refine rc_gv rfl tR rfl xs ?_
      refine rw_step rfl rfl ?_
      refine rw_step rfl rfl ?_
      refine rc_p rfl tR rfl rfl ?_
      refine rw_step rfl rfl ?_
      refine rw_ret rfl rfl rfl (hq _ ?_)
      exact rg_send hr H2 R2 on2 N2 rfl
  -- behind the watch: the pair on top
  have mid : ∀ (X1 A1 : Nat → Nat → Int32), rg_Rel nd X1 R A1 t B → rg_R X1 A1 r m a y 1 p v → rg_N nd X1 A1 n r pl w h q → ¬ A1 2 n = 0 → -1 < rr_low A1 r n q 24 r ∧ ∀ (d : Nat) (Q : Option Value → rb_H → Prop), (∀ X', rg_Rel nd X' R (rr_tokEnd (rr_low A1 r n q) r n w) t B → Q none (rc_h X' R)) → rb_wp (d + 4) 123 44 [.ref (2 + 44 * r), .ref (rg_o nd r pl)] [] (rc_h X1 R) Q := by
    intro X1 A1 H1 R1 N1 h2n
    obtain ⟨E1, E2, E3, E4⟩ := rg_R_E R1
    have c1 := N1.2.1
    have c2 := N1.2.2.1
    have on1 : rg_on A1 r n := ⟨hn, h2n, c1.1⟩
    have r24 : A1 24 r = nI p := R1.2.1.2.2.2.2.1
    have pos : ∀ p' : Nat, p' ≤ 3 → -1 < nI p' := fun p' h8 => Int32.lt_of_lt_of_le (show (-1 : Int32) < 0 by decide) (nI_pos' (by omega))
    rcases Nat.eq_zero_or_pos q with h0 | h0
    · subst h0
      have elow : rr_low A1 r n 0 = A1 := by
        unfold rr_low
        rw [if_neg (fun h8 => absurd h8.1 (Nat.lt_irrefl 0))]
      rw [elow]
      refine ⟨by rw [r24]; exact pos p hp3, fun d Q hq => ?_⟩
      refine rw_step rfl rfl ?_
      refine rc_gv rfl tN rfl c2.2.2.2 ?_
      refine rw_if rfl (fun _ => fin X1 A1 p v 0 H1 R1 N1 h2n d Q hq) (fun h8 => absurd (show nI 0 ≤ 0 by decide) (of_decide_eq_false h8))
    · obtain ⟨q', rfl⟩ : ∃ q', q = q' + 1 := ⟨q - 1, by omega⟩
      have hq3 : q' < 3 := by have := b0.2.2.2.2; omega
      have xU : X1 (rg_o nd r pl + 7) q' = A1 7 (8 * n + q') := (N1.2.2.2.2 q' (by omega)).2
      by_cases hU : A1 7 (8 * n + q') = A1 24 r
      · obtain ⟨H2, p', v', q2, R2, N2⟩ := rg_low hr H1 R1 on1 N1 hU
        have l2 : ¬ rr_low A1 r n (q' + 1) 2 n = 0 := by
          have : rr_low A1 r n (q' + 1) 2 n = A1 2 n := by
            unfold rr_low
            split
            · rw [rr_up_at, if_neg (by omega)]
              split
              · rw [rr_up_at, if_neg (by omega), rr_up_at, if_neg (by omega), rr_up_at, if_neg (by omega)]
              · rw [rr_up_at, if_neg (by omega), rr_up_at, if_neg (by omega)]
            · rfl
          rw [this]; exact h2n
        refine ⟨by rw [R2.2.1.2.2.2.2.1]; exact pos p' R2.1.2.2.2.2.2.1, fun d Q hq => ?_⟩
        refine rw_step rfl rfl ?_
        refine rc_gv rfl tN rfl c2.2.2.2 ?_
        refine rw_if rfl (fun h8 => absurd (of_decide_eq_true h8) (nI_nle (by omega) (by omega))) (fun _ => ?_)
        refine rw_step rfl rfl ?_
        refine rc_call rfl tN (by decide) rfl rfl rfl rfl ?_
        refine rk_topU tN c2.2.2.2 hq3 ?_
        rw [xU]
        refine rw_step rfl rfl ?_
        refine rc_gr rfl tR rfl ?_
        refine rc_gv rfl tS rfl E3.2.1 ?_
        refine rw_icmp rfl (fun h8 => absurd hU (rw_ne h8)) (fun _ => ?_)
        refine rw_step rfl rfl ?_
        refine rw_step rfl rfl ?_
        refine rc_gr rfl tR rfl ?_
        refine rc_call rfl tN (by decide) rfl rfl rfl rfl ?_
        refine rk_lower tN tS c2.2.2.2 hq3 ?_
        exact fin _ _ p' v' q2 H2 R2 N2 l2 d Q hq
      · have elow : rr_low A1 r n (q' + 1) = A1 := by
          unfold rr_low
          rw [if_neg (fun h8 => hU (by have := h8.2; rw [show 8 * n + (q' + 1) - 1 = 8 * n + q' by omega] at this; exact this))]
        rw [elow]
        refine ⟨by rw [r24]; exact pos p hp3, fun d Q hq => ?_⟩
        refine rw_step rfl rfl ?_
        refine rc_gv rfl tN rfl c2.2.2.2 ?_
        refine rw_if rfl (fun h8 => absurd (of_decide_eq_true h8) (nI_nle (by omega) (by omega))) (fun _ => ?_)
        refine rw_step rfl rfl ?_
        refine rc_call rfl tN (by decide) rfl rfl rfl rfl ?_
        refine rk_topU tN c2.2.2.2 hq3 ?_
        rw [xU]
        refine rw_step rfl rfl ?_
        refine rc_gr rfl tR rfl ?_
        refine rc_gv rfl tS rfl E3.2.1 ?_
        refine rw_icmp rfl (fun _ => fin X1 A1 p v _ H1 R1 N1 h2n d Q hq) (fun h8 => absurd (rw_neF h8) hU)
  have low4 : ∀ (A1 : Nat → Nat → Int32), rr_low A1 r n q 4 n = A1 4 n := by
    intro A1
    unfold rr_low
    split
    · rw [rr_up_at, if_neg (by omega)]
      split
      · rw [rr_up_at, if_neg (by omega), rr_up_at, if_neg (by omega), rr_up_at, if_neg (by omega)]
      · rw [rr_up_at, if_neg (by omega), rr_up_at, if_neg (by omega)]
    · rfl
  have q8 : q ≤ 8 := by have := b0.2.2.2.2; omega
  by_cases hmon : rr_addr (nI n) = A 30 r
  · by_cases hpz : p = 0
    · have hw : rr_watch A r n = (0, A) := by
        unfold rr_watch
        rw [if_neg (fun h8 => h8 hmon), if_pos ⟨h9.2.1.2.2.2.1, by rw [a24, hpz]; rfl⟩]
      obtain ⟨hlo, hcl⟩ := mid X A H h9 hN hon.2.1
      refine ⟨rr_token A r n w q, fun d Q hq => rr_tokenM hr hn hwi hon.2.2 hmem (by rw [hw]; exact b1.2.2.2) q8 (by rw [hw, low4]; exact b1.2.2.1) b0.2.2.1 (by rw [hw]; exact fun _ => hlo) hq, fun d Q hq => ?_⟩
      rw [rr_token, hw, if_pos rfl] at hq
      refine rw_ent rfl rfl rfl ?_
      refine rw_step rfl rfl ?_
      refine rc_gv rfl tN rfl x3 ?_
      refine rw_step rfl rfl ?_
      refine rc_gv rfl tR rfl e1.2.2.2.2 ?_
      refine rw_icmp rfl (fun h8 => absurd hmon (rw_ne h8)) (fun _ => ?_)
      refine rw_step rfl rfl ?_
      refine rc_gr rfl tR rfl ?_
      refine rc_gv rfl tS rfl (e3.2.1.trans a24) ?_
      refine rw_if rfl (fun _ => hcl d Q hq) (fun h8 => absurd (show nI p ≤ 0 by rw [hpz]; decide) (of_decide_eq_false h8))
    · have hk24 : ¬ (A 21 r = 1 ∧ A 24 r = 0) := fun h8 => nI_ne0 (n := p) (by omega) (by omega) (a24.symm.trans h8.2)
      have hd : ∀ (d : Nat) (Q : Option Value → rb_H → Prop), rb_wp (d + 4) 123 21 [.ref (2 + 44 * r), .ref (rg_o nd r pl)] [] (rc_h X R) Q → rb_cw (d + 5) 123 [.ref (2 + 44 * r), .ref (rg_o nd r pl)] (rc_h X R) Q := by
        intro d Q kk
        refine rw_ent rfl rfl rfl ?_
        refine rw_step rfl rfl ?_
        refine rc_gv rfl tN rfl x3 ?_
        refine rw_step rfl rfl ?_
        refine rc_gv rfl tR rfl e1.2.2.2.2 ?_
        refine rw_icmp rfl (fun h8 => absurd hmon (rw_ne h8)) (fun _ => ?_)
        refine rw_step rfl rfl ?_
        refine rc_gr rfl tR rfl ?_
        refine rc_gv rfl tS rfl (e3.2.1.trans a24) ?_
        exact rw_if rfl (fun h8 => absurd (of_decide_eq_true h8) (nI_nle (by omega) (by omega))) (fun _ => kk)
      by_cases hseen : A 26 r = 0
      · have hw : rr_watch A r n = (0, rr_up A 26 r 1) := by
          unfold rr_watch
          rw [if_neg (fun h8 => h8 hmon), if_neg hk24, if_pos hseen]
        obtain ⟨H1, R1⟩ := rg_seen hr H h9
        have N1 : rg_N nd (rr_up X (2 + 44 * r + 42) 5 1) (rr_up A 26 r 1) n r pl w h q := by
          refine rg_N_congr rfl (fun i j hi => rk_ne (hap i hi).2.1) ?_ ?_ ?_ ?_ (fun i _ => ⟨?_, ?_⟩) (fun j i _ _ _ => ?_) (fun c _ => ?_) (fun c _ => ?_) hN <;> rw [rr_up_at, if_neg (by omega)]
        obtain ⟨hlo, hcl⟩ := mid _ _ H1 R1 N1 (by rw [rr_up_at, if_neg (by omega)]; exact hon.2.1)
        refine ⟨rr_token A r n w q, fun d Q hq => rr_tokenM hr hn hwi hon.2.2 hmem (by rw [hw]; exact N1.2.1.2.2.2) q8 (by rw [hw, low4]; exact N1.2.1.2.2.1) b0.2.2.1 (by rw [hw]; exact fun _ => hlo) hq, fun d Q hq => hd d Q ?_⟩
        rw [rr_token, hw, if_pos rfl] at hq
        refine rw_step rfl rfl ?_
        refine rc_gr rfl tR rfl ?_
        refine rc_gv rfl tS rfl e4.1 ?_
        refine rw_if rfl (fun _ => ?_) (fun h8 => absurd hseen (rw_eqF h8))
        refine rw_step rfl rfl ?_
        refine rc_gr rfl tR rfl ?_
        refine rw_step rfl rfl ?_
        refine rc_p rfl tS rfl rfl ?_
        exact hcl d Q hq
      · have hw : rr_watch A r n = (1, rr_purge A r n) := by
          unfold rr_watch
          rw [if_neg (fun h8 => h8 hmon), if_neg hk24, if_neg hseen]
        have pg : ∀ j i, j ≤ 20 → rr_purge A r n j i = A j i := by
          intro j i hj
          unfold rr_purge
          rw [rr_up_at, if_neg (by omega), rr_up_at, if_neg (by omega), rr_up_at, if_neg (by omega), rr_up_at, if_neg (by omega)]
        refine ⟨rr_token A r n w q, fun d Q hq => rr_tokenM hr hn hwi hon.2.2 hmem (by rw [hw]; exact (pg 5 n (by omega)).trans b1.2.2.2) q8 (by rw [hw, low4]; exact (pg 4 n (by omega)).trans b1.2.2.1) b0.2.2.1 (by rw [hw]; exact fun h8 => absurd h8 (by decide : ¬ (1 : Int32) = 0)) hq, fun d Q hq => hd d Q ?_⟩
        rw [rr_token, hw, if_neg (show ¬ (1 : Int32) = 0 by decide)] at hq
        refine rw_step rfl rfl ?_
        refine rc_gr rfl tR rfl ?_
        refine rc_gv rfl tS rfl e4.1 ?_
        refine rw_if rfl (fun h8 => absurd (rw_eq h8) hseen) (fun _ => ?_)
        refine rw_step rfl rfl ?_
        refine rc_call rfl tR (by decide) rfl rfl rfl rfl ?_
        refine rk_startP tR ?_
        refine rw_ret rfl rfl rfl (hq _ ?_)
        have := rg_purge (x := nI a) hr H h9 hon hmon b1.2.1 hpl (by rw [ha])
        rw [rg_up_id (e1.2.2.1.trans h9.2.1.2.1)] at this
        exact this
  · have hw : rr_watch A r n = (0, A) := by
      unfold rr_watch
      rw [if_pos hmon]
    obtain ⟨hlo, hcl⟩ := mid X A H h9 hN hon.2.1
    refine ⟨rr_token A r n w q, fun d Q hq => rr_tokenM hr hn hwi hon.2.2 hmem (by rw [hw]; exact b1.2.2.2) q8 (by rw [hw, low4]; exact b1.2.2.1) b0.2.2.1 (by rw [hw]; exact fun _ => hlo) hq, fun d Q hq => ?_⟩
    rw [rr_token, hw, if_pos rfl] at hq
    refine rw_ent rfl rfl rfl ?_
    refine rw_step rfl rfl ?_
    refine rc_gv rfl tN rfl x3 ?_
    refine rw_step rfl rfl ?_
    refine rc_gv rfl tR rfl e1.2.2.2.2 ?_
    exact rw_icmp rfl (fun _ => hcl d Q hq) (fun h8 => absurd (rw_neF h8) hmon)
end RHJ
