/-! a frame is received, on both sides -/
section RHG
variable {nd : Nat → Nat → Nat} {X A : Nat → Nat → Int32} {R : Nat → Nat → Option Nat} {t : Int32} {B : Nat}
theorem rg_queueK {n w i j : Nat} (hj : j ≤ 3 ∨ j = 28) (hw : w ≤ 4) : rr_queue A n w j i = A j i := by
  by_cases h : w < 4
  · rw [rg_queue_at h, if_neg (by omega), if_neg (by omega)]
  · rw [rr_queue, if_pos (by omega)]
theorem rg_ansK {c n w i j : Nat} {k : Int32} (hj : j ≤ 3 ∨ j = 28) (hw : w ≤ 4) : rr_ans A c k n w j i = A j i := by
  rw [rr_ans, rg_queueK hj hw]
  exact rg_ans0_at (by omega)
theorem rg_accK {c ib n w i j : Nat} {s v : Int32} (hj : j ≤ 3 ∨ j = 28) (hw : w ≤ 4) : rr_acc A c s v ib n w j i = A j i := by
  unfold rr_acc
  split
  · rw [rg_ansK hj hw]
    unfold rr_take
    rw [rr_up_at, if_neg (by omega), rr_up_at, if_neg (by omega), rr_up_at, if_neg (by omega), rr_up_at, if_neg (by omega)]
  · split
    · rw [rg_ansK hj hw, rr_up_at, if_neg (by omega)]
    · split
      · rw [rg_ansK hj hw]
      · split
        · rw [rg_ansK hj hw, rr_up_at, if_neg (by omega)]
        · rfl
theorem rg_hearK {c mm o i j : Nat} {k z : Int32} (hj : j ≤ 3 ∨ j = 28) : rr_hear A c k z mm o j i = A j i := by
  have e2 : ∀ (B0 : Nat → Nat → Int32) (m : Int32), rr_hd2 B0 c m j i = B0 j i := by
    intro B0 m
    unfold rr_hd2
    split
    · rw [rr_up_at, if_neg (by omega), rr_up_at, if_neg (by omega)]
    · rw [rr_up_at, if_neg (by omega), rr_up_at, if_neg (by omega), rr_up_at, if_neg (by omega), rr_up_at, if_neg (by omega)]
  have e3 : ∀ (B0 : Nat → Nat → Int32), rr_hd3 B0 c k j i = B0 j i := by
    intro B0
    unfold rr_hd3
    split
    · rw [rr_up_at, if_neg (by omega), rr_up_at, if_neg (by omega)]
    · split
      · rw [rr_up_at, if_neg (by omega), rr_up_at, if_neg (by omega)]
      · rw [rr_up_at, if_neg (by omega)]
  unfold rr_hear
  split
  · rfl
  · rw [e3, e2, rg_drop_at, if_neg (by omega), rr_up_at, if_neg (by omega)]
theorem rg_useK {f c ib n w mm o i j : Nat} (hj : j ≤ 3 ∨ j = 28) (hw : w ≤ 4) : rr_use A f c ib n w mm o j i = A j i := by
  unfold rr_use
  split
  · split
    · exact rg_accK hj hw
    · exact rg_hearK hj
  · rfl
theorem rg_replyK {f n w i j : Nat} {a : Int32} (hj : j ≤ 3 ∨ j = 28) (hw : w ≤ 4) : rr_reply A f n w a j i = A j i := by
  unfold rr_reply
  split
  · rw [rg_queueK hj hw, rg_reply0_at (by omega)]
  · rw [rg_queueK hj hw, rg_reply0_at (by omega)]
theorem rg_learnK {f x i j : Nat} (hj : j ≤ 3 ∨ j = 28) : rr_learn A f x j i = A j i := by
  unfold rr_learn
  split
  · rw [rr_up_at, if_neg (by omega), rr_up_at, if_neg (by omega), rr_up_at, if_neg (by omega)]
  · rfl
theorem rg_portK {r o w i j : Nat} {kk : Int32} (hj : j ≤ 3) (hw : w ≤ 4) : rr_port A r o w kk j i = A j i := by
  unfold rr_port
  split
  · rfl
  · split
    · split
      · rfl
      · rw [rr_pfin, rr_up_at, if_neg (by omega), rg_queueK (Or.inl hj) hw, rg_spread_at (by omega)]
    · split
      · rfl
      · rw [rr_pfin, rr_up_at, if_neg (by omega), rg_queueK (Or.inl hj) hw, rg_carry_at (by omega)]
theorem rg_statK {r n w m c ib nn ww mm o i j : Nat} (hj : j ≤ 3) (hw : w ≤ 4) (hww : ww ≤ 4) : rr_stat A r n w m c ib nn ww mm o j i = A j i := by
  unfold rr_stat
  split
  · rfl
  · split
    · rfl
    · split
      · rw [rg_replyK (Or.inl hj) hw, rr_up_at, if_neg (by omega)]
      · split
        · rw [rg_learnK (Or.inl hj), rr_up_at, if_neg (by omega)]
        · rw [rg_useK (Or.inl hj) hww, rr_up_at, if_neg (by omega)]
theorem rg_upS {S : Nat} {X' : Nat → Nat → Int32} {z : Int32} (h : X' S 7 = 1) : rr_up (rr_up X' S 7 z) S 7 1 = X' := by
  funext q j
  simp only [rr_up_at]
  by_cases c : q = S ∧ j = 7
  · rw [if_pos c, c.1, c.2, h]
  · rw [if_neg c, if_neg c]
theorem rg_recv {r n pl w h q m a y p v : Nat} (H : rg_Rel nd X R A t B) (hB : B < 900000) (hr : r < 3) (hon : rg_on A r n) (hN : rg_N nd X A n r pl w h q) (h9 : rg_R X A r m a y 2 p v) :
    ∃ C : Nat → Nat → Int32, (∀ j i, j ≤ 3 → C j i = A j i) ∧ (∀ (d : Nat) (Q : Option Value → rb_H → Prop), Q none (rr_h C t) → rb_cw (d + 5) 63 [.ref 0, .int (nI r), .int (nI n)] (rr_h A t) Q) ∧ ∀ (d : Nat) (Q : Option Value → rb_H → Prop), (∀ X', rg_Rel nd X' R C t (B + 1) → Q (some (.int 0)) (rc_h X' R)) → (∀ X', rg_Rel nd (rr_up X' (2 + 44 * r + 42) 7 1) R C t (B + 1) → Q (some (.int 1)) (rc_h X' R)) → rb_cw (d + 5) 30 [.ref 0, .ref (2 + 44 * r), .ref (rg_o nd r pl)] (rc_h X R) Q := by
  have hf := h9.2.2.2.2.2.2.2.2.1 rfl
  have hf0 := hf
  obtain ⟨k, pp, a', b', u, v', s, t', f1, f2, f3, f4, f5, f6, f7, f8⟩ := hf
  have hn := hon.1
  have b0 := hN.1
  have b1 := hN.2.1
  have b2 := hN.2.2.1
  have tN := rg_oT H b0.1 b0.2.1
  have tS := (rc_t1 (rc_tR hr)).2.1
  have tF := (rc_t1 (rc_tR hr)).2.2
  have f1a : A 8 (60 + r) = nI k := f1.1
  have hk0 : A 8 (60 + r) = 0 ↔ k = 0 := by rw [f1a]; exact nI_eq (b := 0) (by omega) (by omega)
  have hk1 : A 8 (60 + r) = 1 ↔ k = 1 := by rw [f1a]; exact nI_eq (b := 1) (by omega) (by omega)
  have f4a : A 11 (60 + r) = nI b' := f4.1
  have f3a : A 10 (60 + r) = nI a' := f3.1
  have f5a : A 12 (60 + r) = nI u - 1 := f5.1
  have hu3 := f5.2.2.1.1
  by_cases h9n : 9 ≤ n
  · -- a port
    obtain ⟨k1, k2, k3, k4, k5⟩ := rg_kp n hn h9n
    obtain ⟨r2, pl2, w2, h2, q2, hr2, hne, hon2, hN2⟩ := rg_far H hr hon h9n
    have hw2 := hN2.2.1.2.2.1
    have hw4 := hN2.1.2.2.1
    refine ⟨rr_port A r (rr_oth n) w2 (rr_addr (nI n) - 10), fun j i hj => rg_portK hj hw4, fun d Q hq => rr_receiveP (d := d + 2) hr hn h9n k3 hw2 hw4 hq, fun d Q hq0 hq1 => ?_⟩
    rw [k5] at hq0 hq1
    have h4 : A 4 (rr_oth n) = 4 ↔ w2 = 4 := by rw [hw2]; exact nI_eq (b := 4) (by omega) (by omega)
    refine rw_ent rfl rfl rfl ?_
    refine rw_step rfl rfl ?_
    refine rc_gr rfl (rc_tR hr) rfl ?_
    refine rc_gr rfl tS rfl ?_
    refine rw_step rfl rfl ?_
    refine rw_step rfl rfl ?_
    refine rc_gv rfl tN rfl (b2.1.trans k1) ?_
    refine rw_step rfl rfl ?_
    refine rw_icmp rfl (fun h8 => absurd (of_decide_eq_true h8) (nI_nlt (b := 10) (by omega) (by omega))) (fun _ => ?_)
    refine rw_step rfl rfl ?_
    refine rc_gv rfl tF rfl f1.2.1 ?_
    refine rw_step rfl rfl ?_
    have cop : ∀ X' A1, rg_Rel nd X' R A1 t B → rg_Rel nd (rr_up X' (2 + 44 * r + 42) 7 1) R (rr_up A1 28 r 1) t (B + 1) := by
      intro X' A1 H1
      obtain ⟨m1, a1, y1, kk1, p1, v1, g1⟩ := H1.2.2.1 r hr
      exact rg_monoB (by omega) (rg_copied hr H1 g1).1
    by_cases hk : k = 0
    · have hk8 := hk0.mpr hk
      refine rw_icmp rfl (fun h8 => absurd (by rw [hk]; rfl) (rw_ne h8)) (fun _ => ?_)
      refine rw_step rfl rfl ?_
      refine rw_step rfl rfl ?_
      refine rw_step rfl rfl ?_
      refine rw_step rfl rfl ?_
      refine rc_call rfl rfl (by decide) rfl rfl rfl rfl ?_
      refine rg_spread (d := d + 1) H hr hon h9n hN hr2 hne hon2 hN2 hf0 hk8 (fun hno hw X' H' => ?_) (fun hy => ?_)
      · refine rw_step rfl rfl ?_
        refine rw_ret rfl rfl rfl (hq1 X' ?_)
        rw [rr_port, if_neg (fun h7 => by have := h4.mp h7; omega), if_pos hk8, if_neg hno]
        exact cop _ _ H'
      · refine rw_step rfl rfl ?_
        refine rw_ret rfl rfl rfl (hq0 X ?_)
        have : rr_port A r (rr_oth n) w2 (nI ((n - 9) / 2)) = A := by
          rw [rr_port]
          by_cases h7 : A 4 (rr_oth n) = 4
          · rw [if_pos h7]
          · rw [if_neg h7, if_pos hk8, if_pos]
            rcases hy with hy | hy
            · exact hy
            · exact absurd (h4.mpr hy) h7
        rw [this]
        exact rg_monoB (by omega) H
    · have hk8 : ¬ A 8 (60 + r) = 0 := fun h7 => hk (hk0.mp h7)
      refine rw_icmp rfl (fun _ => ?_) (fun h8 => absurd ((nI_eq (a := k + 1) (b := 1) (by omega) (by omega)).mp (rw_neF h8)) (by omega))
      refine rw_step rfl rfl ?_
      refine rw_step rfl rfl ?_
      refine rw_step rfl rfl ?_
      refine rw_step rfl rfl ?_
      refine rc_call rfl rfl (by decide) rfl rfl rfl rfl ?_
      refine rg_carry (d := d + 1) H hr hon h9n hN hr2 hne hon2 hN2 hf0 hk8 (fun h12 hw X' H' => ?_) (fun hy => ?_)
      · refine rw_ret rfl rfl rfl (hq1 X' ?_)
        rw [rr_port, if_neg (fun h7 => by have := h4.mp h7; omega), if_neg hk8, if_neg (fun h7 => h7 h12)]
        exact cop _ _ H'
      · refine rw_ret rfl rfl rfl (hq0 X ?_)
        have : rr_port A r (rr_oth n) w2 (nI ((n - 9) / 2)) = A := by
          rw [rr_port]
          by_cases h7 : A 4 (rr_oth n) = 4
          · rw [if_pos h7]
          · rw [if_neg h7, if_neg hk8, if_pos]
            rcases hy with hy | hy
            · exact hy
            · exact absurd (h4.mpr hy) h7
        rw [this]
        exact rg_monoB (by omega) H
  · -- a station
    have hn9 : n < 9 := by omega
    have x3 : X (rg_o nd r pl) 3 = nI (n + 1) := b2.1.trans (rr_addrS hn9)
    have hu0 : X (2 + 44 * r + 43) 4 = 0 ↔ u = 0 := by
      rw [f5.2.2.2]
      have hp := f5.2.2.1
      constructor
      · intro h8
        have := (nI_eq (a := u + 4 * v') (b := 0) (by have := hp.2.1; omega) (by omega)).mp h8
        omega
      · intro h8
        rw [h8, hp.2.2 h8]; rfl
    have hneg : A 12 (60 + r) < 0 ↔ u = 0 := by rw [f5a]; exact rg_neg3 u (by omega)
    have h11 : A 11 (60 + r) = nI (n + 1) ↔ b' = n + 1 := by rw [f4a]; exact nI_eq (by omega) (by omega)
    -- the way to the decision
    have head : ∀ (d : Nat) (Q : Option Value → rb_H → Prop), (u = 0 → b' = n + 1 → rb_wp (d + 4) 30 63 [.ref 0, .ref (2 + 44 * r), .ref (rg_o nd r pl), .ref (2 + 44 * r + 43)] [] (rc_h X R) Q) → ((¬ u = 0 ∨ ¬ b' = n + 1) → Q (some (.int 0)) (rc_h X R)) → rb_cw (d + 5) 30 [.ref 0, .ref (2 + 44 * r), .ref (rg_o nd r pl)] (rc_h X R) Q := by
      intro d Q kk1 kk2
      refine rw_ent rfl rfl rfl ?_
      refine rw_step rfl rfl ?_
      refine rc_gr rfl (rc_tR hr) rfl ?_
      refine rc_gr rfl tS rfl ?_
      refine rw_step rfl rfl ?_
      refine rw_step rfl rfl ?_
      refine rc_gv rfl tN rfl x3 ?_
      refine rw_step rfl rfl ?_
      refine rw_icmp rfl (fun _ => ?_) (fun h8 => absurd (nI_lt (a := n + 1) (b := 10) (by omega) (by omega)) (of_decide_eq_false h8))
      refine rw_step rfl rfl ?_
      refine rc_g rfl tF rfl ?_
      refine rw_if rfl (fun h8 => ?_) (fun h8 => ?_)
      · refine rw_step rfl rfl ?_
        exact rw_ret rfl rfl rfl (kk2 (Or.inl (fun h7 => rw_ne h8 (hu0.mpr h7))))
      · have hu := hu0.mp (rw_neF h8)
        refine rw_step rfl rfl ?_
        refine rc_gv rfl tF rfl f4.2.1 ?_
        refine rw_step rfl rfl ?_
        refine rc_gv rfl tN rfl x3 ?_
        refine rw_icmp rfl (fun h7 => kk1 hu ((nI_eq (by omega) (by omega)).mp (rw_eq h7))) (fun h7 => ?_)
        refine rw_step rfl rfl ?_
        exact rw_ret rfl rfl rfl (kk2 (Or.inr (fun h6 => rw_eqF h7 (by rw [h6]))))
    -- nothing happens
    have none' : (¬ u = 0 ∨ ¬ b' = n + 1) → ∀ m' c ib nn ww mm o, rr_stat A r n w m' c ib nn ww mm o = A := by
      intro hno m' c ib nn ww mm o
      rw [rr_stat]
      by_cases hb : b' = n + 1
      · have hu : ¬ u = 0 := hno.elim (fun h8 => h8) (fun h8 => absurd hb h8)
        rw [if_neg (fun h8 => h8 (h11.mpr hb)), if_pos ⟨fun h8 => hu (f7 (hk0.mp h8)).1, fun h8 => hu (hneg.mp h8)⟩]
      · rw [if_pos (fun h8 => hb (h11.mp h8))]
    by_cases hok : u = 0 ∧ b' = n + 1
    · obtain ⟨hu, hb⟩ := hok
      have hA1 := (rg_copied hr H h9).1
      have hR1 := (rg_copied hr H h9).2
      have hx28 : ∀ X' C, rg_Rel nd X' R C t (B + 1) → C 28 r = 1 → X' (2 + 44 * r + 42) 7 = 1 := by
        intro X' C H' h28
        obtain ⟨m1, a1, y1, kk1, p1, v1, g1⟩ := H'.2.2.1 r hr
        exact g1.2.2.2.2.2.1.2.2.trans h28
      have base : rr_up (rr_up X (2 + 44 * r + 42) 7 1) (2 + 44 * r + 42) 7 (X (2 + 44 * r + 42) 7) = X := rg_upup rfl
      have hon1 : rg_on (rr_up A 28 r 1) r n := by simpa [rg_on, rr_up_at] using hon
      have hap := rg_apart H hr b0.2.1
      have hN1 : rg_N nd (rr_up X (2 + 44 * r + 42) 7 1) (rr_up A 28 r 1) n r pl w h q := by
        refine rg_N_congr rfl (fun i j hi => rk_ne (hap i hi).2.1) ?_ ?_ ?_ ?_ (fun i _ => ⟨?_, ?_⟩) (fun j i _ _ _ => ?_) (fun c _ => ?_) (fun c _ => ?_) hN <;> rw [rr_up_at, if_neg (by omega)]
      have hf1 := hR1.2.2.2.2.2.2.2.2.1 rfl
      have a28 : ∀ j i, ¬ j = 28 → rr_up A 28 r 1 j i = A j i := fun j i hj => by rw [rr_up_at, if_neg (fun h8 => hj h8.1)]
      have a28r : rr_up A 28 r 1 28 r = 1 := rr_up_same _ _ _ _
      by_cases hkz : k = 0
      · have hk8 := hk0.mpr hkz
        refine ⟨rr_stat A r n w 0 0 0 0 0 0 0, fun j i hj => rg_statK hj b0.2.2.1 (by omega), fun d Q hq => rr_receiveS (d := d) hr hn9 (fun _ => ⟨b1.2.2.1, b0.2.2.1⟩) (fun h8 => absurd (h8.symm.trans hk8) (by decide)) (fun h8 => absurd hk8 h8) hq, fun d Q hq0 hq1 => head d Q (fun _ _ => ?_) (fun h8 => absurd h8 (by omega))⟩
        rw [rr_stat, if_neg (fun h8 => h8 (h11.mpr hb)), if_neg (fun h8 => h8.1 hk8), if_pos hk8] at hq1
        refine rw_step rfl rfl ?_
        refine rc_gv (v := 1) rfl tF rfl (f1.2.1.trans (by rw [hkz]; rfl)) ?_
        refine rw_step rfl rfl ?_
        refine rw_step rfl rfl ?_
        refine rw_step rfl rfl ?_
        refine rw_call rfl rfl rfl ?_
        rw [← base]
        refine rg_qRep (d := d + 2) tS hA1 hr hn9 hon1 hN1 hf1 (fun X' H' => ?_)
        refine rw_step rfl rfl ?_
        refine rw_step rfl rfl ?_
        refine rw_ret rfl rfl rfl (hq1 _ ?_)
        have H2 := rg_monoB (B' := B + 1) (by omega) H'
        have e28 : rr_reply (rr_up A 28 r 1) (60 + r) n w (nI (n + 1)) 28 r = 1 := by
          rw [rg_replyK (Or.inr rfl) b0.2.2.1, a28r]
        rw [rg_upS (hx28 _ _ H2 e28)]
        exact H2
      · have hk8 : ¬ A 8 (60 + r) = 0 := fun h8 => hkz (hk0.mp h8)
        by_cases hkone : k = 1
        · have hk81 := hk1.mpr hkone
          obtain ⟨m', rfl⟩ : ∃ m', a' = m' + 1 := ⟨a' - 1, by omega⟩
          refine ⟨rr_stat A r n w m' 0 0 0 0 0 0, fun j i hj => rg_statK hj b0.2.2.1 (by omega), fun d Q hq => rr_receiveS (d := d) hr hn9 (fun h8 => absurd h8 hk8) (fun _ => ⟨by omega, f3a⟩) (fun _ h8 => absurd hk81 h8) hq, fun d Q hq0 hq1 => head d Q (fun _ _ => ?_) (fun h8 => absurd h8 (by omega))⟩
          rw [rr_stat, if_neg (fun h8 => h8 (h11.mpr hb)), if_neg (fun h8 => h8.2 (hneg.mpr hu)), if_neg hk8, if_pos hk81] at hq1
          refine rw_step rfl rfl ?_
          refine rc_gv (v := 2) rfl tF rfl (f1.2.1.trans (by rw [hkone]; rfl)) ?_
          refine rw_step rfl rfl ?_
          refine rw_step rfl rfl ?_
          refine rw_step rfl rfl ?_
          rw [← base]
          refine rc_call rfl rfl (by decide) rfl rfl rfl rfl ?_
          refine rg_learn (d := d + 1) (n := n) (m := m') tS hA1 hr hn9 (by omega) hf1 ((a28 _ _ (by omega)).trans (h11.mpr hb)) ((a28 _ _ (by omega)).trans f3a) (fun X' H' => ?_)
          refine rw_step rfl rfl ?_
          refine rw_step rfl rfl ?_
          refine rw_ret rfl rfl rfl (hq1 _ ?_)
          have H2 := rg_monoB (B' := B + 1) (by omega) H'
          have e28 : rr_learn (rr_up A 28 r 1) (60 + r) (9 * n + m') 28 r = 1 := by
            rw [rg_learnK (Or.inr rfl), a28r]
          rw [rg_upS (hx28 _ _ H2 e28)]
          exact H2
        · have hk81 : ¬ A 8 (60 + r) = 1 := fun h8 => hkone (hk1.mp h8)
          obtain ⟨c, ib, mm, o, hU, hcl⟩ := rg_use (z := X (2 + 44 * r + 42) 7) tS hA1 hB hr hn9 hon1 hN1 hf1 (by rw [a28 _ _ (by omega)]; exact hk8) (by rw [a28 _ _ (by omega)]; exact hk81) ((a28 _ _ (by omega)).trans (h11.mpr hb))
          have hU' : rr_useOk A (60 + r) c ib n w mm o := by
            unfold rr_useOk rr_many at hU ⊢
            simpa [rr_up_at] using hU
          refine ⟨rr_stat A r n w 0 c ib n w mm o, fun j i hj => rg_statK hj b0.2.2.1 b0.2.2.1, fun d Q hq => rr_receiveS (d := d) hr hn9 (fun h8 => absurd h8 hk8) (fun h8 => absurd h8 hk81) (fun _ _ => hU') hq, fun d Q hq0 hq1 => head d Q (fun _ _ => ?_) (fun h8 => absurd h8 (by omega))⟩
          rw [rr_stat, if_neg (fun h8 => h8 (h11.mpr hb)), if_neg (fun h8 => h8.2 (hneg.mpr hu)), if_neg hk8, if_neg hk81] at hq1
          refine rw_step rfl rfl ?_
          refine rc_gv rfl tF rfl f1.2.1 ?_
          refine rw_sw (tg := 108) rfl rfl (rw_swN (fun h8 => ?_) (rw_swN (fun h8 => ?_) rfl)) ?_
          · have := (nI_eq (a := k + 1) (b := 1) (by omega) (by omega)).mp h8
            omega
          · have := (nI_eq (a := k + 1) (b := 2) (by omega) (by omega)).mp h8
            omega
          refine rw_step rfl rfl ?_
          refine rw_step rfl rfl ?_
          refine rw_step rfl rfl ?_
          rw [← base]
          refine rc_call rfl rfl (by decide) rfl rfl rfl rfl ?_
          refine hcl d _ (fun X' H' => ?_)
          refine rw_step rfl rfl ?_
          refine rw_ret rfl rfl rfl (hq1 _ ?_)
          rw [rg_upS (hx28 _ _ H' ((rg_useK (Or.inr rfl) b0.2.2.1).trans a28r))]
          exact H'
    · have hno : ¬ u = 0 ∨ ¬ b' = n + 1 := by
        by_cases hu : u = 0
        · exact Or.inr (fun h8 => hok ⟨hu, h8⟩)
        · exact Or.inl hu
      have hst := none' hno
      refine ⟨A, fun _ _ _ => rfl, fun d Q hq => ?_, fun d Q hq0 _ => head d Q (fun h7 h8 => absurd ⟨h7, h8⟩ hok) (fun _ => hq0 X (rg_monoB (by omega) H))⟩
      by_cases hkz : k = 0
      · exact rr_receiveS (d := d) (m := 0) (c := 0) (ib := 0) (nn := 0) (ww := 0) (mm := 0) (o := 0) hr hn9 (fun _ => ⟨b1.2.2.1, b0.2.2.1⟩) (fun h8 => absurd (h8.symm.trans (hk0.mpr hkz)) (by decide)) (fun h8 => absurd (hk0.mpr hkz) h8) (by rw [hst]; exact hq)
      · by_cases hkone : k = 1
        · obtain ⟨m', rfl⟩ : ∃ m', a' = m' + 1 := ⟨a' - 1, by omega⟩
          exact rr_receiveS (d := d) (w := w) (m := m') (c := 0) (ib := 0) (nn := 0) (ww := 0) (mm := 0) (o := 0) hr hn9 (fun h8 => absurd (hk0.mp h8) hkz) (fun _ => ⟨by omega, f3a⟩) (fun _ h8 => absurd (hk1.mpr hkone) h8) (by rw [hst]; exact hq)
        · obtain ⟨c, o, O, zz, d1, d2, d3, d4, d5, d6, d7, d8, d9, d10, d11, d12⟩ := f8 (by omega)
          obtain ⟨g0, g1, g2, g3, g4⟩ := H.2.2.2.2.2 c d1
          have ex : ∃ ib nn ww mm oo, rr_useOk A (60 + r) c ib nn ww mm oo := by
            by_cases hop : A 35 c = 1
            · obtain ⟨a2, b2', p2, u2, v2, ff, s2, k2, st, e, ik, is, ti, tr, e0, e1, e2, e3, e4, e5, e6, e7⟩ := g4 (by rw [hop]; decide)
              obtain ⟨r3, pl3, w3, h3, q3, hN3⟩ := H.2.2.2.1 (b2' - 1) (by omega) (e7 hop).2.2
              have hm : rr_many A c (A 19 (60 + r)) = nI ((zz + 7 * ff) % 8) := by
                show rr_rem (A 19 (60 + r) - rr_rem (A 42 c) 8 + 8) 8 = _
                rw [show A 19 (60 + r) = nI zz from d9, e3.1]
                exact rg_many d11 (by omega)
              refine ⟨ik, b2' - 1, w3, (zz + 7 * ff) % 8, k2, d1, d2, fun _ _ => ⟨e6.1, e0.2.2.2.2.2.2.2.2.2.2.2.2.1, by omega, ?_, hN3.2.1.2.2.1, hN3.1.2.2.1⟩, fun _ _ => ⟨hm, e5.1, e0.2.2.2.2.2.2.2.2.2.1, fun h8 => ?_⟩⟩
              · rw [show b2' - 1 + 1 = b2' by omega]; exact e1.2.2.1
              · rw [hm, e3.2.2.1] at h8
                have := (nI_leI (by omega) (by omega)).mp h8
                omega
            · exact ⟨0, 0, 0, 0, 0, d1, d2, fun h8 => absurd h8.1 hop, fun h8 => absurd h8.1 hop⟩
          obtain ⟨ib, nn, ww, mm, oo, hU⟩ := ex
          exact rr_receiveS (d := d) (w := w) (m := 0) hr hn9 (fun h8 => absurd (hk0.mp h8) hkz) (fun h8 => absurd (hk1.mp h8) hkone) (fun _ _ => hU) (by rw [hst]; exact hq)
end RHG
