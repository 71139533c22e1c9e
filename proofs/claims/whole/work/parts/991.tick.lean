/-! tick, on both sides -/
theorem rg_ex {d k : Nat} {as : List Value} {h : rb_H} {P : (Nat → Nat → Int32) → Prop} {R : Nat → Nat → Option Nat} (hc : ∀ Q : Option Value → rb_H → Prop, (∀ X', P X' → Q none (rc_h X' R)) → rb_cw d k as h Q) : ∃ X', P X' ∧ ∀ Q : Option Value → rb_H → Prop, Q none (rc_h X' R) → rb_cw d k as h Q := by
  obtain ⟨r, h', hrel, hr, X', hh, hP⟩ := hc (fun v h => v = none ∧ ∃ X', h = rc_h X' R ∧ P X') (fun X' hP => ⟨rfl, X', rfl, hP⟩)
  subst hr hh
  exact ⟨X', hP, fun Q hq => ⟨none, _, hrel, hq⟩⟩
theorem rr_tickput {d k pc nx a b idx : Nat} {ls r : List Value} {Q : Option Value → rb_H → Prop} {kc t v : Int32} {A : Nat → Nat → Int32} (hi : rb_ins k pc = some (.putfield idx, nx, 7, 54, kc)) (kk : rb_wp d k nx ls r (rr_h A v) Q) : rb_wp d k pc ls (.int v :: .ref 0 :: r) (rr_h A t) Q := by
  refine rw_put (h := rr_h A t) hi (show rr_enc A t 0 = rr_obj t from rfl) rfl rfl ?_
  have e : va_up (rr_enc A t) 0 (rr_obj v) = rr_enc A v := by
    funext i
    cases i with
    | zero => simp [va_up, rr_enc]
    | succ i => simp [va_up, rr_enc]
  show rb_wp d k nx ls r (55, 1603, va_up (rr_enc A t) 0 (rr_obj v)) Q
  rw [e]
  exact kk
section RHO
variable {nd : Nat → Nat → Nat} {X A : Nat → Nat → Int32} {R : Nat → Nat → Option Nat} {t : Int32} {B : Nat}
theorem rg_tickR {x : Int32} (H : rg_Rel nd X R A t B) : rg_Rel nd (rr_up X 0 3 x) R A x B := by
  obtain ⟨⟨hW, hT⟩, hM, hRi, hNo, hRo, hLi⟩ := H
  have hX : ∀ q j, ¬ q = 0 → rr_up X 0 3 x q j = X q j := fun q j hq => rk_ne hq
  refine ⟨⟨hW, rr_up_same _ _ _ _⟩, hM, ?_, ?_, ?_, ?_⟩
  · intro r' hr'
    obtain ⟨m, a, y, k, p', v, h9⟩ := hRi r' hr'
    exact ⟨m, a, y, k, p', v, rg_R_congr (fun q j hq => hX q j (by omega)) rfl (fun _ _ _ => rfl) (fun _ _ => rfl) (fun _ _ _ => rfl) ⟨fun _ => Iff.rfl, fun _ _ => ⟨rfl, rfl, fun _ _ => ⟨rfl, rfl⟩⟩⟩ (fun _ _ => rfl) (fun _ _ => rfl) h9⟩
  · intro n' hn' h2'
    obtain ⟨r', p', w, h, q, h9⟩ := hNo n' hn' h2'
    refine ⟨r', p', w, h, q, rg_N_congr rfl (fun i j hi => hX _ j ?_) rfl rfl rfl rfl (fun _ _ => ⟨rfl, rfl⟩) (fun _ _ _ _ _ => rfl) (fun _ _ => rfl) (fun _ _ => rfl) h9⟩
    unfold rg_o
    omega
  · intro a b ha hb
    exact rg_T_congr (hX _ _ (by omega)) rfl rfl rfl (hRo a b ha hb)
  · intro c hc
    exact rg_L_congr (Nat.le_refl _) (fun i j _ => hX _ _ (by omega)) (fun _ _ _ _ _ => rfl) (fun _ _ => rfl) (fun _ _ => rfl) (fun _ _ _ h => h) (hLi c hc)
theorem rg_tickRings {x i : Int32} : ∀ (f r : Nat) (X A : Nat → Nat → Int32) (B : Nat), r + f = 3 → B + f < 900000 → rg_Rel nd X R A t B → ∃ X' A' : Nat → Nat → Int32, rg_Rel nd X' R A' t (B + f) ∧ (∀ Q : Option Value → rb_H → Prop, rb_wp 7 12 46 [.ref 0, .int x, .int i, .int (nI 3)] [] (rc_h X' R) Q → rb_wp 7 12 25 [.ref 0, .int x, .int i, .int (nI r)] [] (rc_h X R) Q) ∧ ∀ Q : Option Value → rb_H → Prop, rb_wp 7 68 32 [.ref 0, .int x, .int i, .int (nI 3)] [] (rr_h A' t) Q → rb_wp 7 68 16 [.ref 0, .int x, .int i, .int (nI r)] [] (rr_h A t) Q := by
  intro f
  induction f with
  | zero =>
    intro r X A B hr hB H
    have hr : r = 3 := by omega
    subst hr
    refine ⟨X, A, H, fun Q kk => ?_, fun Q kk => ?_⟩
    · refine rw_step rfl rfl ?_
      refine rw_step rfl rfl ?_
      exact rw_step rfl rfl kk
    · refine rw_step rfl rfl ?_
      refine rw_step rfl rfl ?_
      exact rw_step rfl rfl kk
  | succ f ih =>
    intro r X A B hr hB H
    have hr3 : r < 3 := by omega
    obtain ⟨A1, hA1, hC1⟩ := rg_move H (by omega) hr3
    obtain ⟨X1, H1, hX1⟩ := rg_ex (hC1 0)
    obtain ⟨X', A', H', hX', hA'⟩ := ih (r + 1) X1 A1 (B + 1) (by omega) (by omega) H1
    refine ⟨X', A', by rw [show B + (f + 1) = B + 1 + f by omega]; exact H', fun Q kk => ?_, fun Q kk => ?_⟩
    · refine rw_step rfl rfl ?_
      refine rw_step rfl rfl ?_
      refine rw_icmp rfl (fun h8 => absurd (of_decide_eq_true h8) (nI_ge (a := r) (b := 3) hr3 (by omega))) (fun _ => ?_)
      refine rw_step rfl rfl ?_
      refine rw_step rfl rfl ?_
      refine rc_gr rfl rfl rfl ?_
      refine rw_step rfl rfl ?_
      refine rc_aa rfl (T := 10) rfl rfl hr3 (H.1.1.1.1 r hr3) ?_
      refine rc_call rfl rfl (by decide) rfl rfl rfl rfl ?_
      refine hX1 _ ?_
      refine rw_step rfl rfl ?_
      refine rw_step rfl rfl ?_
      have := hX' Q kk
      rw [← nI_1 r] at this
      exact this
    · refine rw_step rfl rfl ?_
      refine rw_step rfl rfl ?_
      refine rw_icmp rfl (fun h8 => absurd (of_decide_eq_true h8) (nI_ge (a := r) (b := 3) hr3 (by omega))) (fun _ => ?_)
      refine rw_step rfl rfl ?_
      refine rw_step rfl rfl ?_
      refine rw_call rfl rfl rfl ?_
      refine hA1 0 _ ?_
      refine rw_step rfl rfl ?_
      refine rw_step rfl rfl ?_
      have := hA' Q kk
      rw [← nI_1 r] at this
      exact this
theorem rg_tickConns {x i : Int32} : ∀ (f c : Nat) (X A : Nat → Nat → Int32), c + f = 4 → B ≤ 900000 → rg_Rel nd X R A t B → ∃ X' A' : Nat → Nat → Int32, rg_Rel nd X' R A' t B ∧ (∀ Q : Option Value → rb_H → Prop, rb_wp 7 12 78 [.ref 0, .int x, .int i, .int (nI 4)] [] (rc_h X' R) Q → rb_wp 7 12 48 [.ref 0, .int x, .int i, .int (nI c)] [] (rc_h X R) Q) ∧ ∀ Q : Option Value → rb_H → Prop, rb_wp 7 68 60 [.ref 0, .int x, .int i, .int (nI 4)] [] (rr_h A' t) Q → rb_wp 7 68 34 [.ref 0, .int x, .int i, .int (nI c)] [] (rr_h A t) Q := by
  intro f
  induction f with
  | zero =>
    intro c X A hc hB H
    have hc : c = 4 := by omega
    subst hc
    refine ⟨X, A, H, fun Q kk => ?_, fun Q kk => ?_⟩
    · refine rw_step rfl rfl ?_
      refine rw_step rfl rfl ?_
      exact rw_step rfl rfl kk
    · refine rw_step rfl rfl ?_
      refine rw_step rfl rfl ?_
      exact rw_step rfl rfl kk
  | succ f ih =>
    intro c X A hc hB H
    have hc4 : c < 4 := by omega
    obtain ⟨A1, X1, hno, hA1, hT1, hC1⟩ := rg_conn H hB hc4
    obtain ⟨X2, H2, hX2⟩ := rg_ex (hC1 4)
    obtain ⟨X', A', H', hX', hA'⟩ := ih (c + 1) X2 A1 (by omega) hB H2
    have tL := rc_tL hc4
    refine ⟨X', A', H', fun Q kk => ?_, fun Q kk => ?_⟩
    · refine rw_step rfl rfl ?_
      refine rw_step rfl rfl ?_
      refine rw_icmp rfl (fun h8 => absurd (of_decide_eq_true h8) (nI_ge (a := c) (b := 4) hc4 (by omega))) (fun _ => ?_)
      refine rw_step rfl rfl ?_
      refine rc_gr rfl rfl rfl ?_
      refine rw_step rfl rfl ?_
      refine rc_aa rfl (T := 14) rfl rfl hc4 (H.1.1.1.2.1 c hc4) ?_
      refine rc_call rfl tL (by decide) rfl rfl rfl rfl ?_
      refine hT1 6 _ ?_
      refine rw_step rfl rfl ?_
      refine rw_step rfl rfl ?_
      refine rc_gr rfl rfl rfl ?_
      refine rw_step rfl rfl ?_
      refine rc_aa rfl (T := 14) rfl rfl hc4 (H.1.1.1.2.1 c hc4) ?_
      refine rc_call rfl rfl (by decide) rfl rfl rfl rfl ?_
      refine hX2 _ ?_
      refine rw_step rfl rfl ?_
      refine rw_step rfl rfl ?_
      have := hX' Q kk
      rw [← nI_1 c] at this
      exact this
    · have nxt : rb_wp 7 68 54 [.ref 0, .int x, .int i, .int (nI c)] [] (rr_h A1 t) Q := by
        refine rw_step rfl rfl ?_
        refine rw_step rfl rfl ?_
        have := hA' Q kk
        rw [← nI_1 c] at this
        exact this
      refine rw_step rfl rfl ?_
      refine rw_step rfl rfl ?_
      refine rw_icmp rfl (fun h8 => absurd (of_decide_eq_true h8) (nI_ge (a := c) (b := 4) hc4 (by omega))) (fun _ => ?_)
      refine rw_step rfl rfl ?_
      refine rw_step rfl rfl ?_
      refine rw_step rfl rfl ?_
      refine rr_ld rfl rfl rfl (by omega) rfl ?_
      refine rw_step rfl rfl ?_
      refine rw_icmp rfl (fun h8 => ?_) (fun h8 => ?_)
      · have := hno (rw_ne h8)
        subst this
        exact nxt
      · refine rw_step rfl rfl ?_
        refine rw_step rfl rfl ?_
        refine rw_call rfl rfl rfl ?_
        exact hA1 (rw_neF h8) 4 _ nxt
theorem rg_tickLoop {N : Nat} (hN : N ≤ 200) : ∀ (f i : Nat) (X A : Nat → Nat → Int32) (t : Int32) (B : Nat), i + f = N → B + 3 * f < 900000 → rg_Rel nd X R A t B → ∃ (X' A' : Nat → Nat → Int32) (t' : Int32), rg_Rel nd X' R A' t' (B + 3 * f) ∧ (∀ (y : Value) (Q : Option Value → rb_H → Prop), Q (some (.int t')) (rc_h X' R) → rb_wp 7 12 18 [.ref 0, .int (nI N), .int (nI i), y] [] (rc_h X R) Q) ∧ ∀ (y : Value) (Q : Option Value → rb_H → Prop), Q (some (.int t')) (rr_h A' t') → rb_wp 7 68 2 [.ref 0, .int (nI N), .int (nI i), y] [] (rr_h A t) Q := by
  intro f
  induction f with
  | zero =>
    intro i X A t B hi hB H
    have hi : i = N := by omega
    subst hi
    refine ⟨X, A, t, H, fun y Q hq => ?_, fun y Q hq => ?_⟩
    · refine rw_step rfl rfl ?_
      refine rw_step rfl rfl ?_
      refine rw_icmp rfl (fun _ => ?_) (fun h8 => absurd (nI_le (Nat.le_refl _) (by omega)) (of_decide_eq_false h8))
      refine rw_step rfl rfl ?_
      refine rc_gv rfl rfl rfl H.1.2 ?_
      exact rw_ret rfl rfl rfl hq
    · refine rw_step rfl rfl ?_
      refine rw_step rfl rfl ?_
      refine rw_icmp rfl (fun _ => ?_) (fun h8 => absurd (nI_le (Nat.le_refl _) (by omega)) (of_decide_eq_false h8))
      refine rw_step rfl rfl ?_
      refine rw_step rfl rfl ?_
      exact rw_ret rfl rfl rfl hq
  | succ f ih =>
    intro i X A t B hi hB H
    obtain ⟨X1, A1, H1, hX1, hA1⟩ := rg_tickRings (x := nI N) (i := nI i) 3 0 X A B (by omega) (by omega) H
    obtain ⟨X2, A2, H2, hX2, hA2⟩ := rg_tickConns (x := nI N) (i := nI i) 4 0 X1 A1 (by omega) (by omega) H1
    have H3 := rg_tickR (x := t + 1) H2
    obtain ⟨X', A', t', H', hX', hA'⟩ := ih (i + 1) _ A2 (t + 1) (B + 3) (by omega) (by omega) H3
    refine ⟨X', A', t', by rw [show B + 3 * (f + 1) = B + 3 + 3 * f by omega]; exact H', fun y Q hq => ?_, fun y Q hq => ?_⟩
    · refine rw_step rfl rfl ?_
      refine rw_step rfl rfl ?_
      refine rw_icmp rfl (fun h8 => absurd (of_decide_eq_true h8) (nI_ge (by omega) (by omega))) (fun _ => ?_)
      refine rw_step rfl rfl ?_
      refine rw_step rfl rfl ?_
      refine hX1 Q ?_
      refine rw_step rfl rfl ?_
      refine rw_step rfl rfl ?_
      refine hX2 Q ?_
      refine rw_step rfl rfl ?_
      refine rw_step rfl rfl ?_
      refine rc_gv rfl rfl rfl H2.1.2 ?_
      refine rw_step rfl rfl ?_
      refine rw_step rfl rfl ?_
      refine rc_p rfl rfl rfl rfl ?_
      refine rw_step rfl rfl ?_
      refine rw_step rfl rfl ?_
      have := hX' (.int (nI 4)) Q hq
      rw [← nI_1 i] at this
      exact this
    · refine rw_step rfl rfl ?_
      refine rw_step rfl rfl ?_
      refine rw_icmp rfl (fun h8 => absurd (of_decide_eq_true h8) (nI_ge (by omega) (by omega))) (fun _ => ?_)
      refine rw_step rfl rfl ?_
      refine rw_step rfl rfl ?_
      refine rw_icmp rfl (fun h8 => absurd (of_decide_eq_true h8) (nI_nlt (a := 200) hN (by omega))) (fun _ => ?_)
      refine rw_step rfl rfl ?_
      refine rw_step rfl rfl ?_
      refine hA1 Q ?_
      refine rw_step rfl rfl ?_
      refine rw_step rfl rfl ?_
      refine hA2 Q ?_
      refine rw_step rfl rfl ?_
      refine rw_step rfl rfl ?_
      refine rw_step rfl rfl ?_
      refine rw_step rfl rfl ?_
      refine rw_step rfl rfl ?_
      refine rr_tickput (a := 7) (b := 54) rfl ?_
      refine rw_step rfl rfl ?_
      refine rw_step rfl rfl ?_
      have := hA' (.int (nI 4)) Q hq
      rw [← nI_1 i] at this
      exact this
/-- tick whole -/
theorem rg_tick {x : Int32} (H : rg_Rel nd X R A t B) (hB : B + 600 < 900000) : ∃ (X' A' : Nat → Nat → Int32) (t' : Int32), rg_Rel nd X' R A' t' (B + 600) ∧ (∀ Q : Option Value → rb_H → Prop, Q (some (.int t')) (rc_h X' R) → rb_cw 8 12 [.ref 0, .int x] (rc_h X R) Q) ∧ ∀ Q : Option Value → rb_H → Prop, Q (some (.int t')) (rr_h A' t') → rb_cw 8 68 [.ref 0, .int x] (rr_h A t) Q := by
  by_cases hx : x < 0
  · refine ⟨X, A, t, rg_monoB (by omega) H, fun Q hq => ?_, fun Q hq => ?_⟩
    · refine rw_ent rfl rfl rfl ?_
      refine rw_step rfl rfl ?_
      refine rw_if rfl (fun _ => ?_) (fun h8 => absurd hx (of_decide_eq_false h8))
      refine rw_step rfl rfl ?_
      refine rc_gv rfl rfl rfl H.1.2 ?_
      exact rw_ret rfl rfl rfl hq
    · refine rw_ent rfl rfl rfl ?_
      refine rw_step rfl rfl ?_
      refine rw_step rfl rfl ?_
      refine rw_step rfl rfl ?_
      refine rw_step rfl rfl ?_
      refine rw_icmp rfl (fun _ => ?_) (fun h8 => absurd (Int32.le_of_lt hx) (of_decide_eq_false h8))
      refine rw_step rfl rfl ?_
      refine rw_step rfl rfl ?_
      exact rw_ret rfl rfl rfl hq
  · by_cases hx2 : x ≤ 200
    · obtain ⟨N, hN, rfl⟩ := nI_of2 (M := 200) (n := 200) (x := x) (by decide) hx hx2
      obtain ⟨X', A', t', H', hX', hA'⟩ := rg_tickLoop hN N 0 X A t B (by omega) (by omega) H
      refine ⟨X', A', t', rg_monoB (by omega) H', fun Q hq => ?_, fun Q hq => ?_⟩
      · refine rw_ent rfl rfl rfl ?_
        refine rw_step rfl rfl ?_
        refine rw_if rfl (fun h8 => absurd (of_decide_eq_true h8) hx) (fun _ => ?_)
        refine rw_step rfl rfl ?_
        refine rw_step rfl rfl ?_
        refine rw_icmp rfl (fun _ => ?_) (fun h8 => absurd hx2 (of_decide_eq_false h8))
        refine rw_step rfl rfl ?_
        refine rw_step rfl rfl ?_
        exact hX' _ Q hq
      · refine rw_ent rfl rfl rfl ?_
        refine rw_step rfl rfl ?_
        refine rw_step rfl rfl ?_
        exact hA' _ Q hq
    · refine ⟨X, A, t, rg_monoB (by omega) H, fun Q hq => ?_, fun Q hq => ?_⟩
      · refine rw_ent rfl rfl rfl ?_
        refine rw_step rfl rfl ?_
        refine rw_if rfl (fun h8 => absurd (of_decide_eq_true h8) hx) (fun _ => ?_)
        refine rw_step rfl rfl ?_
        refine rw_step rfl rfl ?_
        refine rw_icmp rfl (fun h8 => absurd (of_decide_eq_true h8) hx2) (fun _ => ?_)
        refine rw_step rfl rfl ?_
        refine rc_gv rfl rfl rfl H.1.2 ?_
        exact rw_ret rfl rfl rfl hq
      · have hpos : ¬ x ≤ 0 := fun h8 => hx2 (Int32.le_trans h8 (by decide))
        refine rw_ent rfl rfl rfl ?_
        refine rw_step rfl rfl ?_
        refine rw_step rfl rfl ?_
        refine rw_step rfl rfl ?_
        refine rw_step rfl rfl ?_
        refine rw_icmp rfl (fun h8 => absurd (of_decide_eq_true h8) hpos) (fun _ => ?_)
        refine rw_step rfl rfl ?_
        refine rw_step rfl rfl ?_
        refine rw_icmp rfl (fun _ => ?_) (fun h8 => absurd (Int32.not_lt.mp (of_decide_eq_false h8)) hx2)
        refine rw_step rfl rfl ?_
        refine rw_step rfl rfl ?_
        exact rw_ret rfl rfl rfl hq
end RHO
