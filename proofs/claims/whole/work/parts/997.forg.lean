/-! the class forgets a station -/
section RHU
variable {d : Nat} {Q : Option Value → rb_H → Prop} {nd : Nat → Nat → Nat} {X A : Nat → Nat → Int32} {R : Nat → Nat → Option Nat} {t : Int32} {B : Nat}
def rk_fg (X : Nat → Nat → Int32) (n : Nat) : Nat → Nat → Nat → Int32
  | 0 => X
  | i + 1 => rr_up (rr_up (rk_fg X n i) (156 + (n + 1)) (i + 1) (-1)) (156 + (i + 1)) (n + 1) (-1)
theorem rk_fg_at {n : Nat} : ∀ i q j, rk_fg X n i q j = if (q = 156 + (n + 1) ∧ 1 ≤ j ∧ j ≤ i) ∨ (j = n + 1 ∧ 157 ≤ q ∧ q ≤ 156 + i) then -1 else X q j
  | 0, q, j => by rw [rk_fg, if_neg (by omega)]
  | i + 1, q, j => by
    rw [rk_fg, rr_up_at, rr_up_at, rk_fg_at i]
    by_cases c1 : q = 156 + (i + 1) ∧ j = n + 1
    · rw [if_pos c1, if_pos (by omega)]
    · rw [if_neg c1]
      by_cases c2 : q = 156 + (n + 1) ∧ j = i + 1
      · rw [if_pos c2, if_pos (by omega)]
      · rw [if_neg c2]
        by_cases c3 : (q = 156 + (n + 1) ∧ 1 ≤ j ∧ j ≤ i) ∨ (j = n + 1 ∧ 157 ≤ q ∧ q ≤ 156 + i)
        · rw [if_pos c3, if_pos (by omega)]
        · rw [if_neg c3, if_neg (by omega)]
def rk_fc (X : Nat → Nat → Int32) (a : Int32) : Nat → Nat → Nat → Int32
  | 0 => X
  | c + 1 => if rk_fc X a c (135 + 5 * c) 3 = 1 ∧ (rk_fc X a c (135 + 5 * c) 5 = a ∨ rk_fc X a c (135 + 5 * c) 6 = a) then rr_up (rk_fc X a c) (135 + 5 * c) 3 2 else rk_fc X a c
theorem rk_fc_at {a : Int32} : ∀ c q j, rk_fc X a c q j = if j = 3 ∧ 135 ≤ q ∧ q < 135 + 5 * c ∧ (q - 135) % 5 = 0 ∧ X q 3 = 1 ∧ (X q 5 = a ∨ X q 6 = a) then 2 else X q j
  | 0, q, j => by rw [rk_fc, if_neg (by omega)]
  | c + 1, q, j => by
    have e : ∀ j', rk_fc X a c (135 + 5 * c) j' = X (135 + 5 * c) j' := fun j' => by rw [rk_fc_at c, if_neg (by omega)]
    rw [rk_fc, e, e, e]
    by_cases h : X (135 + 5 * c) 3 = 1 ∧ (X (135 + 5 * c) 5 = a ∨ X (135 + 5 * c) 6 = a)
    · rw [if_pos h, rr_up_at]
      by_cases c1 : q = 135 + 5 * c ∧ j = 3
      · rw [if_pos c1, if_pos ⟨c1.2, by omega, by omega, by omega, by rw [c1.1]; exact h⟩]
      · rw [if_neg c1, rk_fc_at c]
        by_cases c2 : j = 3 ∧ 135 ≤ q ∧ q < 135 + 5 * c ∧ (q - 135) % 5 = 0 ∧ X q 3 = 1 ∧ (X q 5 = a ∨ X q 6 = a)
        · rw [if_pos c2, if_pos ⟨c2.1, c2.2.1, by omega, c2.2.2.2⟩]
        · rw [if_neg c2, if_neg (fun h2 => c2 ⟨h2.1, h2.2.1, by omega, h2.2.2.2⟩)]
    · rw [if_neg h, rk_fc_at c]
      by_cases c2 : j = 3 ∧ 135 ≤ q ∧ q < 135 + 5 * c ∧ (q - 135) % 5 = 0 ∧ X q 3 = 1 ∧ (X q 5 = a ∨ X q 6 = a)
      · rw [if_pos c2, if_pos ⟨c2.1, c2.2.1, by omega, c2.2.2.2⟩]
      · rw [if_neg c2, if_neg]
        rintro ⟨q1, q2, q3, q4, q5⟩
        by_cases c1 : q = 135 + 5 * c
        · rw [c1] at q5
          exact h q5
        · exact c2 ⟨q1, q2, by omega, q4, q5⟩
theorem rg_lvK_at {n : Nat} (hn : n < 9) : ∀ x j i, rr_lvK A n x j i = if j = 32 ∧ ((9 * n ≤ i ∧ i < 9 * n + x) ∨ (i % 9 = n ∧ i < 9 * x)) then 0 else A j i
  | 0, j, i => by rw [rr_lvK, if_neg (by omega)]
  | x + 1, j, i => by
    rw [rr_lvK, rr_up_at, rr_up_at, rg_lvK_at hn x]
    by_cases c1 : j = 32 ∧ i = 9 * x + n
    · rw [if_pos c1, if_pos (by omega)]
    · rw [if_neg c1]
      by_cases c2 : j = 32 ∧ i = 9 * n + x
      · rw [if_pos c2, if_pos (by omega)]
      · rw [if_neg c2]
        by_cases c3 : j = 32 ∧ ((9 * n ≤ i ∧ i < 9 * n + x) ∨ (i % 9 = n ∧ i < 9 * x))
        · rw [if_pos c3, if_pos (by omega)]
        · rw [if_neg c3, if_neg (by omega)]
theorem rg_lvC_at {a : Int32} : ∀ c j i, rr_lvC A a c j i = if j = 35 ∧ i < c ∧ A 35 i = 1 ∧ (A 36 i = a ∨ A 37 i = a) then 2 else A j i
  | 0, j, i => by rw [rr_lvC, if_neg (by omega)]
  | c + 1, j, i => by
    have e : ∀ j', rr_lvC A a c j' c = A j' c := fun j' => by rw [rg_lvC_at c, if_neg (by omega)]
    rw [rr_lvC, e, e, e]
    by_cases h : A 35 c = 1 ∧ (A 36 c = a ∨ A 37 c = a)
    · rw [if_pos h, rr_up_at]
      by_cases c1 : j = 35 ∧ i = c
      · rw [if_pos c1, if_pos ⟨c1.1, by omega, by rw [c1.2]; exact h⟩]
      · rw [if_neg c1, rg_lvC_at c]
        by_cases c2 : j = 35 ∧ i < c ∧ A 35 i = 1 ∧ (A 36 i = a ∨ A 37 i = a)
        · rw [if_pos c2, if_pos ⟨c2.1, by omega, c2.2.2⟩]
        · rw [if_neg c2, if_neg (fun h2 => c2 ⟨h2.1, by omega, h2.2.2⟩)]
    · rw [if_neg h, rg_lvC_at c]
      by_cases c2 : j = 35 ∧ i < c ∧ A 35 i = 1 ∧ (A 36 i = a ∨ A 37 i = a)
      · rw [if_pos c2, if_pos ⟨c2.1, by omega, c2.2.2⟩]
      · rw [if_neg c2, if_neg]
        rintro ⟨q1, q2, q3⟩
        by_cases c1 : i = c
        · rw [c1] at q3
          exact h q3
        · exact c2 ⟨q1, by omega, q3⟩
theorem rk_forget {n : Nat} (hW : rc_wf R) (hn : n < 9) (hq : Q none (rc_h (rk_fc (rk_fg X n 9) (nI (n + 1)) 4) R)) : rb_cw (d + 3) 27 [.ref 0, .int (nI (n + 1))] (rc_h X R) Q := by
  have links : ∀ (f c : Nat) (y : Value), c + f = 4 → rb_wp (d + 2) 27 30 [.ref 0, .int (nI (n + 1)), .int (nI c), y] [] (rc_h (rk_fc (rk_fg X n 9) (nI (n + 1)) c) R) Q := by
    intro f
    induction f with
    | zero =>
      intro c y hc
      have hc : c = 4 := by omega
      subst hc
      refine rw_step rfl rfl ?_
      refine rw_step rfl rfl ?_
      refine rw_step rfl rfl ?_
      exact rw_ret rfl rfl rfl hq
    | succ f ih =>
      intro c y hc
      have hc4 : c < 4 := by omega
      have tL := rc_tL hc4
      have nxt : ∀ C : Nat → Nat → Int32, C = rk_fc (rk_fg X n 9) (nI (n + 1)) (c + 1) → rb_wp (d + 2) 27 71 [.ref 0, .int (nI (n + 1)), .int (nI c), .ref (135 + 5 * c)] [] (rc_h C R) Q := by
        intro C hC
        subst hC
        refine rw_step rfl rfl ?_
        refine rw_step rfl rfl ?_
        have := ih (c + 1) (.ref (135 + 5 * c)) (by omega)
        rw [← nI_1 c] at this
        exact this
      refine rw_step rfl rfl ?_
      refine rw_step rfl rfl ?_
      refine rw_icmp rfl (fun h8 => absurd (of_decide_eq_true h8) (nI_ge (a := c) (b := 4) hc4 (by omega))) (fun _ => ?_)
      refine rw_step rfl rfl ?_
      refine rc_gr rfl rfl rfl ?_
      refine rw_step rfl rfl ?_
      refine rc_aa rfl (T := 14) rfl rfl hc4 (hW.2.1 c hc4) ?_
      refine rw_step rfl rfl ?_
      refine rw_step rfl rfl ?_
      refine rc_g rfl tL rfl ?_
      refine rw_step rfl rfl ?_
      refine rw_icmp rfl (fun h8 => nxt _ (by rw [rk_fc, if_neg (fun h7 => rw_ne h8 h7.1)])) (fun h8 => ?_)
      have h3 := rw_neF h8
      have yes : (rk_fc (rk_fg X n 9) (nI (n + 1)) c (135 + 5 * c) 5 = nI (n + 1) ∨ rk_fc (rk_fg X n 9) (nI (n + 1)) c (135 + 5 * c) 6 = nI (n + 1)) → rb_wp (d + 2) 27 66 [.ref 0, .int (nI (n + 1)), .int (nI c), .ref (135 + 5 * c)] [] (rc_h (rk_fc (rk_fg X n 9) (nI (n + 1)) c) R) Q := by
        intro h5
        refine rw_step rfl rfl ?_
        refine rw_step rfl rfl ?_
        refine rc_p rfl tL rfl rfl ?_
        exact nxt _ (by rw [rk_fc, if_pos ⟨h3, h5⟩])
      refine rw_step rfl rfl ?_
      refine rc_g rfl tL rfl ?_
      refine rw_step rfl rfl ?_
      refine rw_icmp rfl (fun h7 => yes (Or.inl (rw_eq h7))) (fun h7 => ?_)
      refine rw_step rfl rfl ?_
      refine rc_g rfl tL rfl ?_
      refine rw_step rfl rfl ?_
      refine rw_icmp rfl (fun h6 => nxt _ (by rw [rk_fc, if_neg (fun h5 => h5.2.elim (rw_eqF h7) (rw_ne h6))])) (fun h6 => yes (Or.inr (rw_neF h6)))
  have routes : ∀ (f i : Nat) (y : Value), i + f = 9 → rb_wp (d + 2) 27 2 [.ref 0, .int (nI (n + 1)), .int (nI (i + 1)), y] [] (rc_h (rk_fg X n i) R) Q := by
    intro f
    induction f with
    | zero =>
      intro i y hi
      have hi : i = 9 := by omega
      subst hi
      refine rw_step rfl rfl ?_
      refine rw_step rfl rfl ?_
      refine rw_step rfl rfl ?_
      refine rw_step rfl rfl ?_
      refine rw_step rfl rfl ?_
      exact links 4 0 _ (by omega)
    | succ f ih =>
      intro i y hi
      refine rw_step rfl rfl ?_
      refine rw_step rfl rfl ?_
      refine rw_icmp rfl (fun h8 => absurd (of_decide_eq_true h8) (nI_nlt (a := 9) (by omega) (by omega))) (fun _ => ?_)
      refine rw_step rfl rfl ?_
      refine rw_step rfl rfl ?_
      refine rw_step rfl rfl ?_
      refine rw_step rfl rfl ?_
      refine rc_call rfl rfl (by decide) rfl rfl rfl rfl ?_
      refine rk_setRoute hW (by omega) (by omega) (by omega) (by omega) ?_
      refine rw_step rfl rfl ?_
      refine rw_step rfl rfl ?_
      refine rw_step rfl rfl ?_
      refine rw_step rfl rfl ?_
      refine rc_call rfl rfl (by decide) rfl rfl rfl rfl ?_
      refine rk_setRoute hW (by omega) (by omega) (by omega) (by omega) ?_
      refine rw_step rfl rfl ?_
      refine rw_step rfl rfl ?_
      have := ih (i + 1) y (by omega)
      rw [← nI_1 (i + 1)] at this
      exact this
  refine rw_ent rfl rfl rfl ?_
  refine rw_step rfl rfl ?_
  refine rw_step rfl rfl ?_
  exact routes 9 0 _ (by omega)
theorem rg_Rel0_congr {X' A' : Nat → Nat → Int32} (H : rg_Rel0 nd X R A t) (hX : ∀ q j, q < 134 → X' q j = X q j) (hA : ∀ j i, j ≤ 31 ∨ j = 37 ∨ j = 41 → A' j i = A j i) (hT : ∀ a b, a < 9 → b < 9 → rg_T X' A' a b) : rg_Rel0 nd X' R A' t := by
  obtain ⟨⟨hW, hT0⟩, ⟨hM1, hM2⟩, hRi, hNo, hRo⟩ := H
  have e0 : A' 0 = A 0 := funext fun i => hA 0 i (by omega)
  have e1 : A' 1 = A 1 := funext fun i => hA 1 i (by omega)
  have e2 : A' 2 = A 2 := funext fun i => hA 2 i (by omega)
  have e3 : A' 3 = A 3 := funext fun i => hA 3 i (by omega)
  refine ⟨⟨hW, by rw [hX 0 3 (by omega)]; exact hT0⟩, ⟨by rw [e0, e1, e2, e3]; exact hM1, by rw [e0, e2, e3]; exact hM2⟩, ?_, ?_, hT⟩
  · intro r' hr'
    obtain ⟨m, a, y, k, p', v, h9⟩ := hRi r' hr'
    exact ⟨m, a, y, k, p', v, rg_R_congr (fun q j hq => hX q j (by omega)) (hA _ _ (by omega)) (fun j _ _ => hA _ _ (by omega)) (fun i _ => hA _ _ (by omega)) (fun j _ _ => hA _ _ (by omega)) ⟨fun n => by unfold rg_on; rw [e2, e3], fun n' h7 => ⟨hA _ _ (by omega), hA _ _ (by omega), fun i _ => ⟨hA _ _ (by omega), hA _ _ (by omega)⟩⟩⟩ (fun c _ => hA _ _ (by omega)) (fun c _ => hA _ _ (by omega)) h9⟩
  · intro n' hn' h2'
    rw [e2] at h2'
    obtain ⟨r', p', w, h, q, h9⟩ := hNo n' hn' h2'
    have hr9 := h9.1.1
    have hp9 := h9.1.2.1
    have hnd' := (hW.2 r' hr9 p' hp9).2.1
    refine ⟨r', p', w, h, q, rg_N_congr rfl (fun i j hi => hX _ j ?_) (hA _ _ (by omega)) (hA _ _ (by omega)) (hA _ _ (by omega)) (hA _ _ (by omega)) (fun i _ => ⟨hA _ _ (by omega), hA _ _ (by omega)⟩) (fun j i _ _ _ => hA _ _ (by omega)) (fun c _ => hA _ _ (by omega)) (fun c _ => hA _ _ (by omega)) h9⟩
    unfold rg_o
    omega
/-- a station has gone and is forgotten -/
theorem rg_gone {nd' : Nat → Nat → Nat} {X3 : Nat → Nat → Int32} {R' : Nat → Nat → Option Nat} {n r : Nat} (H : rg_Rel nd X R A t B) (hn : n < 9) (H0 : rg_Rel0 nd' X3 R' (rr_go A r n) t) (hX : ∀ q j, 134 ≤ q → X3 q j = X q j) : rg_Rel nd' (rk_fc (rk_fg X3 n 9) (nI (n + 1)) 4) R' (rr_lvC (rr_lvK (rr_go A r n) n 9) (nI (n + 1)) 4) t B := by
  have hX5 : ∀ q j, ¬ (157 ≤ q ∧ q ≤ 165) → rk_fc (rk_fg X3 n 9) (nI (n + 1)) 4 q j = if j = 3 ∧ 135 ≤ q ∧ q < 155 ∧ (q - 135) % 5 = 0 ∧ X3 q 3 = 1 ∧ (X3 q 5 = nI (n + 1) ∨ X3 q 6 = nI (n + 1)) then 2 else X3 q j := by
    intro q j h8
    have e : ∀ j', rk_fg X3 n 9 q j' = X3 q j' := fun j' => by rw [rk_fg_at, if_neg (by omega)]
    rw [rk_fc_at, e, e, e, e]
  have hX5r : ∀ q j, 157 ≤ q → q ≤ 165 → rk_fc (rk_fg X3 n 9) (nI (n + 1)) 4 q j = if (q = 156 + (n + 1) ∧ 1 ≤ j ∧ j ≤ 9) ∨ (j = n + 1 ∧ 157 ≤ q ∧ q ≤ 156 + 9) then -1 else X3 q j := by
    intro q j h8 h9
    rw [rk_fc_at, if_neg (by omega), rk_fg_at]
  have hAg : ∀ j i, ¬ j = 0 → ¬ j = 1 → ¬ j = 2 → ¬ j = 4 → ¬ (j = 21 ∨ j = 22 ∨ j = 23 ∨ j = 30) → rr_go A r n j i = A j i := by
    intro j i q0 q1 q2 q4 q5
    rw [rg_go_at (by omega), if_neg (by omega), if_neg (by omega), if_neg (by omega), if_neg (by omega), if_neg (by omega), if_neg (by omega), if_neg (fun h => by rcases h.1 with h | h <;> omega)]
  have hA2 : ∀ i, rr_go A r n 2 i = if i = n then 0 else A 2 i := by
    intro i
    rw [rg_go_at (by omega)]
    by_cases e : i = n
    · rw [if_pos ⟨rfl, e⟩, if_pos e]
    · rw [if_neg (fun h => e h.2), if_neg (by omega), if_neg (by omega), if_neg (by omega), if_neg (by omega), if_neg (by omega), if_neg (fun h => by rcases h.1 with h | h <;> omega), if_neg e]
  have hA5 : ∀ j i, ¬ j = 32 → rr_lvC (rr_lvK (rr_go A r n) n 9) (nI (n + 1)) 4 j i = if j = 35 ∧ i < 4 ∧ A 35 i = 1 ∧ (A 36 i = nI (n + 1) ∨ A 37 i = nI (n + 1)) then 2 else rr_go A r n j i := by
    intro j i hj
    have e : ∀ j' i', ¬ j' = 32 → rr_lvK (rr_go A r n) n 9 j' i' = rr_go A r n j' i' := fun j' i' h8 => by rw [rg_lvK_at hn, if_neg (fun h7 => h8 h7.1)]
    rw [rg_lvC_at, e 35 i (by omega), e 36 i (by omega), e 37 i (by omega), e j i hj, hAg 35 i (by omega) (by omega) (by omega) (by omega) (by omega), hAg 36 i (by omega) (by omega) (by omega) (by omega) (by omega), hAg 37 i (by omega) (by omega) (by omega) (by omega) (by omega)]
  have hA5r : ∀ i, rr_lvC (rr_lvK (rr_go A r n) n 9) (nI (n + 1)) 4 32 i = if (9 * n ≤ i ∧ i < 9 * n + 9) ∨ (i % 9 = n ∧ i < 9 * 9) then 0 else A 32 i := by
    intro i
    rw [rg_lvC_at, if_neg (by omega), rg_lvK_at hn, hAg 32 i (by omega) (by omega) (by omega) (by omega) (by omega)]
    by_cases c : (9 * n ≤ i ∧ i < 9 * n + 9) ∨ (i % 9 = n ∧ i < 9 * 9)
    · rw [if_pos ⟨rfl, c⟩, if_pos c]
    · rw [if_neg (fun h => c h.2), if_neg c]
  generalize rr_lvC (rr_lvK (rr_go A r n) n 9) (nI (n + 1)) 4 = A5 at hA5 hA5r ⊢
  generalize rk_fc (rk_fg X3 n 9) (nI (n + 1)) 4 = X5 at hX5 hX5r ⊢
  refine rg_of0 (rg_Rel0_congr H0 (fun q j hq => ?_) (fun j i hj => ?_) (fun a b ha hb => ?_)) ?_ ?_
  · rw [hX5 q j (by omega), if_neg (by omega)]
  · rw [hA5 j i (by omega), if_neg (by omega)]
  · by_cases c : a = n ∨ b = n
    · refine Or.inl ⟨?_, ?_⟩
      · rw [hA5r, if_pos (by omega)]
      · rw [hX5r _ _ (by omega) (by omega), if_pos (by omega)]
    · refine rg_T_congr ?_ ?_ ?_ ?_ (H0.2.2.2.2 a b ha hb)
      · rw [hX5r _ _ (by omega) (by omega), if_neg (by omega)]
      · rw [hA5r, if_neg (by omega), hAg 32 _ (by omega) (by omega) (by omega) (by omega) (by omega)]
      · rw [hA5 33 _ (by omega), if_neg (by omega)]
      · rw [hA5 34 _ (by omega), if_neg (by omega)]
  · intro k hk
    have := H.2.1.2.2 k hk
    have f2 : ∀ i, 9 ≤ i → A5 2 i = A 2 i := fun i hi => by rw [hA5 2 i (by omega), if_neg (by omega), hA2, if_neg (by omega)]
    have f3 : ∀ i, A5 3 i = A 3 i := fun i => by rw [hA5 3 i (by omega), if_neg (by omega), hAg 3 i (by omega) (by omega) (by omega) (by omega) (by omega)]
    rw [f2 _ (by omega), f2 _ (by omega), f3, f3]
    exact this
  · intro c hc
    obtain ⟨g0, g1, g2, ⟨O, hO, hO2, hO3⟩, g4⟩ := H.2.2.2.2.2 c hc
    have xo : ∀ i j, i < 5 → ¬ (i = 0 ∧ j = 3) → X5 (135 + 5 * c + i) j = X (135 + 5 * c + i) j := fun i j hi h8 => by rw [hX5 _ j (by omega), if_neg (by omega), hX _ _ (by omega)]
    have ao : ∀ j i, 33 ≤ j → ¬ (j = 35) → A5 j i = A j i := fun j i hj h8 => by rw [hA5 j i (by omega), if_neg (by omega), hAg j i (by omega) (by omega) (by omega) (by omega) (by omega)]
    have x3 : X5 (135 + 5 * c) 3 = if A 35 c = 1 ∧ (X (135 + 5 * c) 5 = nI (n + 1) ∨ X (135 + 5 * c) 6 = nI (n + 1)) then 2 else A 35 c := by
      rw [hX5 _ 3 (by omega), hX _ _ (by omega), hX _ _ (by omega), hX _ _ (by omega), g1]
      by_cases h8 : A 35 c = 1 ∧ (X (135 + 5 * c) 5 = nI (n + 1) ∨ X (135 + 5 * c) 6 = nI (n + 1))
      · rw [if_pos ⟨rfl, by omega, by omega, by omega, h8⟩, if_pos h8]
      · rw [if_neg (fun h7 => h8 h7.2.2.2.2), if_neg h8]
    have a35 : A5 35 c = if A 35 c = 1 ∧ (A 36 c = nI (n + 1) ∨ A 37 c = nI (n + 1)) then 2 else A 35 c := by
      rw [hA5 35 c (by omega), hAg 35 c (by omega) (by omega) (by omega) (by omega) (by omega)]
      by_cases h8 : A 35 c = 1 ∧ (A 36 c = nI (n + 1) ∨ A 37 c = nI (n + 1))
      · rw [if_pos ⟨rfl, hc, h8⟩, if_pos h8]
      · rw [if_neg (fun h7 => h8 h7.2.2), if_neg h8]
    have xo0 : ∀ j, ¬ j = 3 → X5 (135 + 5 * c) j = X (135 + 5 * c) j := fun j hj => xo 0 j (by omega) (by omega)
    have base : ∀ s5 : Int32, A5 35 c = s5 → X5 (135 + 5 * c) 3 = s5 → (s5 = A 35 c ∨ (s5 = 2 ∧ A 35 c = 1)) → (s5 = 1 → ∀ a b, A 36 c = nI a → A 37 c = nI b → 1 ≤ a → a ≤ 9 → 1 ≤ b → b ≤ 9 → ¬ a = n + 1 ∧ ¬ b = n + 1) → rg_L X5 A5 c B := by
      intro s5 hs1 hs2 hs3 hs4
      refine ⟨?_, hs2.trans hs1.symm, ?_, ⟨O, hO, ?_, ?_⟩, fun h8 => ?_⟩
      · rw [xo0 0 (by omega), xo 1 1 (by omega) (by omega), xo 3 1 (by omega) (by omega)]; exact g0
      · rw [hs1]
        rcases hs3 with h8 | h8
        · rw [h8]; exact g2
        · exact Or.inr (Or.inr h8.1)
      · rw [ao 41 c (by omega) (by omega)]; exact hO2
      · rw [xo0 4 (by omega)]; exact hO3
      · have h35 : ¬ A 35 c = 0 := by
          rcases hs3 with h7 | h7
          · rw [hs1, h7] at h8; exact h8
          · rw [h7.2]; decide
        obtain ⟨a, b, p, u, v, f, s, k, st, e, ik, is, ti, tr, f0, f1, f2, f3, f4, f5, f6, f7⟩ := g4 h35
        refine ⟨a, b, p, u, v, f, s, k, st, e, ik, is, ti, tr, f0, ?_, ?_, ?_, ?_, ⟨?_, ?_, ?_, fun i hi => ?_⟩, ⟨?_, ?_, ?_, fun i hi => ?_⟩, fun h7 => ?_⟩
        · rw [xo0 5 (by omega), xo0 6 (by omega), xo0 7 (by omega), ao 36 c (by omega) (by omega), ao 37 c (by omega) (by omega), ao 38 c (by omega) (by omega)]; exact f1
        · rw [xo0 8 (by omega), ao 39 c (by omega) (by omega), ao 40 c (by omega) (by omega)]; exact f2
        · rw [xo0 9 (by omega), xo0 10 (by omega), xo0 11 (by omega), xo0 12 (by omega), xo0 13 (by omega), ao 42 c (by omega) (by omega), ao 43 c (by omega) (by omega), ao 47 c (by omega) (by omega), ao 48 c (by omega) (by omega), ao 49 c (by omega) (by omega)]; exact f3
        · rw [xo0 14 (by omega), xo0 15 (by omega), xo0 16 (by omega), ao 46 c (by omega) (by omega), ao 52 c (by omega) (by omega), ao 53 c (by omega) (by omega)]; exact f4
        · rw [ao 44 c (by omega) (by omega)]; exact f5.1
        · rw [xo 1 3 (by omega) (by omega)]; exact f5.2.1
        · rw [xo 1 2 (by omega) (by omega)]; exact f5.2.2.1
        · rw [xo 2 _ (by omega) (by omega), ao 45 _ (by omega) (by omega)]; exact f5.2.2.2 i hi
        · rw [ao 50 c (by omega) (by omega)]; exact f6.1
        · rw [xo 3 3 (by omega) (by omega)]; exact f6.2.1
        · rw [xo 3 2 (by omega) (by omega)]; exact f6.2.2.1
        · rw [xo 4 _ (by omega) (by omega), ao 51 _ (by omega) (by omega)]; exact f6.2.2.2 i hi
        · have hs1' : s5 = 1 := hs1.symm.trans h7
          obtain ⟨na, nb⟩ := hs4 hs1' a b f1.1 f1.2.2.1 f0.1 f0.2.1 f0.2.2.1 f0.2.2.2.1
          have h1 : A 35 c = 1 := by
            rcases hs3 with h6 | h6
            · exact h6.symm.trans hs1'
            · exact h6.2
          obtain ⟨t1, t2, t3⟩ := f7 h1
          refine ⟨t1, ?_, ?_⟩
          · rw [hA5 2 _ (by omega), if_neg (by omega), hA2, if_neg (by omega)]; exact t2
          · rw [hA5 2 _ (by omega), if_neg (by omega), hA2, if_neg (by omega)]; exact t3
    by_cases h35 : A 35 c = 0
    · have z : ¬ A 35 c = 1 := by rw [h35]; decide
      rw [if_neg (fun h8 => z h8.1)] at x3 a35
      exact base (A 35 c) a35 x3 (Or.inl rfl) (fun h8 => absurd h8 z)
    · obtain ⟨a, b, p, u, v, f, s, k, st, e, ik, is, ti, tr, hC⟩ := g4 h35
      have f1 := hC.2.1
      have f0 := hC.1
      rw [f1.2.1, f1.2.2.2.1] at x3
      rw [f1.1, f1.2.2.1] at a35
      by_cases h8 : A 35 c = 1 ∧ (nI a = nI (n + 1) ∨ nI b = nI (n + 1))
      · rw [if_pos h8] at x3 a35
        exact base 2 a35 x3 (Or.inr ⟨rfl, h8.1⟩) (fun h7 => absurd h7 (by decide))
      · rw [if_neg h8] at x3 a35
        refine base (A 35 c) a35 x3 (Or.inl rfl) (fun h7 a' b' q1 q2 q3 q4 q5 q6 => ⟨fun h6 => h8 ⟨h7, Or.inl ?_⟩, fun h6 => h8 ⟨h7, Or.inr ?_⟩⟩)
        · rw [← f1.1, q1, h6]
        · rw [← f1.2.2.1, q2, h6]
end RHU
