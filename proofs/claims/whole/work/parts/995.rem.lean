/-! the class: a node is removed -/
section RHS
variable {d : Nat} {Q : Option Value → rb_H → Prop} {X : Nat → Nat → Int32} {R : Nat → Nat → Option Nat} {np : Nat → Nat}
theorem rg_vup {p : Nat} {g h : Nat → Option Nat} : va_up (va_up R p g) p h = va_up R p h := by
  funext q
  unfold va_up
  by_cases c : q = p
  · rw [if_pos c, if_pos c]
  · rw [if_neg c, if_neg c, if_neg c]
theorem rg_vat {p : Nat} {g : Nat → Option Nat} : va_up R p g p = g := by
  unfold va_up
  rw [if_pos rfl]
def rk_sh (f : Nat → Option Nat) (p0 i : Nat) : Nat → Option Nat := fun x => if p0 ≤ x ∧ x < i then f (x + 1) else f x
/-- the row of nodes when that of place p0 has gone -/
def rk_gone (f : Nat → Option Nat) (p0 m v : Nat) : Nat → Option Nat := va_up (rk_sh f p0 (m - 1)) (m - 1) (some v)
theorem rk_rmTail {P N m k : Nat} {mo ad g x1 : Int32} {y : Value} {R' : Nat → Nat → Option Nat} {X2 : Nat → Nat → Int32} (hP : rc_ty P = 1) (hN : rc_ty N = 2) (hm : X2 P 3 = nI (m - 1)) (hm5 : m ≤ 5) (h6 : X2 P 6 = mo) (hg : X2 N 3 = g) (hk : X2 (P + 42) 1 = nI k) (hk4 : k ≤ 4) (h4 : X2 (P + 42) 4 = ad)
    (hq : ∀ X', (∀ q j, ¬ (q = P ∧ 5 ≤ j ∧ j ≤ 6) → ¬ (q = P + 42 ∧ j = 1) → X' q j = X2 q j) → X' P 6 = (if mo = g then 0 else mo) → ((m - 1 = 0 ∨ ((k = 3 ∨ k = 4) ∧ ad = g)) → X' P 5 = 0 ∧ X' (P + 42) 1 = 0) → (¬ (m - 1 = 0 ∨ ((k = 3 ∨ k = 4) ∧ ad = g)) → X' P 5 = X2 P 5 ∧ X' (P + 42) 1 = nI k) → Q none (rc_h X' R')) : rb_wp (d + 1) 119 107 [.ref P, .int x1, .ref N, y] [] (rc_h X2 R') Q := by
  have hS := (rc_t1 hP).2.1
  have hNP : N ≠ P := rk_tne hN hP rfl
  have hNS : N ≠ P + 42 := rk_tne hN hS rfl
  -- from the question whether the signal is its own
  have last : ∀ X3 : Nat → Nat → Int32, (∀ q j, ¬ (q = P ∧ j = 6) → X3 q j = X2 q j) → X3 P 6 = (if mo = g then 0 else mo) → rb_wp (d + 1) 119 123 [.ref P, .int x1, .ref N, y] [] (rc_h X3 R') Q := by
    intro X3 hX3 hX6
    have k3 : X3 (P + 42) 1 = nI k := (hX3 _ _ (by omega)).trans hk
    have s3 : X3 P 3 = nI (m - 1) := (hX3 _ _ (by omega)).trans hm
    have quiet : (m - 1 = 0 ∨ ((k = 3 ∨ k = 4) ∧ ad = g)) → ∀ l : Value, rb_wp (d + 1) 119 176 [.ref P, .int x1, .ref N, l] [] (rc_h X3 R') Q := by
      intro hy l
      refine rw_step rfl rfl ?_
      refine rc_call rfl hP (by decide) rfl rfl rfl rfl ?_
      refine rk_silent hP ?_
      refine rw_ret rfl rfl rfl (hq _ (fun q j q1 q2 => ?_) ?_ (fun _ => ⟨rr_up_same _ _ _ _, ?_⟩) (fun h8 => absurd hy h8))
      · rw [rr_up_at, if_neg (by omega), rr_up_at, if_neg (by omega), hX3 q j (by omega)]
      · rw [rk_ne2 (by decide), rk_ne (by omega), hX6]
      · rw [rk_ne (by omega), rr_up_same]
    have stay : ¬ (m - 1 = 0 ∨ ((k = 3 ∨ k = 4) ∧ ad = g)) → ∀ l : Value, rb_wp (d + 1) 119 180 [.ref P, .int x1, .ref N, l] [] (rc_h X3 R') Q := by
      intro hn l
      refine rw_ret rfl rfl rfl (hq X3 (fun q j q1 q2 => hX3 q j (by omega)) hX6 (fun h8 => absurd h8 hn) (fun _ => ⟨hX3 _ _ (by omega), k3⟩))
    have dec : ∀ b : Int32, (b = 1 ↔ (k = 3 ∨ k = 4)) → (b = 0 ↔ ¬ (k = 3 ∨ k = 4)) → rb_wp (d + 1) 119 150 [.ref P, .int x1, .ref N, y] [.int b] (rc_h X3 R') Q := by
      intro b hb1 hb0
      refine rw_step rfl rfl ?_
      refine rw_step rfl rfl ?_
      refine rc_gv rfl hP rfl s3 ?_
      refine rw_if rfl (fun h8 => quiet (Or.inl ?_) _) (fun h8 => ?_)
      · exact (nI_eq (a := m - 1) (b := 0) (by omega) (by omega)).mp (rw_eq h8)
      have hm0 : ¬ m - 1 = 0 := fun h7 => rw_eqF h8 (by rw [h7]; rfl)
      refine rw_step rfl rfl ?_
      refine rw_if rfl (fun h7 => stay (fun h6 => ?_) _) (fun h7 => ?_)
      · exact h6.elim hm0 (fun h5 => hb0.mp (rw_eq h7) h5.1)
      have hkk : k = 3 ∨ k = 4 := Classical.byContradiction (fun h6 => rw_eqF h7 (hb0.mpr h6))
      refine rw_step rfl rfl ?_
      refine rc_gr rfl hP rfl ?_
      refine rc_gv rfl hS rfl ((hX3 _ _ (by omega)).trans h4) ?_
      refine rw_step rfl rfl ?_
      refine rc_gv rfl hN rfl ((hX3 _ _ (fun h6 => hNP h6.1)).trans hg) ?_
      refine rw_icmp rfl (fun h6 => stay (fun h5 => h5.elim hm0 (fun h4 => rw_ne h6 h4.2)) _) (fun h6 => quiet (Or.inr ⟨hkk, rw_neF h6⟩) _)
    refine rw_step rfl rfl ?_
    refine rc_gr rfl hP rfl ?_
    refine rc_gv rfl hS rfl k3 ?_
    refine rw_step rfl rfl ?_
    refine rw_icmp rfl (fun h8 => ?_) (fun h8 => ?_)
    · have hk3 : k = 3 := (nI_eq (b := 3) (by omega) (by omega)).mp (rw_eq h8)
      refine rw_step rfl rfl ?_
      refine rw_step rfl rfl ?_
      exact dec 1 ⟨fun _ => Or.inl hk3, fun _ => rfl⟩ ⟨fun h7 => absurd h7 (by decide), fun h7 => absurd (Or.inl hk3) h7⟩
    · have hk3 : ¬ k = 3 := fun h7 => rw_eqF h8 (by rw [h7]; rfl)
      refine rw_step rfl rfl ?_
      refine rc_gr rfl hP rfl ?_
      refine rc_gv rfl hS rfl k3 ?_
      refine rw_step rfl rfl ?_
      refine rw_icmp rfl (fun h7 => ?_) (fun h7 => ?_)
      · have hk4' : ¬ k = 4 := fun h6 => rw_ne h7 (by rw [h6]; rfl)
        refine rw_step rfl rfl ?_
        exact dec 0 ⟨fun h6 => absurd h6 (by decide), fun h6 => absurd h6 (fun h5 => h5.elim hk3 hk4')⟩ ⟨fun _ h6 => h6.elim hk3 hk4', fun _ => rfl⟩
      · have hk4' : k = 4 := (nI_eq (b := 4) (by omega) (by omega)).mp (rw_neF h7)
        refine rw_step rfl rfl ?_
        refine rw_step rfl rfl ?_
        exact dec 1 ⟨fun _ => Or.inr hk4', fun _ => rfl⟩ ⟨fun h6 => absurd h6 (by decide), fun h6 => absurd (Or.inr hk4') h6⟩
  refine rw_step rfl rfl ?_
  refine rc_gv rfl hP rfl h6 ?_
  refine rw_step rfl rfl ?_
  refine rc_gv rfl hN rfl hg ?_
  refine rw_icmp rfl (fun h8 => ?_) (fun h8 => ?_)
  · exact last X2 (fun _ _ _ => rfl) (by rw [if_neg (rw_ne h8)]; exact h6)
  · refine rw_step rfl rfl ?_
    refine rw_step rfl rfl ?_
    refine rc_p rfl hP rfl rfl ?_
    exact last _ (fun q j q1 => by rw [rr_up_at, if_neg q1]) (by rw [rr_up_same, if_pos (rw_neF h8)])
theorem rk_remove {P m p0 a k : Nat} {mo ad g : Int32} (hP : rc_ty P = 1) (hn : rk_np R P np) (hm : X P 3 = nI m) (hm5 : m ≤ 5) (hp0 : p0 < m) (ha : X P 4 = nI a) (ham : a < m ∨ a = 0) (h6 : X P 6 = mo) (hg : X (np p0) 3 = g) (hk : X (P + 42) 1 = nI k) (hk4 : k ≤ 4) (h4 : X (P + 42) 4 = ad)
    (hq : ∀ X', (∀ q j, ¬ (q = P ∧ 3 ≤ j ∧ j ≤ 6) → ¬ (q = P + 42 ∧ j = 1) → X' q j = X q j) → X' P 3 = nI (m - 1) → X' P 4 = nI (if p0 < a then a - 1 else if m - 1 ≤ a then 0 else a) → X' P 6 = (if mo = g then 0 else mo) → ((m - 1 = 0 ∨ ((k = 3 ∨ k = 4) ∧ ad = g)) → X' P 5 = 0 ∧ X' (P + 42) 1 = 0) → (¬ (m - 1 = 0 ∨ ((k = 3 ∨ k = 4) ∧ ad = g)) → X' P 5 = X P 5 ∧ X' (P + 42) 1 = nI k) → Q none (rc_h X' (va_up R (P + 1) (rk_gone (R (P + 1)) p0 m (np p0))))) : rb_cw (d + 2) 119 [.ref P, .int (nI p0)] (rc_h X R) Q := by
  have hN := (hn p0 (by omega)).2
  have hT := (rc_t1 hP).1
  have hNP : np p0 ≠ P := rk_tne hN hP rfl
  -- behind the shift
  have tail : rb_wp (d + 1) 119 50 [.ref P, .int (nI p0), .ref (np p0), .int (nI (m - 1))] [] (rc_h X (va_up R (P + 1) (rk_sh (R (P + 1)) p0 (m - 1)))) Q := by
    have e1 : nI m - 1 = nI (m - 1) := by
      obtain ⟨z, rfl⟩ : ∃ z, m = z + 1 := ⟨m - 1, by omega⟩
      exact nI_pred z
    refine rw_step rfl rfl ?_
    refine rw_step rfl rfl ?_
    refine rc_gv rfl hP rfl hm ?_
    refine rw_step rfl rfl ?_
    refine rw_step rfl rfl ?_
    refine rc_p rfl hP rfl rfl ?_
    dsimp only
    rw [e1]
    refine rw_step rfl rfl ?_
    refine rc_gr rfl hP rfl ?_
    refine rw_step rfl rfl ?_
    refine rc_gv rfl hP rfl (rr_up_same _ _ _ _) ?_
    refine rw_step rfl rfl ?_
    refine rc_as rfl hT hN rfl (show m - 1 < 5 by omega) ?_
    rw [rg_vup, rg_vat]
    -- AT
    have fin : ∀ X2 : Nat → Nat → Int32, (∀ q j, ¬ (q = P ∧ 3 ≤ j ∧ j ≤ 4) → X2 q j = X q j) → X2 P 3 = nI (m - 1) → X2 P 4 = nI (if p0 < a then a - 1 else if m - 1 ≤ a then 0 else a) → rb_wp (d + 1) 119 107 [.ref P, .int (nI p0), .ref (np p0), .int (nI (m - 1))] [] (rc_h X2 (va_up R (P + 1) (rk_gone (R (P + 1)) p0 m (np p0)))) Q := by
      intro X2 hX2 y3 y4
      refine rk_rmTail (m := m) (k := k) (mo := mo) (ad := ad) (g := g) hP hN y3 hm5 ((hX2 _ _ (by omega)).trans h6) ((hX2 _ _ (fun h8 => hNP h8.1)).trans hg) ((hX2 _ _ (by omega)).trans hk) hk4 ((hX2 _ _ (by omega)).trans h4) (fun X' q1 q2 q3 q4 => ?_)
      refine hq X' (fun q j c1 c2 => ?_) ?_ ?_ q2 q3 (fun h8 => ?_)
      · rw [q1 q j (by omega) (by omega), hX2 q j (by omega)]
      · rw [q1 _ _ (by omega) (by omega), y3]
      · rw [q1 _ _ (by omega) (by omega), y4]
      · obtain ⟨z1, z2⟩ := q4 h8
        exact ⟨by rw [z1, hX2 _ _ (by omega)], z2⟩
    refine rw_step rfl rfl ?_
    refine rc_gv rfl hP rfl ((rk_ne2 (by decide)).trans ha) ?_
    refine rw_step rfl rfl ?_
    refine rw_icmp rfl (fun h8 => ?_) (fun h8 => ?_)
    · have hle : a ≤ p0 := (nI_leI (by omega) (by omega)).mp (of_decide_eq_true h8)
      refine rw_step rfl rfl ?_
      refine rc_gv rfl hP rfl ((rk_ne2 (by decide)).trans ha) ?_
      refine rw_step rfl rfl ?_
      refine rc_gv rfl hP rfl (rr_up_same _ _ _ _) ?_
      refine rw_icmp rfl (fun h7 => ?_) (fun h7 => ?_)
      · have hlt : a < m - 1 := (nI_ltI (by omega) (by omega)).mp (of_decide_eq_true h7)
        refine fin _ (fun q j c1 => by rw [rr_up_at, if_neg (by omega)]) (rr_up_same _ _ _ _) ?_
        rw [if_neg (by omega), if_neg (by omega), rk_ne2 (by decide), ha]
      · have hge : m - 1 ≤ a := by
          refine Nat.not_lt.mp (fun h5 => of_decide_eq_false h7 ?_)
          exact nI_lt h5 (by omega)
        refine rw_step rfl rfl ?_
        refine rw_step rfl rfl ?_
        refine rc_p rfl hP rfl rfl ?_
        refine fin _ (fun q j c1 => by rw [rr_up_at, if_neg (by omega), rr_up_at, if_neg (by omega)]) (by rw [rk_ne2 (by decide), rr_up_same]) ?_
        rw [if_neg (by omega), if_pos hge, rr_up_same]
        rfl
    · have hgt : p0 < a := by
        refine Nat.not_le.mp (fun h5 => of_decide_eq_false h8 ?_)
        exact nI_le h5 (by omega)
      have e2 : nI a - 1 = nI (a - 1) := by
        obtain ⟨z, rfl⟩ : ∃ z, a = z + 1 := ⟨a - 1, by omega⟩
        exact nI_pred z
      refine rw_step rfl rfl ?_
      refine rw_step rfl rfl ?_
      refine rc_gv rfl hP rfl ((rk_ne2 (by decide)).trans ha) ?_
      refine rw_step rfl rfl ?_
      refine rw_step rfl rfl ?_
      refine rc_p rfl hP rfl rfl ?_
      refine rw_step rfl rfl ?_
      dsimp only
      rw [e2]
      refine fin _ (fun q j c1 => by rw [rr_up_at, if_neg (by omega), rr_up_at, if_neg (by omega)]) (by rw [rk_ne2 (by decide), rr_up_same]) ?_
      rw [if_pos hgt, rr_up_same]
  have sh0 : va_up R (P + 1) (rk_sh (R (P + 1)) p0 p0) = R := by
    funext q
    unfold va_up rk_sh
    by_cases c : q = P + 1
    · rw [if_pos c, c]
      funext x
      rw [if_neg (by omega)]
    · rw [if_neg c]
  have loop : ∀ f i, p0 ≤ i → i + f = m - 1 → rb_wp (d + 1) 119 13 [.ref P, .int (nI p0), .ref (np p0), .int (nI i)] [] (rc_h X (va_up R (P + 1) (rk_sh (R (P + 1)) p0 i))) Q := by
    intro f
    induction f with
    | zero =>
      intro i hi hf
      have hi : i = m - 1 := by omega
      subst hi
      refine rw_step rfl rfl ?_
      refine rw_step rfl rfl ?_
      refine rw_step rfl rfl ?_
      refine rw_step rfl rfl ?_
      refine rc_gv rfl hP rfl hm ?_
      refine rw_icmp rfl (fun _ => tail) (fun h8 => absurd ?_ (of_decide_eq_false h8))
      show nI m ≤ nI (m - 1) + 1
      rw [nI_1]
      exact nI_le (by omega) (by omega)
    | succ f ih =>
      intro i hi hf
      refine rw_step rfl rfl ?_
      refine rw_step rfl rfl ?_
      refine rw_step rfl rfl ?_
      refine rw_step rfl rfl ?_
      refine rc_gv rfl hP rfl hm ?_
      refine rw_icmp rfl (fun h8 => absurd (of_decide_eq_true h8) ?_) (fun _ => ?_)
      · show ¬ nI m ≤ nI i + 1
        rw [nI_1]
        exact nI_ge (by omega) (by omega)
      refine rw_step rfl rfl ?_
      refine rw_step rfl rfl ?_
      refine rw_step rfl rfl ?_
      refine rw_step rfl rfl ?_
      refine rw_icmp rfl (fun h8 => absurd (of_decide_eq_true h8) ?_) (fun _ => ?_)
      · show ¬ (5 : Int32) ≤ nI i + 1
        rw [nI_1]
        exact nI_ge (b := 5) (by omega) (by omega)
      refine rw_step rfl rfl ?_
      refine rc_gr rfl hP rfl ?_
      refine rw_step rfl rfl ?_
      refine rw_step rfl rfl ?_
      refine rc_gr rfl hP rfl ?_
      refine rw_step rfl rfl ?_
      refine rw_step rfl rfl ?_
      refine rw_step rfl rfl ?_
      refine rc_aa (i := i + 1) (q := np (i + 1)) rfl hT (nI_1 i) (show i + 1 < 5 by omega) ?_ ?_
      · rw [rg_vat]
        unfold rk_sh
        rw [if_neg (by omega)]
        exact (hn (i + 1) (by omega)).1
      refine rc_as rfl hT (hn (i + 1) (by omega)).2 rfl (show i < 5 by omega) ?_
      rw [rg_vup, rg_vat]
      have esh : va_up (rk_sh (R (P + 1)) p0 i) i (some (np (i + 1))) = rk_sh (R (P + 1)) p0 (i + 1) := by
        funext x
        unfold va_up rk_sh
        by_cases c : x = i
        · rw [if_pos c, if_pos (by omega), c]
          exact ((hn (i + 1) (by omega)).1).symm
        · rw [if_neg c]
          by_cases c2 : p0 ≤ x ∧ x < i
          · rw [if_pos c2, if_pos (by omega)]
          · rw [if_neg c2, if_neg (by omega)]
      rw [esh]
      refine rw_step rfl rfl ?_
      refine rw_step rfl rfl ?_
      have := ih (i + 1) (by omega) (by omega)
      rw [← nI_1 i] at this
      exact this
  refine rw_ent rfl rfl rfl ?_
  refine rw_step rfl rfl ?_
  refine rw_step rfl rfl ?_
  refine rc_call rfl hP (by decide) rfl rfl rfl rfl ?_
  refine rk_nodeIs hP hn hm hm5 hp0 ?_
  refine rw_step rfl rfl ?_
  refine rw_step rfl rfl ?_
  refine rw_step rfl rfl ?_
  refine rw_step rfl rfl ?_
  refine rw_step rfl rfl ?_
  have := loop (m - 1 - p0) p0 (Nat.le_refl _) (by omega)
  rw [sh0] at this
  exact this
end RHS
