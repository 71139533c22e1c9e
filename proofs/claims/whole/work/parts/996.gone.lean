/-! a node goes, the class's loop over the rings -/
section RHT
variable {nd : Nat → Nat → Nat} {X A : Nat → Nat → Int32} {R : Nat → Nat → Option Nat} {t : Int32} {B : Nat}
theorem rg_Wgone {r p0 m : Nat} (hW : rg_W nd R) (hr : r < 3) (hp0 : p0 < m) (hm5 : m ≤ 5) : rg_W (rg_ndg nd r p0 m) (va_up R (2 + 44 * r + 1) (rk_gone (R (2 + 44 * r + 1)) p0 m (rg_o nd r p0))) := by
  obtain ⟨⟨w1, w2, w3, w4⟩, hn⟩ := hW
  have hT := (rc_t1 (rc_tR hr)).1
  have oth : ∀ p, ¬ p = 2 + 44 * r + 1 → va_up R (2 + 44 * r + 1) (rk_gone (R (2 + 44 * r + 1)) p0 m (rg_o nd r p0)) p = R p := by
    intro p hp
    unfold va_up
    rw [if_neg hp]
  refine ⟨⟨fun i hi => by rw [oth 1 (by omega)]; exact w1 i hi, fun i hi => by rw [oth 134 (by omega)]; exact w2 i hi, fun i hi => by rw [oth 155 (by omega)]; exact w3 i hi, fun p hp i hi => ?_⟩, fun r' hr' x hx => ?_⟩
  · rw [oth p (fun h => by rw [h, hT] at hp; exact absurd hp (by decide))]
    exact w4 p hp i hi
  · by_cases e : r' = r
    · subst e
      -- the place from which the object at x comes
      have key : ∃ φ : Nat → Nat, (∀ x, x < 5 → φ x < 5 ∧ rg_ndg nd r' p0 m r' x = nd r' (φ x) ∧ rk_gone (R (2 + 44 * r' + 1)) p0 m (rg_o nd r' p0) x = some (rg_o nd r' (φ x))) ∧ ∀ x x', x < 5 → x' < 5 → φ x = φ x' → x = x' := by
        refine ⟨fun x => if x < p0 then x else if x + 1 < m then x + 1 else if x + 1 = m then p0 else x, fun x hx => ?_, fun x x' hx hx' h => ?_⟩
        · unfold rg_ndg rk_gone rk_sh va_up
          rw [if_pos rfl]
          by_cases c1 : x < p0
          · simp only [if_pos c1]
            rw [if_neg (by omega), if_neg (by omega)]
            exact ⟨by omega, trivial, (hn r' hr' x hx).1⟩
          · simp only [if_neg c1]
            by_cases c2 : x + 1 < m
            · simp only [if_pos c2]
              rw [if_neg (by omega), if_pos (by omega)]
              exact ⟨by omega, trivial, (hn r' hr' (x + 1) (by omega)).1⟩
            · simp only [if_neg c2]
              by_cases c3 : x + 1 = m
              · simp only [if_pos c3]
                rw [if_pos (by omega)]
                exact ⟨by omega, trivial, rfl⟩
              · simp only [if_neg c3]
                rw [if_neg (by omega), if_neg (by omega)]
                exact ⟨by omega, trivial, (hn r' hr' x hx).1⟩
        · have f : ∀ z, (z < p0 ∧ (if z < p0 then z else if z + 1 < m then z + 1 else if z + 1 = m then p0 else z) = z) ∨ (p0 ≤ z ∧ z + 1 < m ∧ (if z < p0 then z else if z + 1 < m then z + 1 else if z + 1 = m then p0 else z) = z + 1) ∨ (p0 ≤ z ∧ z + 1 = m ∧ (if z < p0 then z else if z + 1 < m then z + 1 else if z + 1 = m then p0 else z) = p0) ∨ (m ≤ z ∧ (if z < p0 then z else if z + 1 < m then z + 1 else if z + 1 = m then p0 else z) = z) := by
            intro z
            by_cases c1 : z < p0
            · rw [if_pos c1]; exact Or.inl ⟨c1, rfl⟩
            · rw [if_neg c1]
              by_cases c2 : z + 1 < m
              · rw [if_pos c2]; exact Or.inr (Or.inl ⟨by omega, c2, rfl⟩)
              · rw [if_neg c2]
                by_cases c3 : z + 1 = m
                · rw [if_pos c3]; exact Or.inr (Or.inr (Or.inl ⟨by omega, c3, rfl⟩))
                · rw [if_neg c3]; exact Or.inr (Or.inr (Or.inr ⟨by omega, rfl⟩))
          dsimp only at h
          rcases f x with q | q | q | q <;> rcases f x' with q' | q' | q' | q' <;> omega
      obtain ⟨φ, k1, k2⟩ := key
      obtain ⟨z1, z2, z3⟩ := k1 x hx
      refine ⟨?_, ?_, fun x' hx' h => ?_⟩
      · unfold va_up
        rw [if_pos rfl, z3]
        unfold rg_o
        rw [z2]
      · rw [z2]; exact (hn r' hr' (φ x) z1).2.1
      · obtain ⟨z1', z2', z3'⟩ := k1 x' hx'
        rw [z2, z2'] at h
        exact k2 x x' hx hx' ((hn r' hr' (φ x) z1).2.2 (φ x') z1' h)
    · rw [oth _ (by omega)]
      unfold rg_o rg_ndg
      rw [if_neg e]
      have := hn r' hr' x hx
      refine ⟨this.1, this.2.1, fun x' hx' h => this.2.2 x' hx' ?_⟩
      rw [if_neg e] at h
      exact h
theorem rg_goC {d : Nat} {Q : Option Value → rb_H → Prop} {n r p0 m a y k p v w h q : Nat} (hr : r < 3) (H : rg_Rel0 nd X R A t) (h9 : rg_R X A r m a y k p v) (hon : rg_on A r n) (hN : rg_N nd X A n r p0 w h q) (hp0 : p0 < m) (hq : ∀ X' R', rg_Rel0 (rg_ndg nd r p0 m) X' R' (rr_go A r n) t → (∀ q' j, ¬ (q' = 2 + 44 * r ∧ 3 ≤ j ∧ j ≤ 6) → ¬ (q' = 2 + 44 * r + 42 ∧ j = 1) → X' q' j = X q' j) → (∀ q', ¬ q' = 2 + 44 * r + 1 → R' q' = R q') → Q none (rc_h X' R')) : rb_cw (d + 2) 119 [.ref (2 + 44 * r), .int (nI p0)] (rc_h X R) Q := by
  obtain ⟨e1, e2, e3, e4⟩ := rg_R_E h9
  have g0 := h9.1
  have g1 := h9.2.1
  have hW := H.1.1
  have hnp : rk_np R (2 + 44 * r) (rg_o nd r) := by
    intro p hp
    obtain ⟨h1, h2, -⟩ := hW.2 r hr p hp
    refine ⟨h1, ?_⟩
    have := rc_tN hr h2
    unfold rg_o
    rw [show 4 + 44 * r + 8 * nd r p = 2 + 44 * r + 2 + 8 * nd r p by omega]
    exact this
  refine rk_remove (m := m) (a := a) (k := k) (rc_tR hr) hnp (e1.2.1.trans g1.1) g0.1 hp0 (e1.2.2.1.trans g1.2.1) g0.2.1 e1.2.2.2.2 hN.2.2.1.1 (e3.1.trans g1.2.2.2.1) g0.2.2.2.1 e3.2.2.2 (fun X' q1 q2 q3 q4 q5 q6 => ?_)
  refine hq X' _ (rg_goRel hr H h9 hon hN hp0 (rg_Wgone hW hr hp0 g0.1) q1 q2 q3 q4 (fun h8 => q5 ?_) (fun h8 => ?_)) q1 (fun q' h8 => ?_)
  · rcases h8 with h8 | h8
    · exact Or.inl (by omega)
    · exact Or.inr h8
  · have := q6 (fun h7 => h8 ?_)
    · rw [this.1, this.2]
      exact ⟨e1.2.2.2.1.trans g1.2.2.1, rfl⟩
    · rcases h7 with h7 | h7
      · exact Or.inl (by omega)
      · exact Or.inr h7
  · unfold va_up
    rw [if_neg h8]
/-- the rings from the i-th on, each without its node g -/
def rg_goF (g : Nat → Option Nat) : Nat → Nat → (Nat → Nat → Int32) → Nat → Nat → Int32
  | 0, _, A => A
  | f + 1, i, A => rg_goF g f (i + 1) (match g i with | some n => rr_go A i n | none => A)
def rg_anyF (g : Nat → Option Nat) : Nat → Nat → Int32 → Int32
  | 0, _, b => b
  | f + 1, i, b => rg_anyF g f (i + 1) (match g i with | some _ => 1 | none => b)
/-- what the rings from the i-th on still share with the beginning -/
def rg_far0 (nd nd' : Nat → Nat → Nat) (X X' : Nat → Nat → Int32) (R R' : Nat → Nat → Option Nat) (A A' : Nat → Nat → Int32) (i : Nat) : Prop := ∀ r, i ≤ r → r < 3 → R' (2 + 44 * r + 1) = R (2 + 44 * r + 1) ∧ nd' r = nd r ∧ (∀ q j, (q = 2 + 44 * r ∨ ∃ x, x < 5 ∧ q = rg_o nd r x) → X' q j = X q j) ∧ ∀ n, rg_on A r n → rg_on A' r n ∧ A' 0 n = A 0 n
theorem rg_leaveLoop {Q : Option Value → rb_H → Prop} {x : Int32} {g : Nat → Option Nat} (H : rg_Rel nd X R A t B) (hg1 : ∀ r n, r < 3 → g r = some n → rg_on A r n ∧ rr_addr (nI n) = x) (hg0 : ∀ r, r < 3 → g r = none → ∀ n, rg_on A r n → ¬ rr_addr (nI n) = x)
    (kk : ∀ nd' X' R' (y : Value), rg_Rel0 nd' X' R' (rg_goF g 3 0 A) t → (∀ q' j, 134 ≤ q' → X' q' j = X q' j) → rb_wp 7 3 45 [.ref 0, .int x, .int (rg_anyF g 3 0 0), .int (nI 3), y] [] (rc_h X' R') Q) : ∀ (f i : Nat) (nd' : Nat → Nat → Nat) (X' : Nat → Nat → Int32) (R' : Nat → Nat → Option Nat) (A' : Nat → Nat → Int32) (b : Int32) (y : Value), i + f = 3 → rg_Rel0 nd' X' R' A' t → rg_far0 nd nd' X X' R R' A A' i → (∀ q' j, 134 ≤ q' → X' q' j = X q' j) → rg_goF g f i A' = rg_goF g 3 0 A → rg_anyF g f i b = rg_anyF g 3 0 0 → rb_wp 7 3 4 [.ref 0, .int x, .int b, .int (nI i), y] [] (rc_h X' R') Q := by
  intro f
  induction f with
  | zero =>
    intro i nd' X' R' A' b y hi H' hT hX hA hb
    have hi : i = 3 := by omega
    subst hi
    refine rw_step rfl rfl ?_
    refine rw_step rfl rfl ?_
    refine rw_step rfl rfl ?_
    have hA : A' = rg_goF g 3 0 A := hA
    have hb : b = rg_anyF g 3 0 0 := hb
    rw [hb]
    rw [hA] at H'
    exact kk nd' X' R' y H' hX
  | succ f ih =>
    intro i nd' X' R' A' b y hi H' hT hX hA hb
    have hi3 : i < 3 := by omega
    obtain ⟨t1, t2, t3, t4⟩ := hT i (Nat.le_refl _) hi3
    have tR := rc_tR hi3
    obtain ⟨m, hm5, hm, hXm⟩ := rg_size H hi3
    have sz : X' (2 + 44 * i) 3 = nI m := (t3 _ _ (Or.inl rfl)).trans hXm
    have hnp : rk_np R' (2 + 44 * i) (rg_o nd i) := by
      intro p hp
      obtain ⟨h1, h2⟩ := rg_npH H hi3 p hp
      exact ⟨by rw [t1]; exact h1, h2⟩
    have hw1 := H'.1.1.1.1 i hi3
    refine rw_step rfl rfl ?_
    refine rw_step rfl rfl ?_
    refine rw_icmp rfl (fun h8 => absurd (of_decide_eq_true h8) (nI_ge (a := i) (b := 3) hi3 (by omega))) (fun _ => ?_)
    refine rw_step rfl rfl ?_
    refine rc_gr rfl rfl rfl ?_
    refine rw_step rfl rfl ?_
    refine rc_aa rfl (T := 10) rfl rfl hi3 hw1 ?_
    refine rw_step rfl rfl ?_
    refine rc_call rfl tR (by decide) rfl rfl rfl rfl ?_
    cases hgi : g i with
    | none =>
      have hno := hg0 i hi3 hgi
      refine rk_placeNo tR hnp sz hm5 (fun i' hi' h8 => ?_) ?_
      · obtain ⟨n', w', h', q', c1, c2⟩ := rg_who H hi3 hm hm5 hi'
        rw [t3 _ _ (Or.inr ⟨i', by omega, rfl⟩)] at h8
        exact hno n' c1 (c2.2.2.1.1.symm.trans h8)
      refine rw_step rfl rfl ?_
      refine rw_step rfl rfl ?_
      refine rw_step rfl rfl ?_
      refine rw_step rfl rfl ?_
      refine rw_step rfl rfl ?_
      have hA' : rg_goF g f (i + 1) A' = rg_goF g 3 0 A := by
        rw [rg_goF, hgi] at hA
        exact hA
      have hb' : rg_anyF g f (i + 1) b = rg_anyF g 3 0 0 := by
        rw [rg_anyF, hgi] at hb
        exact hb
      have := ih (i + 1) nd' X' R' A' b (.int (-1)) (by omega) H' (fun r q1 q2 => hT r (by omega) q2) hX hA' hb'
      rw [← nI_1 i] at this
      exact this
    | some n =>
      obtain ⟨hon, had⟩ := hg1 i n hi3 hgi
      obtain ⟨p0, w, h, q, hp0, hN⟩ := rg_stand H hi3 hon hm hm5
      obtain ⟨on', h0'⟩ := t4 n hon
      -- the same node in the state now
      obtain ⟨r'', p'', w'', h'', q'', hN'⟩ := H'.2.2.2.1 n on'.1 on'.2.1
      have e1 : r'' = i := (nI_eq (by have := hN'.1.1; omega) (by omega)).mp (hN'.2.1.1.symm.trans on'.2.2)
      subst e1
      have e2 : p'' = p0 := (nI_eq (by have := hN'.1.2.1; omega) (by omega)).mp (hN'.2.1.2.1.symm.trans (h0'.trans hN.2.1.2.1))
      subst e2
      obtain ⟨m', a, yy, k, p, v, h9⟩ := H'.2.2.1 r'' hi3
      have em : m' = m := (nI_eq (by have := h9.1.1; omega) (by omega)).mp ((rg_R_E h9).1.2.1.symm.trans sz |> fun e => h9.2.1.1.symm.trans e)
      subst em
      refine rk_placeIs (p := p'') tR hnp sz hm5 hp0 ((t3 _ _ (Or.inr ⟨p'', by omega, rfl⟩)).trans (hN.2.2.1.1.trans had)) (fun i' hi' h8 => ?_) ?_
      · obtain ⟨n', w', h', q', c1, c2⟩ := rg_who H hi3 hm hm5 (show i' < m' by omega)
        rw [t3 _ _ (Or.inr ⟨i', by omega, rfl⟩)] at h8
        have e : n' = n := rg_uniq H.2.1 c1 hon (c2.2.2.1.1.symm.trans (h8.trans had.symm))
        subst e
        have := (nI_eq (by omega) (by omega)).mp (c2.2.1.2.1.symm.trans hN.2.1.2.1)
        omega
      refine rw_step rfl rfl ?_
      refine rw_step rfl rfl ?_
      refine rw_if rfl (fun h8 => absurd (of_decide_eq_true h8) (nI_pos (by omega))) (fun _ => ?_)
      refine rw_step rfl rfl ?_
      refine rc_gr rfl rfl rfl ?_
      refine rw_step rfl rfl ?_
      refine rc_aa rfl (T := 10) rfl rfl hi3 hw1 ?_
      refine rw_step rfl rfl ?_
      refine rc_call rfl tR (by decide) rfl rfl rfl rfl ?_
      refine rg_goC (d := 5) hi3 H' h9 on' hN' hp0 (fun X2 R2 H2 hX2 hR2 => ?_)
      refine rw_step rfl rfl ?_
      refine rw_step rfl rfl ?_
      refine rw_step rfl rfl ?_
      refine rw_step rfl rfl ?_
      have hA' : rg_goF g f (r'' + 1) (rr_go A' r'' n) = rg_goF g 3 0 A := by
        rw [rg_goF, hgi] at hA
        exact hA
      have hb' : rg_anyF g f (r'' + 1) 1 = rg_anyF g 3 0 0 := by
        rw [rg_anyF, hgi] at hb
        exact hb
      have := ih (r'' + 1) _ X2 R2 (rr_go A' r'' n) 1 (.int (nI p'')) (by omega) H2 (fun r q1 q2 => ?_) (fun q' j h8 => (hX2 q' j (by omega) (by omega)).trans (hX q' j h8)) hA' hb'
      · rw [← nI_1 r''] at this
        exact this
      · obtain ⟨s1, s2, s3, s4⟩ := hT r (by omega) q2
        refine ⟨(hR2 _ (by omega)).trans s1, ?_, fun q' j h8 => ?_, fun n' h8 => ?_⟩
        · rw [← s2]
          funext z
          unfold rg_ndg
          rw [if_neg (by omega)]
        · rw [← s3 q' j h8]
          refine hX2 q' j ?_ ?_
          · rcases h8 with h8 | ⟨z, hz, h8⟩
            · omega
            · have := rg_sepR (r := r'') (i := 0) hi3 q2 (H.1.1.2 r q2 z hz).2.1 (by omega)
              unfold rg_o at h8
              omega
          · rcases h8 with h8 | ⟨z, hz, h8⟩
            · omega
            · have := rg_sepR (r := r'') (i := 0) hi3 q2 (H.1.1.2 r q2 z hz).2.1 (by omega)
              unfold rg_o at h8
              omega
        · obtain ⟨v1, v2⟩ := s4 n' h8
          have hne3 : ¬ A' 3 n' = nI r'' := fun h7 => by
            have := (nI_eq (by omega) (by omega)).mp (v1.2.2.symm.trans h7)
            omega
          have hnn : ¬ n' = n := fun h7 => hne3 (by rw [h7]; exact on'.2.2)
          refine ⟨?_, ?_⟩
          · unfold rg_on
            rw [rg_go_at on'.1, if_neg (by omega), if_neg (by omega), if_neg (by omega), if_neg (by omega), if_neg (by omega), if_neg (by omega), if_neg (by omega), rg_go_at on'.1, if_neg (by omega), if_neg (by omega), if_neg (by omega), if_neg (by omega), if_neg (by omega), if_neg (by omega), if_neg (by omega)]
            exact v1
          · rw [rg_go_at on'.1, if_neg (by omega), if_neg (by omega), if_neg (by omega), if_neg (fun h7 => hne3 h7.2.2.1.2.2), if_neg (by omega), if_neg (by omega), if_neg (by omega)]
            exact v2
end RHT
