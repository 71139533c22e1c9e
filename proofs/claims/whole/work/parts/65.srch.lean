/-! who stands where: searches on both sides -/
theorem rg_addr_inj : ∀ n, n < 15 → ∀ n', n' < 15 → rr_addr (nI n) = rr_addr (nI n') → n = n' ∨ (9 ≤ n ∧ 9 ≤ n' ∧ n' = rr_oth n) := by decide +kernel
section RGS
variable {d : Nat} {Q : Option Value → rb_H → Prop} {nd : Nat → Nat → Nat} {X A : Nat → Nat → Int32} {R : Nat → Nat → Option Nat} {t : Int32} {B : Nat}
theorem rg_oth {n r r' : Nat} (hM : rg_M A) (h : rg_on A r n) (h9 : 9 ≤ n) (h' : rg_on A r' (rr_oth n)) : ¬ nI r = nI r' := by
  obtain ⟨h1, h2, h3⟩ := h
  obtain ⟨h4, h5, h6⟩ := h'
  have hk := hM.2.2 ((n - 9) / 2) (by omega)
  unfold rr_oth at h4 h5 h6
  split at h5
  · rename_i e
    rw [if_pos e] at h4 h6
    rw [show 9 + 2 * ((n - 9) / 2) = n by omega, show 10 + 2 * ((n - 9) / 2) = n + 1 by omega] at hk
    rw [← h3, ← h6]
    exact hk.2 h2
  · rename_i e
    rw [if_neg e] at h4 h6
    rw [show 9 + 2 * ((n - 9) / 2) = n - 1 by omega, show 10 + 2 * ((n - 9) / 2) = n by omega] at hk
    rw [← h3, ← h6]
    exact fun h7 => hk.2 h5 h7.symm
/-- on one ring an address stands once -/
theorem rg_uniq {r n n' : Nat} (hM : rg_M A) (h : rg_on A r n) (h' : rg_on A r n') (e : rr_addr (nI n) = rr_addr (nI n')) : n = n' := by
  rcases rg_addr_inj n h.1 n' h'.1 e with h1 | ⟨h1, -, h3⟩
  · exact h1
  · subst h3
    exact absurd rfl (rg_oth hM h h1 h')
theorem rg_at_is {r n : Nat} {p : Int32} (hM : rg_M A) (h : rg_on A r n) (h0 : A 0 n = p) : rr_at A (nI r) p 15 = nI n := by
  have : ∀ N, n < N → N ≤ 15 → rr_at A (nI r) p N = nI n := by
    intro N
    induction N with
    | zero => intro h1; omega
    | succ N ih =>
      intro h1 h2
      rw [rr_at]
      by_cases e : N = n
      · subst e
        rw [if_pos ⟨⟨h.2.1, h.2.2⟩, h0⟩]
      · rw [if_neg]
        · exact ih (by omega) (by omega)
        · rintro ⟨⟨a1, a2⟩, a3⟩
          exact e (hM.2.1 N n (by omega) h.1 a1 h.2.1 (a2.trans h.2.2.symm) (a3.trans h0.symm))
  exact this 15 h.1 (by omega)
theorem rg_at_no {r : Nat} {p : Int32} (h : ∀ n, rg_on A r n → ¬ A 0 n = p) : rr_at A (nI r) p 15 = -1 := by
  have : ∀ N, N ≤ 15 → rr_at A (nI r) p N = -1 := by
    intro N
    induction N with
    | zero => intro _; rfl
    | succ N ih =>
      intro h2
      rw [rr_at, if_neg]
      · exact ih (by omega)
      · rintro ⟨⟨a1, a2⟩, a3⟩
        exact h N ⟨by omega, a1, a2⟩ a3
  exact this 15 (by omega)
theorem rg_with_is {r n : Nat} (hM : rg_M A) (h : rg_on A r n) : rr_with A (nI r) (rr_addr (nI n)) 15 = nI n := by
  have : ∀ N, n < N → N ≤ 15 → rr_with A (nI r) (rr_addr (nI n)) N = nI n := by
    intro N
    induction N with
    | zero => intro h1; omega
    | succ N ih =>
      intro h1 h2
      rw [rr_with]
      by_cases e : N = n
      · subst e
        rw [if_pos ⟨⟨h.2.1, h.2.2⟩, rfl⟩]
      · rw [if_neg]
        · exact ih (by omega) (by omega)
        · rintro ⟨⟨a1, a2⟩, a3⟩
          exact e (rg_uniq hM ⟨by omega, a1, a2⟩ h a3)
  exact this 15 h.1 (by omega)
theorem rg_npH (H : rg_Rel nd X R A t B) {r : Nat} (hr : r < 3) : rk_np R (2 + 44 * r) (rg_o nd r) := by
  intro p hp
  obtain ⟨h1, h2, -⟩ := H.1.1.2 r hr p hp
  refine ⟨h1, ?_⟩
  have := rc_tN hr h2
  unfold rg_o
  rw [show 4 + 44 * r + 8 * nd r p = 2 + 44 * r + 2 + 8 * nd r p by omega]
  exact this
/-- the ring's size, on both sides -/
theorem rg_size (H : rg_Rel nd X R A t B) {r : Nat} (hr : r < 3) : ∃ m, m ≤ 5 ∧ A 1 r = nI m ∧ X (2 + 44 * r) 3 = nI m := by
  obtain ⟨m, a, y, k, p, v, h9⟩ := H.2.2.1 r hr
  exact ⟨m, h9.1.1, h9.2.1.1, h9.2.2.1.2.1⟩
/-- a node of ring r stands at a place of it -/
theorem rg_stand (H : rg_Rel nd X R A t B) {r n m : Nat} (hr : r < 3) (h : rg_on A r n) (hm : A 1 r = nI m) (hm5 : m ≤ 5) : ∃ p w h q, p < m ∧ rg_N nd X A n r p w h q := by
  obtain ⟨r', p, w, hh, q, h9⟩ := H.2.2.2.1 n h.1 h.2.1
  have e : r' = r := by
    have := h9.2.1.1.symm.trans h.2.2
    exact (nI_eq (by have := h9.1.1; omega) (by omega)).mp this
  subst e
  obtain ⟨m', b1, b2, -, b4⟩ := H.2.1.1 r' hr
  have e : m' = m := (nI_eq (by omega) (by omega)).mp (b2.symm.trans hm)
  subst e
  obtain ⟨p', b5, b6⟩ := b4 n h.1 h.2.1 h.2.2
  have e : p' = p := (nI_eq (by omega) (by have := h9.1.2.1; omega)).mp (b6.symm.trans h9.2.1.2.1)
  subst e
  exact ⟨p', w, hh, q, b5, h9⟩
/-- at each place stands a node -/
theorem rg_who (H : rg_Rel nd X R A t B) {r m p : Nat} (hr : r < 3) (hm : A 1 r = nI m) (hm5 : m ≤ 5) (hp : p < m) : ∃ n w h q, rg_on A r n ∧ rg_N nd X A n r p w h q := by
  obtain ⟨m', b1, b2, b3, b4⟩ := H.2.1.1 r hr
  have e : m' = m := (nI_eq (by omega) (by omega)).mp (b2.symm.trans hm)
  subst e
  obtain ⟨n, c1, c2, c3, c4⟩ := b3 p hp
  have hon : rg_on A r n := ⟨c1, c2, c3⟩
  obtain ⟨p', w, h, q, d1, d2⟩ := rg_stand H hr hon hm hm5
  have e : p' = p := (nI_eq (by omega) (by omega)).mp (d2.2.1.2.1.symm.trans c4)
  subst e
  exact ⟨n, w, h, q, hon, d2⟩
theorem rg_placeIs {r n p m : Nat} {x : Int32} (H : rg_Rel nd X R A t B) (hr : r < 3) (h : rg_on A r n) (hm : A 1 r = nI m) (hm5 : m ≤ 5) (hX : X (2 + 44 * r) 3 = nI m) (hp : p < m) (h0 : A 0 n = nI p) (hx : rr_addr (nI n) = x) (hq : Q (some (.int (nI p))) (rc_h X R)) : rb_cw (d + 1) 114 [.ref (2 + 44 * r), .int x] (rc_h X R) Q := by
  obtain ⟨p', w, hh, q, b1, b2⟩ := rg_stand H hr h hm hm5
  have e : p' = p := (nI_eq (by omega) (by omega)).mp (b2.2.1.2.1.symm.trans h0)
  subst e
  refine rk_placeIs (rc_tR hr) (rg_npH H hr) hX hm5 hp (b2.2.2.1.1.trans hx) (fun i hi h9 => ?_) hq
  obtain ⟨n', w', h', q', c1, c2⟩ := rg_who H hr hm hm5 (show i < m by omega)
  have e : n' = n := rg_uniq H.2.1 c1 h (c2.2.2.1.1.symm.trans (h9.trans hx.symm))
  subst e
  have := (nI_eq (by omega) (by omega)).mp (c2.2.1.2.1.symm.trans h0)
  omega
theorem rg_placeNo {r : Nat} {x : Int32} (H : rg_Rel nd X R A t B) (hr : r < 3) (hno : ∀ n, rg_on A r n → ¬ rr_addr (nI n) = x) (hq : Q (some (.int (-1))) (rc_h X R)) : rb_cw (d + 1) 114 [.ref (2 + 44 * r), .int x] (rc_h X R) Q := by
  obtain ⟨m, hm5, hm, hX⟩ := rg_size H hr
  refine rk_placeNo (rc_tR hr) (rg_npH H hr) hX hm5 (fun i hi h9 => ?_) hq
  obtain ⟨n', w', h', q', c1, c2⟩ := rg_who H hr hm hm5 hi
  exact hno n' c1 (c2.2.2.1.1.symm.trans h9)
/-- the ring that holds an address, or none -/
theorem rg_holding {x : Int32} (H : rg_Rel nd X R A t B) (hq1 : ∀ r n, r < 3 → rg_on A r n → rr_addr (nI n) = x → Q (some (.ref (2 + 44 * r))) (rc_h X R)) (hq2 : (∀ r n, r < 3 → rg_on A r n → ¬ rr_addr (nI n) = x) → Q (some .null) (rc_h X R)) : rb_cw (d + 2) 22 [.ref 0, .int x] (rc_h X R) Q := by
  refine rw_ent rfl rfl rfl ?_
  refine rw_step rfl rfl ?_
  refine rw_step rfl rfl ?_
  have lp : ∀ f i, i + f = 3 → (∀ r n, r < i → rg_on A r n → ¬ rr_addr (nI n) = x) → rb_wp (d + 1) 22 2 [.ref 0, .int x, .int (nI i)] [] (rc_h X R) Q := by
    intro f
    induction f with
    | zero =>
      intro i hi hno
      have hi : i = 3 := by omega
      subst hi
      refine rw_step rfl rfl ?_
      refine rw_step rfl rfl ?_
      refine rw_step rfl rfl ?_
      refine rw_step rfl rfl ?_
      exact rw_ret rfl rfl rfl (hq2 hno)
    | succ f ih =>
      intro i hi hno
      have hi3 : i < 3 := by omega
      refine rw_step rfl rfl ?_
      refine rw_step rfl rfl ?_
      refine rw_icmp rfl (fun hc => absurd (of_decide_eq_true hc) (nI_ge (a := i) (b := 3) hi3 (by omega))) (fun _ => ?_)
      refine rw_step rfl rfl ?_
      refine rc_gr rfl rfl rfl ?_
      refine rw_step rfl rfl ?_
      refine rc_aa rfl (T := 10) rfl rfl hi3 (H.1.1.1.1 i hi3) ?_
      refine rw_step rfl rfl ?_
      refine rc_call rfl (rc_tR hi3) (by decide) rfl rfl rfl rfl ?_
      by_cases hex : ∃ n, rg_on A i n ∧ rr_addr (nI n) = x
      · obtain ⟨n, hn, hx⟩ := hex
        obtain ⟨m, hm5, hm, hX⟩ := rg_size H hi3
        obtain ⟨p, w, hh, q, b1, b2⟩ := rg_stand H hi3 hn hm hm5
        refine rg_placeIs H hi3 hn hm hm5 hX b1 b2.2.1.2.1 hx ?_
        refine rw_if rfl (fun hc => absurd (of_decide_eq_true hc) (Int32.not_lt.mpr (nI_le (a := 0) (b := p) (by omega) (by omega)))) (fun _ => ?_)
        refine rw_step rfl rfl ?_
        refine rc_gr rfl rfl rfl ?_
        refine rw_step rfl rfl ?_
        refine rc_aa rfl (T := 10) rfl rfl hi3 (H.1.1.1.1 i hi3) ?_
        exact rw_ret rfl rfl rfl (hq1 i n hi3 hn hx)
      · refine rg_placeNo H hi3 (fun n hn hx => hex ⟨n, hn, hx⟩) ?_
        refine rw_step rfl rfl ?_
        refine rw_step rfl rfl ?_
        refine rw_step rfl rfl ?_
        have := ih (i + 1) (by omega) (fun r n h1 h2 h3 => by
          rcases Nat.lt_or_ge r i with h4 | h4
          · exact hno r n h4 h2 h3
          · have e : r = i := by omega
            subst e
            exact hex ⟨n, h2, h3⟩)
        rw [← nI_1] at this
        exact this
  exact lp 3 0 (by omega) (fun r n h1 => by omega)
/-- the node that has an address, or none -/
theorem rg_nodeOf {x : Int32} (H : rg_Rel nd X R A t B) (hq1 : ∀ r n p w h q, r < 3 → rg_on A r n → rr_addr (nI n) = x → rg_N nd X A n r p w h q → Q (some (.ref (rg_o nd r p))) (rc_h X R)) (hq2 : (∀ r n, r < 3 → rg_on A r n → ¬ rr_addr (nI n) = x) → Q (some .null) (rc_h X R)) : rb_cw (d + 2) 23 [.ref 0, .int x] (rc_h X R) Q := by
  refine rw_ent rfl rfl rfl ?_
  refine rw_step rfl rfl ?_
  refine rw_step rfl rfl ?_
  have lp : ∀ f i (y : Value), i + f = 3 → (∀ r n, r < i → rg_on A r n → ¬ rr_addr (nI n) = x) → rb_wp (d + 1) 23 2 [.ref 0, .int x, .int (nI i), y] [] (rc_h X R) Q := by
    intro f
    induction f with
    | zero =>
      intro i y hi hno
      have hi : i = 3 := by omega
      subst hi
      refine rw_step rfl rfl ?_
      refine rw_step rfl rfl ?_
      refine rw_step rfl rfl ?_
      refine rw_step rfl rfl ?_
      exact rw_ret rfl rfl rfl (hq2 hno)
    | succ f ih =>
      intro i y hi hno
      have hi3 : i < 3 := by omega
      refine rw_step rfl rfl ?_
      refine rw_step rfl rfl ?_
      refine rw_icmp rfl (fun hc => absurd (of_decide_eq_true hc) (nI_ge (a := i) (b := 3) hi3 (by omega))) (fun _ => ?_)
      refine rw_step rfl rfl ?_
      refine rc_gr rfl rfl rfl ?_
      refine rw_step rfl rfl ?_
      refine rc_aa rfl (T := 10) rfl rfl hi3 (H.1.1.1.1 i hi3) ?_
      refine rw_step rfl rfl ?_
      refine rc_gr rfl rfl rfl ?_
      refine rw_step rfl rfl ?_
      refine rc_aa rfl (T := 10) rfl rfl hi3 (H.1.1.1.1 i hi3) ?_
      refine rw_step rfl rfl ?_
      refine rc_call rfl (rc_tR hi3) (by decide) rfl rfl rfl rfl ?_
      by_cases hex : ∃ n, rg_on A i n ∧ rr_addr (nI n) = x
      · obtain ⟨n, hn, hx⟩ := hex
        obtain ⟨m, hm5, hm, hX⟩ := rg_size H hi3
        obtain ⟨p, w, hh, q, b1, b2⟩ := rg_stand H hi3 hn hm hm5
        refine rg_placeIs H hi3 hn hm hm5 hX b1 b2.2.1.2.1 hx ?_
        refine rc_call rfl (rc_tR hi3) (by decide) rfl rfl rfl rfl ?_
        refine rk_nodeIs (rc_tR hi3) (rg_npH H hi3) hX hm5 b1 ?_
        refine rw_step rfl rfl ?_
        refine rw_step rfl rfl ?_
        refine rw_step rfl rfl ?_
        refine rw_step rfl rfl ?_
        exact rw_ret rfl rfl rfl (hq1 i n p w hh q hi3 hn hx b2)
      · refine rg_placeNo H hi3 (fun n hn hx => hex ⟨n, hn, hx⟩) ?_
        refine rc_call rfl (rc_tR hi3) (by decide) rfl rfl rfl rfl ?_
        refine rk_nodeNo (rc_tR hi3) (Or.inl (by decide)) ?_
        refine rw_step rfl rfl ?_
        refine rw_step rfl rfl ?_
        refine rw_step rfl rfl ?_
        refine rw_step rfl rfl ?_
        refine rw_step rfl rfl ?_
        have := ih (i + 1) .null (by omega) (fun r n h1 h2 h3 => by
          rcases Nat.lt_or_ge r i with h4 | h4
          · exact hno r n h4 h2 h3
          · have e : r = i := by omega
            subst e
            exact hex ⟨n, h2, h3⟩)
        rw [← nI_1] at this
        exact this
  exact lp 3 0 _ (by omega) (fun r n h1 => by omega)
/-- the other ring that holds an address, or none -/
theorem rg_beyond {r0 : Nat} {x : Int32} (H : rg_Rel nd X R A t B) (hr0 : r0 < 3) (hq1 : ∀ r n, r < 3 → ¬ r = r0 → rg_on A r n → rr_addr (nI n) = x → Q (some (.ref (2 + 44 * r))) (rc_h X R)) (hq2 : (∀ r n, r < 3 → ¬ r = r0 → rg_on A r n → ¬ rr_addr (nI n) = x) → Q (some .null) (rc_h X R)) : rb_cw (d + 2) 24 [.ref 0, .ref (2 + 44 * r0), .int x] (rc_h X R) Q := by
  obtain ⟨m0, a0, y0, k0, p0, v0, g9⟩ := H.2.2.1 r0 hr0
  refine rw_ent rfl rfl rfl ?_
  refine rw_step rfl rfl ?_
  refine rw_step rfl rfl ?_
  have lp : ∀ f i, i + f = 3 → (∀ r n, r < i → ¬ r = r0 → rg_on A r n → ¬ rr_addr (nI n) = x) → rb_wp (d + 1) 24 2 [.ref 0, .ref (2 + 44 * r0), .int x, .int (nI i)] [] (rc_h X R) Q := by
    intro f
    induction f with
    | zero =>
      intro i hi hno
      have hi : i = 3 := by omega
      subst hi
      refine rw_step rfl rfl ?_
      refine rw_step rfl rfl ?_
      refine rw_step rfl rfl ?_
      refine rw_step rfl rfl ?_
      exact rw_ret rfl rfl rfl (hq2 hno)
    | succ f ih =>
      intro i hi hno
      have hi3 : i < 3 := by omega
      have nxt : (∀ n, ¬ i = r0 → rg_on A i n → ¬ rr_addr (nI n) = x) → rb_wp (d + 1) 24 35 [.ref 0, .ref (2 + 44 * r0), .int x, .int (nI i)] [] (rc_h X R) Q := by
        intro hz
        refine rw_step rfl rfl ?_
        refine rw_step rfl rfl ?_
        have := ih (i + 1) (by omega) (fun r n h1 h5 h2 h3 => by
          rcases Nat.lt_or_ge r i with h4 | h4
          · exact hno r n h4 h5 h2 h3
          · have e : r = i := by omega
            subst e
            exact hz n h5 h2 h3)
        rw [← nI_1] at this
        exact this
      refine rw_step rfl rfl ?_
      refine rw_step rfl rfl ?_
      refine rw_icmp rfl (fun hc => absurd (of_decide_eq_true hc) (nI_ge (a := i) (b := 3) hi3 (by omega))) (fun _ => ?_)
      refine rw_step rfl rfl ?_
      refine rw_step rfl rfl ?_
      refine rc_gv rfl (rc_tR hr0) rfl g9.2.2.1.1 ?_
      refine rw_icmp rfl (fun hc => nxt (fun n h1 => absurd ((nI_eq (by omega) (by omega)).mp (rw_eq hc)) h1)) (fun hc => ?_)
      have hne : ¬ i = r0 := fun h => rw_eqF hc (by rw [h])
      refine rw_step rfl rfl ?_
      refine rc_gr rfl rfl rfl ?_
      refine rw_step rfl rfl ?_
      refine rc_aa rfl (T := 10) rfl rfl hi3 (H.1.1.1.1 i hi3) ?_
      refine rw_step rfl rfl ?_
      refine rc_call rfl (rc_tR hi3) (by decide) rfl rfl rfl rfl ?_
      by_cases hex : ∃ n, rg_on A i n ∧ rr_addr (nI n) = x
      · obtain ⟨n, hn, hx⟩ := hex
        obtain ⟨m, hm5, hm, hX⟩ := rg_size H hi3
        obtain ⟨p, w, hh, q, b1, b2⟩ := rg_stand H hi3 hn hm hm5
        refine rg_placeIs H hi3 hn hm hm5 hX b1 b2.2.1.2.1 hx ?_
        refine rw_if rfl (fun hc => absurd (of_decide_eq_true hc) (Int32.not_lt.mpr (nI_le (a := 0) (b := p) (by omega) (by omega)))) (fun _ => ?_)
        refine rw_step rfl rfl ?_
        refine rc_gr rfl rfl rfl ?_
        refine rw_step rfl rfl ?_
        refine rc_aa rfl (T := 10) rfl rfl hi3 (H.1.1.1.1 i hi3) ?_
        exact rw_ret rfl rfl rfl (hq1 i n hi3 hne hn hx)
      · refine rg_placeNo H hi3 (fun n hn hx => hex ⟨n, hn, hx⟩) ?_
        refine rw_step rfl rfl ?_
        exact nxt (fun n _ hn hx => hex ⟨n, hn, hx⟩)
  exact lp 3 0 (by omega) (fun r n h1 => by omega)
end RGS
