/-! the class: rings, searches -/
section RKC
variable {d : Nat} {Q : Option Value → rb_H → Prop} {X : Nat → Nat → Int32} {R : Nat → Nat → Option Nat} {np : Nat → Nat}
/-- the nodes of the ring at place P -/
def rk_np (R : Nat → Nat → Option Nat) (P : Nat) (np : Nat → Nat) : Prop := ∀ p, p < 5 → R (P + 1) p = some (np p) ∧ rc_ty (np p) = 2
theorem rk_rfull {P : Nat} (hP : rc_ty P = 1) (hq : Q (some (.int (if X P 3 < 5 then 0 else 1))) (rc_h X R)) : rb_cw (d + 1) 113 [.ref P] (rc_h X R) Q := by
  refine rw_ent rfl rfl rfl ?_
  repeat (first | refine rw_step rfl rfl ?_ | refine rc_g rfl hP rfl ?_)
  refine rw_icmp rfl (fun hc => ?_) (fun hc => ?_)
  · rw [if_pos (show X P 3 < 5 from of_decide_eq_true hc)] at hq
    repeat refine rw_step rfl rfl ?_
    exact rw_ret rfl rfl rfl hq
  · rw [if_neg (show ¬ X P 3 < 5 from of_decide_eq_false hc)] at hq
    repeat refine rw_step rfl rfl ?_
    exact rw_ret rfl rfl rfl hq
theorem rk_place_at {P m i : Nat} {x : Int32} (hP : rc_ty P = 1) (hn : rk_np R P np) (hm : X P 3 = nI m) (hm5 : m ≤ 5) (hi : i < m) (kk1 : X (np i) 3 = x → Q (some (.int (nI i))) (rc_h X R)) (kk2 : X (np i) 3 ≠ x → rb_wp d 114 2 [.ref P, .int x, .int (nI (i + 1))] [] (rc_h X R) Q) : rb_wp d 114 2 [.ref P, .int x, .int (nI i)] [] (rc_h X R) Q := by
  refine rw_step rfl rfl ?_
  refine rw_step rfl rfl ?_
  refine rc_gv rfl hP rfl hm ?_
  refine rw_icmp rfl (fun hc => absurd (of_decide_eq_true hc) (nI_ge hi (by omega))) (fun _ => ?_)
  refine rw_step rfl rfl ?_
  refine rw_step rfl rfl ?_
  refine rw_icmp rfl (fun hc => absurd (of_decide_eq_true hc) (nI_ge (a := i) (b := 5) (by omega) (by omega))) (fun _ => ?_)
  refine rw_step rfl rfl ?_
  refine rc_gr rfl hP rfl ?_
  refine rw_step rfl rfl ?_
  refine rc_aa rfl (rc_t1 hP).1 rfl (show i < 5 by omega) (hn i (by omega)).1 ?_
  refine rc_g rfl (hn i (by omega)).2 rfl ?_
  refine rw_step rfl rfl ?_
  refine rw_icmp rfl (fun hc => ?_) (fun hc => ?_)
  · have hc : ¬ X (np i) 3 = x := by simpa [rb_cmp] using hc
    refine rw_step rfl rfl ?_
    refine rw_step rfl rfl ?_
    have := kk2 hc
    rw [← nI_1] at this
    exact this
  · have hc : X (np i) 3 = x := by simpa [rb_cmp] using hc
    refine rw_step rfl rfl ?_
    exact rw_ret rfl rfl rfl (kk1 hc)
theorem rk_place_end {P m : Nat} {x : Int32} (hP : rc_ty P = 1) (hm : X P 3 = nI m) (hm5 : m ≤ 5) (hq : Q (some (.int (-1))) (rc_h X R)) : rb_wp d 114 2 [.ref P, .int x, .int (nI m)] [] (rc_h X R) Q := by
  refine rw_step rfl rfl ?_
  refine rw_step rfl rfl ?_
  refine rc_gv rfl hP rfl hm ?_
  refine rw_icmp rfl (fun _ => ?_) (fun hc => absurd (nI_le (Nat.le_refl _) (by omega)) (of_decide_eq_false hc))
  refine rw_step rfl rfl ?_
  exact rw_ret rfl rfl rfl hq
theorem rk_placeIs {P m p : Nat} {x : Int32} (hP : rc_ty P = 1) (hn : rk_np R P np) (hm : X P 3 = nI m) (hm5 : m ≤ 5) (hp : p < m) (hx : X (np p) 3 = x) (hno : ∀ i, i < p → X (np i) 3 ≠ x) (hq : Q (some (.int (nI p))) (rc_h X R)) : rb_cw (d + 1) 114 [.ref P, .int x] (rc_h X R) Q := by
  refine rw_ent rfl rfl rfl ?_
  refine rw_step rfl rfl ?_
  refine rw_step rfl rfl ?_
  have lp : ∀ f i, i + f = p → rb_wp d 114 2 [.ref P, .int x, .int (nI i)] [] (rc_h X R) Q := by
    intro f
    induction f with
    | zero =>
      intro i hi
      have hi : i = p := by omega
      subst hi
      exact rk_place_at hP hn hm hm5 hp (fun _ => hq) (fun h9 => absurd hx h9)
    | succ f ih =>
      intro i hi
      exact rk_place_at hP hn hm hm5 (by omega) (fun h9 => absurd h9 (hno i (by omega))) (fun _ => ih (i + 1) (by omega))
  exact lp p 0 (by omega)
theorem rk_placeNo {P m : Nat} {x : Int32} (hP : rc_ty P = 1) (hn : rk_np R P np) (hm : X P 3 = nI m) (hm5 : m ≤ 5) (hno : ∀ i, i < m → X (np i) 3 ≠ x) (hq : Q (some (.int (-1))) (rc_h X R)) : rb_cw (d + 1) 114 [.ref P, .int x] (rc_h X R) Q := by
  refine rw_ent rfl rfl rfl ?_
  refine rw_step rfl rfl ?_
  refine rw_step rfl rfl ?_
  have lp : ∀ f i, i + f = m → rb_wp d 114 2 [.ref P, .int x, .int (nI i)] [] (rc_h X R) Q := by
    intro f
    induction f with
    | zero =>
      intro i hi
      have hi : i = m := by omega
      subst hi
      exact rk_place_end hP hm hm5 hq
    | succ f ih =>
      intro i hi
      exact rk_place_at hP hn hm hm5 (by omega) (fun h9 => absurd h9 (hno i (by omega))) (fun _ => ih (i + 1) (by omega))
  exact lp m 0 (by omega)
theorem rk_nodeIs {P m p : Nat} (hP : rc_ty P = 1) (hn : rk_np R P np) (hm : X P 3 = nI m) (hm5 : m ≤ 5) (hp : p < m) (hq : Q (some (.ref (np p))) (rc_h X R)) : rb_cw (d + 1) 115 [.ref P, .int (nI p)] (rc_h X R) Q := by
  refine rw_ent rfl rfl rfl ?_
  refine rw_step rfl rfl ?_
  refine rw_if rfl (fun hc => absurd (of_decide_eq_true hc) (Int32.not_lt.mpr (nI_le (a := 0) (b := p) (by omega) (by omega)))) (fun _ => ?_)
  refine rw_step rfl rfl ?_
  refine rw_step rfl rfl ?_
  refine rc_gv rfl hP rfl hm ?_
  refine rw_icmp rfl (fun hc => absurd (of_decide_eq_true hc) (nI_ge hp (by omega))) (fun _ => ?_)
  refine rw_step rfl rfl ?_
  refine rw_step rfl rfl ?_
  refine rw_icmp rfl (fun hc => absurd (of_decide_eq_true hc) (nI_ge (a := p) (b := 5) (by omega) (by omega))) (fun _ => ?_)
  refine rw_step rfl rfl ?_
  refine rc_gr rfl hP rfl ?_
  refine rw_step rfl rfl ?_
  refine rc_aa rfl (rc_t1 hP).1 rfl (show p < 5 by omega) (hn p (by omega)).1 ?_
  refine rw_step rfl rfl ?_
  exact rw_ret rfl rfl rfl hq
theorem rk_nodeNo {P : Nat} {x : Int32} (hP : rc_ty P = 1) (hx : x < 0 ∨ X P 3 ≤ x) (hq : Q (some .null) (rc_h X R)) : rb_cw (d + 1) 115 [.ref P, .int x] (rc_h X R) Q := by
  refine rw_ent rfl rfl rfl ?_
  refine rw_step rfl rfl ?_
  refine rw_if rfl (fun _ => ?_) (fun hc => ?_)
  · refine rw_step rfl rfl ?_
    exact rw_ret rfl rfl rfl hq
  have hc : ¬ x < 0 := of_decide_eq_false hc
  have hx : X P 3 ≤ x := by
    rcases hx with h | h
    · exact absurd h hc
    · exact h
  refine rw_step rfl rfl ?_
  refine rw_step rfl rfl ?_
  refine rc_g rfl hP rfl ?_
  refine rw_icmp rfl (fun _ => ?_) (fun hc => absurd hx (of_decide_eq_false hc))
  refine rw_step rfl rfl ?_
  exact rw_ret rfl rfl rfl hq
theorem rk_behind {P : Nat} {x : Int32} (hP : rc_ty P = 1) (hq : Q (some (.int (if x + 1 < X P 3 then x + 1 else 0))) (rc_h X R)) : rb_cw (d + 1) 116 [.ref P, .int x] (rc_h X R) Q := by
  refine rw_ent rfl rfl rfl ?_
  repeat (first | refine rw_step rfl rfl ?_ | refine rc_g rfl hP rfl ?_)
  refine rw_icmp rfl (fun hc => ?_) (fun hc => ?_)
  · rw [if_neg (Int32.not_lt.mpr (of_decide_eq_true hc))] at hq
    repeat refine rw_step rfl rfl ?_
    exact rw_ret rfl rfl rfl hq
  · rw [if_pos (Int32.not_le.mp (of_decide_eq_false hc))] at hq
    repeat refine rw_step rfl rfl ?_
    exact rw_ret rfl rfl rfl hq
theorem rk_addAtNo {P m : Nat} {x : Int32} (hP : rc_ty P = 1) (hn : rk_np R P np) (hm : X P 3 = nI m) (hm5 : m ≤ 5) (hno : ∀ i, i < m → X (np i) 3 ≠ x) (hq : Q (some .null) (rc_h X R)) : rb_cw (d + 2) 117 [.ref P, .int x] (rc_h X R) Q := by
  refine rw_ent rfl rfl rfl ?_
  repeat refine rw_step rfl rfl ?_
  refine rc_call rfl hP (by decide) rfl rfl rfl rfl ?_
  refine rk_placeNo hP hn hm hm5 hno ?_
  refine rc_call rfl hP (by decide) rfl rfl rfl rfl ?_
  refine rk_nodeNo hP (Or.inl (by decide)) ?_
  repeat refine rw_step rfl rfl ?_
  exact rw_ret rfl rfl rfl hq
theorem rk_addAt {P m p : Nat} {x : Int32} (hP : rc_ty P = 1) (hn : rk_np R P np) (hm : X P 3 = nI m) (hm5 : m ≤ 5) (hp : p < m) (hx : X (np p) 3 = x) (hno : ∀ i, i < p → X (np i) 3 ≠ x) (kk : rb_cw (d + 1) 106 [.ref (np p)] (rc_h X R) (fun v h => ((∃ q, v = some (.ref q)) ∨ v = some .null) ∧ Q v h)) : rb_cw (d + 2) 117 [.ref P, .int x] (rc_h X R) Q := by
  refine rw_ent rfl rfl rfl ?_
  repeat refine rw_step rfl rfl ?_
  refine rc_call rfl hP (by decide) rfl rfl rfl rfl ?_
  refine rk_placeIs hP hn hm hm5 hp hx hno ?_
  refine rc_call rfl hP (by decide) rfl rfl rfl rfl ?_
  refine rk_nodeIs hP hn hm hm5 hp ?_
  repeat refine rw_step rfl rfl ?_
  refine rc_call rfl (hn p (by omega)).2 (by decide) rfl rfl rfl rfl ?_
  refine rw_mono kk (fun v h h9 => ?_)
  obtain ⟨h8, h7⟩ := h9
  rcases h8 with ⟨q, rfl⟩ | rfl
  · exact rw_ret rfl rfl rfl h7
  · exact rw_ret rfl rfl rfl h7
theorem rk_addNode {P m : Nat} {a : Int32} (hP : rc_ty P = 1) (hn : rk_np R P np) (hm : X P 3 = nI m) (hm5 : m < 5) (hq : Q none (rc_h (rr_up (rk_nbX X (np m) a) P 3 (nI (m + 1))) R)) : rb_cw (d + 2) 118 [.ref P, .int a] (rc_h X R) Q := by
  have hN := (hn m hm5).2
  have hPN : P ≠ np m := rk_tne hP hN rfl
  refine rw_ent rfl rfl rfl ?_
  refine rw_step rfl rfl ?_
  refine rc_call rfl hP (by decide) rfl rfl rfl rfl ?_
  refine rk_rfull hP ?_
  rw [hm, if_pos (show nI m < 5 from nI_lt (b := 5) hm5 (by omega))]
  refine rw_step rfl rfl ?_
  refine rw_step rfl rfl ?_
  refine rc_gr rfl hP rfl ?_
  refine rw_step rfl rfl ?_
  refine rc_gv rfl hP rfl hm ?_
  refine rc_aa rfl (rc_t1 hP).1 rfl (show m < 5 by omega) (hn m (by omega)).1 ?_
  refine rw_step rfl rfl ?_
  refine rc_call rfl hN (by decide) rfl rfl rfl rfl ?_
  refine rk_nbegin hN ?_
  repeat refine rw_step rfl rfl ?_
  refine rc_gv rfl hP rfl (show rk_nbX X (np m) a P 3 = nI m by unfold rk_nbX; rw [rk_ne hPN, rk_ne hPN, rk_ne hPN, rk_ne hPN, hm]) ?_
  repeat refine rw_step rfl rfl ?_
  refine rc_p rfl hP rfl rfl ?_
  refine rw_ret rfl rfl rfl ?_
  dsimp only
  rw [nI_1]
  exact hq
theorem rk_silent {P : Nat} (hP : rc_ty P = 1) (hq : Q none (rc_h (rr_up (rr_up X (P + 42) 1 0) P 5 0) R)) : rb_cw (d + 1) 120 [.ref P] (rc_h X R) Q := by
  refine rw_ent rfl rfl rfl ?_
  refine rw_step rfl rfl ?_
  refine rc_gr rfl hP rfl ?_
  refine rw_step rfl rfl ?_
  refine rc_p rfl (rc_t1 hP).2.1 rfl rfl ?_
  repeat refine rw_step rfl rfl ?_
  refine rc_p rfl hP rfl rfl ?_
  exact rw_ret rfl rfl rfl hq
def rk_spX (X : Nat → Nat → Int32) (P : Nat) : Nat → Nat → Int32 := rr_up (rr_up (rr_up X (P + 42) 1 4) (P + 42) 4 (X P 6)) P 7 (X P 7 + 1)
theorem rk_startP {P : Nat} (hP : rc_ty P = 1) (hq : Q none (rc_h (rk_spX X P) R)) : rb_cw (d + 1) 122 [.ref P] (rc_h X R) Q := by
  refine rw_ent rfl rfl rfl ?_
  refine rw_step rfl rfl ?_
  refine rc_gr rfl hP rfl ?_
  refine rw_step rfl rfl ?_
  refine rc_p rfl (rc_t1 hP).2.1 rfl rfl ?_
  refine rw_step rfl rfl ?_
  refine rc_gr rfl hP rfl ?_
  refine rw_step rfl rfl ?_
  refine rc_gv rfl hP rfl (rk_ne (by omega)) ?_
  refine rc_p rfl (rc_t1 hP).2.1 rfl rfl ?_
  repeat refine rw_step rfl rfl ?_
  refine rc_gv rfl hP rfl ((rk_ne (by omega)).trans (rk_ne (by omega))) ?_
  repeat refine rw_step rfl rfl ?_
  refine rc_p rfl hP rfl rfl ?_
  exact rw_ret rfl rfl rfl hq
end RKC
