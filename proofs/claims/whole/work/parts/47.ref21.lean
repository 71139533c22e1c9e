/-! the reference: node, offer -/
section RRX
variable {d : Nat} {Q : Option Value → rb_H → Prop} {A : Nat → Nat → Int32} {t : Int32}
theorem rr_at_ran {r p : Int32} : ∀ N : Nat, rr_at A r p N = -1 ∨ ∃ n : Nat, n < N ∧ rr_at A r p N = nI n
  | 0 => Or.inl rfl
  | N + 1 => by
    rw [rr_at]
    by_cases h : (¬ A 2 N = 0 ∧ A 3 N = r) ∧ A 0 N = p
    · rw [if_pos h]; exact Or.inr ⟨N, by omega, rfl⟩
    · rw [if_neg h]
      rcases rr_at_ran N with h1 | ⟨n, h1, h2⟩
      · exact Or.inl h1
      · exact Or.inr ⟨n, by omega, h2⟩
def rr_nodeA (A : Nat → Nat → Int32) (x p k : Int32) : Int32 := if (0 ≤ x ∧ x ≤ 2) ∧ (0 ≤ k ∧ k ≤ 2) then (if rr_at A x p 15 < 0 then -1 else if k = 0 then rr_addr (rr_at A x p 15) else if k = 1 then A 4 (rr_at A x p 15).toNatClampNeg else A 5 (rr_at A x p 15).toNatClampNeg) else -1
theorem rr_nodeM {x p k : Int32} (hq : Q (some (.int (rr_nodeA A x p k))) (rr_h A t)) : rb_cw (d + 2) 85 [.ref 0, .int x, .int p, .int k] (rr_h A t) Q := by
  have no : (¬ ((0 ≤ x ∧ x ≤ 2) ∧ (0 ≤ k ∧ k ≤ 2))) → rb_wp (d + 1) 85 16 (rb_ent 85 [.ref 0, .int x, .int p, .int k]) [] (rr_h A t) Q := by
    intro h9
    rw [rr_nodeA, if_neg h9] at hq
    repeat refine rw_step rfl rfl ?_
    exact rw_ret rfl rfl rfl hq
  refine rw_ent rfl rfl rfl ?_
  refine rw_step rfl rfl ?_
  refine rw_call rfl rfl rfl ?_
  refine rr_isRing ?_
  by_cases hx : 0 ≤ x ∧ x ≤ 2
  · rw [if_pos hx]
    refine rw_if rfl (fun h9 => absurd (rw_eq h9) (by decide)) (fun _ => ?_)
    repeat refine rw_step rfl rfl ?_
    refine rw_if rfl (fun h1 => no (fun h9 => absurd h9.2.1 (Int32.not_le.mpr (of_decide_eq_true h1)))) (fun h1 => ?_)
    repeat refine rw_step rfl rfl ?_
    refine rw_icmp rfl (fun h2 => ?_) (fun h2 => no (fun h9 => of_decide_eq_false h2 h9.2.2))
    have hk : 0 ≤ k ∧ k ≤ 2 := ⟨Int32.not_lt.mp (of_decide_eq_false h1), of_decide_eq_true h2⟩
    rw [rr_nodeA, if_pos ⟨hx, hk⟩] at hq
    repeat refine rw_step rfl rfl ?_
    refine rw_call rfl rfl rfl ?_
    refine rr_nodeAt ?_
    rcases rr_at_ran (A := A) (r := x) (p := p) 15 with h3 | ⟨n, hn, h3⟩
    · rw [h3] at hq ⊢
      rw [if_pos (by decide)] at hq
      repeat refine rw_step rfl rfl ?_
      exact rw_ret rfl rfl rfl hq
    · rw [h3] at hq ⊢
      rw [if_neg (nI_pos (by omega)), nI_clamp (by omega)] at hq
      repeat refine rw_step rfl rfl ?_
      refine rw_if rfl (fun _ => ?_) (fun h4 => absurd (nI_pos' (n := n) (by omega)) (of_decide_eq_false h4))
      repeat refine rw_step rfl rfl ?_
      refine rw_if rfl (fun h4 => ?_) (fun h4 => ?_)
      · rw [if_neg (rw_ne h4)] at hq
        repeat refine rw_step rfl rfl ?_
        refine rw_icmp rfl (fun h5 => ?_) (fun h5 => ?_)
        · rw [if_neg (rw_ne h5)] at hq
          repeat (first | refine rw_step rfl rfl ?_ | refine rr_ld rfl rfl rfl (by omega) rfl ?_)
          exact rw_ret rfl rfl rfl hq
        · rw [if_pos (rw_neF h5)] at hq
          repeat (first | refine rw_step rfl rfl ?_ | refine rr_ld rfl rfl rfl (by omega) rfl ?_)
          exact rw_ret rfl rfl rfl hq
      · rw [if_pos (rw_neF h4)] at hq
        repeat refine rw_step rfl rfl ?_
        refine rw_call rfl rfl rfl ?_
        refine rr_addressOf ?_
        repeat refine rw_step rfl rfl ?_
        exact rw_ret rfl rfl rfl hq
  · rw [if_neg hx]
    refine rw_if rfl (fun _ => no (fun h9 => hx h9.1)) (fun h9 => absurd rfl (rw_eqF h9))
def rr_offC (A : Nat → Nat → Int32) (x v : Int32) : Prop := (((0 ≤ x ∧ x ≤ 3) ∧ A 35 x.toNatClampNeg = 1) ∧ (0 ≤ v ∧ v ≤ 255)) ∧ ¬ A 44 x.toNatClampNeg = 8
def rr_offA (A : Nat → Nat → Int32) (c w : Nat) (v : Int32) : Nat → Nat → Int32 := rr_up (rr_up A 45 (8 * c + w) v) 44 c (nI w + 1)
theorem rr_offNo {x v : Int32} (h9 : ¬ rr_offC A x v) (hq : Q (some (.int 0)) (rr_h A t)) : rb_cw (d + 2) 80 [.ref 0, .int x, .int v] (rr_h A t) Q := by
  have no : rb_wp (d + 1) 80 39 [.ref 0, .int x, .int v] [] (rr_h A t) Q := by
    repeat refine rw_step rfl rfl ?_
    exact rw_ret rfl rfl rfl hq
  refine rw_ent rfl rfl rfl ?_
  refine rw_step rfl rfl ?_
  refine rw_call rfl rfl rfl ?_
  refine rr_isConnection ?_
  by_cases hx : 0 ≤ x ∧ x ≤ 3
  · rw [if_pos hx]
    refine rw_if rfl (fun h9 => absurd (rw_eq h9) (by decide)) (fun _ => ?_)
    obtain ⟨c, hc, rfl⟩ := rr_link4 hx
    rw [rr_offC, rr_u4 hc] at h9
    repeat (first | refine rw_step rfl rfl ?_ | refine rr_ld rfl rfl rfl (by omega) rfl ?_)
    refine rw_icmp rfl (fun _ => no) (fun h1 => ?_)
    repeat refine rw_step rfl rfl ?_
    refine rw_if rfl (fun _ => no) (fun h2 => ?_)
    repeat refine rw_step rfl rfl ?_
    refine rw_icmp rfl (fun _ => no) (fun h3 => ?_)
    repeat (first | refine rw_step rfl rfl ?_ | refine rr_ld rfl rfl rfl (by omega) rfl ?_)
    refine rw_icmp rfl (fun h4 => ?_) (fun _ => no)
    exact absurd ⟨⟨⟨hx, rw_neF h1⟩, Int32.not_lt.mp (of_decide_eq_false h2), Int32.not_lt.mp (of_decide_eq_false h3)⟩, rw_ne h4⟩ h9
  · rw [if_neg hx]
    refine rw_if rfl (fun _ => no) (fun h9 => absurd rfl (rw_eqF h9))
theorem rr_offYes {c w : Nat} {v : Int32} (hc : c < 4) (hw : A 44 c = nI w) (hw8 : w < 8) (h1 : A 35 c = 1) (h2 : 0 ≤ v) (h3 : v ≤ 255) (hq : Q (some (.int 1)) (rr_h (rr_offA A c w v) t)) : rb_cw (d + 2) 80 [.ref 0, .int (nI c), .int v] (rr_h A t) Q := by
  have e1 : (8 : Int32) * nI c + A 44 c = nI (8 * c + w) := by rw [rr_c8, hw, nI_add]
  refine rw_ent rfl rfl rfl ?_
  refine rw_step rfl rfl ?_
  refine rw_call rfl rfl rfl ?_
  refine rr_isConnection ?_
  have hx : 0 ≤ nI c ∧ nI c ≤ 3 := ⟨nI_pos' (by omega), nI_le (b := 3) (by omega) (by decide)⟩
  rw [if_pos hx]
  refine rw_if rfl (fun h9 => absurd (rw_eq h9) (by decide)) (fun _ => ?_)
  repeat (first | refine rw_step rfl rfl ?_ | refine rr_ld rfl rfl rfl (by omega) rfl ?_)
  refine rw_icmp rfl (fun h9 => absurd h1 (rw_ne h9)) (fun _ => ?_)
  repeat refine rw_step rfl rfl ?_
  refine rw_if rfl (fun h9 => absurd h2 (Int32.not_le.mpr (of_decide_eq_true h9))) (fun _ => ?_)
  repeat refine rw_step rfl rfl ?_
  refine rw_icmp rfl (fun h9 => absurd h3 (Int32.not_le.mpr (of_decide_eq_true h9))) (fun _ => ?_)
  repeat (first | refine rw_step rfl rfl ?_ | refine rr_ld rfl rfl rfl (by omega) rfl ?_)
  refine rw_icmp rfl (fun _ => ?_) (fun h9 => absurd ((rw_neF h9).symm.trans hw) (fun h8 => absurd ((nI_eq (a := 8) (b := w) (by decide) (by omega)).mp h8) (by omega)))
  repeat (first | refine rw_step rfl rfl ?_ | refine rr_ld rfl rfl rfl (by omega) rfl ?_)
  refine rr_st (i := 8 * c + w) rfl (fun _ => rfl) e1 (by omega) rfl ?_
  repeat (first | refine rw_step rfl rfl ?_ | refine rr_ld rfl rfl rfl (by omega) rfl ?_ | refine rr_st rfl (fun _ => rfl) rfl (by omega) rfl ?_)
  refine rw_ret rfl rfl rfl ?_
  rw [rr_offA, ← hw] at hq
  exact hq
end RRX
