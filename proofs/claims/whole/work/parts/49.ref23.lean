/-! the reference: connection, signal -/
section RRZ
variable {d : Nat} {Q : Option Value → rb_H → Prop} {A : Nat → Nat → Int32} {t : Int32}
def rr_conA (A : Nat → Nat → Int32) (x k : Int32) : Int32 := if ((0 ≤ x ∧ x ≤ 3) ∧ (0 ≤ k ∧ k ≤ 7)) ∧ (k = 0 ∨ ¬ A 35 x.toNatClampNeg = 0) then rr_conV A x.toNatClampNeg k.toNatClampNeg else -1
theorem rr_conM {x k : Int32} (hq : Q (some (.int (rr_conA A x k))) (rr_h A t)) : rb_cw (d + 2) 87 [.ref 0, .int x, .int k] (rr_h A t) Q := by
  have no : (¬ (((0 ≤ x ∧ x ≤ 3) ∧ (0 ≤ k ∧ k ≤ 7)) ∧ (k = 0 ∨ ¬ A 35 x.toNatClampNeg = 0))) → rb_wp (d + 1) 87 30 [.ref 0, .int x, .int k] [] (rr_h A t) Q := by
    intro h9
    rw [rr_conA, if_neg h9] at hq
    repeat refine rw_step rfl rfl ?_
    exact rw_ret rfl rfl rfl hq
  refine rw_ent rfl rfl rfl ?_
  refine rw_step rfl rfl ?_
  refine rw_call rfl rfl rfl ?_
  refine rr_isConnection ?_
  by_cases hx : 0 ≤ x ∧ x ≤ 3
  · rw [if_pos hx]
    refine rw_if rfl (fun h9 => absurd (rw_eq h9) (by decide)) (fun _ => ?_)
    repeat refine rw_step rfl rfl ?_
    refine rw_if rfl (fun h1 => no (fun h9 => absurd h9.1.2.1 (Int32.not_le.mpr (of_decide_eq_true h1)))) (fun h1 => ?_)
    repeat refine rw_step rfl rfl ?_
    refine rw_icmp rfl (fun h2 => no (fun h9 => absurd h9.1.2.2 (Int32.not_le.mpr (of_decide_eq_true h2)))) (fun h2 => ?_)
    have hk : 0 ≤ k ∧ k ≤ 7 := ⟨Int32.not_lt.mp (of_decide_eq_false h1), Int32.not_lt.mp (of_decide_eq_false h2)⟩
    obtain ⟨c, hc, rfl⟩ := rr_link4 hx
    obtain ⟨m, hm, rfl⟩ := nI_of2 (M := 7) (n := 7) (x := k) (by decide) (Int32.not_lt.mpr hk.1) hk.2
    have go : (nI m = 0 ∨ ¬ A 35 c = 0) → rb_wp (d + 1) 87 32 [.ref 0, .int (nI c), .int (nI m)] [] (rr_h A t) Q := by
      intro h9
      rw [rr_conA, if_pos ⟨⟨hx, hk⟩, by rw [rr_u4 hc]; exact h9⟩, rr_u4 hc, nI_clamp (by omega)] at hq
      exact rr_conTail hc (by omega) hq
    repeat refine rw_step rfl rfl ?_
    refine rw_if rfl (fun h3 => go (Or.inl (rw_eq h3))) (fun h3 => ?_)
    repeat (first | refine rw_step rfl rfl ?_ | refine rr_ld rfl rfl rfl (by omega) rfl ?_)
    refine rw_if rfl (fun h4 => go (Or.inr (rw_ne h4))) (fun h4 => no (fun h9 => h9.2.elim (rw_eqF h3) (fun h8 => h8 (by rw [rr_u4 hc]; exact rw_neF h4))))
  · rw [if_neg hx]
    refine rw_if rfl (fun _ => no (fun h9 => hx h9.1.1)) (fun h9 => absurd rfl (rw_eqF h9))
theorem rr_sig3 {r : Nat} {s v : Int32} (hr : r < 3) (hq : Q (some (.int (v + if A 28 r = 0 then 0 else 512))) (rr_h A t)) : rb_wp d 82 101 [.ref 0, .int (nI r), .int s] [.int v] (rr_h A t) Q := by
  repeat (first | refine rw_step rfl rfl ?_ | refine rr_ldz rfl rfl rfl (by omega) rfl ?_)
  refine rw_if rfl (fun h1 => ?_) (fun h1 => ?_)
  · rw [if_pos (rw_eq h1)] at hq
    repeat refine rw_step rfl rfl ?_
    exact rw_ret rfl rfl rfl hq
  · rw [if_neg (rw_eqF h1)] at hq
    repeat refine rw_step rfl rfl ?_
    exact rw_ret rfl rfl rfl hq
theorem rr_sig2 {r : Nat} {s v : Int32} (hr : r < 3) (hq : Q (some (.int (v + (if A 27 r = 0 then 0 else 256) + if A 28 r = 0 then 0 else 512))) (rr_h A t)) : rb_wp d 82 84 [.ref 0, .int (nI r), .int s] [.int v] (rr_h A t) Q := by
  iterate 3 refine rw_step rfl rfl ?_
  refine rr_ldz rfl rfl rfl (by omega) rfl ?_
  refine rw_if rfl (fun h1 => ?_) (fun h1 => ?_)
  · rw [if_pos (rw_eq h1)] at hq
    iterate 2 refine rw_step rfl rfl ?_
    exact rr_sig3 hr hq
  · rw [if_neg (rw_eqF h1)] at hq
    iterate 3 refine rw_step rfl rfl ?_
    exact rr_sig3 hr hq
theorem rr_sig1 {r : Nat} {s v : Int32} (hr : r < 3) (hq : Q (some (.int (v + (if A 26 r = 0 then 0 else 128) + (if A 27 r = 0 then 0 else 256) + if A 28 r = 0 then 0 else 512))) (rr_h A t)) : rb_wp d 82 67 [.ref 0, .int (nI r), .int s] [.int v] (rr_h A t) Q := by
  iterate 3 refine rw_step rfl rfl ?_
  refine rr_ldz rfl rfl rfl (by omega) rfl ?_
  refine rw_if rfl (fun h1 => ?_) (fun h1 => ?_)
  · rw [if_pos (rw_eq h1)] at hq
    iterate 2 refine rw_step rfl rfl ?_
    exact rr_sig2 hr hq
  · rw [if_neg (rw_eqF h1)] at hq
    iterate 3 refine rw_step rfl rfl ?_
    exact rr_sig2 hr hq
end RRZ
