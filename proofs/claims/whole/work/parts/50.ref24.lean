/-! the reference: signal -/
section RSA
variable {d : Nat} {Q : Option Value → rb_H → Prop} {A : Nat → Nat → Int32} {t : Int32}
def rr_sigV (A : Nat → Nat → Int32) (r : Nat) : Int32 := if A 21 r = 3 ∨ A 21 r = 4 then A 21 r + 8 * A 29 r else if A 21 r = 0 then 0 else A 21 r + 8 * A 24 r + 32 * A 25 r + (if A 26 r = 0 then 0 else 128) + (if A 27 r = 0 then 0 else 256) + (if A 28 r = 0 then 0 else 512)
def rr_sigA (A : Nat → Nat → Int32) (x : Int32) : Int32 := if 0 ≤ x ∧ x ≤ 2 then rr_sigV A x.toNatClampNeg else -1
theorem rr_sigM {x : Int32} (hq : Q (some (.int (rr_sigA A x))) (rr_h A t)) : rb_cw (d + 2) 82 [.ref 0, .int x] (rr_h A t) Q := by
  refine rw_ent rfl rfl rfl ?_
  refine rw_step rfl rfl ?_
  refine rw_call rfl rfl rfl ?_
  refine rr_isRing ?_
  by_cases hx : 0 ≤ x ∧ x ≤ 2
  · rw [if_pos hx]
    obtain ⟨r, hr, rfl⟩ := rr_ring3 hx
    rw [rr_sigA, if_pos hx, rr_u3 hr] at hq
    have hi : (A 21 r = 3 ∨ A 21 r = 4) → rb_wp (d + 1) 82 26 [.ref 0, .int (nI r), .int (A 21 r)] [] (rr_h A t) Q := by
      intro h9
      rw [rr_sigV, if_pos h9] at hq
      repeat (first | refine rw_step rfl rfl ?_ | refine rr_ld rfl rfl rfl (by omega) rfl ?_)
      exact rw_ret rfl rfl rfl hq
    refine rw_if rfl (fun _ => ?_) (fun h9 => absurd (rw_neF h9) (by decide))
    repeat (first | refine rw_step rfl rfl ?_ | refine rr_ld rfl rfl rfl (by omega) rfl ?_)
    refine rw_icmp rfl (fun h1 => hi (Or.inl (rw_eq h1))) (fun h1 => ?_)
    repeat refine rw_step rfl rfl ?_
    refine rw_icmp rfl (fun h2 => ?_) (fun h2 => hi (Or.inr (rw_neF h2)))
    rw [rr_sigV, if_neg (fun h9 => h9.elim (rw_eqF h1) (rw_ne h2))] at hq
    repeat refine rw_step rfl rfl ?_
    refine rw_if rfl (fun h3 => ?_) (fun h3 => ?_)
    · rw [if_neg (rw_ne h3)] at hq
      iterate 5 refine rw_step rfl rfl ?_
      refine rr_ld rfl rfl rfl (by omega) rfl ?_
      iterate 6 refine rw_step rfl rfl ?_
      refine rr_ld rfl rfl rfl (by omega) rfl ?_
      iterate 2 refine rw_step rfl rfl ?_
      exact rr_sig1 hr hq
    · rw [if_pos (rw_neF h3)] at hq
      repeat refine rw_step rfl rfl ?_
      exact rw_ret rfl rfl rfl hq
  · rw [rr_sigA, if_neg hx] at hq
    rw [if_neg hx]
    refine rw_if rfl (fun h9 => absurd rfl (rw_ne h9)) (fun _ => ?_)
    repeat refine rw_step rfl rfl ?_
    exact rw_ret rfl rfl rfl hq
end RSA
