/-! the reference: explore -/
section RSB
variable {d : Nat} {Q : Option Value → rb_H → Prop} {A : Nat → Nat → Int32} {t : Int32}
theorem rr_expNo {x y : Int32} (hno : ¬ (((rr_isSt A x = 1 ∧ (1 ≤ y ∧ y ≤ 9)) ∧ ¬ x = y) ∧ ¬ A 4 (x - 1).toNatClampNeg = 4)) (hq : Q (some (.int 0)) (rr_h A t)) : rb_cw (d + 3) 74 [.ref 0, .int x, .int y] (rr_h A t) Q := by
  have no : rb_wp (d + 2) 74 32 [.ref 0, .int x, .int y] [] (rr_h A t) Q := by
    repeat refine rw_step rfl rfl ?_
    exact rw_ret rfl rfl rfl hq
  refine rw_ent rfl rfl rfl ?_
  repeat refine rw_step rfl rfl ?_
  refine rw_call rfl rfl rfl ?_
  refine rr_isStation ?_
  by_cases hs : (1 ≤ x ∧ x ≤ 9) ∧ ¬ A 2 (x - 1).toNatClampNeg = 0
  · have hs1 : rr_isSt A x = 1 := by rw [rr_isSt, if_pos hs]
    rw [hs1] at hno ⊢
    refine rw_if rfl (fun h9 => absurd (rw_eq h9) (by decide)) (fun _ => ?_)
    repeat refine rw_step rfl rfl ?_
    refine rw_call rfl rfl rfl ?_
    refine rr_isAddress ?_
    by_cases hy : 1 ≤ y ∧ y ≤ 9
    · rw [if_pos hy]
      refine rw_if rfl (fun h9 => absurd (rw_eq h9) (by decide)) (fun _ => ?_)
      obtain ⟨n, hn, rfl⟩ := rr_addr9 hs.1
      have e1 : nI (n + 1) - 1 = nI n := nI_pred n
      have e2 : (nI (n + 1) - 1).toNatClampNeg = n := by rw [e1]; exact nI_clamp (by omega)
      rw [e2] at hno
      repeat refine rw_step rfl rfl ?_
      refine rw_icmp rfl (fun _ => no) (fun h1 => ?_)
      repeat refine rw_step rfl rfl ?_
      refine rr_ld (i := n) rfl rfl e1 (by omega) rfl ?_
      repeat refine rw_step rfl rfl ?_
      refine rw_icmp rfl (fun h2 => ?_) (fun _ => no)
      exact absurd ⟨⟨⟨rfl, hy⟩, rw_eqF h1⟩, rw_ne h2⟩ hno
    · rw [if_neg hy]
      refine rw_if rfl (fun _ => no) (fun h9 => absurd rfl (rw_eqF h9))
  · have hs1 : rr_isSt A x = 0 := by rw [rr_isSt, if_neg hs]
    rw [hs1]
    refine rw_if rfl (fun _ => no) (fun h9 => absurd rfl (rw_eqF h9))
end RSB
