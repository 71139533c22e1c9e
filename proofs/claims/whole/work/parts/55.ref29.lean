/-! the reference: take, its head -/
section RSF
variable {d : Nat} {Q : Option Value → rb_H → Prop} {A : Nat → Nat → Int32} {t : Int32}
theorem rr_takeNo {x : Int32} (hno : ¬ (((0 ≤ x ∧ x ≤ 3) ∧ ¬ A 35 x.toNatClampNeg = 0) ∧ ¬ A 50 x.toNatClampNeg = 0)) (hq : Q (some (.int (-1))) (rr_h A t)) : rb_cw (d + 4) 81 [.ref 0, .int x] (rr_h A t) Q := by
  have no : rb_wp (d + 3) 81 25 (rb_ent 81 [.ref 0, .int x]) [] (rr_h A t) Q := by
    repeat refine rw_step rfl rfl ?_
    exact rw_ret rfl rfl rfl hq
  refine rw_ent rfl rfl rfl ?_
  refine rw_step rfl rfl ?_
  refine rw_call rfl rfl rfl ?_
  refine rr_isConnection ?_
  by_cases hx : 0 ≤ x ∧ x ≤ 3
  · rw [if_pos hx]
    obtain ⟨c, hc, rfl⟩ := rr_link4 hx
    rw [rr_u4 hc] at hno
    refine rw_if rfl (fun h9 => absurd (rw_eq h9) (by decide)) (fun _ => ?_)
    repeat (first | refine rw_step rfl rfl ?_ | refine rr_ld rfl rfl rfl (by omega) rfl ?_)
    refine rw_if rfl (fun _ => no) (fun h1 => ?_)
    repeat (first | refine rw_step rfl rfl ?_ | refine rr_ld rfl rfl rfl (by omega) rfl ?_)
    refine rw_if rfl (fun h2 => ?_) (fun _ => no)
    exact absurd ⟨⟨hx, rw_eqF h1⟩, rw_ne h2⟩ hno
  · rw [if_neg hx]
    refine rw_if rfl (fun _ => no) (fun h9 => absurd rfl (rw_eqF h9))
def rr_takeG (A : Nat → Nat → Int32) (c m : Nat) : Nat → Nat → Int32 := rr_gap c (rr_up A 50 c (A 50 c - 1)) m 0
theorem rr_takeYes {c m n w : Nat} (hc : c < 4) (h35 : ¬ A 35 c = 0) (h50 : A 50 c = nI (m + 1)) (hm : m < 4) (hn : rr_takeG A c m 35 c = 1 → n < 9 ∧ rr_takeG A c m 37 c = nI (n + 1)) (hw : rr_takeG A c m 35 c = 1 → rr_takeG A c m 4 n = nI w) (hw4 : w ≤ 4) (hq : Q (some (.int (A 51 (4 * c)))) (rr_h (rr_takeE (rr_takeG A c m) c n w) t)) : rb_cw (d + 4) 81 [.ref 0, .int (nI c)] (rr_h A t) Q := by
  have hx : 0 ≤ nI c ∧ nI c ≤ 3 := ⟨nI_pos' (by omega), nI_le (b := 3) (by omega) (by decide)⟩
  have h50' : ¬ A 50 c = 0 := by rw [h50]; exact nI_ne0 (by omega) (by omega)
  refine rw_ent rfl rfl rfl ?_
  refine rw_step rfl rfl ?_
  refine rw_call rfl rfl rfl ?_
  refine rr_isConnection ?_
  rw [if_pos hx]
  refine rw_if rfl (fun h9 => absurd (rw_eq h9) (by decide)) (fun _ => ?_)
  repeat (first | refine rw_step rfl rfl ?_ | refine rr_ld rfl rfl rfl (by omega) rfl ?_)
  refine rw_if rfl (fun h9 => absurd (rw_eq h9) h35) (fun _ => ?_)
  repeat (first | refine rw_step rfl rfl ?_ | refine rr_ld rfl rfl rfl (by omega) rfl ?_)
  refine rw_if rfl (fun _ => ?_) (fun h9 => absurd (rw_neF h9) h50')
  iterate 5 refine rw_step rfl rfl ?_
  refine rr_ld (i := 4 * c) rfl rfl (rr_c4 c) (by omega) rfl ?_
  iterate 5 refine rw_step rfl rfl ?_
  refine rr_ld rfl rfl rfl (by omega) rfl ?_
  iterate 2 refine rw_step rfl rfl ?_
  refine rr_st rfl (fun _ => rfl) rfl (by omega) rfl ?_
  iterate 2 refine rw_step rfl rfl ?_
  refine rr_takeLoop hc m 0 _ _ rfl (by omega) ?_ ?_
  · have e9 : rr_up A 50 c (A 50 c - 1) 50 c = A 50 c - 1 := rr_up_same A 50 c _
    refine e9.trans ?_
    rw [h50, nI_pred, Nat.zero_add]
  · exact rr_takeEnd hc hn hw hw4 hq
end RSF
