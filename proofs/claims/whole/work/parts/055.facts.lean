/-! what the tables say -/
theorem rb_cl_len : rb_cl.length ≤ 1000 := by decide
theorem rb_cl_cases {ci : Nat} {q : vw_C} (h : rb_cl[ci]? = some q) : (ci = 0 ∧ q = ("RingBridges", rb_T0, 4)) ∨ (ci = 1 ∧ q = ("RingBridges$Ring", rb_T1, 10)) ∨ (ci = 2 ∧ q = ("RingBridges$Node", rb_T2, 7)) ∨ (ci = 3 ∧ q = ("RingBridges$Frame", rb_T3, 11)) ∨ (ci = 4 ∧ q = ("RingBridges$Signal", rb_T4, 8)) ∨ (ci = 5 ∧ q = ("RingBridges$Link", rb_T5, 17)) ∨ (ci = 6 ∧ q = ("RingBridges$ByteRow", rb_T6, 4)) ∨ (ci = 7 ∧ q = ("RingBridgesModel", rb_T7, 55)) := by
  match ci, h with
  | 0, h => exact Or.inl ⟨rfl, (Option.some.inj h).symm⟩
  | 1, h => exact Or.inr (Or.inl ⟨rfl, (Option.some.inj h).symm⟩)
  | 2, h => exact Or.inr (Or.inr (Or.inl ⟨rfl, (Option.some.inj h).symm⟩))
  | 3, h => exact Or.inr (Or.inr (Or.inr (Or.inl ⟨rfl, (Option.some.inj h).symm⟩)))
  | 4, h => exact Or.inr (Or.inr (Or.inr (Or.inr (Or.inl ⟨rfl, (Option.some.inj h).symm⟩))))
  | 5, h => exact Or.inr (Or.inr (Or.inr (Or.inr (Or.inr (Or.inl ⟨rfl, (Option.some.inj h).symm⟩)))))
  | 6, h => exact Or.inr (Or.inr (Or.inr (Or.inr (Or.inr (Or.inr (Or.inl ⟨rfl, (Option.some.inj h).symm⟩))))))
  | 7, h => exact Or.inr (Or.inr (Or.inr (Or.inr (Or.inr (Or.inr (Or.inr ⟨rfl, (Option.some.inj h).symm⟩))))))
  | n + 8, h => cases h
theorem rb_wL_in {w : Jvm.Cond} (h : w ∈ rb_wL) : w ∈ rb_ws := List.mem_append_right _ (List.mem_append_right _ (List.mem_append_right _ (List.mem_append_right _ (List.mem_append_right _ (List.mem_append_left _ h)))))
theorem rb_lay_in {ci : Nat} {q : vw_C} (h : rb_cl[ci]? = some q) : ∀ w ∈ u_ws q.1 q.2.1 q.2.2, w ∈ rb_ws := by
  intro w hw
  refine rb_wL_in ?_
  unfold rb_wL
  simp only [List.mem_append]
  rcases rb_cl_cases h with ⟨-, rfl⟩ | ⟨-, rfl⟩ | ⟨-, rfl⟩ | ⟨-, rfl⟩ | ⟨-, rfl⟩ | ⟨-, rfl⟩ | ⟨-, rfl⟩ | ⟨-, rfl⟩
  · exact Or.inl hw
  · exact Or.inr (Or.inl hw)
  · exact Or.inr (Or.inr (Or.inl hw))
  · exact Or.inr (Or.inr (Or.inr (Or.inl hw)))
  · exact Or.inr (Or.inr (Or.inr (Or.inr (Or.inl hw))))
  · exact Or.inr (Or.inr (Or.inr (Or.inr (Or.inr (Or.inl hw)))))
  · exact Or.inr (Or.inr (Or.inr (Or.inr (Or.inr (Or.inr (Or.inl hw))))))
  · exact Or.inr (Or.inr (Or.inr (Or.inr (Or.inr (Or.inr (Or.inr hw))))))
set_option maxRecDepth 100000 in
theorem rb_tt_ok {ci : Nat} {q : vw_C} (h : rb_cl[ci]? = some q) : ∀ k, k < q.2.2 → parseFieldDescriptor (q.2.1 k).2.2.1 = some (rb_tt ci k) := by
  rcases rb_cl_cases h with ⟨rfl, rfl⟩ | ⟨rfl, rfl⟩ | ⟨rfl, rfl⟩ | ⟨rfl, rfl⟩ | ⟨rfl, rfl⟩ | ⟨rfl, rfl⟩ | ⟨rfl, rfl⟩ | ⟨rfl, rfl⟩ <;> decide +kernel
set_option maxRecDepth 100000 in
theorem rb_nm_ok {ci : Nat} {q : vw_C} (h : rb_cl[ci]? = some q) : ∀ a, a < q.2.2 → ∀ b, b < q.2.2 → a ≠ b → (q.2.1 a).2.1 ≠ (q.2.1 b).2.1 := by
  rcases rb_cl_cases h with ⟨rfl, rfl⟩ | ⟨rfl, rfl⟩ | ⟨rfl, rfl⟩ | ⟨rfl, rfl⟩ | ⟨rfl, rfl⟩ | ⟨rfl, rfl⟩ | ⟨rfl, rfl⟩ | ⟨rfl, rfl⟩ <;> decide +kernel
theorem rb_df_len {ci : Nat} {q : vw_C} (h : rb_cl[ci]? = some q) : (rb_df ci).length = q.2.2 := by
  rcases rb_cl_cases h with ⟨rfl, rfl⟩ | ⟨rfl, rfl⟩ | ⟨rfl, rfl⟩ | ⟨rfl, rfl⟩ | ⟨rfl, rfl⟩ | ⟨rfl, rfl⟩ | ⟨rfl, rfl⟩ | ⟨rfl, rfl⟩ <;> rfl
set_option maxRecDepth 100000 in
theorem rb_df_ok {ci : Nat} {q : vw_C} (h : rb_cl[ci]? = some q) : ∀ j, j < q.2.2 → defaultValue (rb_tt ci j) = vp_V (rb_df ci) j := by
  rcases rb_cl_cases h with ⟨rfl, rfl⟩ | ⟨rfl, rfl⟩ | ⟨rfl, rfl⟩ | ⟨rfl, rfl⟩ | ⟨rfl, rfl⟩ | ⟨rfl, rfl⟩ | ⟨rfl, rfl⟩ | ⟨rfl, rfl⟩ <;> decide +kernel
theorem rb_df_rv (ci b : Nat) : (rb_df ci).map (rb_rv b) = rb_df ci := by
  match ci with
  | 0 => rfl
  | 1 => rfl
  | 2 => rfl
  | 3 => rfl
  | 4 => rfl
  | 5 => rfl
  | 6 => rfl
  | 7 => rfl
  | n + 8 => rfl
theorem rb_el_ok {t c : Nat} (h : rb_el t = some c) : ∃ q : vw_C, rb_cl[c]? = some q ∧ t < 7 ∧ rb_aty t = .object q.1 := by
  match t, h with
  | 2, h => cases h; exact ⟨_, rfl, by decide, rfl⟩
  | 3, h => cases h; exact ⟨_, rfl, by decide, rfl⟩
  | 4, h => cases h; exact ⟨_, rfl, by decide, rfl⟩
  | 5, h => cases h; exact ⟨_, rfl, by decide, rfl⟩
  | 0, h => cases h
  | 1, h => cases h
  | n + 6, h => cases h
theorem rb_wX_in {w : Jvm.Cond} (h : w ∈ rb_wX) : w ∈ rb_ws := List.mem_append_right _ (List.mem_append_right _ (List.mem_append_right _ (List.mem_append_right _ (List.mem_append_right _ (List.mem_append_right _ h)))))
theorem rb_oi_inst : Cond.instanceMethod Lib.objectInit ∈ rb_ws := rb_wX_in List.mem_cons_self
theorem rb_oi_code : Cond.code Lib.objectInit ⟨#[0xb1]⟩ 1 none ∈ rb_ws := rb_wX_in (List.mem_cons_of_mem _ List.mem_cons_self)
theorem rb_code_in {a : Nat} (ha : a < rb_nm) : Cond.code (rb_y a) (rb_b a) (rb_ml a) (rb_rt a) ∈ rb_ws := List.mem_append_left _ (List.mem_map.mpr ⟨a, List.mem_range.mpr ha, rfl⟩)
set_option maxRecDepth 100000 in
theorem rb_good0 : (rb_wF.flatten ++ (rb_wM.flatten ++ (rb_wV.flatten ++ (rb_wO ++ (rb_wL ++ rb_wX))))).all goodWord = true := by decide +kernel
theorem rb_ws_good (w : Jvm.Cond) (h : w ∈ rb_ws) : (w.onTables && w.keeps) = true ∨ ∃ ty, w = .arrayClass ty := by
  rcases List.mem_append.mp h with h | h
  · obtain ⟨a, -, rfl⟩ := List.mem_map.mp h
    exact Or.inl rfl
  · exact good_of_word (List.all_eq_true.mp rb_good0 w h)
set_option maxRecDepth 100000 in
theorem rb_plain0 : ∀ k, k < rb_nm → plainName (rb_y k).cls = true := by decide +kernel
theorem rb_plain {k : Nat} (h : k < rb_nm) : plainName (rb_y k).cls = true := rb_plain0 k h
theorem rb_on_ok {k : Nat} (_ : k < rb_nm) : (rb_y k).cls = rb_on k := rfl
