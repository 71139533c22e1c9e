/-! sizes only grow; places behind the size are blank -/
def rb_le (h h' : rb_H) : Prop := h.1 ≤ h'.1 ∧ h.2.1 ≤ h'.2.1 ∧ ((∀ i, h.1 ≤ i → h.2.2 i = rb_blank) → ∀ i, h'.1 ≤ i → h'.2.2 i = rb_blank)
theorem rb_le.rf (h : rb_H) : rb_le h h := ⟨Nat.le_refl _, Nat.le_refl _, fun x => x⟩
theorem rb_le.tr {h h1 h2 : rb_H} (a : rb_le h h1) (b : rb_le h1 h2) : rb_le h h2 := ⟨Nat.le_trans a.1 b.1, Nat.le_trans a.2.1 b.2.1, fun x => b.2.2 (a.2.2 x)⟩
theorem rb_le.st {h : rb_H} {a : Nat} {x y : va_E} (he : h.2.2 a = y) (hy : ¬ y = rb_blank) : rb_le h (h.1, h.2.1, va_up h.2.2 a x) := by
  refine ⟨Nat.le_refl _, Nat.le_refl _, fun hb i hi => ?_⟩
  have hi : h.1 ≤ i := hi
  show va_up h.2.2 a x i = rb_blank
  unfold va_up
  by_cases hia : i = a
  · subst hia
    exact absurd (he.symm.trans (hb i hi)) hy
  · rw [if_neg hia]
    exact hb i hi
theorem rb_le.nw {h : rb_H} {n : Nat} {x : va_E} : rb_le h (h.1 + 1, h.2.1 + n, va_up h.2.2 h.1 x) := by
  refine ⟨Nat.le_succ _, Nat.le_add_right _ _, fun hb i hi => ?_⟩
  have hi : h.1 + 1 ≤ i := hi
  show va_up h.2.2 h.1 x i = rb_blank
  unfold va_up
  rw [if_neg (by omega)]
  exact hb i (by omega)
theorem rb_args_inl {ms n : Nat} {ls st : List Value} {h : rb_H} {x : Nat × List Value × List Value × rb_H} (hs : rb_args ms n ls st h = some (.inl x)) : False := by
  unfold rb_args at hs
  split at hs
  · split at hs
    · split at hs
      · cases hs
      · cases hs
    · cases hs
  · cases hs
theorem rb_argV_inl {ci ms n : Nat} {ls st : List Value} {h : rb_H} {x : Nat × List Value × List Value × rb_H} (hs : rb_argV ci ms n ls st h = some (.inl x)) : False := by
  unfold rb_argV at hs
  split at hs
  · split at hs
    · split at hs
      · exact rb_args_inl hs
      · cases hs
    · cases hs
  · cases hs
theorem rb_neI {t : Nat} {a : vp_A} : ¬ (Sum.inl (t, a) : va_E) = rb_blank := fun h => by unfold rb_blank at h; cases h
set_option maxHeartbeats 4000000 in
theorem rb_step_le {k nx a b : Nat} {al : Bool} {i : Jvm.ClassFile.Instr} {kc : Int32} {ls st : List Value} {h : rb_H} {x : Nat × List Value × List Value × rb_H} (hca : ∀ idx, i = .putfield idx → a < 1000) (hs : rb_step k al i nx a b kc ls st h = some (.inl x)) : rb_le h x.2.2.2 := by
  cases i with
  | iconst n => obtain rfl := rb_go_inv hs; exact rb_le.rf h
  | bipush n => obtain rfl := rb_go_inv hs; exact rb_le.rf h
  | sipush n => obtain rfl := rb_go_inv hs; exact rb_le.rf h
  | aconst_null => obtain rfl := rb_go_inv hs; exact rb_le.rf h
  | goto n => obtain rfl := rb_go_inv hs; exact rb_le.rf h
  | iload j => obtain ⟨_, -, rfl⟩ := rb_ldi_inv hs; exact rb_le.rf h
  | iload_n j => obtain ⟨_, -, rfl⟩ := rb_ldi_inv hs; exact rb_le.rf h
  | aload j => obtain ⟨_, -, -, rfl⟩ := rb_lda_inv hs; exact rb_le.rf h
  | aload_n j => obtain ⟨_, -, -, rfl⟩ := rb_lda_inv hs; exact rb_le.rf h
  | istore j => obtain ⟨_, _, -, -, rfl⟩ := rb_sti_inv hs; exact rb_le.rf h
  | istore_n j => obtain ⟨_, _, -, -, rfl⟩ := rb_sti_inv hs; exact rb_le.rf h
  | astore j => obtain ⟨_, _, -, -, -, rfl⟩ := rb_sta_inv hs; exact rb_le.rf h
  | astore_n j => obtain ⟨_, _, -, -, -, rfl⟩ := rb_sta_inv hs; exact rb_le.rf h
  | iinc j n => obtain ⟨_, -, rfl⟩ := rb_inc_inv hs; exact rb_le.rf h
  | iadd => obtain ⟨_, _, _, -, rfl⟩ := rb_bin_inv hs; exact rb_le.rf h
  | isub => obtain ⟨_, _, _, -, rfl⟩ := rb_bin_inv hs; exact rb_le.rf h
  | imul => obtain ⟨_, _, _, -, rfl⟩ := rb_bin_inv hs; exact rb_le.rf h
  | iand => obtain ⟨_, _, _, -, rfl⟩ := rb_bin_inv hs; exact rb_le.rf h
  | ior => obtain ⟨_, _, _, -, rfl⟩ := rb_bin_inv hs; exact rb_le.rf h
  | ishl => obtain ⟨_, _, _, -, rfl⟩ := rb_bin_inv hs; exact rb_le.rf h
  | ishr => obtain ⟨_, _, _, -, rfl⟩ := rb_bin_inv hs; exact rb_le.rf h
  | idiv => obtain ⟨_, _, _, -, -, rfl⟩ := rb_div_inv hs; exact rb_le.rf h
  | irem => obtain ⟨_, _, _, -, -, rfl⟩ := rb_div_inv hs; exact rb_le.rf h
  | getfield idx => obtain ⟨_, _, _, _, -, -, -, rfl⟩ := rb_get_inv hs; exact rb_le.rf h
  | putfield idx =>
    obtain ⟨_, _, _, _, -, -, he, -, rfl⟩ := rb_put_inv hs
    refine rb_le.st he (fun h9 => ?_)
    unfold rb_blank at h9
    have h8 : a = 1000 := congrArg Prod.fst (Sum.inr.inj h9)
    have h7 := hca _ rfl
    omega
  | iaload => obtain ⟨_, _, _, _, _, -, -, -, rfl⟩ := rb_ald_inv hs; exact rb_le.rf h
  | baload => obtain ⟨_, _, _, _, _, -, -, -, rfl⟩ := rb_ald_inv hs; exact rb_le.rf h
  | iastore => obtain ⟨_, _, _, _, _, _, -, -, he, -, rfl⟩ := rb_ast_inv (t := 0) (ty := .int) (nx := nx) (ls := ls) (st := st) (h := h) (x := x) hs; exact rb_le.st he rb_neI
  | bastore => obtain ⟨_, _, _, _, _, _, -, -, he, -, rfl⟩ := rb_ast_inv hs; exact rb_le.st he rb_neI
  | aaload => obtain ⟨_, _, _, _, _, _, -, -, -, -, -, rfl⟩ := rb_rald_inv hs; exact rb_le.rf h
  | aastore => obtain ⟨_, _, _, _, _, _, _, _, _, -, he, -, -, -, rfl⟩ := rb_rast_inv hs; exact rb_le.st he rb_neI
  | arraylength => obtain ⟨_, _, _, _, _, -, -, -, rfl⟩ := rb_len_inv hs; exact rb_le.rf h
  | new idx =>
    simp only [rb_step] at hs
    split at hs
    · obtain rfl := rb_go_inv hs; exact rb_le.nw
    · cases hs
  | newarray t =>
    simp only [rb_step] at hs
    split at hs
    · obtain ⟨_, _, -, -, -, rfl⟩ := rb_nwa_inv hs; exact rb_le.nw
    · cases hs
  | anewarray idx =>
    simp only [rb_step] at hs
    split at hs
    · obtain ⟨_, _, -, -, -, rfl⟩ := rb_nwr_inv hs; exact rb_le.nw
    · cases hs
  | multianewarray idx n =>
    simp only [rb_step] at hs
    split at hs
    · obtain ⟨n1, n2, _, -, -, -, -, -, rfl⟩ := rb_nw2_inv hs
      refine ⟨by show h.1 ≤ h.1 + 1 + n1.toNatClampNeg; omega, by show h.2.1 ≤ h.2.1 + n1.toNatClampNeg + n1.toNatClampNeg * n2.toNatClampNeg; omega, fun hb j hj => ?_⟩
      have hj : h.1 + 1 + n1.toNatClampNeg ≤ j := hj
      show (if j < h.1 then _ else if j = h.1 then _ else if j < h.1 + 1 + n1.toNatClampNeg then _ else rb_blank) = rb_blank
      rw [if_neg (by omega), if_neg (by omega), if_neg (by omega)]
    · cases hs
  | if_icmp c o =>
    simp only [rb_step] at hs
    split at hs
    · rcases rb_br_inv hs with ⟨-, rfl⟩ | ⟨-, rfl⟩ <;> exact rb_le.rf h
    · cases hs
  | ifCond c o =>
    simp only [rb_step] at hs
    split at hs
    · rcases rb_br_inv hs with ⟨-, rfl⟩ | ⟨-, rfl⟩ <;> exact rb_le.rf h
    · cases hs
  | ifnull o =>
    simp only [rb_step] at hs
    split at hs
    · obtain rfl := rb_go_inv hs; exact rb_le.rf h
    · obtain rfl := rb_go_inv hs; exact rb_le.rf h
    · cases hs
  | ifnonnull o =>
    simp only [rb_step] at hs
    split at hs
    · obtain rfl := rb_go_inv hs; exact rb_le.rf h
    · obtain rfl := rb_go_inv hs; exact rb_le.rf h
    · cases hs
  | tableswitch d lo hi os =>
    simp only [rb_step] at hs
    split at hs
    · obtain rfl := rb_go_inv hs; exact rb_le.rf h
    · cases hs
  | lookupswitch d ps =>
    simp only [rb_step] at hs
    split at hs
    · obtain rfl := rb_go_inv hs; exact rb_le.rf h
    · cases hs
  | dup =>
    simp only [rb_step] at hs
    split at hs
    · split at hs
      · obtain rfl := rb_go_inv hs; exact rb_le.rf h
      · cases hs
    · cases hs
  | pop =>
    simp only [rb_step] at hs
    split at hs
    · split at hs
      · obtain rfl := rb_go_inv hs; exact rb_le.rf h
      · cases hs
    · cases hs
  | dup_x1 =>
    simp only [rb_step] at hs
    split at hs
    · split at hs
      · obtain rfl := rb_go_inv hs; exact rb_le.rf h
      · cases hs
    · cases hs
  | dup_x2 =>
    simp only [rb_step] at hs
    split at hs
    · split at hs
      · obtain rfl := rb_go_inv hs; exact rb_le.rf h
      · cases hs
    · cases hs
  | dup2 =>
    simp only [rb_step] at hs
    split at hs
    · split at hs
      · obtain rfl := rb_go_inv hs; exact rb_le.rf h
      · cases hs
    · cases hs
  | invokestatic idx => exact (rb_args_inl (ms := a) (n := b) (ls := ls) (st := st) (h := h) (x := x) hs).elim
  | invokevirtual idx => exact (rb_argV_inl hs).elim
  | invokespecial idx =>
    simp only [rb_step] at hs
    split at hs
    · split at hs
      · split at hs
        · split at hs
          · obtain rfl := rb_go_inv hs; exact rb_le.rf h
          · cases hs
        · cases hs
      · cases hs
    · split at hs
      · cases hs
      · split at hs
        · exact (rb_args_inl hs).elim
        · cases hs
  | ireturn =>
    simp only [rb_step] at hs
    split at hs
    · split at hs
      · split at hs
        · cases hs
        · cases hs
      · cases hs
    · cases hs
  | areturn =>
    simp only [rb_step] at hs
    split at hs
    · split at hs
      · cases hs
      · cases hs
    · split at hs
      · cases hs
      · cases hs
    · cases hs
  | return_ =>
    simp only [rb_step] at hs
    split at hs
    · cases hs
    · cases hs
  | _ => cases hs
