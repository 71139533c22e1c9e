/-! the eighteen cases of the law -/
/-- what stands at the head of the law's loop -/
def lw_In (D : va_G) (cA : Nat → ClassId) (s : State) (hC hR : rb_H) (H : Heap) (locs : List Loc) : Prop := va_P D rb_cl (rb_w s.heap.size cA hC) H ∧ va_P D rb_cl (rb_w (s.heap.size + 166) cA hR) H ∧ va_S (fun q => s.heap.size ≤ q) s.heap H locs ∧ (hC.1 = 166 ∧ hC.2.1 = 1286 ∧ (∀ i, hC.1 ≤ i → hC.2.2 i = rb_blank) ∧ ∃ fs, hC.2.2 0 = .inr (0, fs)) ∧ hR.1 = 55 ∧ hR.2.1 = 1603 ∧ (∀ i, hR.1 ≤ i → hR.2.2 i = rb_blank) ∧ ∃ fs, hR.2.2 0 = .inr (7, fs)
theorem lw_D {b : Nat} {cA : Nat → ClassId} {h : rb_H} {sz : Nat} (hb : sz ≤ b) : va_D (fun q => sz ≤ q) (rb_w b cA h) := by
  have key : ∀ (k : Nat) (q : Nat × va_E), (rb_w b cA h)[k]? = some q → q.1 = b + k := by
    intro k q hq
    have hk : k < h.1 := by
      have := (List.getElem?_eq_some_iff.mp hq).1
      rw [rb_w_len] at this
      exact this
    rw [rb_w_get hk] at hq
    rw [← Option.some.inj hq]
  refine ⟨fun i j x y hx hy hxy => ?_, fun k q hq => ?_⟩
  · have h1 := key i x hx
    have h2 := key j y hy
    omega
  · have h1 := key k q hq
    omega
/-- two worlds apart: what one call leaves of the other's -/
theorem lw_apart {D : va_G} {cA : Nat → ClassId} {b1 b2 : Nat} {h g : rb_H} {H H1 : Heap} (hg : va_P D rb_cl (rb_w b2 cA g) H) (hap : b1 + h.1 ≤ b2 ∨ b2 + g.1 ≤ b1) (hk : ∀ q, q < H.size → ¬ va_A (rb_w b1 cA h) H.size q → H1[q]? = H[q]?) : va_P D rb_cl (rb_w b2 cA g) H1 := by
  refine hg.kept (fun k q hq => ?_)
  have hkl : k < g.1 := by
    have := (List.getElem?_eq_some_iff.mp hq).1
    rw [rb_w_len] at this
    exact this
  have hlt := (hg k q hq).lt
  have hq1 : q.1 = b2 + k := by
    rw [rb_w_get hkl] at hq
    rw [← Option.some.inj hq]
  refine hk q.1 hlt (fun hA => ?_)
  rcases hA with ⟨i, e9, hi⟩ | h9
  · have hil : i < h.1 := by
      have := (List.getElem?_eq_some_iff.mp hi).1
      rw [rb_w_len] at this
      exact this
    rw [rb_w_get hil] at hi
    have h8 : b1 + i = q.1 := congrArg Prod.fst (Option.some.inj hi)
    omega
  · omega
section LWK
variable {p : Program} {l : Launch} {e : Env} {s : State} {m : MethodId} {below : List Frame} {meth : Method} {c : Code} {H : Heap} {locs : List Loc} {Q : State → Prop} {b L : Nat} {xs : Nat → Int32} {D : va_G} {cA : Nat → ClassId} {hC hR : rb_H} {arr : Array Slot} {i : Int32}
set_option maxHeartbeats 4000000 in
set_option maxRecDepth 100000 in
theorem lw_case0 (S : CallFix p m c code 4 s #[Value.ref b] lw_tbl R_law) (hX : va_X b L xs s s.heap) (hbl : b < s.heap.size) (hK : va_K D rb_cl (rb_tys cA) s) (hl : lv_has arr 4 [(3, .int i), (2, .ref (s.heap.size + 166)), (1, .ref s.heap.size), (0, .ref b)]) (hI : lw_In D cA s hC hR H locs) (h1 : vp_in (i + 1) L) (h2 : vp_in (i + 2) L) {r : Int32} {hC' hR' : rb_H} (hc : rb_rel false 8 1 [.ref 0, .int (xs (i + 1).toNatClampNeg), .int (xs (i + 2).toNatClampNeg)] hC (some (.int r)) hC') (hr : rb_rel false 8 69 [.ref 0, .int (xs (i + 1).toNatClampNeg), .int (xs (i + 2).toNatClampNeg)] hR (some (.int r)) hR')
    (sC : hC'.1 = 166 ∧ hC'.2.1 = 1286 ∧ (∀ i, hC'.1 ≤ i → hC'.2.2 i = rb_blank) ∧ ∃ fs, hC'.2.2 0 = .inr (0, fs)) (sR : hR'.1 = 55 ∧ hR'.2.1 = 1603 ∧ (∀ i, hR'.1 ≤ i → hR'.2.2 i = rb_blank) ∧ ∃ fs, hR'.2.2 0 = .inr (7, fs))
    (kk : ∀ (H1 : Heap) (locs1 : List Loc), lw_In D cA s hC' hR' H1 locs1 → W p l e room_1 s m #[Value.ref b] below meth c H1 locs1 221 2889 Q (F0 m 664 arr [])) : W p l e room_1 s m #[Value.ref b] below meth c H locs 221 2889 Q (F0 m 120 arr []) := by
  obtain ⟨hx, hb, hml, hown, hts⟩ := S
  obtain ⟨hP1, hP2, hS, ⟨z1, z2, z3, fC, z4⟩, y1, y2, y3, fR, y4⟩ := hI
  have hbA : ¬ s.heap.size ≤ b := Nat.not_le.mpr hbl
  refine lv_aload_n hx hb (lw_d rfl) rfl (lv_at hl 2 rfl) ?_
  refine lv_aload_n hx hb (lw_d rfl) rfl (lv_at hl 3 rfl) ?_
  refine lv_iload_n hx hb (lw_d rfl) rfl (lv_at hl 0 rfl) ?_
  refine lv_iconst (v := 1) hx hb (lw_d rfl) (by decide) ?_
  refine lv_iadd hx hb (lw_d rfl) ?_
  refine va_sld (A := fun q => s.heap.size ≤ q) hx hb hX hbl hbA hS h1 (lw_d rfl) ?_
  refine lv_aload_n hx hb (lw_d rfl) rfl (lv_at hl 3 rfl) ?_
  refine lv_iload_n hx hb (lw_d rfl) rfl (lv_at hl 0 rfl) ?_
  refine lv_iconst (v := 2) hx hb (lw_d rfl) (by decide) ?_
  refine lv_iadd hx hb (lw_d rfl) ?_
  refine va_sld (A := fun q => s.heap.size ≤ q) hx hb hX hbl hbA hS h2 (lw_d rfl) ?_
  refine lw_call (k := 1) (np := 2) (as := [.int (xs (i + 1).toNatClampNeg), .int (xs (i + 2).toNatClampNeg)]) (rest := []) (bb := s.heap.size) (A := fun q => s.heap.size ≤ q) ⟨hx, hb, hml, hown, hts⟩ hl.1 (lw_d rfl) (by decide) rfl rfl lw_m1 lw_n1 lw_s1 lw_iC ⟨by decide +kernel, by decide +kernel, by decide +kernel⟩ rfl (by decide) z4 hc ⟨sC.1.trans z1.symm, sC.2.1.trans z2.symm⟩ z3 hK hP1 (lw_D (Nat.le_refl _)) hS (fun q h9 => h9) (by decide) ⟨by decide, by decide⟩ (fun H1 locs1 hP1 hD1 hS hk1 hz1 => ?_)
  have hP2 := lw_apart hP2 (Or.inl (by rw [z1]; exact Nat.le_refl _)) hk1
  refine lv_aload_n hx hb (lw_d rfl) rfl (lv_at hl 1 rfl) ?_
  refine lv_aload_n hx hb (lw_d rfl) rfl (lv_at hl 3 rfl) ?_
  refine lv_iload_n hx hb (lw_d rfl) rfl (lv_at hl 0 rfl) ?_
  refine lv_iconst (v := 1) hx hb (lw_d rfl) (by decide) ?_
  refine lv_iadd hx hb (lw_d rfl) ?_
  refine va_sld (A := fun q => s.heap.size ≤ q) hx hb hX hbl hbA hS h1 (lw_d rfl) ?_
  refine lv_aload_n hx hb (lw_d rfl) rfl (lv_at hl 3 rfl) ?_
  refine lv_iload_n hx hb (lw_d rfl) rfl (lv_at hl 0 rfl) ?_
  refine lv_iconst (v := 2) hx hb (lw_d rfl) (by decide) ?_
  refine lv_iadd hx hb (lw_d rfl) ?_
  refine va_sld (A := fun q => s.heap.size ≤ q) hx hb hX hbl hbA hS h2 (lw_d rfl) ?_
  refine lw_call (k := 69) (np := 2) (as := [.int (xs (i + 1).toNatClampNeg), .int (xs (i + 2).toNatClampNeg)]) (rest := [.int r]) (bb := s.heap.size + 166) (A := fun q => s.heap.size ≤ q) ⟨hx, hb, hml, hown, hts⟩ hl.1 (lw_d rfl) (by decide) rfl rfl lw_m69 lw_n69 lw_s69 lw_iR ⟨by decide +kernel, by decide +kernel, by decide +kernel⟩ rfl (by decide) y4 hr ⟨sR.1.trans y1.symm, sR.2.1.trans y2.symm⟩ y3 hK hP2 (lw_D (Nat.le_add_right _ _)) hS (fun q h9 => h9) (Nat.le_of_ble_eq_true rfl) ⟨by decide, by decide⟩ (fun H2 locs2 hP2 hD2 hS hk2 hz2 => ?_)
  have hP1 := lw_apart hP1 (Or.inr (by rw [sC.1]; exact Nat.le_refl _)) hk2
  exact lv_icmp_eq hx hb (lw_d rfl) (tgt := 664) (by decide) (fun _ => kk H2 locs2 ⟨hP1, hP2, hS, sC, sR⟩) (fun h9 => absurd rfl h9)
set_option maxHeartbeats 4000000 in
set_option maxRecDepth 100000 in
theorem lw_case1 (S : CallFix p m c code 4 s #[Value.ref b] lw_tbl R_law) (hX : va_X b L xs s s.heap) (hbl : b < s.heap.size) (hK : va_K D rb_cl (rb_tys cA) s) (hl : lv_has arr 4 [(3, .int i), (2, .ref (s.heap.size + 166)), (1, .ref s.heap.size), (0, .ref b)]) (hI : lw_In D cA s hC hR H locs) (h1 : vp_in (i + 1) L) (h2 : vp_in (i + 2) L) (h3 : vp_in (i + 3) L) {r : Int32} {hC' hR' : rb_H} (hc : rb_rel false 8 2 [.ref 0, .int (xs (i + 1).toNatClampNeg), .int (xs (i + 2).toNatClampNeg), .int (xs (i + 3).toNatClampNeg)] hC (some (.int r)) hC') (hr : rb_rel false 8 70 [.ref 0, .int (xs (i + 1).toNatClampNeg), .int (xs (i + 2).toNatClampNeg), .int (xs (i + 3).toNatClampNeg)] hR (some (.int r)) hR')
    (sC : hC'.1 = 166 ∧ hC'.2.1 = 1286 ∧ (∀ i, hC'.1 ≤ i → hC'.2.2 i = rb_blank) ∧ ∃ fs, hC'.2.2 0 = .inr (0, fs)) (sR : hR'.1 = 55 ∧ hR'.2.1 = 1603 ∧ (∀ i, hR'.1 ≤ i → hR'.2.2 i = rb_blank) ∧ ∃ fs, hR'.2.2 0 = .inr (7, fs))
    (kk : ∀ (H1 : Heap) (locs1 : List Loc), lw_In D cA s hC' hR' H1 locs1 → W p l e room_1 s m #[Value.ref b] below meth c H1 locs1 221 2889 Q (F0 m 664 arr [])) : W p l e room_1 s m #[Value.ref b] below meth c H locs 221 2889 Q (F0 m 153 arr []) := by
  obtain ⟨hx, hb, hml, hown, hts⟩ := S
  obtain ⟨hP1, hP2, hS, ⟨z1, z2, z3, fC, z4⟩, y1, y2, y3, fR, y4⟩ := hI
  have hbA : ¬ s.heap.size ≤ b := Nat.not_le.mpr hbl
  refine lv_aload_n hx hb (lw_d rfl) rfl (lv_at hl 2 rfl) ?_
  refine lv_aload_n hx hb (lw_d rfl) rfl (lv_at hl 3 rfl) ?_
  refine lv_iload_n hx hb (lw_d rfl) rfl (lv_at hl 0 rfl) ?_
  refine lv_iconst (v := 1) hx hb (lw_d rfl) (by decide) ?_
  refine lv_iadd hx hb (lw_d rfl) ?_
  refine va_sld (A := fun q => s.heap.size ≤ q) hx hb hX hbl hbA hS h1 (lw_d rfl) ?_
  refine lv_aload_n hx hb (lw_d rfl) rfl (lv_at hl 3 rfl) ?_
  refine lv_iload_n hx hb (lw_d rfl) rfl (lv_at hl 0 rfl) ?_
  refine lv_iconst (v := 2) hx hb (lw_d rfl) (by decide) ?_
  refine lv_iadd hx hb (lw_d rfl) ?_
  refine va_sld (A := fun q => s.heap.size ≤ q) hx hb hX hbl hbA hS h2 (lw_d rfl) ?_
  refine lv_aload_n hx hb (lw_d rfl) rfl (lv_at hl 3 rfl) ?_
  refine lv_iload_n hx hb (lw_d rfl) rfl (lv_at hl 0 rfl) ?_
  refine lv_iconst (v := 3) hx hb (lw_d rfl) (by decide) ?_
  refine lv_iadd hx hb (lw_d rfl) ?_
  refine va_sld (A := fun q => s.heap.size ≤ q) hx hb hX hbl hbA hS h3 (lw_d rfl) ?_
  refine lw_call (k := 2) (np := 3) (as := [.int (xs (i + 1).toNatClampNeg), .int (xs (i + 2).toNatClampNeg), .int (xs (i + 3).toNatClampNeg)]) (rest := []) (bb := s.heap.size) (A := fun q => s.heap.size ≤ q) ⟨hx, hb, hml, hown, hts⟩ hl.1 (lw_d rfl) (by decide) rfl rfl lw_m2 lw_n2 lw_s2 lw_iC ⟨by decide +kernel, by decide +kernel, by decide +kernel⟩ rfl (by decide) z4 hc ⟨sC.1.trans z1.symm, sC.2.1.trans z2.symm⟩ z3 hK hP1 (lw_D (Nat.le_refl _)) hS (fun q h9 => h9) (by decide) ⟨by decide, by decide⟩ (fun H1 locs1 hP1 hD1 hS hk1 hz1 => ?_)
  have hP2 := lw_apart hP2 (Or.inl (by rw [z1]; exact Nat.le_refl _)) hk1
  refine lv_aload_n hx hb (lw_d rfl) rfl (lv_at hl 1 rfl) ?_
  refine lv_aload_n hx hb (lw_d rfl) rfl (lv_at hl 3 rfl) ?_
  refine lv_iload_n hx hb (lw_d rfl) rfl (lv_at hl 0 rfl) ?_
  refine lv_iconst (v := 1) hx hb (lw_d rfl) (by decide) ?_
  refine lv_iadd hx hb (lw_d rfl) ?_
  refine va_sld (A := fun q => s.heap.size ≤ q) hx hb hX hbl hbA hS h1 (lw_d rfl) ?_
  refine lv_aload_n hx hb (lw_d rfl) rfl (lv_at hl 3 rfl) ?_
  refine lv_iload_n hx hb (lw_d rfl) rfl (lv_at hl 0 rfl) ?_
  refine lv_iconst (v := 2) hx hb (lw_d rfl) (by decide) ?_
  refine lv_iadd hx hb (lw_d rfl) ?_
  refine va_sld (A := fun q => s.heap.size ≤ q) hx hb hX hbl hbA hS h2 (lw_d rfl) ?_
  refine lv_aload_n hx hb (lw_d rfl) rfl (lv_at hl 3 rfl) ?_
  refine lv_iload_n hx hb (lw_d rfl) rfl (lv_at hl 0 rfl) ?_
  refine lv_iconst (v := 3) hx hb (lw_d rfl) (by decide) ?_
  refine lv_iadd hx hb (lw_d rfl) ?_
  refine va_sld (A := fun q => s.heap.size ≤ q) hx hb hX hbl hbA hS h3 (lw_d rfl) ?_
  refine lw_call (k := 70) (np := 3) (as := [.int (xs (i + 1).toNatClampNeg), .int (xs (i + 2).toNatClampNeg), .int (xs (i + 3).toNatClampNeg)]) (rest := [.int r]) (bb := s.heap.size + 166) (A := fun q => s.heap.size ≤ q) ⟨hx, hb, hml, hown, hts⟩ hl.1 (lw_d rfl) (by decide) rfl rfl lw_m70 lw_n70 lw_s70 lw_iR ⟨by decide +kernel, by decide +kernel, by decide +kernel⟩ rfl (by decide) y4 hr ⟨sR.1.trans y1.symm, sR.2.1.trans y2.symm⟩ y3 hK hP2 (lw_D (Nat.le_add_right _ _)) hS (fun q h9 => h9) (Nat.le_of_ble_eq_true rfl) ⟨by decide, by decide⟩ (fun H2 locs2 hP2 hD2 hS hk2 hz2 => ?_)
  have hP1 := lw_apart hP1 (Or.inr (by rw [sC.1]; exact Nat.le_refl _)) hk2
  exact lv_icmp_eq hx hb (lw_d rfl) (tgt := 664) (by decide) (fun _ => kk H2 locs2 ⟨hP1, hP2, hS, sC, sR⟩) (fun h9 => absurd rfl h9)
set_option maxHeartbeats 4000000 in
set_option maxRecDepth 100000 in
theorem lw_case2 (S : CallFix p m c code 4 s #[Value.ref b] lw_tbl R_law) (hX : va_X b L xs s s.heap) (hbl : b < s.heap.size) (hK : va_K D rb_cl (rb_tys cA) s) (hl : lv_has arr 4 [(3, .int i), (2, .ref (s.heap.size + 166)), (1, .ref s.heap.size), (0, .ref b)]) (hI : lw_In D cA s hC hR H locs) (h1 : vp_in (i + 1) L) {r : Int32} {hC' hR' : rb_H} (hc : rb_rel false 8 3 [.ref 0, .int (xs (i + 1).toNatClampNeg)] hC (some (.int r)) hC') (hr : rb_rel false 8 72 [.ref 0, .int (xs (i + 1).toNatClampNeg)] hR (some (.int r)) hR')
    (sC : hC'.1 = 166 ∧ hC'.2.1 = 1286 ∧ (∀ i, hC'.1 ≤ i → hC'.2.2 i = rb_blank) ∧ ∃ fs, hC'.2.2 0 = .inr (0, fs)) (sR : hR'.1 = 55 ∧ hR'.2.1 = 1603 ∧ (∀ i, hR'.1 ≤ i → hR'.2.2 i = rb_blank) ∧ ∃ fs, hR'.2.2 0 = .inr (7, fs))
    (kk : ∀ (H1 : Heap) (locs1 : List Loc), lw_In D cA s hC' hR' H1 locs1 → W p l e room_1 s m #[Value.ref b] below meth c H1 locs1 221 2889 Q (F0 m 664 arr [])) : W p l e room_1 s m #[Value.ref b] below meth c H locs 221 2889 Q (F0 m 196 arr []) := by
  obtain ⟨hx, hb, hml, hown, hts⟩ := S
  obtain ⟨hP1, hP2, hS, ⟨z1, z2, z3, fC, z4⟩, y1, y2, y3, fR, y4⟩ := hI
  have hbA : ¬ s.heap.size ≤ b := Nat.not_le.mpr hbl
  refine lv_aload_n hx hb (lw_d rfl) rfl (lv_at hl 2 rfl) ?_
  refine lv_aload_n hx hb (lw_d rfl) rfl (lv_at hl 3 rfl) ?_
  refine lv_iload_n hx hb (lw_d rfl) rfl (lv_at hl 0 rfl) ?_
  refine lv_iconst (v := 1) hx hb (lw_d rfl) (by decide) ?_
  refine lv_iadd hx hb (lw_d rfl) ?_
  refine va_sld (A := fun q => s.heap.size ≤ q) hx hb hX hbl hbA hS h1 (lw_d rfl) ?_
  refine lw_call (k := 3) (np := 1) (as := [.int (xs (i + 1).toNatClampNeg)]) (rest := []) (bb := s.heap.size) (A := fun q => s.heap.size ≤ q) ⟨hx, hb, hml, hown, hts⟩ hl.1 (lw_d rfl) (by decide) rfl rfl lw_m3 lw_n3 lw_s3 lw_iC ⟨by decide +kernel, by decide +kernel, by decide +kernel⟩ rfl (by decide) z4 hc ⟨sC.1.trans z1.symm, sC.2.1.trans z2.symm⟩ z3 hK hP1 (lw_D (Nat.le_refl _)) hS (fun q h9 => h9) (by decide) ⟨by decide, by decide⟩ (fun H1 locs1 hP1 hD1 hS hk1 hz1 => ?_)
  have hP2 := lw_apart hP2 (Or.inl (by rw [z1]; exact Nat.le_refl _)) hk1
  refine lv_aload_n hx hb (lw_d rfl) rfl (lv_at hl 1 rfl) ?_
  refine lv_aload_n hx hb (lw_d rfl) rfl (lv_at hl 3 rfl) ?_
  refine lv_iload_n hx hb (lw_d rfl) rfl (lv_at hl 0 rfl) ?_
  refine lv_iconst (v := 1) hx hb (lw_d rfl) (by decide) ?_
  refine lv_iadd hx hb (lw_d rfl) ?_
  refine va_sld (A := fun q => s.heap.size ≤ q) hx hb hX hbl hbA hS h1 (lw_d rfl) ?_
  refine lw_call (k := 72) (np := 1) (as := [.int (xs (i + 1).toNatClampNeg)]) (rest := [.int r]) (bb := s.heap.size + 166) (A := fun q => s.heap.size ≤ q) ⟨hx, hb, hml, hown, hts⟩ hl.1 (lw_d rfl) (by decide) rfl rfl lw_m72 lw_n72 lw_s72 lw_iR ⟨by decide +kernel, by decide +kernel, by decide +kernel⟩ rfl (by decide) y4 hr ⟨sR.1.trans y1.symm, sR.2.1.trans y2.symm⟩ y3 hK hP2 (lw_D (Nat.le_add_right _ _)) hS (fun q h9 => h9) (Nat.le_of_ble_eq_true rfl) ⟨by decide, by decide⟩ (fun H2 locs2 hP2 hD2 hS hk2 hz2 => ?_)
  have hP1 := lw_apart hP1 (Or.inr (by rw [sC.1]; exact Nat.le_refl _)) hk2
  exact lv_icmp_eq hx hb (lw_d rfl) (tgt := 664) (by decide) (fun _ => kk H2 locs2 ⟨hP1, hP2, hS, sC, sR⟩) (fun h9 => absurd rfl h9)
set_option maxHeartbeats 4000000 in
set_option maxRecDepth 100000 in
theorem lw_case3 (S : CallFix p m c code 4 s #[Value.ref b] lw_tbl R_law) (hX : va_X b L xs s s.heap) (hbl : b < s.heap.size) (hK : va_K D rb_cl (rb_tys cA) s) (hl : lv_has arr 4 [(3, .int i), (2, .ref (s.heap.size + 166)), (1, .ref s.heap.size), (0, .ref b)]) (hI : lw_In D cA s hC hR H locs) (h1 : vp_in (i + 1) L) {r : Int32} {hC' hR' : rb_H} (hc : rb_rel false 8 4 [.ref 0, .int (xs (i + 1).toNatClampNeg)] hC (some (.int r)) hC') (hr : rb_rel false 8 73 [.ref 0, .int (xs (i + 1).toNatClampNeg)] hR (some (.int r)) hR')
    (sC : hC'.1 = 166 ∧ hC'.2.1 = 1286 ∧ (∀ i, hC'.1 ≤ i → hC'.2.2 i = rb_blank) ∧ ∃ fs, hC'.2.2 0 = .inr (0, fs)) (sR : hR'.1 = 55 ∧ hR'.2.1 = 1603 ∧ (∀ i, hR'.1 ≤ i → hR'.2.2 i = rb_blank) ∧ ∃ fs, hR'.2.2 0 = .inr (7, fs))
    (kk : ∀ (H1 : Heap) (locs1 : List Loc), lw_In D cA s hC' hR' H1 locs1 → W p l e room_1 s m #[Value.ref b] below meth c H1 locs1 221 2889 Q (F0 m 664 arr [])) : W p l e room_1 s m #[Value.ref b] below meth c H locs 221 2889 Q (F0 m 219 arr []) := by
  obtain ⟨hx, hb, hml, hown, hts⟩ := S
  obtain ⟨hP1, hP2, hS, ⟨z1, z2, z3, fC, z4⟩, y1, y2, y3, fR, y4⟩ := hI
  have hbA : ¬ s.heap.size ≤ b := Nat.not_le.mpr hbl
  refine lv_aload_n hx hb (lw_d rfl) rfl (lv_at hl 2 rfl) ?_
  refine lv_aload_n hx hb (lw_d rfl) rfl (lv_at hl 3 rfl) ?_
  refine lv_iload_n hx hb (lw_d rfl) rfl (lv_at hl 0 rfl) ?_
  refine lv_iconst (v := 1) hx hb (lw_d rfl) (by decide) ?_
  refine lv_iadd hx hb (lw_d rfl) ?_
  refine va_sld (A := fun q => s.heap.size ≤ q) hx hb hX hbl hbA hS h1 (lw_d rfl) ?_
  refine lw_call (k := 4) (np := 1) (as := [.int (xs (i + 1).toNatClampNeg)]) (rest := []) (bb := s.heap.size) (A := fun q => s.heap.size ≤ q) ⟨hx, hb, hml, hown, hts⟩ hl.1 (lw_d rfl) (by decide) rfl rfl lw_m4 lw_n4 lw_s4 lw_iC ⟨by decide +kernel, by decide +kernel, by decide +kernel⟩ rfl (by decide) z4 hc ⟨sC.1.trans z1.symm, sC.2.1.trans z2.symm⟩ z3 hK hP1 (lw_D (Nat.le_refl _)) hS (fun q h9 => h9) (by decide) ⟨by decide, by decide⟩ (fun H1 locs1 hP1 hD1 hS hk1 hz1 => ?_)
  have hP2 := lw_apart hP2 (Or.inl (by rw [z1]; exact Nat.le_refl _)) hk1
  refine lv_aload_n hx hb (lw_d rfl) rfl (lv_at hl 1 rfl) ?_
  refine lv_aload_n hx hb (lw_d rfl) rfl (lv_at hl 3 rfl) ?_
  refine lv_iload_n hx hb (lw_d rfl) rfl (lv_at hl 0 rfl) ?_
  refine lv_iconst (v := 1) hx hb (lw_d rfl) (by decide) ?_
  refine lv_iadd hx hb (lw_d rfl) ?_
  refine va_sld (A := fun q => s.heap.size ≤ q) hx hb hX hbl hbA hS h1 (lw_d rfl) ?_
  refine lw_call (k := 73) (np := 1) (as := [.int (xs (i + 1).toNatClampNeg)]) (rest := [.int r]) (bb := s.heap.size + 166) (A := fun q => s.heap.size ≤ q) ⟨hx, hb, hml, hown, hts⟩ hl.1 (lw_d rfl) (by decide) rfl rfl lw_m73 lw_n73 lw_s73 lw_iR ⟨by decide +kernel, by decide +kernel, by decide +kernel⟩ rfl (by decide) y4 hr ⟨sR.1.trans y1.symm, sR.2.1.trans y2.symm⟩ y3 hK hP2 (lw_D (Nat.le_add_right _ _)) hS (fun q h9 => h9) (Nat.le_of_ble_eq_true rfl) ⟨by decide, by decide⟩ (fun H2 locs2 hP2 hD2 hS hk2 hz2 => ?_)
  have hP1 := lw_apart hP1 (Or.inr (by rw [sC.1]; exact Nat.le_refl _)) hk2
  exact lv_icmp_eq hx hb (lw_d rfl) (tgt := 664) (by decide) (fun _ => kk H2 locs2 ⟨hP1, hP2, hS, sC, sR⟩) (fun h9 => absurd rfl h9)
set_option maxHeartbeats 4000000 in
set_option maxRecDepth 100000 in
theorem lw_case4 (S : CallFix p m c code 4 s #[Value.ref b] lw_tbl R_law) (hX : va_X b L xs s s.heap) (hbl : b < s.heap.size) (hK : va_K D rb_cl (rb_tys cA) s) (hl : lv_has arr 4 [(3, .int i), (2, .ref (s.heap.size + 166)), (1, .ref s.heap.size), (0, .ref b)]) (hI : lw_In D cA s hC hR H locs) (h1 : vp_in (i + 1) L) (h2 : vp_in (i + 2) L) {r : Int32} {hC' hR' : rb_H} (hc : rb_rel false 8 5 [.ref 0, .int (xs (i + 1).toNatClampNeg), .int (xs (i + 2).toNatClampNeg)] hC (some (.int r)) hC') (hr : rb_rel false 8 74 [.ref 0, .int (xs (i + 1).toNatClampNeg), .int (xs (i + 2).toNatClampNeg)] hR (some (.int r)) hR')
    (sC : hC'.1 = 166 ∧ hC'.2.1 = 1286 ∧ (∀ i, hC'.1 ≤ i → hC'.2.2 i = rb_blank) ∧ ∃ fs, hC'.2.2 0 = .inr (0, fs)) (sR : hR'.1 = 55 ∧ hR'.2.1 = 1603 ∧ (∀ i, hR'.1 ≤ i → hR'.2.2 i = rb_blank) ∧ ∃ fs, hR'.2.2 0 = .inr (7, fs))
    (kk : ∀ (H1 : Heap) (locs1 : List Loc), lw_In D cA s hC' hR' H1 locs1 → W p l e room_1 s m #[Value.ref b] below meth c H1 locs1 221 2889 Q (F0 m 664 arr [])) : W p l e room_1 s m #[Value.ref b] below meth c H locs 221 2889 Q (F0 m 242 arr []) := by
  obtain ⟨hx, hb, hml, hown, hts⟩ := S
  obtain ⟨hP1, hP2, hS, ⟨z1, z2, z3, fC, z4⟩, y1, y2, y3, fR, y4⟩ := hI
  have hbA : ¬ s.heap.size ≤ b := Nat.not_le.mpr hbl
  refine lv_aload_n hx hb (lw_d rfl) rfl (lv_at hl 2 rfl) ?_
  refine lv_aload_n hx hb (lw_d rfl) rfl (lv_at hl 3 rfl) ?_
  refine lv_iload_n hx hb (lw_d rfl) rfl (lv_at hl 0 rfl) ?_
  refine lv_iconst (v := 1) hx hb (lw_d rfl) (by decide) ?_
  refine lv_iadd hx hb (lw_d rfl) ?_
  refine va_sld (A := fun q => s.heap.size ≤ q) hx hb hX hbl hbA hS h1 (lw_d rfl) ?_
  refine lv_aload_n hx hb (lw_d rfl) rfl (lv_at hl 3 rfl) ?_
  refine lv_iload_n hx hb (lw_d rfl) rfl (lv_at hl 0 rfl) ?_
  refine lv_iconst (v := 2) hx hb (lw_d rfl) (by decide) ?_
  refine lv_iadd hx hb (lw_d rfl) ?_
  refine va_sld (A := fun q => s.heap.size ≤ q) hx hb hX hbl hbA hS h2 (lw_d rfl) ?_
  refine lw_call (k := 5) (np := 2) (as := [.int (xs (i + 1).toNatClampNeg), .int (xs (i + 2).toNatClampNeg)]) (rest := []) (bb := s.heap.size) (A := fun q => s.heap.size ≤ q) ⟨hx, hb, hml, hown, hts⟩ hl.1 (lw_d rfl) (by decide) rfl rfl lw_m5 lw_n5 lw_s5 lw_iC ⟨by decide +kernel, by decide +kernel, by decide +kernel⟩ rfl (by decide) z4 hc ⟨sC.1.trans z1.symm, sC.2.1.trans z2.symm⟩ z3 hK hP1 (lw_D (Nat.le_refl _)) hS (fun q h9 => h9) (by decide) ⟨by decide, by decide⟩ (fun H1 locs1 hP1 hD1 hS hk1 hz1 => ?_)
  have hP2 := lw_apart hP2 (Or.inl (by rw [z1]; exact Nat.le_refl _)) hk1
  refine lv_aload_n hx hb (lw_d rfl) rfl (lv_at hl 1 rfl) ?_
  refine lv_aload_n hx hb (lw_d rfl) rfl (lv_at hl 3 rfl) ?_
  refine lv_iload_n hx hb (lw_d rfl) rfl (lv_at hl 0 rfl) ?_
  refine lv_iconst (v := 1) hx hb (lw_d rfl) (by decide) ?_
  refine lv_iadd hx hb (lw_d rfl) ?_
  refine va_sld (A := fun q => s.heap.size ≤ q) hx hb hX hbl hbA hS h1 (lw_d rfl) ?_
  refine lv_aload_n hx hb (lw_d rfl) rfl (lv_at hl 3 rfl) ?_
  refine lv_iload_n hx hb (lw_d rfl) rfl (lv_at hl 0 rfl) ?_
  refine lv_iconst (v := 2) hx hb (lw_d rfl) (by decide) ?_
  refine lv_iadd hx hb (lw_d rfl) ?_
  refine va_sld (A := fun q => s.heap.size ≤ q) hx hb hX hbl hbA hS h2 (lw_d rfl) ?_
  refine lw_call (k := 74) (np := 2) (as := [.int (xs (i + 1).toNatClampNeg), .int (xs (i + 2).toNatClampNeg)]) (rest := [.int r]) (bb := s.heap.size + 166) (A := fun q => s.heap.size ≤ q) ⟨hx, hb, hml, hown, hts⟩ hl.1 (lw_d rfl) (by decide) rfl rfl lw_m74 lw_n74 lw_s74 lw_iR ⟨by decide +kernel, by decide +kernel, by decide +kernel⟩ rfl (by decide) y4 hr ⟨sR.1.trans y1.symm, sR.2.1.trans y2.symm⟩ y3 hK hP2 (lw_D (Nat.le_add_right _ _)) hS (fun q h9 => h9) (Nat.le_of_ble_eq_true rfl) ⟨by decide, by decide⟩ (fun H2 locs2 hP2 hD2 hS hk2 hz2 => ?_)
  have hP1 := lw_apart hP1 (Or.inr (by rw [sC.1]; exact Nat.le_refl _)) hk2
  exact lv_icmp_eq hx hb (lw_d rfl) (tgt := 664) (by decide) (fun _ => kk H2 locs2 ⟨hP1, hP2, hS, sC, sR⟩) (fun h9 => absurd rfl h9)
set_option maxHeartbeats 4000000 in
set_option maxRecDepth 100000 in
theorem lw_case5 (S : CallFix p m c code 4 s #[Value.ref b] lw_tbl R_law) (hX : va_X b L xs s s.heap) (hbl : b < s.heap.size) (hK : va_K D rb_cl (rb_tys cA) s) (hl : lv_has arr 4 [(3, .int i), (2, .ref (s.heap.size + 166)), (1, .ref s.heap.size), (0, .ref b)]) (hI : lw_In D cA s hC hR H locs) (h1 : vp_in (i + 1) L) (h2 : vp_in (i + 2) L) {r : Int32} {hC' hR' : rb_H} (hc : rb_rel false 8 6 [.ref 0, .int (xs (i + 1).toNatClampNeg), .int (xs (i + 2).toNatClampNeg)] hC (some (.int r)) hC') (hr : rb_rel false 8 75 [.ref 0, .int (xs (i + 1).toNatClampNeg), .int (xs (i + 2).toNatClampNeg)] hR (some (.int r)) hR')
    (sC : hC'.1 = 166 ∧ hC'.2.1 = 1286 ∧ (∀ i, hC'.1 ≤ i → hC'.2.2 i = rb_blank) ∧ ∃ fs, hC'.2.2 0 = .inr (0, fs)) (sR : hR'.1 = 55 ∧ hR'.2.1 = 1603 ∧ (∀ i, hR'.1 ≤ i → hR'.2.2 i = rb_blank) ∧ ∃ fs, hR'.2.2 0 = .inr (7, fs))
    (kk : ∀ (H1 : Heap) (locs1 : List Loc), lw_In D cA s hC' hR' H1 locs1 → W p l e room_1 s m #[Value.ref b] below meth c H1 locs1 221 2889 Q (F0 m 664 arr [])) : W p l e room_1 s m #[Value.ref b] below meth c H locs 221 2889 Q (F0 m 275 arr []) := by
  obtain ⟨hx, hb, hml, hown, hts⟩ := S
  obtain ⟨hP1, hP2, hS, ⟨z1, z2, z3, fC, z4⟩, y1, y2, y3, fR, y4⟩ := hI
  have hbA : ¬ s.heap.size ≤ b := Nat.not_le.mpr hbl
  refine lv_aload_n hx hb (lw_d rfl) rfl (lv_at hl 2 rfl) ?_
  refine lv_aload_n hx hb (lw_d rfl) rfl (lv_at hl 3 rfl) ?_
  refine lv_iload_n hx hb (lw_d rfl) rfl (lv_at hl 0 rfl) ?_
  refine lv_iconst (v := 1) hx hb (lw_d rfl) (by decide) ?_
  refine lv_iadd hx hb (lw_d rfl) ?_
  refine va_sld (A := fun q => s.heap.size ≤ q) hx hb hX hbl hbA hS h1 (lw_d rfl) ?_
  refine lv_aload_n hx hb (lw_d rfl) rfl (lv_at hl 3 rfl) ?_
  refine lv_iload_n hx hb (lw_d rfl) rfl (lv_at hl 0 rfl) ?_
  refine lv_iconst (v := 2) hx hb (lw_d rfl) (by decide) ?_
  refine lv_iadd hx hb (lw_d rfl) ?_
  refine va_sld (A := fun q => s.heap.size ≤ q) hx hb hX hbl hbA hS h2 (lw_d rfl) ?_
  refine lw_call (k := 6) (np := 2) (as := [.int (xs (i + 1).toNatClampNeg), .int (xs (i + 2).toNatClampNeg)]) (rest := []) (bb := s.heap.size) (A := fun q => s.heap.size ≤ q) ⟨hx, hb, hml, hown, hts⟩ hl.1 (lw_d rfl) (by decide) rfl rfl lw_m6 lw_n6 lw_s6 lw_iC ⟨by decide +kernel, by decide +kernel, by decide +kernel⟩ rfl (by decide) z4 hc ⟨sC.1.trans z1.symm, sC.2.1.trans z2.symm⟩ z3 hK hP1 (lw_D (Nat.le_refl _)) hS (fun q h9 => h9) (by decide) ⟨by decide, by decide⟩ (fun H1 locs1 hP1 hD1 hS hk1 hz1 => ?_)
  have hP2 := lw_apart hP2 (Or.inl (by rw [z1]; exact Nat.le_refl _)) hk1
  refine lv_aload_n hx hb (lw_d rfl) rfl (lv_at hl 1 rfl) ?_
  refine lv_aload_n hx hb (lw_d rfl) rfl (lv_at hl 3 rfl) ?_
  refine lv_iload_n hx hb (lw_d rfl) rfl (lv_at hl 0 rfl) ?_
  refine lv_iconst (v := 1) hx hb (lw_d rfl) (by decide) ?_
  refine lv_iadd hx hb (lw_d rfl) ?_
  refine va_sld (A := fun q => s.heap.size ≤ q) hx hb hX hbl hbA hS h1 (lw_d rfl) ?_
  refine lv_aload_n hx hb (lw_d rfl) rfl (lv_at hl 3 rfl) ?_
  refine lv_iload_n hx hb (lw_d rfl) rfl (lv_at hl 0 rfl) ?_
  refine lv_iconst (v := 2) hx hb (lw_d rfl) (by decide) ?_
  refine lv_iadd hx hb (lw_d rfl) ?_
  refine va_sld (A := fun q => s.heap.size ≤ q) hx hb hX hbl hbA hS h2 (lw_d rfl) ?_
  refine lw_call (k := 75) (np := 2) (as := [.int (xs (i + 1).toNatClampNeg), .int (xs (i + 2).toNatClampNeg)]) (rest := [.int r]) (bb := s.heap.size + 166) (A := fun q => s.heap.size ≤ q) ⟨hx, hb, hml, hown, hts⟩ hl.1 (lw_d rfl) (by decide) rfl rfl lw_m75 lw_n75 lw_s75 lw_iR ⟨by decide +kernel, by decide +kernel, by decide +kernel⟩ rfl (by decide) y4 hr ⟨sR.1.trans y1.symm, sR.2.1.trans y2.symm⟩ y3 hK hP2 (lw_D (Nat.le_add_right _ _)) hS (fun q h9 => h9) (Nat.le_of_ble_eq_true rfl) ⟨by decide, by decide⟩ (fun H2 locs2 hP2 hD2 hS hk2 hz2 => ?_)
  have hP1 := lw_apart hP1 (Or.inr (by rw [sC.1]; exact Nat.le_refl _)) hk2
  exact lv_icmp_eq hx hb (lw_d rfl) (tgt := 664) (by decide) (fun _ => kk H2 locs2 ⟨hP1, hP2, hS, sC, sR⟩) (fun h9 => absurd rfl h9)
set_option maxHeartbeats 4000000 in
set_option maxRecDepth 100000 in
theorem lw_case6 (S : CallFix p m c code 4 s #[Value.ref b] lw_tbl R_law) (hX : va_X b L xs s s.heap) (hbl : b < s.heap.size) (hK : va_K D rb_cl (rb_tys cA) s) (hl : lv_has arr 4 [(3, .int i), (2, .ref (s.heap.size + 166)), (1, .ref s.heap.size), (0, .ref b)]) (hI : lw_In D cA s hC hR H locs) (h1 : vp_in (i + 1) L) (h2 : vp_in (i + 2) L) {r : Int32} {hC' hR' : rb_H} (hc : rb_rel false 8 7 [.ref 0, .int (xs (i + 1).toNatClampNeg), .int (xs (i + 2).toNatClampNeg)] hC (some (.int r)) hC') (hr : rb_rel false 8 76 [.ref 0, .int (xs (i + 1).toNatClampNeg), .int (xs (i + 2).toNatClampNeg)] hR (some (.int r)) hR')
    (sC : hC'.1 = 166 ∧ hC'.2.1 = 1286 ∧ (∀ i, hC'.1 ≤ i → hC'.2.2 i = rb_blank) ∧ ∃ fs, hC'.2.2 0 = .inr (0, fs)) (sR : hR'.1 = 55 ∧ hR'.2.1 = 1603 ∧ (∀ i, hR'.1 ≤ i → hR'.2.2 i = rb_blank) ∧ ∃ fs, hR'.2.2 0 = .inr (7, fs))
    (kk : ∀ (H1 : Heap) (locs1 : List Loc), lw_In D cA s hC' hR' H1 locs1 → W p l e room_1 s m #[Value.ref b] below meth c H1 locs1 221 2889 Q (F0 m 664 arr [])) : W p l e room_1 s m #[Value.ref b] below meth c H locs 221 2889 Q (F0 m 308 arr []) := by
  obtain ⟨hx, hb, hml, hown, hts⟩ := S
  obtain ⟨hP1, hP2, hS, ⟨z1, z2, z3, fC, z4⟩, y1, y2, y3, fR, y4⟩ := hI
  have hbA : ¬ s.heap.size ≤ b := Nat.not_le.mpr hbl
  refine lv_aload_n hx hb (lw_d rfl) rfl (lv_at hl 2 rfl) ?_
  refine lv_aload_n hx hb (lw_d rfl) rfl (lv_at hl 3 rfl) ?_
  refine lv_iload_n hx hb (lw_d rfl) rfl (lv_at hl 0 rfl) ?_
  refine lv_iconst (v := 1) hx hb (lw_d rfl) (by decide) ?_
  refine lv_iadd hx hb (lw_d rfl) ?_
  refine va_sld (A := fun q => s.heap.size ≤ q) hx hb hX hbl hbA hS h1 (lw_d rfl) ?_
  refine lv_aload_n hx hb (lw_d rfl) rfl (lv_at hl 3 rfl) ?_
  refine lv_iload_n hx hb (lw_d rfl) rfl (lv_at hl 0 rfl) ?_
  refine lv_iconst (v := 2) hx hb (lw_d rfl) (by decide) ?_
  refine lv_iadd hx hb (lw_d rfl) ?_
  refine va_sld (A := fun q => s.heap.size ≤ q) hx hb hX hbl hbA hS h2 (lw_d rfl) ?_
  refine lw_call (k := 7) (np := 2) (as := [.int (xs (i + 1).toNatClampNeg), .int (xs (i + 2).toNatClampNeg)]) (rest := []) (bb := s.heap.size) (A := fun q => s.heap.size ≤ q) ⟨hx, hb, hml, hown, hts⟩ hl.1 (lw_d rfl) (by decide) rfl rfl lw_m7 lw_n7 lw_s7 lw_iC ⟨by decide +kernel, by decide +kernel, by decide +kernel⟩ rfl (by decide) z4 hc ⟨sC.1.trans z1.symm, sC.2.1.trans z2.symm⟩ z3 hK hP1 (lw_D (Nat.le_refl _)) hS (fun q h9 => h9) (by decide) ⟨by decide, by decide⟩ (fun H1 locs1 hP1 hD1 hS hk1 hz1 => ?_)
  have hP2 := lw_apart hP2 (Or.inl (by rw [z1]; exact Nat.le_refl _)) hk1
  refine lv_aload_n hx hb (lw_d rfl) rfl (lv_at hl 1 rfl) ?_
  refine lv_aload_n hx hb (lw_d rfl) rfl (lv_at hl 3 rfl) ?_
  refine lv_iload_n hx hb (lw_d rfl) rfl (lv_at hl 0 rfl) ?_
  refine lv_iconst (v := 1) hx hb (lw_d rfl) (by decide) ?_
  refine lv_iadd hx hb (lw_d rfl) ?_
  refine va_sld (A := fun q => s.heap.size ≤ q) hx hb hX hbl hbA hS h1 (lw_d rfl) ?_
  refine lv_aload_n hx hb (lw_d rfl) rfl (lv_at hl 3 rfl) ?_
  refine lv_iload_n hx hb (lw_d rfl) rfl (lv_at hl 0 rfl) ?_
  refine lv_iconst (v := 2) hx hb (lw_d rfl) (by decide) ?_
  refine lv_iadd hx hb (lw_d rfl) ?_
  refine va_sld (A := fun q => s.heap.size ≤ q) hx hb hX hbl hbA hS h2 (lw_d rfl) ?_
  refine lw_call (k := 76) (np := 2) (as := [.int (xs (i + 1).toNatClampNeg), .int (xs (i + 2).toNatClampNeg)]) (rest := [.int r]) (bb := s.heap.size + 166) (A := fun q => s.heap.size ≤ q) ⟨hx, hb, hml, hown, hts⟩ hl.1 (lw_d rfl) (by decide) rfl rfl lw_m76 lw_n76 lw_s76 lw_iR ⟨by decide +kernel, by decide +kernel, by decide +kernel⟩ rfl (by decide) y4 hr ⟨sR.1.trans y1.symm, sR.2.1.trans y2.symm⟩ y3 hK hP2 (lw_D (Nat.le_add_right _ _)) hS (fun q h9 => h9) (Nat.le_of_ble_eq_true rfl) ⟨by decide, by decide⟩ (fun H2 locs2 hP2 hD2 hS hk2 hz2 => ?_)
  have hP1 := lw_apart hP1 (Or.inr (by rw [sC.1]; exact Nat.le_refl _)) hk2
  exact lv_icmp_eq hx hb (lw_d rfl) (tgt := 664) (by decide) (fun _ => kk H2 locs2 ⟨hP1, hP2, hS, sC, sR⟩) (fun h9 => absurd rfl h9)
set_option maxHeartbeats 4000000 in
set_option maxRecDepth 100000 in
theorem lw_case7 (S : CallFix p m c code 4 s #[Value.ref b] lw_tbl R_law) (hX : va_X b L xs s s.heap) (hbl : b < s.heap.size) (hK : va_K D rb_cl (rb_tys cA) s) (hl : lv_has arr 4 [(3, .int i), (2, .ref (s.heap.size + 166)), (1, .ref s.heap.size), (0, .ref b)]) (hI : lw_In D cA s hC hR H locs) (h1 : vp_in (i + 1) L) (h2 : vp_in (i + 2) L) (h3 : vp_in (i + 3) L) {r : Int32} {hC' hR' : rb_H} (hc : rb_rel false 8 8 [.ref 0, .int (xs (i + 1).toNatClampNeg), .int (xs (i + 2).toNatClampNeg), .int (xs (i + 3).toNatClampNeg)] hC (some (.int r)) hC') (hr : rb_rel false 8 77 [.ref 0, .int (xs (i + 1).toNatClampNeg), .int (xs (i + 2).toNatClampNeg), .int (xs (i + 3).toNatClampNeg)] hR (some (.int r)) hR')
    (sC : hC'.1 = 166 ∧ hC'.2.1 = 1286 ∧ (∀ i, hC'.1 ≤ i → hC'.2.2 i = rb_blank) ∧ ∃ fs, hC'.2.2 0 = .inr (0, fs)) (sR : hR'.1 = 55 ∧ hR'.2.1 = 1603 ∧ (∀ i, hR'.1 ≤ i → hR'.2.2 i = rb_blank) ∧ ∃ fs, hR'.2.2 0 = .inr (7, fs))
    (kk : ∀ (H1 : Heap) (locs1 : List Loc), lw_In D cA s hC' hR' H1 locs1 → W p l e room_1 s m #[Value.ref b] below meth c H1 locs1 221 2889 Q (F0 m 664 arr [])) : W p l e room_1 s m #[Value.ref b] below meth c H locs 221 2889 Q (F0 m 341 arr []) := by
  obtain ⟨hx, hb, hml, hown, hts⟩ := S
  obtain ⟨hP1, hP2, hS, ⟨z1, z2, z3, fC, z4⟩, y1, y2, y3, fR, y4⟩ := hI
  have hbA : ¬ s.heap.size ≤ b := Nat.not_le.mpr hbl
  refine lv_aload_n hx hb (lw_d rfl) rfl (lv_at hl 2 rfl) ?_
  refine lv_aload_n hx hb (lw_d rfl) rfl (lv_at hl 3 rfl) ?_
  refine lv_iload_n hx hb (lw_d rfl) rfl (lv_at hl 0 rfl) ?_
  refine lv_iconst (v := 1) hx hb (lw_d rfl) (by decide) ?_
  refine lv_iadd hx hb (lw_d rfl) ?_
  refine va_sld (A := fun q => s.heap.size ≤ q) hx hb hX hbl hbA hS h1 (lw_d rfl) ?_
  refine lv_aload_n hx hb (lw_d rfl) rfl (lv_at hl 3 rfl) ?_
  refine lv_iload_n hx hb (lw_d rfl) rfl (lv_at hl 0 rfl) ?_
  refine lv_iconst (v := 2) hx hb (lw_d rfl) (by decide) ?_
  refine lv_iadd hx hb (lw_d rfl) ?_
  refine va_sld (A := fun q => s.heap.size ≤ q) hx hb hX hbl hbA hS h2 (lw_d rfl) ?_
  refine lv_aload_n hx hb (lw_d rfl) rfl (lv_at hl 3 rfl) ?_
  refine lv_iload_n hx hb (lw_d rfl) rfl (lv_at hl 0 rfl) ?_
  refine lv_iconst (v := 3) hx hb (lw_d rfl) (by decide) ?_
  refine lv_iadd hx hb (lw_d rfl) ?_
  refine va_sld (A := fun q => s.heap.size ≤ q) hx hb hX hbl hbA hS h3 (lw_d rfl) ?_
  refine lw_call (k := 8) (np := 3) (as := [.int (xs (i + 1).toNatClampNeg), .int (xs (i + 2).toNatClampNeg), .int (xs (i + 3).toNatClampNeg)]) (rest := []) (bb := s.heap.size) (A := fun q => s.heap.size ≤ q) ⟨hx, hb, hml, hown, hts⟩ hl.1 (lw_d rfl) (by decide) rfl rfl lw_m8 lw_n8 lw_s8 lw_iC ⟨by decide +kernel, by decide +kernel, by decide +kernel⟩ rfl (by decide) z4 hc ⟨sC.1.trans z1.symm, sC.2.1.trans z2.symm⟩ z3 hK hP1 (lw_D (Nat.le_refl _)) hS (fun q h9 => h9) (by decide) ⟨by decide, by decide⟩ (fun H1 locs1 hP1 hD1 hS hk1 hz1 => ?_)
  have hP2 := lw_apart hP2 (Or.inl (by rw [z1]; exact Nat.le_refl _)) hk1
  refine lv_aload_n hx hb (lw_d rfl) rfl (lv_at hl 1 rfl) ?_
  refine lv_aload_n hx hb (lw_d rfl) rfl (lv_at hl 3 rfl) ?_
  refine lv_iload_n hx hb (lw_d rfl) rfl (lv_at hl 0 rfl) ?_
  refine lv_iconst (v := 1) hx hb (lw_d rfl) (by decide) ?_
  refine lv_iadd hx hb (lw_d rfl) ?_
  refine va_sld (A := fun q => s.heap.size ≤ q) hx hb hX hbl hbA hS h1 (lw_d rfl) ?_
  refine lv_aload_n hx hb (lw_d rfl) rfl (lv_at hl 3 rfl) ?_
  refine lv_iload_n hx hb (lw_d rfl) rfl (lv_at hl 0 rfl) ?_
  refine lv_iconst (v := 2) hx hb (lw_d rfl) (by decide) ?_
  refine lv_iadd hx hb (lw_d rfl) ?_
  refine va_sld (A := fun q => s.heap.size ≤ q) hx hb hX hbl hbA hS h2 (lw_d rfl) ?_
  refine lv_aload_n hx hb (lw_d rfl) rfl (lv_at hl 3 rfl) ?_
  refine lv_iload_n hx hb (lw_d rfl) rfl (lv_at hl 0 rfl) ?_
  refine lv_iconst (v := 3) hx hb (lw_d rfl) (by decide) ?_
  refine lv_iadd hx hb (lw_d rfl) ?_
  refine va_sld (A := fun q => s.heap.size ≤ q) hx hb hX hbl hbA hS h3 (lw_d rfl) ?_
  refine lw_call (k := 77) (np := 3) (as := [.int (xs (i + 1).toNatClampNeg), .int (xs (i + 2).toNatClampNeg), .int (xs (i + 3).toNatClampNeg)]) (rest := [.int r]) (bb := s.heap.size + 166) (A := fun q => s.heap.size ≤ q) ⟨hx, hb, hml, hown, hts⟩ hl.1 (lw_d rfl) (by decide) rfl rfl lw_m77 lw_n77 lw_s77 lw_iR ⟨by decide +kernel, by decide +kernel, by decide +kernel⟩ rfl (by decide) y4 hr ⟨sR.1.trans y1.symm, sR.2.1.trans y2.symm⟩ y3 hK hP2 (lw_D (Nat.le_add_right _ _)) hS (fun q h9 => h9) (Nat.le_of_ble_eq_true rfl) ⟨by decide, by decide⟩ (fun H2 locs2 hP2 hD2 hS hk2 hz2 => ?_)
  have hP1 := lw_apart hP1 (Or.inr (by rw [sC.1]; exact Nat.le_refl _)) hk2
  exact lv_icmp_eq hx hb (lw_d rfl) (tgt := 664) (by decide) (fun _ => kk H2 locs2 ⟨hP1, hP2, hS, sC, sR⟩) (fun h9 => absurd rfl h9)
set_option maxHeartbeats 4000000 in
set_option maxRecDepth 100000 in
theorem lw_case8 (S : CallFix p m c code 4 s #[Value.ref b] lw_tbl R_law) (hX : va_X b L xs s s.heap) (hbl : b < s.heap.size) (hK : va_K D rb_cl (rb_tys cA) s) (hl : lv_has arr 4 [(3, .int i), (2, .ref (s.heap.size + 166)), (1, .ref s.heap.size), (0, .ref b)]) (hI : lw_In D cA s hC hR H locs) (h1 : vp_in (i + 1) L) {r : Int32} {hC' hR' : rb_H} (hc : rb_rel false 8 9 [.ref 0, .int (xs (i + 1).toNatClampNeg)] hC (some (.int r)) hC') (hr : rb_rel false 8 79 [.ref 0, .int (xs (i + 1).toNatClampNeg)] hR (some (.int r)) hR')
    (sC : hC'.1 = 166 ∧ hC'.2.1 = 1286 ∧ (∀ i, hC'.1 ≤ i → hC'.2.2 i = rb_blank) ∧ ∃ fs, hC'.2.2 0 = .inr (0, fs)) (sR : hR'.1 = 55 ∧ hR'.2.1 = 1603 ∧ (∀ i, hR'.1 ≤ i → hR'.2.2 i = rb_blank) ∧ ∃ fs, hR'.2.2 0 = .inr (7, fs))
    (kk : ∀ (H1 : Heap) (locs1 : List Loc), lw_In D cA s hC' hR' H1 locs1 → W p l e room_1 s m #[Value.ref b] below meth c H1 locs1 221 2889 Q (F0 m 664 arr [])) : W p l e room_1 s m #[Value.ref b] below meth c H locs 221 2889 Q (F0 m 384 arr []) := by
  obtain ⟨hx, hb, hml, hown, hts⟩ := S
  obtain ⟨hP1, hP2, hS, ⟨z1, z2, z3, fC, z4⟩, y1, y2, y3, fR, y4⟩ := hI
  have hbA : ¬ s.heap.size ≤ b := Nat.not_le.mpr hbl
  refine lv_aload_n hx hb (lw_d rfl) rfl (lv_at hl 2 rfl) ?_
  refine lv_aload_n hx hb (lw_d rfl) rfl (lv_at hl 3 rfl) ?_
  refine lv_iload_n hx hb (lw_d rfl) rfl (lv_at hl 0 rfl) ?_
  refine lv_iconst (v := 1) hx hb (lw_d rfl) (by decide) ?_
  refine lv_iadd hx hb (lw_d rfl) ?_
  refine va_sld (A := fun q => s.heap.size ≤ q) hx hb hX hbl hbA hS h1 (lw_d rfl) ?_
  refine lw_call (k := 9) (np := 1) (as := [.int (xs (i + 1).toNatClampNeg)]) (rest := []) (bb := s.heap.size) (A := fun q => s.heap.size ≤ q) ⟨hx, hb, hml, hown, hts⟩ hl.1 (lw_d rfl) (by decide) rfl rfl lw_m9 lw_n9 lw_s9 lw_iC ⟨by decide +kernel, by decide +kernel, by decide +kernel⟩ rfl (by decide) z4 hc ⟨sC.1.trans z1.symm, sC.2.1.trans z2.symm⟩ z3 hK hP1 (lw_D (Nat.le_refl _)) hS (fun q h9 => h9) (by decide) ⟨by decide, by decide⟩ (fun H1 locs1 hP1 hD1 hS hk1 hz1 => ?_)
  have hP2 := lw_apart hP2 (Or.inl (by rw [z1]; exact Nat.le_refl _)) hk1
  refine lv_aload_n hx hb (lw_d rfl) rfl (lv_at hl 1 rfl) ?_
  refine lv_aload_n hx hb (lw_d rfl) rfl (lv_at hl 3 rfl) ?_
  refine lv_iload_n hx hb (lw_d rfl) rfl (lv_at hl 0 rfl) ?_
  refine lv_iconst (v := 1) hx hb (lw_d rfl) (by decide) ?_
  refine lv_iadd hx hb (lw_d rfl) ?_
  refine va_sld (A := fun q => s.heap.size ≤ q) hx hb hX hbl hbA hS h1 (lw_d rfl) ?_
  refine lw_call (k := 79) (np := 1) (as := [.int (xs (i + 1).toNatClampNeg)]) (rest := [.int r]) (bb := s.heap.size + 166) (A := fun q => s.heap.size ≤ q) ⟨hx, hb, hml, hown, hts⟩ hl.1 (lw_d rfl) (by decide) rfl rfl lw_m79 lw_n79 lw_s79 lw_iR ⟨by decide +kernel, by decide +kernel, by decide +kernel⟩ rfl (by decide) y4 hr ⟨sR.1.trans y1.symm, sR.2.1.trans y2.symm⟩ y3 hK hP2 (lw_D (Nat.le_add_right _ _)) hS (fun q h9 => h9) (Nat.le_of_ble_eq_true rfl) ⟨by decide, by decide⟩ (fun H2 locs2 hP2 hD2 hS hk2 hz2 => ?_)
  have hP1 := lw_apart hP1 (Or.inr (by rw [sC.1]; exact Nat.le_refl _)) hk2
  exact lv_icmp_eq hx hb (lw_d rfl) (tgt := 664) (by decide) (fun _ => kk H2 locs2 ⟨hP1, hP2, hS, sC, sR⟩) (fun h9 => absurd rfl h9)
set_option maxHeartbeats 4000000 in
set_option maxRecDepth 100000 in
theorem lw_case9 (S : CallFix p m c code 4 s #[Value.ref b] lw_tbl R_law) (hX : va_X b L xs s s.heap) (hbl : b < s.heap.size) (hK : va_K D rb_cl (rb_tys cA) s) (hl : lv_has arr 4 [(3, .int i), (2, .ref (s.heap.size + 166)), (1, .ref s.heap.size), (0, .ref b)]) (hI : lw_In D cA s hC hR H locs) (h1 : vp_in (i + 1) L) (h2 : vp_in (i + 2) L) {r : Int32} {hC' hR' : rb_H} (hc : rb_rel false 8 10 [.ref 0, .int (xs (i + 1).toNatClampNeg), .int (xs (i + 2).toNatClampNeg)] hC (some (.int r)) hC') (hr : rb_rel false 8 80 [.ref 0, .int (xs (i + 1).toNatClampNeg), .int (xs (i + 2).toNatClampNeg)] hR (some (.int r)) hR')
    (sC : hC'.1 = 166 ∧ hC'.2.1 = 1286 ∧ (∀ i, hC'.1 ≤ i → hC'.2.2 i = rb_blank) ∧ ∃ fs, hC'.2.2 0 = .inr (0, fs)) (sR : hR'.1 = 55 ∧ hR'.2.1 = 1603 ∧ (∀ i, hR'.1 ≤ i → hR'.2.2 i = rb_blank) ∧ ∃ fs, hR'.2.2 0 = .inr (7, fs))
    (kk : ∀ (H1 : Heap) (locs1 : List Loc), lw_In D cA s hC' hR' H1 locs1 → W p l e room_1 s m #[Value.ref b] below meth c H1 locs1 221 2889 Q (F0 m 664 arr [])) : W p l e room_1 s m #[Value.ref b] below meth c H locs 221 2889 Q (F0 m 407 arr []) := by
  obtain ⟨hx, hb, hml, hown, hts⟩ := S
  obtain ⟨hP1, hP2, hS, ⟨z1, z2, z3, fC, z4⟩, y1, y2, y3, fR, y4⟩ := hI
  have hbA : ¬ s.heap.size ≤ b := Nat.not_le.mpr hbl
  refine lv_aload_n hx hb (lw_d rfl) rfl (lv_at hl 2 rfl) ?_
  refine lv_aload_n hx hb (lw_d rfl) rfl (lv_at hl 3 rfl) ?_
  refine lv_iload_n hx hb (lw_d rfl) rfl (lv_at hl 0 rfl) ?_
  refine lv_iconst (v := 1) hx hb (lw_d rfl) (by decide) ?_
  refine lv_iadd hx hb (lw_d rfl) ?_
  refine va_sld (A := fun q => s.heap.size ≤ q) hx hb hX hbl hbA hS h1 (lw_d rfl) ?_
  refine lv_aload_n hx hb (lw_d rfl) rfl (lv_at hl 3 rfl) ?_
  refine lv_iload_n hx hb (lw_d rfl) rfl (lv_at hl 0 rfl) ?_
  refine lv_iconst (v := 2) hx hb (lw_d rfl) (by decide) ?_
  refine lv_iadd hx hb (lw_d rfl) ?_
  refine va_sld (A := fun q => s.heap.size ≤ q) hx hb hX hbl hbA hS h2 (lw_d rfl) ?_
  refine lw_call (k := 10) (np := 2) (as := [.int (xs (i + 1).toNatClampNeg), .int (xs (i + 2).toNatClampNeg)]) (rest := []) (bb := s.heap.size) (A := fun q => s.heap.size ≤ q) ⟨hx, hb, hml, hown, hts⟩ hl.1 (lw_d rfl) (by decide) rfl rfl lw_m10 lw_n10 lw_s10 lw_iC ⟨by decide +kernel, by decide +kernel, by decide +kernel⟩ rfl (by decide) z4 hc ⟨sC.1.trans z1.symm, sC.2.1.trans z2.symm⟩ z3 hK hP1 (lw_D (Nat.le_refl _)) hS (fun q h9 => h9) (by decide) ⟨by decide, by decide⟩ (fun H1 locs1 hP1 hD1 hS hk1 hz1 => ?_)
  have hP2 := lw_apart hP2 (Or.inl (by rw [z1]; exact Nat.le_refl _)) hk1
  refine lv_aload_n hx hb (lw_d rfl) rfl (lv_at hl 1 rfl) ?_
  refine lv_aload_n hx hb (lw_d rfl) rfl (lv_at hl 3 rfl) ?_
  refine lv_iload_n hx hb (lw_d rfl) rfl (lv_at hl 0 rfl) ?_
  refine lv_iconst (v := 1) hx hb (lw_d rfl) (by decide) ?_
  refine lv_iadd hx hb (lw_d rfl) ?_
  refine va_sld (A := fun q => s.heap.size ≤ q) hx hb hX hbl hbA hS h1 (lw_d rfl) ?_
  refine lv_aload_n hx hb (lw_d rfl) rfl (lv_at hl 3 rfl) ?_
  refine lv_iload_n hx hb (lw_d rfl) rfl (lv_at hl 0 rfl) ?_
  refine lv_iconst (v := 2) hx hb (lw_d rfl) (by decide) ?_
  refine lv_iadd hx hb (lw_d rfl) ?_
  refine va_sld (A := fun q => s.heap.size ≤ q) hx hb hX hbl hbA hS h2 (lw_d rfl) ?_
  refine lw_call (k := 80) (np := 2) (as := [.int (xs (i + 1).toNatClampNeg), .int (xs (i + 2).toNatClampNeg)]) (rest := [.int r]) (bb := s.heap.size + 166) (A := fun q => s.heap.size ≤ q) ⟨hx, hb, hml, hown, hts⟩ hl.1 (lw_d rfl) (by decide) rfl rfl lw_m80 lw_n80 lw_s80 lw_iR ⟨by decide +kernel, by decide +kernel, by decide +kernel⟩ rfl (by decide) y4 hr ⟨sR.1.trans y1.symm, sR.2.1.trans y2.symm⟩ y3 hK hP2 (lw_D (Nat.le_add_right _ _)) hS (fun q h9 => h9) (Nat.le_of_ble_eq_true rfl) ⟨by decide, by decide⟩ (fun H2 locs2 hP2 hD2 hS hk2 hz2 => ?_)
  have hP1 := lw_apart hP1 (Or.inr (by rw [sC.1]; exact Nat.le_refl _)) hk2
  exact lv_icmp_eq hx hb (lw_d rfl) (tgt := 664) (by decide) (fun _ => kk H2 locs2 ⟨hP1, hP2, hS, sC, sR⟩) (fun h9 => absurd rfl h9)
set_option maxHeartbeats 4000000 in
set_option maxRecDepth 100000 in
theorem lw_case10 (S : CallFix p m c code 4 s #[Value.ref b] lw_tbl R_law) (hX : va_X b L xs s s.heap) (hbl : b < s.heap.size) (hK : va_K D rb_cl (rb_tys cA) s) (hl : lv_has arr 4 [(3, .int i), (2, .ref (s.heap.size + 166)), (1, .ref s.heap.size), (0, .ref b)]) (hI : lw_In D cA s hC hR H locs) (h1 : vp_in (i + 1) L) {r : Int32} {hC' hR' : rb_H} (hc : rb_rel false 8 11 [.ref 0, .int (xs (i + 1).toNatClampNeg)] hC (some (.int r)) hC') (hr : rb_rel false 8 81 [.ref 0, .int (xs (i + 1).toNatClampNeg)] hR (some (.int r)) hR')
    (sC : hC'.1 = 166 ∧ hC'.2.1 = 1286 ∧ (∀ i, hC'.1 ≤ i → hC'.2.2 i = rb_blank) ∧ ∃ fs, hC'.2.2 0 = .inr (0, fs)) (sR : hR'.1 = 55 ∧ hR'.2.1 = 1603 ∧ (∀ i, hR'.1 ≤ i → hR'.2.2 i = rb_blank) ∧ ∃ fs, hR'.2.2 0 = .inr (7, fs))
    (kk : ∀ (H1 : Heap) (locs1 : List Loc), lw_In D cA s hC' hR' H1 locs1 → W p l e room_1 s m #[Value.ref b] below meth c H1 locs1 221 2889 Q (F0 m 664 arr [])) : W p l e room_1 s m #[Value.ref b] below meth c H locs 221 2889 Q (F0 m 440 arr []) := by
  obtain ⟨hx, hb, hml, hown, hts⟩ := S
  obtain ⟨hP1, hP2, hS, ⟨z1, z2, z3, fC, z4⟩, y1, y2, y3, fR, y4⟩ := hI
  have hbA : ¬ s.heap.size ≤ b := Nat.not_le.mpr hbl
  refine lv_aload_n hx hb (lw_d rfl) rfl (lv_at hl 2 rfl) ?_
  refine lv_aload_n hx hb (lw_d rfl) rfl (lv_at hl 3 rfl) ?_
  refine lv_iload_n hx hb (lw_d rfl) rfl (lv_at hl 0 rfl) ?_
  refine lv_iconst (v := 1) hx hb (lw_d rfl) (by decide) ?_
  refine lv_iadd hx hb (lw_d rfl) ?_
  refine va_sld (A := fun q => s.heap.size ≤ q) hx hb hX hbl hbA hS h1 (lw_d rfl) ?_
  refine lw_call (k := 11) (np := 1) (as := [.int (xs (i + 1).toNatClampNeg)]) (rest := []) (bb := s.heap.size) (A := fun q => s.heap.size ≤ q) ⟨hx, hb, hml, hown, hts⟩ hl.1 (lw_d rfl) (by decide) rfl rfl lw_m11 lw_n11 lw_s11 lw_iC ⟨by decide +kernel, by decide +kernel, by decide +kernel⟩ rfl (by decide) z4 hc ⟨sC.1.trans z1.symm, sC.2.1.trans z2.symm⟩ z3 hK hP1 (lw_D (Nat.le_refl _)) hS (fun q h9 => h9) (by decide) ⟨by decide, by decide⟩ (fun H1 locs1 hP1 hD1 hS hk1 hz1 => ?_)
  have hP2 := lw_apart hP2 (Or.inl (by rw [z1]; exact Nat.le_refl _)) hk1
  refine lv_aload_n hx hb (lw_d rfl) rfl (lv_at hl 1 rfl) ?_
  refine lv_aload_n hx hb (lw_d rfl) rfl (lv_at hl 3 rfl) ?_
  refine lv_iload_n hx hb (lw_d rfl) rfl (lv_at hl 0 rfl) ?_
  refine lv_iconst (v := 1) hx hb (lw_d rfl) (by decide) ?_
  refine lv_iadd hx hb (lw_d rfl) ?_
  refine va_sld (A := fun q => s.heap.size ≤ q) hx hb hX hbl hbA hS h1 (lw_d rfl) ?_
  refine lw_call (k := 81) (np := 1) (as := [.int (xs (i + 1).toNatClampNeg)]) (rest := [.int r]) (bb := s.heap.size + 166) (A := fun q => s.heap.size ≤ q) ⟨hx, hb, hml, hown, hts⟩ hl.1 (lw_d rfl) (by decide) rfl rfl lw_m81 lw_n81 lw_s81 lw_iR ⟨by decide +kernel, by decide +kernel, by decide +kernel⟩ rfl (by decide) y4 hr ⟨sR.1.trans y1.symm, sR.2.1.trans y2.symm⟩ y3 hK hP2 (lw_D (Nat.le_add_right _ _)) hS (fun q h9 => h9) (Nat.le_of_ble_eq_true rfl) ⟨by decide, by decide⟩ (fun H2 locs2 hP2 hD2 hS hk2 hz2 => ?_)
  have hP1 := lw_apart hP1 (Or.inr (by rw [sC.1]; exact Nat.le_refl _)) hk2
  exact lv_icmp_eq hx hb (lw_d rfl) (tgt := 664) (by decide) (fun _ => kk H2 locs2 ⟨hP1, hP2, hS, sC, sR⟩) (fun h9 => absurd rfl h9)
set_option maxHeartbeats 4000000 in
set_option maxRecDepth 100000 in
theorem lw_case11 (S : CallFix p m c code 4 s #[Value.ref b] lw_tbl R_law) (hX : va_X b L xs s s.heap) (hbl : b < s.heap.size) (hK : va_K D rb_cl (rb_tys cA) s) (hl : lv_has arr 4 [(3, .int i), (2, .ref (s.heap.size + 166)), (1, .ref s.heap.size), (0, .ref b)]) (hI : lw_In D cA s hC hR H locs) (h1 : vp_in (i + 1) L) {r : Int32} {hC' hR' : rb_H} (hc : rb_rel false 8 12 [.ref 0, .int (xs (i + 1).toNatClampNeg)] hC (some (.int r)) hC') (hr : rb_rel false 8 68 [.ref 0, .int (xs (i + 1).toNatClampNeg)] hR (some (.int r)) hR')
    (sC : hC'.1 = 166 ∧ hC'.2.1 = 1286 ∧ (∀ i, hC'.1 ≤ i → hC'.2.2 i = rb_blank) ∧ ∃ fs, hC'.2.2 0 = .inr (0, fs)) (sR : hR'.1 = 55 ∧ hR'.2.1 = 1603 ∧ (∀ i, hR'.1 ≤ i → hR'.2.2 i = rb_blank) ∧ ∃ fs, hR'.2.2 0 = .inr (7, fs))
    (kk : ∀ (H1 : Heap) (locs1 : List Loc), lw_In D cA s hC' hR' H1 locs1 → W p l e room_1 s m #[Value.ref b] below meth c H1 locs1 221 2889 Q (F0 m 664 arr [])) : W p l e room_1 s m #[Value.ref b] below meth c H locs 221 2889 Q (F0 m 463 arr []) := by
  obtain ⟨hx, hb, hml, hown, hts⟩ := S
  obtain ⟨hP1, hP2, hS, ⟨z1, z2, z3, fC, z4⟩, y1, y2, y3, fR, y4⟩ := hI
  have hbA : ¬ s.heap.size ≤ b := Nat.not_le.mpr hbl
  refine lv_aload_n hx hb (lw_d rfl) rfl (lv_at hl 2 rfl) ?_
  refine lv_aload_n hx hb (lw_d rfl) rfl (lv_at hl 3 rfl) ?_
  refine lv_iload_n hx hb (lw_d rfl) rfl (lv_at hl 0 rfl) ?_
  refine lv_iconst (v := 1) hx hb (lw_d rfl) (by decide) ?_
  refine lv_iadd hx hb (lw_d rfl) ?_
  refine va_sld (A := fun q => s.heap.size ≤ q) hx hb hX hbl hbA hS h1 (lw_d rfl) ?_
  refine lw_call (k := 12) (np := 1) (as := [.int (xs (i + 1).toNatClampNeg)]) (rest := []) (bb := s.heap.size) (A := fun q => s.heap.size ≤ q) ⟨hx, hb, hml, hown, hts⟩ hl.1 (lw_d rfl) (by decide) rfl rfl lw_m12 lw_n12 lw_s12 lw_iC ⟨by decide +kernel, by decide +kernel, by decide +kernel⟩ rfl (by decide) z4 hc ⟨sC.1.trans z1.symm, sC.2.1.trans z2.symm⟩ z3 hK hP1 (lw_D (Nat.le_refl _)) hS (fun q h9 => h9) (by decide) ⟨by decide, by decide⟩ (fun H1 locs1 hP1 hD1 hS hk1 hz1 => ?_)
  have hP2 := lw_apart hP2 (Or.inl (by rw [z1]; exact Nat.le_refl _)) hk1
  refine lv_aload_n hx hb (lw_d rfl) rfl (lv_at hl 1 rfl) ?_
  refine lv_aload_n hx hb (lw_d rfl) rfl (lv_at hl 3 rfl) ?_
  refine lv_iload_n hx hb (lw_d rfl) rfl (lv_at hl 0 rfl) ?_
  refine lv_iconst (v := 1) hx hb (lw_d rfl) (by decide) ?_
  refine lv_iadd hx hb (lw_d rfl) ?_
  refine va_sld (A := fun q => s.heap.size ≤ q) hx hb hX hbl hbA hS h1 (lw_d rfl) ?_
  refine lw_call (k := 68) (np := 1) (as := [.int (xs (i + 1).toNatClampNeg)]) (rest := [.int r]) (bb := s.heap.size + 166) (A := fun q => s.heap.size ≤ q) ⟨hx, hb, hml, hown, hts⟩ hl.1 (lw_d rfl) (by decide) rfl rfl lw_m68 lw_n68 lw_s68 lw_iR ⟨by decide +kernel, by decide +kernel, by decide +kernel⟩ rfl (by decide) y4 hr ⟨sR.1.trans y1.symm, sR.2.1.trans y2.symm⟩ y3 hK hP2 (lw_D (Nat.le_add_right _ _)) hS (fun q h9 => h9) (Nat.le_of_ble_eq_true rfl) ⟨by decide, by decide⟩ (fun H2 locs2 hP2 hD2 hS hk2 hz2 => ?_)
  have hP1 := lw_apart hP1 (Or.inr (by rw [sC.1]; exact Nat.le_refl _)) hk2
  exact lv_icmp_eq hx hb (lw_d rfl) (tgt := 664) (by decide) (fun _ => kk H2 locs2 ⟨hP1, hP2, hS, sC, sR⟩) (fun h9 => absurd rfl h9)
set_option maxHeartbeats 4000000 in
set_option maxRecDepth 100000 in
theorem lw_case12 (S : CallFix p m c code 4 s #[Value.ref b] lw_tbl R_law) (hX : va_X b L xs s s.heap) (hbl : b < s.heap.size) (hK : va_K D rb_cl (rb_tys cA) s) (hl : lv_has arr 4 [(3, .int i), (2, .ref (s.heap.size + 166)), (1, .ref s.heap.size), (0, .ref b)]) (hI : lw_In D cA s hC hR H locs) (h1 : vp_in (i + 1) L) {r : Int32} {hC' hR' : rb_H} (hc : rb_rel false 8 13 [.ref 0, .int (xs (i + 1).toNatClampNeg)] hC (some (.int r)) hC') (hr : rb_rel false 8 82 [.ref 0, .int (xs (i + 1).toNatClampNeg)] hR (some (.int r)) hR')
    (sC : hC'.1 = 166 ∧ hC'.2.1 = 1286 ∧ (∀ i, hC'.1 ≤ i → hC'.2.2 i = rb_blank) ∧ ∃ fs, hC'.2.2 0 = .inr (0, fs)) (sR : hR'.1 = 55 ∧ hR'.2.1 = 1603 ∧ (∀ i, hR'.1 ≤ i → hR'.2.2 i = rb_blank) ∧ ∃ fs, hR'.2.2 0 = .inr (7, fs))
    (kk : ∀ (H1 : Heap) (locs1 : List Loc), lw_In D cA s hC' hR' H1 locs1 → W p l e room_1 s m #[Value.ref b] below meth c H1 locs1 221 2889 Q (F0 m 664 arr [])) : W p l e room_1 s m #[Value.ref b] below meth c H locs 221 2889 Q (F0 m 486 arr []) := by
  obtain ⟨hx, hb, hml, hown, hts⟩ := S
  obtain ⟨hP1, hP2, hS, ⟨z1, z2, z3, fC, z4⟩, y1, y2, y3, fR, y4⟩ := hI
  have hbA : ¬ s.heap.size ≤ b := Nat.not_le.mpr hbl
  refine lv_aload_n hx hb (lw_d rfl) rfl (lv_at hl 2 rfl) ?_
  refine lv_aload_n hx hb (lw_d rfl) rfl (lv_at hl 3 rfl) ?_
  refine lv_iload_n hx hb (lw_d rfl) rfl (lv_at hl 0 rfl) ?_
  refine lv_iconst (v := 1) hx hb (lw_d rfl) (by decide) ?_
  refine lv_iadd hx hb (lw_d rfl) ?_
  refine va_sld (A := fun q => s.heap.size ≤ q) hx hb hX hbl hbA hS h1 (lw_d rfl) ?_
  refine lw_call (k := 13) (np := 1) (as := [.int (xs (i + 1).toNatClampNeg)]) (rest := []) (bb := s.heap.size) (A := fun q => s.heap.size ≤ q) ⟨hx, hb, hml, hown, hts⟩ hl.1 (lw_d rfl) (by decide) rfl rfl lw_m13 lw_n13 lw_s13 lw_iC ⟨by decide +kernel, by decide +kernel, by decide +kernel⟩ rfl (by decide) z4 hc ⟨sC.1.trans z1.symm, sC.2.1.trans z2.symm⟩ z3 hK hP1 (lw_D (Nat.le_refl _)) hS (fun q h9 => h9) (by decide) ⟨by decide, by decide⟩ (fun H1 locs1 hP1 hD1 hS hk1 hz1 => ?_)
  have hP2 := lw_apart hP2 (Or.inl (by rw [z1]; exact Nat.le_refl _)) hk1
  refine lv_aload_n hx hb (lw_d rfl) rfl (lv_at hl 1 rfl) ?_
  refine lv_aload_n hx hb (lw_d rfl) rfl (lv_at hl 3 rfl) ?_
  refine lv_iload_n hx hb (lw_d rfl) rfl (lv_at hl 0 rfl) ?_
  refine lv_iconst (v := 1) hx hb (lw_d rfl) (by decide) ?_
  refine lv_iadd hx hb (lw_d rfl) ?_
  refine va_sld (A := fun q => s.heap.size ≤ q) hx hb hX hbl hbA hS h1 (lw_d rfl) ?_
  refine lw_call (k := 82) (np := 1) (as := [.int (xs (i + 1).toNatClampNeg)]) (rest := [.int r]) (bb := s.heap.size + 166) (A := fun q => s.heap.size ≤ q) ⟨hx, hb, hml, hown, hts⟩ hl.1 (lw_d rfl) (by decide) rfl rfl lw_m82 lw_n82 lw_s82 lw_iR ⟨by decide +kernel, by decide +kernel, by decide +kernel⟩ rfl (by decide) y4 hr ⟨sR.1.trans y1.symm, sR.2.1.trans y2.symm⟩ y3 hK hP2 (lw_D (Nat.le_add_right _ _)) hS (fun q h9 => h9) (Nat.le_of_ble_eq_true rfl) ⟨by decide, by decide⟩ (fun H2 locs2 hP2 hD2 hS hk2 hz2 => ?_)
  have hP1 := lw_apart hP1 (Or.inr (by rw [sC.1]; exact Nat.le_refl _)) hk2
  exact lv_icmp_eq hx hb (lw_d rfl) (tgt := 664) (by decide) (fun _ => kk H2 locs2 ⟨hP1, hP2, hS, sC, sR⟩) (fun h9 => absurd rfl h9)
set_option maxHeartbeats 4000000 in
set_option maxRecDepth 100000 in
theorem lw_case13 (S : CallFix p m c code 4 s #[Value.ref b] lw_tbl R_law) (hX : va_X b L xs s s.heap) (hbl : b < s.heap.size) (hK : va_K D rb_cl (rb_tys cA) s) (hl : lv_has arr 4 [(3, .int i), (2, .ref (s.heap.size + 166)), (1, .ref s.heap.size), (0, .ref b)]) (hI : lw_In D cA s hC hR H locs) (h1 : vp_in (i + 1) L) {r : Int32} {hC' hR' : rb_H} (hc : rb_rel false 8 14 [.ref 0, .int (xs (i + 1).toNatClampNeg)] hC (some (.int r)) hC') (hr : rb_rel false 8 83 [.ref 0, .int (xs (i + 1).toNatClampNeg)] hR (some (.int r)) hR')
    (sC : hC'.1 = 166 ∧ hC'.2.1 = 1286 ∧ (∀ i, hC'.1 ≤ i → hC'.2.2 i = rb_blank) ∧ ∃ fs, hC'.2.2 0 = .inr (0, fs)) (sR : hR'.1 = 55 ∧ hR'.2.1 = 1603 ∧ (∀ i, hR'.1 ≤ i → hR'.2.2 i = rb_blank) ∧ ∃ fs, hR'.2.2 0 = .inr (7, fs))
    (kk : ∀ (H1 : Heap) (locs1 : List Loc), lw_In D cA s hC' hR' H1 locs1 → W p l e room_1 s m #[Value.ref b] below meth c H1 locs1 221 2889 Q (F0 m 664 arr [])) : W p l e room_1 s m #[Value.ref b] below meth c H locs 221 2889 Q (F0 m 509 arr []) := by
  obtain ⟨hx, hb, hml, hown, hts⟩ := S
  obtain ⟨hP1, hP2, hS, ⟨z1, z2, z3, fC, z4⟩, y1, y2, y3, fR, y4⟩ := hI
  have hbA : ¬ s.heap.size ≤ b := Nat.not_le.mpr hbl
  refine lv_aload_n hx hb (lw_d rfl) rfl (lv_at hl 2 rfl) ?_
  refine lv_aload_n hx hb (lw_d rfl) rfl (lv_at hl 3 rfl) ?_
  refine lv_iload_n hx hb (lw_d rfl) rfl (lv_at hl 0 rfl) ?_
  refine lv_iconst (v := 1) hx hb (lw_d rfl) (by decide) ?_
  refine lv_iadd hx hb (lw_d rfl) ?_
  refine va_sld (A := fun q => s.heap.size ≤ q) hx hb hX hbl hbA hS h1 (lw_d rfl) ?_
  refine lw_call (k := 14) (np := 1) (as := [.int (xs (i + 1).toNatClampNeg)]) (rest := []) (bb := s.heap.size) (A := fun q => s.heap.size ≤ q) ⟨hx, hb, hml, hown, hts⟩ hl.1 (lw_d rfl) (by decide) rfl rfl lw_m14 lw_n14 lw_s14 lw_iC ⟨by decide +kernel, by decide +kernel, by decide +kernel⟩ rfl (by decide) z4 hc ⟨sC.1.trans z1.symm, sC.2.1.trans z2.symm⟩ z3 hK hP1 (lw_D (Nat.le_refl _)) hS (fun q h9 => h9) (by decide) ⟨by decide, by decide⟩ (fun H1 locs1 hP1 hD1 hS hk1 hz1 => ?_)
  have hP2 := lw_apart hP2 (Or.inl (by rw [z1]; exact Nat.le_refl _)) hk1
  refine lv_aload_n hx hb (lw_d rfl) rfl (lv_at hl 1 rfl) ?_
  refine lv_aload_n hx hb (lw_d rfl) rfl (lv_at hl 3 rfl) ?_
  refine lv_iload_n hx hb (lw_d rfl) rfl (lv_at hl 0 rfl) ?_
  refine lv_iconst (v := 1) hx hb (lw_d rfl) (by decide) ?_
  refine lv_iadd hx hb (lw_d rfl) ?_
  refine va_sld (A := fun q => s.heap.size ≤ q) hx hb hX hbl hbA hS h1 (lw_d rfl) ?_
  refine lw_call (k := 83) (np := 1) (as := [.int (xs (i + 1).toNatClampNeg)]) (rest := [.int r]) (bb := s.heap.size + 166) (A := fun q => s.heap.size ≤ q) ⟨hx, hb, hml, hown, hts⟩ hl.1 (lw_d rfl) (by decide) rfl rfl lw_m83 lw_n83 lw_s83 lw_iR ⟨by decide +kernel, by decide +kernel, by decide +kernel⟩ rfl (by decide) y4 hr ⟨sR.1.trans y1.symm, sR.2.1.trans y2.symm⟩ y3 hK hP2 (lw_D (Nat.le_add_right _ _)) hS (fun q h9 => h9) (Nat.le_of_ble_eq_true rfl) ⟨by decide, by decide⟩ (fun H2 locs2 hP2 hD2 hS hk2 hz2 => ?_)
  have hP1 := lw_apart hP1 (Or.inr (by rw [sC.1]; exact Nat.le_refl _)) hk2
  exact lv_icmp_eq hx hb (lw_d rfl) (tgt := 664) (by decide) (fun _ => kk H2 locs2 ⟨hP1, hP2, hS, sC, sR⟩) (fun h9 => absurd rfl h9)
set_option maxHeartbeats 4000000 in
set_option maxRecDepth 100000 in
theorem lw_case14 (S : CallFix p m c code 4 s #[Value.ref b] lw_tbl R_law) (hX : va_X b L xs s s.heap) (hbl : b < s.heap.size) (hK : va_K D rb_cl (rb_tys cA) s) (hl : lv_has arr 4 [(3, .int i), (2, .ref (s.heap.size + 166)), (1, .ref s.heap.size), (0, .ref b)]) (hI : lw_In D cA s hC hR H locs) (h1 : vp_in (i + 1) L) {r : Int32} {hC' hR' : rb_H} (hc : rb_rel false 8 15 [.ref 0, .int (xs (i + 1).toNatClampNeg)] hC (some (.int r)) hC') (hr : rb_rel false 8 84 [.ref 0, .int (xs (i + 1).toNatClampNeg)] hR (some (.int r)) hR')
    (sC : hC'.1 = 166 ∧ hC'.2.1 = 1286 ∧ (∀ i, hC'.1 ≤ i → hC'.2.2 i = rb_blank) ∧ ∃ fs, hC'.2.2 0 = .inr (0, fs)) (sR : hR'.1 = 55 ∧ hR'.2.1 = 1603 ∧ (∀ i, hR'.1 ≤ i → hR'.2.2 i = rb_blank) ∧ ∃ fs, hR'.2.2 0 = .inr (7, fs))
    (kk : ∀ (H1 : Heap) (locs1 : List Loc), lw_In D cA s hC' hR' H1 locs1 → W p l e room_1 s m #[Value.ref b] below meth c H1 locs1 221 2889 Q (F0 m 664 arr [])) : W p l e room_1 s m #[Value.ref b] below meth c H locs 221 2889 Q (F0 m 532 arr []) := by
  obtain ⟨hx, hb, hml, hown, hts⟩ := S
  obtain ⟨hP1, hP2, hS, ⟨z1, z2, z3, fC, z4⟩, y1, y2, y3, fR, y4⟩ := hI
  have hbA : ¬ s.heap.size ≤ b := Nat.not_le.mpr hbl
  refine lv_aload_n hx hb (lw_d rfl) rfl (lv_at hl 2 rfl) ?_
  refine lv_aload_n hx hb (lw_d rfl) rfl (lv_at hl 3 rfl) ?_
  refine lv_iload_n hx hb (lw_d rfl) rfl (lv_at hl 0 rfl) ?_
  refine lv_iconst (v := 1) hx hb (lw_d rfl) (by decide) ?_
  refine lv_iadd hx hb (lw_d rfl) ?_
  refine va_sld (A := fun q => s.heap.size ≤ q) hx hb hX hbl hbA hS h1 (lw_d rfl) ?_
  refine lw_call (k := 15) (np := 1) (as := [.int (xs (i + 1).toNatClampNeg)]) (rest := []) (bb := s.heap.size) (A := fun q => s.heap.size ≤ q) ⟨hx, hb, hml, hown, hts⟩ hl.1 (lw_d rfl) (by decide) rfl rfl lw_m15 lw_n15 lw_s15 lw_iC ⟨by decide +kernel, by decide +kernel, by decide +kernel⟩ rfl (by decide) z4 hc ⟨sC.1.trans z1.symm, sC.2.1.trans z2.symm⟩ z3 hK hP1 (lw_D (Nat.le_refl _)) hS (fun q h9 => h9) (by decide) ⟨by decide, by decide⟩ (fun H1 locs1 hP1 hD1 hS hk1 hz1 => ?_)
  have hP2 := lw_apart hP2 (Or.inl (by rw [z1]; exact Nat.le_refl _)) hk1
  refine lv_aload_n hx hb (lw_d rfl) rfl (lv_at hl 1 rfl) ?_
  refine lv_aload_n hx hb (lw_d rfl) rfl (lv_at hl 3 rfl) ?_
  refine lv_iload_n hx hb (lw_d rfl) rfl (lv_at hl 0 rfl) ?_
  refine lv_iconst (v := 1) hx hb (lw_d rfl) (by decide) ?_
  refine lv_iadd hx hb (lw_d rfl) ?_
  refine va_sld (A := fun q => s.heap.size ≤ q) hx hb hX hbl hbA hS h1 (lw_d rfl) ?_
  refine lw_call (k := 84) (np := 1) (as := [.int (xs (i + 1).toNatClampNeg)]) (rest := [.int r]) (bb := s.heap.size + 166) (A := fun q => s.heap.size ≤ q) ⟨hx, hb, hml, hown, hts⟩ hl.1 (lw_d rfl) (by decide) rfl rfl lw_m84 lw_n84 lw_s84 lw_iR ⟨by decide +kernel, by decide +kernel, by decide +kernel⟩ rfl (by decide) y4 hr ⟨sR.1.trans y1.symm, sR.2.1.trans y2.symm⟩ y3 hK hP2 (lw_D (Nat.le_add_right _ _)) hS (fun q h9 => h9) (Nat.le_of_ble_eq_true rfl) ⟨by decide, by decide⟩ (fun H2 locs2 hP2 hD2 hS hk2 hz2 => ?_)
  have hP1 := lw_apart hP1 (Or.inr (by rw [sC.1]; exact Nat.le_refl _)) hk2
  exact lv_icmp_eq hx hb (lw_d rfl) (tgt := 664) (by decide) (fun _ => kk H2 locs2 ⟨hP1, hP2, hS, sC, sR⟩) (fun h9 => absurd rfl h9)
set_option maxHeartbeats 4000000 in
set_option maxRecDepth 100000 in
theorem lw_case15 (S : CallFix p m c code 4 s #[Value.ref b] lw_tbl R_law) (hX : va_X b L xs s s.heap) (hbl : b < s.heap.size) (hK : va_K D rb_cl (rb_tys cA) s) (hl : lv_has arr 4 [(3, .int i), (2, .ref (s.heap.size + 166)), (1, .ref s.heap.size), (0, .ref b)]) (hI : lw_In D cA s hC hR H locs) (h1 : vp_in (i + 1) L) (h2 : vp_in (i + 2) L) (h3 : vp_in (i + 3) L) {r : Int32} {hC' hR' : rb_H} (hc : rb_rel false 8 16 [.ref 0, .int (xs (i + 1).toNatClampNeg), .int (xs (i + 2).toNatClampNeg), .int (xs (i + 3).toNatClampNeg)] hC (some (.int r)) hC') (hr : rb_rel false 8 85 [.ref 0, .int (xs (i + 1).toNatClampNeg), .int (xs (i + 2).toNatClampNeg), .int (xs (i + 3).toNatClampNeg)] hR (some (.int r)) hR')
    (sC : hC'.1 = 166 ∧ hC'.2.1 = 1286 ∧ (∀ i, hC'.1 ≤ i → hC'.2.2 i = rb_blank) ∧ ∃ fs, hC'.2.2 0 = .inr (0, fs)) (sR : hR'.1 = 55 ∧ hR'.2.1 = 1603 ∧ (∀ i, hR'.1 ≤ i → hR'.2.2 i = rb_blank) ∧ ∃ fs, hR'.2.2 0 = .inr (7, fs))
    (kk : ∀ (H1 : Heap) (locs1 : List Loc), lw_In D cA s hC' hR' H1 locs1 → W p l e room_1 s m #[Value.ref b] below meth c H1 locs1 221 2889 Q (F0 m 664 arr [])) : W p l e room_1 s m #[Value.ref b] below meth c H locs 221 2889 Q (F0 m 555 arr []) := by
  obtain ⟨hx, hb, hml, hown, hts⟩ := S
  obtain ⟨hP1, hP2, hS, ⟨z1, z2, z3, fC, z4⟩, y1, y2, y3, fR, y4⟩ := hI
  have hbA : ¬ s.heap.size ≤ b := Nat.not_le.mpr hbl
  refine lv_aload_n hx hb (lw_d rfl) rfl (lv_at hl 2 rfl) ?_
  refine lv_aload_n hx hb (lw_d rfl) rfl (lv_at hl 3 rfl) ?_
  refine lv_iload_n hx hb (lw_d rfl) rfl (lv_at hl 0 rfl) ?_
  refine lv_iconst (v := 1) hx hb (lw_d rfl) (by decide) ?_
  refine lv_iadd hx hb (lw_d rfl) ?_
  refine va_sld (A := fun q => s.heap.size ≤ q) hx hb hX hbl hbA hS h1 (lw_d rfl) ?_
  refine lv_aload_n hx hb (lw_d rfl) rfl (lv_at hl 3 rfl) ?_
  refine lv_iload_n hx hb (lw_d rfl) rfl (lv_at hl 0 rfl) ?_
  refine lv_iconst (v := 2) hx hb (lw_d rfl) (by decide) ?_
  refine lv_iadd hx hb (lw_d rfl) ?_
  refine va_sld (A := fun q => s.heap.size ≤ q) hx hb hX hbl hbA hS h2 (lw_d rfl) ?_
  refine lv_aload_n hx hb (lw_d rfl) rfl (lv_at hl 3 rfl) ?_
  refine lv_iload_n hx hb (lw_d rfl) rfl (lv_at hl 0 rfl) ?_
  refine lv_iconst (v := 3) hx hb (lw_d rfl) (by decide) ?_
  refine lv_iadd hx hb (lw_d rfl) ?_
  refine va_sld (A := fun q => s.heap.size ≤ q) hx hb hX hbl hbA hS h3 (lw_d rfl) ?_
  refine lw_call (k := 16) (np := 3) (as := [.int (xs (i + 1).toNatClampNeg), .int (xs (i + 2).toNatClampNeg), .int (xs (i + 3).toNatClampNeg)]) (rest := []) (bb := s.heap.size) (A := fun q => s.heap.size ≤ q) ⟨hx, hb, hml, hown, hts⟩ hl.1 (lw_d rfl) (by decide) rfl rfl lw_m16 lw_n16 lw_s16 lw_iC ⟨by decide +kernel, by decide +kernel, by decide +kernel⟩ rfl (by decide) z4 hc ⟨sC.1.trans z1.symm, sC.2.1.trans z2.symm⟩ z3 hK hP1 (lw_D (Nat.le_refl _)) hS (fun q h9 => h9) (by decide) ⟨by decide, by decide⟩ (fun H1 locs1 hP1 hD1 hS hk1 hz1 => ?_)
  have hP2 := lw_apart hP2 (Or.inl (by rw [z1]; exact Nat.le_refl _)) hk1
  refine lv_aload_n hx hb (lw_d rfl) rfl (lv_at hl 1 rfl) ?_
  refine lv_aload_n hx hb (lw_d rfl) rfl (lv_at hl 3 rfl) ?_
  refine lv_iload_n hx hb (lw_d rfl) rfl (lv_at hl 0 rfl) ?_
  refine lv_iconst (v := 1) hx hb (lw_d rfl) (by decide) ?_
  refine lv_iadd hx hb (lw_d rfl) ?_
  refine va_sld (A := fun q => s.heap.size ≤ q) hx hb hX hbl hbA hS h1 (lw_d rfl) ?_
  refine lv_aload_n hx hb (lw_d rfl) rfl (lv_at hl 3 rfl) ?_
  refine lv_iload_n hx hb (lw_d rfl) rfl (lv_at hl 0 rfl) ?_
  refine lv_iconst (v := 2) hx hb (lw_d rfl) (by decide) ?_
  refine lv_iadd hx hb (lw_d rfl) ?_
  refine va_sld (A := fun q => s.heap.size ≤ q) hx hb hX hbl hbA hS h2 (lw_d rfl) ?_
  refine lv_aload_n hx hb (lw_d rfl) rfl (lv_at hl 3 rfl) ?_
  refine lv_iload_n hx hb (lw_d rfl) rfl (lv_at hl 0 rfl) ?_
  refine lv_iconst (v := 3) hx hb (lw_d rfl) (by decide) ?_
  refine lv_iadd hx hb (lw_d rfl) ?_
  refine va_sld (A := fun q => s.heap.size ≤ q) hx hb hX hbl hbA hS h3 (lw_d rfl) ?_
  refine lw_call (k := 85) (np := 3) (as := [.int (xs (i + 1).toNatClampNeg), .int (xs (i + 2).toNatClampNeg), .int (xs (i + 3).toNatClampNeg)]) (rest := [.int r]) (bb := s.heap.size + 166) (A := fun q => s.heap.size ≤ q) ⟨hx, hb, hml, hown, hts⟩ hl.1 (lw_d rfl) (by decide) rfl rfl lw_m85 lw_n85 lw_s85 lw_iR ⟨by decide +kernel, by decide +kernel, by decide +kernel⟩ rfl (by decide) y4 hr ⟨sR.1.trans y1.symm, sR.2.1.trans y2.symm⟩ y3 hK hP2 (lw_D (Nat.le_add_right _ _)) hS (fun q h9 => h9) (Nat.le_of_ble_eq_true rfl) ⟨by decide, by decide⟩ (fun H2 locs2 hP2 hD2 hS hk2 hz2 => ?_)
  have hP1 := lw_apart hP1 (Or.inr (by rw [sC.1]; exact Nat.le_refl _)) hk2
  exact lv_icmp_eq hx hb (lw_d rfl) (tgt := 664) (by decide) (fun _ => kk H2 locs2 ⟨hP1, hP2, hS, sC, sR⟩) (fun h9 => absurd rfl h9)
set_option maxHeartbeats 4000000 in
set_option maxRecDepth 100000 in
theorem lw_case16 (S : CallFix p m c code 4 s #[Value.ref b] lw_tbl R_law) (hX : va_X b L xs s s.heap) (hbl : b < s.heap.size) (hK : va_K D rb_cl (rb_tys cA) s) (hl : lv_has arr 4 [(3, .int i), (2, .ref (s.heap.size + 166)), (1, .ref s.heap.size), (0, .ref b)]) (hI : lw_In D cA s hC hR H locs) (h1 : vp_in (i + 1) L) (h2 : vp_in (i + 2) L) {r : Int32} {hC' hR' : rb_H} (hc : rb_rel false 8 17 [.ref 0, .int (xs (i + 1).toNatClampNeg), .int (xs (i + 2).toNatClampNeg)] hC (some (.int r)) hC') (hr : rb_rel false 8 86 [.ref 0, .int (xs (i + 1).toNatClampNeg), .int (xs (i + 2).toNatClampNeg)] hR (some (.int r)) hR')
    (sC : hC'.1 = 166 ∧ hC'.2.1 = 1286 ∧ (∀ i, hC'.1 ≤ i → hC'.2.2 i = rb_blank) ∧ ∃ fs, hC'.2.2 0 = .inr (0, fs)) (sR : hR'.1 = 55 ∧ hR'.2.1 = 1603 ∧ (∀ i, hR'.1 ≤ i → hR'.2.2 i = rb_blank) ∧ ∃ fs, hR'.2.2 0 = .inr (7, fs))
    (kk : ∀ (H1 : Heap) (locs1 : List Loc), lw_In D cA s hC' hR' H1 locs1 → W p l e room_1 s m #[Value.ref b] below meth c H1 locs1 221 2889 Q (F0 m 664 arr [])) : W p l e room_1 s m #[Value.ref b] below meth c H locs 221 2889 Q (F0 m 598 arr []) := by
  obtain ⟨hx, hb, hml, hown, hts⟩ := S
  obtain ⟨hP1, hP2, hS, ⟨z1, z2, z3, fC, z4⟩, y1, y2, y3, fR, y4⟩ := hI
  have hbA : ¬ s.heap.size ≤ b := Nat.not_le.mpr hbl
  refine lv_aload_n hx hb (lw_d rfl) rfl (lv_at hl 2 rfl) ?_
  refine lv_aload_n hx hb (lw_d rfl) rfl (lv_at hl 3 rfl) ?_
  refine lv_iload_n hx hb (lw_d rfl) rfl (lv_at hl 0 rfl) ?_
  refine lv_iconst (v := 1) hx hb (lw_d rfl) (by decide) ?_
  refine lv_iadd hx hb (lw_d rfl) ?_
  refine va_sld (A := fun q => s.heap.size ≤ q) hx hb hX hbl hbA hS h1 (lw_d rfl) ?_
  refine lv_aload_n hx hb (lw_d rfl) rfl (lv_at hl 3 rfl) ?_
  refine lv_iload_n hx hb (lw_d rfl) rfl (lv_at hl 0 rfl) ?_
  refine lv_iconst (v := 2) hx hb (lw_d rfl) (by decide) ?_
  refine lv_iadd hx hb (lw_d rfl) ?_
  refine va_sld (A := fun q => s.heap.size ≤ q) hx hb hX hbl hbA hS h2 (lw_d rfl) ?_
  refine lw_call (k := 17) (np := 2) (as := [.int (xs (i + 1).toNatClampNeg), .int (xs (i + 2).toNatClampNeg)]) (rest := []) (bb := s.heap.size) (A := fun q => s.heap.size ≤ q) ⟨hx, hb, hml, hown, hts⟩ hl.1 (lw_d rfl) (by decide) rfl rfl lw_m17 lw_n17 lw_s17 lw_iC ⟨by decide +kernel, by decide +kernel, by decide +kernel⟩ rfl (by decide) z4 hc ⟨sC.1.trans z1.symm, sC.2.1.trans z2.symm⟩ z3 hK hP1 (lw_D (Nat.le_refl _)) hS (fun q h9 => h9) (by decide) ⟨by decide, by decide⟩ (fun H1 locs1 hP1 hD1 hS hk1 hz1 => ?_)
  have hP2 := lw_apart hP2 (Or.inl (by rw [z1]; exact Nat.le_refl _)) hk1
  refine lv_aload_n hx hb (lw_d rfl) rfl (lv_at hl 1 rfl) ?_
  refine lv_aload_n hx hb (lw_d rfl) rfl (lv_at hl 3 rfl) ?_
  refine lv_iload_n hx hb (lw_d rfl) rfl (lv_at hl 0 rfl) ?_
  refine lv_iconst (v := 1) hx hb (lw_d rfl) (by decide) ?_
  refine lv_iadd hx hb (lw_d rfl) ?_
  refine va_sld (A := fun q => s.heap.size ≤ q) hx hb hX hbl hbA hS h1 (lw_d rfl) ?_
  refine lv_aload_n hx hb (lw_d rfl) rfl (lv_at hl 3 rfl) ?_
  refine lv_iload_n hx hb (lw_d rfl) rfl (lv_at hl 0 rfl) ?_
  refine lv_iconst (v := 2) hx hb (lw_d rfl) (by decide) ?_
  refine lv_iadd hx hb (lw_d rfl) ?_
  refine va_sld (A := fun q => s.heap.size ≤ q) hx hb hX hbl hbA hS h2 (lw_d rfl) ?_
  refine lw_call (k := 86) (np := 2) (as := [.int (xs (i + 1).toNatClampNeg), .int (xs (i + 2).toNatClampNeg)]) (rest := [.int r]) (bb := s.heap.size + 166) (A := fun q => s.heap.size ≤ q) ⟨hx, hb, hml, hown, hts⟩ hl.1 (lw_d rfl) (by decide) rfl rfl lw_m86 lw_n86 lw_s86 lw_iR ⟨by decide +kernel, by decide +kernel, by decide +kernel⟩ rfl (by decide) y4 hr ⟨sR.1.trans y1.symm, sR.2.1.trans y2.symm⟩ y3 hK hP2 (lw_D (Nat.le_add_right _ _)) hS (fun q h9 => h9) (Nat.le_of_ble_eq_true rfl) ⟨by decide, by decide⟩ (fun H2 locs2 hP2 hD2 hS hk2 hz2 => ?_)
  have hP1 := lw_apart hP1 (Or.inr (by rw [sC.1]; exact Nat.le_refl _)) hk2
  exact lv_icmp_eq hx hb (lw_d rfl) (tgt := 664) (by decide) (fun _ => kk H2 locs2 ⟨hP1, hP2, hS, sC, sR⟩) (fun h9 => absurd rfl h9)
set_option maxHeartbeats 4000000 in
set_option maxRecDepth 100000 in
theorem lw_case17 (S : CallFix p m c code 4 s #[Value.ref b] lw_tbl R_law) (hX : va_X b L xs s s.heap) (hbl : b < s.heap.size) (hK : va_K D rb_cl (rb_tys cA) s) (hl : lv_has arr 4 [(3, .int i), (2, .ref (s.heap.size + 166)), (1, .ref s.heap.size), (0, .ref b)]) (hI : lw_In D cA s hC hR H locs) (h1 : vp_in (i + 1) L) (h2 : vp_in (i + 2) L) {r : Int32} {hC' hR' : rb_H} (hc : rb_rel false 8 18 [.ref 0, .int (xs (i + 1).toNatClampNeg), .int (xs (i + 2).toNatClampNeg)] hC (some (.int r)) hC') (hr : rb_rel false 8 87 [.ref 0, .int (xs (i + 1).toNatClampNeg), .int (xs (i + 2).toNatClampNeg)] hR (some (.int r)) hR')
    (sC : hC'.1 = 166 ∧ hC'.2.1 = 1286 ∧ (∀ i, hC'.1 ≤ i → hC'.2.2 i = rb_blank) ∧ ∃ fs, hC'.2.2 0 = .inr (0, fs)) (sR : hR'.1 = 55 ∧ hR'.2.1 = 1603 ∧ (∀ i, hR'.1 ≤ i → hR'.2.2 i = rb_blank) ∧ ∃ fs, hR'.2.2 0 = .inr (7, fs))
    (kk : ∀ (H1 : Heap) (locs1 : List Loc), lw_In D cA s hC' hR' H1 locs1 → W p l e room_1 s m #[Value.ref b] below meth c H1 locs1 221 2889 Q (F0 m 664 arr [])) : W p l e room_1 s m #[Value.ref b] below meth c H locs 221 2889 Q (F0 m 631 arr []) := by
  obtain ⟨hx, hb, hml, hown, hts⟩ := S
  obtain ⟨hP1, hP2, hS, ⟨z1, z2, z3, fC, z4⟩, y1, y2, y3, fR, y4⟩ := hI
  have hbA : ¬ s.heap.size ≤ b := Nat.not_le.mpr hbl
  refine lv_aload_n hx hb (lw_d rfl) rfl (lv_at hl 2 rfl) ?_
  refine lv_aload_n hx hb (lw_d rfl) rfl (lv_at hl 3 rfl) ?_
  refine lv_iload_n hx hb (lw_d rfl) rfl (lv_at hl 0 rfl) ?_
  refine lv_iconst (v := 1) hx hb (lw_d rfl) (by decide) ?_
  refine lv_iadd hx hb (lw_d rfl) ?_
  refine va_sld (A := fun q => s.heap.size ≤ q) hx hb hX hbl hbA hS h1 (lw_d rfl) ?_
  refine lv_aload_n hx hb (lw_d rfl) rfl (lv_at hl 3 rfl) ?_
  refine lv_iload_n hx hb (lw_d rfl) rfl (lv_at hl 0 rfl) ?_
  refine lv_iconst (v := 2) hx hb (lw_d rfl) (by decide) ?_
  refine lv_iadd hx hb (lw_d rfl) ?_
  refine va_sld (A := fun q => s.heap.size ≤ q) hx hb hX hbl hbA hS h2 (lw_d rfl) ?_
  refine lw_call (k := 18) (np := 2) (as := [.int (xs (i + 1).toNatClampNeg), .int (xs (i + 2).toNatClampNeg)]) (rest := []) (bb := s.heap.size) (A := fun q => s.heap.size ≤ q) ⟨hx, hb, hml, hown, hts⟩ hl.1 (lw_d rfl) (by decide) rfl rfl lw_m18 lw_n18 lw_s18 lw_iC ⟨by decide +kernel, by decide +kernel, by decide +kernel⟩ rfl (by decide) z4 hc ⟨sC.1.trans z1.symm, sC.2.1.trans z2.symm⟩ z3 hK hP1 (lw_D (Nat.le_refl _)) hS (fun q h9 => h9) (by decide) ⟨by decide, by decide⟩ (fun H1 locs1 hP1 hD1 hS hk1 hz1 => ?_)
  have hP2 := lw_apart hP2 (Or.inl (by rw [z1]; exact Nat.le_refl _)) hk1
  refine lv_aload_n hx hb (lw_d rfl) rfl (lv_at hl 1 rfl) ?_
  refine lv_aload_n hx hb (lw_d rfl) rfl (lv_at hl 3 rfl) ?_
  refine lv_iload_n hx hb (lw_d rfl) rfl (lv_at hl 0 rfl) ?_
  refine lv_iconst (v := 1) hx hb (lw_d rfl) (by decide) ?_
  refine lv_iadd hx hb (lw_d rfl) ?_
  refine va_sld (A := fun q => s.heap.size ≤ q) hx hb hX hbl hbA hS h1 (lw_d rfl) ?_
  refine lv_aload_n hx hb (lw_d rfl) rfl (lv_at hl 3 rfl) ?_
  refine lv_iload_n hx hb (lw_d rfl) rfl (lv_at hl 0 rfl) ?_
  refine lv_iconst (v := 2) hx hb (lw_d rfl) (by decide) ?_
  refine lv_iadd hx hb (lw_d rfl) ?_
  refine va_sld (A := fun q => s.heap.size ≤ q) hx hb hX hbl hbA hS h2 (lw_d rfl) ?_
  refine lw_call (k := 87) (np := 2) (as := [.int (xs (i + 1).toNatClampNeg), .int (xs (i + 2).toNatClampNeg)]) (rest := [.int r]) (bb := s.heap.size + 166) (A := fun q => s.heap.size ≤ q) ⟨hx, hb, hml, hown, hts⟩ hl.1 (lw_d rfl) (by decide) rfl rfl lw_m87 lw_n87 lw_s87 lw_iR ⟨by decide +kernel, by decide +kernel, by decide +kernel⟩ rfl (by decide) y4 hr ⟨sR.1.trans y1.symm, sR.2.1.trans y2.symm⟩ y3 hK hP2 (lw_D (Nat.le_add_right _ _)) hS (fun q h9 => h9) (Nat.le_of_ble_eq_true rfl) ⟨by decide, by decide⟩ (fun H2 locs2 hP2 hD2 hS hk2 hz2 => ?_)
  have hP1 := lw_apart hP1 (Or.inr (by rw [sC.1]; exact Nat.le_refl _)) hk2
  exact lv_icmp_eq hx hb (lw_d rfl) (tgt := 664) (by decide) (fun _ => kk H2 locs2 ⟨hP1, hP2, hS, sC, sR⟩) (fun h9 => absurd rfl h9)
end LWK
