/-! the law out of pure runs: from here on nothing speaks of the machine but this -/
def lw_tab : List (Nat × Nat × Nat) := [(1, 69, 2), (2, 70, 3), (3, 72, 1), (4, 73, 1), (5, 74, 2), (6, 75, 2), (7, 76, 2), (8, 77, 3), (9, 79, 1), (10, 80, 2), (11, 81, 1), (12, 68, 1), (13, 82, 1), (14, 83, 1), (15, 84, 1), (16, 85, 3), (17, 86, 2), (18, 87, 2)]
def lw_cs (j : Nat) : Nat × Nat × Nat := lw_tab.getD j (0, 0, 0)
def lw_sC (h : rb_H) : Prop := h.1 = 166 ∧ h.2.1 = 1286 ∧ (∀ i, h.1 ≤ i → h.2.2 i = rb_blank) ∧ ∃ fs, h.2.2 0 = .inr (0, fs)
def lw_sR (h : rb_H) : Prop := h.1 = 55 ∧ h.2.1 = 1603 ∧ (∀ i, h.1 ≤ i → h.2.2 i = rb_blank) ∧ ∃ fs, h.2.2 0 = .inr (7, fs)
/-- both answer alike, and what is good stays good -/
def lw_pair (Good : Nat → rb_H → rb_H → Prop) (k1 k2 n : Nat) (hC hR : rb_H) (as : List Value) : Prop := ∃ (r : Int32) (hC' hR' : rb_H), rb_rel false 8 k1 (.ref 0 :: as) hC (some (.int r)) hC' ∧ rb_rel false 8 k2 (.ref 0 :: as) hR (some (.int r)) hR' ∧ Good (n + 1) hC' hR'
def lw_Ok (N : Nat) (Good : Nat → rb_H → rb_H → Prop) : Prop := (∀ n hC hR, Good n hC hR → lw_sC hC ∧ lw_sR hR ∧ Good (n + 1) hC hR) ∧ ∀ n hC hR, n < N → Good n hC hR → ∀ j, j < 18 → ∀ a1 a2 a3 : Int32, lw_pair Good (lw_cs j).1 (lw_cs j).2.1 n hC hR (([.int a1, .int a2, .int a3] : List Value).take (lw_cs j).2.2)
theorem lw_sub4 {L n : Nat} (hL : L ≤ 2048) (hn : 4 * n ≤ 4096) : (Int32.ofNat L - 4 < nI (4 * n)) ↔ L < 4 * n + 4 := by
  have h1 : (Int32.ofNat L).toInt = (L : Int) := nI_toInt (n := L) (by omega)
  have h2 : (nI (4 * n)).toInt = ((4 * n : Nat) : Int) := nI_toInt (by omega)
  have h3 : (4 : Int32).toInt = 4 := by decide
  have h4 : (Int32.ofNat L - 4).toInt = (L : Int) - 4 := by
    rw [Int32.toInt_sub, h1, h3, Int.bmod_def]
    split <;> omega
  rw [Int32.lt_iff_toInt_lt, h4, h2]
  omega
theorem lw_nI2 (a : Nat) : nI a + 2 = nI (a + 2) := nI_add a 2
theorem lw_nI3 (a : Nat) : nI a + 3 = nI (a + 3) := nI_add a 3
theorem lw_nI4 (a : Nat) : nI a + Int32.ofInt 4 = nI (a + 4) := nI_add a 4
section LWE
variable {p : Program} {l : Launch} {e : Env} {s : State} {m : MethodId} {below : List Frame} {meth : Method} {c : Code} {b L : Nat} {xs : Nat → Int32}
set_option maxRecDepth 100000 in
theorem lw_exit (hx : p.tables.exec = Jvm.exec) (hb : c.code = code) (hr : meth.sig.returnType = ret) (hlocks : meth.locks = false) (hX : va_X b L xs s s.heap) (hbl : b < s.heap.size) (hL : L ≤ 2048) {n : Nat} (hn : 4 * n ≤ 4096) (hend : L < 4 * n + 4) {H : Heap} {locs : List Loc} {arr : Array Slot} {x1 x2 : Nat} (hS : va_S (fun q => s.heap.size ≤ q) s.heap H locs) (hl : lv_has arr 4 [(3, .int (nI (4 * n))), (2, .ref x2), (1, .ref x1), (0, .ref b)]) : W p l e room_1 s m #[Value.ref b] below meth c H locs 221 2889 (lw_Z below #[Value.ref b] s) (F0 m 18 arr []) := by
  have hbA : ¬ s.heap.size ≤ b := Nat.not_le.mpr hbl
  refine lv_iload_n hx hb (lw_d rfl) rfl (lv_at hl 0 rfl) ?_
  refine lv_aload_n hx hb (lw_d rfl) rfl (lv_at hl 3 rfl) ?_
  refine va_slen (A := fun q => s.heap.size ≤ q) hx hb hX hbl hbA hS (lw_d rfl) ?_
  refine lv_iconst (v := 4) hx hb (lw_d rfl) (by decide) ?_
  refine lv_isub hx hb (lw_d rfl) ?_
  refine lv_icmp_gt (tgt := 670) hx hb (lw_d rfl) (by decide) (fun _ => ?_) (fun h9 => absurd ((lw_sub4 hL hn).mpr hend) h9)
  refine lv_iconst (v := 1) hx hb (lw_d rfl) (by decide) ?_
  refine va_forget hS.2.2 ?_
  refine W.widen (k := 600000) (n := 7302250) (by decide) (by decide) ?_
  exact lw_ret hx hb hr hlocks (lw_d rfl)
end LWE
section LWL
variable {p : Program} {l : Launch} {e : Env} {s : State} {m : MethodId} {below : List Frame} {meth : Method} {c : Code} {b L : Nat} {xs : Nat → Int32} {D : va_G} {cA : Nat → ClassId}
set_option maxHeartbeats 8000000 in
set_option maxRecDepth 100000 in
theorem lw_loop {N : Nat} {Good : Nat → rb_H → rb_H → Prop} (G : lw_Ok N Good) (hL : L ≤ 2048) (hN : L ≤ 4 * N) (S : CallFix p m c code 4 s #[Value.ref b] lw_tbl R_law) (hr : meth.sig.returnType = ret) (hlocks : meth.locks = false) (hX : va_X b L xs s s.heap) (hbl : b < s.heap.size) (hK : va_K D rb_cl (rb_tys cA) s) : ∀ (f n : Nat) (hC hR : rb_H) (H : Heap) (locs : List Loc) (arr : Array Slot), L < 4 * (n + f) → 4 * n ≤ L + 4 → Good n hC hR → lw_In D cA s hC hR H locs → lv_has arr 4 [(3, .int (nI (4 * n))), (2, .ref (s.heap.size + 166)), (1, .ref s.heap.size), (0, .ref b)] → W p l e room_1 s m #[Value.ref b] below meth c H locs 221 2889 (lw_Z below #[Value.ref b] s) (F0 m 18 arr []) := by
  intro f
  have hS9 := S
  obtain ⟨hx, hb, hml, hown, hts⟩ := S
  have hbA : ¬ s.heap.size ≤ b := Nat.not_le.mpr hbl
  induction f with
  | zero => intro n hC hR H locs arr hf hn hG hI hl; exact lw_exit hx hb hr hlocks hX hbl hL (by omega) (by omega) hI.2.2.1 hl
  | succ f ih =>
    intro n hC hR H locs arr hf hn hG hI hl
    by_cases hend : L < 4 * n + 4
    · exact lw_exit hx hb hr hlocks hX hbl hL (by omega) hend hI.2.2.1 hl
    have hS := hI.2.2.1
    have v0 : vp_in (nI (4 * n)) L := vp_in_nI (by omega) (by omega)
    have v1 : vp_in (nI (4 * n) + 1) L := by rw [nI_1]; exact vp_in_nI (by omega) (by omega)
    have v2 : vp_in (nI (4 * n) + 2) L := by rw [lw_nI2]; exact vp_in_nI (by omega) (by omega)
    have v3 : vp_in (nI (4 * n) + 3) L := by rw [lw_nI3]; exact vp_in_nI (by omega) (by omega)
    have back : ∀ (hC' hR' : rb_H) (H1 : Heap) (locs1 : List Loc), Good (n + 1) hC' hR' → lw_In D cA s hC' hR' H1 locs1 → W p l e room_1 s m #[Value.ref b] below meth c H1 locs1 221 2889 (lw_Z below #[Value.ref b] s) (F0 m 664 arr []) := by
      intro hC' hR' H1 locs1 hG1 hI1
      refine lv_iinc (k := 0) (v := nI (4 * (n + 1))) hx hb (lw_d rfl) hl rfl (by rw [lw_nI4]; rfl) (by decide) rfl (fun ls' h' => ?_)
      refine lv_goto (tgt := 18) hx hb (lw_d rfl) (by decide) ?_
      exact ih (n + 1) hC' hR' H1 locs1 ls' (by omega) (by omega) hG1 hI1 h'
    refine lv_iload_n hx hb (lw_d rfl) rfl (lv_at hl 0 rfl) ?_
    refine lv_aload_n hx hb (lw_d rfl) rfl (lv_at hl 3 rfl) ?_
    refine va_slen (A := fun q => s.heap.size ≤ q) hx hb hX hbl hbA hS (lw_d rfl) ?_
    refine lv_iconst (v := 4) hx hb (lw_d rfl) (by decide) ?_
    refine lv_isub hx hb (lw_d rfl) ?_
    refine lv_icmp_gt (tgt := 670) hx hb (lw_d rfl) (by decide) (fun h9 => absurd ((lw_sub4 hL (by omega)).mp h9) hend) (fun _ => ?_)
    refine lv_aload_n hx hb (lw_d rfl) rfl (lv_at hl 3 rfl) ?_
    refine lv_iload_n hx hb (lw_d rfl) rfl (lv_at hl 0 rfl) ?_
    refine va_sld (A := fun q => s.heap.size ≤ q) hx hb hX hbl hbA hS v0 (lw_d rfl) ?_
    refine lv_bipush (v := 31) hx hb (lw_d rfl) (by decide) ?_
    refine lv_iand hx hb (lw_d rfl) ?_
    refine lv_topi (fun u _ => ?_)
    by_cases hu : u.toInt < 0 ∨ 17 < u.toInt
    · exact lv_tableOut (tgt := 664) hx hb (lw_d rfl) hu (by decide) (back hC hR H locs (G.1 n hC hR hG).2.2 hI)
    have hG3 := G.2 n hC hR (by omega) hG
    have hu2 : u.toInt = 0 ∨ u.toInt = 1 ∨ u.toInt = 2 ∨ u.toInt = 3 ∨ u.toInt = 4 ∨ u.toInt = 5 ∨ u.toInt = 6 ∨ u.toInt = 7 ∨ u.toInt = 8 ∨ u.toInt = 9 ∨ u.toInt = 10 ∨ u.toInt = 11 ∨ u.toInt = 12 ∨ u.toInt = 13 ∨ u.toInt = 14 ∨ u.toInt = 15 ∨ u.toInt = 16 ∨ u.toInt = 17 := by omega
    rcases hu2 with hu | hu | hu | hu | hu | hu | hu | hu | hu | hu | hu | hu | hu | hu | hu | hu | hu | hu
    · refine lv_tableIn (tgt := 120) hx hb (lw_d rfl) (by omega) (by omega) (by rw [hu]; rfl) (by decide) ?_
      obtain ⟨r, hC', hR', e1, e2, e3⟩ := hG3 0 (by decide) (xs (nI (4 * n) + 1).toNatClampNeg) (xs (nI (4 * n) + 2).toNatClampNeg) (xs (nI (4 * n) + 3).toNatClampNeg)
      exact lw_case0 hS9 hX hbl hK hl hI v1 v2 e1 e2 (G.1 _ _ _ e3).1 (G.1 _ _ _ e3).2.1 (fun H1 locs1 hI1 => back hC' hR' H1 locs1 e3 hI1)
    · refine lv_tableIn (tgt := 153) hx hb (lw_d rfl) (by omega) (by omega) (by rw [hu]; rfl) (by decide) ?_
      obtain ⟨r, hC', hR', e1, e2, e3⟩ := hG3 1 (by decide) (xs (nI (4 * n) + 1).toNatClampNeg) (xs (nI (4 * n) + 2).toNatClampNeg) (xs (nI (4 * n) + 3).toNatClampNeg)
      exact lw_case1 hS9 hX hbl hK hl hI v1 v2 v3 e1 e2 (G.1 _ _ _ e3).1 (G.1 _ _ _ e3).2.1 (fun H1 locs1 hI1 => back hC' hR' H1 locs1 e3 hI1)
    · refine lv_tableIn (tgt := 196) hx hb (lw_d rfl) (by omega) (by omega) (by rw [hu]; rfl) (by decide) ?_
      obtain ⟨r, hC', hR', e1, e2, e3⟩ := hG3 2 (by decide) (xs (nI (4 * n) + 1).toNatClampNeg) (xs (nI (4 * n) + 2).toNatClampNeg) (xs (nI (4 * n) + 3).toNatClampNeg)
      exact lw_case2 hS9 hX hbl hK hl hI v1 e1 e2 (G.1 _ _ _ e3).1 (G.1 _ _ _ e3).2.1 (fun H1 locs1 hI1 => back hC' hR' H1 locs1 e3 hI1)
    · refine lv_tableIn (tgt := 219) hx hb (lw_d rfl) (by omega) (by omega) (by rw [hu]; rfl) (by decide) ?_
      obtain ⟨r, hC', hR', e1, e2, e3⟩ := hG3 3 (by decide) (xs (nI (4 * n) + 1).toNatClampNeg) (xs (nI (4 * n) + 2).toNatClampNeg) (xs (nI (4 * n) + 3).toNatClampNeg)
      exact lw_case3 hS9 hX hbl hK hl hI v1 e1 e2 (G.1 _ _ _ e3).1 (G.1 _ _ _ e3).2.1 (fun H1 locs1 hI1 => back hC' hR' H1 locs1 e3 hI1)
    · refine lv_tableIn (tgt := 242) hx hb (lw_d rfl) (by omega) (by omega) (by rw [hu]; rfl) (by decide) ?_
      obtain ⟨r, hC', hR', e1, e2, e3⟩ := hG3 4 (by decide) (xs (nI (4 * n) + 1).toNatClampNeg) (xs (nI (4 * n) + 2).toNatClampNeg) (xs (nI (4 * n) + 3).toNatClampNeg)
      exact lw_case4 hS9 hX hbl hK hl hI v1 v2 e1 e2 (G.1 _ _ _ e3).1 (G.1 _ _ _ e3).2.1 (fun H1 locs1 hI1 => back hC' hR' H1 locs1 e3 hI1)
    · refine lv_tableIn (tgt := 275) hx hb (lw_d rfl) (by omega) (by omega) (by rw [hu]; rfl) (by decide) ?_
      obtain ⟨r, hC', hR', e1, e2, e3⟩ := hG3 5 (by decide) (xs (nI (4 * n) + 1).toNatClampNeg) (xs (nI (4 * n) + 2).toNatClampNeg) (xs (nI (4 * n) + 3).toNatClampNeg)
      exact lw_case5 hS9 hX hbl hK hl hI v1 v2 e1 e2 (G.1 _ _ _ e3).1 (G.1 _ _ _ e3).2.1 (fun H1 locs1 hI1 => back hC' hR' H1 locs1 e3 hI1)
    · refine lv_tableIn (tgt := 308) hx hb (lw_d rfl) (by omega) (by omega) (by rw [hu]; rfl) (by decide) ?_
      obtain ⟨r, hC', hR', e1, e2, e3⟩ := hG3 6 (by decide) (xs (nI (4 * n) + 1).toNatClampNeg) (xs (nI (4 * n) + 2).toNatClampNeg) (xs (nI (4 * n) + 3).toNatClampNeg)
      exact lw_case6 hS9 hX hbl hK hl hI v1 v2 e1 e2 (G.1 _ _ _ e3).1 (G.1 _ _ _ e3).2.1 (fun H1 locs1 hI1 => back hC' hR' H1 locs1 e3 hI1)
    · refine lv_tableIn (tgt := 341) hx hb (lw_d rfl) (by omega) (by omega) (by rw [hu]; rfl) (by decide) ?_
      obtain ⟨r, hC', hR', e1, e2, e3⟩ := hG3 7 (by decide) (xs (nI (4 * n) + 1).toNatClampNeg) (xs (nI (4 * n) + 2).toNatClampNeg) (xs (nI (4 * n) + 3).toNatClampNeg)
      exact lw_case7 hS9 hX hbl hK hl hI v1 v2 v3 e1 e2 (G.1 _ _ _ e3).1 (G.1 _ _ _ e3).2.1 (fun H1 locs1 hI1 => back hC' hR' H1 locs1 e3 hI1)
    · refine lv_tableIn (tgt := 384) hx hb (lw_d rfl) (by omega) (by omega) (by rw [hu]; rfl) (by decide) ?_
      obtain ⟨r, hC', hR', e1, e2, e3⟩ := hG3 8 (by decide) (xs (nI (4 * n) + 1).toNatClampNeg) (xs (nI (4 * n) + 2).toNatClampNeg) (xs (nI (4 * n) + 3).toNatClampNeg)
      exact lw_case8 hS9 hX hbl hK hl hI v1 e1 e2 (G.1 _ _ _ e3).1 (G.1 _ _ _ e3).2.1 (fun H1 locs1 hI1 => back hC' hR' H1 locs1 e3 hI1)
    · refine lv_tableIn (tgt := 407) hx hb (lw_d rfl) (by omega) (by omega) (by rw [hu]; rfl) (by decide) ?_
      obtain ⟨r, hC', hR', e1, e2, e3⟩ := hG3 9 (by decide) (xs (nI (4 * n) + 1).toNatClampNeg) (xs (nI (4 * n) + 2).toNatClampNeg) (xs (nI (4 * n) + 3).toNatClampNeg)
      exact lw_case9 hS9 hX hbl hK hl hI v1 v2 e1 e2 (G.1 _ _ _ e3).1 (G.1 _ _ _ e3).2.1 (fun H1 locs1 hI1 => back hC' hR' H1 locs1 e3 hI1)
    · refine lv_tableIn (tgt := 440) hx hb (lw_d rfl) (by omega) (by omega) (by rw [hu]; rfl) (by decide) ?_
      obtain ⟨r, hC', hR', e1, e2, e3⟩ := hG3 10 (by decide) (xs (nI (4 * n) + 1).toNatClampNeg) (xs (nI (4 * n) + 2).toNatClampNeg) (xs (nI (4 * n) + 3).toNatClampNeg)
      exact lw_case10 hS9 hX hbl hK hl hI v1 e1 e2 (G.1 _ _ _ e3).1 (G.1 _ _ _ e3).2.1 (fun H1 locs1 hI1 => back hC' hR' H1 locs1 e3 hI1)
    · refine lv_tableIn (tgt := 463) hx hb (lw_d rfl) (by omega) (by omega) (by rw [hu]; rfl) (by decide) ?_
      obtain ⟨r, hC', hR', e1, e2, e3⟩ := hG3 11 (by decide) (xs (nI (4 * n) + 1).toNatClampNeg) (xs (nI (4 * n) + 2).toNatClampNeg) (xs (nI (4 * n) + 3).toNatClampNeg)
      exact lw_case11 hS9 hX hbl hK hl hI v1 e1 e2 (G.1 _ _ _ e3).1 (G.1 _ _ _ e3).2.1 (fun H1 locs1 hI1 => back hC' hR' H1 locs1 e3 hI1)
    · refine lv_tableIn (tgt := 486) hx hb (lw_d rfl) (by omega) (by omega) (by rw [hu]; rfl) (by decide) ?_
      obtain ⟨r, hC', hR', e1, e2, e3⟩ := hG3 12 (by decide) (xs (nI (4 * n) + 1).toNatClampNeg) (xs (nI (4 * n) + 2).toNatClampNeg) (xs (nI (4 * n) + 3).toNatClampNeg)
      exact lw_case12 hS9 hX hbl hK hl hI v1 e1 e2 (G.1 _ _ _ e3).1 (G.1 _ _ _ e3).2.1 (fun H1 locs1 hI1 => back hC' hR' H1 locs1 e3 hI1)
    · refine lv_tableIn (tgt := 509) hx hb (lw_d rfl) (by omega) (by omega) (by rw [hu]; rfl) (by decide) ?_
      obtain ⟨r, hC', hR', e1, e2, e3⟩ := hG3 13 (by decide) (xs (nI (4 * n) + 1).toNatClampNeg) (xs (nI (4 * n) + 2).toNatClampNeg) (xs (nI (4 * n) + 3).toNatClampNeg)
      exact lw_case13 hS9 hX hbl hK hl hI v1 e1 e2 (G.1 _ _ _ e3).1 (G.1 _ _ _ e3).2.1 (fun H1 locs1 hI1 => back hC' hR' H1 locs1 e3 hI1)
    · refine lv_tableIn (tgt := 532) hx hb (lw_d rfl) (by omega) (by omega) (by rw [hu]; rfl) (by decide) ?_
      obtain ⟨r, hC', hR', e1, e2, e3⟩ := hG3 14 (by decide) (xs (nI (4 * n) + 1).toNatClampNeg) (xs (nI (4 * n) + 2).toNatClampNeg) (xs (nI (4 * n) + 3).toNatClampNeg)
      exact lw_case14 hS9 hX hbl hK hl hI v1 e1 e2 (G.1 _ _ _ e3).1 (G.1 _ _ _ e3).2.1 (fun H1 locs1 hI1 => back hC' hR' H1 locs1 e3 hI1)
    · refine lv_tableIn (tgt := 555) hx hb (lw_d rfl) (by omega) (by omega) (by rw [hu]; rfl) (by decide) ?_
      obtain ⟨r, hC', hR', e1, e2, e3⟩ := hG3 15 (by decide) (xs (nI (4 * n) + 1).toNatClampNeg) (xs (nI (4 * n) + 2).toNatClampNeg) (xs (nI (4 * n) + 3).toNatClampNeg)
      exact lw_case15 hS9 hX hbl hK hl hI v1 v2 v3 e1 e2 (G.1 _ _ _ e3).1 (G.1 _ _ _ e3).2.1 (fun H1 locs1 hI1 => back hC' hR' H1 locs1 e3 hI1)
    · refine lv_tableIn (tgt := 598) hx hb (lw_d rfl) (by omega) (by omega) (by rw [hu]; rfl) (by decide) ?_
      obtain ⟨r, hC', hR', e1, e2, e3⟩ := hG3 16 (by decide) (xs (nI (4 * n) + 1).toNatClampNeg) (xs (nI (4 * n) + 2).toNatClampNeg) (xs (nI (4 * n) + 3).toNatClampNeg)
      exact lw_case16 hS9 hX hbl hK hl hI v1 v2 e1 e2 (G.1 _ _ _ e3).1 (G.1 _ _ _ e3).2.1 (fun H1 locs1 hI1 => back hC' hR' H1 locs1 e3 hI1)
    · refine lv_tableIn (tgt := 631) hx hb (lw_d rfl) (by omega) (by omega) (by rw [hu]; rfl) (by decide) ?_
      obtain ⟨r, hC', hR', e1, e2, e3⟩ := hG3 17 (by decide) (xs (nI (4 * n) + 1).toNatClampNeg) (xs (nI (4 * n) + 2).toNatClampNeg) (xs (nI (4 * n) + 3).toNatClampNeg)
      exact lw_case17 hS9 hX hbl hK hl hI v1 v2 e1 e2 (G.1 _ _ _ e3).1 (G.1 _ _ _ e3).2.1 (fun H1 locs1 hI1 => back hC' hR' H1 locs1 e3 hI1)
end LWL
