/-! the law whole, out of a relation between pure heaps that every call keeps -/
section LWW
variable {p : Program} {e : Env} {s : State} {m : MethodId} {below : List Frame} {meth : Method} {c : Code}
set_option maxHeartbeats 8000000 in
set_option maxRecDepth 100000 in
theorem lw_whole {N : Nat} {Good : Nat → rb_H → rb_H → Prop} (G : lw_Ok N Good) (hG0 : Good 0 rb_hC1 rb_hR1) (l : Launch) {b L : Nat} {xs : Nat → Int32} (hL : L ≤ 2048) (hN : L ≤ 4 * N) (C0 : lw_At p s m meth c b L xs) : W p l e room_1 s m #[Value.ref b] below meth c s.heap [] 0 0 (lw_Z below #[Value.ref b] s) (entryFrame m ([Value.ref b] : List Value).toArray 4) := by
  obtain ⟨hx, hb, hr, hml, hown, hts, hX, hbl, hlocks, -⟩ := C0
  obtain ⟨D, cA, hK⟩ := lw_K hts
  have hE := lw_E hts
  have S : CallFix p m c code 4 s #[Value.ref b] lw_tbl R_law := ⟨hx, hb, hml, hown, hts⟩
  obtain ⟨rC, zC, zC2⟩ := rb_relC
  obtain ⟨rR, zR, zR2⟩ := rb_relR
  obtain ⟨sC, sR, -⟩ := G.1 0 _ _ hG0
  have hl := lv_entry ([.ref b]) (n := 4) (Nat.le_of_ble_eq_true rfl)
  rw [lg_entry_eq]
  generalize (lg_sl ([.ref b]) ++ List.replicate (4 - (lg_sl ([.ref b])).length) Slot.unset).toArray = arr at hl ⊢
  have hl : lv_has arr 4 [(0, .ref b)] := hl
  have hS : va_S (fun q => s.heap.size ≤ q) s.heap s.heap [] := va_S.rf
  refine va_new (D := D) (A := fun q => s.heap.size ≤ q) (ws := []) (ci := 0) (fs := rb_df 0) (C := "RingBridges") (T := rb_T0) (N := 4) (tys := rb_tys cA) hx hb hts (fun w hw => rb_ws_tbl (rb_lay_in (ci := 0) rfl w hw)) (rb_tt 0) (rb_tt_ok (ci := 0) rfl) hown (hts _ lw_clC) (hts _ lw_in0) (hts _ lw_iC) hK (fun k q hq => (by cases hq)) ⟨fun i j p q hp => (by cases hp), fun k q hq => (by cases hq)⟩ hS (fun q h9 => h9) rfl (rb_df_ok (ci := 0) rfl) (by decide) (by decide) (lw_d rfl) (fun q1 H1 hP1 hD1 hS1 => rb_Wsz (fun hz1 => ?_))
  have hq1a : q1 < H1.size := (hP1 0 _ rfl).lt
  have hq1b : s.heap.size ≤ q1 := hD1.2 0 _ rfl
  have hq1 : q1 = s.heap.size := by omega
  subst hq1
  have hP1 : va_P D rb_cl (rb_w s.heap.size cA rb_hC0) H1 := hP1
  refine lv_dup hx hb (lw_d rfl) rfl ?_
  refine lw_callI (k := 0) (idx := 9) (d := 5) (bb := s.heap.size) (A := fun q => s.heap.size ≤ q) (rest := [.ref s.heap.size]) (h := rb_hC0) (h' := rb_hC1) S hl.1 (lw_d rfl) (by decide) rfl rfl lw_mlC lw_miC lw_iC ⟨by decide +kernel, by decide +kernel, by decide +kernel⟩ (by decide) (by decide) rC rb_blC0 hK hE (by show H1.size = s.heap.size + 1; omega) hP1 (lw_D (Nat.le_refl _)) hS1 (fun q h9 => h9) (Nat.le_of_ble_eq_true rfl) ⟨by rw [zC]; decide, by rw [zC2]; decide⟩ (fun H2 locs2 hP2 hS2 hk2 => ?_)
  rw [zC, zC2]
  refine W.widen (k := 166) (n := 1286) (by decide) (by decide) ?_
  refine lv_astore_n hx hb (lw_d rfl) rfl hl (by decide) rfl (fun arr hl => ?_)
  refine va_new (D := D) (A := fun q => s.heap.size ≤ q) (ws := rb_w s.heap.size cA rb_hC1) (ci := 7) (fs := rb_df 7) (C := "RingBridgesModel") (T := rb_T7) (N := 55) (tys := rb_tys cA) hx hb hts (fun w hw => rb_ws_tbl (rb_lay_in (ci := 7) rfl w hw)) (rb_tt 7) (rb_tt_ok (ci := 7) rfl) hown (hts _ lw_clR) (hts _ lw_in7) (hts _ lw_iR) hK hP2 (lw_D (Nat.le_refl _)) hS2 (fun q h9 => h9) rfl (rb_df_ok (ci := 7) rfl) (by decide) (by decide) (lw_d rfl) (fun q3 H3 hP3 hD3 hS3 => rb_Wsz (fun hz3 => ?_))
  have hat : (rb_w s.heap.size cA rb_hC1 ++ [(q3, (Sum.inr (7, rb_df 7) : va_E))])[166]? = some (q3, .inr (7, rb_df 7)) := by
    rw [List.getElem?_append_right (by rw [rb_w_len, zC]; exact Nat.le_refl _), rb_w_len, zC]
    rfl
  have hq3a : q3 < H3.size := (hP3 166 _ hat).lt
  have hq3b : s.heap.size ≤ q3 := hD3.2 166 _ hat
  have hq3 : q3 = s.heap.size + 166 := by
    refine Nat.le_antisymm (by omega) (Nat.not_lt.mp fun h9 => ?_)
    have hi : q3 - s.heap.size < rb_hC1.1 := by rw [zC]; omega
    have h5 : (rb_w s.heap.size cA rb_hC1 ++ [(q3, (Sum.inr (7, rb_df 7) : va_E))])[q3 - s.heap.size]? = some (s.heap.size + (q3 - s.heap.size), rb_rc s.heap.size cA (rb_hC1.2.2 (q3 - s.heap.size))) := by
      rw [List.getElem?_append_left (by rw [rb_w_len]; exact hi), rb_w_get hi]
    have := hD3.1 _ _ _ _ h5 hat (by show s.heap.size + (q3 - s.heap.size) = q3; omega)
    omega
  subst hq3
  have hPC : va_P D rb_cl (rb_w s.heap.size cA rb_hC1) H3 := by
    intro k q hq
    have hk : k < (rb_w s.heap.size cA rb_hC1).length := (List.getElem?_eq_some_iff.mp hq).1
    exact hP3 k q (by rw [List.getElem?_append_left hk]; exact hq)
  have hPR : va_P D rb_cl (rb_w (s.heap.size + 166) cA rb_hR0) H3 := by
    intro k q hq
    have hk : k < 1 := by
      have := (List.getElem?_eq_some_iff.mp hq).1
      rw [rb_w_len] at this
      exact this
    have hk0 : k = 0 := by omega
    subst hk0
    rw [← Option.some.inj hq]
    exact hP3 166 _ hat
  refine lv_dup hx hb (lw_d rfl) rfl ?_
  refine lw_callI (k := 43) (idx := 12) (d := 2) (bb := s.heap.size + 166) (A := fun q => s.heap.size ≤ q) (rest := [.ref (s.heap.size + 166)]) (h := rb_hR0) (h' := rb_hR1) S hl.1 (lw_d rfl) (by decide) rfl rfl lw_mlR lw_miR lw_iR ⟨by decide +kernel, by decide +kernel, by decide +kernel⟩ (by decide) (by decide) rR rb_blR0 hK hE (by show H3.size = s.heap.size + 166 + 1; omega) hPR (lw_D (Nat.le_add_right _ _)) hS3 (fun q h9 => h9) (Nat.le_of_ble_eq_true rfl) ⟨by rw [zR]; decide, by rw [zR2]; decide⟩ (fun H4 locs4 hP4 hS4 hk4 => ?_)
  rw [zR, zR2]
  refine W.widen (k := 221) (n := 2889) (by decide) (by decide) ?_
  have hPC := lw_apart hPC (Or.inr (by rw [zC]; exact Nat.le_refl _)) hk4
  refine lv_astore_n hx hb (lw_d rfl) rfl hl (by decide) rfl (fun arr hl => ?_)
  refine lv_iconst (v := 0) hx hb (lw_d rfl) (by decide) ?_
  refine lv_istore_n hx hb (lw_d rfl) rfl hl (by decide) rfl (fun arr hl => ?_)
  exact lw_loop G hL hN S hr hlocks hX hbl hK (L / 4 + 1) 0 rb_hC1 rb_hR1 H4 locs4 arr (by omega) (by omega) hG0 ⟨hPC, hP4, hS4, sC, sR⟩ hl
end LWW
