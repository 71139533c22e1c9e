/-- what the making of cells asks of the tables beside the words -/
def rb_E (U : State) : Prop := (∀ C ∈ rb_aos, va_AO C U) ∧ (Cond.arrayOver (.array .int)).before #[] U = true ∧ ∀ w ∈ rb_wN, va_Nw w U
section RBY
variable {p : Program} {l : Launch} {e : Env} {R : Room} {s : State} {m : MethodId} {args : Array Value} {below : List Frame} {meth : Method} {c : Code} {H : Heap} {locs : List Loc} {cells slots : Nat} {Q : State → Prop}
variable {D : va_G} {cA : Nat → ClassId} {b : Nat} {A : Nat → Prop} {h0 h : rb_H} {k pc : Nat} {ls st : List Value} {arr : Array Slot} {al : Bool}
theorem rb_ai_in : Cond.arrayClass .int ∈ rb_ws := rb_hasO_mem (by decide +kernel)
theorem rb_size (hI : rb_Inv D cA b A s.heap h0 h H locs cells slots) (hal : s.heap.size = b + h0.1) (hz : H.size ≤ s.heap.size + cells) : H.size = b + h.1 := by
  have h1 := hI.2.2.2.2.1
  have h2 := hI.2.2.1.1
  refine Nat.le_antisymm (by omega) ?_
  by_cases h9 : h.1 = 0
  · omega
  · have h3 := (hI.1 _ _ (rb_w_get (b := b) (cA := cA) (h := h) (i := h.1 - 1) (by omega))).lt
    have h4 : b + (h.1 - 1) < H.size := h3
    omega
theorem rb_L.seti {i : Nat} {x : Int32} (hi : i < ls.length) (h' : lv_has arr ls.length ((i, .int x) :: (rb_ll b ls).filter (fun q => !(q.1 == i) && !(q.1 + 1 == i && q.2.category == 2)))) : rb_L b (ls.set i (.int x)) arr := rb_L.set (v := .int x) hi h'
theorem rb_L.setr {i a : Nat} (hi : i < ls.length) (h' : lv_has arr ls.length ((i, .ref (b + a)) :: (rb_ll b ls).filter (fun q => !(q.1 == i) && !(q.1 + 1 == i && q.2.category == 2)))) : rb_L b (ls.set i (.ref a)) arr := rb_L.set (v := .ref a) hi h'
theorem rb_L.setn {i : Nat} (hi : i < ls.length) (h' : lv_has arr ls.length ((i, .null) :: (rb_ll b ls).filter (fun q => !(q.1 == i) && !(q.1 + 1 == i && q.2.category == 2)))) : rb_L b (ls.set i .null) arr := rb_L.set (v := .null) hi h'
theorem rb_cat1 {v : Value} (h : rb_ok v = true) : (rb_rv b v).category = 1 := rb_rv_cat h
theorem rb_catsum : ∀ {r : List Value}, r.all rb_ok = true → ((r.map (rb_rv b)).map fun v => v.category).sum = r.length
  | [], _ => rfl
  | v :: r, h => by
    rw [List.all_cons, Bool.and_eq_true] at h
    simp only [List.map_cons, List.sum_cons, List.length_cons]
    rw [rb_rv_cat h.1, rb_catsum h.2]
    omega
set_option maxHeartbeats 8000000 in
set_option maxRecDepth 100000 in
theorem rb_stepW (hx : p.tables.exec = Jvm.exec) (hb : c.code = rb_b k) (hml : c.maxLocals = rb_ml k) (hts : ∀ w ∈ rb_ws, w.before args s = true) (hown : s.vm.findClass (rb_on k) = some m.cls) (hnm : meth.name = (rb_y k).name) (hK : va_K D rb_cl (rb_tys cA) s)
    (hA : ∀ q, s.heap.size ≤ q → A q) (hR : 1 ≤ R.frames ∧ 40 ≤ R.locals) (hal : al = true → s.heap.size = b + h0.1 ∧ (∀ q, A q → b ≤ q) ∧ rb_E s)
    {q : rb_I} (hq : rb_chk k pc q = true) {x : Nat × List Value × List Value × rb_H} (hs : rb_step k al q.1 q.2.1 q.2.2.1 q.2.2.2.1 q.2.2.2.2 ls st h = some (.inl x))
    (hI : rb_Inv D cA b A s.heap h0 h H locs cells slots) (hL : rb_L b ls arr) (hlen : ls.length = rb_ml k) (hroom : x.2.2.2.1 ≤ h0.1 + R.cells ∧ x.2.2.2.2.1 ≤ h0.2.1 + R.slots)
    (kk : ∀ (H1 : Heap) (locs1 : List Loc) (cells1 slots1 : Nat) (arr1 : Array Slot), rb_Inv D cA b A s.heap h0 x.2.2.2 H1 locs1 cells1 slots1 → rb_L b x.2.1 arr1 → x.2.1.length = rb_ml k → W p l e R s m args below meth c H1 locs1 cells1 slots1 Q (F0 m x.1 arr1 (x.2.2.1.map (rb_rv b)))) :
    W p l e R s m args below meth c H locs cells slots Q (F0 m pc arr (st.map (rb_rv b))) := by
  obtain ⟨i, nx, a, b', kc⟩ := q
  cases i with
  | iconst n =>
    obtain ⟨hd, hn, hm⟩ := rb_chk_dec hq rfl
    dsimp only at hn
    subst hn
    obtain rfl := rb_go_inv hs
    exact lv_iconst (v := kc) hx hb hd (of_decide_eq_true hm) (kk H locs cells slots arr hI hL hlen)
  | bipush n =>
    obtain ⟨hd, hn, hm⟩ := rb_chk_dec hq rfl
    dsimp only at hn
    subst hn
    obtain rfl := rb_go_inv hs
    exact lv_bipush (v := kc) hx hb hd (of_decide_eq_true hm) (kk H locs cells slots arr hI hL hlen)
  | sipush n =>
    obtain ⟨hd, hn, hm⟩ := rb_chk_dec hq rfl
    dsimp only at hn
    subst hn
    obtain rfl := rb_go_inv hs
    exact lv_sipush (v := kc) hx hb hd (of_decide_eq_true hm) (kk H locs cells slots arr hI hL hlen)
  | aconst_null =>
    obtain ⟨hd, hn, hm⟩ := rb_chk_dec hq rfl
    dsimp only at hn
    subst hn
    obtain rfl := rb_go_inv hs
    exact lv_null hx hb hd (kk H locs cells slots arr hI hL hlen)
  | iload j =>
    obtain ⟨hd, hn, hm⟩ := rb_chk_dec hq rfl
    dsimp only at hn
    subst hn
    obtain ⟨v, hv, rfl⟩ := rb_ldi_inv hs
    exact lv_iload hx hb hd (hL.at hv rfl) (kk H locs cells slots arr hI hL hlen)
  | iload_n j =>
    obtain ⟨hd, hn, hm⟩ := rb_chk_dec hq rfl
    dsimp only at hn
    subst hn
    obtain ⟨v, hv, rfl⟩ := rb_ldi_inv hs
    exact lv_iload_n hx hb hd rfl (hL.at hv rfl) (kk H locs cells slots arr hI hL hlen)
  | aload j =>
    obtain ⟨hd, hn, hm⟩ := rb_chk_dec hq rfl
    dsimp only at hn
    subst hn
    obtain ⟨v, hv, hr, rfl⟩ := rb_lda_inv hs
    rcases hr with rfl | ⟨a, rfl⟩
    · exact lv_aloadN hx hb hd (hL.at hv rfl) (kk H locs cells slots arr hI hL hlen)
    · exact lv_aload hx hb hd (hL.at hv rfl) (kk H locs cells slots arr hI hL hlen)
  | aload_n j =>
    obtain ⟨hd, hn, hm⟩ := rb_chk_dec hq rfl
    dsimp only at hn
    subst hn
    obtain ⟨v, hv, hr, rfl⟩ := rb_lda_inv hs
    rcases hr with rfl | ⟨a, rfl⟩
    · exact lv_aload_nN hx hb hd rfl (hL.at hv rfl) (kk H locs cells slots arr hI hL hlen)
    · exact lv_aload_n hx hb hd rfl (hL.at hv rfl) (kk H locs cells slots arr hI hL hlen)
  | istore j =>
    obtain ⟨hd, hn, hm⟩ := rb_chk_dec hq rfl
    dsimp only at hn
    subst hn
    obtain ⟨v, r, rfl, hj, rfl⟩ := rb_sti_inv hs
    exact lv_istore hx hb hd hL.lv hj rfl (fun ls' h' => kk H locs cells slots ls' hI (rb_L.seti hj h') (by rw [List.length_set]; exact hlen))
  | istore_n j =>
    obtain ⟨hd, hn, hm⟩ := rb_chk_dec hq rfl
    dsimp only at hn
    subst hn
    obtain ⟨v, r, rfl, hj, rfl⟩ := rb_sti_inv hs
    exact lv_istore_n hx hb hd rfl hL.lv hj rfl (fun ls' h' => kk H locs cells slots ls' hI (rb_L.seti hj h') (by rw [List.length_set]; exact hlen))
  | astore j =>
    obtain ⟨hd, hn, hm⟩ := rb_chk_dec hq rfl
    dsimp only at hn
    subst hn
    obtain ⟨v, r, rfl, hr, hj, rfl⟩ := rb_sta_inv hs
    rcases hr with rfl | ⟨a, rfl⟩
    · exact lv_astoreN hx hb hd hL.lv hj rfl (fun ls' h' => kk H locs cells slots ls' hI (rb_L.setn hj h') (by rw [List.length_set]; exact hlen))
    · exact lv_astore hx hb hd hL.lv hj rfl (fun ls' h' => kk H locs cells slots ls' hI (rb_L.setr hj h') (by rw [List.length_set]; exact hlen))
  | astore_n j =>
    obtain ⟨hd, hn, hm⟩ := rb_chk_dec hq rfl
    dsimp only at hn
    subst hn
    obtain ⟨v, r, rfl, hr, hj, rfl⟩ := rb_sta_inv hs
    rcases hr with rfl | ⟨a, rfl⟩
    · exact lv_astore_nN hx hb hd rfl hL.lv hj rfl (fun ls' h' => kk H locs cells slots ls' hI (rb_L.setn hj h') (by rw [List.length_set]; exact hlen))
    · exact lv_astore_n hx hb hd rfl hL.lv hj rfl (fun ls' h' => kk H locs cells slots ls' hI (rb_L.setr hj h') (by rw [List.length_set]; exact hlen))
  | iinc j n =>
    obtain ⟨hd, hn, hm⟩ := rb_chk_dec hq rfl
    dsimp only at hn
    subst hn
    obtain ⟨v, hv, rfl⟩ := rb_inc_inv hs
    have hj : j < ls.length := (List.getElem?_eq_some_iff.mp hv).1
    obtain ⟨t, ht⟩ := List.getElem?_of_mem ((rb_ll_mem (b := b) (ls := ls) (q := (j, .int v))).mpr ⟨.int v, hv, rfl, rfl⟩)
    have hm : Int32.ofInt n = kc := of_decide_eq_true hm
    exact lv_iinc (k := t) (v := v + kc) hx hb hd hL.lv ht (by rw [hm]) hj rfl (fun ls' h' => kk H locs cells slots ls' hI (rb_L.seti hj h') (by rw [List.length_set]; exact hlen))
  | iadd =>
    obtain ⟨hd, hn, hm⟩ := rb_chk_dec hq rfl
    dsimp only at hn
    subst hn
    obtain ⟨u, v, r, rfl, rfl⟩ := rb_bin_inv hs
    exact lv_iadd hx hb hd (kk H locs cells slots arr hI hL hlen)
  | isub =>
    obtain ⟨hd, hn, hm⟩ := rb_chk_dec hq rfl
    dsimp only at hn
    subst hn
    obtain ⟨u, v, r, rfl, rfl⟩ := rb_bin_inv hs
    exact lv_isub hx hb hd (kk H locs cells slots arr hI hL hlen)
  | imul =>
    obtain ⟨hd, hn, hm⟩ := rb_chk_dec hq rfl
    dsimp only at hn
    subst hn
    obtain ⟨u, v, r, rfl, rfl⟩ := rb_bin_inv hs
    exact lv_imul hx hb hd (kk H locs cells slots arr hI hL hlen)
  | iand =>
    obtain ⟨hd, hn, hm⟩ := rb_chk_dec hq rfl
    dsimp only at hn
    subst hn
    obtain ⟨u, v, r, rfl, rfl⟩ := rb_bin_inv hs
    exact lv_iand hx hb hd (kk H locs cells slots arr hI hL hlen)
  | ior =>
    obtain ⟨hd, hn, hm⟩ := rb_chk_dec hq rfl
    dsimp only at hn
    subst hn
    obtain ⟨u, v, r, rfl, rfl⟩ := rb_bin_inv hs
    exact lv_ior hx hb hd (kk H locs cells slots arr hI hL hlen)
  | ishl =>
    obtain ⟨hd, hn, hm⟩ := rb_chk_dec hq rfl
    dsimp only at hn
    subst hn
    obtain ⟨u, v, r, rfl, rfl⟩ := rb_bin_inv hs
    exact lv_ishl hx hb hd (kk H locs cells slots arr hI hL hlen)
  | ishr =>
    obtain ⟨hd, hn, hm⟩ := rb_chk_dec hq rfl
    dsimp only at hn
    subst hn
    obtain ⟨u, v, r, rfl, rfl⟩ := rb_bin_inv hs
    exact lv_ishr hx hb hd (kk H locs cells slots arr hI hL hlen)
  | idiv =>
    obtain ⟨hd, hn, hm⟩ := rb_chk_dec hq rfl
    dsimp only at hn
    subst hn
    obtain ⟨u, v, r, rfl, hne, rfl⟩ := rb_div_inv hs
    exact lv_idiv hx hb hd hne (kk H locs cells slots arr hI hL hlen)
  | irem =>
    obtain ⟨hd, hn, hm⟩ := rb_chk_dec hq rfl
    dsimp only at hn
    subst hn
    obtain ⟨u, v, r, rfl, hne, rfl⟩ := rb_div_inv hs
    exact lv_irem hx hb hd hne (kk H locs cells slots arr hI hL hlen)
  | dup =>
    obtain ⟨hd, hn, hm⟩ := rb_chk_dec hq rfl
    dsimp only at hn
    subst hn
    simp only [rb_step] at hs
    split at hs
    · rename_i v r
      split at hs
      · rename_i ho
        obtain rfl := rb_go_inv hs
        exact lv_dup hx hb hd (rb_cat1 ho) (kk H locs cells slots arr hI hL hlen)
      · cases hs
    · cases hs
  | pop =>
    obtain ⟨hd, hn, hm⟩ := rb_chk_dec hq rfl
    dsimp only at hn
    subst hn
    simp only [rb_step] at hs
    split at hs
    · rename_i v r
      split at hs
      · rename_i ho
        obtain rfl := rb_go_inv hs
        exact lv_pop hx hb hd (rb_cat1 ho) (kk H locs cells slots arr hI hL hlen)
      · cases hs
    · cases hs
  | dup_x1 =>
    obtain ⟨hd, hn, hm⟩ := rb_chk_dec hq rfl
    dsimp only at hn
    subst hn
    simp only [rb_step] at hs
    split at hs
    · rename_i v w r
      split at hs
      · rename_i ho
        rw [Bool.and_eq_true] at ho
        obtain rfl := rb_go_inv hs
        exact lv_dup_x1 hx hb hd (rb_cat1 ho.1) (rb_cat1 ho.2) (kk H locs cells slots arr hI hL hlen)
      · cases hs
    · cases hs
  | dup_x2 =>
    obtain ⟨hd, hn, hm⟩ := rb_chk_dec hq rfl
    dsimp only at hn
    subst hn
    simp only [rb_step] at hs
    split at hs
    · rename_i v w u r
      split at hs
      · rename_i ho
        rw [Bool.and_eq_true, Bool.and_eq_true] at ho
        obtain rfl := rb_go_inv hs
        exact lv_dup_x2 hx hb hd (rb_cat1 ho.1.1) (rb_cat1 ho.1.2) (rb_cat1 ho.2) (kk H locs cells slots arr hI hL hlen)
      · cases hs
    · cases hs
  | dup2 =>
    obtain ⟨hd, hn, hm⟩ := rb_chk_dec hq rfl
    dsimp only at hn
    subst hn
    simp only [rb_step] at hs
    split at hs
    · rename_i v w r
      split at hs
      · rename_i ho
        rw [Bool.and_eq_true] at ho
        obtain rfl := rb_go_inv hs
        exact lv_dup2_11 hx hb hd (rb_cat1 ho.1) (rb_cat1 ho.2) (kk H locs cells slots arr hI hL hlen)
      · cases hs
    · cases hs
  | goto o =>
    obtain ⟨hd, hn, hm⟩ := rb_chk_dec hq rfl
    obtain rfl := rb_go_inv hs
    exact lv_goto hx hb hd (of_decide_eq_true hm) (kk H locs cells slots arr hI hL hlen)
  | if_icmp cd o =>
    obtain ⟨hd, hn, hm⟩ := rb_chk_dec hq rfl
    dsimp only at hn
    subst hn
    simp only [rb_step] at hs
    split at hs
    · rename_i v u r
      refine rb_icmpW hx hb hd (of_decide_eq_true hm) (fun hc => ?_) (fun hc => ?_)
      · rw [hc] at hs
        obtain rfl := rb_go_inv hs
        exact kk H locs cells slots arr hI hL hlen
      · rw [hc] at hs
        obtain rfl := rb_go_inv hs
        exact kk H locs cells slots arr hI hL hlen
    · cases hs
  | ifCond cd o =>
    obtain ⟨hd, hn, hm⟩ := rb_chk_dec hq rfl
    dsimp only at hn
    subst hn
    simp only [rb_step] at hs
    split at hs
    · rename_i u r
      refine rb_ifW hx hb hd (of_decide_eq_true hm) (fun hc => ?_) (fun hc => ?_)
      · rw [hc] at hs
        obtain rfl := rb_go_inv hs
        exact kk H locs cells slots arr hI hL hlen
      · rw [hc] at hs
        obtain rfl := rb_go_inv hs
        exact kk H locs cells slots arr hI hL hlen
    · cases hs
  | ifnull o =>
    obtain ⟨hd, hn, hm⟩ := rb_chk_dec hq rfl
    dsimp only at hn
    subst hn
    simp only [rb_step] at hs
    split at hs
    · obtain rfl := rb_go_inv hs
      exact lv_ifnullN hx hb hd (of_decide_eq_true hm) (kk H locs cells slots arr hI hL hlen)
    · obtain rfl := rb_go_inv hs
      exact lv_ifnull hx hb hd (kk H locs cells slots arr hI hL hlen)
    · cases hs
  | ifnonnull o =>
    obtain ⟨hd, hn, hm⟩ := rb_chk_dec hq rfl
    dsimp only at hn
    subst hn
    simp only [rb_step] at hs
    split at hs
    · obtain rfl := rb_go_inv hs
      exact lv_ifnonnullN hx hb hd (kk H locs cells slots arr hI hL hlen)
    · obtain rfl := rb_go_inv hs
      exact lv_ifnonnull hx hb hd (of_decide_eq_true hm) (kk H locs cells slots arr hI hL hlen)
    · cases hs
  | tableswitch d lo hi os =>
    obtain ⟨len, hd, hm⟩ := rb_chk_sw hq
    simp only [rb_step] at hs
    split at hs
    · obtain rfl := rb_go_inv hs
      exact rb_tabW (k := k) hx hb hd hm (kk H locs cells slots arr hI hL hlen)
    · cases hs
  | lookupswitch d ps =>
    obtain ⟨len, hd, hm⟩ := rb_chk_sw hq
    simp only [rb_step] at hs
    split at hs
    · obtain rfl := rb_go_inv hs
      exact rb_lkW (k := k) hx hb hd hm (kk H locs cells slots arr hI hL hlen)
    · cases hs
  | getfield idx =>
    obtain ⟨hd, hn, hm⟩ := rb_chk_dec hq rfl
    dsimp only at hn
    subst hn
    obtain ⟨ad, r, fs, v, rfl, he, hv, rfl⟩ := rb_get_inv hs
    exact rb_getW hx hb hts hown hK hI hm hd he hv (kk H locs cells slots arr hI hL hlen)
  | putfield idx =>
    obtain ⟨hd, hn, hm⟩ := rb_chk_dec hq rfl
    dsimp only at hn
    subst hn
    obtain ⟨ad, r, fs, v, rfl, hfit, he, hj, rfl⟩ := rb_put_inv hs
    have hm := (Bool.and_eq_true _ _).mp hm
    exact rb_putW hx hb hts hown hnm hK hI hm.1 hm.2 hd he hj hfit (fun H1 locs1 hI1 => kk H1 locs1 cells slots arr hI1 hL hlen)
  | iaload =>
    obtain ⟨hd, hn, hm⟩ := rb_chk_dec hq rfl
    dsimp only at hn
    subst hn
    obtain ⟨i, ad, r, n, g, rfl, he, hin, rfl⟩ := rb_ald_inv hs
    exact va_iald hx hb hK hI.1 ad 0 (rb_atI he (rb_inA hI.2.2.2.1 he)) (rb_tys_at cA (by decide)) hin hd (kk H locs cells slots arr hI hL hlen)
  | baload =>
    obtain ⟨hd, hn, hm⟩ := rb_chk_dec hq rfl
    dsimp only at hn
    subst hn
    obtain ⟨i, ad, r, n, g, rfl, he, hin, rfl⟩ := rb_ald_inv hs
    exact va_zald hx hb hK hI.1 ad 1 (rb_atI he (rb_inA hI.2.2.2.1 he)) (rb_tys_at cA (by decide)) hin hd (kk H locs cells slots arr hI hL hlen)
  | iastore =>
    obtain ⟨hd, hn, hm⟩ := rb_chk_dec hq rfl
    dsimp only at hn
    subst hn
    obtain ⟨v, i, ad, r, n, g, rfl, hfit, he, hin, rfl⟩ := rb_ast_inv (t := 0) (ty := .int) (nx := pc + 1) (ls := ls) (st := st) (h := h) (x := x) hs
    have ha := rb_inA hI.2.2.2.1 he
    exact va_iast hx hb hK hI.1 hI.2.1 hI.2.2.1 ad 0 (rb_atI he ha) (rb_tys_at cA (by decide)) hin hd (fun H1 locs1 hP1 hD1 hS1 => kk H1 locs1 cells slots arr (hI.set ha hP1 hD1 hS1) hL hlen)
  | bastore =>
    obtain ⟨hd, hn, hm⟩ := rb_chk_dec hq rfl
    dsimp only at hn
    subst hn
    obtain ⟨v, i, ad, r, n, g, rfl, hfit, he, hin, rfl⟩ := rb_ast_inv hs
    have ha := rb_inA hI.2.2.2.1 he
    have hv : vp_nar .boolean v = v := by
      have := (rb_fit_spec b hfit).1
      have h9 : narrow .boolean (.int v) = .int v := this
      unfold vp_nar
      rw [h9]
    refine va_zast hx hb hK hI.1 hI.2.1 hI.2.2.1 ad 1 (rb_atI he ha) (rb_tys_at cA (by decide)) hin hd (fun H1 locs1 hP1 hD1 hS1 => ?_)
    rw [hv] at hP1 hD1
    exact kk H1 locs1 cells slots arr (hI.set ha hP1 hD1 hS1) hL hlen
  | aaload =>
    obtain ⟨hd, hn, hm⟩ := rb_chk_dec hq rfl
    dsimp only at hn
    subst hn
    obtain ⟨i, ad, r, t, n, g, rfl, he, h2t, ht7, hin, rfl⟩ := rb_rald_inv hs
    refine rb_aldW hx hb hK hI.1 (rb_atR he (rb_inA hI.2.2.2.1 he)) (rb_tys_at cA ht7) (rb_aty_ref h2t ht7) hin hd ?_
    have := kk H locs cells slots arr hI hL hlen
    rw [List.map_cons, rb_rf] at this
    exact this
  | aastore =>
    obtain ⟨hd, hn, hm⟩ := rb_chk_dec hq rfl
    dsimp only at hn
    subst hn
    obtain ⟨v, i, ad, r, t, n, g, ci, vs, rfl, he, hv, hel, hin, rfl⟩ := rb_rast_inv hs
    obtain ⟨q, hq1, ht7, hq2⟩ := rb_el_ok hel
    have ha := rb_inA hI.2.2.2.1 he
    have hva := rb_inO hI.2.2.2.1 hv (rb_clt hq1)
    refine va_astq (v := b + v) hx hb hK hI.1 hI.2.1 hI.2.2.1 ad t v ci (rb_atR he ha) (by rw [rb_tys_at cA ht7, hq2]) (rb_atO hv hva) hq1 hin hd (fun H1 locs1 hP1 hD1 hS1 => ?_)
    have e9 : (va_up (fun i => (g i).map (fun a => b + a)) i.toNatClampNeg (some (b + v)) : Nat → Option Nat) = fun j => ((va_up g i.toNatClampNeg (some v)) j).map (fun a => b + a) := by
      funext j
      unfold va_up
      split <;> rfl
    rw [e9] at hP1 hD1
    exact kk H1 locs1 cells slots arr (hI.set ha (x := .inl (t, n, .inr (.inr (.inr (.inr (va_up g i.toNatClampNeg (some v))))))) hP1 hD1 hS1) hL hlen
  | arraylength =>
    obtain ⟨hd, hn, hm⟩ := rb_chk_dec hq rfl
    dsimp only at hn
    subst hn
    obtain ⟨ad, r, t, n, g, rfl, he, ht7, rfl⟩ := rb_len_inv hs
    exact va_alen hx hb hK hI.1 ad t (rb_atI he (rb_inA hI.2.2.2.1 he)) (rb_tys_at cA ht7) rfl hd (kk H locs cells slots arr hI hL hlen)
  | new idx =>
    obtain ⟨hd, hn, hm⟩ := rb_chk_dec hq rfl
    dsimp only at hn
    subst hn
    simp only [rb_step] at hs
    split at hs
    · obtain ⟨hal1, hAb, -⟩ := hal rfl
      obtain rfl := rb_go_inv hs
      obtain ⟨qc, hqc, w1, w2, w3⟩ := rb_nok_spec hm
      obtain ⟨C, T, N⟩ := qc
      have hc := hI.2.2.2.2.1
      have hc2 := hI.2.2.2.2.2
      have hr1 : h.1 + 1 ≤ h0.1 + R.cells := hroom.1
      have hr2 : h.2.1 + (rb_df a).length ≤ h0.2.1 + R.slots := hroom.2
      have hN : (rb_df a).length = N := rb_df_len hqc
      subst hN
      refine va_new (D := D) (ci := a) (fs := rb_df a) (C := C) (T := T) (N := (rb_df a).length) hx hb hts (rb_lay_in hqc) (rb_tt a) (rb_tt_ok hqc) hown (hts _ w1) (hts _ w2) (hts _ w3) hK hI.1 hI.2.1 hI.2.2.1 hA hqc (rb_df_ok hqc) (by omega) (by omega) hd (fun q9 H1 hP1 hD1 hS1 => rb_Wsz (fun hz => ?_))
      obtain ⟨e9, hI1⟩ := rb_Inv.push (x := .inr (a, rb_df a)) (n := (rb_df a).length) (by show (Sum.inr (a, rb_df a) : va_E) = .inr (a, (rb_df a).map (rb_rv b)); rw [rb_df_rv]) hI hal1 hAb hz hP1 hD1 hS1
      subst e9
      exact kk H1 locs (cells + 1) (slots + (rb_df a).length) arr hI1 hL hlen
    · cases hs
  | newarray t =>
    obtain ⟨hd, hn, hm⟩ := rb_chk_dec hq rfl
    dsimp only at hn
    subst hn
    simp only [rb_step] at hs
    split at hs
    · obtain ⟨hal1, hAb, -⟩ := hal rfl
      obtain ⟨n, r, rfl, hn0, hn1, rfl⟩ := rb_nwa_inv hs
      have hc := hI.2.2.2.2.1
      have hc2 := hI.2.2.2.2.2
      have hr1 : h.1 + 1 ≤ h0.1 + R.cells := hroom.1
      have hr2 : h.2.1 + n.toNatClampNeg ≤ h0.2.1 + R.slots := hroom.2
      obtain ⟨ht7, hty, harr⟩ := rb_nwa_ok hm
      refine va_newa (D := D) (ty := rb_aty a) (a0 := (n.toNatClampNeg, .inl (fun _ => 0))) hx hb (hts _ harr) hty hK hI.1 hI.2.1 hI.2.2.1 hA (fun cX => rb_cell0 hm) hn0 rfl (rb_bytes hm hn1) (by omega) (by omega) hd (fun q9 cX H1 hK1 hP1 hD1 hS1 => rb_Wsz (fun hz => ?_))
      have hcX : cX = cA a := rb_sameA hK hK1 ht7
      subst hcX
      obtain ⟨e9, hI1⟩ := rb_Inv.push (x := .inl (a, n.toNatClampNeg, .inl (fun _ => 0))) (n := n.toNatClampNeg) rfl hI hal1 hAb hz hP1 hD1 hS1
      subst e9
      exact kk H1 locs (cells + 1) (slots + n.toNatClampNeg) arr hI1 hL hlen
    · cases hs
  | anewarray idx =>
    obtain ⟨hd, hn, hm⟩ := rb_chk_dec hq rfl
    dsimp only at hn
    subst hn
    simp only [rb_step] at hs
    split at hs
    · obtain ⟨hal1, hAb, hal2⟩ := hal rfl
      obtain ⟨n, r, rfl, hn0, hn1, rfl⟩ := rb_nwr_inv hs
      have hc := hI.2.2.2.2.1
      have hc2 := hI.2.2.2.2.2
      have hr1 : h.1 + 1 ≤ h0.1 + R.cells := hroom.1
      have hr2 : h.2.1 + n.toNatClampNeg ≤ h0.2.1 + R.slots := hroom.2
      obtain ⟨C, w1, w2, w3, w4⟩ := rb_aok_spec hm
      refine va_newq (D := D) (C := C) (N' := n.toNatClampNeg) hx hb hown (hts _ w1) (hal2.1 C w4) hK hI.1 hI.2.1 hI.2.2.1 hA hn0 rfl (by omega) (by omega) (by omega) hd (fun q9 cX H1 hK1 hP1 hD1 hS1 => rb_Wsz (fun hz => ?_))
      have hcX : cX = cA a := rb_sameA hK (by rw [w2]; exact hK1) w3
      subst hcX
      obtain ⟨e9, hI1⟩ := rb_Inv.push (x := .inl (a, n.toNatClampNeg, .inr (.inr (.inr (.inr (fun _ => none)))))) (n := n.toNatClampNeg) rfl hI hal1 hAb hz hP1 hD1 hS1
      subst e9
      exact kk H1 locs (cells + 1) (slots + n.toNatClampNeg) arr hI1 hL hlen
    · cases hs
  | multianewarray idx n =>
    obtain ⟨hd, hn, hm⟩ := rb_chk_dec hq rfl
    dsimp only at hn
    subst hn
    simp only [rb_step] at hs
    split at hs
    · obtain ⟨hal1, hAb, hal2⟩ := hal rfl
      obtain ⟨n1, n2, r, rfl, g1, g2, g3, g4, rfl⟩ := rb_nw2_inv hs
      simp only [rb_more, Bool.and_eq_true] at hm
      have e9 := Nat.eq_of_beq_eq_true hm.1
      subst e9
      have hc := hI.2.2.2.2.1
      have hc2 := hI.2.2.2.2.2
      have hr1 : h.1 + 1 + n1.toNatClampNeg ≤ h0.1 + R.cells := hroom.1
      have hr2 : h.2.1 + n1.toNatClampNeg + n1.toNatClampNeg * n2.toNatClampNeg ≤ h0.2.1 + R.slots := hroom.2
      refine rb_Wsz (fun hz => ?_)
      have hsz := rb_size hI hal1 hz
      refine rb_W2 hx hb hown (hts _ (rb_hasO_mem hm.2)) hal2.2.1 (hts _ rb_ai_in) g1 g2 g3 g4 hd (by omega) (by omega) (fun H1 cB cI hB hC z1 o1 a1 r1 => ?_)
      have k6 : s.vm.findClass "[[I" = some (cA 6) := (hK.2 6 _ (rb_tys_at cA (by decide))).2
      have k0 : s.vm.findClass "[I" = some (cA 0) := (hK.2 0 _ (rb_tys_at cA (by decide))).2
      cases hB.symm.trans k6
      cases hC.symm.trans k0
      have hI1 := hI.push2 hA hsz z1 o1 a1 r1
      rw [hsz]
      exact kk H1 locs _ _ arr hI1 hL hlen
    · cases hs
  | invokespecial idx =>
    obtain ⟨hd, hn, hm⟩ := rb_chk_dec hq rfl
    dsimp only at hn
    subst hn
    simp only [rb_step] at hs
    split at hs
    · rename_i h999
      split at hs
      · rename_i ad r
        split at hs
        · rename_i hr8
          split at hs
          · rename_i hra
            obtain rfl := rb_go_inv hs
            have hrl : r.length ≤ 8 := Nat.le_of_ble_eq_true hr8
            have hsum := rb_catsum (b := b) hra
            have hlk := rb_oi_spec (Nat.eq_of_beq_eq_true h999) hm
            refine W.objInit (g := F0 m pc arr (.ref (b + ad) :: r.map (rb_rv b))) hx hb hown (hts _ hlk) (hts _ rb_oi_inst) (hts _ rb_oi_code) rfl (by rw [hml]; exact hL.1.trans hlen) rfl hd hR.1 ?_ (kk H locs cells slots arr hI hL hlen)
            rw [hsum]
            show 2 * (F0 m pc arr (.ref (b + ad) :: r.map (rb_rv b))).monitorRoom + r.length + 12 ≤ R.locals
            have := lv_room (m := m) (pc := pc) (ls := arr) (rest := .ref (b + ad) :: r.map (rb_rv b)) (st := r.map (rb_rv b)) (by rw [hsum]; exact hrl)
            rw [hsum] at this
            omega
          · cases hs
        · cases hs
      · cases hs
    · split at hs
      · cases hs
      · split at hs
        · unfold rb_args at hs
          split at hs
          · split at hs
            · split at hs
              · cases hs
              · cases hs
            · cases hs
          · cases hs
        · cases hs
  | invokestatic idx =>
    simp only [rb_step] at hs
    unfold rb_args at hs
    split at hs
    · split at hs
      · split at hs
        · cases hs
        · cases hs
      · cases hs
    · cases hs
  | invokevirtual idx =>
    simp only [rb_step] at hs
    unfold rb_argV at hs
    split at hs
    · split at hs
      · split at hs
        · unfold rb_args at hs
          split at hs
          · split at hs
            · split at hs
              · cases hs
              · cases hs
            · cases hs
          · cases hs
        · cases hs
      · cases hs
    · cases hs
  | ireturn =>
    simp only [rb_step] at hs
    split at hs
    · split at hs
      · split at hs
        · cases hs
        · cases hs
      · cases hs
    · cases hs
  | areturn =>
    simp only [rb_step] at hs
    split at hs
    · split at hs
      · cases hs
      · cases hs
    · split at hs
      · cases hs
      · cases hs
    · cases hs
  | return_ =>
    simp only [rb_step] at hs
    split at hs
    · cases hs
    · cases hs
  | _ => cases hs
end RBY
