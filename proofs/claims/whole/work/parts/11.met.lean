theorem rb_chk_put {k pc : Nat} {q : rb_I} (h : rb_chk k pc q = true) : ∀ idx, q.1 = .putfield idx → q.2.2.1 < 1000 := by
  intro idx hi
  obtain ⟨i, nx, a, b, kc⟩ := q
  dsimp only at hi
  subst hi
  obtain ⟨-, -, hm⟩ := rb_chk_dec h rfl
  have hm := (Bool.and_eq_true _ _).mp hm
  obtain ⟨q, hq, -⟩ := rb_fok_spec hm.1
  exact rb_clt hq
theorem rb_ex_le {C : Nat → List Value → rb_H → Option Value → rb_H → Prop} {al : Bool} {k : Nat} (hC : ∀ k as h v h1, C k as h v h1 → rb_le h h1) : ∀ (n pc : Nat) (ls st : List Value) (h : rb_H) (r : Option Value) (h' : rb_H), rb_ex C al k n pc ls st h r h' → rb_le h h'
  | 0, _, _, _, _, _, _, hx => hx.elim
  | n + 1, pc, ls, st, h, r, h', hx => by
    unfold rb_ex at hx
    split at hx
    · exact hx.elim
    · rename_i q hq
      split at hx
      · exact hx.elim
      · rename_i x hs
        exact (rb_step_le (rb_chk_put (rb_ins_ok hq)) hs).tr (rb_ex_le hC n _ _ _ _ _ _ hx)
      · obtain ⟨-, v, h1, hc, hx⟩ := hx
        exact (hC _ _ _ _ _ hc).tr (rb_ex_le hC n _ _ _ _ _ _ hx)
      · obtain ⟨-, -, rfl⟩ := hx
        exact rb_le.rf _
theorem rb_rel_le {al : Bool} : ∀ (d k : Nat) (as : List Value) (h : rb_H) (r : Option Value) (h' : rb_H), rb_rel al d k as h r h' → rb_le h h'
  | 0, _, _, _, _, _, hx => hx.elim
  | d + 1, k, as, h, r, h', hx => by
    obtain ⟨-, -, n, hx⟩ := hx
    exact rb_ex_le (fun k as h v h1 hc => rb_rel_le d k as h v h1 hc) n _ _ _ _ _ _ hx
def rb_rm (d mc ms : Nat) : Room := { frames := d, cells := mc, slots := ms, locals := 40 * d }
def rb_wsk (k : Nat) : List Cond := .code (rb_y k) (rb_b k) (rb_ml k) (rb_rt k) :: rb_ws
def rb_Pc (al : Bool) (D : va_G) (cA : Nat → ClassId) (b : Nat) (h : rb_H) (as : List Value) (sz : Nat) : Array Value → State → Prop := va_Pc (as.map (rb_rv b)) (fun U => U.heap.size = sz ∧ (al = true → sz = b + h.1 ∧ rb_E U) ∧ va_P D rb_cl (rb_w b cA h) U.heap ∧ va_K D rb_cl (rb_tys cA) U ∧ va_D (fun _ => True) (rb_w b cA h))
def rb_Qc (D : va_G) (cA : Nat → ClassId) (b : Nat) (h : rb_H) (sz : Nat) (r : Option Value) (h' : rb_H) : Array Value → State → Outcome → State → Prop := fun _ st oc t => (oc = .returned (r.map (rb_rv b)) ∧ va_P D rb_cl (rb_w b cA h') t.heap ∧ va_D (va_A (rb_w b cA h) sz) (rb_w b cA h')) ∧ va_F (va_A (rb_w b cA h) sz) st t
theorem rb_good_in {k a : Nat} (ha : a < rb_nm) : GoodIn (rb_wsk k) (rb_wsk a) := by
  intro w hw
  rcases List.mem_cons.mp hw with h | h
  · subst h
    exact ⟨List.mem_cons_of_mem _ (rb_code_in ha), Or.inl rfl⟩
  · exact ⟨List.mem_cons_of_mem _ h, rb_ws_good w h⟩
theorem rb_cok_spec {a np : Nat} (h : rb_cok a np = true) : a < rb_nm ∧ Cond.initialized (rb_y a).cls ∈ rb_ws ∧ ((rb_y a).cls ≠ "java/lang/invoke/MethodHandle" ∧ (rb_y a).cls ≠ "java/lang/invoke/VarHandle" ∧ (parseMethodDescriptor (rb_y a).desc).map (fun d => d.parameters.length) = some np) ∧ rb_ml a < 21 := by
  unfold rb_cok at h
  simp only [Bool.and_eq_true] at h
  obtain ⟨⟨⟨⟨⟨h1, h3⟩, h4⟩, h5⟩, h6⟩, h7⟩ := h
  exact ⟨rb_blt h1, rb_hasO_mem h3, ⟨of_decide_eq_true h4, of_decide_eq_true h5, of_decide_eq_true h6⟩, rb_blt h7⟩
section RBM
variable {p : Program} {l : Launch} {e : Env} {R : Room} {s : State} {m : MethodId} {args : Array Value} {below : List Frame} {meth : Method} {c : Code} {H : Heap} {locs : List Loc} {cells slots : Nat} {Q : State → Prop}
variable {D : va_G} {cA : Nat → ClassId} {b : Nat} {A : Nat → Prop} {h0 h : rb_H} {k pc : Nat} {ls st : List Value} {arr : Array Slot} {al : Bool}
/-- behind a call -/
theorem rb_after {rest : List Value} {a : Array Value} {sz mc ms : Nat} {r : Option Value} {h1 : rb_H} {st0 : List Value} {free : Addr → Prop} (hr : va_Run p l e R s m args below meth c H locs cells slots mc ms (F0 m pc arr st0) rest (rb_Qc D cA b h sz r h1 a) free) (hS : va_S A s.heap H locs) (hA : ∀ q, va_A (rb_w b cA h) sz q → A q) (hf : ∀ q, free q → A q)
    (kk : ∀ (H1 : Heap) (locs1 : List Loc), va_P D rb_cl (rb_w b cA h1) H1 → va_D A (rb_w b cA h1) → va_S A s.heap H1 locs1 → W p l e R s m args below meth c H1 locs1 (cells + mc) (slots + ms) Q (F0 m (pc + 3) arr ((r.map (rb_rv b)).toList ++ rest))) : W p l e R s m args below meth c H locs cells slots Q (F0 m pc arr st0) := by
  intro T hT X
  obtain ⟨v, st₀, t, T', L, g0, X', hL, e1, e2, ⟨⟨hv, hP, hD⟩, hz, hk⟩, go⟩ := hr T hT X
  cases hv
  rw [g0] at hz hk
  obtain ⟨t2, a1, b1⟩ := kk T'.heap (locs ++ L) (by rw [e1]; exact hP) (hD.weaken (fun i q _ h9 => hA _ h9))
    ⟨Nat.le_trans hS.1 (by rw [e1]; exact hz), fun q h8 h9 => by rw [e1, hk q (Nat.lt_of_lt_of_le h8 hS.1) (fun z => h9 (hA q z))]; exact hS.2.1 q h8 h9, fun q hq => by
      rcases List.mem_append.mp hq with h9 | h9
      · exact hS.2.2 q h9
      · exact hf _ (hL q h9)⟩ T' rfl X'
  exact ⟨t2, go t2 a1, b1⟩
end RBM
theorem rb_E.moved {s U : State} (hW : s.WarmedH U.vm) (h : rb_E s) : rb_E U := by
  refine ⟨fun C hC => va_AO.moved hW.alike (h.1 C hC), ?_, ?_⟩
  · exact over_moved hW.alike h.2.1
  · intro w hw
    have h9 := h.2.2 w hw
    have hc : w = .methodLinkNest "RingBridges$Node" 17 ⟨"RingBridges$Frame", "<init>", "()V"⟩ "RingBridges" ∨ w = .methodLinkNest "RingBridges$Signal" 11 ⟨"RingBridges$Frame", "<init>", "()V"⟩ "RingBridges" := by simpa [rb_wN] using hw
    rcases hc with rfl | rfl
    · exact va_Nw.warmM hW h9
    · exact va_Nw.warmM hW h9
theorem rb_E.call {U : State} {g : JFrame} {mk : MethodId} {a : Array Value} (h : rb_E U) : rb_E (U.calling g mk a) := by
  refine ⟨fun C hC => va_AO.moved (u := U) (U := U.calling g mk a) (Vm.Alike.refl U.vm) (h.1 C hC), over_moved (Vm.Alike.refl U.vm) h.2.1, ?_⟩
  intro w hw
  have h9 := h.2.2 w hw
  have hc : w = .methodLinkNest "RingBridges$Node" 17 ⟨"RingBridges$Frame", "<init>", "()V"⟩ "RingBridges" ∨ w = .methodLinkNest "RingBridges$Signal" 11 ⟨"RingBridges$Frame", "<init>", "()V"⟩ "RingBridges" := by simpa [rb_wN] using hw
  rcases hc with rfl | rfl
  · exact va_Nw.same rfl rfl h9
  · exact va_Nw.same rfl rfl h9
theorem rb_blind {al : Bool} {D : va_G} {cA : Nat → ClassId} {b : Nat} {h : rb_H} {as : List Value} {sz : Nat} : FrameBlind (rb_Pc al D cA b h as sz) := by
  intro a U g mk q
  obtain ⟨q0, q1, q2, qP, qK, qD⟩ := q
  exact ⟨q0, q1, fun h9 => ⟨(q2 h9).1, (q2 h9).2.call⟩, qP, va_K.moved (u := U) (U := U.calling g mk a) (Vm.Alike.refl U.vm) qK, qD⟩
section RBN
variable {p : Program} {l : Launch} {e : Env} {R : Room} {s : State} {m : MethodId} {args : Array Value} {below : List Frame} {meth : Method} {c : Code} {H : Heap} {locs : List Loc} {cells slots : Nat} {Q : State → Prop}
variable {D : va_G} {cA : Nat → ClassId} {b : Nat} {A : Nat → Prop} {h0 h : rb_H} {k pc : Nat} {ls st : List Value} {arr : Array Slot} {al : Bool}
theorem rb_pre {as : List Value} (hK : va_K D rb_cl (rb_tys cA) s) (hI : rb_Inv D cA b A s.heap h0 h H locs cells slots) (hal : al = true → H.size = b + h.1 ∧ rb_E s) : ∀ U : State, U.heap = H → s.WarmedH U.vm → rb_Pc al D cA b h as H.size (as.map (rb_rv b)).toArray U := by
  intro U hU hW
  exact ⟨rfl, by rw [hU], fun h9 => ⟨(hal h9).1, (hal h9).2.moved hW⟩, by rw [hU]; exact hI.1, va_K.moved hW.alike hK, hI.2.1.weaken (fun _ _ _ _ => trivial)⟩
theorem rb_args_inv {ms n : Nat} {x : Nat × List Value × List Value} (hs : rb_args ms n ls st h = some (.inr (.inl x))) : n ≤ st.length ∧ (st.drop n).length ≤ 8 ∧ (st.drop n).all rb_ok = true ∧ x = (ms, (st.take n).reverse, st.drop n) := by
  unfold rb_args at hs
  split at hs
  · rename_i h1
    split at hs
    · rename_i h2
      split at hs
      · rename_i h3
        exact ⟨Nat.le_of_ble_eq_true h1, Nat.le_of_ble_eq_true h2, h3, (Sum.inl.inj (Sum.inr.inj (Option.some.inj hs))).symm⟩
      · cases hs
    · cases hs
  · cases hs
theorem rb_stk (b n : Nat) (st : List Value) : st.map (rb_rv b) = (((st.take n).reverse).map (rb_rv b)).reverse ++ (st.drop n).map (rb_rv b) := by
  rw [← List.map_reverse, List.reverse_reverse, ← List.map_append, List.take_append_drop]
theorem rb_ret (b : Nat) (v : Option Value) (r : List Value) : (v.toList ++ r).map (rb_rv b) = (v.map (rb_rv b)).toList ++ r.map (rb_rv b) := by
  cases v <;> rfl
set_option maxHeartbeats 4000000 in
theorem rb_callW {d : Nat} (hx : p.tables.exec = Jvm.exec) (hb : c.code = rb_b k) (hml : c.maxLocals = rb_ml k) (hts : ∀ w ∈ rb_wsk k, w.before args s = true) (hown : s.vm.findClass (rb_on k) = some m.cls) (hK : va_K D rb_cl (rb_tys cA) s)
    (hA : ∀ q, s.heap.size ≤ q → A q) (hR : d + 1 ≤ R.frames ∧ 40 * (d + 1) ≤ R.locals) (hal : al = true → s.heap.size = b + h0.1 ∧ rb_E s)
    {q : rb_I} (hq : rb_chk k pc q = true) (hiv : rb_isinv q.1 = true) {x : Nat × List Value × List Value} (hs : rb_step k al q.1 q.2.1 q.2.2.1 q.2.2.2.1 q.2.2.2.2 ls st h = some (.inr (.inl x)))
    (hI : rb_Inv D cA b A s.heap h0 h H locs cells slots) (hL : rb_L b ls arr) (hlen : ls.length = rb_ml k) {v : Option Value} {h1 : rb_H} (hle : rb_le h h1) (hroom : h1.1 ≤ h0.1 + R.cells ∧ h1.2.1 ≤ h0.2.1 + R.slots)
    (hM : x.1 < rb_nm → ∀ sz : Nat, Met l (rb_y x.1) (rb_wsk x.1) (rb_rm d (h1.1 - h.1) (h1.2.1 - h.2.1)) (rb_Pc al D cA b h x.2.1 sz) (rb_Qc D cA b h sz v h1) (h1.1 - h.1) (h1.2.1 - h.2.1) (va_A (rb_w b cA h) sz))
    (kk : ∀ (H1 : Heap) (locs1 : List Loc) (cells1 slots1 : Nat), rb_Inv D cA b A s.heap h0 h1 H1 locs1 cells1 slots1 → W p l e R s m args below meth c H1 locs1 cells1 slots1 Q (F0 m q.2.1 arr ((v.toList ++ x.2.2).map (rb_rv b)))) :
    W p l e R s m args below meth c H locs cells slots Q (F0 m pc arr (st.map (rb_rv b))) := by
  obtain ⟨i, nx, a, b', kc⟩ := q
  refine rb_Wsz (fun hz => ?_)
  have hal2 : al = true → H.size = b + h.1 ∧ rb_E s := fun h9 => ⟨rb_size hI (hal h9).1 hz, (hal h9).2⟩
  have hts2 : ∀ w ∈ rb_ws, w.before args s = true := fun w hw => hts w (List.mem_cons_of_mem _ hw)
  have hAA : ∀ q, va_A (rb_w b cA h) H.size q → A q := by
    rintro q (⟨i, e9, hi⟩ | h9)
    · exact hI.2.1.2 i _ hi
    · exact hA q (Nat.le_trans hI.2.2.1.1 h9)
  have hcl := hI.2.2.2.2.1
  have hsl := hI.2.2.2.2.2
  have hle1 := hle.1
  have hle2 := hle.2.1
  have hroom1 := hroom.1
  have hroom2 := hroom.2
  have hfin : ∀ (H1 : Heap) (locs1 : List Loc), va_P D rb_cl (rb_w b cA h1) H1 → va_D A (rb_w b cA h1) → va_S A s.heap H1 locs1 → rb_Inv D cA b A s.heap h0 h1 H1 locs1 (cells + (h1.1 - h.1)) (slots + (h1.2.1 - h.2.1)) :=
    fun H1 locs1 hP1 hD1 hS1 => ⟨hP1, hD1, hS1, hle.2.2 hI.2.2.2.1, by omega, by omega⟩
  have hcf : cells + (h1.1 - h.1) ≤ R.cells ∧ slots + (h1.2.1 - h.2.1) ≤ R.slots := ⟨by omega, by omega⟩
  cases i with
  | invokestatic idx =>
    obtain ⟨hd, hn, hm⟩ := rb_chk_dec hq rfl
    dsimp only at hn
    subst hn
    simp only [rb_step] at hs
    obtain ⟨g1, g2, g3, rfl⟩ := rb_args_inv hs
    simp only [rb_more, Bool.and_eq_true] at hm
    obtain ⟨⟨⟨hm1, hm9⟩, hm2⟩, hm3⟩ := hm
    obtain ⟨c1, c3, c4, c5⟩ := rb_cok_spec hm1
    have c2 : Cond.methodLink (rb_on k) idx (rb_y a) ∈ rb_ws := rb_hasM_mem hm9
    have hcl2 : (rb_y a).cls = rb_on k := of_decide_eq_true hm2
    have hG : GoodIn (rb_wsk k) (wsS (rb_on k) idx (rb_y a) (rb_wsk a)) := by
      intro w hw
      unfold wsS at hw
      rcases List.mem_append.mp hw with h9 | h9
      · have : w = .methodLink (rb_on k) idx (rb_y a) ∨ w = .static (rb_y a) ∨ w = .initialized (rb_on k) := by simpa using h9
        rcases this with rfl | rfl | rfl
        · exact ⟨List.mem_cons_of_mem _ c2, rb_ws_good _ c2⟩
        · exact ⟨List.mem_cons_of_mem _ (rb_hasV_mem hm3), rb_ws_good _ (rb_hasV_mem hm3)⟩
        · rw [hcl2] at c3
          exact ⟨List.mem_cons_of_mem _ c3, rb_ws_good _ c3⟩
      · exact rb_good_in c1 w h9
    have hrun := va_runS (Ts := rb_wsk k) (As := ((st.take b').reverse).map (rb_rv b)) (rest := (st.drop b').map (rb_rv b)) (g := F0 m pc arr (st.map (rb_rv b))) (H := H) (locs := locs) (cells := cells) (slots := slots) (below := below) (meth := meth) (e := e) (R := R) ⟨hx, hb, hml, hown, hts⟩ (hM c1 H.size) (cwS b' hts hG rfl rfl rfl ⟨hcl2, c4⟩ ⟨by show d + 1 ≤ R.frames; exact hR.1, by show 8 + (rb_ml a + 11) + 40 * d ≤ R.locals; omega⟩) ⟨rb_blind, rb_pre hK hI hal2⟩ rfl (by rw [List.length_map, List.length_reverse, List.length_take]; omega) (hL.1.trans hlen) (rb_stk b b' st) (lv_room (by rw [rb_catsum g3]; exact g2)) hd hcf
    refine rb_after hrun hI.2.2.1 hAA hAA (fun H1 locs1 hP1 hD1 hS1 => ?_)
    have := kk H1 locs1 _ _ (hfin H1 locs1 hP1 hD1 hS1)
    rw [rb_ret] at this
    exact this
  | invokevirtual idx =>
    obtain ⟨hd, hn, hm⟩ := rb_chk_dec hq rfl
    dsimp only at hn
    subst hn
    simp only [rb_step] at hs
    unfold rb_argV at hs
    split at hs
    · rename_i ad As hAs
      split at hs
      · rename_i cc fs he
        split at hs
        · rename_i hcc
          have hcc := Nat.eq_of_beq_eq_true hcc
          subst hcc
          obtain ⟨g1, g2, g3, rfl⟩ := rb_args_inv hs
          simp only [rb_more, Bool.and_eq_true] at hm
          obtain ⟨⟨⟨hm0, hm1⟩, hm9⟩, hm2⟩ := hm
          obtain ⟨c1, c3, c4, c5⟩ := rb_cok_spec hm1
          have c2 : Cond.methodLink (rb_on k) idx (rb_y a) ∈ rb_ws := rb_hasM_mem hm9
          unfold rb_vok at hm2
          split at hm2
          · rename_i qc hqc
            rw [Bool.and_eq_true, Bool.and_eq_true] at hm2
            obtain ⟨⟨v1, v2⟩, v3⟩ := hm2
            have v1 : (rb_y a).cls = qc.1 := of_decide_eq_true v1
            have hG : GoodIn (rb_wsk k) (wsV (rb_on k) idx qc.1 (rb_y a) (rb_wsk a)) := by
              intro w hw
              unfold wsV at hw
              rcases List.mem_append.mp hw with h9 | h9
              · have : w = .methodLink (rb_on k) idx (rb_y a) ∨ w = .instanceMethod (rb_y a) ∨ w = .selects qc.1 (rb_y a) (rb_y a) ∨ w = .initialized qc.1 := by simpa using h9
                rcases this with rfl | rfl | rfl | rfl
                · exact ⟨List.mem_cons_of_mem _ c2, rb_ws_good _ c2⟩
                · exact ⟨List.mem_cons_of_mem _ (rb_hasV_mem v3), rb_ws_good _ (rb_hasV_mem v3)⟩
                · exact ⟨List.mem_cons_of_mem _ (rb_hasV_mem v2), rb_ws_good _ (rb_hasV_mem v2)⟩
                · rw [v1] at c3
                  exact ⟨List.mem_cons_of_mem _ c3, rb_ws_good _ c3⟩
              · exact rb_good_in c1 w h9
            have hb0 : 0 < b' := rb_blt hm0
            have hst : st.map (rb_rv b) = (As.map (rb_rv b)).reverse ++ .ref (b + ad) :: (st.drop b').map (rb_rv b) := by
              rw [rb_stk b b' st, hAs]
              simp [rb_rv]
            have hAl : As.length + 1 = b' := by
              have := congrArg List.length hAs
              rw [List.length_reverse, List.length_take, List.length_cons] at this
              omega
            have hpc := rb_pre (al := al) (as := (st.take b').reverse) hK hI hal2
            rw [hAs] at hpc
            have hM9 := hM c1 H.size
            dsimp only at hM9
            rw [hAs] at hM9
            have hrun := va_runV (Ts := rb_wsk k) (C := qc.1) (b := b + ad) (As := As.map (rb_rv b)) (rest := (st.drop b').map (rb_rv b)) (g := F0 m pc arr (st.map (rb_rv b))) (H := H) (locs := locs) (cells := cells) (slots := slots) (below := below) (meth := meth) (e := e) (R := R) ⟨hx, hb, hml, hown, hts⟩ hM9 (cwV (b' - 1) hts hG rfl rfl rfl ⟨v1, c4⟩ ⟨by show d + 1 ≤ R.frames; exact hR.1, by show 8 + (rb_ml a + 11) + 40 * d ≤ R.locals; omega⟩) ⟨rb_blind, va_recv hK hI.1 hqc (rb_atO he (rb_inO hI.2.2.2.1 he (rb_clt hqc))), hpc⟩ rfl (by rw [List.length_map]; omega) (hL.1.trans hlen) hst (lv_room (by rw [rb_catsum g3]; exact g2)) hd hcf
            refine rb_after hrun hI.2.2.1 hAA hAA (fun H1 locs1 hP1 hD1 hS1 => ?_)
            have := kk H1 locs1 _ _ (hfin H1 locs1 hP1 hD1 hS1)
            rw [rb_ret] at this
            exact this
          · cases hm2
        · cases hs
      · cases hs
    · cases hs
  | invokespecial idx =>
    obtain ⟨hd, hn, hm⟩ := rb_chk_dec hq rfl
    dsimp only at hn
    subst hn
    simp only [rb_step] at hs
    split at hs
    · split at hs
      · split at hs
        · split at hs
          · cases hs
          · cases hs
        · cases hs
      · cases hs
    · rename_i h999
      split at hs
      · cases hs
      · rename_i hkc
        split at hs
        · rename_i ad As hAs
          obtain ⟨g1, g2, g3, rfl⟩ := rb_args_inv hs
          simp only [rb_more, Bool.or_eq_true, Bool.and_eq_true] at hm
          rcases hm with hm | hm
          · rw [hm.1] at h999
            cases h999
          · obtain ⟨⟨⟨⟨⟨hm0, hm1⟩, hm9⟩, hm2⟩, hm3⟩, hm4⟩ := hm
            obtain ⟨c1, c3, c4, c5⟩ := rb_cok_spec hm1
            have hrt : rb_rt a = none := of_decide_eq_true hm4
            have hb0 : 0 < b' := rb_blt hm0
            have hst : st.map (rb_rv b) = (As.map (rb_rv b)).reverse ++ .ref (b + ad) :: (st.drop b').map (rb_rv b) := by
              rw [rb_stk b b' st, hAs]
              simp [rb_rv]
            have hAl : As.length + 1 = b' := by
              have := congrArg List.length hAs
              rw [List.length_reverse, List.length_take, List.length_cons] at this
              omega
            have hpc := rb_pre (al := al) (as := (st.take b').reverse) hK hI hal2
            rw [hAs] at hpc
            have hM9 := hM c1 H.size
            dsimp only at hM9
            rw [hAs] at hM9
            rcases hm9 with hm9 | hm9
            · have c2 : Cond.methodLink (rb_on k) idx (rb_y a) ∈ rb_ws := rb_hasM_mem hm9.2
              have hrun := va_runI (Ts := rb_wsk k) (bytes := rb_b a) (maxL := rb_ml a) (b := b + ad) (As := As.map (rb_rv b)) (rest := (st.drop b').map (rb_rv b)) (g := F0 m pc arr (st.map (rb_rv b))) (H := H) (locs := locs) (cells := cells) (slots := slots) (below := below) (meth := meth) (e := e) (R := R) ⟨hx, hb, hml, hown, hts⟩ hM9 (cwI (b' - 1) hts (rb_good_in c1) (by unfold rb_wsk; rw [hrt]) rfl rfl (hts2 _ c3) (hts2 _ c2) (hts2 _ (rb_hasV_mem hm3)) (of_decide_eq_true hm2) c4 ⟨by show d + 1 ≤ R.frames; exact hR.1, by show 8 + (rb_ml a + 11) + 40 * d ≤ R.locals; omega⟩) ⟨rb_blind, hpc⟩ rfl (by rw [List.length_map]; omega) (hL.1.trans hlen) hst (lv_room (by rw [rb_catsum g3]; exact g2)) hd hcf
              refine rb_after hrun hI.2.2.1 hAA hAA (fun H1 locs1 hP1 hD1 hS1 => ?_)
              have := kk H1 locs1 _ _ (hfin H1 locs1 hP1 hD1 hS1)
              rw [rb_ret] at this
              exact this
            · have hal9 : al = true := by
                rw [hm9.1] at hkc
                cases al
                · cases hkc
                · rfl
              have c2 : va_Nw (.methodLinkNest (rb_on k) idx (rb_y a) "RingBridges") s := (hal hal9).2.2.2 _ (rb_hasN_mem hm9.2)
              have hrun := va_runIN (Ts := rb_wsk k) (bytes := rb_b a) (maxL := rb_ml a) (b := b + ad) (As := As.map (rb_rv b)) (rest := (st.drop b').map (rb_rv b)) (g := F0 m pc arr (st.map (rb_rv b))) (H := H) (locs := locs) (cells := cells) (slots := slots) (below := below) (meth := meth) (e := e) (R := R) ⟨hx, hb, hml, hown, hts⟩ hM9 ⟨va_cnB (b' - 1) hts (rb_good_in c1) (by unfold rb_wsk; rw [hrt]) rfl rfl c2 (hts2 _ c3) c4 ⟨by show d + 1 ≤ R.frames; exact hR.1, by show 8 + (rb_ml a + 11) + 40 * d ≤ R.locals; omega⟩, of_decide_eq_true hm2, hts2 _ (rb_hasV_mem hm3)⟩ ⟨rb_blind, hpc⟩ rfl (by rw [List.length_map]; omega) (hL.1.trans hlen) hst (lv_room (by rw [rb_catsum g3]; exact g2)) hd hcf
              refine rb_after hrun hI.2.2.1 hAA hAA (fun H1 locs1 hP1 hD1 hS1 => ?_)
              have := kk H1 locs1 _ _ (hfin H1 locs1 hP1 hD1 hS1)
              rw [rb_ret] at this
              exact this
        · cases hs
  | _ => cases hiv
end RBN
