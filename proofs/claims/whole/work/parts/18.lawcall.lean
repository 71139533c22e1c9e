/-! a call of the law's -/
section LWC
variable {p : Program} {l : Launch} {e : Env} {s : State} {m : MethodId} {args : Array Value} {below : List Frame} {meth : Method} {c : Code} {H : Heap} {locs : List Loc} {cells slots : Nat} {Q : State → Prop}
variable {D : va_G} {cA : Nat → ClassId} {bb : Nat} {A : Nat → Prop} {h h' : rb_H} {pc : Nat} {arr : Array Slot} {own : String} {cc : ByteArray} {nL : Nat}
theorem lw_goodws {k idx : Nat} {C : String} (hk : k < rb_nm) (w1 : Cond.methodLink own idx (rb_y k) ∈ lw_tbl) (w2 : Cond.instanceMethod (rb_y k) ∈ lw_tbl) (w3 : Cond.selects C (rb_y k) (rb_y k) ∈ lw_tbl) (w4 : Cond.initialized C ∈ lw_tbl) : GoodIn lw_tbl (wsV own idx C (rb_y k) (rb_wsk k)) := by
  intro w hw
  unfold wsV at hw
  rcases List.mem_append.mp hw with h9 | h9
  · have : w = .methodLink own idx (rb_y k) ∨ w = .instanceMethod (rb_y k) ∨ w = .selects C (rb_y k) (rb_y k) ∨ w = .initialized C := by simpa using h9
    rcases this with rfl | rfl | rfl | rfl
    · exact ⟨w1, Or.inl rfl⟩
    · exact ⟨w2, Or.inl rfl⟩
    · exact ⟨w3, Or.inl rfl⟩
    · exact ⟨w4, Or.inl rfl⟩
  · rcases List.mem_cons.mp h9 with h8 | h8
    · subst h8
      exact ⟨rb_ws_tbl (rb_code_in hk), Or.inl rfl⟩
    · exact ⟨rb_ws_tbl h8, rb_ws_good w h8⟩
set_option maxHeartbeats 4000000 in
theorem lw_call {k idx np : Nat} {as rest fs : List Value} {r : Option Value} {qc : vw_C} (S : CallFix p m c cc nL s args lw_tbl own) (harr : arr.size = nL) (hd : decode cc pc = .ok (.invokevirtual idx, 3)) (hk : k < rb_nm) (hq : rb_cl[rb_mc k]? = some qc) (hcls : (rb_y k).cls = qc.1) (w1 : Cond.methodLink own idx (rb_y k) ∈ lw_tbl) (w2 : Cond.instanceMethod (rb_y k) ∈ lw_tbl) (w3 : Cond.selects qc.1 (rb_y k) (rb_y k) ∈ lw_tbl) (w4 : Cond.initialized qc.1 ∈ lw_tbl)
    (hy : (rb_y k).cls ≠ "java/lang/invoke/MethodHandle" ∧ (rb_y k).cls ≠ "java/lang/invoke/VarHandle" ∧ (parseMethodDescriptor (rb_y k).desc).map (fun d => d.parameters.length) = some np) (has : as.length = np) (hml : rb_ml k < 21)
    (hobj : h.2.2 0 = .inr (rb_mc k, fs)) (hrel : rb_rel false 8 k (.ref 0 :: as) h r h') (hsz : h'.1 = h.1 ∧ h'.2.1 = h.2.1) (hbl : ∀ i, h.1 ≤ i → h.2.2 i = rb_blank) (hK : va_K D rb_cl (rb_tys cA) s) (hP : va_P D rb_cl (rb_w bb cA h) H) (hD : va_D A (rb_w bb cA h)) (hS : va_S A s.heap H locs) (hA : ∀ q, s.heap.size ≤ q → A q) (hrest : (rest.map fun v => v.category).sum ≤ 8) (hcell : cells ≤ 600000 ∧ slots ≤ 7302250)
    (kk : ∀ (H1 : Heap) (locs1 : List Loc), va_P D rb_cl (rb_w bb cA h') H1 → va_D A (rb_w bb cA h') → va_S A s.heap H1 locs1 → (∀ q, q < H.size → ¬ va_A (rb_w bb cA h) H.size q → H1[q]? = H[q]?) → H.size ≤ H1.size → W p l e room_1 s m args below meth c H1 locs1 cells slots Q (F0 m (pc + 3) arr ((r.map (rb_rv bb)).toList ++ rest))) :
    W p l e room_1 s m args below meth c H locs cells slots Q (F0 m pc arr ((as.map (rb_rv bb)).reverse ++ .ref (bb + 0) :: rest)) := by
  have hM := rb_met (l := l) (D := D) (cA := cA) (b := bb) (al := false) 8 k (.ref 0 :: as) h r h' hrel hk hbl H.size
  rw [hsz.1, hsz.2, Nat.sub_self, Nat.sub_self] at hM
  have hAA : ∀ q, va_A (rb_w bb cA h) H.size q → A q := by
    rintro q (⟨i, e9, hi⟩ | h9)
    · exact hD.2 i _ hi
    · exact hA q (Nat.le_trans hS.1 h9)
  have hpre : ∀ U : State, U.heap = H → s.WarmedH U.vm → rb_Pc false D cA bb h (.ref 0 :: as) H.size ((Value.ref 0 :: as).map (rb_rv bb)).toArray U := by
    intro U hU hW
    exact ⟨rfl, by rw [hU], fun h9 => (by cases h9), by rw [hU]; exact hP, va_K.moved hW.alike hK, hD.weaken (fun _ _ _ _ => trivial)⟩
  have hrun := va_runV (Ts := lw_tbl) (C := qc.1) (b := bb + 0) (As := as.map (rb_rv bb)) (rest := rest) (g := F0 m pc arr ((as.map (rb_rv bb)).reverse ++ .ref (bb + 0) :: rest)) (H := H) (locs := locs) (cells := cells) (slots := slots) (below := below) (meth := meth) (e := e) (R := room_1) S hM (cwV np S.2.2.2.2 (lw_goodws hk w1 w2 w3 w4) rfl rfl rfl ⟨hcls, hy⟩ ⟨by show 8 + 1 ≤ 10; omega, by show 8 + (rb_ml k + 11) + 40 * 8 ≤ 378; omega⟩) ⟨rb_blind, va_recv hK hP hq (rb_atO hobj (rb_inO hbl hobj (rb_clt hq))), hpre⟩ rfl (by rw [List.length_map]; exact has) harr rfl (lv_room hrest) hd ⟨by show cells + 0 ≤ 600000; omega, by show slots + 0 ≤ 7302250; omega⟩
  intro T hT X
  obtain ⟨v, st₀, t, T', Lc, g0, X', hLc, e1, e2, ⟨⟨hv, hP1, hD1⟩, hz, hkp⟩, go⟩ := hrun T hT X
  cases hv
  rw [g0] at hz hkp
  obtain ⟨t2, a1, b1⟩ := kk T'.heap (locs ++ Lc) (by rw [e1]; exact hP1) (hD1.weaken (fun i q _ h9 => hAA _ h9))
    ⟨Nat.le_trans hS.1 (by rw [e1]; exact hz), fun q h8 h9 => by rw [e1, hkp q (Nat.lt_of_lt_of_le h8 hS.1) (fun z => h9 (hAA q z))]; exact hS.2.1 q h8 h9, fun q hq => by
      rcases List.mem_append.mp hq with h9 | h9
      · exact hS.2.2 q h9
      · exact hAA _ (hLc q h9)⟩ (fun q h8 h9 => by rw [e1]; exact hkp q h8 h9) (by rw [e1]; exact hz) T' rfl X'
  exact ⟨t2, go t2 a1, b1⟩
end LWC
