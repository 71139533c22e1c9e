/-! the law's two objects -/
section LWN
variable {p : Program} {l : Launch} {e : Env} {s : State} {m : MethodId} {args : Array Value} {below : List Frame} {meth : Method} {c : Code} {H : Heap} {locs : List Loc} {cells slots : Nat} {Q : State → Prop}
variable {D : va_G} {cA : Nat → ClassId} {bb : Nat} {A : Nat → Prop} {h h' : rb_H} {pc : Nat} {arr : Array Slot} {own : String} {cc : ByteArray} {nL : Nat}
set_option maxHeartbeats 4000000 in
theorem lw_callI {k idx d : Nat} {rest : List Value} (S : CallFix p m c cc nL s args lw_tbl own) (harr : arr.size = nL) (hd : decode cc pc = .ok (.invokespecial idx, 3)) (hk : k < rb_nm) (hnm : (rb_y k).name = "<init>") (hrt : rb_rt k = none) (w1 : Cond.methodLink own idx (rb_y k) ∈ lw_tbl) (w2 : Cond.instanceMethod (rb_y k) ∈ lw_tbl) (w3 : Cond.initialized (rb_y k).cls ∈ lw_tbl)
    (hy : (rb_y k).cls ≠ "java/lang/invoke/MethodHandle" ∧ (rb_y k).cls ≠ "java/lang/invoke/VarHandle" ∧ (parseMethodDescriptor (rb_y k).desc).map (fun d => d.parameters.length) = some 0) (hml : rb_ml k < 21) (hd8 : d ≤ 8)
    (hrel : rb_rel true d k [.ref 0] h none h') (hbl : ∀ i, h.1 ≤ i → h.2.2 i = rb_blank) (hK : va_K D rb_cl (rb_tys cA) s) (hE : rb_E s) (hsz : H.size = bb + h.1) (hP : va_P D rb_cl (rb_w bb cA h) H) (hD : va_D A (rb_w bb cA h)) (hS : va_S A s.heap H locs) (hA : ∀ q, s.heap.size ≤ q → A q) (hrest : (rest.map fun v => v.category).sum ≤ 8) (hcell : cells + (h'.1 - h.1) ≤ 600000 ∧ slots + (h'.2.1 - h.2.1) ≤ 7302250)
    (kk : ∀ (H1 : Heap) (locs1 : List Loc), va_P D rb_cl (rb_w bb cA h') H1 → va_S A s.heap H1 locs1 → (∀ q, q < H.size → ¬ va_A (rb_w bb cA h) H.size q → H1[q]? = H[q]?) → W p l e room_1 s m args below meth c H1 locs1 (cells + (h'.1 - h.1)) (slots + (h'.2.1 - h.2.1)) Q (F0 m (pc + 3) arr rest)) :
    W p l e room_1 s m args below meth c H locs cells slots Q (F0 m pc arr (.ref (bb + 0) :: rest)) := by
  have hM := rb_met (l := l) (D := D) (cA := cA) (b := bb) (al := true) d k [.ref 0] h none h' hrel hk hbl H.size
  have hAA : ∀ q, va_A (rb_w bb cA h) H.size q → A q := by
    rintro q (⟨i, e9, hi⟩ | h9)
    · exact hD.2 i _ hi
    · exact hA q (Nat.le_trans hS.1 h9)
  have hpre : ∀ U : State, U.heap = H → s.WarmedH U.vm → rb_Pc true D cA bb h [.ref 0] H.size (([Value.ref 0] : List Value).map (rb_rv bb)).toArray U := by
    intro U hU hW
    exact ⟨rfl, by rw [hU], fun _ => ⟨hsz, hE.moved hW⟩, by rw [hU]; exact hP, va_K.moved hW.alike hK, hD.weaken (fun _ _ _ _ => trivial)⟩
  have hgood : GoodIn lw_tbl (rb_wsk k) := by
    intro w hw
    rcases List.mem_cons.mp hw with h8 | h8
    · subst h8
      exact ⟨rb_ws_tbl (rb_code_in hk), Or.inl rfl⟩
    · exact ⟨rb_ws_tbl h8, rb_ws_good w h8⟩
  have hrun := va_runI (Ts := lw_tbl) (bytes := rb_b k) (maxL := rb_ml k) (b := bb + 0) (As := []) (rest := rest) (g := F0 m pc arr (.ref (bb + 0) :: rest)) (H := H) (locs := locs) (cells := cells) (slots := slots) (below := below) (meth := meth) (e := e) (R := room_1) S hM (cwI 0 S.2.2.2.2 hgood (by unfold rb_wsk; rw [hrt]) rfl rfl (S.2.2.2.2 _ w3) (S.2.2.2.2 _ w1) (S.2.2.2.2 _ w2) hnm hy ⟨by show d + 1 ≤ 10; omega, by show 8 + (rb_ml k + 11) + 40 * d ≤ 378; omega⟩) ⟨rb_blind, hpre⟩ rfl rfl harr rfl (lv_room hrest) hd hcell
  intro T hT X
  obtain ⟨v, st₀, t, T', Lc, g0, X', hLc, e1, e2, ⟨⟨hv, hP1, hD1⟩, hz, hkp⟩, go⟩ := hrun T hT X
  cases hv
  rw [g0] at hz hkp
  obtain ⟨t2, a1, b1⟩ := kk T'.heap (locs ++ Lc) (by rw [e1]; exact hP1)
    ⟨Nat.le_trans hS.1 (by rw [e1]; exact hz), fun q h8 h9 => by rw [e1, hkp q (Nat.lt_of_lt_of_le h8 hS.1) (fun z => h9 (hAA q z))]; exact hS.2.1 q h8 h9, fun q hq => by
      rcases List.mem_append.mp hq with h9 | h9
      · exact hS.2.2 q h9
      · exact hAA _ (hLc q h9)⟩ (fun q h8 h9 => by rw [e1]; exact hkp q h8 h9) T' rfl X'
  exact ⟨t2, go t2 a1, b1⟩
end LWN
def rb_yC : Option (Option Value × rb_H) := rb_fn true 3000 5 0 [.ref 0] rb_hC0
def rb_yR : Option (Option Value × rb_H) := rb_fn true 1000 2 43 [.ref 0] rb_hR0
def rb_hC1 : rb_H := (rb_yC.getD (none, rb_hC0)).2
def rb_hR1 : rb_H := (rb_yR.getD (none, rb_hR0)).2
theorem rb_conv {y : Option (Option Value × rb_H)} {d : Option Value × rb_H} {a b : Nat} (h : y.map (fun y => (y.1, y.2.1, y.2.2.1)) = some (none, a, b)) : y = some (none, (y.getD d).2) ∧ (y.getD d).2.1 = a ∧ (y.getD d).2.2.1 = b := by
  cases y with
  | none => cases h
  | some y =>
    have h9 := Option.some.inj h
    obtain ⟨y1, y2, y3, y4⟩ := y
    simp only [Prod.mk.injEq] at h9
    obtain ⟨rfl, rfl, rfl⟩ := h9
    exact ⟨rfl, rfl, rfl⟩
theorem rb_fn_get {al : Bool} {F d k a b : Nat} {as : List Value} {h : rb_H} {dd : Option Value × rb_H} (hm : (rb_fn al F d k as h).map (fun y => (y.1, y.2.1, y.2.2.1)) = some (none, a, b)) : rb_rel al d k as h none ((rb_fn al F d k as h).getD dd).2 ∧ ((rb_fn al F d k as h).getD dd).2.1 = a ∧ ((rb_fn al F d k as h).getD dd).2.2.1 = b := by
  obtain ⟨h1, h2, h3⟩ := rb_conv (d := dd) hm
  exact ⟨rb_fn_rel d k as h (none, ((rb_fn al F d k as h).getD dd).2) h1, h2, h3⟩
theorem rb_relC : rb_rel true 5 0 [.ref 0] rb_hC0 none rb_hC1 ∧ rb_hC1.1 = 166 ∧ rb_hC1.2.1 = 1286 := by
  unfold rb_hC1 rb_yC
  exact rb_fn_get rb_conC
theorem rb_relR : rb_rel true 2 43 [.ref 0] rb_hR0 none rb_hR1 ∧ rb_hR1.1 = 55 ∧ rb_hR1.2.1 = 1603 := by
  unfold rb_hR1 rb_yR
  exact rb_fn_get rb_conR
theorem rb_blC0 : ∀ i, rb_hC0.1 ≤ i → rb_hC0.2.2 i = rb_blank := by
  intro i hi
  have hi : 1 ≤ i := hi
  show va_up (fun _ => rb_blank) 0 _ i = rb_blank
  unfold va_up
  rw [if_neg (by omega)]
theorem rb_blR0 : ∀ i, rb_hR0.1 ≤ i → rb_hR0.2.2 i = rb_blank := by
  intro i hi
  have hi : 1 ≤ i := hi
  show va_up (fun _ => rb_blank) 0 _ i = rb_blank
  unfold va_up
  rw [if_neg (by omega)]
