/-! one step of the pure machine is one step of the machine -/
section RBW
variable {p : Program} {l : Launch} {e : Env} {R : Room} {s : State} {m : MethodId} {args : Array Value} {below : List Frame} {meth : Method} {c : Code} {H : Heap} {locs : List Loc} {cells slots : Nat} {Q : State → Prop}
variable {D : va_G} {cA : Nat → ClassId} {b : Nat} {A : Nat → Prop} {h0 h : rb_H} {k pc : Nat} {ls st : List Value} {arr : Array Slot}
theorem rb_Wsz {g : JFrame} (kk : H.size ≤ s.heap.size + cells → W p l e R s m args below meth c H locs cells slots Q g) : W p l e R s m args below meth c H locs cells slots Q g := fun T hT X => kk (by have h9 := X.same.2.2.1; rw [← hT]; exact h9) T hT X
theorem rb_atO {a ci : Nat} {fs : List Value} (he : h.2.2 a = .inr (ci, fs)) (ha : a < h.1) : (rb_w b cA h)[a]? = some (b + a, .inr (ci, fs.map (rb_rv b))) := by
  rw [rb_w_get ha, he]
  rfl
theorem rb_atI {a t n : Nat} {f : Nat → Int32} (he : h.2.2 a = .inl (t, n, .inl f)) (ha : a < h.1) : (rb_w b cA h)[a]? = some (b + a, .inl (cA t, n, .inl f)) := by
  rw [rb_w_get ha, he]
  rfl
theorem rb_atR {a t n : Nat} {f : Nat → Option Nat} (he : h.2.2 a = .inl (t, n, .inr (.inr (.inr (.inr f))))) (ha : a < h.1) : (rb_w b cA h)[a]? = some (b + a, .inl (cA t, n, .inr (.inr (.inr (.inr (fun i => (f i).map (fun a => b + a))))))) := by
  rw [rb_w_get ha, he]
  rfl
theorem rb_clt {ci : Nat} {q : vw_C} (h : rb_cl[ci]? = some q) : ci < 1000 := Nat.lt_of_lt_of_le (List.getElem?_eq_some_iff.mp h).1 rb_cl_len
theorem rb_rf (b : Nat) (r : Option Nat) : rb_rv b (va_rf r) = va_rf (r.map (fun a => b + a)) := by
  cases r <;> rfl
/-- a store into the world -/
theorem rb_Inv.set {H1 : Heap} {locs1 : List Loc} {a : Nat} {x : va_E} (hI : rb_Inv D cA b A s.heap h0 h H locs cells slots) (ha : a < h.1) (hP : va_P D rb_cl ((rb_w b cA h).set a (b + a, rb_rc b cA x)) H1) (hD : va_D A ((rb_w b cA h).set a (b + a, rb_rc b cA x))) (hS : va_S A s.heap H1 locs1) : rb_Inv D cA b A s.heap h0 (h.1, h.2.1, va_up h.2.2 a x) H1 locs1 cells slots := by
  rw [rb_w_set ha] at hP hD
  refine ⟨hP, hD, hS, fun i hi => ?_, hI.2.2.2.2.1, hI.2.2.2.2.2⟩
  have hi : h.1 ≤ i := hi
  have : i ≠ a := by omega
  show va_up h.2.2 a x i = rb_blank
  unfold va_up
  rw [if_neg this]
  exact hI.2.2.2.1 i hi
/-- a new cell: it lies behind the others -/
theorem rb_Inv.push {H1 : Heap} {q n : Nat} {x : va_E} {x' : va_E} (hx : x' = rb_rc b cA x) (hI : rb_Inv D cA b A s.heap h0 h H locs cells slots) (hal : s.heap.size = b + h0.1) (hAb : ∀ q, A q → b ≤ q) (hz : H1.size ≤ s.heap.size + (cells + 1)) (hP : va_P D rb_cl (rb_w b cA h ++ [(q, x')]) H1) (hD : va_D A (rb_w b cA h ++ [(q, x')])) (hS : va_S A s.heap H1 locs) : q = b + h.1 ∧ rb_Inv D cA b A s.heap h0 (h.1 + 1, h.2.1 + n, va_up h.2.2 h.1 x) H1 locs (cells + 1) (slots + n) := by
  subst hx
  have hq : (rb_w b cA h ++ [(q, rb_rc b cA x)])[h.1]? = some (q, rb_rc b cA x) := by
    rw [List.getElem?_append_right (by rw [rb_w_len]; exact Nat.le_refl _), rb_w_len, Nat.sub_self]
    rfl
  have h1 : q < H1.size := (hP _ _ hq).lt
  have h2 : b ≤ q := hAb q (hD.2 _ _ hq)
  have h3 := hI.2.2.2.2.1
  have h4 : q = b + h.1 := by
    refine Nat.le_antisymm (by omega) (Nat.not_lt.mp fun h9 => ?_)
    have hi : q - b < h.1 := by omega
    have h5 : (rb_w b cA h ++ [(q, rb_rc b cA x)])[q - b]? = some (b + (q - b), rb_rc b cA (h.2.2 (q - b))) := by
      rw [List.getElem?_append_left (by rw [rb_w_len]; exact hi), rb_w_get hi]
    have := hD.1 _ _ _ _ h5 hq (by show b + (q - b) = q; omega)
    omega
  subst h4
  rw [rb_w_push h (h.2.1 + n) x] at hP hD
  refine ⟨rfl, hP, hD, hS, fun i hi => ?_, by show h0.1 + (cells + 1) = h.1 + 1; omega, by show h0.2.1 + (slots + n) = h.2.1 + n; have := hI.2.2.2.2.2; omega⟩
  have hi : h.1 + 1 ≤ i := hi
  show va_up h.2.2 h.1 x i = rb_blank
  unfold va_up
  rw [if_neg (by omega)]
  exact hI.2.2.2.1 i (by omega)
theorem rb_fok_spec {idx a b' : Nat} (hf : rb_fok k idx a b' = true) : ∃ q : vw_C, rb_cl[a]? = some q ∧ b' < q.2.2 ∧ (q.2.1 b').1 = q.1 ∧ Cond.fieldLink (rb_on k) idx q.1 (q.2.1 b').2.1 (q.2.1 b').2.2.1 ∈ rb_ws := by
  unfold rb_fok at hf
  split at hf
  · rename_i q hq
    rw [Bool.and_eq_true, Bool.and_eq_true] at hf
    exact ⟨q, hq, rb_blt hf.1.1, of_decide_eq_true hf.1.2, rb_hasF_mem hf.2⟩
  · cases hf
set_option maxHeartbeats 4000000 in
theorem rb_getW (hx : p.tables.exec = Jvm.exec) (hb : c.code = rb_b k) (hts : ∀ w ∈ rb_ws, w.before args s = true) (hown : s.vm.findClass (rb_on k) = some m.cls) (hK : va_K D rb_cl (rb_tys cA) s) (hI : rb_Inv D cA b A s.heap h0 h H locs cells slots)
    {idx ci j a : Nat} {fs r : List Value} {v : Value} (hf : rb_fok k idx ci j = true) (hd : decode (rb_b k) pc = .ok (.getfield idx, 3)) (he : h.2.2 a = .inr (ci, fs)) (hv : fs[j]? = some v)
    (kk : W p l e R s m args below meth c H locs cells slots Q (F0 m (pc + 3) arr (rb_rv b v :: r))) : W p l e R s m args below meth c H locs cells slots Q (F0 m pc arr (.ref (b + a) :: r)) := by
  obtain ⟨q, hq, hj, hdc, hlk⟩ := rb_fok_spec hf
  obtain ⟨C, T, N⟩ := q
  have ha := rb_inO hI.2.2.2.1 he (rb_clt hq)
  exact va_get (D := D) (ci := ci) (C := C) (T := T) (N := N) (ref := C) hx hb hts (rb_lay_in hq) hown hK hI.1 a (rb_atO he ha) hq j hj (hts _ hlk) (fun x hx9 => by rw [hdc] at hx9; exact hx9) (by rw [List.getElem?_map, hv]; rfl) hd kk
set_option maxHeartbeats 4000000 in
theorem rb_putW (hx : p.tables.exec = Jvm.exec) (hb : c.code = rb_b k) (hts : ∀ w ∈ rb_ws, w.before args s = true) (hown : s.vm.findClass (rb_on k) = some m.cls) (hnm : meth.name = (rb_y k).name) (hK : va_K D rb_cl (rb_tys cA) s) (hI : rb_Inv D cA b A s.heap h0 h H locs cells slots)
    {idx ci j a : Nat} {fs r : List Value} {v : Value} (hf : rb_fok k idx ci j = true) (hp : rb_pok k ci j = true) (hd : decode (rb_b k) pc = .ok (.putfield idx, 3)) (he : h.2.2 a = .inr (ci, fs)) (hj : j < fs.length) (hfit : rb_fit (rb_tt ci j) v = true)
    (kk : ∀ (H1 : Heap) (locs1 : List Loc), rb_Inv D cA b A s.heap h0 (h.1, h.2.1, va_up h.2.2 a (.inr (ci, fs.set j v))) H1 locs1 cells slots → W p l e R s m args below meth c H1 locs1 cells slots Q (F0 m (pc + 3) arr r)) : W p l e R s m args below meth c H locs cells slots Q (F0 m pc arr (rb_rv b v :: .ref (b + a) :: r)) := by
  obtain ⟨q, hq, hj2, hdc, hlk⟩ := rb_fok_spec hf
  obtain ⟨C, T, N⟩ := q
  have ha := rb_inO hI.2.2.2.1 he (rb_clt hq)
  obtain ⟨hn, hft⟩ := rb_fit_spec b hfit
  have hset : (b + a, (Sum.inr (ci, (fs.map (rb_rv b)).set j (rb_rv b v)) : va_E)) = (b + a, rb_rc b cA (.inr (ci, fs.set j v))) := by
    show _ = (b + a, (Sum.inr (ci, (fs.set j v).map (rb_rv b)) : va_E))
    rw [List.map_set]
  unfold rb_pok at hp
  rw [hq] at hp
  dsimp only at hp
  cases hfin : (T j).2.2.2 with
  | false =>
    refine va_put (D := D) (ci := ci) (C := C) (T := T) (N := N) (ref := C) (ty := rb_tt ci j) hx hb hts (rb_lay_in hq) (rb_tt ci) (rb_tt_ok hq) (rb_nm_ok hq) hown hK hI.1 hI.2.1 hI.2.2.1 a (rb_atO he ha) hq j hj2 (hts _ hlk) (fun x hx9 => by rw [hdc] at hx9; exact hx9) hfin (rb_tt_ok hq j hj2) hn hft (by rw [List.length_map]; exact hj) hd (fun H1 locs1 hP1 hD1 hS1 => ?_)
    rw [hset] at hP1 hD1
    exact kk H1 locs1 (hI.set ha hP1 hD1 hS1)
  | true =>
    rw [hfin] at hp
    simp only [Bool.not_true, Bool.false_or, Bool.and_eq_true, decide_eq_true_eq] at hp
    refine va_putF (D := D) (ci := ci) (C := C) (T := T) (N := N) (ref := C) (ty := rb_tt ci j) hx hb hts (rb_lay_in hq) (rb_tt ci) (rb_tt_ok hq) (rb_nm_ok hq) hown hK hI.1 hI.2.1 hI.2.2.1 a (rb_atO he ha) hq j hj2 (hts _ hlk) (fun x hx9 => by rw [hdc] at hx9; exact hx9) hfin (hnm.trans hp.1) (hdc.trans hp.2) (rb_tt_ok hq j hj2) hn hft (by rw [List.length_map]; exact hj) hd (fun H1 locs1 hP1 hD1 hS1 => ?_)
    rw [hset] at hP1 hD1
    exact kk H1 locs1 (hI.set ha hP1 hD1 hS1)
end RBW
