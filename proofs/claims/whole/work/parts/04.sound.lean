/-! where the pure machine answers, the machine does -/
def rb_rv (b : Nat) (v : Value) : Value := match v with
  | .ref a => .ref (b + a)
  | w => w
def rb_rc (b : Nat) (cA : Nat → ClassId) (x : va_E) : va_E := match x with
  | .inl (t, n, .inr (.inr (.inr (.inr f)))) => .inl (cA t, n, .inr (.inr (.inr (.inr (fun i => (f i).map (fun a => b + a))))))
  | .inl (t, n, .inr (.inr (.inr (.inl f)))) => .inl (cA t, n, .inr (.inr (.inr (.inl f))))
  | .inl (t, n, .inr (.inr (.inl f))) => .inl (cA t, n, .inr (.inr (.inl f)))
  | .inl (t, n, .inr (.inl f)) => .inl (cA t, n, .inr (.inl f))
  | .inl (t, n, .inl f) => .inl (cA t, n, .inl f)
  | .inr (c, fs) => .inr (c, fs.map (rb_rv b))
def rb_w (b : Nat) (cA : Nat → ClassId) (h : rb_H) : va_W := (List.range h.1).map (fun i => (b + i, rb_rc b cA (h.2.2 i)))
theorem rb_w_len (b : Nat) (cA : Nat → ClassId) (h : rb_H) : (rb_w b cA h).length = h.1 := by simp [rb_w]
theorem rb_w_get {b : Nat} {cA : Nat → ClassId} {h : rb_H} {i : Nat} (hi : i < h.1) : (rb_w b cA h)[i]? = some (b + i, rb_rc b cA (h.2.2 i)) := by
  simp [rb_w, List.getElem?_map, List.getElem?_range hi]
theorem rb_w_set {b : Nat} {cA : Nat → ClassId} {h : rb_H} {i : Nat} (hi : i < h.1) (x : va_E) : (rb_w b cA h).set i (b + i, rb_rc b cA x) = rb_w b cA (h.1, h.2.1, va_up h.2.2 i x) := by
  apply List.ext_getElem?
  intro j
  by_cases hj : j < h.1
  · rw [rb_w_get (h := (h.1, h.2.1, va_up h.2.2 i x)) hj, List.getElem?_set]
    by_cases hij : i = j
    · subst hij
      simp [rb_w_len, hi, va_up]
    · simp [hij, rb_w_get hj, va_up, Ne.symm hij]
  · rw [List.getElem?_eq_none (by rw [List.length_set, rb_w_len]; omega), List.getElem?_eq_none (by rw [rb_w_len]; show h.1 ≤ j; omega)]
theorem rb_w_push {b : Nat} {cA : Nat → ClassId} (h : rb_H) (sl : Nat) (x : va_E) : rb_w b cA h ++ [(b + h.1, rb_rc b cA x)] = rb_w b cA (h.1 + 1, sl, va_up h.2.2 h.1 x) := by
  apply List.ext_getElem?
  intro j
  by_cases hj : j < h.1
  · rw [rb_w_get (h := (h.1 + 1, sl, va_up h.2.2 h.1 x)) (show j < h.1 + 1 by omega), List.getElem?_append_left (by rw [rb_w_len]; exact hj), rb_w_get hj]
    simp [va_up, Nat.ne_of_lt hj]
  · by_cases hj2 : j = h.1
    · subst hj2
      rw [rb_w_get (h := (h.1 + 1, sl, va_up h.2.2 h.1 x)) (show h.1 < h.1 + 1 by omega), List.getElem?_append_right (by rw [rb_w_len]; exact Nat.le_refl _), rb_w_len, Nat.sub_self]
      simp [va_up]
    · rw [List.getElem?_eq_none (by rw [List.length_append, rb_w_len]; simp; omega), List.getElem?_eq_none (by rw [rb_w_len]; show h.1 + 1 ≤ j; omega)]
def rb_L (b : Nat) (ls : List Value) (arr : Array Slot) : Prop := arr.size = ls.length ∧ lv_wf arr ∧ ∀ (i : Nat) (v : Value), ls[i]? = some v → rb_ok v = true → arr[i]? = some (.val (rb_rv b v))
def rb_ll (b : Nat) (ls : List Value) : List (Nat × Value) := (List.range ls.length).filterMap (fun i => match ls[i]? with
  | some v => if rb_ok v = true then some (i, rb_rv b v) else none
  | none => none)
theorem rb_ll_mem {b : Nat} {ls : List Value} {q : Nat × Value} : q ∈ rb_ll b ls ↔ ∃ v, ls[q.1]? = some v ∧ rb_ok v = true ∧ q.2 = rb_rv b v := by
  unfold rb_ll
  rw [List.mem_filterMap]
  constructor
  · rintro ⟨i, hi, h⟩
    cases hv : ls[i]? with
    | none => rw [hv] at h; cases h
    | some v =>
      rw [hv] at h
      by_cases ho : rb_ok v = true
      · simp only [ho, if_true] at h
        cases h
        exact ⟨v, hv, ho, rfl⟩
      · simp [ho] at h
  · rintro ⟨v, h1, h2, h3⟩
    refine ⟨q.1, List.mem_range.mpr (List.getElem?_eq_some_iff.mp h1).1, ?_⟩
    rw [h1]
    simp only [h2, if_true]
    rw [← h3]
theorem rb_L.lv {b : Nat} {ls : List Value} {arr : Array Slot} (h : rb_L b ls arr) : lv_has arr ls.length (rb_ll b ls) := by
  refine ⟨h.1, h.2.1, fun q hq => ?_⟩
  obtain ⟨v, h1, h2, h3⟩ := rb_ll_mem.mp hq
  rw [h3]
  exact h.2.2 _ _ h1 h2
theorem rb_rv_cat {b : Nat} {v : Value} (h : rb_ok v = true) : (rb_rv b v).category = 1 := by
  cases v <;> first | rfl | (simp [rb_ok] at h)
theorem rb_L.set {b : Nat} {ls : List Value} {arr : Array Slot} {i : Nat} {v : Value} (hi : i < ls.length) (h' : lv_has arr ls.length ((i, rb_rv b v) :: (rb_ll b ls).filter (fun q => !(q.1 == i) && !(q.1 + 1 == i && q.2.category == 2)))) : rb_L b (ls.set i v) arr := by
  refine ⟨by rw [List.length_set]; exact h'.1, h'.2.1, fun j w hj hw => ?_⟩
  by_cases hij : i = j
  · subst hij
    rw [List.getElem?_set_self hi] at hj
    cases hj
    exact h'.2.2 _ List.mem_cons_self
  · rw [List.getElem?_set_ne hij] at hj
    refine h'.2.2 (j, rb_rv b w) (List.mem_cons_of_mem _ (List.mem_filter.mpr ⟨rb_ll_mem.mpr ⟨w, hj, hw, rfl⟩, ?_⟩))
    have h1 := rb_rv_cat (b := b) hw
    have h2 : (j == i) = false := by simp; exact fun q => hij q.symm
    simp [h1, h2]
    try (intro q; exact absurd q (fun z => hij z.symm))
theorem rb_L.at {b : Nat} {ls : List Value} {arr : Array Slot} (h : rb_L b ls arr) {i : Nat} {v : Value} (hv : ls[i]? = some v) (ho : rb_ok v = true) : arr[i]? = some (.val (rb_rv b v)) := h.2.2 i v hv ho
theorem rb_fit_spec {ty : FieldType} {v : Value} (b : Nat) (h : rb_fit ty v = true) : narrow ty (rb_rv b v) = rb_rv b v ∧ fits ty (rb_rv b v) = true := by
  cases ty <;> cases v <;> first | (exact ⟨rfl, rfl⟩) | (simp [rb_fit] at h; done) | skip
  simp [rb_fit] at h
  rcases h with h | h
  · subst h
    exact ⟨(by decide : narrow FieldType.boolean (.int 0) = .int 0), (by decide : fits FieldType.boolean (.int 0) = true)⟩
  · subst h
    exact ⟨(by decide : narrow FieldType.boolean (.int 1) = .int 1), (by decide : fits FieldType.boolean (.int 1) = true)⟩
def rb_tys (cA : Nat → ClassId) : List (ClassId × FieldType) := (List.range 7).map (fun t => (cA t, rb_aty t))
theorem rb_tys_at (cA : Nat → ClassId) {t : Nat} (h : t < 7) : (rb_tys cA)[t]? = some (cA t, rb_aty t) := by
  simp [rb_tys, List.getElem?_map, List.getElem?_range h]
def rb_Inv (D : va_G) (cA : Nat → ClassId) (b : Nat) (A : Nat → Prop) (H0 : Heap) (h0 h : rb_H) (H : Heap) (locs : List Loc) (cells slots : Nat) : Prop :=
  va_P D rb_cl (rb_w b cA h) H ∧ va_D A (rb_w b cA h) ∧ va_S A H0 H locs ∧ (∀ i, h.1 ≤ i → h.2.2 i = rb_blank) ∧ h0.1 + cells = h.1 ∧ h0.2.1 + slots = h.2.1
theorem rb_inO {h : rb_H} {a ci : Nat} {fs : List Value} (hb : ∀ i, h.1 ≤ i → h.2.2 i = rb_blank) (he : h.2.2 a = .inr (ci, fs)) (hc : ci < 1000) : a < h.1 := by
  refine Nat.not_le.mp fun q => ?_
  have h1 := hb a q
  rw [he] at h1
  unfold rb_blank at h1
  have h2 := Sum.inr.inj h1
  have h3 : ci = 1000 := congrArg Prod.fst h2
  omega
theorem rb_inA {h : rb_H} {a : Nat} {x : ClassId × vp_A} (hb : ∀ i, h.1 ≤ i → h.2.2 i = rb_blank) (he : h.2.2 a = .inl x) : a < h.1 := by
  refine Nat.not_le.mp fun q => ?_
  have h1 := hb a q
  rw [he] at h1
  unfold rb_blank at h1
  cases h1
