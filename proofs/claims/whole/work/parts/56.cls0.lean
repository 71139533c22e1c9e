/-! the class: a heap by its places; X place slot: its ints, R place index: its arrays of references -/
def rc_ty (a : Nat) : Nat := if a = 0 then 0 else if a = 1 then 10 else if a < 134 then (if (a - 2) % 44 = 0 then 1 else if (a - 2) % 44 = 1 then 11 else if (a - 2) % 44 < 42 then (if ((a - 2) % 44 - 2) % 8 = 0 then 2 else if ((a - 2) % 44 - 2) % 8 = 1 then 12 else if ((a - 2) % 44 - 2) % 8 < 6 then 3 else 13) else if (a - 2) % 44 = 42 then 4 else 3) else if a = 134 then 14 else if a < 155 then (if (a - 135) % 5 = 0 then 5 else if (a - 135) % 5 = 2 then 15 else if (a - 135) % 5 = 4 then 16 else 6) else if a = 155 then 17 else if a < 166 then 18 else 19
def rc_cell (T p : Nat) (x : Nat → Int32) (f : Nat → Option Nat) : va_E := match T with
  | 0 => .inr (0, [.ref 1, .ref 134, .ref 155, .int (x 3)])
  | 1 => .inr (1, [.int (x 0), .ref (p + 1), .ref (p + 42), .int (x 3), .int (x 4), .int (x 5), .int (x 6), .int (x 7), .int (x 8), .int (x 9)])
  | 2 => .inr (2, [.ref (p + 1), .ref (p + 6), .ref (p + 7), .int (x 3), .int (x 4), .int (x 5), .int (x 6)])
  | 3 => .inr (3, [.int (x 0), .int (x 1), .int (x 2), .int (x 3), .int (x 4), .int (x 5), .int (x 6), .int (x 7), .int (x 8), .int (x 9), .int (x 10)])
  | 4 => .inr (4, [.ref (p + 1), .int (x 1), .int (x 2), .int (x 3), .int (x 4), .int (x 5), .int (x 6), .int (x 7)])
  | 5 => .inr (5, [.int (x 0), .ref (p + 1), .ref (p + 3), .int (x 3), .int (x 4), .int (x 5), .int (x 6), .int (x 7), .int (x 8), .int (x 9), .int (x 10), .int (x 11), .int (x 12), .int (x 13), .int (x 14), .int (x 15), .int (x 16)])
  | 6 => .inr (6, [.ref (p + 1), .int (x 1), .int (x 2), .int (x 3)])
  | 10 => .inl (2, 3, .inr (.inr (.inr (.inr f))))
  | 11 => .inl (3, 5, .inr (.inr (.inr (.inr f))))
  | 12 => .inl (4, 4, .inr (.inr (.inr (.inr f))))
  | 14 => .inl (5, 4, .inr (.inr (.inr (.inr f))))
  | 17 => .inl (6, 10, .inr (.inr (.inr (.inr f))))
  | 13 => .inl (0, 3, .inl x)
  | 15 => .inl (0, 8, .inl x)
  | 16 => .inl (0, 4, .inl x)
  | 18 => .inl (0, 10, .inl x)
  | _ => rb_blank
def rc_enc (X : Nat → Nat → Int32) (R : Nat → Nat → Option Nat) (p : Nat) : va_E := rc_cell (rc_ty p) p (X p) (R p)
def rc_h (X : Nat → Nat → Int32) (R : Nat → Nat → Option Nat) : rb_H := (166, 1286, rc_enc X R)
def rc_int (a b : Nat) : Bool := match a, b with
  | 0, 3 => true
  | 1, 0 => true
  | 1, 3 => true
  | 1, 4 => true
  | 1, 5 => true
  | 1, 6 => true
  | 1, 7 => true
  | 1, 8 => true
  | 1, 9 => true
  | 2, 3 => true
  | 2, 4 => true
  | 2, 5 => true
  | 2, 6 => true
  | 3, 0 => true
  | 3, 1 => true
  | 3, 2 => true
  | 3, 3 => true
  | 3, 4 => true
  | 3, 5 => true
  | 3, 6 => true
  | 3, 7 => true
  | 3, 8 => true
  | 3, 9 => true
  | 3, 10 => true
  | 4, 1 => true
  | 4, 2 => true
  | 4, 3 => true
  | 4, 4 => true
  | 4, 5 => true
  | 4, 6 => true
  | 4, 7 => true
  | 5, 0 => true
  | 5, 3 => true
  | 5, 4 => true
  | 5, 5 => true
  | 5, 6 => true
  | 5, 7 => true
  | 5, 8 => true
  | 5, 9 => true
  | 5, 10 => true
  | 5, 11 => true
  | 5, 12 => true
  | 5, 13 => true
  | 5, 14 => true
  | 5, 15 => true
  | 5, 16 => true
  | 6, 1 => true
  | 6, 2 => true
  | 6, 3 => true
  | _, _ => false
def rc_ref (a b p : Nat) : Option Nat := match a, b with
  | 0, 0 => some (1)
  | 0, 1 => some (134)
  | 0, 2 => some (155)
  | 1, 1 => some (p + 1)
  | 1, 2 => some (p + 42)
  | 2, 0 => some (p + 1)
  | 2, 1 => some (p + 6)
  | 2, 2 => some (p + 7)
  | 4, 0 => some (p + 1)
  | 5, 1 => some (p + 1)
  | 5, 2 => some (p + 3)
  | 6, 0 => some (p + 1)
  | _, _ => none
theorem rc_int_ok {a b p : Nat} {x : Nat → Int32} {f : Nat → Option Nat} (h : rc_int a b = true) (v : Int32) : ∃ fs, rc_cell a p x f = .inr (a, fs) ∧ fs[b]? = some (.int (x b)) ∧ Nat.blt b fs.length = true ∧ rc_cell a p (upd x b v) f = .inr (a, fs.set b (.int v)) := by
  unfold rc_int at h
  split at h <;> first | exact ⟨_, rfl, rfl, rfl, rfl⟩ | cases h
theorem rc_ref_ok {a b p q : Nat} {x : Nat → Int32} {f : Nat → Option Nat} (h : rc_ref a b p = some q) : ∃ fs, rc_cell a p x f = .inr (a, fs) ∧ fs[b]? = some (.ref q) := by
  unfold rc_ref at h
  split at h <;> first | (cases h; exact ⟨_, rfl, rfl⟩) | cases h
theorem rc_fold {X : Nat → Nat → Int32} {R : Nat → Nat → Option Nat} (p : Nat) (x : Nat → Int32) : va_up (rc_enc X R) p (rc_cell (rc_ty p) p x (R p)) = rc_enc (va_up X p x) R := by
  funext i
  by_cases h : i = p
  · subst h
    simp [va_up, rc_enc]
  · simp [va_up, rc_enc, h]
theorem rc_foldR {X : Nat → Nat → Int32} {R : Nat → Nat → Option Nat} (p : Nat) (f : Nat → Option Nat) : va_up (rc_enc X R) p (rc_cell (rc_ty p) p (X p) f) = rc_enc X (va_up R p f) := by
  funext i
  by_cases h : i = p
  · subst h
    simp [va_up, rc_enc]
  · simp [va_up, rc_enc, h]
def rc_len (T : Nat) : Nat := match T with
  | 13 => 3
  | 15 => 8
  | 16 => 4
  | 18 => 10
  | _ => 0
def rc_rln (T : Nat) : Nat := match T with
  | 10 => 3
  | 11 => 5
  | 12 => 4
  | 14 => 4
  | 17 => 10
  | _ => 0
theorem rc_len_ok {T p i : Nat} {x : Nat → Int32} {f : Nat → Option Nat} (h : i < rc_len T) : rc_cell T p x f = .inl (0, rc_len T, .inl x) ∧ rc_len T ≤ 10 := by
  unfold rc_len at h ⊢
  split at h <;> first | exact ⟨rfl, by decide⟩ | omega
theorem rc_rln_ok {T p i : Nat} {x : Nat → Int32} {f : Nat → Option Nat} (h : i < rc_rln T) : ∃ t, rc_cell T p x f = .inl (t, rc_rln T, .inr (.inr (.inr (.inr f)))) ∧ (Nat.ble 2 t && Nat.blt t 7) = true ∧ rc_rln T ≤ 10 := by
  unfold rc_rln at h ⊢
  split at h <;> first | exact ⟨_, rfl, rfl, by decide⟩ | omega
section RCW
variable {d k pc nx a b : Nat} {ls st : List Value} {Q : Option Value → rb_H → Prop} {kc : Int32} {X : Nat → Nat → Int32} {R : Nat → Nat → Option Nat}
theorem rc_g {p idx : Nat} {r : List Value} (hi : rb_ins k pc = some (.getfield idx, nx, a, b, kc)) (hT : rc_ty p = a) (hf : rc_int a b = true) (kk : rb_wp d k nx ls (.int (X p b) :: r) (rc_h X R) Q) : rb_wp d k pc ls (.ref p :: r) (rc_h X R) Q := by
  subst hT
  obtain ⟨fs, h1, h2, -⟩ := rc_int_ok (p := p) (x := X p) (f := R p) hf 0
  exact rw_get (h := rc_h X R) hi h1 h2 kk
theorem rc_gr {p q idx : Nat} {r : List Value} (hi : rb_ins k pc = some (.getfield idx, nx, a, b, kc)) (hT : rc_ty p = a) (hf : rc_ref a b p = some q) (kk : rb_wp d k nx ls (.ref q :: r) (rc_h X R) Q) : rb_wp d k pc ls (.ref p :: r) (rc_h X R) Q := by
  subst hT
  obtain ⟨fs, h1, h2⟩ := rc_ref_ok (x := X p) (f := R p) hf
  exact rw_get (h := rc_h X R) hi h1 h2 kk
theorem rc_p {p idx : Nat} {v : Int32} {r : List Value} (hi : rb_ins k pc = some (.putfield idx, nx, a, b, kc)) (hT : rc_ty p = a) (hf : rc_int a b = true) (ht : rb_fit (rb_tt a b) (.int v) = true) (kk : rb_wp d k nx ls r (rc_h (rr_up X p b v) R) Q) : rb_wp d k pc ls (.int v :: .ref p :: r) (rc_h X R) Q := by
  subst hT
  obtain ⟨fs, h1, -, h3, h4⟩ := rc_int_ok (p := p) (x := X p) (f := R p) hf v
  refine rw_put (h := rc_h X R) hi h1 ht h3 ?_
  rw [← h4]
  show rb_wp d k nx ls r (166, 1286, va_up (rc_enc X R) p (rc_cell (rc_ty p) p (upd (X p) b v) (R p))) Q
  rw [rc_fold]
  exact kk
theorem rc_il {x : Int32} {p i T : Nat} {r : List Value} (hi : rb_ins k pc = some (.iaload, nx, a, b, kc)) (hT : rc_ty p = T) (hx : x = nI i) (hin : i < rc_len T) (kk : rb_wp d k nx ls (.int (X p i) :: r) (rc_h X R) Q) : rb_wp d k pc ls (.int x :: .ref p :: r) (rc_h X R) Q := by
  subst hT hx
  obtain ⟨h1, h2⟩ := rc_len_ok (p := p) (x := X p) (f := R p) hin
  refine rw_iald (h := rc_h X R) hi h1 (vp_in_nI hin (by omega)) ?_
  rw [nI_clamp (by omega)]
  exact kk
theorem rc_is {x v : Int32} {p i T : Nat} {r : List Value} (hi : rb_ins k pc = some (.iastore, nx, a, b, kc)) (hT : rc_ty p = T) (hx : x = nI i) (hin : i < rc_len T) (kk : rb_wp d k nx ls r (rc_h (rr_up X p i v) R) Q) : rb_wp d k pc ls (.int v :: .int x :: .ref p :: r) (rc_h X R) Q := by
  subst hT hx
  obtain ⟨h1, h2⟩ := rc_len_ok (p := p) (x := X p) (f := R p) hin
  obtain ⟨h3, -⟩ := rc_len_ok (p := p) (x := upd (X p) i v) (f := R p) hin
  refine rw_iast (h := rc_h X R) hi h1 (vp_in_nI hin (by omega)) ?_
  rw [nI_clamp (by omega), ← h3]
  show rb_wp d k nx ls r (166, 1286, va_up (rc_enc X R) p (rc_cell (rc_ty p) p (upd (X p) i v) (R p))) Q
  rw [rc_fold]
  exact kk
theorem rc_aa {x : Int32} {p q i T : Nat} {r : List Value} (hi : rb_ins k pc = some (.aaload, nx, a, b, kc)) (hT : rc_ty p = T) (hx : x = nI i) (hin : i < rc_rln T) (hR : R p i = some q) (kk : rb_wp d k nx ls (.ref q :: r) (rc_h X R) Q) : rb_wp d k pc ls (.int x :: .ref p :: r) (rc_h X R) Q := by
  subst hT hx
  obtain ⟨t, h1, h2, h3⟩ := rc_rln_ok (p := p) (x := X p) (f := R p) hin
  refine rw_aald (h := rc_h X R) hi h1 h2 (vp_in_nI hin (by omega)) ?_
  rw [nI_clamp (by omega), hR]
  exact kk
theorem rc_as {x : Int32} {p v i : Nat} {r : List Value} (hi : rb_ins k pc = some (.aastore, nx, a, b, kc)) (hT : rc_ty p = 11) (hv : rc_ty v = 2) (hx : x = nI i) (hin : i < 5) (kk : rb_wp d k nx ls r (rc_h X (va_up R p (va_up (R p) i (some v)))) Q) : rb_wp d k pc ls (.ref v :: .int x :: .ref p :: r) (rc_h X R) Q := by
  subst hx
  have h1 : rc_enc X R p = .inl (3, 5, .inr (.inr (.inr (.inr (R p))))) := by rw [rc_enc, hT]; rfl
  have h2 : ∃ fs, rc_enc X R v = .inr (2, fs) := by rw [rc_enc, hv]; exact ⟨_, rfl⟩
  obtain ⟨fs, h2⟩ := h2
  refine rw_step hi ?_ kk
  have ho : rb_out (nI i) 5 = false := decide_eq_false (vp_in_nI hin (by omega))
  have hc : (nI i).toNatClampNeg = i := nI_clamp (by omega)
  show rb_rast nx ls (.ref v :: .int (nI i) :: .ref p :: r) (rc_h X R) = _
  unfold rb_rast
  dsimp only [rc_h]
  rw [h1]
  dsimp only
  rw [h2]
  dsimp only [rb_el]
  simp only [Nat.beq_refl, ho, hc]
  show some (Sum.inl (nx, ls, r, (166, 1286, va_up (rc_enc X R) p (rc_cell 11 p (X p) (va_up (R p) i (some v)))))) = _
  rw [← hT, rc_foldR]
theorem rc_ln {p T : Nat} {r : List Value} (hi : rb_ins k pc = some (.arraylength, nx, a, b, kc)) (hT : rc_ty p = T) (hin : 0 < rc_len T) (kk : rb_wp d k nx ls (.int (nI (rc_len T)) :: r) (rc_h X R) Q) : rb_wp d k pc ls (.ref p :: r) (rc_h X R) Q := by
  subst hT
  obtain ⟨h1, h2⟩ := rc_len_ok (p := p) (x := X p) (f := R p) hin
  refine rw_step hi ?_ kk
  show rb_len nx ls (.ref p :: r) (rc_h X R) = _
  unfold rb_len
  dsimp only [rc_h, rc_enc]
  rw [h1]
  rfl
theorem rc_call {p m n idx : Nat} {as rest : List Value} (hi : rb_ins k pc = some (.invokevirtual idx, nx, m, n, kc)) (hT : rc_ty p = rb_mc m) (hlo : rb_mc m < 7) (hl : Nat.ble n st.length = true) (ha : (st.take n).reverse = .ref p :: as) (hd : st.drop n = rest) (ho : (Nat.ble rest.length 8 && rest.all rb_ok) = true) (kk : rb_cw d m (.ref p :: as) (rc_h X R) (fun v h1 => rb_wp d k nx ls (v.toList ++ rest) h1 Q)) : rb_wp d k pc ls st (rc_h X R) Q := by
  refine rw_call hi rfl ?_ kk
  have hc : ∃ fs, rc_enc X R p = .inr (rb_mc m, fs) := by
    rw [rc_enc, hT]
    have : rb_mc m = 0 ∨ rb_mc m = 1 ∨ rb_mc m = 2 ∨ rb_mc m = 3 ∨ rb_mc m = 4 ∨ rb_mc m = 5 ∨ rb_mc m = 6 := by omega
    rcases this with h | h | h | h | h | h | h <;> (rw [h]; exact ⟨_, rfl⟩)
  obtain ⟨fs, hc⟩ := hc
  rw [Bool.and_eq_true] at ho
  show rb_argV (rb_mc m) m n ls st (rc_h X R) = _
  unfold rb_argV
  rw [ha]
  dsimp only [rc_h]
  rw [hc]
  dsimp only
  simp only [Nat.beq_refl]
  unfold rb_args
  rw [hl, hd, ha]
  dsimp only
  rw [ho.1, ho.2]
end RCW
/-- what never changes of the arrays of references -/
def rc_wf (R : Nat → Nat → Option Nat) : Prop := (∀ i, i < 3 → R 1 i = some (2 + 44 * i)) ∧ (∀ i, i < 4 → R 134 i = some (135 + 5 * i)) ∧ (∀ i, i < 10 → R 155 i = some (156 + i)) ∧ ∀ p, rc_ty p = 12 → ∀ i, i < 4 → R p i = some (p + 1 + i)
theorem rc_ty_ge {p : Nat} (h : 166 ≤ p) : rc_ty p = 19 := by
  unfold rc_ty
  repeat rw [if_neg (by omega)]
theorem rc_t1 {p : Nat} (h : rc_ty p = 1) : rc_ty (p + 1) = 11 ∧ rc_ty (p + 42) = 4 ∧ rc_ty (p + 43) = 3 := by
  have hp : p < 166 := Nat.not_le.mp (fun h9 => by rw [rc_ty_ge h9] at h; cases h)
  exact (by decide +kernel : ∀ p, p < 166 → rc_ty p = 1 → rc_ty (p + 1) = 11 ∧ rc_ty (p + 42) = 4 ∧ rc_ty (p + 43) = 3) p hp h
theorem rc_t2 {p : Nat} (h : rc_ty p = 2) : rc_ty (p + 1) = 12 ∧ rc_ty (p + 6) = 13 ∧ rc_ty (p + 7) = 13 ∧ rc_ty (p + 2) = 3 ∧ rc_ty (p + 3) = 3 ∧ rc_ty (p + 4) = 3 ∧ rc_ty (p + 5) = 3 := by
  have hp : p < 166 := Nat.not_le.mp (fun h9 => by rw [rc_ty_ge h9] at h; cases h)
  exact (by decide +kernel : ∀ p, p < 166 → rc_ty p = 2 → rc_ty (p + 1) = 12 ∧ rc_ty (p + 6) = 13 ∧ rc_ty (p + 7) = 13 ∧ rc_ty (p + 2) = 3 ∧ rc_ty (p + 3) = 3 ∧ rc_ty (p + 4) = 3 ∧ rc_ty (p + 5) = 3) p hp h
theorem rc_t4 {p : Nat} (h : rc_ty p = 4) : rc_ty (p + 1) = 3 := by
  have hp : p < 166 := Nat.not_le.mp (fun h9 => by rw [rc_ty_ge h9] at h; cases h)
  exact (by decide +kernel : ∀ p, p < 166 → rc_ty p = 4 → rc_ty (p + 1) = 3) p hp h
theorem rc_t5 {p : Nat} (h : rc_ty p = 5) : rc_ty (p + 1) = 6 ∧ rc_ty (p + 2) = 15 ∧ rc_ty (p + 3) = 6 ∧ rc_ty (p + 4) = 16 := by
  have hp : p < 166 := Nat.not_le.mp (fun h9 => by rw [rc_ty_ge h9] at h; cases h)
  exact (by decide +kernel : ∀ p, p < 166 → rc_ty p = 5 → rc_ty (p + 1) = 6 ∧ rc_ty (p + 2) = 15 ∧ rc_ty (p + 3) = 6 ∧ rc_ty (p + 4) = 16) p hp h
theorem rc_tR {r : Nat} (h : r < 3) : rc_ty (2 + 44 * r) = 1 := (by decide +kernel : ∀ r, r < 3 → rc_ty (2 + 44 * r) = 1) r h
theorem rc_tL {c : Nat} (h : c < 4) : rc_ty (135 + 5 * c) = 5 := (by decide +kernel : ∀ c, c < 4 → rc_ty (135 + 5 * c) = 5) c h
theorem rc_tW {c : Nat} (h : c < 10) : rc_ty (156 + c) = 18 := (by decide +kernel : ∀ c, c < 10 → rc_ty (156 + c) = 18) c h
theorem rc_tN {r j : Nat} (h : r < 3) (hj : j < 5) : rc_ty (2 + 44 * r + 2 + 8 * j) = 2 := (by decide +kernel : ∀ r, r < 3 → ∀ j, j < 5 → rc_ty (2 + 44 * r + 2 + 8 * j) = 2) r h j hj
