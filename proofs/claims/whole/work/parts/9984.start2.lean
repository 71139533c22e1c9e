/-! the reference's start, and the two starts are related -/
def rs_chkR (j : Nat) (c : va_E) : Bool := match c with
  | .inl (b, m, .inl f) => match rr_cell j f with
    | .inl (b', m', .inl _) => decide (b' = b) && Nat.beq m' m
    | _ => false
  | _ => false
theorem rs_cellR (j : Nat) (f : Nat → Int32) : rr_cell j f = rb_blank ∨ ∃ b m, rr_cell j f = .inl (b, m, .inl f) := by
  unfold rr_cell
  split <;> first | exact Or.inr ⟨_, _, rfl⟩ | exact Or.inl rfl
theorem rs_chkR_eq {j : Nat} {c : va_E} (h : rs_chkR j c = true) : c = rr_cell j (rs_x c) := by
  unfold rs_chkR at h
  split at h
  · rename_i b m f
    show _ = rr_cell j f
    rcases rs_cellR j f with e | ⟨b', m', e⟩
    · rw [e] at h; cases h
    · rw [e] at h ⊢
      rw [Bool.and_eq_true, decide_eq_true_eq] at h
      rw [h.1, Nat.eq_of_beq_eq_true h.2]
  · cases h
def rs_z (h : Nat → va_E) (j n : Nat) : Bool := rs_all n fun i => rs_i (rs_x (h (j + 1)) i) 0
def rs_d1 (h : Nat → va_E) : Bool := rs_all 54 fun j => rs_chkR j (h (j + 1))
def rs_d2 (h : Nat → va_E) : Bool := match h 0 with
  | .inr (b, fs) => Nat.beq b 7 && rs_l fs (match rr_obj 0 with
    | .inr (_, gs) => gs
    | _ => [])
  | _ => false
theorem rs_d2_eq {h : Nat → va_E} (e : rs_d2 h = true) : h 0 = rr_obj 0 := by
  unfold rs_d2 at e
  split at e
  · rename_i b fs e0
    rw [Bool.and_eq_true] at e
    rw [e0, Nat.eq_of_beq_eq_true e.1, rs_l_eq e.2]
    rfl
  · cases e
def rs_okR (h : Nat → va_E) : Bool := rs_d1 h && (rs_d2 h && (rs_z h 2 15 && (rs_z h 1 3 && (rs_z h 31 9 && (rs_z h 32 81 && (rs_z h 35 4 && (rs_z h 41 4 && rs_all 10 fun i => rs_z h (21 + i) 3)))))))
set_option maxRecDepth 1000000 in
set_option maxHeartbeats 8000000 in
theorem rs_conR : (rb_yR.map fun y => rs_okR y.2.2.2) = some true := by decide +kernel
theorem rs_okR1 : rs_okR rb_hR1.2.2 = true := by
  have h := rs_conR
  unfold rb_hR1
  revert h
  cases rb_yR with
  | none => intro h; cases h
  | some y => intro h; exact Option.some.inj h
theorem rs_z_eq {h : Nat → va_E} {j n : Nat} (e : rs_z h j n = true) : ∀ i, i < n → rs_x (h (j + 1)) i = 0 := fun i hi => rs_i_eq (rs_all_eq e i hi)
theorem rs_mk {h : rb_H} {a b : Nat} {f : Nat → va_E} (z1 : h.1 = a) (z2 : h.2.1 = b) (z3 : h.2.2 = f) : h = (a, b, f) := by
  obtain ⟨x, y, z⟩ := h
  subst z1 z2 z3
  rfl
theorem rs_hC : rb_hC1 = rc_h (fun p => rs_x (rb_hC1.2.2 p)) (fun p => rs_r (rb_hC1.2.2 p)) := by
  obtain ⟨hrel, z1, z2⟩ := rb_relC
  have hbl := (rb_rel_le _ _ _ _ _ _ hrel).2.2 rb_blC0
  have hok := rs_okC1
  unfold rs_okC at hok
  rw [Bool.and_eq_true] at hok
  have h1 := rs_all_eq hok.1
  have h2 : rb_hC1.2.2 = rc_enc (fun p => rs_x (rb_hC1.2.2 p)) (fun p => rs_r (rb_hC1.2.2 p)) := by
    funext p
    by_cases hp : p < 166
    · exact rs_chk_eq (h1 p hp)
    · show _ = rc_cell (rc_ty p) p _ _
      rw [rc_ty_ge (by omega)]
      exact hbl p (by rw [z1]; omega)
  exact rs_mk z1 z2 h2
theorem rs_hR : rb_hR1 = rr_h (fun j => rs_x (rb_hR1.2.2 (j + 1))) 0 := by
  obtain ⟨hrel, z1, z2⟩ := rb_relR
  have hbl := (rb_rel_le _ _ _ _ _ _ hrel).2.2 rb_blR0
  have hok := rs_okR1
  unfold rs_okR at hok
  rw [Bool.and_eq_true, Bool.and_eq_true] at hok
  have h1 := rs_all_eq hok.1
  have h2 : rb_hR1.2.2 = rr_enc (fun j => rs_x (rb_hR1.2.2 (j + 1))) 0 := by
    funext p
    cases p with
    | zero => exact rs_d2_eq hok.2.1
    | succ j =>
      by_cases hp : j < 54
      · exact rs_chkR_eq (h1 j hp)
      · obtain ⟨i, rfl⟩ : ∃ i, j = i + 54 := ⟨j - 54, by omega⟩
        show _ = rb_blank
        exact hbl _ (by rw [z1]; omega)
  exact rs_mk z1 z2 h2
theorem rs_Rel {X A : Nat → Nat → Int32} {R : Nat → Nat → Option Nat} (hR : rc_wf R) (hN : ∀ r, r < 3 → ∀ p, p < 5 → R (2 + 44 * r + 1) p = some (4 + 44 * r + 8 * p)) (ht : X 0 3 = 0) (a2 : ∀ n, n < 15 → A 2 n = 0) (a1 : ∀ r, r < 3 → A 1 r = 0) (ar : ∀ j, j < 10 → ∀ r, r < 3 → A (21 + j) r = 0) (a31 : ∀ i, i < 9 → A 31 i = 0) (a32 : ∀ i, i < 81 → A 32 i = 0) (a35 : ∀ c, c < 4 → A 35 c = 0) (a41 : ∀ c, c < 4 → A 41 c = 0) (x0 : ∀ r, r < 3 → X (2 + 44 * r) 0 = nI r) (x1 : ∀ r, r < 3 → ∀ j, j < 7 → X (2 + 44 * r) (j + 3) = 0 ∧ X (2 + 44 * r + 42) (j + 1) = 0) (x2 : ∀ c, c < 4 → X (135 + 5 * c) 0 = nI c ∧ X (135 + 5 * c + 1) 1 = 7 ∧ X (135 + 5 * c + 3) 1 = 3 ∧ X (135 + 5 * c) 3 = 0 ∧ X (135 + 5 * c) 4 = 0) (x3 : ∀ a, a < 9 → ∀ b, b < 9 → X (156 + (a + 1)) (b + 1) = -1) : rg_Rel (fun _ p => p) X R A 0 0 := by
  refine ⟨⟨⟨hR, fun r hr p hp => ⟨hN r hr p hp, hp, fun p' _ e => e⟩⟩, ht⟩, ⟨?_, ?_, ?_⟩, ?_, ?_, ?_, ?_⟩
  · exact fun r hr => ⟨0, by omega, a1 r hr, fun p hp => by omega, fun n hn hm => absurd (a2 n hn) hm⟩
  · exact fun n n' hn hn' hm => absurd (a2 n hn) hm
  · exact fun k hk => ⟨by rw [a2 _ (by omega), a2 _ (by omega)], fun hm => absurd (a2 _ (by omega)) hm⟩
  · intro r hr
    have c0 := x1 r hr 0 (by omega)
    have c1 := x1 r hr 1 (by omega)
    have c2 := x1 r hr 2 (by omega)
    have c3 := x1 r hr 3 (by omega)
    have c4 := x1 r hr 4 (by omega)
    have c5 := x1 r hr 5 (by omega)
    have c6 := x1 r hr 6 (by omega)
    have d21 : A 21 r = 0 := ar 0 (by omega) r hr
    have d22 : A 22 r = 0 := ar 1 (by omega) r hr
    have d23 : A 23 r = 0 := ar 2 (by omega) r hr
    have d24 : A 24 r = 0 := ar 3 (by omega) r hr
    have d25 : A 25 r = 0 := ar 4 (by omega) r hr
    have d26 : A 26 r = 0 := ar 5 (by omega) r hr
    have d27 : A 27 r = 0 := ar 6 (by omega) r hr
    have d28 : A 28 r = 0 := ar 7 (by omega) r hr
    have d29 : A 29 r = 0 := ar 8 (by omega) r hr
    have d30 : A 30 r = 0 := ar 9 (by omega) r hr
    refine ⟨0, 0, 0, 0, 0, 0, ⟨by omega, Or.inr rfl, by omega, by omega, fun h => absurd rfl h, by omega, by omega⟩, ⟨a1 r hr, d22, d23, d21, d24, d25⟩, ⟨x0 r hr, c0.1, c1.1, c2.1, c3.1.trans d30.symm⟩, ⟨c4.1.trans (a31 _ (by omega)).symm, c5.1.trans (a31 _ (by omega)).symm, c6.1.trans (a31 _ (by omega)).symm⟩, ⟨c0.2, c1.2, c2.2, c3.2.trans d29.symm⟩, ⟨c4.2.trans d26.symm, c5.2.trans d27.symm, c6.2.trans d28.symm⟩, ⟨Or.inl d26, Or.inl d27, Or.inl d28⟩, Or.inl d30, fun h => by omega, fun h => by omega, fun h => by omega⟩
  · exact fun n hn hm => absurd (a2 n hn) hm
  · exact fun a b ha hb => Or.inl ⟨a32 _ (by omega), x3 a ha b hb⟩
  · intro c hc
    obtain ⟨e1, e2, e3, e4, e5⟩ := x2 c hc
    exact ⟨⟨e1, e2, e3⟩, e4.trans (a35 c hc).symm, Or.inl (a35 c hc), ⟨0, Nat.le_refl _, a41 c hc, e5⟩, fun h => absurd (a35 c hc) h⟩
theorem rs_c5_eq {p : Nat} {f : Nat → Option Nat} (h : (bif Nat.beq (rc_ty p) 12 then rs_all 4 (fun i => rs_o (f i) (p + 1 + i)) else true) = true) (hp : rc_ty p = 12) : ∀ i, i < 4 → f i = some (p + 1 + i) := by
  rw [hp] at h
  have h : rs_all 4 (fun i => rs_o (f i) (p + 1 + i)) = true := h
  exact fun i hi => rs_o_eq (rs_all_eq h i hi)
theorem rs_Good : rg_Good 0 rb_hC1 rb_hR1 := by
  refine ⟨fun _ p => p, _, _, _, _, rs_hC, rs_hR, ?_⟩
  have hC := rs_okC1
  have hR := rs_okR1
  unfold rs_okC at hC
  unfold rs_okR at hR
  simp only [Bool.and_eq_true] at hC hR
  obtain ⟨-, k2, k3, k4, k5, k6, k7, k8, k9, k0, kt⟩ := hC
  obtain ⟨-, -, m2, m1, m31, m32, m35, m41, mr⟩ := hR
  refine rs_Rel (A := fun j => rs_x (rb_hR1.2.2 (j + 1))) ⟨fun i hi => rs_o_eq (rs_all_eq k2 i hi), fun i hi => rs_o_eq (rs_all_eq k3 i hi), fun i hi => rs_o_eq (rs_all_eq k4 i hi), fun p hp i hi => ?_⟩ (fun r hr p hp => rs_o_eq (rs_all_eq (rs_all_eq k6 r hr) p hp)) (rs_i_eq kt) (rs_z_eq m2) (rs_z_eq m1) (fun j hj r hr => rs_z_eq (rs_all_eq mr j hj) r hr) (rs_z_eq m31) (rs_z_eq m32) (rs_z_eq m35) (rs_z_eq m41) (fun r hr => rs_i_eq (rs_all_eq k7 r hr)) (fun r hr j hj => ?_) (fun c hc => ?_) (fun a ha b hb => rs_i_eq (rs_all_eq (rs_all_eq k0 a ha) b hb))
  · have hp2 : p < 166 := Nat.not_le.mp (fun h9 => by rw [rc_ty_ge h9] at hp; cases hp)
    exact rs_c5_eq (rs_all_eq k5 p hp2) hp i hi
  · have h8 := rs_all_eq (rs_all_eq k8 r hr) j hj
    rw [Bool.and_eq_true] at h8
    exact ⟨rs_i_eq h8.1, rs_i_eq h8.2⟩
  · have h9 := rs_all_eq k9 c hc
    simp only [Bool.and_eq_true] at h9
    obtain ⟨e1, e2, e3, e4, e5⟩ := h9
    exact ⟨rs_i_eq e1, rs_i_eq e2, rs_i_eq e3, rs_i_eq e4, rs_i_eq e5⟩
