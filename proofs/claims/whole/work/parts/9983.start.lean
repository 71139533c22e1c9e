/-! the start: what the two constructors leave -/
def rs_x (c : va_E) : Nat → Int32 := match c with
  | .inl (_, _, .inl f) => f
  | .inr (_, fs) => fun j => match fs[j]? with
    | some (.int v) => v
    | _ => 0
  | _ => fun _ => 0
def rs_r (c : va_E) : Nat → Option Nat := match c with
  | .inl (_, _, .inr (.inr (.inr (.inr g)))) => g
  | _ => fun _ => none
def rs_v (a b : Value) : Bool := match a, b with
  | .int x, .int y => decide (x = y)
  | .ref x, .ref y => decide (x = y)
  | _, _ => false
def rs_l (a b : List Value) : Bool := match a, b with
  | [], [] => true
  | x :: a, y :: b => rs_v x y && rs_l a b
  | _, _ => false
theorem rs_v_eq {a b : Value} (h : rs_v a b = true) : a = b := by
  unfold rs_v at h
  split at h
  · rw [of_decide_eq_true h]
  · rw [of_decide_eq_true h]
  · cases h
theorem rs_l_eq : ∀ {a b : List Value}, rs_l a b = true → a = b
  | [], [], _ => rfl
  | x :: a, y :: b, h => by
    unfold rs_l at h
    rw [Bool.and_eq_true] at h
    rw [rs_v_eq h.1, rs_l_eq h.2]
  | [], y :: b, h => by cases h
  | x :: a, [], h => by cases h
/-- c is a cell of type T at place p -/
def rs_chk (T p : Nat) (c : va_E) : Bool := match c with
  | .inr (b, gs) => match rc_cell T p (rs_x (.inr (b, gs))) (fun _ => none) with
    | .inr (a, fs) => decide (a = b) && rs_l fs gs
    | _ => false
  | .inl (b, m, .inl _) => decide (b = 0) && (decide (T = 13 ∧ m = 3) || decide (T = 15 ∧ m = 8) || decide (T = 16 ∧ m = 4) || decide (T = 18 ∧ m = 10))
  | .inl (b, m, .inr (.inr (.inr (.inr _)))) => decide (T = 10 ∧ b = 2 ∧ m = 3) || decide (T = 11 ∧ b = 3 ∧ m = 5) || decide (T = 12 ∧ b = 4 ∧ m = 4) || decide (T = 14 ∧ b = 5 ∧ m = 4) || decide (T = 17 ∧ b = 6 ∧ m = 10)
  | _ => false
theorem rs_chk_eq {T p : Nat} {c : va_E} (h : rs_chk T p c = true) : c = rc_cell T p (rs_x c) (rs_r c) := by
  unfold rs_chk at h
  split at h
  · rename_i b gs
    split at h
    · rename_i a fs e
      rw [Bool.and_eq_true, decide_eq_true_eq] at h
      obtain ⟨h1, h2⟩ := h
      have h2 := rs_l_eq h2
      subst h1 h2
      exact e.symm
    · cases h
  · rename_i b m f
    simp only [Bool.and_eq_true, Bool.or_eq_true, decide_eq_true_eq] at h
    obtain ⟨rfl, ((⟨rfl, rfl⟩ | ⟨rfl, rfl⟩) | ⟨rfl, rfl⟩) | ⟨rfl, rfl⟩⟩ := h <;> rfl
  · rename_i b m f
    simp only [Bool.or_eq_true, decide_eq_true_eq] at h
    obtain (((⟨rfl, rfl, rfl⟩ | ⟨rfl, rfl, rfl⟩) | ⟨rfl, rfl, rfl⟩) | ⟨rfl, rfl, rfl⟩) | ⟨rfl, rfl, rfl⟩ := h <;> rfl
  · cases h
def rs_all (n : Nat) (f : Nat → Bool) : Bool := (List.range n).all f
theorem rs_all_eq {n : Nat} {f : Nat → Bool} (h : rs_all n f = true) : ∀ i, i < n → f i = true := fun i hi => List.all_eq_true.mp h i (List.mem_range.mpr hi)
def rs_o (a : Option Nat) (b : Nat) : Bool := match a with
  | some x => Nat.beq x b
  | none => false
theorem rs_o_eq {a : Option Nat} {b : Nat} (h : rs_o a b = true) : a = some b := by
  unfold rs_o at h
  split at h
  · rw [Nat.eq_of_beq_eq_true h]
  · cases h
def rs_i (a b : Int32) : Bool := decide (a = b)
theorem rs_i_eq {a b : Int32} (h : rs_i a b = true) : a = b := of_decide_eq_true h
def rs_c1 (h : Nat → va_E) : Bool := rs_all 166 fun i => rs_chk (rc_ty i) i (h i)
def rs_c2 (h : Nat → va_E) : Bool := rs_all 3 fun i => rs_o (rs_r (h 1) i) (2 + 44 * i)
def rs_c3 (h : Nat → va_E) : Bool := rs_all 4 fun i => rs_o (rs_r (h 134) i) (135 + 5 * i)
def rs_c4 (h : Nat → va_E) : Bool := rs_all 10 fun i => rs_o (rs_r (h 155) i) (156 + i)
def rs_c5 (h : Nat → va_E) : Bool := rs_all 166 fun p => bif Nat.beq (rc_ty p) 12 then rs_all 4 (fun i => rs_o (rs_r (h p) i) (p + 1 + i)) else true
def rs_c6 (h : Nat → va_E) : Bool := rs_all 3 fun r => rs_all 5 fun p => rs_o (rs_r (h (2 + 44 * r + 1)) p) (4 + 44 * r + 8 * p)
def rs_c7 (h : Nat → va_E) : Bool := rs_all 3 fun r => rs_i (rs_x (h (2 + 44 * r)) 0) (nI r)
def rs_c8 (h : Nat → va_E) : Bool := rs_all 3 fun r => rs_all 7 fun j => rs_i (rs_x (h (2 + 44 * r)) (j + 3)) 0 && rs_i (rs_x (h (2 + 44 * r + 42)) (j + 1)) 0
def rs_c9 (h : Nat → va_E) : Bool := rs_all 4 fun c => rs_i (rs_x (h (135 + 5 * c)) 0) (nI c) && (rs_i (rs_x (h (135 + 5 * c + 1)) 1) 7 && (rs_i (rs_x (h (135 + 5 * c + 3)) 1) 3 && (rs_i (rs_x (h (135 + 5 * c)) 3) 0 && rs_i (rs_x (h (135 + 5 * c)) 4) 0)))
def rs_c0 (h : Nat → va_E) : Bool := rs_all 9 fun a => rs_all 9 fun b => rs_i (rs_x (h (156 + (a + 1))) (b + 1)) (-1)
def rs_okC (h : Nat → va_E) : Bool := rs_c1 h && (rs_c2 h && (rs_c3 h && (rs_c4 h && (rs_c5 h && (rs_c6 h && (rs_c7 h && (rs_c8 h && (rs_c9 h && (rs_c0 h && rs_i (rs_x (h 0) 3) 0)))))))))
set_option maxRecDepth 1000000 in
set_option maxHeartbeats 8000000 in
theorem rs_conC : (rb_yC.map fun y => rs_okC y.2.2.2) = some true := by decide +kernel
theorem rs_okC1 : rs_okC rb_hC1.2.2 = true := by
  have h := rs_conC
  unfold rb_hC1
  revert h
  cases rb_yC with
  | none => intro h; cases h
  | some y => intro h; exact Option.some.inj h
