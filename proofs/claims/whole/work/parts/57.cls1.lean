/-! the class: its leaves -/
theorem rk_ne {X : Nat → Nat → Int32} {p q j j2 : Nat} {v : Int32} (h : q ≠ p) : rr_up X p j v q j2 = X q j2 := by
  rw [rr_up_at, if_neg (fun h9 => h h9.1)]
theorem rk_ne2 {X : Nat → Nat → Int32} {p q j j2 : Nat} {v : Int32} (h : j2 ≠ j) : rr_up X p j v q j2 = X q j2 := by
  rw [rr_up_at, if_neg (fun h9 => h h9.2)]
theorem rk_tne {p q a b : Nat} (hp : rc_ty p = a) (hq : rc_ty q = b) (h : Nat.beq a b = false) : p ≠ q := by
  intro h9
  subst h9
  rw [hp] at hq
  subst hq
  rw [Nat.beq_refl] at h
  cases h
section RKA
variable {d k pc nx a b : Nat} {ls : List Value} {Q : Option Value → rb_H → Prop} {kc : Int32} {X : Nat → Nat → Int32} {R : Nat → Nat → Option Nat}
theorem rc_gv {p idx : Nat} {v : Int32} {r : List Value} (hi : rb_ins k pc = some (.getfield idx, nx, a, b, kc)) (hT : rc_ty p = a) (hf : rc_int a b = true) (hv : X p b = v) (kk : rb_wp d k nx ls (.int v :: r) (rc_h X R) Q) : rb_wp d k pc ls (.ref p :: r) (rc_h X R) Q := by
  subst hv
  exact rc_g hi hT hf kk
theorem rk_clear {P : Nat} (hP : rc_ty P = 6) (hq : Q none (rc_h (rr_up (rr_up X P 2 0) P 3 0) R)) : rb_cw (d + 1) 89 [.ref P] (rc_h X R) Q := by
  refine rw_ent rfl rfl rfl ?_
  repeat (first | refine rw_step rfl rfl ?_ | refine rc_p rfl hP rfl rfl ?_)
  exact rw_ret rfl rfl rfl hq
theorem rk_bfull {P T n : Nat} (hP : rc_ty P = 6) (hT : rc_ty (P + 1) = T) (hn : rc_len T = n) (hn0 : 0 < n) (hq : Q (some (.int (if X P 3 < nI n then 0 else 1))) (rc_h X R)) : rb_cw (d + 1) 90 [.ref P] (rc_h X R) Q := by
  subst hn
  refine rw_ent rfl rfl rfl ?_
  refine rw_step rfl rfl ?_
  refine rc_g rfl hP rfl ?_
  refine rw_step rfl rfl ?_
  refine rc_gr rfl hP rfl ?_
  refine rc_ln rfl hT hn0 ?_
  refine rw_icmp rfl (fun hc => ?_) (fun hc => ?_)
  · have hc : X P 3 < nI (rc_len T) := of_decide_eq_true hc
    rw [if_pos hc] at hq
    repeat refine rw_step rfl rfl ?_
    exact rw_ret rfl rfl rfl hq
  · have hc : ¬ X P 3 < nI (rc_len T) := of_decide_eq_false hc
    rw [if_neg hc] at hq
    repeat refine rw_step rfl rfl ?_
    exact rw_ret rfl rfl rfl hq
theorem rk_badd {P T n i : Nat} {v : Int32} (hP : rc_ty P = 6) (hT : rc_ty (P + 1) = T) (hn : rc_len T = n) (hs : X P 3 < nI n) (hi : (X P 2 + X P 3) &&& X P 1 = nI i) (hin : i < n) (hq : Q none (rc_h (rr_up (rr_up X (P + 1) i v) P 3 (X P 3 + 1)) R)) : rb_cw (d + 2) 91 [.ref P, .int v] (rc_h X R) Q := by
  refine rw_ent rfl rfl rfl ?_
  refine rw_step rfl rfl ?_
  refine rc_call rfl hP (by decide) rfl rfl rfl rfl ?_
  refine rk_bfull hP hT hn (by omega) ?_
  rw [if_pos hs]
  repeat (first | refine rw_step rfl rfl ?_ | refine rc_g rfl hP rfl ?_ | refine rc_gr rfl hP rfl ?_)
  refine rc_is rfl hT hi (by omega) ?_
  repeat refine rw_step rfl rfl ?_
  refine rc_gv rfl hP rfl (rk_ne (by omega)) ?_
  repeat refine rw_step rfl rfl ?_
  refine rc_p rfl hP rfl rfl ?_
  exact rw_ret rfl rfl rfl hq
theorem rk_bget {P T n i : Nat} {x : Int32} (hP : rc_ty P = 6) (hT : rc_ty (P + 1) = T) (hn : rc_len T = n) (h0 : ¬ x < 0) (hs : x < X P 3) (hi : (X P 2 + x) &&& X P 1 = nI i) (hin : i < n) (hq : Q (some (.int (X (P + 1) i))) (rc_h X R)) : rb_cw (d + 1) 92 [.ref P, .int x] (rc_h X R) Q := by
  refine rw_ent rfl rfl rfl ?_
  refine rw_step rfl rfl ?_
  refine rw_if rfl (fun hc => absurd (of_decide_eq_true hc) h0) (fun _ => ?_)
  repeat (first | refine rw_step rfl rfl ?_ | refine rc_g rfl hP rfl ?_)
  refine rw_icmp rfl (fun hc => absurd hs (Int32.not_lt.mpr (of_decide_eq_true hc))) (fun _ => ?_)
  repeat (first | refine rw_step rfl rfl ?_ | refine rc_g rfl hP rfl ?_ | refine rc_gr rfl hP rfl ?_)
  refine rc_il rfl hT hi (by omega) ?_
  repeat refine rw_step rfl rfl ?_
  exact rw_ret rfl rfl rfl hq
theorem rk_bdrop {P : Nat} {x : Int32} (hP : rc_ty P = 6) (h0 : ¬ x < 0) (hs : x ≤ X P 3) (hq : Q none (rc_h (rr_up (rr_up X P 2 ((X P 2 + x) &&& X P 1)) P 3 (X P 3 - x)) R)) : rb_cw (d + 1) 93 [.ref P, .int x] (rc_h X R) Q := by
  refine rw_ent rfl rfl rfl ?_
  refine rw_step rfl rfl ?_
  refine rw_if rfl (fun hc => absurd (of_decide_eq_true hc) h0) (fun _ => ?_)
  repeat (first | refine rw_step rfl rfl ?_ | refine rc_g rfl hP rfl ?_)
  refine rw_icmp rfl (fun hc => absurd hs (Int32.not_le.mpr (of_decide_eq_true hc))) (fun _ => ?_)
  repeat (first | refine rw_step rfl rfl ?_ | refine rc_g rfl hP rfl ?_)
  refine rc_p rfl hP rfl rfl ?_
  repeat refine rw_step rfl rfl ?_
  refine rc_gv rfl hP rfl (rk_ne2 (by decide)) ?_
  repeat refine rw_step rfl rfl ?_
  refine rc_p rfl hP rfl rfl ?_
  exact rw_ret rfl rfl rfl hq
def rk_bgX (X : Nat → Nat → Int32) (F : Nat) (k p a b : Int32) : Nat → Nat → Int32 := rr_up (rr_up (rr_up (rr_up (rr_up (rr_up X F 0 k) F 1 p) F 2 a) F 3 b) F 4 0) F 5 0
theorem rk_fbegin {F : Nat} {k p a b : Int32} (hF : rc_ty F = 3) (hq : Q none (rc_h (rk_bgX X F k p a b) R)) : rb_cw (d + 1) 95 [.ref F, .int k, .int p, .int a, .int b] (rc_h X R) Q := by
  refine rw_ent rfl rfl rfl ?_
  repeat (first | refine rw_step rfl rfl ?_ | refine rc_p rfl hF rfl rfl ?_)
  exact rw_ret rfl rfl rfl hq
theorem rk_belong {F L : Nat} {z : Int32} (hF : rc_ty F = 3) (hL : rc_ty L = 5) (hq : Q none (rc_h (rr_up (rr_up (rr_up X F 7 (X L 0)) F 8 (X L 4)) F 9 z) R)) : rb_cw (d + 1) 96 [.ref F, .ref L, .int z] (rc_h X R) Q := by
  refine rw_ent rfl rfl rfl ?_
  repeat (first | refine rw_step rfl rfl ?_ | refine rc_g rfl hL rfl ?_)
  refine rc_p rfl hF rfl rfl ?_
  repeat refine rw_step rfl rfl ?_
  refine rc_gv rfl hL rfl (rk_ne (rk_tne hL hF rfl)) ?_
  repeat (first | refine rw_step rfl rfl ?_ | refine rc_p rfl hF rfl rfl ?_)
  exact rw_ret rfl rfl rfl hq
def rk_cp (X : Nat → Nat → Int32) (G F : Nat) : Nat → Nat → Int32 := fun p j => if p = F ∧ j ≤ 10 then X G j else X p j
theorem rk_copy {F G : Nat} (hF : rc_ty F = 3) (hG : rc_ty G = 3) (hne : G ≠ F) (hq : Q none (rc_h (rk_cp X G F) R)) : rb_cw (d + 1) 97 [.ref F, .ref G] (rc_h X R) Q := by
  refine rw_ent rfl rfl rfl ?_
  repeat (first | refine rw_step rfl rfl ?_ | refine rc_gv (v := X G _) rfl hG rfl (by first | rfl | (repeat rw [rk_ne hne])) ?_ | refine rc_p rfl hF rfl rfl ?_)
  refine rw_ret rfl rfl rfl ?_
  refine cast (congrArg (fun B => Q none (rc_h B R)) ?_) hq
  funext p j
  simp only [rr_up_at, rk_cp]
  by_cases hp : p = F
  · subst hp
    by_cases hj : j ≤ 10
    · have : j = 0 ∨ j = 1 ∨ j = 2 ∨ j = 3 ∨ j = 4 ∨ j = 5 ∨ j = 6 ∨ j = 7 ∨ j = 8 ∨ j = 9 ∨ j = 10 := by omega
      rcases this with rfl | rfl | rfl | rfl | rfl | rfl | rfl | rfl | rfl | rfl | rfl <;> simp
    · rw [if_neg (fun h9 => hj h9.2)]
      repeat rw [if_neg (by omega)]
  · simp [hp]
end RKA
