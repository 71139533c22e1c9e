/-! the reference: its object at place 0, its j-th array at place j + 1 -/
abbrev ra_place : Nat := 0
abbrev ra_members : Nat := 1
abbrev ra_here : Nat := 2
abbrev ra_ringOf : Nat := 3
abbrev ra_waits : Nat := 4
abbrev ra_pairs : Nat := 5
abbrev ra_lower : Nat := 6
abbrev ra_upper : Nat := 7
abbrev ra_kind : Nat := 8
abbrev ra_own : Nat := 9
abbrev ra_from : Nat := 10
abbrev ra_to : Nat := 11
abbrev ra_first : Nat := 12
abbrev ra_second : Nat := 13
abbrev ra_pathA : Nat := 14
abbrev ra_pathB : Nat := 15
abbrev ra_rings : Nat := 16
abbrev ra_link : Nat := 17
abbrev ra_opening : Nat := 18
abbrev ra_number : Nat := 19
abbrev ra_load : Nat := 20
abbrev ra_signalOf : Nat := 21
abbrev ra_at : Nat := 22
abbrev ra_quiet : Nat := 23
abbrev ra_priority : Nat := 24
abbrev ra_reserved : Nat := 25
abbrev ra_seen : Nat := 26
abbrev ra_bad : Nat := 27
abbrev ra_copied : Nat := 28
abbrev ra_addressed : Nat := 29
abbrev ra_monitorOf : Nat := 30
abbrev ra_counts : Nat := 31
abbrev ra_known : Nat := 32
abbrev ra_routeA : Nat := 33
abbrev ra_routeB : Nat := 34
abbrev ra_stateOf : Nat := 35
abbrev ra_fromOf : Nat := 36
abbrev ra_toOf : Nat := 37
abbrev ra_ownOf : Nat := 38
abbrev ra_wayA : Nat := 39
abbrev ra_wayB : Nat := 40
abbrev ra_openings : Nat := 41
abbrev ra_firstOf : Nat := 42
abbrev ra_sentOf : Nat := 43
abbrev ra_offeredOf : Nat := 44
abbrev ra_offered : Nat := 45
abbrev ra_waiting : Nat := 46
abbrev ra_timers : Nat := 47
abbrev ra_triesOf : Nat := 48
abbrev ra_expectedOf : Nat := 49
abbrev ra_inboxOf : Nat := 50
abbrev ra_inbox : Nat := 51
abbrev ra_complains : Nat := 52
abbrev ra_putsOff : Nat := 53
def rr_cell (j : Nat) (f : Nat → Int32) : va_E := match j with
  | 0 => .inl (0, 15, .inl f)
  | 1 => .inl (0, 3, .inl f)
  | 2 => .inl (1, 15, .inl f)
  | 3 => .inl (0, 15, .inl f)
  | 4 => .inl (0, 15, .inl f)
  | 5 => .inl (0, 15, .inl f)
  | 6 => .inl (0, 120, .inl f)
  | 7 => .inl (0, 120, .inl f)
  | 8 => .inl (0, 64, .inl f)
  | 9 => .inl (0, 64, .inl f)
  | 10 => .inl (0, 64, .inl f)
  | 11 => .inl (0, 64, .inl f)
  | 12 => .inl (0, 64, .inl f)
  | 13 => .inl (0, 64, .inl f)
  | 14 => .inl (0, 64, .inl f)
  | 15 => .inl (0, 64, .inl f)
  | 16 => .inl (0, 64, .inl f)
  | 17 => .inl (0, 64, .inl f)
  | 18 => .inl (0, 64, .inl f)
  | 19 => .inl (0, 64, .inl f)
  | 20 => .inl (0, 64, .inl f)
  | 21 => .inl (0, 3, .inl f)
  | 22 => .inl (0, 3, .inl f)
  | 23 => .inl (0, 3, .inl f)
  | 24 => .inl (0, 3, .inl f)
  | 25 => .inl (0, 3, .inl f)
  | 26 => .inl (1, 3, .inl f)
  | 27 => .inl (1, 3, .inl f)
  | 28 => .inl (1, 3, .inl f)
  | 29 => .inl (0, 3, .inl f)
  | 30 => .inl (0, 3, .inl f)
  | 31 => .inl (0, 9, .inl f)
  | 32 => .inl (1, 81, .inl f)
  | 33 => .inl (0, 81, .inl f)
  | 34 => .inl (0, 81, .inl f)
  | 35 => .inl (0, 4, .inl f)
  | 36 => .inl (0, 4, .inl f)
  | 37 => .inl (0, 4, .inl f)
  | 38 => .inl (0, 4, .inl f)
  | 39 => .inl (0, 4, .inl f)
  | 40 => .inl (0, 4, .inl f)
  | 41 => .inl (0, 4, .inl f)
  | 42 => .inl (0, 4, .inl f)
  | 43 => .inl (0, 4, .inl f)
  | 44 => .inl (0, 4, .inl f)
  | 45 => .inl (0, 32, .inl f)
  | 46 => .inl (1, 4, .inl f)
  | 47 => .inl (0, 4, .inl f)
  | 48 => .inl (0, 4, .inl f)
  | 49 => .inl (0, 4, .inl f)
  | 50 => .inl (0, 4, .inl f)
  | 51 => .inl (0, 16, .inl f)
  | 52 => .inl (1, 4, .inl f)
  | 53 => .inl (1, 4, .inl f)
  | _ => rb_blank
def rr_obj (t : Int32) : va_E := .inr (7, [.ref 1, .ref 2, .ref 3, .ref 4, .ref 5, .ref 6, .ref 7, .ref 8, .ref 9, .ref 10, .ref 11, .ref 12, .ref 13, .ref 14, .ref 15, .ref 16, .ref 17, .ref 18, .ref 19, .ref 20, .ref 21, .ref 22, .ref 23, .ref 24, .ref 25, .ref 26, .ref 27, .ref 28, .ref 29, .ref 30, .ref 31, .ref 32, .ref 33, .ref 34, .ref 35, .ref 36, .ref 37, .ref 38, .ref 39, .ref 40, .ref 41, .ref 42, .ref 43, .ref 44, .ref 45, .ref 46, .ref 47, .ref 48, .ref 49, .ref 50, .ref 51, .ref 52, .ref 53, .ref 54, .int t])
def rr_enc (A : Nat → Nat → Int32) (t : Int32) (i : Nat) : va_E := match i with
  | 0 => rr_obj t
  | j + 1 => rr_cell j (A j)
def rr_h (A : Nat → Nat → Int32) (t : Int32) : rb_H := (55, 1603, rr_enc A t)
def rr_up (A : Nat → Nat → Int32) (j i : Nat) (v : Int32) : Nat → Nat → Int32 := va_up A j (upd (A j) i v)
theorem rr_up_same (A : Nat → Nat → Int32) (j i : Nat) (v : Int32) : rr_up A j i v j i = v := by simp [rr_up, va_up, upd]
theorem rr_up_at (A : Nat → Nat → Int32) (j i : Nat) (v : Int32) (j2 i2 : Nat) : rr_up A j i v j2 i2 = if j2 = j ∧ i2 = i then v else A j2 i2 := by
  unfold rr_up va_up upd
  by_cases h : j2 = j
  · subst h
    by_cases h2 : i2 = i <;> simp [h2]
  · simp [h]
theorem rr_fold (A : Nat → Nat → Int32) (t : Int32) (j : Nat) (g : Nat → Int32) : va_up (rr_enc A t) (j + 1) (rr_cell j g) = rr_enc (va_up A j g) t := by
  funext i
  cases i with
  | zero => rfl
  | succ i =>
    by_cases h : i = j
    · subst h
      simp [va_up, rr_enc]
    · simp [va_up, rr_enc, h]
section RRW
variable {d k pc nx a b : Nat} {ls : List Value} {Q : Option Value → rb_H → Prop} {kc : Int32} {A : Nat → Nat → Int32} {t : Int32}
theorem rr_iald {x : Int32} {j n : Nat} {r : List Value} (hi : rb_ins k pc = some (.iaload, nx, a, b, kc)) (hc : rr_cell j (A j) = .inl (0, n, .inl (A j))) (hin : vp_in x n) (kk : rb_wp d k nx ls (.int (A j x.toNatClampNeg) :: r) (rr_h A t) Q) : rb_wp d k pc ls (.int x :: .ref (j + 1) :: r) (rr_h A t) Q := rw_iald (h := rr_h A t) hi hc hin kk
theorem rr_bald {x : Int32} {j n : Nat} {r : List Value} (hi : rb_ins k pc = some (.baload, nx, a, b, kc)) (hc : rr_cell j (A j) = .inl (1, n, .inl (A j))) (hin : vp_in x n) (kk : rb_wp d k nx ls (.int (A j x.toNatClampNeg) :: r) (rr_h A t) Q) : rb_wp d k pc ls (.int x :: .ref (j + 1) :: r) (rr_h A t) Q := rw_bald (h := rr_h A t) hi hc hin kk
theorem rr_iast {x v : Int32} {j n : Nat} {r : List Value} (hi : rb_ins k pc = some (.iastore, nx, a, b, kc)) (hc : ∀ g, rr_cell j g = .inl (0, n, .inl g)) (hin : vp_in x n) (kk : rb_wp d k nx ls r (rr_h (rr_up A j x.toNatClampNeg v) t) Q) : rb_wp d k pc ls (.int v :: .int x :: .ref (j + 1) :: r) (rr_h A t) Q := by
  refine rw_iast (h := rr_h A t) (n := n) (f := A j) hi (hc (A j)) hin ?_
  rw [show ((rr_h A t).1, (rr_h A t).2.1, va_up (rr_h A t).2.2 (j + 1) (.inl (0, n, .inl (upd (A j) x.toNatClampNeg v)))) = rr_h (rr_up A j x.toNatClampNeg v) t by rw [← hc]; show (55, 1603, va_up (rr_enc A t) (j + 1) (rr_cell j (upd (A j) x.toNatClampNeg v))) = _; rw [rr_fold]; rfl]
  exact kk
theorem rr_bast {x v : Int32} {j n : Nat} {r : List Value} (hi : rb_ins k pc = some (.bastore, nx, a, b, kc)) (hv : rb_fit .boolean (.int v) = true) (hc : ∀ g, rr_cell j g = .inl (1, n, .inl g)) (hin : vp_in x n) (kk : rb_wp d k nx ls r (rr_h (rr_up A j x.toNatClampNeg v) t) Q) : rb_wp d k pc ls (.int v :: .int x :: .ref (j + 1) :: r) (rr_h A t) Q := by
  refine rw_bast (h := rr_h A t) (n := n) (f := A j) hi hv (hc (A j)) hin ?_
  rw [show ((rr_h A t).1, (rr_h A t).2.1, va_up (rr_h A t).2.2 (j + 1) (.inl (1, n, .inl (upd (A j) x.toNatClampNeg v)))) = rr_h (rr_up A j x.toNatClampNeg v) t by rw [← hc]; show (55, 1603, va_up (rr_enc A t) (j + 1) (rr_cell j (upd (A j) x.toNatClampNeg v))) = _; rw [rr_fold]; rfl]
  exact kk
end RRW
section RRA
variable {d : Nat} {h : rb_H} {Q : Option Value → rb_H → Prop} {A : Nat → Nat → Int32} {t : Int32}
def rr_addr (x : Int32) : Int32 := if x < 9 then x + 1 else 10 + (x - 9) / 2
theorem rr_addressOf {x : Int32} (hq : Q (some (.int (rr_addr x))) h) : rb_cw (d + 1) 44 [.int x] h Q := by
  refine rw_ent rfl rfl rfl ?_
  repeat refine rw_step rfl rfl ?_
  refine rw_icmp rfl (fun hc => ?_) (fun hc => ?_)
  · repeat refine rw_step rfl rfl ?_
    refine rw_ret rfl rfl rfl ?_
    have hc : ¬ x < 9 := Int32.not_lt.mpr (of_decide_eq_true hc)
    rw [rr_addr, if_neg hc] at hq
    exact hq
  · repeat refine rw_step rfl rfl ?_
    refine rw_ret rfl rfl rfl ?_
    have hc : x < 9 := Int32.not_le.mp (of_decide_eq_false hc)
    rw [rr_addr, if_pos hc] at hq
    exact hq
theorem rr_isRing {x : Int32} (hq : Q (some (.int (if 0 ≤ x ∧ x ≤ 2 then 1 else 0))) h) : rb_cw (d + 1) 45 [.int x] h Q := by
  refine rw_ent rfl rfl rfl ?_
  repeat refine rw_step rfl rfl ?_
  refine rw_if rfl (fun hc => ?_) (fun hc => ?_)
  · repeat refine rw_step rfl rfl ?_
    refine rw_ret rfl rfl rfl ?_
    have hc : x < 0 := of_decide_eq_true hc
    rw [if_neg (fun h9 => absurd hc (Int32.not_lt.mpr h9.1))] at hq
    exact hq
  · repeat refine rw_step rfl rfl ?_
    have hc : 0 ≤ x := Int32.not_lt.mp (of_decide_eq_false hc)
    refine rw_icmp rfl (fun hc2 => ?_) (fun hc2 => ?_)
    · repeat refine rw_step rfl rfl ?_
      refine rw_ret rfl rfl rfl ?_
      have hc2 : 2 < x := of_decide_eq_true hc2
      rw [if_neg (fun h9 => absurd hc2 (Int32.not_lt.mpr h9.2))] at hq
      exact hq
    · repeat refine rw_step rfl rfl ?_
      refine rw_ret rfl rfl rfl ?_
      have hc2 : x ≤ 2 := Int32.not_lt.mp (of_decide_eq_false hc2)
      rw [if_pos ⟨hc, hc2⟩] at hq
      exact hq
end RRA
