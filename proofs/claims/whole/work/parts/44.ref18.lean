/-! the reference: go whole, isStation -/
section RRU
variable {d : Nat} {Q : Option Value → rb_H → Prop} {A : Nat → Nat → Int32} {t : Int32}
def rr_goL (B : Nat → Nat → Int32) (r p : Int32) : Nat → Nat → Nat → Int32
  | 0 => B
  | m + 1 => if (¬ rr_goL B r p m 2 m = 0 ∧ rr_goL B r p m 3 m = r) ∧ ¬ rr_goL B r p m 0 m ≤ p then rr_up (rr_goL B r p m) 0 m (rr_goL B r p m 0 m - 1) else rr_goL B r p m
def rr_gEnd (B : Nat → Nat → Int32) (r n : Nat) (p : Int32) : Nat → Nat → Int32 := rr_g5 (rr_g4 (rr_g3 (rr_g2 (rr_g1 B r p) r) r) r n) r n
theorem rr_goLoop {B : Nat → Nat → Int32} {r n : Nat} {p : Int32} (hr : r < 3) (hq : Q none (rr_h (rr_gEnd (rr_goL B (nI r) p 15) r n p) t)) : ∀ (f m : Nat) (x : Int32), m + f = 15 → x = nI m → rb_wp (d + 1) 71 41 [.ref 0, .int (nI n), .int (nI r), .int p, .int x] [] (rr_h (rr_goL B (nI r) p m) t) Q := by
  intro f
  induction f with
  | zero =>
    intro m x hf hx
    have hm : m = 15 := by omega
    subst hm hx
    refine rw_step rfl rfl ?_
    refine rw_step rfl rfl ?_
    refine rw_icmp rfl (fun _ => rr_g1M hr hq) (fun hc => absurd hc (by decide))
  | succ f ih =>
    intro m x hf hx
    subst hx
    have hm : m < 15 := by omega
    refine rw_step rfl rfl ?_
    refine rw_step rfl rfl ?_
    have hlt : ¬ (15 : Int32) ≤ nI m := nI_ge (a := m) (b := 15) hm (by omega)
    refine rw_icmp rfl (fun hc => absurd (of_decide_eq_true hc) hlt) (fun _ => ?_)
    have nxt : ∀ C : Nat → Nat → Int32, C = rr_goL B (nI r) p (m + 1) → rb_wp (d + 1) 71 91 [.ref 0, .int (nI n), .int (nI r), .int p, .int (nI m)] [] (rr_h C t) Q := by
      intro C hC
      subst hC
      refine rw_step rfl rfl ?_
      refine rw_step rfl rfl ?_
      exact ih (m + 1) (nI m + 1) (by omega) (nI_1 m)
    repeat (first | refine rw_step rfl rfl ?_ | refine rr_ldz rfl rfl rfl (by omega) rfl ?_)
    refine rw_if rfl (fun h1 => nxt _ ?_) (fun h1 => ?_)
    · rw [rr_goL, if_neg (fun h9 => h9.1.1 (rw_eq h1))]
    repeat (first | refine rw_step rfl rfl ?_ | refine rr_ld rfl rfl rfl (by omega) rfl ?_)
    refine rw_icmp rfl (fun h2 => nxt _ ?_) (fun h2 => ?_)
    · rw [rr_goL, if_neg (fun h9 => rw_ne h2 h9.1.2)]
    repeat (first | refine rw_step rfl rfl ?_ | refine rr_ld rfl rfl rfl (by omega) rfl ?_)
    refine rw_icmp rfl (fun h3 => nxt _ ?_) (fun h3 => ?_)
    · rw [rr_goL, if_neg (fun h9 => h9.2 (of_decide_eq_true h3))]
    refine rw_step rfl rfl ?_
    refine rw_step rfl rfl ?_
    refine rw_step rfl rfl ?_
    refine rw_step rfl rfl ?_
    refine rr_ld rfl rfl rfl (by omega) rfl ?_
    refine rw_step rfl rfl ?_
    refine rw_step rfl rfl ?_
    refine rr_st rfl (fun _ => rfl) rfl (by omega) rfl ?_
    refine nxt _ ?_
    rw [rr_goL, if_pos ⟨⟨rw_eqF h1, rw_neF h2⟩, of_decide_eq_false h3⟩]
def rr_go0 (A : Nat → Nat → Int32) (r n : Nat) : Nat → Nat → Int32 := rr_up (rr_up (rr_up A 2 n 0) 1 r (A 1 r - 1)) 4 n 0
def rr_go (A : Nat → Nat → Int32) (r n : Nat) : Nat → Nat → Int32 := rr_gEnd (rr_goL (rr_go0 A r n) (nI r) (A 0 n) 15) r n (A 0 n)
theorem rr_goM {r n : Nat} (hr : r < 3) (hn : n < 15) (hnr : A 3 n = nI r) (hq : Q none (rr_h (rr_go A r n) t)) : rb_cw (d + 2) 71 [.ref 0, .int (nI n)] (rr_h A t) Q := by
  refine rw_ent rfl rfl rfl ?_
  refine rw_step rfl rfl ?_
  refine rw_step rfl rfl ?_
  refine rw_step rfl rfl ?_
  refine rr_ld rfl rfl rfl (by omega) rfl ?_
  rw [hnr]
  repeat (first | refine rw_step rfl rfl ?_ | refine rr_ld rfl rfl rfl (by omega) rfl ?_ | refine rr_stz rfl rfl (fun _ => rfl) rfl (by omega) rfl ?_)
  refine rr_st rfl (fun _ => rfl) rfl (by omega) rfl ?_
  refine rw_step rfl rfl ?_
  refine rw_step rfl rfl ?_
  refine rw_step rfl rfl ?_
  refine rw_step rfl rfl ?_
  refine rr_st rfl (fun _ => rfl) rfl (by omega) rfl ?_
  refine rw_step rfl rfl ?_
  refine rw_step rfl rfl ?_
  exact rr_goLoop (B := rr_go0 A r n) hr hq 15 0 0 rfl rfl
def rr_isSt (A : Nat → Nat → Int32) (x : Int32) : Int32 := if (1 ≤ x ∧ x ≤ 9) ∧ ¬ A 2 (x - 1).toNatClampNeg = 0 then 1 else 0
theorem rr_addr9 {x : Int32} (h : 1 ≤ x ∧ x ≤ 9) : ∃ n : Nat, n < 9 ∧ x = nI (n + 1) := by
  obtain ⟨j, hj, rfl⟩ := nI_of2 (M := 9) (n := 9) (x := x) (by decide) (Int32.not_lt.mpr (Int32.le_trans (by decide) h.1)) h.2
  cases j with
  | zero => exact absurd h.1 (by decide)
  | succ j => exact ⟨j, by omega, rfl⟩
theorem rr_isStation {x : Int32} (hq : Q (some (.int (rr_isSt A x))) (rr_h A t)) : rb_cw (d + 2) 47 [.ref 0, .int x] (rr_h A t) Q := by
  refine rw_ent rfl rfl rfl ?_
  refine rw_step rfl rfl ?_
  refine rw_call rfl rfl rfl ?_
  refine rr_isAddress ?_
  by_cases hx : 1 ≤ x ∧ x ≤ 9
  · rw [if_pos hx]
    obtain ⟨n, hn, rfl⟩ := rr_addr9 hx
    have e1 : nI (n + 1) - 1 = nI n := nI_pred n
    have e2 : (nI (n + 1) - 1).toNatClampNeg = n := by rw [e1]; exact nI_clamp (by omega)
    refine rw_if rfl (fun h9 => absurd (rw_eq h9) (by decide)) (fun _ => ?_)
    repeat refine rw_step rfl rfl ?_
    refine rr_ldz (i := n) rfl rfl e1 (by omega) rfl ?_
    refine rw_if rfl (fun h1 => ?_) (fun h1 => ?_)
    · rw [rr_isSt, e2, if_neg (fun h9 => h9.2 (rw_eq h1))] at hq
      repeat refine rw_step rfl rfl ?_
      exact rw_ret rfl rfl rfl hq
    · rw [rr_isSt, e2, if_pos ⟨hx, rw_eqF h1⟩] at hq
      repeat refine rw_step rfl rfl ?_
      exact rw_ret rfl rfl rfl hq
  · rw [if_neg hx]
    rw [rr_isSt, if_neg (fun h9 => hx h9.1)] at hq
    refine rw_if rfl (fun _ => ?_) (fun h9 => absurd rfl (rw_eqF h9))
    repeat refine rw_step rfl rfl ?_
    exact rw_ret rfl rfl rfl hq
end RRU
