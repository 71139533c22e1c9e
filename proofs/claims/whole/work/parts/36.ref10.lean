/-! the reference: receive -/
section RRM
variable {d : Nat} {Q : Option Value → rb_H → Prop} {A : Nat → Nat → Int32} {t : Int32}
theorem rr_e60 (r : Nat) : (60 : Int32) + nI r = nI (60 + r) := nI_add 60 r
set_option maxRecDepth 100000 in
theorem rr_receiveP {r n w : Nat} (hr : r < 3) (hn : n < 15) (hn9 : 9 ≤ n) (ho : rr_oth n < 15) (hw : A 4 (rr_oth n) = nI w) (hw4 : w ≤ 4) (hq : Q none (rr_h (rr_port A r (rr_oth n) w (rr_addr (nI n) - 10)) t)) : rb_cw (d + 3) 63 [.ref 0, .int (nI r), .int (nI n)] (rr_h A t) Q := by
  refine rw_ent rfl rfl rfl ?_
  repeat refine rw_step rfl rfl ?_
  refine rw_call rfl rfl rfl ?_
  refine rr_addressOf ?_
  repeat refine rw_step rfl rfl ?_
  refine rw_icmp rfl (fun h1 => absurd (of_decide_eq_true h1) (nI_nlt (a := n) (b := 9) hn9 (by omega))) (fun _ => ?_)
  refine rw_step rfl rfl ?_
  refine rw_step rfl rfl ?_
  refine rw_step rfl rfl ?_
  refine rw_step rfl rfl ?_
  show rb_wp (d + 2) 63 24 [.ref 0, .int (nI r), .int (nI n), .int ((60 : Int32) + nI r), .int (rr_addr (nI n)), .int (rr_addr (nI n) - 10), .retAddr 0] [] (rr_h A t) Q
  rw [rr_e60]
  exact rr_portM (x5 := .null) hr hn hn9 ho hw hw4 hq
def rr_stat (A : Nat → Nat → Int32) (r n w m c ib nn ww mm o : Nat) : Nat → Nat → Int32 :=
  if ¬ A 11 (60 + r) = nI (n + 1) then A
  else if ¬ A 8 (60 + r) = 0 ∧ ¬ A 12 (60 + r) < 0 then A
  else if A 8 (60 + r) = 0 then rr_reply (rr_up A 28 r 1) (60 + r) n w (nI (n + 1))
  else if A 8 (60 + r) = 1 then rr_learn (rr_up A 28 r 1) (60 + r) (9 * n + m)
  else rr_use (rr_up A 28 r 1) (60 + r) c ib nn ww mm o
/-- what a frame of a connection must be for the reference to take it -/
def rr_useOk (A : Nat → Nat → Int32) (f c ib nn ww mm o : Nat) : Prop := c < 4 ∧ A 17 f = nI c ∧ ((A 35 c = 1 ∧ A 41 c = A 18 f) → A 8 f = 2 → A 50 c = nI ib ∧ ib ≤ 4 ∧ nn < 15 ∧ A 37 c = nI (nn + 1) ∧ A 4 nn = nI ww ∧ ww ≤ 4) ∧ ((A 35 c = 1 ∧ A 41 c = A 18 f) → ¬ A 8 f = 2 → rr_many A c (A 19 f) = nI mm ∧ A 44 c = nI o ∧ o ≤ 8 ∧ (rr_many A c (A 19 f) ≤ A 43 c → mm ≤ o))
set_option maxRecDepth 100000 in
theorem rr_statTail {r n w m c ib nn ww mm o : Nat} {x5 x6 : Value} (hr : r < 3) (hn : n < 9) (hE : A 8 (60 + r) = 0 → A 4 n = nI w ∧ w ≤ 4) (hR : A 8 (60 + r) = 1 → m < 9 ∧ A 10 (60 + r) = nI (m + 1)) (hU : ¬ A 8 (60 + r) = 0 → ¬ A 8 (60 + r) = 1 → rr_useOk A (60 + r) c ib nn ww mm o) (hq : Q none (rr_h (if A 8 (60 + r) = 0 then rr_reply (rr_up A 28 r 1) (60 + r) n w (nI (n + 1)) else if A 8 (60 + r) = 1 then rr_learn (rr_up A 28 r 1) (60 + r) (9 * n + m) else rr_use (rr_up A 28 r 1) (60 + r) c ib nn ww mm o) t)) : rb_wp (d + 4) 63 228 [.ref 0, .int (nI r), .int (nI n), .int (nI (60 + r)), .int (nI (n + 1)), x5, x6] [] (rr_h A t) Q := by
  repeat (first | refine rw_step rfl rfl ?_ | refine rr_stz rfl rfl (fun _ => rfl) rfl (by omega) rfl ?_ | refine rr_ld rfl rfl rfl (by omega) rfl ?_)
  refine rw_if rfl (fun h1 => ?_) (fun h1 => ?_)
  · have h1 : ¬ A 8 (60 + r) = 0 := rw_ne h1
    rw [if_neg h1] at hq
    repeat (first | refine rw_step rfl rfl ?_ | refine rr_ld rfl rfl rfl (by omega) rfl ?_)
    refine rw_icmp rfl (fun h2 => ?_) (fun h2 => ?_)
    · have h2 : ¬ A 8 (60 + r) = 1 := rw_ne h2
      rw [if_neg h2] at hq
      obtain ⟨g1, g2, g3, g4⟩ := hU h1 h2
      exact rr_useM (B := rr_up A 28 r 1) hr g1 g2 g3 g4 hq
    · have h2 : A 8 (60 + r) = 1 := rw_neF h2
      rw [if_pos h2] at hq
      obtain ⟨g1, g2⟩ := hR h2
      exact rr_learnM (B := rr_up A 28 r 1) hr hn g1 g2 hq
  · have h1 : A 8 (60 + r) = 0 := rw_neF h1
    rw [if_pos h1] at hq
    obtain ⟨g1, g2⟩ := hE h1
    exact rr_replyM (d := d + 2) (B := rr_up A 28 r 1) hr (by omega) g1 g2 hq
theorem rr_addrS {n : Nat} (hn : n < 9) : rr_addr (nI n) = nI (n + 1) := by
  rw [rr_addr, if_pos (show nI n < 9 from nI_lt (a := n) (b := 9) hn (by omega)), nI_1]
set_option maxRecDepth 100000 in
theorem rr_receiveS {r n w m c ib nn ww mm o : Nat} (hr : r < 3) (hn : n < 9) (hE : A 8 (60 + r) = 0 → A 4 n = nI w ∧ w ≤ 4) (hR : A 8 (60 + r) = 1 → m < 9 ∧ A 10 (60 + r) = nI (m + 1)) (hU : ¬ A 8 (60 + r) = 0 → ¬ A 8 (60 + r) = 1 → rr_useOk A (60 + r) c ib nn ww mm o) (hq : Q none (rr_h (rr_stat A r n w m c ib nn ww mm o) t)) : rb_cw (d + 5) 63 [.ref 0, .int (nI r), .int (nI n)] (rr_h A t) Q := by
  refine rw_ent rfl rfl rfl ?_
  repeat refine rw_step rfl rfl ?_
  refine rw_call rfl rfl rfl ?_
  refine rr_addressOf ?_
  repeat refine rw_step rfl rfl ?_
  refine rw_icmp rfl (fun _ => ?_) (fun h1 => absurd (nI_lt (a := n) (b := 9) hn (by omega)) (of_decide_eq_false h1))
  show rb_wp (d + 4) 63 198 [.ref 0, .int (nI r), .int (nI n), .int ((60 : Int32) + nI r), .int (rr_addr (nI n)), .retAddr 0, .retAddr 0] [] (rr_h A t) Q
  rw [rr_e60, rr_addrS hn]
  repeat (first | refine rw_step rfl rfl ?_ | refine rr_ld rfl rfl rfl (by omega) rfl ?_)
  refine rw_icmp rfl (fun h1 => ?_) (fun h1 => ?_)
  · have h1 : ¬ A 11 (60 + r) = nI (n + 1) := rw_ne h1
    rw [rr_stat, if_pos h1] at hq
    refine rw_ret rfl rfl rfl ?_
    exact hq
  have h1 : A 11 (60 + r) = nI (n + 1) := rw_neF h1
  rw [rr_stat, if_neg (fun h9 => h9 h1)] at hq
  repeat (first | refine rw_step rfl rfl ?_ | refine rr_ld rfl rfl rfl (by omega) rfl ?_)
  refine rw_if rfl (fun h2 => ?_) (fun h2 => ?_)
  · have h2 : A 8 (60 + r) = 0 := rw_eq h2
    rw [if_neg (fun h9 => h9.1 h2)] at hq
    exact rr_statTail hr hn hE hR hU hq
  have h2 : ¬ A 8 (60 + r) = 0 := rw_eqF h2
  repeat (first | refine rw_step rfl rfl ?_ | refine rr_ld rfl rfl rfl (by omega) rfl ?_)
  refine rw_if rfl (fun h3 => ?_) (fun h3 => ?_)
  · have h3 : A 12 (60 + r) < 0 := of_decide_eq_true h3
    rw [if_neg (fun h9 => h9.2 h3)] at hq
    exact rr_statTail hr hn hE hR hU hq
  · have h3 : ¬ A 12 (60 + r) < 0 := of_decide_eq_false h3
    rw [if_pos ⟨h2, h3⟩] at hq
    refine rw_ret rfl rfl rfl ?_
    exact hq
end RRM
