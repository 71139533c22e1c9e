/-! the reference: move -/
section RRO
variable {d : Nat} {Q : Option Value → rb_H → Prop} {A : Nat → Nat → Int32} {t : Int32}
def rr_mv (B : Nat → Nat → Int32) (r n : Nat) (E G : Nat → Nat → Int32) : Nat → Nat → Int32 :=
  if B 21 r = 1 then E else if B 21 r = 2 then G
  else if B 21 r = 3 then (if rr_addr (nI n) = B 29 r then rr_purge (rr_up B 30 r (rr_addr (nI n))) r n else if rr_addr (nI n) ≤ B 29 r then B else rr_up B 29 r (rr_addr (nI n)))
  else (if rr_addr (nI n) = B 29 r then rr_tok (rr_up B 5 n 0) r 0 0 else rr_up B 5 n 0)
set_option maxRecDepth 100000 in
theorem rr_mvM {B E G : Nat → Nat → Int32} {r n : Nat} (hr : r < 3) (hn : n < 15) (hnr : B 3 n = nI r) (hmem : ¬ B 1 r = 0) (hpg : B 21 r = 3 → rr_addr (nI n) = B 29 r → rr_with (rr_up B 30 r (rr_addr (nI n))) (nI r) (rr_up B 30 r (rr_addr (nI n)) 30 r) 15 = nI n)
    (htok : B 21 r = 1 → ∀ Q' : Option Value → rb_H → Prop, Q' none (rr_h E t) → rb_cw (d + 6) 60 [.ref 0, .int (nI r), .int (nI n)] (rr_h B t) Q') (hfr : B 21 r = 2 → ∀ Q' : Option Value → rb_H → Prop, Q' none (rr_h G t) → rb_cw (d + 6) 61 [.ref 0, .int (nI r), .int (nI n)] (rr_h B t) Q')
    (hq : Q none (rr_h (rr_mv B r n E G) t)) : rb_wp (d + 6) 62 129 [.ref 0, .int (nI r), .int (nI n), .int (rr_addr (nI n))] [] (rr_h B t) Q := by
  repeat (first | refine rw_step rfl rfl ?_ | refine rr_ld rfl rfl rfl (by omega) rfl ?_)
  refine rw_icmp rfl (fun h1 => ?_) (fun h1 => ?_)
  · have h1 : ¬ B 21 r = 1 := rw_ne h1
    rw [rr_mv, if_neg h1] at hq
    repeat (first | refine rw_step rfl rfl ?_ | refine rr_ld rfl rfl rfl (by omega) rfl ?_)
    refine rw_icmp rfl (fun h2 => ?_) (fun h2 => ?_)
    · have h2 : ¬ B 21 r = 2 := rw_ne h2
      rw [if_neg h2] at hq
      repeat (first | refine rw_step rfl rfl ?_ | refine rr_ld rfl rfl rfl (by omega) rfl ?_)
      refine rw_icmp rfl (fun h3 => ?_) (fun h3 => ?_)
      · have h3 : ¬ B 21 r = 3 := rw_ne h3
        rw [if_neg h3] at hq
        repeat (first | refine rw_step rfl rfl ?_ | refine rr_ld rfl rfl rfl (by omega) rfl ?_ | refine rr_st rfl (fun _ => rfl) rfl (by omega) rfl ?_)
        refine rw_icmp rfl (fun h4 => ?_) (fun h4 => ?_)
        · have h4 : ¬ rr_addr (nI n) = B 29 r := rw_ne h4
          rw [if_neg h4] at hq
          refine rw_ret rfl rfl rfl ?_
          exact hq
        · have h4 : rr_addr (nI n) = B 29 r := rw_neF h4
          rw [if_pos h4] at hq
          repeat refine rw_step rfl rfl ?_
          refine rw_call rfl rfl rfl ?_
          refine rr_setToken hr ?_
          refine rw_ret rfl rfl rfl ?_
          exact hq
      · have h3 : B 21 r = 3 := rw_neF h3
        rw [if_pos h3] at hq
        repeat (first | refine rw_step rfl rfl ?_ | refine rr_ld rfl rfl rfl (by omega) rfl ?_)
        refine rw_icmp rfl (fun h4 => ?_) (fun h4 => ?_)
        · have h4 : ¬ rr_addr (nI n) = B 29 r := rw_ne h4
          rw [if_neg h4] at hq
          repeat (first | refine rw_step rfl rfl ?_ | refine rr_ld rfl rfl rfl (by omega) rfl ?_)
          refine rw_icmp rfl (fun h5 => ?_) (fun h5 => ?_)
          · rw [if_pos (of_decide_eq_true h5)] at hq
            refine rw_ret rfl rfl rfl ?_
            exact hq
          · rw [if_neg (of_decide_eq_false h5)] at hq
            repeat (first | refine rw_step rfl rfl ?_ | refine rr_st rfl (fun _ => rfl) rfl (by omega) rfl ?_)
            refine rw_ret rfl rfl rfl ?_
            exact hq
        · have h4 : rr_addr (nI n) = B 29 r := rw_neF h4
          rw [if_pos h4] at hq
          repeat (first | refine rw_step rfl rfl ?_ | refine rr_st rfl (fun _ => rfl) rfl (by omega) rfl ?_)
          refine rw_call rfl rfl rfl ?_
          refine rr_purgeM (d := d + 3) (A := rr_up B 30 r (rr_addr (nI n))) (m := n) hr hn (hpg h3 h4) hnr hmem ?_
          refine rw_step rfl rfl ?_
          refine rw_ret rfl rfl rfl ?_
          exact hq
    · have h2 : B 21 r = 2 := rw_neF h2
      rw [if_pos h2] at hq
      repeat refine rw_step rfl rfl ?_
      refine rw_call rfl rfl rfl ?_
      refine hfr h2 _ ?_
      refine rw_step rfl rfl ?_
      refine rw_ret rfl rfl rfl ?_
      exact hq
  · have h1 : B 21 r = 1 := rw_neF h1
    rw [rr_mv, if_pos h1] at hq
    repeat refine rw_step rfl rfl ?_
    refine rw_call rfl rfl rfl ?_
    refine htok h1 _ ?_
    refine rw_step rfl rfl ?_
    refine rw_ret rfl rfl rfl ?_
    exact hq
/-- a ring without nodes: nothing -/
theorem rr_move0 {r : Nat} (hr : r < 3) (h0 : A 1 r = 0) (hq : Q none (rr_h A t)) : rb_cw (d + 1) 62 [.ref 0, .int (nI r)] (rr_h A t) Q := by
  refine rw_ent rfl rfl rfl ?_
  repeat (first | refine rw_step rfl rfl ?_ | refine rr_ld rfl rfl rfl (by omega) rfl ?_)
  refine rw_if rfl (fun h1 => absurd h0 (rw_ne h1)) (fun _ => ?_)
  refine rw_ret rfl rfl rfl ?_
  exact hq
def rr_step (A : Nat → Nat → Int32) (r n : Nat) : Nat → Nat → Int32 := rr_up A 22 r (rr_rem (A 0 n + 1) (A 1 r))
set_option maxRecDepth 100000 in
/-- a signal goes on, over the node n where it is -/
theorem rr_moveGo {r n : Nat} {E G : Nat → Nat → Int32} (hr : r < 3) (hn : n < 15) (hmem : ¬ A 1 r = 0) (hsig : ¬ A 21 r = 0) (hat : rr_at A (nI r) (A 22 r) 15 = nI n) (hnr : A 3 n = nI r) (hpg : A 21 r = 3 → rr_addr (nI n) = A 29 r → rr_with (rr_up (rr_step A r n) 30 r (rr_addr (nI n))) (nI r) (rr_up (rr_step A r n) 30 r (rr_addr (nI n)) 30 r) 15 = nI n)
    (htok : A 21 r = 1 → ∀ Q' : Option Value → rb_H → Prop, Q' none (rr_h E t) → rb_cw (d + 6) 60 [.ref 0, .int (nI r), .int (nI n)] (rr_h (rr_step A r n) t) Q') (hfr : A 21 r = 2 → ∀ Q' : Option Value → rb_H → Prop, Q' none (rr_h G t) → rb_cw (d + 6) 61 [.ref 0, .int (nI r), .int (nI n)] (rr_h (rr_step A r n) t) Q')
    (hq : Q none (rr_h (rr_mv (rr_step A r n) r n E G) t)) : rb_cw (d + 7) 62 [.ref 0, .int (nI r)] (rr_h A t) Q := by
  refine rw_ent rfl rfl rfl ?_
  repeat (first | refine rw_step rfl rfl ?_ | refine rr_ld rfl rfl rfl (by omega) rfl ?_)
  refine rw_if rfl (fun _ => ?_) (fun h1 => absurd (rw_neF h1) hmem)
  repeat (first | refine rw_step rfl rfl ?_ | refine rr_ld rfl rfl rfl (by omega) rfl ?_)
  refine rw_if rfl (fun _ => ?_) (fun h1 => absurd (rw_neF h1) hsig)
  repeat (first | refine rw_step rfl rfl ?_ | refine rr_ld rfl rfl rfl (by omega) rfl ?_)
  refine rw_call rfl rfl rfl ?_
  refine rr_nodeAt ?_
  rw [hat]
  repeat refine rw_step rfl rfl ?_
  refine rw_call rfl rfl rfl ?_
  refine rr_addressOf ?_
  repeat refine rw_step rfl rfl ?_
  refine rw_call rfl rfl rfl ?_
  refine rr_behind (r := r) hn hnr hr hmem ?_
  refine rr_st rfl (fun _ => rfl) rfl (by omega) rfl ?_
  exact rr_mvM (B := rr_step A r n) hr hn hnr hmem hpg htok hfr hq
end RRO
