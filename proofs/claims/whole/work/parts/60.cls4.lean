/-! the class: links -/
section RKD
variable {d : Nat} {h : rb_H} {Q : Option Value → rb_H → Prop} {X : Nat → Nat → Int32} {R : Nat → Nat → Option Nat}
def rk_lb1 (X : Nat → Nat → Int32) (L : Nat) (a b p w : Int32) : Nat → Nat → Int32 := rr_up (rr_up (rr_up (rr_up (rr_up (rr_up X L 3 1) L 4 (X L 4 + 1)) L 5 a) L 6 b) L 7 p) L 8 w
def rk_lb2 (X : Nat → Nat → Int32) (L : Nat) : Nat → Nat → Int32 := rr_up (rr_up (rr_up (rr_up X (L + 1) 2 0) (L + 1) 3 0) (L + 3) 2 0) (L + 3) 3 0
def rk_lb3 (X : Nat → Nat → Int32) (L : Nat) : Nat → Nat → Int32 := rr_up (rr_up (rr_up (rr_up (rr_up (rr_up (rr_up (rr_up X L 9 0) L 10 0) L 11 0) L 12 0) L 13 0) L 14 0) L 15 0) L 16 0
theorem rk_lbegin {L : Nat} {a b p w : Int32} (hL : rc_ty L = 5) (hq : Q none (rc_h (rk_lb3 (rk_lb2 (rk_lb1 X L a b p w) L) L) R)) : rb_cw (d + 2) 99 [.ref L, .int a, .int b, .int p, .int w] (rc_h X R) Q := by
  refine rw_ent rfl rfl rfl ?_
  repeat (first | refine rw_step rfl rfl ?_ | refine rc_gv (b := 4) rfl hL rfl (rk_ne2 (by decide)) ?_ | refine rc_p rfl hL rfl rfl ?_)
  refine rc_gr rfl hL rfl ?_
  refine rc_call rfl (rc_t5 hL).1 (by decide) rfl rfl rfl rfl ?_
  refine rk_clear (rc_t5 hL).1 ?_
  repeat refine rw_step rfl rfl ?_
  refine rc_gr rfl hL rfl ?_
  refine rc_call rfl (rc_t5 hL).2.2.1 (by decide) rfl rfl rfl rfl ?_
  refine rk_clear (rc_t5 hL).2.2.1 ?_
  repeat (first | refine rw_step rfl rfl ?_ | refine rc_p rfl hL rfl rfl ?_)
  exact rw_ret rfl rfl rfl hq
/-- the inbox's next row is i -/
def rk_ad (X : Nat → Nat → Int32) (L i : Nat) (z v : Int32) : Int32 × (Nat → Nat → Int32) :=
  if z = X L 13 &&& 7 then (if X (L + 3) 3 < 4 then (4, rr_up (rr_up (rr_up (rr_up X (L + 4) i v) (L + 3) 3 (X (L + 3) 3 + 1)) L 13 (X L 13 + 1)) L 15 0) else (6, rr_up X L 16 1))
  else if ((X L 13 &&& 7) - z) &&& 7 ≤ 4 then (4, X) else if X L 15 = 0 then (5, rr_up X L 15 1) else (0, X)
theorem rk_acceptD {L i : Nat} {z v : Int32} (hL : rc_ty L = 5) (hi : X (L + 3) 3 < 4 → (X (L + 3) 2 + X (L + 3) 3) &&& X (L + 3) 1 = nI i) (hi4 : i < 4) (hq : Q (some (.int (rk_ad X L i z v).1)) (rc_h (rk_ad X L i z v).2 R)) : rb_cw (d + 3) 100 [.ref L, .int z, .int v] (rc_h X R) Q := by
  have hI := (rc_t5 hL).2.2.1
  have hV : rc_ty (L + 3 + 1) = 16 := (rc_t5 hL).2.2.2
  refine rw_ent rfl rfl rfl ?_
  repeat (first | refine rw_step rfl rfl ?_ | refine rc_g rfl hL rfl ?_)
  refine rw_icmp rfl (fun hc => ?_) (fun hc => ?_)
  · have hc : ¬ z = X L 13 &&& 7 := by simpa [rb_cmp] using hc
    rw [rk_ad, if_neg hc] at hq
    repeat refine rw_step rfl rfl ?_
    refine rw_icmp rfl (fun hc2 => ?_) (fun hc2 => ?_)
    · have hc2 : ¬ ((X L 13 &&& 7) - z) &&& 7 ≤ 4 := Int32.not_le.mpr (of_decide_eq_true hc2)
      rw [if_neg hc2] at hq
      refine rw_step rfl rfl ?_
      refine rc_g rfl hL rfl ?_
      refine rw_if rfl (fun hc3 => ?_) (fun hc3 => ?_)
      · have hc3 : X L 15 = 0 := by simpa [rb_cmp] using hc3
        rw [if_pos hc3] at hq
        repeat (first | refine rw_step rfl rfl ?_ | refine rc_p rfl hL rfl rfl ?_)
        exact rw_ret rfl rfl rfl hq
      · have hc3 : ¬ X L 15 = 0 := by simpa [rb_cmp] using hc3
        rw [if_neg hc3] at hq
        refine rw_step rfl rfl ?_
        exact rw_ret rfl rfl rfl hq
    · have hc2 : ((X L 13 &&& 7) - z) &&& 7 ≤ 4 := Int32.not_lt.mp (of_decide_eq_false hc2)
      rw [if_pos hc2] at hq
      refine rw_step rfl rfl ?_
      exact rw_ret rfl rfl rfl hq
  · have hc : z = X L 13 &&& 7 := by simpa [rb_cmp] using hc
    rw [rk_ad, if_pos hc] at hq
    refine rw_step rfl rfl ?_
    refine rc_gr rfl hL rfl ?_
    refine rc_call rfl hI (by decide) rfl rfl rfl rfl ?_
    refine rk_bfull (n := 4) hI hV rfl (by omega) ?_
    by_cases hf : X (L + 3) 3 < 4
    · rw [if_pos hf] at hq
      rw [if_pos (show X (L + 3) 3 < nI 4 from hf)]
      repeat refine rw_step rfl rfl ?_
      refine rc_gr rfl hL rfl ?_
      refine rw_step rfl rfl ?_
      refine rc_call rfl hI (by decide) rfl rfl rfl rfl ?_
      refine rk_badd (n := 4) hI hV rfl hf (hi hf) hi4 ?_
      repeat refine rw_step rfl rfl ?_
      refine rc_gv rfl hL rfl ((rk_ne (by omega)).trans (rk_ne (by omega))) ?_
      repeat (first | refine rw_step rfl rfl ?_ | refine rc_p rfl hL rfl rfl ?_)
      exact rw_ret rfl rfl rfl hq
    · rw [if_neg hf] at hq
      rw [if_neg (show ¬ X (L + 3) 3 < nI 4 from hf)]
      repeat (first | refine rw_step rfl rfl ?_ | refine rc_p rfl hL rfl rfl ?_)
      exact rw_ret rfl rfl rfl hq
def rk_aa1 (X : Nat → Nat → Int32) (L : Nat) (c : Int32) : Nat → Nat → Int32 := rr_up (rr_up (rr_up (rr_up X (L + 1) 2 ((X (L + 1) 2 + c) &&& X (L + 1) 1)) (L + 1) 3 (X (L + 1) 3 - c)) L 9 (X L 9 + c)) L 10 (X L 10 - c)
def rk_aa2 (X : Nat → Nat → Int32) (L : Nat) (k : Int32) : Nat → Nat → Int32 := if k = 5 then rr_up (rr_up X L 14 0) L 10 0 else if k = 6 then rr_up (rr_up X L 14 1) L 11 0 else rr_up X L 14 0
def rk_aa (X : Nat → Nat → Int32) (L : Nat) (k z : Int32) : Nat → Nat → Int32 :=
  if (z - X L 9) &&& 7 ≤ X L 10 then rk_aa2 (if (z - X L 9) &&& 7 = 0 then rk_aa1 X L ((z - X L 9) &&& 7) else rr_up (rr_up (rk_aa1 X L ((z - X L 9) &&& 7)) L 11 0) L 12 0) L k else X
theorem rk_aa2M {L : Nat} {k z c : Int32} (hL : rc_ty L = 5) (hq : Q none (rc_h (rk_aa2 X L k) R)) : rb_wp d 101 61 [.ref L, .int k, .int z, .int c] [] (rc_h X R) Q := by
  refine rw_step rfl rfl ?_
  refine rw_step rfl rfl ?_
  refine rw_step rfl rfl ?_
  refine rw_icmp rfl (fun hc => ?_) (fun hc => ?_)
  · have hc : ¬ k = 6 := by simpa [rb_cmp] using hc
    repeat (first | refine rw_step rfl rfl ?_ | refine rc_p rfl hL rfl rfl ?_)
    refine rw_icmp rfl (fun hc2 => ?_) (fun hc2 => ?_)
    · have hc2 : ¬ k = 5 := by simpa [rb_cmp] using hc2
      rw [rk_aa2, if_neg hc2, if_neg hc] at hq
      repeat refine rw_step rfl rfl ?_
      refine rw_icmp rfl (fun _ => ?_) (fun hc3 => absurd (by simpa [rb_cmp] using hc3) hc)
      exact rw_ret rfl rfl rfl hq
    · have hc2 : k = 5 := by simpa [rb_cmp] using hc2
      rw [rk_aa2, if_pos hc2] at hq
      repeat (first | refine rw_step rfl rfl ?_ | refine rc_p rfl hL rfl rfl ?_)
      exact rw_ret rfl rfl rfl hq
  · have hc : k = 6 := by simpa [rb_cmp] using hc
    have h5 : ¬ k = 5 := by rw [hc]; decide
    rw [rk_aa2, if_neg h5, if_pos hc] at hq
    repeat (first | refine rw_step rfl rfl ?_ | refine rc_p rfl hL rfl rfl ?_)
    refine rw_icmp rfl (fun _ => ?_) (fun hc3 => absurd (by simpa [rb_cmp] using hc3) h5)
    repeat refine rw_step rfl rfl ?_
    refine rw_icmp rfl (fun hc3 => absurd hc (by simpa [rb_cmp] using hc3)) (fun _ => ?_)
    repeat (first | refine rw_step rfl rfl ?_ | refine rc_p rfl hL rfl rfl ?_)
    exact rw_ret rfl rfl rfl hq
theorem rk_acceptA {L : Nat} {k z : Int32} (hL : rc_ty L = 5) (h0 : ¬ (z - X L 9) &&& 7 < 0) (hs : (z - X L 9) &&& 7 ≤ X L 10 → (z - X L 9) &&& 7 ≤ X (L + 1) 3) (hq : Q none (rc_h (rk_aa X L k z) R)) : rb_cw (d + 2) 101 [.ref L, .int k, .int z] (rc_h X R) Q := by
  have hO := (rc_t5 hL).1
  refine rw_ent rfl rfl rfl ?_
  repeat (first | refine rw_step rfl rfl ?_ | refine rc_g rfl hL rfl ?_)
  refine rw_icmp rfl (fun hc => ?_) (fun hc => ?_)
  · have hc : (z - X L 9) &&& 7 ≤ X L 10 := of_decide_eq_true hc
    rw [rk_aa, if_pos hc] at hq
    refine rw_step rfl rfl ?_
    refine rc_gr rfl hL rfl ?_
    refine rw_step rfl rfl ?_
    refine rc_call rfl hO (by decide) rfl rfl rfl rfl ?_
    refine rk_bdrop hO h0 (hs hc) ?_
    repeat refine rw_step rfl rfl ?_
    refine rc_gv rfl hL rfl ((rk_ne (by omega)).trans (rk_ne (by omega))) ?_
    repeat (first | refine rw_step rfl rfl ?_ | refine rc_p rfl hL rfl rfl ?_)
    refine rc_gv rfl hL rfl ((rk_ne2 (by decide)).trans ((rk_ne (by omega)).trans (rk_ne (by omega)))) ?_
    repeat (first | refine rw_step rfl rfl ?_ | refine rc_p rfl hL rfl rfl ?_)
    refine rw_if rfl (fun hc2 => ?_) (fun hc2 => ?_)
    · have hc2 : (z - X L 9) &&& 7 = 0 := by simpa [rb_cmp] using hc2
      rw [if_pos hc2] at hq
      exact rk_aa2M hL hq
    · have hc2 : ¬ (z - X L 9) &&& 7 = 0 := by simpa [rb_cmp] using hc2
      rw [if_neg hc2] at hq
      refine rw_step rfl rfl ?_
      refine rw_step rfl rfl ?_
      refine rc_p rfl hL rfl rfl ?_
      refine rw_step rfl rfl ?_
      refine rw_step rfl rfl ?_
      refine rc_p rfl hL rfl rfl ?_
      exact rk_aa2M hL hq
  · have hc : ¬ (z - X L 9) &&& 7 ≤ X L 10 := of_decide_eq_false hc
    rw [rk_aa, if_neg hc] at hq
    exact rw_ret rfl rfl rfl hq
def rk_rt2 (X : Nat → Nat → Int32) (L : Nat) (T : Int32) : Nat → Nat → Int32 :=
  if ¬ T < 60 then (if ¬ X L 12 + 1 < 4 then rr_up (rr_up (rr_up (rr_up (rr_up (rr_up X L 11 T) L 12 (X L 12 + 1)) L 11 0) L 10 0) L 14 0) L 3 2 else rr_up (rr_up (rr_up (rr_up (rr_up X L 11 T) L 12 (X L 12 + 1)) L 11 0) L 10 0) L 14 0) else rr_up X L 11 T
def rk_rt (X : Nat → Nat → Int32) (L : Nat) : Nat → Nat → Int32 := rk_rt2 X L (if X L 10 = 0 ∧ X L 14 = 0 then 0 else X L 11 + 1)
theorem rk_rt2M {L : Nat} {T : Int32} (hL : rc_ty L = 5) (hq : Q none (rc_h (rk_rt2 X L T) R)) : rb_wp d 102 34 [.ref L] [.int T, .ref L] (rc_h X R) Q := by
  refine rc_p rfl hL rfl rfl ?_
  refine rw_step rfl rfl ?_
  refine rc_gv rfl hL rfl (rr_up_same _ _ _ _) ?_
  refine rw_step rfl rfl ?_
  refine rw_icmp rfl (fun hc => ?_) (fun hc => ?_)
  · have hc : ¬ T < 60 := Int32.not_lt.mpr (of_decide_eq_true hc)
    rw [rk_rt2, if_pos hc] at hq
    refine rw_step rfl rfl ?_
    refine rw_step rfl rfl ?_
    refine rc_gv rfl hL rfl (rk_ne2 (by decide)) ?_
    repeat (first | refine rw_step rfl rfl ?_ | refine rc_p rfl hL rfl rfl ?_)
    refine rc_gv (v := X L 12 + 1) rfl hL rfl (by rw [rk_ne2 (by decide), rk_ne2 (by decide), rk_ne2 (by decide), rr_up_same]) ?_
    refine rw_step rfl rfl ?_
    refine rw_icmp rfl (fun hc2 => ?_) (fun hc2 => ?_)
    · have hc2 : X L 12 + 1 < 4 := of_decide_eq_true hc2
      rw [if_neg (fun h9 => h9 hc2)] at hq
      exact rw_ret rfl rfl rfl hq
    · have hc2 : ¬ X L 12 + 1 < 4 := of_decide_eq_false hc2
      rw [if_pos hc2] at hq
      repeat (first | refine rw_step rfl rfl ?_ | refine rc_p rfl hL rfl rfl ?_)
      exact rw_ret rfl rfl rfl hq
  · have hc : T < 60 := Int32.not_le.mp (of_decide_eq_false hc)
    rw [rk_rt2, if_neg (fun h9 => h9 hc)] at hq
    exact rw_ret rfl rfl rfl hq
theorem rk_timerNo {L : Nat} (hL : rc_ty L = 5) (h1 : ¬ X L 3 = 1) (hq : Q none (rc_h X R)) : rb_cw (d + 1) 102 [.ref L] (rc_h X R) Q := by
  refine rw_ent rfl rfl rfl ?_
  repeat (first | refine rw_step rfl rfl ?_ | refine rc_g rfl hL rfl ?_)
  refine rw_icmp rfl (fun hc => absurd (by simpa [rb_cmp] using hc) h1) (fun _ => ?_)
  exact rw_ret rfl rfl rfl hq
theorem rk_timer {L : Nat} (hL : rc_ty L = 5) (h1 : X L 3 = 1) (hq : Q none (rc_h (rk_rt X L) R)) : rb_cw (d + 1) 102 [.ref L] (rc_h X R) Q := by
  refine rw_ent rfl rfl rfl ?_
  repeat (first | refine rw_step rfl rfl ?_ | refine rc_g rfl hL rfl ?_)
  refine rw_icmp rfl (fun _ => ?_) (fun hc => absurd h1 (by simpa [rb_cmp] using hc))
  repeat (first | refine rw_step rfl rfl ?_ | refine rc_g rfl hL rfl ?_)
  refine rw_if rfl (fun hc => ?_) (fun hc => ?_)
  · have hc : ¬ X L 10 = 0 := by simpa [rb_cmp] using hc
    rw [rk_rt, if_neg (fun h9 => hc h9.1)] at hq
    repeat (first | refine rc_g (b := 11) rfl hL rfl ?_ | refine rw_step rfl rfl ?_)
    exact rk_rt2M hL hq
  have hc : X L 10 = 0 := by simpa [rb_cmp] using hc
  repeat (first | refine rw_step rfl rfl ?_ | refine rc_g rfl hL rfl ?_)
  refine rw_if rfl (fun hc2 => ?_) (fun hc2 => ?_)
  · have hc2 : X L 14 = 0 := by simpa [rb_cmp] using hc2
    rw [rk_rt, if_pos ⟨hc, hc2⟩] at hq
    repeat refine rw_step rfl rfl ?_
    exact rk_rt2M hL hq
  · have hc2 : ¬ X L 14 = 0 := by simpa [rb_cmp] using hc2
    rw [rk_rt, if_neg (fun h9 => hc2 h9.2)] at hq
    repeat (first | refine rc_g (b := 11) rfl hL rfl ?_ | refine rw_step rfl rfl ?_)
    exact rk_rt2M hL hq
end RKD
