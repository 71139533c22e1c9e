/-! the class: nodes and signals -/
theorem rc_t2f {N i : Nat} (hN : rc_ty N = 2) (hi : i < 4) : rc_ty (N + 2 + i) = 3 := by
  have h := rc_t2 hN
  have : i = 0 ∨ i = 1 ∨ i = 2 ∨ i = 3 := by omega
  rcases this with rfl | rfl | rfl | rfl
  · exact h.2.2.2.1
  · exact h.2.2.2.2.1
  · exact h.2.2.2.2.2.1
  · exact h.2.2.2.2.2.2
section RKB
variable {d : Nat} {Q : Option Value → rb_H → Prop} {X : Nat → Nat → Int32} {R : Nat → Nat → Option Nat}
theorem rc_wfq {N i : Nat} (hW : rc_wf R) (hN : rc_ty N = 2) (hi : i < 4) : R (N + 1) i = some (N + 2 + i) := by
  rw [hW.2.2.2 (N + 1) (rc_t2 hN).1 i hi]
def rk_nbX (X : Nat → Nat → Int32) (N : Nat) (a : Int32) : Nat → Nat → Int32 := rr_up (rr_up (rr_up (rr_up X N 3 a) N 4 0) N 5 0) N 6 0
theorem rk_nbegin {N : Nat} {a : Int32} (hN : rc_ty N = 2) (hq : Q none (rc_h (rk_nbX X N a) R)) : rb_cw (d + 1) 104 [.ref N, .int a] (rc_h X R) Q := by
  refine rw_ent rfl rfl rfl ?_
  repeat (first | refine rw_step rfl rfl ?_ | refine rc_p rfl hN rfl rfl ?_)
  exact rw_ret rfl rfl rfl hq
theorem rk_nfull {N : Nat} (hN : rc_ty N = 2) (hq : Q (some (.int (if X N 5 < 4 then 0 else 1))) (rc_h X R)) : rb_cw (d + 1) 105 [.ref N] (rc_h X R) Q := by
  refine rw_ent rfl rfl rfl ?_
  repeat (first | refine rw_step rfl rfl ?_ | refine rc_g rfl hN rfl ?_)
  refine rw_icmp rfl (fun hc => ?_) (fun hc => ?_)
  · rw [if_pos (show X N 5 < 4 from of_decide_eq_true hc)] at hq
    repeat refine rw_step rfl rfl ?_
    exact rw_ret rfl rfl rfl hq
  · rw [if_neg (show ¬ X N 5 < 4 from of_decide_eq_false hc)] at hq
    repeat refine rw_step rfl rfl ?_
    exact rw_ret rfl rfl rfl hq
theorem rk_addNull {N : Nat} (hN : rc_ty N = 2) (hw : ¬ X N 5 < 4) (hq : Q (some .null) (rc_h X R)) : rb_cw (d + 1) 106 [.ref N] (rc_h X R) Q := by
  refine rw_ent rfl rfl rfl ?_
  repeat (first | refine rw_step rfl rfl ?_ | refine rc_g rfl hN rfl ?_)
  refine rw_icmp rfl (fun hc => absurd (of_decide_eq_true hc) hw) (fun hc => ?_)
  repeat refine rw_step rfl rfl ?_
  exact rw_ret rfl rfl rfl hq
theorem rk_addFrame {N i : Nat} (hW : rc_wf R) (hN : rc_ty N = 2) (hw : X N 5 < 4) (hi : (X N 4 + X N 5) &&& 3 = nI i) (hi4 : i < 4) (hq : Q (some (.ref (N + 2 + i))) (rc_h (rr_up X N 5 (X N 5 + 1)) R)) : rb_cw (d + 1) 106 [.ref N] (rc_h X R) Q := by
  refine rw_ent rfl rfl rfl ?_
  repeat (first | refine rw_step rfl rfl ?_ | refine rc_g rfl hN rfl ?_)
  refine rw_icmp rfl (fun hc => ?_) (fun hc => absurd hw (of_decide_eq_false hc))
  repeat (first | refine rw_step rfl rfl ?_ | refine rc_g rfl hN rfl ?_ | refine rc_gr rfl hN rfl ?_)
  refine rc_aa rfl (rc_t2 hN).1 hi hi4 (rc_wfq hW hN hi4) ?_
  repeat (first | refine rw_step rfl rfl ?_ | refine rc_g rfl hN rfl ?_ | refine rc_p rfl hN rfl rfl ?_)
  exact rw_ret rfl rfl rfl hq
theorem rk_firstP {N i : Nat} (hW : rc_wf R) (hN : rc_ty N = 2) (hi : X N 4 &&& 3 = nI i) (hi4 : i < 4) (hq : Q (some (.int (X (N + 2 + i) 1))) (rc_h X R)) : rb_cw (d + 1) 107 [.ref N] (rc_h X R) Q := by
  refine rw_ent rfl rfl rfl ?_
  repeat (first | refine rw_step rfl rfl ?_ | refine rc_g rfl hN rfl ?_ | refine rc_gr rfl hN rfl ?_)
  refine rc_aa rfl (rc_t2 hN).1 hi hi4 (rc_wfq hW hN hi4) ?_
  refine rc_g rfl (rc_t2f hN hi4) rfl ?_
  exact rw_ret rfl rfl rfl hq
def rk_mvX (X : Nat → Nat → Int32) (N F i : Nat) : Nat → Nat → Int32 := rr_up (rr_up (rk_cp X (N + 2 + i) F) N 4 ((X N 4 + 1) &&& 3)) N 5 (X N 5 - 1)
theorem rk_cp_ne {G F p j : Nat} (h : p ≠ F) : rk_cp X G F p j = X p j := by
  unfold rk_cp
  rw [if_neg (fun h9 => h h9.1)]
theorem rk_moveF {N F i : Nat} (hW : rc_wf R) (hN : rc_ty N = 2) (hF : rc_ty F = 3) (hne : N + 2 + i ≠ F) (hi : X N 4 &&& 3 = nI i) (hi4 : i < 4) (hq : Q none (rc_h (rk_mvX X N F i) R)) : rb_cw (d + 2) 108 [.ref N, .ref F] (rc_h X R) Q := by
  have hNF : N ≠ F := rk_tne hN hF rfl
  refine rw_ent rfl rfl rfl ?_
  repeat (first | refine rw_step rfl rfl ?_ | refine rc_g rfl hN rfl ?_ | refine rc_gr rfl hN rfl ?_)
  refine rc_aa rfl (rc_t2 hN).1 hi hi4 (rc_wfq hW hN hi4) ?_
  refine rc_call rfl hF (by decide) rfl rfl rfl rfl ?_
  refine rk_copy hF (rc_t2f hN hi4) hne ?_
  repeat refine rw_step rfl rfl ?_
  refine rc_gv rfl hN rfl (rk_cp_ne hNF) ?_
  repeat refine rw_step rfl rfl ?_
  refine rc_p rfl hN rfl rfl ?_
  repeat refine rw_step rfl rfl ?_
  refine rc_gv rfl hN rfl ((rk_ne2 (by decide)).trans (rk_cp_ne hNF)) ?_
  repeat refine rw_step rfl rfl ?_
  refine rc_p rfl hN rfl rfl ?_
  exact rw_ret rfl rfl rfl hq
def rk_puX (X : Nat → Nat → Int32) (N q : Nat) (lo up : Int32) : Nat → Nat → Int32 := rr_up (rr_up (rr_up X (N + 6) q lo) (N + 7) q up) N 6 (nI (q + 1))
theorem rk_push {N q : Nat} {lo up : Int32} (hN : rc_ty N = 2) (hv : X N 6 = nI q) (hq3 : q < 3) (hq : Q none (rc_h (rk_puX X N q lo up) R)) : rb_cw (d + 1) 109 [.ref N, .int lo, .int up] (rc_h X R) Q := by
  have h6 := (rc_t2 hN).2.1
  have h7 := (rc_t2 hN).2.2.1
  refine rw_ent rfl rfl rfl ?_
  refine rw_step rfl rfl ?_
  refine rc_gv rfl hN rfl hv ?_
  refine rw_if rfl (fun hc => absurd (of_decide_eq_true hc) (Int32.not_lt.mpr (nI_le (a := 0) (b := q) (by omega) (by omega)))) (fun _ => ?_)
  refine rw_step rfl rfl ?_
  refine rc_gv rfl hN rfl hv ?_
  refine rw_step rfl rfl ?_
  refine rw_icmp rfl (fun hc => absurd (of_decide_eq_true hc) (nI_ge (a := q) (b := 3) hq3 (by omega))) (fun _ => ?_)
  refine rw_step rfl rfl ?_
  refine rc_gr rfl hN rfl ?_
  refine rw_step rfl rfl ?_
  refine rc_gv rfl hN rfl hv ?_
  refine rw_step rfl rfl ?_
  refine rc_is rfl h6 rfl hq3 ?_
  refine rw_step rfl rfl ?_
  refine rc_gr rfl hN rfl ?_
  refine rw_step rfl rfl ?_
  refine rc_gv rfl hN rfl ((rk_ne (by omega)).trans hv) ?_
  refine rw_step rfl rfl ?_
  refine rc_is rfl h7 rfl hq3 ?_
  refine rw_step rfl rfl ?_
  refine rw_step rfl rfl ?_
  refine rc_gv rfl hN rfl ((rk_ne (by omega)).trans ((rk_ne (by omega)).trans hv)) ?_
  refine rw_step rfl rfl ?_
  refine rw_step rfl rfl ?_
  refine rc_p rfl hN rfl rfl ?_
  refine rw_ret rfl rfl rfl ?_
  dsimp only
  rw [nI_1]
  exact hq
theorem rk_topU {N q : Nat} (hN : rc_ty N = 2) (hv : X N 6 = nI (q + 1)) (hq3 : q < 3) (hq : Q (some (.int (X (N + 7) q))) (rc_h X R)) : rb_cw (d + 1) 110 [.ref N] (rc_h X R) Q := by
  refine rw_ent rfl rfl rfl ?_
  refine rw_step rfl rfl ?_
  refine rc_gv rfl hN rfl hv ?_
  refine rw_if rfl (fun hc => absurd (of_decide_eq_true hc) (nI_nle (by omega) (by omega))) (fun _ => ?_)
  refine rw_step rfl rfl ?_
  refine rc_gv rfl hN rfl hv ?_
  refine rw_step rfl rfl ?_
  refine rw_icmp rfl (fun hc => absurd (of_decide_eq_true hc) (Int32.not_lt.mpr (nI_le (a := q + 1) (b := 3) (by omega) (by omega)))) (fun _ => ?_)
  refine rw_step rfl rfl ?_
  refine rc_gr rfl hN rfl ?_
  refine rw_step rfl rfl ?_
  refine rc_gv rfl hN rfl hv ?_
  repeat refine rw_step rfl rfl ?_
  refine rc_il rfl (rc_t2 hN).2.2.1 (nI_pred q) hq3 ?_
  repeat refine rw_step rfl rfl ?_
  exact rw_ret rfl rfl rfl hq
def rk_loX (X : Nat → Nat → Int32) (N S q : Nat) : Nat → Nat → Int32 := rr_up (if X S 3 ≤ X (N + 6) q then rr_up (rr_up X N 6 (nI q)) S 2 (X (N + 6) q) else rr_up (rr_up (rr_up X (N + 7) q (X S 3)) S 2 (X S 3)) S 3 0) S 5 0
theorem rk_lower {N S q : Nat} (hN : rc_ty N = 2) (hS : rc_ty S = 4) (hv : X N 6 = nI (q + 1)) (hq3 : q < 3) (hq : Q none (rc_h (rk_loX X N S q) R)) : rb_cw (d + 1) 111 [.ref N, .ref S] (rc_h X R) Q := by
  have h6 := (rc_t2 hN).2.1
  have h7 := (rc_t2 hN).2.2.1
  refine rw_ent rfl rfl rfl ?_
  refine rw_step rfl rfl ?_
  refine rc_gv rfl hN rfl hv ?_
  refine rw_if rfl (fun hc => absurd (of_decide_eq_true hc) (nI_nle (by omega) (by omega))) (fun _ => ?_)
  refine rw_step rfl rfl ?_
  refine rc_gv rfl hN rfl hv ?_
  refine rw_step rfl rfl ?_
  refine rw_icmp rfl (fun _ => ?_) (fun hc => absurd (nI_le (a := q + 1) (b := 3) (by omega) (by omega)) (of_decide_eq_false hc))
  refine rw_step rfl rfl ?_
  refine rc_gr rfl hN rfl ?_
  refine rw_step rfl rfl ?_
  refine rc_gv rfl hN rfl hv ?_
  repeat refine rw_step rfl rfl ?_
  refine rc_il rfl h6 (nI_pred q) hq3 ?_
  repeat (first | refine rw_step rfl rfl ?_ | refine rc_g rfl hS rfl ?_)
  refine rw_icmp rfl (fun hc => ?_) (fun hc => ?_)
  · rw [rk_loX, if_pos (show X S 3 ≤ X (N + 6) q from of_decide_eq_true hc)] at hq
    repeat refine rw_step rfl rfl ?_
    refine rc_gv rfl hN rfl hv ?_
    repeat refine rw_step rfl rfl ?_
    refine rc_p rfl hN rfl rfl ?_
    dsimp only
    rw [nI_pred]
    repeat (first | refine rw_step rfl rfl ?_ | refine rc_p rfl hS rfl rfl ?_)
    exact rw_ret rfl rfl rfl hq
  · rw [rk_loX, if_neg (show ¬ X S 3 ≤ X (N + 6) q from of_decide_eq_false hc)] at hq
    refine rw_step rfl rfl ?_
    refine rc_gr rfl hN rfl ?_
    refine rw_step rfl rfl ?_
    refine rc_gv rfl hN rfl hv ?_
    repeat (first | refine rw_step rfl rfl ?_ | refine rc_g rfl hS rfl ?_)
    refine rc_is rfl h7 (nI_pred q) hq3 ?_
    repeat (first | refine rw_step rfl rfl ?_ | refine rc_gv rfl hS rfl (rk_ne (rk_tne hS h7 rfl)) ?_ | refine rc_p rfl hS rfl rfl ?_)
    exact rw_ret rfl rfl rfl hq
def rk_cmX (X : Nat → Nat → Int32) (S : Nat) : Nat → Nat → Int32 := rr_up (rr_up (rr_up X S 5 0) S 6 0) S 7 0
theorem rk_clearM {S : Nat} (hS : rc_ty S = 4) (hq : Q none (rc_h (rk_cmX X S) R)) : rb_cw (d + 1) 130 [.ref S] (rc_h X R) Q := by
  refine rw_ent rfl rfl rfl ?_
  repeat (first | refine rw_step rfl rfl ?_ | refine rc_p rfl hS rfl rfl ?_)
  exact rw_ret rfl rfl rfl hq
def rk_btX (X : Nat → Nat → Int32) (S : Nat) (p v : Int32) : Nat → Nat → Int32 := rk_cmX (rr_up (rr_up (rr_up X S 1 1) S 2 p) S 3 v) S
theorem rk_becomeT {S : Nat} {p v : Int32} (hS : rc_ty S = 4) (hq : Q none (rc_h (rk_btX X S p v) R)) : rb_cw (d + 2) 128 [.ref S, .int p, .int v] (rc_h X R) Q := by
  refine rw_ent rfl rfl rfl ?_
  repeat (first | refine rw_step rfl rfl ?_ | refine rc_p rfl hS rfl rfl ?_)
  refine rc_call rfl hS (by decide) rfl rfl rfl rfl ?_
  refine rk_clearM hS ?_
  exact rw_ret rfl rfl rfl hq
def rk_bfX (X : Nat → Nat → Int32) (S : Nat) (a : Int32) : Nat → Nat → Int32 := rk_cmX (rr_up (rr_up (rr_up X S 1 2) S 4 a) S 3 0) S
theorem rk_becomeF {S : Nat} {a : Int32} (hS : rc_ty S = 4) (hq : Q none (rc_h (rk_bfX X S a) R)) : rb_cw (d + 2) 129 [.ref S, .int a] (rc_h X R) Q := by
  refine rw_ent rfl rfl rfl ?_
  repeat (first | refine rw_step rfl rfl ?_ | refine rc_p rfl hS rfl rfl ?_)
  refine rc_call rfl hS (by decide) rfl rfl rfl rfl ?_
  refine rk_clearM hS ?_
  exact rw_ret rfl rfl rfl hq
theorem rk_reserve {S N i : Nat} (hW : rc_wf R) (hS : rc_ty S = 4) (hN : rc_ty N = 2) (hi : X N 4 &&& 3 = nI i) (hi4 : i < 4) (hq : Q none (rc_h (if ¬ X N 5 ≤ 0 ∧ ¬ X (N + 2 + i) 1 ≤ X S 3 then rr_up X S 3 (X (N + 2 + i) 1) else X) R)) : rb_cw (d + 2) 131 [.ref S, .ref N] (rc_h X R) Q := by
  refine rw_ent rfl rfl rfl ?_
  repeat (first | refine rw_step rfl rfl ?_ | refine rc_g rfl hN rfl ?_)
  refine rw_if rfl (fun hc => ?_) (fun hc => ?_)
  · rw [if_neg (fun h9 => h9.1 (of_decide_eq_true hc))] at hq
    exact rw_ret rfl rfl rfl hq
  have hc : ¬ X N 5 ≤ 0 := of_decide_eq_false hc
  refine rw_step rfl rfl ?_
  refine rc_call rfl hN (by decide) rfl rfl rfl rfl ?_
  refine rk_firstP hW hN hi hi4 ?_
  repeat (first | refine rw_step rfl rfl ?_ | refine rc_g rfl hS rfl ?_)
  refine rw_icmp rfl (fun hc2 => ?_) (fun hc2 => ?_)
  · rw [if_neg (fun h9 => h9.2 (of_decide_eq_true hc2))] at hq
    exact rw_ret rfl rfl rfl hq
  have hc2 : ¬ X (N + 2 + i) 1 ≤ X S 3 := of_decide_eq_false hc2
  rw [if_pos ⟨hc, hc2⟩] at hq
  repeat refine rw_step rfl rfl ?_
  refine rc_call rfl hN (by decide) rfl rfl rfl rfl ?_
  refine rk_firstP hW hN hi hi4 ?_
  refine rc_p rfl hS rfl rfl ?_
  exact rw_ret rfl rfl rfl hq
end RKB
