/-! the reference: explore, where it sends -/
section RSC
variable {d : Nat} {Q : Option Value → rb_H → Prop} {A : Nat → Nat → Int32} {t : Int32}
def rr_exp0 (A : Nat → Nat → Int32) (n : Nat) (y : Int32) : Nat → Nat → Int32 := rr_up (rr_make A 0 1 (nI (n + 1)) y (-1) (-1)) 16 63 ((1 : Int32) <<< (rr_make A 0 1 (nI (n + 1)) y (-1) (-1) 3 n &&& 31))
theorem rr_expYes {n w : Nat} {y : Int32} (hn : n < 9) (hst : ¬ A 2 n = 0) (hy : 1 ≤ y ∧ y ≤ 9) (hxy : ¬ nI (n + 1) = y) (hw : A 4 n = nI w) (hw4 : w < 4) (hq : Q (some (.int 1)) (rr_h (rr_queue (rr_exp0 A n y) n w) t)) : rb_cw (d + 3) 74 [.ref 0, .int (nI (n + 1)), .int y] (rr_h A t) Q := by
  have e1 : nI (n + 1) - 1 = nI n := nI_pred n
  have e2 : (nI (n + 1) - 1).toNatClampNeg = n := by rw [e1]; exact nI_clamp (by omega)
  have hx : (1 : Int32) ≤ nI (n + 1) ∧ nI (n + 1) ≤ 9 := ⟨nI_le (a := 1) (by omega) (by omega), nI_le (b := 9) (by omega) (by decide)⟩
  refine rw_ent rfl rfl rfl ?_
  repeat refine rw_step rfl rfl ?_
  refine rw_call rfl rfl rfl ?_
  refine rr_isStation ?_
  rw [rr_isSt, if_pos ⟨hx, by rw [e2]; exact hst⟩]
  refine rw_if rfl (fun h9 => absurd (rw_eq h9) (by decide)) (fun _ => ?_)
  repeat refine rw_step rfl rfl ?_
  refine rw_call rfl rfl rfl ?_
  refine rr_isAddress ?_
  rw [if_pos hy]
  refine rw_if rfl (fun h9 => absurd (rw_eq h9) (by decide)) (fun _ => ?_)
  repeat refine rw_step rfl rfl ?_
  refine rw_icmp rfl (fun h9 => absurd (rw_eq h9) hxy) (fun _ => ?_)
  repeat refine rw_step rfl rfl ?_
  refine rr_ld (i := n) rfl rfl e1 (by omega) rfl ?_
  repeat refine rw_step rfl rfl ?_
  refine rw_icmp rfl (fun _ => ?_) (fun h9 => absurd (hw.symm.trans (rw_neF h9)) (fun h8 => absurd ((nI_eq (a := w) (b := 4) (by omega) (by decide)).mp h8) (by omega)))
  repeat refine rw_step rfl rfl ?_
  refine rw_call rfl rfl rfl ?_
  refine rr_makeFrame ?_
  repeat refine rw_step rfl rfl ?_
  refine rr_ld (i := n) rfl rfl e1 (by omega) rfl ?_
  refine rw_step rfl rfl ?_
  refine rr_st (i := 63) rfl (fun _ => rfl) rfl (by omega) rfl ?_
  repeat refine rw_step rfl rfl ?_
  refine rw_call rfl rfl rfl ?_
  show rb_cw (d + 2) 54 [.ref 0, .int (nI (n + 1) - 1)] (rr_h (rr_exp0 A n y) t) _
  rw [e1]
  refine rr_queueNew (by omega) hw (by omega) ?_
  repeat refine rw_step rfl rfl ?_
  exact rw_ret rfl rfl rfl hq
end RSC
