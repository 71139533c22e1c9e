/-! the reference: take, the loop that closes the gap -/
section RSD
variable {d : Nat} {Q : Option Value → rb_H → Prop} {t : Int32}
def rr_gap (c : Nat) (B : Nat → Nat → Int32) : Nat → Nat → Nat → Nat → Int32
  | 0, _ => B
  | f + 1, i => rr_gap c (rr_up B 51 (4 * c + i) (B 51 (4 * c + i + 1))) f (i + 1)
theorem rr_takeLoop {c : Nat} {v : Int32} (hc : c < 4) : ∀ (f i : Nat) (x : Int32) (B : Nat → Nat → Int32), x = nI i → i + f < 4 → B 50 c = nI (i + f) → (rb_wp d 81 86 [.ref 0, .int (nI c), .int v, .int (nI (i + f))] [] (rr_h (rr_gap c B f i) t) Q) → rb_wp d 81 48 [.ref 0, .int (nI c), .int v, .int x] [] (rr_h B t) Q := by
  intro f
  induction f with
  | zero =>
    intro i x B hx hi hB kk
    subst hx
    iterate 4 refine rw_step rfl rfl ?_
    refine rr_ld rfl rfl rfl (by omega) rfl ?_
    refine rw_icmp rfl (fun _ => kk) (fun h => absurd (by rw [hB]; exact Int32.le_refl _) (of_decide_eq_false h))
  | succ f ih =>
    intro i x B hx hi hB kk
    subst hx
    have e1 : (4 : Int32) * nI c + nI i + 1 = nI (4 * c + i + 1) := by rw [rr_c4, nI_add, nI_1]
    have e2 : (4 : Int32) * nI c + nI i = nI (4 * c + i) := by rw [rr_c4, nI_add]
    iterate 4 refine rw_step rfl rfl ?_
    refine rr_ld rfl rfl rfl (by omega) rfl ?_
    refine rw_icmp rfl (fun h => absurd (of_decide_eq_true h) (by rw [hB]; exact nI_ge (by omega) (by omega))) (fun _ => ?_)
    repeat refine rw_step rfl rfl ?_
    refine rr_ld (i := 4 * c + i + 1) rfl rfl e1 (by omega) rfl ?_
    refine rr_st (i := 4 * c + i) rfl (fun _ => rfl) e2 (by omega) rfl ?_
    iterate 2 refine rw_step rfl rfl ?_
    refine ih (i + 1) _ _ (nI_1 i) (by omega) ?_ ?_
    · show B 50 c = _
      rw [hB, show i + (f + 1) = i + 1 + f by omega]
    · rw [show i + (f + 1) = i + 1 + f by omega] at kk
      exact kk
end RSD
