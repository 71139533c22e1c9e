section RBMD
variable {s : State} {H H1 : Heap} {locs : List Loc} {cells slots : Nat} {D : va_G} {cA : Nat → ClassId} {b : Nat} {A : Nat → Prop} {h0 h : rb_H}
theorem rb_Inv.push2 {N1 N2 : Nat} (hI : rb_Inv D cA b A s.heap h0 h H locs cells slots) (hA : ∀ q, s.heap.size ≤ q → A q) (hsz : H.size = b + h.1) (hz : H1.size = H.size + 1 + N1) (ho : ∀ q, q < H.size → H1[q]? = H[q]?) (h6 : H1[H.size]? = some (arrV (cA 6) N1 (fun i => if i < N1 then .ref (H.size + 1 + i) else .null))) (hr : ∀ i, i < N1 → H1[H.size + 1 + i]? = some (arrV (cA 0) N2 (fun _ => .int 0))) : rb_Inv D cA b A s.heap h0 (rb_h2 h N1 N2) H1 locs (cells + 1 + N1) (slots + N1 + N1 * N2) := by
  obtain ⟨hP, hD, hS, hbl, hc, hs⟩ := hI
  have hS1 := hS.1
  have low : ∀ i, i < h.1 → (rb_h2 h N1 N2).2.2 i = h.2.2 i := fun i hi => by
    show (if i < h.1 then _ else _) = _
    rw [if_pos hi]
  have mid : (rb_h2 h N1 N2).2.2 h.1 = .inl (6, N1, .inr (.inr (.inr (.inr (fun j => if j < N1 then some (h.1 + 1 + j) else none))))) := by
    show (if h.1 < h.1 then _ else if h.1 = h.1 then _ else _) = _
    rw [if_neg (Nat.lt_irrefl _), if_pos rfl]
  have up : ∀ j, j < N1 → (rb_h2 h N1 N2).2.2 (h.1 + 1 + j) = .inl (0, N2, .inl (fun _ => 0)) := fun j hj => by
    show (if h.1 + 1 + j < h.1 then _ else if h.1 + 1 + j = h.1 then _ else if h.1 + 1 + j < h.1 + 1 + N1 then _ else _) = _
    rw [if_neg (by omega), if_neg (by omega), if_pos (by omega)]
  have key : ∀ (k : Nat) (q : Nat × va_E), (rb_w b cA (rb_h2 h N1 N2))[k]? = some q → k < h.1 + 1 + N1 ∧ q = (b + k, rb_rc b cA ((rb_h2 h N1 N2).2.2 k)) := by
    intro k q hq
    have hk : k < (rb_h2 h N1 N2).1 := by
      have := (List.getElem?_eq_some_iff.mp hq).1
      rw [rb_w_len] at this
      exact this
    rw [rb_w_get hk] at hq
    exact ⟨hk, (Option.some.inj hq).symm⟩
  refine ⟨fun k q hq => ?_, ⟨fun i j x y hx hy hxy => ?_, fun k q hq => ?_⟩, ⟨by omega, fun q h8 h9 => ?_, hS.2.2⟩, fun i hi => ?_, by show h0.1 + (cells + 1 + N1) = h.1 + 1 + N1; omega, by show h0.2.1 + (slots + N1 + N1 * N2) = h.2.1 + N1 + N1 * N2; omega⟩
  · obtain ⟨hk, rfl⟩ := key k q hq
    by_cases h9 : k < h.1
    · rw [low k h9]
      refine (hP k _ (rb_w_get h9)).kept ?_
      exact ho (b + k) (by omega)
    · by_cases h8 : k = h.1
      · subst h8
        rw [mid]
        show H1[b + h.1]? = some (vp_cell (cA 6) (N1, .inr (.inr (.inr (.inr _)))))
        rw [vp_cell_q, ← hsz, h6]
        congr 2
        funext i
        by_cases h7 : i < N1
        · simp [h7, va_rf, hsz, Nat.add_assoc]
        · simp [h7, va_rf]
      · obtain ⟨j, rfl⟩ : ∃ j, k = h.1 + 1 + j := ⟨k - h.1 - 1, by omega⟩
        have hj : j < N1 := by omega
        rw [up j hj]
        show H1[b + (h.1 + 1 + j)]? = some (vp_cell (cA 0) (N2, .inl _))
        rw [vp_cell_i, show b + (h.1 + 1 + j) = H.size + 1 + j by omega]
        exact hr j hj
  · obtain ⟨hi, rfl⟩ := key i x hx
    obtain ⟨hj, rfl⟩ := key j y hy
    dsimp only at hxy
    omega
  · obtain ⟨hk, rfl⟩ := key k q hq
    by_cases h9 : k < h.1
    · exact hD.2 k (b + k, rb_rc b cA (h.2.2 k)) (rb_w_get h9)
    · exact hA _ (by show s.heap.size ≤ b + k; omega)
  · rw [ho q (by omega)]
    exact hS.2.1 q h8 h9
  · have hi : h.1 + 1 + N1 ≤ i := hi
    show (if i < h.1 then _ else if i = h.1 then _ else if i < h.1 + 1 + N1 then _ else rb_blank) = rb_blank
    rw [if_neg (by omega), if_neg (by omega), if_neg (by omega)]
end RBMD
