/-! what an answer of each helper says -/
theorem rb_blt {a b : Nat} (h : Nat.blt a b = true) : a < b := Nat.le_of_ble_eq_true h
theorem rb_bltF {a b : Nat} (h : Nat.blt a b = false) : b ≤ a := Nat.not_lt.mp fun q => by
  have : Nat.blt a b = true := Nat.ble_eq_true_of_le q
  rw [h] at this
  cases this
section RBV
variable {nx j ci t k ms n : Nat} {kc : Int32} {ls st : List Value} {h : rb_H} {x : Nat × List Value × List Value × rb_H} {ty : FieldType} {f : Int32 → Int32 → Int32}
theorem rb_go_inv {pc : Nat} (hs : rb_go pc ls st h = some (.inl x)) : x = (pc, ls, st, h) := (Sum.inl.inj (Option.some.inj hs)).symm
theorem rb_ldi_inv (hs : rb_ldi nx j ls st h = some (.inl x)) : ∃ v, ls[j]? = some (.int v) ∧ x = (nx, ls, .int v :: st, h) := by
  unfold rb_ldi at hs
  split at hs
  · rename_i v hv
    exact ⟨v, hv, rb_go_inv hs⟩
  · cases hs
theorem rb_lda_inv (hs : rb_lda nx j ls st h = some (.inl x)) : ∃ v, ls[j]? = some v ∧ (v = .null ∨ ∃ a, v = .ref a) ∧ x = (nx, ls, v :: st, h) := by
  unfold rb_lda at hs
  split at hs
  · rename_i v hv
    exact ⟨_, hv, Or.inr ⟨v, rfl⟩, rb_go_inv hs⟩
  · rename_i hv
    exact ⟨_, hv, Or.inl rfl, rb_go_inv hs⟩
  · cases hs
theorem rb_sti_inv (hs : rb_sti nx j ls st h = some (.inl x)) : ∃ v r, st = .int v :: r ∧ j < ls.length ∧ x = (nx, ls.set j (.int v), r, h) := by
  unfold rb_sti at hs
  split at hs
  · rename_i v r
    split at hs
    · rename_i hj
      exact ⟨v, r, rfl, rb_blt hj, rb_go_inv hs⟩
    · cases hs
  · cases hs
theorem rb_sta_inv (hs : rb_sta nx j ls st h = some (.inl x)) : ∃ v r, st = v :: r ∧ (v = .null ∨ ∃ a, v = .ref a) ∧ j < ls.length ∧ x = (nx, ls.set j v, r, h) := by
  unfold rb_sta at hs
  split at hs
  · rename_i v r
    split at hs
    · rename_i hj
      exact ⟨_, r, rfl, Or.inr ⟨v, rfl⟩, rb_blt hj, rb_go_inv hs⟩
    · cases hs
  · rename_i r
    split at hs
    · rename_i hj
      exact ⟨_, r, rfl, Or.inl rfl, rb_blt hj, rb_go_inv hs⟩
    · cases hs
  · cases hs
theorem rb_inc_inv (hs : rb_inc nx j kc ls st h = some (.inl x)) : ∃ v, ls[j]? = some (.int v) ∧ x = (nx, ls.set j (.int (v + kc)), st, h) := by
  unfold rb_inc at hs
  split at hs
  · rename_i v hv
    exact ⟨v, hv, rb_go_inv hs⟩
  · cases hs
theorem rb_bin_inv (hs : rb_bin f nx ls st h = some (.inl x)) : ∃ u v r, st = .int v :: .int u :: r ∧ x = (nx, ls, .int (f u v) :: r, h) := by
  unfold rb_bin at hs
  split at hs
  · rename_i v u r
    exact ⟨u, v, r, rfl, rb_go_inv hs⟩
  · cases hs
theorem rb_div_inv (hs : rb_div f nx ls st h = some (.inl x)) : ∃ u v r, st = .int v :: .int u :: r ∧ ¬ v = 0 ∧ x = (nx, ls, .int (f u v) :: r, h) := by
  unfold rb_div at hs
  split at hs
  · rename_i v u r
    split at hs
    · cases hs
    · rename_i hd
      exact ⟨u, v, r, rfl, of_decide_eq_false hd, rb_go_inv hs⟩
  · cases hs
theorem rb_br_inv {c : Bool} {tg : Nat} (hs : rb_br c tg nx ls st h = some (.inl x)) : (c = true ∧ x = (tg, ls, st, h)) ∨ (c = false ∧ x = (nx, ls, st, h)) := by
  unfold rb_br at hs
  split at hs
  · exact Or.inl ⟨rfl, rb_go_inv hs⟩
  · exact Or.inr ⟨rfl, rb_go_inv hs⟩
theorem rb_get_inv (hs : rb_get ci j nx ls st h = some (.inl x)) : ∃ a r fs v, st = .ref a :: r ∧ h.2.2 a = .inr (ci, fs) ∧ fs[j]? = some v ∧ x = (nx, ls, v :: r, h) := by
  unfold rb_get at hs
  split at hs
  · rename_i a r
    split at hs
    · rename_i c fs he
      split at hs
      · rename_i hc
        split at hs
        · rename_i v hv
          have e := Nat.eq_of_beq_eq_true hc
          subst e
          exact ⟨a, r, fs, v, rfl, he, hv, rb_go_inv hs⟩
        · cases hs
      · cases hs
    · cases hs
  · cases hs
theorem rb_put_inv (hs : rb_put ci j ty nx ls st h = some (.inl x)) : ∃ a r fs v, st = v :: .ref a :: r ∧ rb_fit ty v = true ∧ h.2.2 a = .inr (ci, fs) ∧ j < fs.length ∧ x = (nx, ls, r, (h.1, h.2.1, va_up h.2.2 a (.inr (ci, fs.set j v)))) := by
  unfold rb_put at hs
  split at hs
  · rename_i v a r
    split at hs
    · rename_i hf
      split at hs
      · rename_i c fs he
        split at hs
        · rename_i hc
          split at hs
          · rename_i hj
            have e := Nat.eq_of_beq_eq_true hc
            subst e
            exact ⟨a, r, fs, v, rfl, hf, he, rb_blt hj, rb_go_inv hs⟩
          · cases hs
        · cases hs
      · cases hs
    · cases hs
  · cases hs
theorem rb_ald_inv (hs : rb_ald t nx ls st h = some (.inl x)) : ∃ i a r n g, st = .int i :: .ref a :: r ∧ h.2.2 a = .inl (t, n, .inl g) ∧ vp_in i n ∧ x = (nx, ls, .int (g i.toNatClampNeg) :: r, h) := by
  unfold rb_ald at hs
  split at hs
  · rename_i i a r
    split at hs
    · rename_i t' n g he
      split at hs
      · rename_i hc
        split at hs
        · cases hs
        · rename_i ho
          have e := Nat.eq_of_beq_eq_true hc
          subst e
          exact ⟨i, a, r, n, g, rfl, he, of_decide_eq_false ho, rb_go_inv hs⟩
      · cases hs
    · cases hs
  · cases hs
theorem rb_ast_inv (hs : rb_ast t ty nx ls st h = some (.inl x)) : ∃ v i a r n g, st = .int v :: .int i :: .ref a :: r ∧ rb_fit ty (.int v) = true ∧ h.2.2 a = .inl (t, n, .inl g) ∧ vp_in i n ∧ x = (nx, ls, r, (h.1, h.2.1, va_up h.2.2 a (.inl (t, n, .inl (upd g i.toNatClampNeg v))))) := by
  unfold rb_ast at hs
  split at hs
  · rename_i v i a r
    split at hs
    · rename_i hf
      split at hs
      · rename_i t' n g he
        split at hs
        · rename_i hc
          split at hs
          · cases hs
          · rename_i ho
            have e := Nat.eq_of_beq_eq_true hc
            subst e
            exact ⟨v, i, a, r, n, g, rfl, hf, he, of_decide_eq_false ho, rb_go_inv hs⟩
        · cases hs
      · cases hs
    · cases hs
  · cases hs
theorem rb_rald_inv (hs : rb_rald nx ls st h = some (.inl x)) : ∃ i a r t n g, st = .int i :: .ref a :: r ∧ h.2.2 a = .inl (t, n, .inr (.inr (.inr (.inr g)))) ∧ 2 ≤ t ∧ t < 7 ∧ vp_in i n ∧ x = (nx, ls, va_rf (g i.toNatClampNeg) :: r, h) := by
  unfold rb_rald at hs
  split at hs
  · rename_i i a r
    split at hs
    · rename_i t n g he
      split at hs
      · rename_i hc
        split at hs
        · cases hs
        · rename_i ho
          rw [Bool.and_eq_true] at hc
          exact ⟨i, a, r, t, n, g, rfl, he, Nat.le_of_ble_eq_true hc.1, rb_blt hc.2, of_decide_eq_false ho, rb_go_inv hs⟩
      · cases hs
    · cases hs
  · cases hs
theorem rb_rast_inv (hs : rb_rast nx ls st h = some (.inl x)) : ∃ v i a r t n g c vs, st = .ref v :: .int i :: .ref a :: r ∧ h.2.2 a = .inl (t, n, .inr (.inr (.inr (.inr g)))) ∧ h.2.2 v = .inr (c, vs) ∧ rb_el t = some c ∧ vp_in i n ∧ x = (nx, ls, r, (h.1, h.2.1, va_up h.2.2 a (.inl (t, n, .inr (.inr (.inr (.inr (va_up g i.toNatClampNeg (some v))))))))) := by
  unfold rb_rast at hs
  split at hs
  · rename_i v i a r
    split at hs
    · rename_i t n g he
      split at hs
      · rename_i c vs hv
        split at hs
        · rename_i c' hc'
          split at hs
          · rename_i hc
            split at hs
            · cases hs
            · rename_i ho
              have e := Nat.eq_of_beq_eq_true hc
              subst e
              exact ⟨v, i, a, r, t, n, g, c, vs, rfl, he, hv, hc', of_decide_eq_false ho, rb_go_inv hs⟩
          · cases hs
        · cases hs
      · cases hs
    · cases hs
  · cases hs
theorem rb_len_inv (hs : rb_len nx ls st h = some (.inl x)) : ∃ a r t n g, st = .ref a :: r ∧ h.2.2 a = .inl (t, n, .inl g) ∧ t < 7 ∧ x = (nx, ls, .int (Int32.ofNat n) :: r, h) := by
  unfold rb_len at hs
  split at hs
  · rename_i a r
    split at hs
    · rename_i t n g he
      split at hs
      · rename_i hc
        exact ⟨a, r, t, n, g, rfl, he, rb_blt hc, rb_go_inv hs⟩
      · cases hs
    · cases hs
  · cases hs
theorem rb_nwa_inv (hs : rb_nwa t nx ls st h = some (.inl x)) : ∃ n r, st = .int n :: r ∧ ¬ n < 0 ∧ n.toNatClampNeg ≤ 1000 ∧ x = (nx, ls, .ref h.1 :: r, (h.1 + 1, h.2.1 + n.toNatClampNeg, va_up h.2.2 h.1 (.inl (t, n.toNatClampNeg, .inl (fun _ => 0))))) := by
  unfold rb_nwa at hs
  split at hs
  · rename_i n r
    split at hs
    · cases hs
    · rename_i hn
      split at hs
      · cases hs
      · rename_i hb
        exact ⟨n, r, rfl, of_decide_eq_false hn, rb_bltF hb, rb_go_inv hs⟩
  · cases hs
theorem rb_nwr_inv (hs : rb_nwr t nx ls st h = some (.inl x)) : ∃ n r, st = .int n :: r ∧ ¬ n < 0 ∧ n.toNatClampNeg ≤ 1000 ∧ x = (nx, ls, .ref h.1 :: r, (h.1 + 1, h.2.1 + n.toNatClampNeg, va_up h.2.2 h.1 (.inl (t, n.toNatClampNeg, .inr (.inr (.inr (.inr (fun _ => none)))))))) := by
  unfold rb_nwr at hs
  split at hs
  · rename_i n r
    split at hs
    · cases hs
    · rename_i hn
      split at hs
      · cases hs
      · rename_i hb
        exact ⟨n, r, rfl, of_decide_eq_false hn, rb_bltF hb, rb_go_inv hs⟩
  · cases hs
theorem rb_nw2_inv (hs : rb_nw2 nx ls st h = some (.inl x)) : ∃ n1 n2 r, st = .int n2 :: .int n1 :: r ∧ ¬ n1 < 1 ∧ ¬ n2 < 0 ∧ n1.toNatClampNeg ≤ 1000 ∧ n2.toNatClampNeg ≤ 1000 ∧ x = (nx, ls, .ref h.1 :: r, rb_h2 h n1.toNatClampNeg n2.toNatClampNeg) := by
  unfold rb_nw2 at hs
  split at hs
  · rename_i n2 n1 r
    split at hs
    · cases hs
    · rename_i hn
      simp only [Bool.or_eq_false_iff] at hn
      exact ⟨n1, n2, r, rfl, of_decide_eq_false hn.1.1.1, of_decide_eq_false hn.1.1.2, rb_bltF hn.1.2, rb_bltF hn.2, rb_go_inv hs⟩
  · cases hs
end RBV
