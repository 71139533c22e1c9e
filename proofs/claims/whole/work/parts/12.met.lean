section RBO
variable {p : Program} {l : Launch} {e : Env} {R : Room} {s : State} {m : MethodId} {args : Array Value} {below : List Frame} {meth : Method} {c : Code} {H : Heap} {locs : List Loc} {cells slots : Nat}
variable {D : va_G} {cA : Nat → ClassId} {b : Nat} {A : Nat → Prop} {h0 h : rb_H} {k pc : Nat} {ls st : List Value} {arr : Array Slot} {al : Bool}
set_option maxHeartbeats 4000000 in
theorem rb_retW (hx : p.tables.exec = Jvm.exec) (hb : c.code = rb_b k) (hrt : meth.sig.returnType = rb_rt k) (hlocks : meth.locks = false)
    {q : rb_I} (hq : rb_chk k pc q = true) (hiv : rb_isret q.1 = true) {v : Option Value} (hs : rb_step k al q.1 q.2.1 q.2.2.1 q.2.2.2.1 q.2.2.2.2 ls st h = some (.inr (.inr v)))
    {Qc : Array Value → State → Outcome → State → Prop} {free : Addr → Prop} (hQ : ∀ t : State, t.heap = H → s.WarmedH t.vm → Qc args s (.returned (v.map (rb_rv b))) t) (hf : ∀ q ∈ locs, free q.base) :
    W p l e R s m args below meth c H locs cells slots (MQ below Qc args s cells slots free) (F0 m pc arr (st.map (rb_rv b))) := by
  obtain ⟨i, nx, a, b', kc⟩ := q
  cases i with
  | ireturn =>
    obtain ⟨hd, hn, hm⟩ := rb_chk_dec hq rfl
    simp only [rb_step] at hs
    split at hs
    · split at hs
      · rename_i ty hty
        split at hs
        · rename_i hfit
          have e1 := Sum.inr.inj (Sum.inr.inj (Option.some.inj hs))
          subst e1
          exact W.zret hx hb (hrt.trans hty) (rb_fit_spec b hfit).1 hQ hf hd hlocks
        · cases hs
      · cases hs
    · cases hs
  | areturn =>
    obtain ⟨hd, hn, hm⟩ := rb_chk_dec hq rfl
    simp only [rb_step] at hs
    split at hs
    · split at hs
      · rename_i ty hty
        have e1 := Sum.inr.inj (Sum.inr.inj (Option.some.inj hs))
        subst e1
        exact W.aret hx hb (hrt.trans hty) (Or.inl ⟨_, rfl⟩) (Or.inr ⟨_, rfl⟩) hQ hf hd hlocks
      · cases hs
    · split at hs
      · rename_i ty hty
        have e1 := Sum.inr.inj (Sum.inr.inj (Option.some.inj hs))
        subst e1
        exact W.aret hx hb (hrt.trans hty) (Or.inl ⟨_, rfl⟩) (Or.inl rfl) hQ hf hd hlocks
      · cases hs
    · cases hs
  | return_ =>
    obtain ⟨hd, hn, hm⟩ := rb_chk_dec hq rfl
    simp only [rb_step] at hs
    split at hs
    · rename_i hty
      have e1 := Sum.inr.inj (Sum.inr.inj (Option.some.inj hs))
      subst e1
      exact W.vret hx hb (hrt.trans hty) hQ hf hd hlocks
    · cases hs
  | _ => cases hiv
end RBO
theorem rb_lgl (b : Nat) : ∀ {as : List Value}, as.all rb_ok = true → (lg_sl (as.map (rb_rv b))).length = as.length
  | [], _ => rfl
  | v :: r, h => by
    rw [List.all_cons, Bool.and_eq_true] at h
    have h1 := rb_lgl b h.2
    unfold lg_sl at h1 ⊢
    rw [List.map_cons, List.flatMap_cons, List.length_append, h1, rb_rv_cat h.1]
    simp
    omega
theorem rb_lga (b : Nat) : ∀ {as : List Value} (i j : Nat) (v : Value), as.all rb_ok = true → as[j]? = some v → (i + j, rb_rv b v) ∈ lv_args i (as.map (rb_rv b))
  | [], i, j, v, _, hv => by simp at hv
  | w :: r, i, 0, v, h, hv => by
    have e : w = v := by simpa using hv
    subst e
    exact List.mem_cons_self
  | w :: r, i, j + 1, v, h, hv => by
    rw [List.all_cons, Bool.and_eq_true] at h
    have h1 : r[j]? = some v := by simpa using hv
    have h2 := rb_lga b (i + 1) j v h.2 h1
    show _ ∈ (i, rb_rv b w) :: lv_args (if (rb_rv b w).category = 2 then i + 2 else i + 1) (r.map (rb_rv b))
    rw [rb_rv_cat h.1, if_neg (by decide)]
    refine List.mem_cons_of_mem _ ?_
    rw [show i + (j + 1) = i + 1 + j by omega]
    exact h2
theorem rb_entL {b k : Nat} {as : List Value} {arr : Array Slot} (ha : as.all rb_ok = true) (hn : as.length ≤ rb_ml k) (h : lv_has arr (rb_ml k) (lv_args 0 (as.map (rb_rv b)))) : rb_L b (rb_ent k as) arr ∧ (rb_ent k as).length = rb_ml k := by
  have hl : (rb_ent k as).length = rb_ml k := by
    unfold rb_ent
    rw [List.length_append, List.length_replicate]
    omega
  refine ⟨⟨h.1.trans hl.symm, h.2.1, fun i v hi hv => ?_⟩, hl⟩
  unfold rb_ent at hi
  by_cases h9 : i < as.length
  · rw [List.getElem?_append_left h9] at hi
    have := h.2.2 _ (rb_lga b 0 i v ha hi)
    simpa using this
  · rw [List.getElem?_append_right (by omega)] at hi
    have h8 := List.eq_of_mem_replicate (List.mem_of_getElem? hi)
    rw [h8] at hv
    cases hv
set_option maxHeartbeats 8000000 in
theorem rb_met {l : Launch} {D : va_G} {cA : Nat → ClassId} {b : Nat} {al : Bool} : ∀ (d k : Nat) (as : List Value) (h : rb_H) (r : Option Value) (h' : rb_H), rb_rel al d k as h r h' → k < rb_nm → (∀ i, h.1 ≤ i → h.2.2 i = rb_blank) → ∀ sz : Nat, Met l (rb_y k) (rb_wsk k) (rb_rm d (h'.1 - h.1) (h'.2.1 - h.2.1)) (rb_Pc al D cA b h as sz) (rb_Qc D cA b h sz r h') (h'.1 - h.1) (h'.2.1 - h.2.1) (va_A (rb_w b cA h) sz)
  | 0, _, _, _, _, _, hx, _, _, _ => hx.elim
  | d + 1, k, as, h, r, h', hr, hk, hbl, sz => by
    have hle0 := rb_rel_le (d + 1) k as h r h' hr
    obtain ⟨hok, hlen, n, hex⟩ := hr
    refine Met.ofW (cc := rb_b k) (maxL := rb_ml k) (ret := rb_rt k) (rb_plain hk) rfl ?_
    intro p e s m args below meth c s₁ B hml hv
    obtain ⟨rfl, hsz, hal, hP, hK, hD⟩ := hv
    have hx := B.exec
    have hb := B.bytes
    have hrt := B.returns
    have hts := atoms_spec (ws := rb_wsk k) B.pre
    have hts2 : ∀ w ∈ rb_ws, w.before (as.map (rb_rv b)).toArray s = true := fun w hw => hts w (List.mem_cons_of_mem _ hw)
    have hown : s.vm.findClass (rb_on k) = some m.cls := by
      rw [← rb_on_ok hk]
      exact findClass_of_methodNamed B.named
    have hlocks := B.notSynchronized
    have hnm : meth.name = (rb_y k).name := (name_of_methodNamed B.named B.method).1
    subst hsz
    have hl := lv_entry (as.map (rb_rv b)) (n := rb_ml k) (by rw [rb_lgl b hok]; exact hlen)
    rw [lg_entry_eq]
    generalize (lg_sl (as.map (rb_rv b)) ++ List.replicate (rb_ml k - (lg_sl (as.map (rb_rv b))).length) Slot.unset).toArray = arr at hl ⊢
    obtain ⟨hL, hLl⟩ := rb_entL hok hlen hl
    have hA : ∀ q : Nat, s.heap.size ≤ q → va_A (rb_w b cA h) s.heap.size q := fun q h9 => Or.inr h9
    have hI : rb_Inv D cA b (va_A (rb_w b cA h) s.heap.size) s.heap h h s.heap [] 0 0 := ⟨hP, hD.self, va_S.rf, hbl, rfl, rfl⟩
    have hal2 : al = true → s.heap.size = b + h.1 ∧ (∀ q, va_A (rb_w b cA h) s.heap.size q → b ≤ q) ∧ rb_E s := by
      intro h9
      refine ⟨(hal h9).1, fun q hq => ?_, (hal h9).2⟩
      rcases hq with ⟨i, e9, hi⟩ | h8
      · have h7 : i < h.1 := by
          have := (List.getElem?_eq_some_iff.mp hi).1
          rw [rb_w_len] at this
          exact this
        rw [rb_w_get h7] at hi
        have := congrArg Prod.fst (Option.some.inj hi)
        dsimp only at this
        omega
      · have := (hal h9).1
        omega
    have hR : d + 1 ≤ (headSpec (rb_wsk k) (rb_rm (d + 1) (h'.1 - h.1) (h'.2.1 - h.2.1))).room.frames ∧ 40 * (d + 1) ≤ (headSpec (rb_wsk k) (rb_rm (d + 1) (h'.1 - h.1) (h'.2.1 - h.2.1))).room.locals := ⟨Nat.le_refl _, Nat.le_refl _⟩
    have hRc : (headSpec (rb_wsk k) (rb_rm (d + 1) (h'.1 - h.1) (h'.2.1 - h.2.1))).room.cells = h'.1 - h.1 := rfl
    have hRs : (headSpec (rb_wsk k) (rb_rm (d + 1) (h'.1 - h.1) (h'.2.1 - h.2.1))).room.slots = h'.2.1 - h.2.1 := rfl
    generalize (headSpec (rb_wsk k) (rb_rm (d + 1) (h'.1 - h.1) (h'.2.1 - h.2.1))).room = R at hR hRc hRs ⊢
    have walk : ∀ (n pc : Nat) (ls st : List Value) (g : rb_H) (H : Heap) (locs : List Loc) (cells slots : Nat) (arr : Array Slot), rb_ex (rb_rel al d) al k n pc ls st g r h' → rb_Inv D cA b (va_A (rb_w b cA h) s.heap.size) s.heap h g H locs cells slots → rb_L b ls arr → ls.length = rb_ml k →
        W p l e R s m (as.map (rb_rv b)).toArray below meth c H locs cells slots (MQ below (rb_Qc D cA b h s.heap.size r h') (as.map (rb_rv b)).toArray s (h'.1 - h.1) (h'.2.1 - h.2.1) (va_A (rb_w b cA h) s.heap.size)) (F0 m pc arr (st.map (rb_rv b))) := by
      intro n
      induction n with
      | zero => intro _ _ _ _ _ _ _ _ _ hex; exact hex.elim
      | succ n ih =>
        intro pc ls st g H locs cells slots arr hex hI hL hLl
        unfold rb_ex at hex
        split at hex
        · exact hex.elim
        · rename_i q hq
          have hq := rb_ins_ok hq
          split at hex
          · exact hex.elim
          · rename_i x hs
            have hle := rb_ex_le (fun k as h v h1 hc => rb_rel_le d k as h v h1 hc) n _ _ _ _ _ _ hex
            have hle1 := hle.1
            have hle2 := hle.2.1
            have hle3 := hle0.1
            have hle4 := hle0.2.1
            exact rb_stepW hx hb hml hts2 hown hnm hK hA ⟨by omega, by omega⟩ hal2 hq hs hI hL hLl ⟨by omega, by omega⟩ (fun H1 locs1 cells1 slots1 arr1 hI1 hL1 hl1 => ih _ _ _ _ _ _ _ _ _ hex hI1 hL1 hl1)
          · rename_i x hs
            obtain ⟨hiv, v, h1, hc, hex⟩ := hex
            have hle := rb_ex_le (fun k as h v h1 hc => rb_rel_le d k as h v h1 hc) n _ _ _ _ _ _ hex
            have hle9 := rb_rel_le d _ _ _ _ _ hc
            have hle1 := hle.1
            have hle2 := hle.2.1
            have hle3 := hle0.1
            have hle4 := hle0.2.1
            exact rb_callW hx hb hml hts hown hK hA hR (fun h9 => ⟨(hal2 h9).1, (hal2 h9).2.2⟩) hq hiv hs hI hL hLl hle9 ⟨by omega, by omega⟩ (fun hk2 sz => rb_met d _ _ _ _ _ hc hk2 hI.2.2.2.1 sz) (fun H1 locs1 cells1 slots1 hI1 => ih _ _ _ _ _ _ _ _ _ hex hI1 hL hLl)
          · rename_i v hs
            obtain ⟨hiv, rfl, rfl⟩ := hex
            have e1 : cells = h'.1 - h.1 := by have := hI.2.2.2.2.1; omega
            have e2 : slots = h'.2.1 - h.2.1 := by have := hI.2.2.2.2.2; omega
            rw [← e1, ← e2]
            exact rb_retW hx hb hrt hlocks hq hiv hs (fun t ht hW => ⟨⟨rfl, by rw [ht]; exact hI.1, hI.2.1⟩, hI.2.2.1.F ht⟩) hI.2.2.1.2.2
    exact walk n 0 (rb_ent k as) [] h s.heap [] 0 0 arr hex hI hL hLl
