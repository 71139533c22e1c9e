section RBX
variable {p : Program} {l : Launch} {e : Env} {R : Room} {s : State} {m : MethodId} {args : Array Value} {below : List Frame} {meth : Method} {c : Code} {H : Heap} {locs : List Loc} {cells slots : Nat} {Q : State → Prop}
variable {D : va_G} {cA : Nat → ClassId} {b : Nat} {A : Nat → Prop} {h0 h : rb_H} {k pc : Nat} {ls st : List Value} {arr : Array Slot} {cc : ByteArray}
theorem rb_icmpW (hx : p.tables.exec = Jvm.exec) (hb : c.code = cc) {cd : Jvm.ClassFile.Cond} {u v : Int32} {off : Int} {tgt : Nat} {r : List Value} (hd : decode cc pc = .ok (.if_icmp cd off, 3)) (ht : (pc : Int) + off = (tgt : Int))
    (kt : rb_cmp cd u v = true → W p l e R s m args below meth c H locs cells slots Q (F0 m tgt arr r)) (kf : rb_cmp cd u v = false → W p l e R s m args below meth c H locs cells slots Q (F0 m (pc + 3) arr r)) : W p l e R s m args below meth c H locs cells slots Q (F0 m pc arr (.int v :: .int u :: r)) := by
  cases cd
  · exact lv_icmp_eq hx hb hd ht (fun h => kt (by simp [rb_cmp, h])) (fun h => kf (by simp [rb_cmp, h]))
  · exact lv_icmp_ne hx hb hd ht (fun h => kt (by simp [rb_cmp, h])) (fun h => kf (by simp [rb_cmp, h]))
  · exact lv_icmp_lt hx hb hd ht (fun h => kt (by simp only [rb_cmp, decide_eq_true_eq]; exact h)) (fun h => kf (by simp only [rb_cmp, decide_eq_false_iff_not]; exact h))
  · exact lv_icmp_ge hx hb hd ht (fun h => kt (by simp only [rb_cmp, decide_eq_true_eq]; exact h)) (fun h => kf (by simp only [rb_cmp, decide_eq_false_iff_not]; exact h))
  · exact lv_icmp_gt hx hb hd ht (fun h => kt (by simp only [rb_cmp, decide_eq_true_eq]; exact h)) (fun h => kf (by simp only [rb_cmp, decide_eq_false_iff_not]; exact h))
  · exact lv_icmp_le hx hb hd ht (fun h => kt (by simp only [rb_cmp, decide_eq_true_eq]; exact h)) (fun h => kf (by simp only [rb_cmp, decide_eq_false_iff_not]; exact h))
theorem rb_ifW (hx : p.tables.exec = Jvm.exec) (hb : c.code = cc) {cd : Jvm.ClassFile.Cond} {u : Int32} {off : Int} {tgt : Nat} {r : List Value} (hd : decode cc pc = .ok (.ifCond cd off, 3)) (ht : (pc : Int) + off = (tgt : Int))
    (kt : rb_cmp cd u 0 = true → W p l e R s m args below meth c H locs cells slots Q (F0 m tgt arr r)) (kf : rb_cmp cd u 0 = false → W p l e R s m args below meth c H locs cells slots Q (F0 m (pc + 3) arr r)) : W p l e R s m args below meth c H locs cells slots Q (F0 m pc arr (.int u :: r)) := by
  cases cd
  · exact lv_if_eq hx hb hd ht (fun h => kt (by simp [rb_cmp, h])) (fun h => kf (by simp [rb_cmp, h]))
  · exact lv_if_ne hx hb hd ht (fun h => kt (by simp [rb_cmp, h])) (fun h => kf (by simp [rb_cmp, h]))
  · exact lv_if_lt hx hb hd ht (fun h => kt (by simp only [rb_cmp, decide_eq_true_eq]; exact h)) (fun h => kf (by simp only [rb_cmp, decide_eq_false_iff_not]; exact h))
  · exact lv_if_ge hx hb hd ht (fun h => kt (by simp only [rb_cmp, decide_eq_true_eq]; exact h)) (fun h => kf (by simp only [rb_cmp, decide_eq_false_iff_not]; exact h))
  · exact lv_if_gt hx hb hd ht (fun h => kt (by simp only [rb_cmp, decide_eq_true_eq]; exact h)) (fun h => kf (by simp only [rb_cmp, decide_eq_false_iff_not]; exact h))
  · exact lv_if_le hx hb hd ht (fun h => kt (by simp only [rb_cmp, decide_eq_true_eq]; exact h)) (fun h => kf (by simp only [rb_cmp, decide_eq_false_iff_not]; exact h))
theorem rb_sw_spec (x : Int32) (d : Nat) : ∀ ps : List (Int32 × Nat), (∃ (j : Nat) (q : Int32 × Nat), ps[j]? = some q ∧ x = q.1 ∧ rb_sw x ps d = q.2) ∨ ((∀ q ∈ ps, ¬ x = q.1) ∧ rb_sw x ps d = d)
  | [] => Or.inr ⟨fun q h => (by cases h), rfl⟩
  | q :: r => by
    by_cases hq : x = q.1
    · refine Or.inl ⟨0, q, rfl, hq, ?_⟩
      simp [rb_sw, hq]
    · rcases rb_sw_spec x d r with ⟨j, q', h1, h2, h3⟩ | ⟨h1, h2⟩
      · exact Or.inl ⟨j + 1, q', by simpa using h1, h2, by simp [rb_sw, hq]; exact h3⟩
      · refine Or.inr ⟨fun q' h => ?_, by simp [rb_sw, hq]; exact h2⟩
        rcases List.mem_cons.mp h with h | h
        · rw [h]; exact hq
        · exact h1 q' h
theorem rb_tabW (hx : p.tables.exec = Jvm.exec) (hb : c.code = cc) {d lo hi : Int} {os : Array Int} {len a b' : Nat} {u : Int32} {r : List Value} (hd : decode cc pc = .ok (.tableswitch d lo hi os, len)) (hm : rb_more k pc (.tableswitch d lo hi os) a b' 0 = true)
    (kk : W p l e R s m args below meth c H locs cells slots Q (F0 m (rb_sw u (rb_swt a) b') arr r)) : W p l e R s m args below meth c H locs cells slots Q (F0 m pc arr (.int u :: r)) := by
  simp only [rb_more, Bool.and_eq_true, decide_eq_true_eq] at hm
  obtain ⟨⟨⟨m1, m2⟩, m3⟩, m4⟩ := hm
  have m5 : ∀ j, j < os.size → ∃ q o, (rb_swt a)[j]? = some q ∧ os[j]? = some o ∧ q.1.toInt = lo + j ∧ (pc : Int) + o = (q.2 : Int) := by
    intro j hj
    have := List.all_eq_true.mp m4 j (List.mem_range.mpr hj)
    split at this
    · rename_i q o h1 h2
      rw [Bool.and_eq_true] at this
      exact ⟨q, o, h1, h2, of_decide_eq_true this.1, of_decide_eq_true this.2⟩
    · cases this
  rcases rb_sw_spec u b' (rb_swt a) with ⟨j, q, h1, h2, h3⟩ | ⟨h1, h2⟩
  · have hj : j < os.size := by rw [← m2]; exact (List.getElem?_eq_some_iff.mp h1).1
    obtain ⟨q', o, g1, g2, g3, g4⟩ := m5 j hj
    rw [h1] at g1
    cases g1
    rw [h3] at kk
    subst h2
    exact lv_tableIn hx hb hd (by omega) (by omega) (by rw [show (q.1.toInt - lo).toNat = j by omega]; exact g2) g4 kk
  · rw [h2] at kk
    refine lv_tableOut hx hb hd ?_ m1 kk
    refine Classical.byContradiction fun hn => ?_
    have h8 : ¬ u.toInt < lo ∧ ¬ hi < u.toInt := ⟨fun q => hn (Or.inl q), fun q => hn (Or.inr q)⟩
    obtain ⟨q, o, g1, g2, g3, g4⟩ := m5 (u.toInt - lo).toNat (by omega)
    exact h1 q (List.mem_of_getElem? g1) (Int32.toInt_inj.mp (by omega))
theorem rb_lkW (hx : p.tables.exec = Jvm.exec) (hb : c.code = cc) {d : Int} {ps : Array (Int × Int)} {len a b' : Nat} {u : Int32} {r : List Value} (hd : decode cc pc = .ok (.lookupswitch d ps, len)) (hm : rb_more k pc (.lookupswitch d ps) a b' 0 = true)
    (kk : W p l e R s m args below meth c H locs cells slots Q (F0 m (rb_sw u (rb_swt a) b') arr r)) : W p l e R s m args below meth c H locs cells slots Q (F0 m pc arr (.int u :: r)) := by
  simp only [rb_more, Bool.and_eq_true, decide_eq_true_eq] at hm
  obtain ⟨⟨m1, m2⟩, m3⟩ := hm
  have key : ∀ ll : List (Int32 × Nat), (pc : Int) + Op.lookupswitch.offset (ll.map (fun q => (q.1.toInt, (q.2 : Int) - pc))) d u.toInt = (rb_sw u ll b' : Int) := by
    intro ll
    induction ll with
    | nil => simpa [Op.lookupswitch.offset, rb_sw] using m1
    | cons q r ih =>
      by_cases hq : u = q.1
      · subst hq
        rw [List.map_cons, Op.lookupswitch.offset_cons, if_pos rfl]
        simp [rb_sw]
        try omega
      · rw [List.map_cons, lv_osw hq rfl, ih]
        simp [rb_sw, hq]
  refine lv_lookup hx hb hd ?_ rfl (by rw [m3]; exact key _) kk
  exact m2
end RBX
