/-! multianewarray of two dimensions of ints -/
section RBMA
variable {E : CtlPost} {e : Env} {d : Bool} {acts : List Action}
theorem rb_wpNew {s : State} {cX comp : ClassId} {k : Class} {ty : FieldType} {n : Nat} {init : Value} {Q : Addr → Pre} (hk : s.vm.classes[cX]? = some k) (hkind : k.kind = .array comp ty) (hfit : fits ty init = true) (hlimit : ¬ n > e.platform.arrayLengthLimit) (hheap : ¬ n * componentBytes ty > e.platform.maxHeapBytes)
    (hc : s.heap.size < e.platform.maxCells) (hs : s.slotsUsed + n ≤ e.platform.maxSlots) (hq : ∀ acts', Q s.heap.size d acts' (s.pushCell { cls := cX, slots := Array.replicate n init, vm := .none })) : Sem.wp (Jvm.newArray cX n init) Q E e d acts s := by
  have hfits : ∀ i v, (Array.replicate n init)[i]? = some v → s.fitsSlot cX .none i v = true := by
    intro i v hv
    simp only [Array.getElem?_replicate] at hv
    split at hv
    · cases hv
      simp [State.fitsSlot, State.slotType?, hk, hkind, hfit]
    · cases hv
  simp only [Jvm.newArray, Jvm.arrayFits, Sem.wp_bind', W.ask, W.ite, hlimit, if_false, W.theClass, hk, Option.some.injEq, exists_eq_left', hkind, hheap, Sem.wp_pure', W.alloc, W.stop, Array.size_replicate]
  rw [if_neg (by omega)]
  exact ⟨hc, hs, hfits, hq _⟩
theorem rb_ma {Q : Unit → Pre} {T : State} {g : JFrame} {index : Nat} {cB cI comp : ClassId} {kB kI : Class} {n1 n2 : Int32} {rest : List Value} (hs : T.topJava?.isSome) (hr : T.vm.classReady g.method.cls index cB) (hkB : T.vm.classes[cB]? = some kB) (hkindB : kB.kind = .array cI (.array .int)) (hkI : T.vm.classes[cI]? = some kI) (hkindI : kI.kind = .array comp .int)
    (hstack : g.stack = .int n2 :: .int n1 :: rest) (h1 : ¬ n1 < 1) (h2 : ¬ n2 < 0) (I : Nat → State → Prop) (hvm : ∀ j U, I j U → U.vm = T.vm ∧ U.topJava?.isSome)
    (hl1 : ¬ n1.toNatClampNeg > e.platform.arrayLengthLimit) (hl2 : ¬ n2.toNatClampNeg > e.platform.arrayLengthLimit) (hh1 : ¬ n1.toNatClampNeg * componentBytes (.array .int) > e.platform.maxHeapBytes) (hh2 : ¬ n2.toNatClampNeg * componentBytes .int > e.platform.maxHeapBytes)
    (h0 : I 0 (T.pushCell { cls := cB, slots := Array.replicate n1.toNatClampNeg .null, vm := .none })) (hroom0 : T.heap.size < e.platform.maxCells ∧ T.slotsUsed + n1.toNatClampNeg ≤ e.platform.maxSlots)
    (hstep : ∀ j U, j < n1.toNatClampNeg → I j U → U.heap.size < e.platform.maxCells ∧ U.slotsUsed + n2.toNatClampNeg ≤ e.platform.maxSlots ∧ ∃ cell : Cell, (U.pushCell { cls := cI, slots := Array.replicate n2.toNatClampNeg (.int 0), vm := .none }).heap[T.heap.size]? = some cell ∧ cell.vm = .none ∧ cell.cls = cB ∧ j < cell.slots.size ∧ I (j + 1) ((U.pushCell { cls := cI, slots := Array.replicate n2.toNatClampNeg (.int 0), vm := .none }).setCell T.heap.size (cell.setSlot j (.ref U.heap.size))))
    (hq : ∀ U d acts, I n1.toNatClampNeg U → Q () d acts (U.setTop { g with stack := .ref T.heap.size :: rest })) : Sem.wp (Op.multianewarray.sem index 2) Q E e d acts (T.setTop g) := by
  have h1' : ¬ n1 < 0 := by
    rw [Int32.lt_iff_toInt_lt] at h1 ⊢
    have e1 : (1 : Int32).toInt = 1 := by decide
    have e0 : (0 : Int32).toInt = 0 := by decide
    omega
  have h1'' : (n1 == 0) = false := by
    rw [beq_eq_false_iff_ne]
    intro q
    subst q
    exact h1 (by decide)
  simp only [Op.multianewarray.sem, Sem.wp_bind', W.resolveClassAt_ready (State.method?_setTop g hs) hr]
  simp [Jvm.popN, hs, hstack]
  rw [Op.multianewarray.make]
  simp only [Sem.wp_bind', W.ite, h1', if_false, Sem.wp_pure', W.theClass, State.vm_setTop, hkB, Option.some.injEq, exists_eq_left', hkindB]
  refine rb_wpNew (s := T.setTop _) (k := kB) (comp := cI) (ty := .array .int) hkB hkindB rfl hl1 hh1 hroom0.1 hroom0.2 (fun acts' => ?_)
  simp only [Sem.wp_bind', h1'', Bool.false_eq_true, if_false, Sem.wp_pure', Std.Legacy.Range.forIn_eq_forIn_range', Std.Legacy.Range.size, State.heap_setTop, State.pushCell_setTop]
  rw [show (n1.toNatClampNeg - 0 + 1 - 1) / 1 = n1.toNatClampNeg by omega]
  refine wp_forIn_inv (fun l s' => ∃ j U, j ≤ n1.toNatClampNeg ∧ l = List.range' j (n1.toNatClampNeg - j) ∧ s' = U.setTop { g with stack := rest } ∧ I j U) _ _ ⟨0, _, Nat.zero_le _, rfl, rfl, h0⟩ ?_ ?_
  · rintro x r s' d' acts' Q' ⟨j, U, hj, hl, rfl, hI⟩ hk
    have hjl : j < n1.toNatClampNeg := by
      refine Nat.lt_of_le_of_ne hj (fun q => ?_)
      subst q
      rw [Nat.sub_self] at hl
      cases hl
    rw [show n1.toNatClampNeg - j = (n1.toNatClampNeg - (j + 1)) + 1 by omega, List.range'_succ] at hl
    obtain ⟨rfl, rfl⟩ := List.cons.inj hl
    obtain ⟨r1, r2, cell, hcell, hcv, hcc, hcs, hI2⟩ := hstep x U hjl hI
    obtain ⟨v1, v2⟩ := hvm x U hI
    rw [← v1] at hkI hkB
    rw [Op.multianewarray.make]
    simp only [Sem.wp_bind', W.ite, h2, if_false, Sem.wp_pure', W.theClass, State.vm_setTop, hkI, Option.some.injEq, exists_eq_left', hkindI]
    refine rb_wpNew (s := U.setTop _) (k := kI) (comp := comp) (ty := .int) hkI hkindI rfl hl2 hh2 r1 r2 (fun acts' => ?_)
    simp only [State.heap_setTop, State.pushCell_setTop]
    have hfit : U.fitsSlot cell.cls cell.vm x (.ref U.heap.size) = true := by
      rw [hcv, hcc]
      simp [State.fitsSlot, State.slotType?, hkB, hkindB, fits]
    simp [defaultValue]
    exact ⟨cell, hcell, (by rw [hcv]; exact fun h => (by cases h)), hcs, hfit, hk _ _ _ ⟨x + 1, _, hjl, rfl, rfl, hI2⟩⟩
  · rintro s' d' acts' ⟨j, U, hj, hl, rfl, hI⟩
    have hjl : j = n1.toNatClampNeg := by
      refine Nat.le_antisymm hj (Nat.not_lt.mp fun q => ?_)
      rw [show n1.toNatClampNeg - j = (n1.toNatClampNeg - (j + 1)) + 1 by omega, List.range'_succ] at hl
      cases hl
    subst hjl
    obtain ⟨v1, v2⟩ := hvm _ U hI
    simp [v2]
    exact hq _ _ _ hI
end RBMA
