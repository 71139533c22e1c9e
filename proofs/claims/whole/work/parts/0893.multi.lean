section RBMC
variable {p : Program} {l : Launch} {e : Env} {R : Room} {s : State} {m : MethodId} {args : Array Value} {below : List Frame} {meth : Method} {c : Code} {H : Heap} {locs : List Loc} {cells slots : Nat} {Q : State → Prop}
theorem rb_W2 {cc : ByteArray} {pc : Nat} {arr : Array Slot} (hexec : p.tables.exec = Jvm.exec) (hb : c.code = cc) {own : String} {index : Nat} (hown : s.vm.findClass own = some m.cls) (hclink : (Cond.classLink own index "[[I").before args s = true) (hover : (Cond.arrayOver (.array .int)).before args s = true) (harr : (Cond.arrayClass .int).before args s = true) {n1 n2 : Int32} {rest : List Value} (h1 : ¬ n1 < 1) (h2 : ¬ n2 < 0) (hb1 : n1.toNatClampNeg ≤ 1000) (hb2 : n2.toNatClampNeg ≤ 1000) (hdg : decode cc pc = .ok (.multianewarray index 2, 4))
    (hcells : cells + (1 + n1.toNatClampNeg) ≤ R.cells) (hslots : slots + (n1.toNatClampNeg + n1.toNatClampNeg * n2.toNatClampNeg) ≤ R.slots)
    (kk : ∀ (H' : Heap) (cB cI : ClassId), s.vm.findClass "[[I" = some cB → s.vm.findClass "[I" = some cI → H'.size = H.size + 1 + n1.toNatClampNeg → (∀ q, q < H.size → H'[q]? = H[q]?) → H'[H.size]? = some (arrV cB n1.toNatClampNeg (fun i => if i < n1.toNatClampNeg then .ref (H.size + 1 + i) else .null)) → (∀ i, i < n1.toNatClampNeg → H'[H.size + 1 + i]? = some (arrV cI n2.toNatClampNeg (fun _ => .int 0))) →
      W p l e R s m args below meth c H' locs (cells + 1 + n1.toNatClampNeg) (slots + n1.toNatClampNeg + n1.toNatClampNeg * n2.toNatClampNeg) Q (F0 m (pc + 4) arr (.ref H.size :: rest))) : W p l e R s m args below meth c H locs cells slots Q (F0 m pc arr (.int n2 :: .int n1 :: rest)) := by
  intro T hT X
  subst hT; subst hb
  have hpl : e.platform.magicAccessors = ({} : Platform).magicAccessors := by rw [X.admits.platform]
  obtain ⟨cI, cB, kB, hcI, hidx, hkB, hkindB, hnameB⟩ := arrayOverA_spec hover
  obtain ⟨cI', kI, comp, hnI, hkI, hkindI⟩ := Cond.arrayClass_spec harr
  have e1 : (FieldType.array .int).toString = "[I" := by decide
  have e2 : ("[" ++ (FieldType.array .int).toString) = "[[I" := by decide
  have e3 : ("[" ++ FieldType.int.toString) = "[I" := by decide
  rw [e1] at hcI
  rw [e2] at hnameB
  rw [e3] at hnI
  cases hcI.symm.trans hnI
  obtain ⟨cc', hfcc, hcl⟩ := Cond.classLink_spec hown hclink e.platform hpl
  cases hnameB.symm.trans hfcc
  obtain ⟨hg₁, hwarm₁, hready₁⟩ := State.classEntry (e := e) X.warmed hcl
  generalize T.vm.noted m.cls index (.cls cB) = vm₁ at hg₁ hwarm₁ hready₁
  have hal : s.vm.Alike vm₁ := hwarm₁.alike
  obtain ⟨kB₁, hkB₁, heB⟩ := hal.2.2 _ _ hkB
  obtain ⟨kI₁, hkI₁, heI⟩ := hal.2.2 _ _ hkI
  have hkindB₁ : kB₁.kind = .array cI (.array .int) := by rw [heB]; exact hkindB
  have hkindI₁ : kI₁.kind = .array comp .int := by rw [heI]; exact hkindI
  have X₁ := X.noted hwarm₁
  have hge : s.heap.size ≤ (T.setVm vm₁).heap.size := X.same.2.1
  have F := rb_U_facts (cB := cB) (cI := cI) (N1 := n1.toNatClampNeg) (N2 := n2.toNatClampNeg) X₁ hge
  obtain ⟨XN, vN, zN, oN, aN, rN⟩ := F n1.toNatClampNeg (Nat.le_refl _)
  obtain ⟨t', a1, b1⟩ := kk _ cB cI hnameB hcI zN oN aN rN _ rfl XN
  have hlim := Launch.admits_arrayLengthLimit X.admits
  have hhp := Launch.admits_maxHeapBytes X.admits
  refine ⟨t', ?_, b1⟩
  jvm_step X.here [hexec, hdg]
  rw [rb_ma_cold (f := F0 m pc arr (.int n2 :: .int n1 :: rest)) X.here.top hg₁ hready₁ (by no_record)]
  refine rb_ma (T := T.setVm vm₁) (g := F0 m pc arr (.int n2 :: .int n1 :: rest)) (rest := rest) X.here.top hready₁ hkB₁ hkindB₁ hkI₁ hkindI₁ rfl h1 h2 (fun j U => j ≤ n1.toNatClampNeg ∧ U = rb_U (T.setVm vm₁) cB cI n1.toNatClampNeg n2.toNatClampNeg j) ?_ (by rw [hlim]; omega) (by rw [hlim]; omega) (by rw [hhp]; show ¬ n1.toNatClampNeg * 4 > 536870912; omega) (by rw [hhp]; show ¬ n2.toNatClampNeg * 4 > 536870912; omega) ⟨Nat.zero_le _, rfl⟩ ?_ ?_ ?_
  · rintro j U ⟨hj, rfl⟩
    obtain ⟨Xj, vj, -⟩ := F j hj
    exact ⟨vj, Xj.here.top⟩
  · have := X₁.roomAbove (a := 1) (b := n1.toNatClampNeg) (by omega) (by omega)
    exact ⟨by have := this.1; omega, this.2⟩
  · rintro j U hj ⟨hj2, rfl⟩
    obtain ⟨Xj, vj, zj, oj, aj, rj⟩ := F j hj2
    have hmul : (j + 1) * n2.toNatClampNeg ≤ n1.toNatClampNeg * n2.toNatClampNeg := Nat.mul_le_mul_right _ hj
    rw [Nat.add_mul] at hmul
    have hrm := Xj.roomAbove (a := 1) (b := n2.toNatClampNeg) (by omega) (by omega)
    refine ⟨by have := hrm.1; omega, hrm.2, _, ?_, rfl, rfl, ?_, hj, rfl⟩
    · show ((rb_U (T.setVm vm₁) cB cI n1.toNatClampNeg n2.toNatClampNeg j).heap.push _)[(T.setVm vm₁).heap.size]? = _
      rw [Array.getElem?_push, if_neg (by omega)]
      exact aj
    · rw [arrV_size]
      exact hj
  · rintro U d acts ⟨hj, rfl⟩
    intro acts9
    rw [afterInstr_ok]
    exact a1
end RBMC
