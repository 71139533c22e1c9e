def rb_U (T : State) (cB cI : ClassId) (N1 N2 : Nat) : Nat → State
  | 0 => T.pushCell { cls := cB, slots := Array.replicate N1 .null, vm := .none }
  | j + 1 => ((rb_U T cB cI N1 N2 j).pushCell { cls := cI, slots := Array.replicate N2 (.int 0), vm := .none }).setCell T.heap.size ((arrV cB N1 (fun i => if i < j then .ref (T.heap.size + 1 + i) else .null)).setSlot j (.ref (rb_U T cB cI N1 N2 j).heap.size))
section RBMB
variable {p : Program} {l : Launch} {e : Env} {R : Room} {s : State} {m : MethodId} {args : Array Value} {below : List Frame} {meth : Method} {c : Code} {H : Heap} {locs : List Loc} {cells slots : Nat} {Q : State → Prop}
theorem rb_U_facts {T : State} {cB cI : ClassId} {N1 N2 : Nat} (X : Stand p l e R s m args below meth c T locs cells slots) (hT : s.heap.size ≤ T.heap.size) : ∀ j, j ≤ N1 → Stand p l e R s m args below meth c (rb_U T cB cI N1 N2 j) locs (cells + 1 + j) (slots + N1 + j * N2) ∧ (rb_U T cB cI N1 N2 j).vm = T.vm ∧ (rb_U T cB cI N1 N2 j).heap.size = T.heap.size + 1 + j ∧ (∀ q, q < T.heap.size → (rb_U T cB cI N1 N2 j).heap[q]? = T.heap[q]?) ∧ (rb_U T cB cI N1 N2 j).heap[T.heap.size]? = some (arrV cB N1 (fun i => if i < j then .ref (T.heap.size + 1 + i) else .null)) ∧ ∀ i, i < j → (rb_U T cB cI N1 N2 j).heap[T.heap.size + 1 + i]? = some (arrV cI N2 (fun _ => .int 0))
  | 0, _ => by
    have X1 := X.pushed { cls := cB, slots := Array.replicate N1 .null, vm := .none }
    have X2 : Stand p l e R s m args below meth c (rb_U T cB cI N1 N2 0) locs (cells + 1 + 0) (slots + N1 + 0 * N2) := by
      rw [Nat.add_zero, Nat.zero_mul, Nat.add_zero]
      simp only [Array.size_replicate] at X1
      exact X1
    refine ⟨X2, rfl, by show (T.heap.push _).size = _; simp, fun q hq => ?_, ?_, fun i hi => absurd hi (Nat.not_lt_zero i)⟩
    · show (T.heap.push _)[q]? = _
      rw [Array.getElem?_push, if_neg (Nat.ne_of_lt hq)]
    · show (T.heap.push _)[T.heap.size]? = _
      rw [Array.getElem?_push_size, arrV_new]
      congr 2
  | j + 1, hj => by
    obtain ⟨X0, v0, z0, o0, a0, r0⟩ := rb_U_facts (cB := cB) (cI := cI) (N1 := N1) (N2 := N2) X hT j (by omega)
    have X1 := X0.pushed { cls := cI, slots := Array.replicate N2 (.int 0), vm := .none }
    have hz1 : ((rb_U T cB cI N1 N2 j).pushCell { cls := cI, slots := Array.replicate N2 (.int 0), vm := .none }).heap.size = T.heap.size + 1 + j + 1 := by
      show ((rb_U T cB cI N1 N2 j).heap.push _).size = _
      rw [Array.size_push, z0]
    have ha1 : ((rb_U T cB cI N1 N2 j).pushCell { cls := cI, slots := Array.replicate N2 (.int 0), vm := .none }).heap[T.heap.size]? = some (arrV cB N1 (fun i => if i < j then .ref (T.heap.size + 1 + i) else .null)) := by
      show ((rb_U T cB cI N1 N2 j).heap.push _)[T.heap.size]? = _
      rw [Array.getElem?_push, if_neg (by omega)]
      exact a0
    have X2 := X1.stored ha1 j (.ref (rb_U T cB cI N1 N2 j).heap.size)
    have X3 := Stand.forget X2 (fun y hy => by rw [List.mem_singleton.mp hy]; exact hT)
    have hsl : slots + N1 + (j + 1) * N2 = slots + N1 + j * N2 + N2 := by rw [Nat.add_mul]; omega
    refine ⟨?_, v0, ?_, fun q hq => ?_, ?_, fun i hi => ?_⟩
    · rw [hsl]
      simp only [Array.size_replicate] at X3
      exact X3
    · show (State.setCell _ _ _).heap.size = _
      rw [size_setCell, hz1]
      omega
    · show (State.setCell _ _ _).heap[q]? = _
      have hne : T.heap.size ≠ q := by omega
      rw [heapAt_setCell_ne _ hne]
      show ((rb_U T cB cI N1 N2 j).heap.push _)[q]? = _
      rw [Array.getElem?_push, if_neg (by omega)]
      exact o0 q hq
    · show (State.setCell _ _ _).heap[T.heap.size]? = _
      have hlt : T.heap.size < ((rb_U T cB cI N1 N2 j).pushCell { cls := cI, slots := Array.replicate N2 (.int 0), vm := .none }).heap.size := by rw [hz1]; omega
      rw [heapAt_setCell_self _ hlt, arrV_store]
      congr 2
      funext i
      unfold updV
      rw [z0]
      by_cases h9 : i = j
      · subst h9
        simp
      · rw [if_neg h9]
        dsimp only
        by_cases h8 : i < j
        · rw [if_pos h8, if_pos (by omega)]
        · rw [if_neg h8, if_neg (by omega)]
    · show (State.setCell _ _ _).heap[T.heap.size + 1 + i]? = _
      have hne : T.heap.size ≠ T.heap.size + 1 + i := by omega
      rw [heapAt_setCell_ne _ hne]
      show ((rb_U T cB cI N1 N2 j).heap.push _)[T.heap.size + 1 + i]? = _
      rw [Array.getElem?_push]
      by_cases h9 : i = j
      · rw [if_pos (by omega), arrV_new]
      · rw [if_neg (by omega)]
        exact r0 i (by omega)
theorem rb_ma_cold {Q : Unit → Pre} {E : CtlPost} {d : Bool} {acts : List Action} {T : State} {f : JFrame} {index : Nat} {cX : Nat} {vm' : Vm} (hs : T.topJava?.isSome) (hg : (Jvm.resolveClass f.method.cls index).Gives e.toSetting T.vm (.ok cX) vm') (hr : vm'.classReady f.method.cls index cX) (hsz : vm'.classes.size ≤ T.vm.classes.size) :
    Sem.wp (Op.multianewarray.sem index 2) Q E e d acts (T.setTop f) ↔ Sem.wp (Op.multianewarray.sem index 2) Q E e d acts ((T.setVm vm').setTop f) := by
  simp only [Op.multianewarray.sem, Sem.wp_bind']
  exact W.resolveClassAt_transfer (s := T.setTop f) (State.method?_setTop f hs) hg hr hsz
end RBMB
