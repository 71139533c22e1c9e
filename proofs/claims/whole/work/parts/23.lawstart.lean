/-! the law's start: the tables, the two constructors -/
-- words
set_option maxRecDepth 1000000 in
theorem lw_in0 : Cond.instantiable "RingBridges" 4 ∈ lw_tbl := List.mem_of_getElem? (i := 48) rfl
set_option maxRecDepth 1000000 in
theorem lw_in1 : Cond.instantiable "RingBridges$Ring" 10 ∈ lw_tbl := List.mem_of_getElem? (i := 57) rfl
set_option maxRecDepth 1000000 in
theorem lw_in2 : Cond.instantiable "RingBridges$Node" 7 ∈ lw_tbl := List.mem_of_getElem? (i := 64) rfl
set_option maxRecDepth 1000000 in
theorem lw_in3 : Cond.instantiable "RingBridges$Frame" 11 ∈ lw_tbl := List.mem_of_getElem? (i := 71) rfl
set_option maxRecDepth 1000000 in
theorem lw_in4 : Cond.instantiable "RingBridges$Signal" 8 ∈ lw_tbl := List.mem_of_getElem? (i := 152) rfl
set_option maxRecDepth 1000000 in
theorem lw_in5 : Cond.instantiable "RingBridges$Link" 17 ∈ lw_tbl := List.mem_of_getElem? (i := 241) rfl
set_option maxRecDepth 1000000 in
theorem lw_in6 : Cond.instantiable "RingBridges$ByteRow" 4 ∈ lw_tbl := List.mem_of_getElem? (i := 247) rfl
set_option maxRecDepth 1000000 in
theorem lw_in7 : Cond.instantiable "RingBridgesModel" 55 ∈ lw_tbl := List.mem_of_getElem? (i := 681) rfl
set_option maxRecDepth 1000000 in
theorem lw_ai : Cond.arrayClass .int ∈ lw_tbl := List.mem_of_getElem? (i := 150) rfl
set_option maxRecDepth 1000000 in
theorem lw_az : Cond.arrayClass .boolean ∈ lw_tbl := List.mem_of_getElem? (i := 852) rfl
set_option maxRecDepth 1000000 in
theorem lw_a2 : Cond.arrayOver (.object "RingBridges$Ring") ∈ lw_tbl := List.mem_of_getElem? (i := 56) rfl
set_option maxRecDepth 1000000 in
theorem lw_a3 : Cond.arrayOver (.object "RingBridges$Node") ∈ lw_tbl := List.mem_of_getElem? (i := 63) rfl
set_option maxRecDepth 1000000 in
theorem lw_a4 : Cond.arrayOver (.object "RingBridges$Frame") ∈ lw_tbl := List.mem_of_getElem? (i := 70) rfl
set_option maxRecDepth 1000000 in
theorem lw_a5 : Cond.arrayOver (.object "RingBridges$Link") ∈ lw_tbl := List.mem_of_getElem? (i := 240) rfl
set_option maxRecDepth 1000000 in
theorem lw_a6 : Cond.arrayOver (.array .int) ∈ lw_tbl := List.mem_of_getElem? (i := 336) rfl
set_option maxRecDepth 1000000 in
theorem lw_x1 : Cond.methodLinkNest "RingBridges$Node" 17 ⟨"RingBridges$Frame", "<init>", "()V"⟩ "RingBridges" ∈ lw_tbl := List.mem_of_getElem? (i := 72) rfl
set_option maxRecDepth 1000000 in
theorem lw_x2 : Cond.methodLinkNest "RingBridges$Signal" 11 ⟨"RingBridges$Frame", "<init>", "()V"⟩ "RingBridges" ∈ lw_tbl := List.mem_of_getElem? (i := 158) rfl
set_option maxRecDepth 1000000 in
theorem lw_mlC : Cond.methodLink R_law 9 (rb_y 0) ∈ lw_tbl := List.mem_of_getElem? (i := 49) rfl
set_option maxRecDepth 1000000 in
theorem lw_miC : Cond.instanceMethod (rb_y 0) ∈ lw_tbl := List.mem_of_getElem? (i := 50) rfl
set_option maxRecDepth 1000000 in
theorem lw_mlR : Cond.methodLink R_law 12 (rb_y 43) ∈ lw_tbl := List.mem_of_getElem? (i := 682) rfl
set_option maxRecDepth 1000000 in
theorem lw_miR : Cond.instanceMethod (rb_y 43) ∈ lw_tbl := List.mem_of_getElem? (i := 683) rfl
set_option maxRecDepth 1000000 in
theorem lw_clC : Cond.classLink R_law 7 "RingBridges" ∈ lw_tbl := List.mem_of_getElem? (i := 47) rfl
set_option maxRecDepth 1000000 in
theorem lw_clR : Cond.classLink R_law 10 "RingBridgesModel" ∈ lw_tbl := List.mem_of_getElem? (i := 680) rfl
section LWS
variable {s : State} {args : Array Value}
theorem lw_cell (hts : ∀ w ∈ lw_tbl, w.before args s = true) : ∃ D : va_G, ∀ (ci : Nat) (q : vw_C), rb_cl[ci]? = some q → u_Kn s q.1 q.2.1 q.2.2 (D.1 ci) (D.2 ci) := by
  have h : ∀ ci : Nat, ∃ (cC : ClassId) (iS : Nat → Nat), ∀ q : vw_C, rb_cl[ci]? = some q → u_Kn s q.1 q.2.1 q.2.2 cC iS := by
    intro ci
    cases hq : rb_cl[ci]? with
    | none => exact ⟨0, fun _ => 0, fun q h9 => by cases h9⟩
    | some q =>
      have hin : ∀ w ∈ u_ws q.1 q.2.1 q.2.2, w ∈ lw_tbl := fun w hw => rb_ws_tbl (rb_lay_in hq w hw)
      have hi : Cond.instantiable q.1 q.2.2 ∈ lw_tbl := by
        rcases rb_cl_cases hq with ⟨-, rfl⟩ | ⟨-, rfl⟩ | ⟨-, rfl⟩ | ⟨-, rfl⟩ | ⟨-, rfl⟩ | ⟨-, rfl⟩ | ⟨-, rfl⟩ | ⟨-, rfl⟩
        · exact lw_in0
        · exact lw_in1
        · exact lw_in2
        · exact lw_in3
        · exact lw_in4
        · exact lw_in5
        · exact lw_in6
        · exact lw_in7
      obtain ⟨cC, iS, hu⟩ := u_known hts hin (hts _ hi)
      exact ⟨cC, iS, fun q' h9 => by cases h9; exact hu⟩
  refine ⟨(fun ci => Classical.choose (h ci), fun ci => Classical.choose (Classical.choose_spec (h ci))), fun ci q hq => ?_⟩
  exact Classical.choose_spec (Classical.choose_spec (h ci)) q hq
theorem lw_arr (hts : ∀ w ∈ lw_tbl, w.before args s = true) : ∃ cA : Nat → ClassId, ∀ t, t < 7 → ArrOfT s (cA t) (rb_aty t) ∧ va_RA s (cA t) (rb_aty t) := by
  have prim : ∀ ty : FieldType, Cond.arrayClass ty ∈ lw_tbl → (∀ cX, va_RA s cX ty ↔ s.vm.findClass ("[" ++ ty.toString) = some cX) → ∃ cX : ClassId, ArrOfT s cX ty ∧ va_RA s cX ty := by
    intro ty hw hra
    obtain ⟨cX, k, comp, h1, h2, h3⟩ := Cond.arrayClass_spec (hts _ hw)
    exact ⟨cX, fun n z => ⟨fun k h => (by cases h), k, h2, comp, h3⟩, (hra cX).mpr h1⟩
  have obj : ∀ C : String, Cond.arrayOver (.object C) ∈ lw_tbl → ∃ cX : ClassId, ArrOfT s cX (.object C) ∧ va_RA s cX (.object C) := by
    intro C hw
    obtain ⟨comp, cX, k, h1, -, h2, h3, h4⟩ := Cond.arrayOver_spec (hts _ hw)
    exact ⟨cX, fun n z => ⟨fun k h => (by cases h), k, h2, comp, h3⟩, k, comp, h2, h3, h1, h4⟩
  have h : ∀ t, ∃ cX : ClassId, t < 7 → ArrOfT s cX (rb_aty t) ∧ va_RA s cX (rb_aty t) := by
    intro t
    match t with
    | 0 => obtain ⟨cX, h9⟩ := prim .int lw_ai (fun _ => Iff.rfl); exact ⟨cX, fun _ => h9⟩
    | 1 => obtain ⟨cX, h9⟩ := prim .boolean lw_az (fun _ => Iff.rfl); exact ⟨cX, fun _ => h9⟩
    | 2 => obtain ⟨cX, h9⟩ := obj "RingBridges$Ring" lw_a2; exact ⟨cX, fun _ => h9⟩
    | 3 => obtain ⟨cX, h9⟩ := obj "RingBridges$Node" lw_a3; exact ⟨cX, fun _ => h9⟩
    | 4 => obtain ⟨cX, h9⟩ := obj "RingBridges$Frame" lw_a4; exact ⟨cX, fun _ => h9⟩
    | 5 => obtain ⟨cX, h9⟩ := obj "RingBridges$Link" lw_a5; exact ⟨cX, fun _ => h9⟩
    | 6 =>
      obtain ⟨comp, cX, k, h1, -, h2, h3, h4⟩ := arrayOverA_spec (hts _ lw_a6)
      exact ⟨cX, fun _ => ⟨fun n z => ⟨fun k h => (by cases h), k, h2, comp, h3⟩, h4⟩⟩
    | n + 7 => exact ⟨0, fun h9 => absurd h9 (by omega)⟩
  exact ⟨fun t => Classical.choose (h t), fun t ht => Classical.choose_spec (h t) ht⟩
theorem lw_K (hts : ∀ w ∈ lw_tbl, w.before args s = true) : ∃ (D : va_G) (cA : Nat → ClassId), va_K D rb_cl (rb_tys cA) s := by
  obtain ⟨D, hD⟩ := lw_cell hts
  obtain ⟨cA, hA⟩ := lw_arr hts
  refine ⟨D, cA, hD, fun k q hq => ?_⟩
  have hk : k < 7 := by
    have := (List.getElem?_eq_some_iff.mp hq).1
    simpa [rb_tys] using this
  rw [rb_tys_at cA hk] at hq
  cases hq
  exact hA k hk
theorem lw_E (hts : ∀ w ∈ lw_tbl, w.before args s = true) : rb_E s := by
  refine ⟨fun C hC => ?_, hts _ lw_a6, fun w hw => ?_⟩
  · have : C = "RingBridges$Ring" ∨ C = "RingBridges$Node" ∨ C = "RingBridges$Frame" ∨ C = "RingBridges$Link" := by simpa [rb_aos] using hC
    rcases this with rfl | rfl | rfl | rfl
    · exact va_AO.of (hts _ lw_a2)
    · exact va_AO.of (hts _ lw_a3)
    · exact va_AO.of (hts _ lw_a4)
    · exact va_AO.of (hts _ lw_a5)
  · have hc : w = .methodLinkNest "RingBridges$Node" 17 ⟨"RingBridges$Frame", "<init>", "()V"⟩ "RingBridges" ∨ w = .methodLinkNest "RingBridges$Signal" 11 ⟨"RingBridges$Frame", "<init>", "()V"⟩ "RingBridges" := by simpa [rb_wN] using hw
    rcases hc with rfl | rfl
    · exact va_Nw.of rfl (hts _ lw_x1)
    · exact va_Nw.of rfl (hts _ lw_x2)
end LWS
