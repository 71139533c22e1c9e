section RBZ
variable {p : Program} {l : Launch} {e : Env} {R : Room} {s : State} {m : MethodId} {args : Array Value} {below : List Frame} {meth : Method} {c : Code} {H : Heap} {locs : List Loc} {cells slots : Nat} {Q : State → Prop}
variable {D : va_G} {cA : Nat → ClassId} {k pc : Nat} {arr : Array Slot} {cc : ByteArray} {r : List Value} {ws : va_W}
theorem rb_aldW (hx : p.tables.exec = Jvm.exec) (hb : c.code = cc) {tys : List (ClassId × FieldType)} (hK : va_K D rb_cl tys s) (hP : va_P D rb_cl ws H) {q0 t0 ad n : Nat} {cX : ClassId} {ty : FieldType} {f : Nat → Option Nat} (ha : ws[q0]? = some (ad, .inl (cX, n, .inr (.inr (.inr (.inr f)))))) (ht : tys[t0]? = some (cX, ty)) (hty : ty.isReference = true) {i : Int32} (hin : vp_in i n) (hd : decode cc pc = .ok (.aaload, 1))
    (kk : W p l e R s m args below meth c H locs cells slots Q (F0 m (pc + 1) arr (va_rf (f i.toNatClampNeg) :: r))) : W p l e R s m args below meth c H locs cells slots Q (F0 m pc arr (.int i :: .ref ad :: r)) := by
  have hlt : i.toNatClampNeg < n := Nat.not_le.mp fun q => hin (Or.inr q)
  refine W.aald (v := va_rf (f i.toNatClampNeg)) (ty := ty) hx hb (hP q0 _ ha) ((hK.2 t0 _ ht).1 n (fun j => va_rf (f j))) hty (fun q => by cases q) ?_ ?_ rfl rfl hd kk
  · show ¬ (i < 0 ∨ (arrV _ _ _).slots.size ≤ _)
    rw [arrV_size]
    exact hin
  · show (arrV _ _ _).slots[_]? = _
    rw [arrV_read _ _ hlt]
theorem rb_aty_ref {t : Nat} (h2 : 2 ≤ t) (h7 : t < 7) : (rb_aty t).isReference = true := by
  have : t = 2 ∨ t = 3 ∨ t = 4 ∨ t = 5 ∨ t = 6 := by omega
  rcases this with rfl | rfl | rfl | rfl | rfl <;> rfl
theorem rb_nok_spec {idx a : Nat} (hm : rb_nok k idx a = true) : ∃ q : vw_C, rb_cl[a]? = some q ∧ Cond.classLink (rb_on k) idx q.1 ∈ rb_ws ∧ Cond.instantiable q.1 q.2.2 ∈ rb_ws ∧ Cond.initialized q.1 ∈ rb_ws := by
  unfold rb_nok at hm
  split at hm
  · rename_i q hq
    rw [Bool.and_eq_true, Bool.and_eq_true] at hm
    exact ⟨q, hq, rb_hasO_mem hm.1.1, rb_hasO_mem hm.1.2, rb_hasO_mem hm.2⟩
  · cases hm
theorem rb_aok_spec {idx a : Nat} (hm : rb_aok k idx a = true) : ∃ C : String, Cond.classLink (rb_on k) idx C ∈ rb_ws ∧ rb_aty a = .object C ∧ a < 7 ∧ C ∈ rb_aos := by
  unfold rb_aok at hm
  split at hm
  · split at hm
    · rename_i q hq
      rw [Bool.and_eq_true, Bool.and_eq_true, Bool.and_eq_true] at hm
      exact ⟨q.1, rb_hasO_mem hm.1.1.1, of_decide_eq_true hm.1.1.2, rb_blt hm.1.2, of_decide_eq_true hm.2⟩
    · cases hm
  · cases hm
theorem rb_nwa_ok {t : Jvm.ClassFile.ArrayType} {a b' : Nat} {kc : Int32} (hm : rb_more k pc (.newarray t) a b' kc = true) : a < 7 ∧ newarray.typeOf t = rb_aty a ∧ Cond.arrayClass (newarray.typeOf t) ∈ rb_ws := by
  cases t <;> simp only [rb_more, Bool.and_eq_true, reduceCtorEq] at hm
  · have e := Nat.eq_of_beq_eq_true hm.1
    subst e
    exact ⟨by decide, rfl, rb_hasO_mem hm.2⟩
  · have e := Nat.eq_of_beq_eq_true hm.1
    subst e
    exact ⟨by decide, rfl, rb_hasO_mem hm.2⟩
theorem rb_cell0 {t : Jvm.ClassFile.ArrayType} {a b' n : Nat} {kc : Int32} {cX : ClassId} (hm : rb_more k pc (.newarray t) a b' kc = true) : vp_cell cX (n, .inl (fun _ => 0)) = arrV cX n (fun _ => defaultValue (rb_aty a)) := by
  cases t <;> simp only [rb_more, Bool.and_eq_true, reduceCtorEq] at hm
  · have e := Nat.eq_of_beq_eq_true hm.1
    subst e
    rfl
  · have e := Nat.eq_of_beq_eq_true hm.1
    subst e
    rfl
theorem rb_bytes {t : Jvm.ClassFile.ArrayType} {a b' n : Nat} {kc : Int32} (hm : rb_more k pc (.newarray t) a b' kc = true) (hn : n ≤ 1000) : n * componentBytes (rb_aty a) ≤ 536870912 := by
  cases t <;> simp only [rb_more, Bool.and_eq_true, reduceCtorEq] at hm
  · have e := Nat.eq_of_beq_eq_true hm.1
    subst e
    show n * 1 ≤ 536870912
    omega
  · have e := Nat.eq_of_beq_eq_true hm.1
    subst e
    show n * 4 ≤ 536870912
    omega
theorem rb_RA {U : State} {c1 c2 : ClassId} {ty : FieldType} (h1 : va_RA U c1 ty) (h2 : va_RA U c2 ty) : c1 = c2 := by
  cases ty with
  | object C =>
    obtain ⟨_, _, -, -, -, e1⟩ := h1
    obtain ⟨_, _, -, -, -, e2⟩ := h2
    exact Option.some.inj (e1.symm.trans e2)
  | _ => exact Option.some.inj (Eq.trans (Eq.symm h1) h2)
theorem rb_sameA {a : Nat} {cX : ClassId} (hK : va_K D rb_cl (rb_tys cA) s) (hK1 : va_K D rb_cl (rb_tys cA ++ [(cX, rb_aty a)]) s) (ha : a < 7) : cX = cA a := by
  have h1 := (hK.2 a _ (rb_tys_at cA ha)).2
  have h2 := (hK1.2 (rb_tys cA).length (cX, rb_aty a) (by rw [List.getElem?_append_right (Nat.le_refl _), Nat.sub_self]; rfl)).2
  exact rb_RA h2 h1
theorem rb_oi_spec {idx a b' : Nat} {kc : Int32} (h9 : a = 999) (hm : rb_more k pc (.invokespecial idx) a b' kc = true) : Cond.methodLink (rb_on k) idx Lib.objectInit ∈ rb_ws := by
  subst h9
  simp only [rb_more, Bool.or_eq_true, Bool.and_eq_true] at hm
  rcases hm with hm | hm
  · exact rb_hasM_mem hm.2
  · have := hm.1.1.1.1.2
    unfold rb_cok at this
    simp only [Bool.and_eq_true] at this
    have h8 := this.1.1.1.1.1
    have : 999 < rb_nm := rb_blt h8
    exact absurd this (by decide)
end RBZ
