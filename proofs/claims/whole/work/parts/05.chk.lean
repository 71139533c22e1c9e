def rb_ilen (i : Jvm.ClassFile.Instr) : Nat := match i with
  | .bipush _ => 2
  | .sipush _ => 3
  | .iload _ => 2
  | .aload _ => 2
  | .istore _ => 2
  | .astore _ => 2
  | .iinc _ _ => 3
  | .goto _ => 3
  | .if_icmp _ _ => 3
  | .ifCond _ _ => 3
  | .ifnull _ => 3
  | .ifnonnull _ => 3
  | .getfield _ => 3
  | .putfield _ => 3
  | .new _ => 3
  | .anewarray _ => 3
  | .newarray _ => 2
  | .multianewarray _ _ => 4
  | .invokestatic _ => 3
  | .invokevirtual _ => 3
  | .invokespecial _ => 3
  | _ => 1
def rb_isw (i : Jvm.ClassFile.Instr) : Bool := match i with
  | .tableswitch _ _ _ _ => true
  | .lookupswitch _ _ => true
  | _ => false
def rb_hasO (w : Jvm.Cond) : Bool := rb_wO.any (fun x => decide (x = w))
def rb_hasIn (L : List (List Jvm.Cond)) (c : Nat) (w : Jvm.Cond) : Bool := (L.getD c []).any (fun x => decide (x = w))
theorem rb_hasIn_mem {L : List (List Jvm.Cond)} {c : Nat} {w : Jvm.Cond} (h : rb_hasIn L c w = true) : w ∈ L.flatten := by
  obtain ⟨x, hx, he⟩ := List.any_eq_true.mp h
  have := of_decide_eq_true he
  subst this
  by_cases hc : c < L.length
  · refine List.mem_flatten.mpr ⟨L.getD c [], ?_, hx⟩
    rw [List.getD_eq_getElem?_getD, List.getElem?_eq_getElem hc]
    exact List.getElem_mem hc
  · rw [List.getD_eq_getElem?_getD, List.getElem?_eq_none (by omega)] at hx
    cases hx
theorem rb_hasO_mem {w : Jvm.Cond} (h : rb_hasO w = true) : w ∈ rb_ws := by
  obtain ⟨x, hx, he⟩ := List.any_eq_true.mp h
  have := of_decide_eq_true he
  subst this
  exact List.mem_append_right _ (List.mem_append_right _ (List.mem_append_right _ (List.mem_append_right _ (List.mem_append_left _ hx))))
theorem rb_hasF_mem {c : Nat} {w : Jvm.Cond} (h : rb_hasIn rb_wF c w = true) : w ∈ rb_ws := List.mem_append_right _ (List.mem_append_left _ (rb_hasIn_mem h))
theorem rb_hasM_mem {c : Nat} {w : Jvm.Cond} (h : rb_hasIn rb_wM c w = true) : w ∈ rb_ws := List.mem_append_right _ (List.mem_append_right _ (List.mem_append_left _ (rb_hasIn_mem h)))
theorem rb_hasV_mem {c : Nat} {w : Jvm.Cond} (h : rb_hasIn rb_wV c w = true) : w ∈ rb_ws := List.mem_append_right _ (List.mem_append_right _ (List.mem_append_right _ (List.mem_append_left _ (rb_hasIn_mem h))))
def rb_hasN (w : Jvm.Cond) : Bool := rb_wN.any (fun x => decide (x = w))
theorem rb_hasN_mem {w : Jvm.Cond} (h : rb_hasN w = true) : w ∈ rb_wN := by
  obtain ⟨x, hx, he⟩ := List.any_eq_true.mp h
  have := of_decide_eq_true he
  subst this
  exact hx
def rb_fok (k idx a b : Nat) : Bool := match rb_cl[a]? with
  | some q => Nat.blt b q.2.2 && decide ((q.2.1 b).1 = q.1) && rb_hasIn rb_wF (rb_mc k) (.fieldLink (rb_on k) idx q.1 (q.2.1 b).2.1 (q.2.1 b).2.2.1)
  | none => false
def rb_pok (k a b : Nat) : Bool := match rb_cl[a]? with
  | some q => !(q.2.1 b).2.2.2 || (decide ((rb_y k).name = "<init>") && decide (q.1 = rb_on k))
  | none => false
def rb_nok (k idx a : Nat) : Bool := match rb_cl[a]? with
  | some q => rb_hasO (.classLink (rb_on k) idx q.1) && rb_hasO (.instantiable q.1 q.2.2) && rb_hasO (.initialized q.1)
  | none => false
def rb_aok (k idx a : Nat) : Bool := match rb_el a with
  | some ci => match rb_cl[ci]? with
    | some q => rb_hasO (.classLink (rb_on k) idx q.1) && decide (rb_aty a = .object q.1) && Nat.blt a 7 && decide (q.1 ∈ rb_aos)
    | none => false
  | none => false
def rb_cok (a : Nat) (np : Nat) : Bool := Nat.blt a rb_nm && rb_hasO (.initialized (rb_y a).cls) && decide ((rb_y a).cls ≠ "java/lang/invoke/MethodHandle") && decide ((rb_y a).cls ≠ "java/lang/invoke/VarHandle") && decide ((parseMethodDescriptor (rb_y a).desc).map (fun d => d.parameters.length) = some np) && Nat.blt (rb_ml a) 21
def rb_lok (k idx a : Nat) : Bool := rb_hasIn rb_wM (rb_mc k) (.methodLink (rb_on k) idx (rb_y a))
def rb_vok (a : Nat) : Bool := match rb_cl[rb_mc a]? with
  | some q => decide ((rb_y a).cls = q.1) && rb_hasIn rb_wV (rb_mc a) (.selects q.1 (rb_y a) (rb_y a)) && rb_hasIn rb_wV (rb_mc a) (.instanceMethod (rb_y a))
  | none => false
def rb_more (k pc : Nat) (i : Jvm.ClassFile.Instr) (a b : Nat) (kc : Int32) : Bool := match i with
  | .iconst n => decide (Int32.ofInt n = kc)
  | .bipush n => decide ((Int8.ofInt n).toInt32 = kc)
  | .sipush n => decide ((Int16.ofInt n).toInt32 = kc)
  | .iinc _ n => decide (Int32.ofInt n = kc)
  | .goto o => decide ((pc : Int) + o = (a : Int))
  | .if_icmp _ o => decide ((pc : Int) + o = (a : Int))
  | .ifCond _ o => decide ((pc : Int) + o = (a : Int))
  | .ifnull o => decide ((pc : Int) + o = (a : Int))
  | .ifnonnull o => decide ((pc : Int) + o = (a : Int))
  | .getfield idx => rb_fok k idx a b
  | .putfield idx => rb_fok k idx a b && rb_pok k a b
  | .new idx => rb_nok k idx a
  | .newarray t => match t with
    | .int => Nat.beq a 0 && rb_hasO (.arrayClass .int)
    | .boolean => Nat.beq a 1 && rb_hasO (.arrayClass .boolean)
    | _ => false
  | .anewarray idx => rb_aok k idx a
  | .multianewarray idx n => Nat.beq n 2 && rb_hasO (.classLink (rb_on k) idx "[[I")
  | .invokestatic idx => rb_cok a b && rb_lok k idx a && decide ((rb_y a).cls = rb_on k) && rb_hasIn rb_wV (rb_mc a) (.static (rb_y a))
  | .invokevirtual idx => Nat.blt 0 b && rb_cok a (b - 1) && rb_lok k idx a && rb_vok a
  | .invokespecial idx => (Nat.beq a 999 && rb_hasIn rb_wM (rb_mc k) (.methodLink (rb_on k) idx Lib.objectInit)) || (Nat.blt 0 b && rb_cok a (b - 1) && ((!decide (kc = 1) && rb_lok k idx a) || (decide (kc = 1) && rb_hasN (.methodLinkNest (rb_on k) idx (rb_y a) "RingBridges"))) && decide ((rb_y a).name = "<init>") && rb_hasIn rb_wV (rb_mc a) (.instanceMethod (rb_y a)) && decide (rb_rt a = none))
  | .tableswitch d lo hi os => decide ((pc : Int) + d = (b : Int)) && decide ((rb_swt a).length = os.size) && decide (hi + 1 = lo + os.size) && (List.range os.size).all (fun j => match (rb_swt a)[j]?, os[j]? with
    | some q, some o => decide (q.1.toInt = lo + j) && decide ((pc : Int) + o = (q.2 : Int))
    | _, _ => false)
  | .lookupswitch d ps => decide ((pc : Int) + d = (b : Int)) && (ps.toList.zip (ps.toList.drop 1)).all (fun q => decide (q.1.1 < q.2.1)) && decide (ps.toList = (rb_swt a).map (fun q => (q.1.toInt, (q.2 : Int) - pc)))
  | _ => true
def rb_chk (k pc : Nat) (q : rb_I) : Bool := (match decode (rb_b k) pc with
  | .ok x => decide (x.1 = q.1) && (rb_isw q.1 || (Nat.beq x.2 (rb_ilen q.1) && Nat.beq q.2.1 (pc + x.2)))
  | .error _ => false) && rb_more k pc q.1 q.2.2.1 q.2.2.2.1 q.2.2.2.2
theorem rb_chk_dec {k pc : Nat} {q : rb_I} (h : rb_chk k pc q = true) (hs : rb_isw q.1 = false) : decode (rb_b k) pc = .ok (q.1, rb_ilen q.1) ∧ q.2.1 = pc + rb_ilen q.1 ∧ rb_more k pc q.1 q.2.2.1 q.2.2.2.1 q.2.2.2.2 = true := by
  unfold rb_chk at h
  rw [Bool.and_eq_true] at h
  obtain ⟨h1, h2⟩ := h
  cases hd : decode (rb_b k) pc with
  | error x => rw [hd] at h1; cases h1
  | ok x =>
    rw [hd] at h1
    simp only [hs, Bool.false_or, Bool.and_eq_true, decide_eq_true_eq] at h1
    obtain ⟨e1, e2, e3⟩ := h1
    have f2 := Nat.eq_of_beq_eq_true e2
    have f3 := Nat.eq_of_beq_eq_true e3
    clear e2 e3
    obtain ⟨x1, x2⟩ := x
    dsimp only at e1 f2 f3
    subst e1
    subst f2
    exact ⟨rfl, f3, h2⟩
theorem rb_chk_sw {k pc : Nat} {q : rb_I} (h : rb_chk k pc q = true) : ∃ len, decode (rb_b k) pc = .ok (q.1, len) ∧ rb_more k pc q.1 q.2.2.1 q.2.2.2.1 q.2.2.2.2 = true := by
  unfold rb_chk at h
  rw [Bool.and_eq_true] at h
  obtain ⟨h1, h2⟩ := h
  cases hd : decode (rb_b k) pc with
  | error x => rw [hd] at h1; cases h1
  | ok x =>
    rw [hd] at h1
    simp only [Bool.and_eq_true, decide_eq_true_eq] at h1
    obtain ⟨x1, x2⟩ := x
    obtain ⟨e1, -⟩ := h1
    dsimp only at e1
    subst e1
    exact ⟨x2, rfl, h2⟩
