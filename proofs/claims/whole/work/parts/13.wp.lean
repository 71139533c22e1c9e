/-! runs, goal first -/
def rb_wp (d k pc : Nat) (ls st : List Value) (h : rb_H) (Q : Option Value → rb_H → Prop) : Prop := ∃ (n : Nat) (r : Option Value) (h' : rb_H), rb_ex (rb_rel false d) false k n pc ls st h r h' ∧ Q r h'
def rb_cw (d k : Nat) (as : List Value) (h : rb_H) (Q : Option Value → rb_H → Prop) : Prop := ∃ (r : Option Value) (h' : rb_H), rb_rel false d k as h r h' ∧ Q r h'
section RWP
variable {d k pc nx a b : Nat} {ls st : List Value} {h : rb_H} {Q : Option Value → rb_H → Prop} {i : Jvm.ClassFile.Instr} {kc : Int32}
theorem rw_step {pc' : Nat} {ls' st' : List Value} {h' : rb_H} (hi : rb_ins k pc = some (i, nx, a, b, kc)) (hs : rb_step k false i nx a b kc ls st h = some (.inl (pc', ls', st', h'))) (kk : rb_wp d k pc' ls' st' h' Q) : rb_wp d k pc ls st h Q := by
  obtain ⟨n, r, h1, hx, hq⟩ := kk
  refine ⟨n + 1, r, h1, ?_, hq⟩
  unfold rb_ex
  rw [hi]
  dsimp only
  rw [hs]
  exact hx
theorem rw_call {m : Nat} {as rest : List Value} (hi : rb_ins k pc = some (i, nx, a, b, kc)) (hv : rb_isinv i = true) (hs : rb_step k false i nx a b kc ls st h = some (.inr (.inl (m, as, rest)))) (kk : rb_cw d m as h (fun v h1 => rb_wp d k nx ls (v.toList ++ rest) h1 Q)) : rb_wp d k pc ls st h Q := by
  obtain ⟨v, h1, hc, n, r, h2, hx, hq⟩ := kk
  refine ⟨n + 1, r, h2, ?_, hq⟩
  unfold rb_ex
  rw [hi]
  dsimp only
  rw [hs]
  exact ⟨hv, v, h1, hc, hx⟩
theorem rw_ret {v : Option Value} (hi : rb_ins k pc = some (i, nx, a, b, kc)) (hv : rb_isret i = true) (hs : rb_step k false i nx a b kc ls st h = some (.inr (.inr v))) (kk : Q v h) : rb_wp d k pc ls st h Q := by
  refine ⟨1, v, h, ?_, kk⟩
  unfold rb_ex
  rw [hi]
  dsimp only
  rw [hs]
  exact ⟨hv, rfl, rfl⟩
theorem rw_ent {as ls : List Value} (h1 : as.all rb_ok = true) (h2 : Nat.ble as.length (rb_ml k) = true) (hl : rb_ent k as = ls) (kk : rb_wp d k 0 ls [] h Q) : rb_cw (d + 1) k as h Q := by
  subst hl
  obtain ⟨n, r, h1', hx, hq⟩ := kk
  exact ⟨r, h1', ⟨h1, Nat.le_of_ble_eq_true h2, n, hx⟩, hq⟩
theorem rw_mono {Q' : Option Value → rb_H → Prop} {as : List Value} (hc : rb_cw d k as h Q) (hq : ∀ r h', Q r h' → Q' r h') : rb_cw d k as h Q' := by
  obtain ⟨r, h', h1, h2⟩ := hc
  exact ⟨r, h', h1, hq r h' h2⟩
theorem rw_icmp {cd : Jvm.ClassFile.Cond} {o : Int} {x y : Int32} {r : List Value} (hi : rb_ins k pc = some (.if_icmp cd o, nx, a, b, kc)) (kt : rb_cmp cd x y = true → rb_wp d k a ls r h Q) (kf : rb_cmp cd x y = false → rb_wp d k nx ls r h Q) : rb_wp d k pc ls (.int y :: .int x :: r) h Q := by
  cases hc : rb_cmp cd x y with
  | true => exact rw_step hi (by simp only [rb_step, hc]; rfl) (kt hc)
  | false => exact rw_step hi (by simp only [rb_step, hc]; rfl) (kf hc)
theorem rw_if {cd : Jvm.ClassFile.Cond} {o : Int} {x : Int32} {r : List Value} (hi : rb_ins k pc = some (.ifCond cd o, nx, a, b, kc)) (kt : rb_cmp cd x 0 = true → rb_wp d k a ls r h Q) (kf : rb_cmp cd x 0 = false → rb_wp d k nx ls r h Q) : rb_wp d k pc ls (.int x :: r) h Q := by
  cases hc : rb_cmp cd x 0 with
  | true => exact rw_step hi (by simp only [rb_step, hc]; rfl) (kt hc)
  | false => exact rw_step hi (by simp only [rb_step, hc]; rfl) (kf hc)
theorem rw_iald {x : Int32} {ad n : Nat} {r : List Value} {f : Nat → Int32} (hi : rb_ins k pc = some (.iaload, nx, a, b, kc)) (he : h.2.2 ad = .inl (0, n, .inl f)) (hin : vp_in x n) (kk : rb_wp d k nx ls (.int (f x.toNatClampNeg) :: r) h Q) : rb_wp d k pc ls (.int x :: .ref ad :: r) h Q := by
  refine rw_step hi ?_ kk
  have ho : rb_out x n = false := decide_eq_false hin
  simp only [rb_step, rb_ald, he, ho]
  rfl
theorem rw_bald {x : Int32} {ad n : Nat} {r : List Value} {f : Nat → Int32} (hi : rb_ins k pc = some (.baload, nx, a, b, kc)) (he : h.2.2 ad = .inl (1, n, .inl f)) (hin : vp_in x n) (kk : rb_wp d k nx ls (.int (f x.toNatClampNeg) :: r) h Q) : rb_wp d k pc ls (.int x :: .ref ad :: r) h Q := by
  refine rw_step hi ?_ kk
  have ho : rb_out x n = false := decide_eq_false hin
  simp only [rb_step, rb_ald, he, ho]
  rfl
theorem rw_iast {x v : Int32} {ad n : Nat} {r : List Value} {f : Nat → Int32} (hi : rb_ins k pc = some (.iastore, nx, a, b, kc)) (he : h.2.2 ad = .inl (0, n, .inl f)) (hin : vp_in x n) (kk : rb_wp d k nx ls r (h.1, h.2.1, va_up h.2.2 ad (.inl (0, n, .inl (upd f x.toNatClampNeg v)))) Q) : rb_wp d k pc ls (.int v :: .int x :: .ref ad :: r) h Q := by
  refine rw_step hi ?_ kk
  have ho : rb_out x n = false := decide_eq_false hin
  simp only [rb_step, rb_ast, he, ho]
  rfl
theorem rw_bast {x v : Int32} {ad n : Nat} {r : List Value} {f : Nat → Int32} (hi : rb_ins k pc = some (.bastore, nx, a, b, kc)) (hv : rb_fit .boolean (.int v) = true) (he : h.2.2 ad = .inl (1, n, .inl f)) (hin : vp_in x n) (kk : rb_wp d k nx ls r (h.1, h.2.1, va_up h.2.2 ad (.inl (1, n, .inl (upd f x.toNatClampNeg v)))) Q) : rb_wp d k pc ls (.int v :: .int x :: .ref ad :: r) h Q := by
  refine rw_step hi ?_ kk
  have ho : rb_out x n = false := decide_eq_false hin
  simp only [rb_step, rb_ast, he, ho, hv]
  rfl
theorem rw_aald {x : Int32} {ad n t : Nat} {r : List Value} {f : Nat → Option Nat} (hi : rb_ins k pc = some (.aaload, nx, a, b, kc)) (he : h.2.2 ad = .inl (t, n, .inr (.inr (.inr (.inr f))))) (ht : (Nat.ble 2 t && Nat.blt t 7) = true) (hin : vp_in x n) (kk : rb_wp d k nx ls (va_rf (f x.toNatClampNeg) :: r) h Q) : rb_wp d k pc ls (.int x :: .ref ad :: r) h Q := by
  refine rw_step hi ?_ kk
  have ho : rb_out x n = false := decide_eq_false hin
  simp only [rb_step, rb_rald, he, ho, ht]
  rfl
theorem rw_get {idx : Nat} {ad : Nat} {r fs : List Value} {v : Value} (hi : rb_ins k pc = some (.getfield idx, nx, a, b, kc)) (he : h.2.2 ad = .inr (a, fs)) (hv : fs[b]? = some v) (kk : rb_wp d k nx ls (v :: r) h Q) : rb_wp d k pc ls (.ref ad :: r) h Q := by
  refine rw_step hi ?_ kk
  have hc : Nat.beq a a = true := Nat.beq_refl a
  simp only [rb_step, rb_get, he, hc, hv]
  rfl
theorem rw_put {idx : Nat} {ad : Nat} {r fs : List Value} {v : Value} (hi : rb_ins k pc = some (.putfield idx, nx, a, b, kc)) (he : h.2.2 ad = .inr (a, fs)) (hf : rb_fit (rb_tt a b) v = true) (hb : Nat.blt b fs.length = true) (kk : rb_wp d k nx ls r (h.1, h.2.1, va_up h.2.2 ad (.inr (a, fs.set b v))) Q) : rb_wp d k pc ls (v :: .ref ad :: r) h Q := by
  refine rw_step hi ?_ kk
  have hc : Nat.beq a a = true := Nat.beq_refl a
  simp only [rb_step, rb_put, he, hc, hf, hb]
  rfl
end RWP
/-! the same machine as a function, for runs that the kernel does -/
def rb_run (C : Nat → List Value → rb_H → Option (Option Value × rb_H)) (al : Bool) (k : Nat) : Nat → Nat → List Value → List Value → rb_H → Option (Option Value × rb_H)
  | 0, _, _, _, _ => none
  | n + 1, pc, ls, st, h => match rb_ins k pc with
    | none => none
    | some q => match rb_step k al q.1 q.2.1 q.2.2.1 q.2.2.2.1 q.2.2.2.2 ls st h with
      | none => none
      | some (.inl x) => rb_run C al k n x.1 x.2.1 x.2.2.1 x.2.2.2
      | some (.inr (.inl x)) => match rb_isinv q.1 with
        | true => match C x.1 x.2.1 h with
          | none => none
          | some y => rb_run C al k n q.2.1 ls (y.1.toList ++ x.2.2) y.2
        | false => none
      | some (.inr (.inr v)) => match rb_isret q.1 with
        | true => some (v, h)
        | false => none
def rb_fn (al : Bool) (F : Nat) : Nat → Nat → List Value → rb_H → Option (Option Value × rb_H)
  | 0, _, _, _ => none
  | d + 1, k, as, h => match as.all rb_ok && Nat.ble as.length (rb_ml k) with
    | true => rb_run (rb_fn al F d) al k F 0 (rb_ent k as) [] h
    | false => none
theorem rb_run_ex {C : Nat → List Value → rb_H → Option (Option Value × rb_H)} {C' : Nat → List Value → rb_H → Option Value → rb_H → Prop} {al : Bool} {k : Nat} (hC : ∀ m as h y, C m as h = some y → C' m as h y.1 y.2) : ∀ (n pc : Nat) (ls st : List Value) (h : rb_H) (y : Option Value × rb_H), rb_run C al k n pc ls st h = some y → rb_ex C' al k n pc ls st h y.1 y.2
  | 0, _, _, _, _, _, hr => by cases hr
  | n + 1, pc, ls, st, h, y, hr => by
    unfold rb_run at hr
    unfold rb_ex
    split at hr
    · cases hr
    · rename_i q hq
      rw [hq]
      dsimp only
      split at hr
      · cases hr
      · rename_i x hs
        rw [hs]
        exact rb_run_ex hC n _ _ _ _ y hr
      · rename_i x hs
        rw [hs]
        split at hr
        · rename_i hv
          split at hr
          · cases hr
          · rename_i z hz
            exact ⟨hv, z.1, z.2, hC _ _ _ _ hz, rb_run_ex hC n _ _ _ _ y hr⟩
        · cases hr
      · rename_i v hs
        rw [hs]
        split at hr
        · rename_i hv
          cases hr
          exact ⟨hv, rfl, rfl⟩
        · cases hr
theorem rb_fn_rel {al : Bool} {F : Nat} : ∀ (d k : Nat) (as : List Value) (h : rb_H) (y : Option Value × rb_H), rb_fn al F d k as h = some y → rb_rel al d k as h y.1 y.2
  | 0, _, _, _, _, hr => by cases hr
  | d + 1, k, as, h, y, hr => by
    unfold rb_fn at hr
    split at hr
    · rename_i hc
      rw [Bool.and_eq_true] at hc
      exact ⟨hc.1, Nat.le_of_ble_eq_true hc.2, F, rb_run_ex (fun m as h y hy => rb_fn_rel d m as h y hy) F _ _ _ _ y hr⟩
    · cases hr
