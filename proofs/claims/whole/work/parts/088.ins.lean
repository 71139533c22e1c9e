def rb_chkL : Nat → List (List (Nat × rb_I)) → Prop
  | _, [] => True
  | k, l :: r => l.all (fun q => rb_chk k q.1 q.2) = true ∧ rb_chkL (k + 1) r
theorem rb_chkL_at : ∀ (L : List (List (Nat × rb_I))) (k i : Nat), rb_chkL k L → (L.getD i []).all (fun q => rb_chk (k + i) q.1 q.2) = true
  | [], k, i, _ => by
    cases i <;> rfl
  | l :: r, k, 0, h => h.1
  | l :: r, k, i + 1, h => by
    have := rb_chkL_at r (k + 1) i h.2
    rw [show k + (i + 1) = k + 1 + i by omega]
    exact this
theorem rb_look_mem {pc : Nat} {q : rb_I} : ∀ {L : List (Nat × rb_I)}, rb_look pc L = some q → (pc, q) ∈ L
  | [], h => by cases h
  | x :: r, h => by
    unfold rb_look at h
    split at h
    · rename_i hx
      have e := Nat.eq_of_beq_eq_true hx
      cases h
      rw [← e]
      exact List.mem_cons_self
    · exact List.mem_cons_of_mem _ (rb_look_mem h)
theorem rb_chk_all : rb_chkL 0 rb_code := ⟨rb_k0, rb_k1, rb_k2, rb_k3, rb_k4, rb_k5, rb_k6, rb_k7, rb_k8, rb_k9, rb_k10, rb_k11, rb_k12, rb_k13, rb_k14, rb_k15, rb_k16, rb_k17, rb_k18, rb_k19, rb_k20, rb_k21, rb_k22, rb_k23, rb_k24, rb_k25, rb_k26, rb_k27, rb_k28, rb_k29, rb_k30, rb_k31, rb_k32, rb_k33, rb_k34, rb_k35, rb_k36, rb_k37, rb_k38, rb_k39, rb_k40, rb_k41, rb_k42, rb_k43, rb_k44, rb_k45, rb_k46, rb_k47, rb_k48, rb_k49, rb_k50, rb_k51, rb_k52, rb_k53, rb_k54, rb_k55, rb_k56, rb_k57, rb_k58, rb_k59, rb_k60, rb_k61, rb_k62, rb_k63, rb_k64, rb_k65, rb_k66, rb_k67, rb_k68, rb_k69, rb_k70, rb_k71, rb_k72, rb_k73, rb_k74, rb_k75, rb_k76, rb_k77, rb_k78, rb_k79, rb_k80, rb_k81, rb_k82, rb_k83, rb_k84, rb_k85, rb_k86, rb_k87, rb_k88, rb_k89, rb_k90, rb_k91, rb_k92, rb_k93, rb_k94, rb_k95, rb_k96, rb_k97, rb_k98, rb_k99, rb_k100, rb_k101, rb_k102, rb_k103, rb_k104, rb_k105, rb_k106, rb_k107, rb_k108, rb_k109, rb_k110, rb_k111, rb_k112, rb_k113, rb_k114, rb_k115, rb_k116, rb_k117, rb_k118, rb_k119, rb_k120, rb_k121, rb_k122, rb_k123, rb_k124, rb_k125, rb_k126, rb_k127, rb_k128, rb_k129, rb_k130, rb_k131, rb_k132, trivial⟩
theorem rb_ins_ok {k pc : Nat} {q : rb_I} (h : rb_ins k pc = some q) : rb_chk k pc q = true := by
  have h1 := rb_chkL_at rb_code 0 k rb_chk_all
  rw [Nat.zero_add] at h1
  exact List.all_eq_true.mp h1 (pc, q) (rb_look_mem h)
