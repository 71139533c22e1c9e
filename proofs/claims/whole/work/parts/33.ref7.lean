/-! the reference: heard -/
section RRI
variable {d : Nat} {Q : Option Value → rb_H → Prop} {A : Nat → Nat → Int32} {t : Int32}
def rr_hd3 (B : Nat → Nat → Int32) (c : Nat) (k : Int32) : Nat → Nat → Int32 := if k = 5 then rr_up (rr_up B 46 c 1) 47 c 0 else if k = 4 then rr_up (rr_up B 46 c 0) 43 c 0 else rr_up B 46 c 0
theorem rr_hd3M {B : Nat → Nat → Int32} {c : Nat} {k num many x5 : Int32} (hc : c < 4) (hq : Q none (rr_h (rr_hd3 B c k) t)) : rb_wp d 66 130 [.ref 0, .int (nI c), .int k, .int num, .int many, .int x5] [] (rr_h B t) Q := by
  repeat refine rw_step rfl rfl ?_
  refine rw_icmp rfl (fun h1 => ?_) (fun h1 => ?_)
  · have h1 : ¬ k = 5 := rw_ne h1
    rw [rr_hd3, if_neg h1] at hq
    repeat (first | refine rw_step rfl rfl ?_ | refine rr_stz rfl rfl (fun _ => rfl) rfl (by omega) rfl ?_)
    refine rw_icmp rfl (fun h2 => ?_) (fun h2 => ?_)
    · have h2 : ¬ k = 4 := rw_ne h2
      rw [if_neg h2] at hq
      repeat refine rw_step rfl rfl ?_
      refine rw_icmp rfl (fun _ => ?_) (fun h3 => absurd (rw_neF h3) h1)
      refine rw_ret rfl rfl rfl ?_
      exact hq
    · have h2 : k = 4 := rw_neF h2
      rw [if_pos h2] at hq
      repeat (first | refine rw_step rfl rfl ?_ | refine rr_st rfl (fun _ => rfl) rfl (by omega) rfl ?_)
      refine rw_icmp rfl (fun _ => ?_) (fun h3 => absurd (rw_neF h3) h1)
      refine rw_ret rfl rfl rfl ?_
      exact hq
  · have h1 : k = 5 := rw_neF h1
    rw [rr_hd3, if_pos h1] at hq
    repeat (first | refine rw_step rfl rfl ?_ | refine rr_stz rfl rfl (fun _ => rfl) rfl (by omega) rfl ?_)
    refine rw_icmp rfl (fun _ => ?_) (fun h2 => absurd ((rw_neF h2).symm.trans h1) (by decide))
    repeat refine rw_step rfl rfl ?_
    refine rw_icmp rfl (fun h3 => absurd h1 (rw_ne h3)) (fun _ => ?_)
    repeat (first | refine rw_step rfl rfl ?_ | refine rr_st rfl (fun _ => rfl) rfl (by omega) rfl ?_)
    refine rw_ret rfl rfl rfl ?_
    exact hq
def rr_hd2 (B : Nat → Nat → Int32) (c : Nat) (many : Int32) : Nat → Nat → Int32 := if many ≤ 0 then rr_up (rr_up B 42 c (B 42 c + many)) 43 c (B 43 c - many) else rr_up (rr_up (rr_up (rr_up B 42 c (B 42 c + many)) 43 c (B 43 c - many)) 47 c 0) 48 c 0
theorem rr_hd2M {B : Nat → Nat → Int32} {c : Nat} {k num many x5 : Int32} (hc : c < 4) (hq : Q none (rr_h (rr_hd3 (rr_hd2 B c many) c k) t)) : rb_wp d 66 89 [.ref 0, .int (nI c), .int k, .int num, .int many, .int x5] [] (rr_h B t) Q := by
  repeat (first | refine rw_step rfl rfl ?_ | refine rr_ld rfl rfl rfl (by omega) rfl ?_ | refine rr_st rfl (fun _ => rfl) rfl (by omega) rfl ?_)
  refine rw_if rfl (fun h1 => ?_) (fun h1 => ?_)
  · rw [rr_hd2, if_pos (of_decide_eq_true h1)] at hq
    exact rr_hd3M hc hq
  · rw [rr_hd2, if_neg (of_decide_eq_false h1)] at hq
    refine rw_step rfl rfl ?_
    refine rw_step rfl rfl ?_
    refine rw_step rfl rfl ?_
    refine rw_step rfl rfl ?_
    refine rr_st rfl (fun _ => rfl) rfl (by omega) rfl ?_
    refine rw_step rfl rfl ?_
    refine rw_step rfl rfl ?_
    refine rw_step rfl rfl ?_
    refine rw_step rfl rfl ?_
    refine rr_st rfl (fun _ => rfl) rfl (by omega) rfl ?_
    exact rr_hd3M hc hq
/-- the first mm of connection c's offered numbers go -/
def rr_drop (B : Nat → Nat → Int32) (c mm : Nat) : Nat → Nat → Nat → Int32
  | 0 => B
  | i + 1 => rr_up (rr_drop B c mm i) 45 (8 * c + i) (rr_drop B c mm i 45 (8 * c + i + mm))
theorem rr_drop_lo {B : Nat → Nat → Int32} {c mm j x : Nat} (h : ¬ j = 45) : ∀ i, rr_drop B c mm i j x = B j x
  | 0 => rfl
  | i + 1 => by rw [rr_drop, rr_up_at, if_neg (fun h9 => h h9.1), rr_drop_lo h i]
theorem rr_dropM {B : Nat → Nat → Int32} {c mm o : Nat} {k num : Int32} (hc : c < 4) (hB : B 44 c = nI o) (ho : o + mm ≤ 8) (hq : Q none (rr_h (rr_hd3 (rr_hd2 (rr_drop B c mm o) c (nI mm)) c k) t)) : ∀ (f i : Nat) (x : Int32), i + f = o → x = nI i → rb_wp d 66 45 [.ref 0, .int (nI c), .int k, .int num, .int (nI mm), .int x] [] (rr_h (rr_drop B c mm i) t) Q := by
  intro f
  induction f with
  | zero =>
    intro i x hf hx
    have hk : i = o := by omega
    subst hk hx
    repeat (first | refine rw_step rfl rfl ?_ | refine rr_ld rfl rfl rfl (by omega) rfl ?_)
    rw [rr_drop_lo (by omega) i, hB]
    refine rw_icmp rfl (fun hc2 => ?_) (fun hc2 => ?_)
    · exact rr_hd2M hc hq
    · exact absurd (of_decide_eq_false hc2) (fun h9 => h9 (nI_le (Nat.le_refl _) (by omega)))
  | succ f ih =>
    intro i x hf hx
    subst hx
    repeat (first | refine rw_step rfl rfl ?_ | refine rr_ld rfl rfl rfl (by omega) rfl ?_)
    rw [rr_drop_lo (by omega) i, hB]
    refine rw_icmp rfl (fun hc2 => absurd (of_decide_eq_true hc2) (nI_ge (by omega) (by omega))) (fun _ => ?_)
    have e1 : (8 : Int32) * nI c + nI i = nI (8 * c + i) := by rw [rr_c8, nI_add]
    have e2 : (8 : Int32) * nI c + nI i + nI mm = nI (8 * c + i + mm) := by rw [rr_c8, nI_add, nI_add]
    repeat refine rw_step rfl rfl ?_
    refine rr_ld (i := 8 * c + i + mm) rfl rfl e2 (by omega) rfl ?_
    refine rr_st (i := 8 * c + i) rfl (fun _ => rfl) e1 (by omega) rfl ?_
    refine rw_step rfl rfl ?_
    refine rw_step rfl rfl ?_
    exact ih (i + 1) (nI i + 1) (by omega) (nI_1 i)
def rr_many (A : Nat → Nat → Int32) (c : Nat) (num : Int32) : Int32 := rr_rem (num - rr_rem (A 42 c) 8 + 8) 8
def rr_hear (A : Nat → Nat → Int32) (c : Nat) (k num : Int32) (mm o : Nat) : Nat → Nat → Int32 := if ¬ rr_many A c num ≤ A 43 c then A else rr_hd3 (rr_hd2 (rr_drop (rr_up A 44 c (nI (o - mm))) c mm (o - mm)) c (nI mm)) c k
theorem rr_heard {c mm o : Nat} {k num : Int32} (hc : c < 4) (hmm : rr_many A c num = nI mm) (ho : A 44 c = nI o) (ho8 : o ≤ 8) (hle : rr_many A c num ≤ A 43 c → mm ≤ o) (hq : Q none (rr_h (rr_hear A c k num mm o) t)) : rb_cw (d + 1) 66 [.ref 0, .int (nI c), .int k, .int num] (rr_h A t) Q := by
  refine rw_ent rfl rfl rfl ?_
  repeat (first | refine rw_step rfl rfl ?_ | refine rr_ld rfl rfl rfl (by omega) rfl ?_)
  refine rw_icmp rfl (fun h1 => ?_) (fun h1 => ?_)
  · have h1 : rr_many A c num ≤ A 43 c := of_decide_eq_true h1
    have hmo := hle h1
    rw [rr_hear, if_neg (fun h9 => h9 h1)] at hq
    repeat (first | refine rw_step rfl rfl ?_ | refine rr_ld rfl rfl rfl (by omega) rfl ?_)
    refine rr_st rfl (fun _ => rfl) rfl (by omega) rfl ?_
    refine rw_step rfl rfl ?_
    refine rw_step rfl rfl ?_
    have e1 : A 44 c - rr_many A c num = nI (o - mm) := by
      rw [ho, hmm]
      obtain ⟨v, rfl⟩ : ∃ v, o = v + mm := ⟨o - mm, by omega⟩
      rw [show v + mm - mm = v by omega, ← nI_add]
      exact Int32.add_sub_cancel _ _
    show rb_wp d 66 45 [.ref 0, .int (nI c), .int k, .int num, .int (rr_many A c num), .int 0] [] (rr_h (rr_up A 44 c (A 44 c - rr_many A c num)) t) Q
    rw [e1, hmm]
    exact rr_dropM (B := rr_up A 44 c (nI (o - mm))) hc (rr_up_same _ _ _ _) (by omega) hq (o - mm) 0 0 (by omega) rfl
  · have h1 : ¬ rr_many A c num ≤ A 43 c := of_decide_eq_false h1
    rw [rr_hear, if_pos h1] at hq
    refine rw_ret rfl rfl rfl ?_
    exact hq
end RRI
