/-! the class: a station takes a reply, an explorer, a frame of a connection -/
theorem rk_comm {X : Nat → Nat → Int32} {S p j : Nat} {z v : Int32} (h : S ≠ p) : rr_up (rr_up X S 7 z) p j v = rr_up (rr_up X p j v) S 7 z := by
  funext q i
  simp only [rr_up_at]
  by_cases c1 : q = p
  · subst c1
    have : ¬ q = S := fun h2 => h h2.symm
    simp [this]
  · simp [c1]
section RHC
variable {d : Nat} {Q : Option Value → rb_H → Prop} {nd : Nat → Nat → Nat} {X A : Nat → Nat → Int32} {R : Nat → Nat → Option Nat} {t : Int32} {B : Nat}
theorem rg_reply0_at {f : Nat} {a one two : Int32} {j i : Nat} (h : ¬ ((8 ≤ j ∧ j ≤ 20) ∧ i = 63)) : rr_reply0 A f a one two j i = A j i := by
  rw [rr_reply0, rr_up_at, if_neg (by omega), rr_up_at, if_neg (by omega)]
  exact rg_make_at (by omega)
theorem rg_qRep {S r n pl w h q : Nat} {z : Int32} (hS : rc_ty S = 4) (H : rg_Rel nd X R A t B) (hr : r < 3) (hn : n < 9) (hon : rg_on A r n) (hN : rg_N nd X A n r pl w h q) (hf : rg_F (X (2 + 44 * r + 43)) (fun j => A j (60 + r)) (A 41) (A 37)) (hq : ∀ X', rg_Rel nd X' R (rr_reply A (60 + r) n w (nI (n + 1))) t B → Q none (rc_h (rr_up X' S 7 z) R)) : rb_cw (d + 2) 33 [.ref (rg_o nd r pl), .ref (2 + 44 * r + 43)] (rc_h (rr_up X S 7 z) R) Q := by
  have hN0 := hN
  obtain ⟨b0, b1, b2, b3, b4⟩ := hN
  have tN := rg_oT H b0.1 b0.2.1
  have tF := (rc_t1 (rc_tR hr)).2.2
  have tG := rc_t2f tN (show (h + w) % 4 < 4 by omega)
  have hap := rg_apart H hr b0.2.1 (2 + (h + w) % 4) (by omega)
  have nS : ∀ j, rr_up X S 7 z (rg_o nd r pl) j = X (rg_o nd r pl) j := fun j => rk_ne (rk_tne tN hS rfl)
  have fS : ∀ j, rr_up X S 7 z (2 + 44 * r + 43) j = X (2 + 44 * r + 43) j := fun j => rk_ne (rk_tne tF hS rfl)
  have hFN : 2 + 44 * r + 43 ≠ rg_o nd r pl := rk_tne tF tN rfl
  have hFG : 2 + 44 * r + 43 ≠ rg_o nd r pl + 2 + (h + w) % 4 := by omega
  have hNG : rg_o nd r pl ≠ rg_o nd r pl + 2 + (h + w) % 4 := by omega
  have hSG : S ≠ rg_o nd r pl + 2 + (h + w) % 4 := rk_tne hS tG rfl
  have hSN : S ≠ rg_o nd r pl := rk_tne hS tN rfl
  have erep : rr_reply A (60 + r) n w (nI (n + 1)) = rr_queue (if A 15 (60 + r) < 0 then rr_reply0 A (60 + r) (nI (n + 1)) (A 14 (60 + r)) (-1) else rr_reply0 A (60 + r) (nI (n + 1)) (A 15 (60 + r)) (A 14 (60 + r))) n w := by
    unfold rr_reply
    split <;> rfl
  have hA0 : ∀ j i, ¬ ((8 ≤ j ∧ j ≤ 20) ∧ i = 63) → (if A 15 (60 + r) < 0 then rr_reply0 A (60 + r) (nI (n + 1)) (A 14 (60 + r)) (-1) else rr_reply0 A (60 + r) (nI (n + 1)) (A 15 (60 + r)) (A 14 (60 + r))) j i = A j i := by
    intro j i h1
    split
    · exact rg_reply0_at h1
    · exact rg_reply0_at h1
  rw [erep] at hq
  refine rw_ent rfl rfl rfl ?_
  refine rw_step rfl rfl ?_
  refine rc_call rfl tN (by decide) rfl rfl rfl rfl ?_
  by_cases hw : w < 4
  · refine rk_addFrame (i := (h + w) % 4) H.1.1.1 tN ?_ ?_ (by omega) ?_
    · rw [nS, b2.2.2.1]; exact nI_lt (b := 4) hw (by omega)
    · rw [nS, nS, b2.2.1, b2.2.2.1, nI_add, rg_and3]
    have e5 : rr_up X S 7 z (rg_o nd r pl) 5 + 1 = nI (w + 1) := by rw [nS, b2.2.2.1, nI_1]
    rw [e5]
    refine rw_step rfl rfl ?_
    refine rw_step rfl rfl ?_
    refine rw_step rfl rfl ?_
    refine rw_step rfl rfl ?_
    refine rw_step rfl rfl ?_
    refine rw_step rfl rfl ?_
    refine rw_step rfl rfl ?_
    refine rc_gv (v := nI (n + 1)) rfl tN rfl ((rk_ne2 (by decide)).trans ((nS 3).trans (b2.1.trans (rr_addrS hn)))) ?_
    refine rw_step rfl rfl ?_
    refine rc_gv (v := rr_up (rr_up X S 7 z) (rg_o nd r pl) 5 (nI (w + 1)) (2 + 44 * r + 43) 2) rfl tF rfl rfl ?_
    refine rc_call rfl tG (by decide) rfl rfl rfl rfl ?_
    refine rk_fbegin tG ?_
    refine rw_step rfl rfl ?_
    refine rw_step rfl rfl ?_
    refine rc_gv (v := rr_up (rr_up X S 7 z) (rg_o nd r pl) 5 (nI (w + 1)) (2 + 44 * r + 43) 5) rfl tF rfl (rg_bg_ne hFG) ?_
    refine rc_p rfl tG rfl rfl ?_
    refine rw_step rfl rfl ?_
    refine rw_step rfl rfl ?_
    refine rc_gv (v := rr_up (rr_up X S 7 z) (rg_o nd r pl) 5 (nI (w + 1)) (2 + 44 * r + 43) 5) rfl tF rfl ((rk_ne hFG).trans (rg_bg_ne hFG)) ?_
    refine rw_call rfl rfl rfl ?_
    refine rk_backwards ?_
    refine rc_p rfl tG rfl rfl ?_
    refine rw_ret rfl rfl rfl ?_
    have hz : rr_up (rr_up (rk_bgX (rr_up (rr_up X S 7 z) (rg_o nd r pl) 5 (nI (w + 1))) (rg_o nd r pl + 2 + (h + w) % 4) 2 2 (nI (n + 1)) (rr_up (rr_up X S 7 z) (rg_o nd r pl) 5 (nI (w + 1)) (2 + 44 * r + 43) 2)) (rg_o nd r pl + 2 + (h + w) % 4) 5 (rr_up (rr_up X S 7 z) (rg_o nd r pl) 5 (nI (w + 1)) (2 + 44 * r + 43) 5)) (rg_o nd r pl + 2 + (h + w) % 4) 4 (rk_bk (rr_up (rr_up X S 7 z) (rg_o nd r pl) 5 (nI (w + 1)) (2 + 44 * r + 43) 5)) S 7 = z := by
      rw [rk_ne hSG, rk_ne hSG, rg_bg_ne hSG, rk_ne hSN, rr_up_same]
    have key := hq (rr_up _ S 7 (X S 7)) (rg_enq (X' := rr_up (rr_up (rr_up (rk_bgX (rr_up (rr_up X S 7 z) (rg_o nd r pl) 5 (nI (w + 1))) (rg_o nd r pl + 2 + (h + w) % 4) 2 2 (nI (n + 1)) (rr_up (rr_up X S 7 z) (rg_o nd r pl) 5 (nI (w + 1)) (2 + 44 * r + 43) 2)) (rg_o nd r pl + 2 + (h + w) % 4) 5 (rr_up (rr_up X S 7 z) (rg_o nd r pl) 5 (nI (w + 1)) (2 + 44 * r + 43) 5)) (rg_o nd r pl + 2 + (h + w) % 4) 4 (rk_bk (rr_up (rr_up X S 7 z) (rg_o nd r pl) 5 (nI (w + 1)) (2 + 44 * r + 43) 5))) S 7 (X S 7)) H hon hN0 hw (fun q' j h1 h2 => ?_) ?_ hA0 ?_).1
    · rw [rg_upup hz] at key
      exact key
    · rw [rr_up_at]
      by_cases e9 : q' = S ∧ j = 7
      · rw [if_pos e9, e9.1, e9.2]
      · rw [if_neg e9, rk_ne h1, rk_ne h1, rg_bg_ne h1, rr_up_at, if_neg h2, rr_up_at, if_neg e9]
    · rw [rk_ne (Ne.symm hSN), rk_ne hNG, rk_ne hNG, rg_bg_ne hNG, rr_up_same]
    · refine rg_F_congr (rg_repF (G := rg_o nd r pl + 2 + (h + w) % 4) (X1 := rr_up (rr_up X S 7 z) (rg_o nd r pl) 5 (nI (w + 1))) (A1 := A) hn hf (fun j => (rk_ne hFN).trans (fS j)) (fun _ _ _ => rfl) (by omega)) (fun j _ => ?_) (fun _ _ _ => rfl) (fun _ _ => rfl) (fun _ _ => rfl)
      rw [rk_ne (Ne.symm hSG)]
  · have e4 : w = 4 := by have := b0.2.2.1; omega
    subst e4
    refine rk_addNull tN ?_ ?_
    · rw [nS, b2.2.2.1]; decide
    repeat refine rw_step rfl rfl ?_
    refine rw_ret rfl rfl rfl ?_
    exact hq X (rg_drop H hA0)
theorem rg_learn {S r n m : Nat} {z : Int32} (hS : rc_ty S = 4) (H : rg_Rel nd X R A t B) (hr : r < 3) (hn : n < 9) (hm : m < 9) (hf : rg_F (X (2 + 44 * r + 43)) (fun j => A j (60 + r)) (A 41) (A 37)) (h11 : A 11 (60 + r) = nI (n + 1)) (h10 : A 10 (60 + r) = nI (m + 1)) (hq : ∀ X', rg_Rel nd X' R (rr_learn A (60 + r) (9 * n + m)) t B → Q none (rc_h (rr_up X' S 7 z) R)) : rb_cw (d + 3) 34 [.ref 0, .ref (2 + 44 * r + 43)] (rc_h (rr_up X S 7 z) R) Q := by
  obtain ⟨k, p, a, b, u, v, s, t', f1, f2, f3, f4, f5, f6, f7, f8⟩ := hf
  have tF := (rc_t1 (rc_tR hr)).2.2
  have fS : ∀ j, rr_up X S 7 z (2 + 44 * r + 43) j = X (2 + 44 * r + 43) j := fun j => rk_ne (rk_tne tF hS rfl)
  have tW := rc_tW (c := n + 1) (by omega)
  have wS : S ≠ 156 + (n + 1) := rk_tne hS tW rfl
  have x3 : rr_up X S 7 z (2 + 44 * r + 43) 3 = nI (n + 1) := (fS 3).trans (f4.2.1.trans (f4.1.symm.trans h11))
  have x2 : rr_up X S 7 z (2 + 44 * r + 43) 2 = nI (m + 1) := (fS 2).trans (f3.2.1.trans (f3.1.symm.trans h10))
  have x5 : rr_up X S 7 z (2 + 44 * r + 43) 5 = nI (s + 4 * t') := (fS 5).trans f6.2.2.2
  refine rw_ent rfl rfl rfl ?_
  refine rw_step rfl rfl ?_
  refine rw_step rfl rfl ?_
  refine rc_gv rfl tF rfl x3 ?_
  refine rw_step rfl rfl ?_
  refine rc_gv rfl tF rfl x2 ?_
  refine rc_call rfl rfl (by decide) rfl rfl rfl rfl ?_
  refine rk_known H.1.1.1 (by omega) (by omega) (by omega) (by omega) ?_
  rw [rk_ne (Ne.symm wS)]
  refine rw_step rfl rfl ?_
  rcases H.2.2.2.2.1 n m hn hm with ⟨h1, h2⟩ | ⟨h1, u', v', h2, h3, h4, h5⟩
  · rw [rr_learn, if_pos h1] at hq
    refine rw_icmp rfl (fun h9 => absurd h2 (rw_ne h9)) (fun _ => ?_)
    refine rw_step rfl rfl ?_
    refine rw_step rfl rfl ?_
    refine rc_gv rfl tF rfl x3 ?_
    refine rw_step rfl rfl ?_
    refine rc_gv rfl tF rfl x2 ?_
    refine rw_step rfl rfl ?_
    refine rc_gv rfl tF rfl x5 ?_
    refine rc_call rfl rfl (by decide) rfl rfl rfl rfl ?_
    refine rk_setRoute H.1.1.1 (by omega) (by omega) (by omega) (by omega) ?_
    refine rw_ret rfl rfl rfl ?_
    rw [rk_comm wS]
    refine hq _ (rg_routes H (fun q j h9 => rk_ne (by omega)) (fun j i h9 => by rw [rr_up_at, if_neg (by omega), rr_up_at, if_neg (by omega), rr_up_at, if_neg (by omega)]) (fun a' b' ha hb => ?_))
    by_cases e : a' = n ∧ b' = m
    · obtain ⟨rfl, rfl⟩ := e
      refine Or.inr ⟨?_, s, t', f6.2.2.1, ?_, ?_, rr_up_same _ _ _ _⟩
      · rw [rr_up_at, if_neg (by omega), rr_up_at, if_neg (by omega), rr_up_same]
      · rw [rr_up_at, if_neg (by omega), rr_up_same]; exact f6.1
      · rw [rr_up_same]; exact f6.2.1
    · exact rg_T_congr (by rw [rr_up_at, if_neg (by omega)]) (by rw [rr_up_at, if_neg (by omega), rr_up_at, if_neg (by omega), rr_up_at, if_neg (by omega)]) (by rw [rr_up_at, if_neg (by omega), rr_up_at, if_neg (by omega), rr_up_at, if_neg (by omega)]) (by rw [rr_up_at, if_neg (by omega), rr_up_at, if_neg (by omega), rr_up_at, if_neg (by omega)]) (H.2.2.2.2.1 a' b' ha hb)
  · rw [rr_learn, if_neg (by rw [h1]; decide)] at hq
    rw [h5]
    refine rw_icmp rfl (fun _ => ?_) (fun h9 => absurd (rw_neF h9) (rg_code_ne h2))
    exact rw_ret rfl rfl rfl (hq X H)
theorem rg_aa_comm {S L : Nat} {k z' z : Int32} (h0 : S ≠ L) (h1 : S ≠ L + 1) : rk_aa (rr_up X S 7 z) L k z' = rr_up (rk_aa X L k z') S 7 z := by
  have e0 : ∀ j, rr_up X S 7 z L j = X L j := fun j => rk_ne (Ne.symm h0)
  have e1 : ∀ j, rr_up X S 7 z (L + 1) j = X (L + 1) j := fun j => rk_ne (Ne.symm h1)
  have a1 : ∀ c, rk_aa1 (rr_up X S 7 z) L c = rr_up (rk_aa1 X L c) S 7 z := by
    intro c
    unfold rk_aa1
    rw [e0, e0, e1, e1, e1, rk_comm h1, rk_comm h1, rk_comm h0, rk_comm h0]
  have a2 : ∀ (X1 : Nat → Nat → Int32), rk_aa2 (rr_up X1 S 7 z) L k = rr_up (rk_aa2 X1 L k) S 7 z := by
    intro X1
    unfold rk_aa2
    rw [rk_comm h0, rk_comm h0, rk_comm h0, rk_comm h0]
    split
    · rfl
    · split <;> rfl
  unfold rk_aa
  rw [e0, e0, a1, rk_comm h0, rk_comm h0]
  split
  · split
    · rw [a2]
    · rw [a2]
  · rfl
end RHC
