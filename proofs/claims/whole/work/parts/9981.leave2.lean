/-! leave whole, on both sides -/
theorem rg_addrR : ∀ n, n < 15 → 1 ≤ rr_addr (nI n) ∧ rr_addr (nI n) ≤ 12 := by decide +kernel
section RHW
variable {nd : Nat → Nat → Nat} {X A : Nat → Nat → Int32} {R : Nat → Nat → Option Nat} {t : Int32} {B : Nat}
theorem rg_pub_of2 {k1 k2 : Nat} {as : List Value} {a : Int32} {A' : Nat → Nat → Int32} {B' : Nat} (hB' : B' ≤ B + 600) (hc : ∀ Q : Option Value → rb_H → Prop, (∀ nd' X' R', rg_Rel nd' X' R' A' t B' → Q (some (.int a)) (rc_h X' R')) → rb_cw 8 k1 (.ref 0 :: as) (rc_h X R) Q) (hr : ∀ Q : Option Value → rb_H → Prop, Q (some (.int a)) (rr_h A' t) → rb_cw 8 k2 (.ref 0 :: as) (rr_h A t) Q) : rg_pub nd X R A t B k1 k2 as := by
  obtain ⟨r, h', hrel, hr', nd', X', R', hh, hP⟩ := hc (fun v h => v = some (.int a) ∧ ∃ nd' X' R', h = rc_h X' R' ∧ rg_Rel nd' X' R' A' t B') (fun nd' X' R' hP => ⟨rfl, nd', X', R', rfl, hP⟩)
  subst hr' hh
  exact ⟨a, nd', X', R', A', t, rg_monoB hB' hP, fun Q hq => ⟨_, _, hrel, hq⟩, hr⟩
theorem rg_linksK {X' A' : Nat → Nat → Int32} (H : rg_Rel nd X R A t B) (hX : ∀ q j, 134 ≤ q → X' q j = X q j) (hA : ∀ j i, 35 ≤ j → A' j i = A j i) (h2 : ∀ n, n < 9 → ¬ A 2 n = 0 → ¬ A' 2 n = 0) : ∀ c, c < 4 → rg_L X' A' c B := fun c hc => rg_L_congr (Nat.le_refl _) (fun i j _ => hX _ _ (by omega)) (fun j _ _ _ _ => hA _ _ (by omega)) (fun i _ => hA _ _ (by omega)) (fun i _ => hA _ _ (by omega)) (fun n hn _ h9 => h2 n hn h9) (H.2.2.2.2.2 c hc)
/-- no node has the address: nothing goes -/
theorem rg_leaveNo {x : Int32} (H : rg_Rel nd X R A t B) (hno : ∀ n, n < 15 → ¬ A 2 n = 0 → ¬ rr_addr (nI n) = x) (Q : Option Value → rb_H → Prop) (hq : ∀ nd' X' R', rg_Rel nd' X' R' A t B → Q (some (.int 0)) (rc_h X' R')) : rb_cw 8 3 [.ref 0, .int x] (rc_h X R) Q := by
  refine rw_ent rfl rfl rfl ?_
  refine rw_step rfl rfl ?_
  refine rw_step rfl rfl ?_
  refine rw_step rfl rfl ?_
  refine rw_step rfl rfl ?_
  refine rg_leaveLoop (g := fun _ => none) H (fun r n _ h => by cases h) (fun r _ _ n hn => hno n hn.1 hn.2.1) (fun nd' X' R' y H0 hX => ?_) 3 0 nd X R A 0 _ (by omega) (rg_to0 H) (fun r _ _ => ⟨rfl, rfl, fun _ _ _ => rfl, fun n h => ⟨h, rfl⟩⟩) (fun _ _ _ => rfl) rfl rfl
  have H0 : rg_Rel0 nd' X' R' A t := H0
  show rb_wp 7 3 45 [.ref 0, .int x, .int 0, .int (nI 3), y] [] (rc_h X' R') Q
  refine rw_step rfl rfl ?_
  refine rw_step rfl rfl ?_
  refine rw_step rfl rfl ?_
  exact rw_ret rfl rfl rfl (hq nd' X' R' (rg_of0 H0 H.2.1.2.2 (rg_linksK H hX (fun _ _ _ => rfl) (fun _ _ h => h))))
theorem rg_leaveP {x : Int32} (H : rg_Rel nd X R A t B) : rg_pub nd X R A t B 3 72 [.int x] := by
  by_cases hx : 1 ≤ x ∧ x ≤ 12
  · obtain ⟨a, ha, rfl⟩ := nI_of2 (M := 12) (n := 12) (x := x) (by decide) (Int32.not_lt.mpr (Int32.le_trans (by decide) hx.1)) hx.2
    have ha1 : 1 ≤ a := (nI_leI (a := 1) (by omega) (by omega)).mp hx.1
    by_cases h2 : A 2 (rr_lvN a) = 0
    · refine rg_pub_of2 (B' := B) (a := 0) (A' := A) (by omega) (fun Q hq => rg_leaveNo H (fun n hn hh had => ?_) Q hq) (fun Q hq => rr_leaveHead (d := 7) ha1 ha (fun _ => hq) (fun h8 => absurd h2 h8))
      by_cases h9 : a < 10
      · have e : rr_lvN a = a - 1 := by unfold rr_lvN; rw [if_pos h9]
        rw [e] at h2
        have := rg_addrS (a - 1) (by omega) n hn (by rw [had, show a - 1 + 1 = a by omega])
        subst this
        exact hh h2
      · have e : rr_lvN a = 9 + 2 * (a - 10) := by unfold rr_lvN; rw [if_neg h9]
        rw [e] at h2
        rcases rg_addrP (a - 10) (by omega) n hn (by rw [had, show 10 + (a - 10) = a by omega]) with h8 | h8
        · subst h8; exact hh h2
        · subst h8; exact hh ((H.2.1.2.2 (a - 10) (by omega)).1.mp h2)
    · by_cases h9 : a < 10
      · -- a station
        obtain ⟨n, rfl⟩ : ∃ n, a = n + 1 := ⟨a - 1, by omega⟩
        have hn : n < 9 := by omega
        have e : rr_lvN (n + 1) = n := by unfold rr_lvN; rw [if_pos h9]; omega
        rw [e] at h2
        obtain ⟨r, hr, hon⟩ := rg_here H (by omega) h2
        refine rg_pub_of2 (B' := B) (a := 1) (A' := rr_lvC (rr_lvK (rr_go A r n) n 9) (nI (n + 1)) 4) (by omega) (fun Q hq => ?_) (fun Q hq => rr_leaveS (d := 5) hn hr h2 hon.2.2 hq)
        have eF : rg_goF (fun z => if z = r then some n else none) 3 0 A = rr_go A r n := by
          have : r = 0 ∨ r = 1 ∨ r = 2 := by omega
          rcases this with rfl | rfl | rfl <;> simp [rg_goF]
        have eB : rg_anyF (fun z => if z = r then some n else none) 3 0 0 = 1 := by
          have : r = 0 ∨ r = 1 ∨ r = 2 := by omega
          rcases this with rfl | rfl | rfl <;> simp [rg_anyF]
        refine rw_ent rfl rfl rfl ?_
        refine rw_step rfl rfl ?_
        refine rw_step rfl rfl ?_
        refine rw_step rfl rfl ?_
        refine rw_step rfl rfl ?_
        refine rg_leaveLoop (g := fun z => if z = r then some n else none) H (fun r' n' hr' h8 => ?_) (fun r' hr' h8 n' hn' had => ?_) (fun nd' X' R' y H0 hX => ?_) 3 0 nd X R A 0 _ (by omega) (rg_to0 H) (fun r _ _ => ⟨rfl, rfl, fun _ _ _ => rfl, fun n h => ⟨h, rfl⟩⟩) (fun _ _ _ => rfl) rfl rfl
        · by_cases c : r' = r
          · rw [if_pos c] at h8
            cases h8
            rw [c]
            exact ⟨hon, rr_addrS hn⟩
          · rw [if_neg c] at h8
            cases h8
        · have en := rg_addrS n hn n' hn'.1 had
          subst en
          have er : r' = r := (nI_eq (by omega) (by omega)).mp (hn'.2.2.symm.trans hon.2.2)
          rw [if_pos er] at h8
          cases h8
        · rw [eF] at H0
          rw [eB]
          refine rw_step rfl rfl ?_
          refine rw_step rfl rfl ?_
          refine rw_step rfl rfl ?_
          refine rw_call rfl rfl rfl ?_
          refine rk_isSt ?_
          rw [if_pos (rk_st1 (by omega) (by omega))]
          refine rw_step rfl rfl ?_
          refine rw_step rfl rfl ?_
          refine rw_step rfl rfl ?_
          refine rc_call rfl rfl (by decide) rfl rfl rfl rfl ?_
          refine rk_forget (d := 4) H0.1.1.1 hn ?_
          refine rw_step rfl rfl ?_
          exact rw_ret rfl rfl rfl (hq _ _ _ (rg_gone H hn H0 hX))
      · -- a bridge
        obtain ⟨k, rfl⟩ : ∃ k, a = 10 + k := ⟨a - 10, by omega⟩
        have hk : k < 3 := by omega
        have e : rr_lvN (10 + k) = 9 + 2 * k := by unfold rr_lvN; rw [if_neg h9]; omega
        rw [e] at h2
        have h2' : ¬ A 2 (10 + 2 * k) = 0 := fun h8 => h2 ((H.2.1.2.2 k hk).1.mpr h8)
        obtain ⟨r1, hr1, on1⟩ := rg_here H (show 9 + 2 * k < 15 by omega) h2
        obtain ⟨r2, hr2, on2⟩ := rg_here H (show 10 + 2 * k < 15 by omega) h2'
        have hne : ¬ r1 = r2 := fun h8 => (H.2.1.2.2 k hk).2 h2 (by rw [on1.2.2, on2.2.2, h8])
        have h3' : rr_go A r1 (9 + 2 * k) 3 (10 + 2 * k) = nI r2 := by rw [rg_goK (by omega) _ _ (by omega)]; exact on2.2.2
        refine rg_pub_of2 (B' := B) (a := 1) (A' := rr_go (rr_go A r1 (9 + 2 * k)) r2 (10 + 2 * k)) (by omega) (fun Q hq => ?_) (fun Q hq => rr_leaveP (d := 5) hk hr1 hr2 h2 on1.2.2 h3' hq)
        have cm := rg_go_comm (A := A) (show 9 + 2 * k < 15 by omega) (show 10 + 2 * k < 15 by omega) (show ¬ 9 + 2 * k = 10 + 2 * k by omega) hne hr1 hr2 on1.2.2 on2.2.2
        have eF : rg_goF (fun z => if z = r1 then some (9 + 2 * k) else if z = r2 then some (10 + 2 * k) else none) 3 0 A = rr_go (rr_go A r1 (9 + 2 * k)) r2 (10 + 2 * k) := by
          have q1 : r1 = 0 ∨ r1 = 1 ∨ r1 = 2 := by omega
          have q2 : r2 = 0 ∨ r2 = 1 ∨ r2 = 2 := by omega
          rcases q1 with rfl | rfl | rfl <;> rcases q2 with rfl | rfl | rfl
          · exact absurd rfl hne
          · simp [rg_goF]
          · simp [rg_goF]
          · rw [cm]; simp [rg_goF]
          · exact absurd rfl hne
          · simp [rg_goF]
          · rw [cm]; simp [rg_goF]
          · rw [cm]; simp [rg_goF]
          · exact absurd rfl hne
        have eB : rg_anyF (fun z => if z = r1 then some (9 + 2 * k) else if z = r2 then some (10 + 2 * k) else none) 3 0 0 = 1 := by
          have q1 : r1 = 0 ∨ r1 = 1 ∨ r1 = 2 := by omega
          have q2 : r2 = 0 ∨ r2 = 1 ∨ r2 = 2 := by omega
          rcases q1 with rfl | rfl | rfl <;> rcases q2 with rfl | rfl | rfl <;> simp [rg_anyF]
        have n15a : 9 + 2 * k < 15 := by omega
        have n15b : 10 + 2 * k < 15 := by omega
        have f2 : ∀ i, rr_go (rr_go A r1 (9 + 2 * k)) r2 (10 + 2 * k) 2 i = if i = 10 + 2 * k then 0 else if i = 9 + 2 * k then 0 else A 2 i := fun i => by rw [rg_go2 n15b, rg_go2 n15a]
        have fK : ∀ j i, ¬ (j = 0 ∨ j = 1 ∨ j = 2 ∨ j = 4 ∨ j = 21 ∨ j = 22 ∨ j = 23 ∨ j = 30) → rr_go (rr_go A r1 (9 + 2 * k)) r2 (10 + 2 * k) j i = A j i := fun j i hj => by rw [rg_goK n15b j i hj, rg_goK n15a j i hj]
        refine rw_ent rfl rfl rfl ?_
        refine rw_step rfl rfl ?_
        refine rw_step rfl rfl ?_
        refine rw_step rfl rfl ?_
        refine rw_step rfl rfl ?_
        refine rg_leaveLoop (g := fun z => if z = r1 then some (9 + 2 * k) else if z = r2 then some (10 + 2 * k) else none) H (fun r' n' hr' h8 => ?_) (fun r' hr' h8 n' hn' had => ?_) (fun nd' X' R' y H0 hX => ?_) 3 0 nd X R A 0 _ (by omega) (rg_to0 H) (fun r _ _ => ⟨rfl, rfl, fun _ _ _ => rfl, fun n h => ⟨h, rfl⟩⟩) (fun _ _ _ => rfl) rfl rfl
        · by_cases c : r' = r1
          · rw [if_pos c] at h8
            cases h8
            rw [c]
            exact ⟨on1, (rg_addrP' k hk).1⟩
          · rw [if_neg c] at h8
            by_cases c2 : r' = r2
            · rw [if_pos c2] at h8
              cases h8
              rw [c2]
              exact ⟨on2, (rg_addrP' k hk).2⟩
            · rw [if_neg c2] at h8
              cases h8
        · rcases rg_addrP k hk n' hn'.1 had with h7 | h7
          · subst h7
            have er : r' = r1 := (nI_eq (by omega) (by omega)).mp (hn'.2.2.symm.trans on1.2.2)
            rw [if_pos er] at h8
            cases h8
          · subst h7
            have er : r' = r2 := (nI_eq (by omega) (by omega)).mp (hn'.2.2.symm.trans on2.2.2)
            rw [if_neg (fun h6 => hne (h6.symm.trans er)), if_pos er] at h8
            cases h8
        · rw [eF] at H0
          rw [eB]
          refine rw_step rfl rfl ?_
          refine rw_step rfl rfl ?_
          refine rw_step rfl rfl ?_
          refine rw_call rfl rfl rfl ?_
          refine rk_isSt ?_
          rw [if_neg (fun h8 => absurd h8.2 (nI_ge (a := 9) (by omega) (by omega)))]
          refine rw_step rfl rfl ?_
          refine rw_step rfl rfl ?_
          refine rw_ret rfl rfl rfl (hq _ _ _ (rg_of0 H0 (fun k' hk' => ?_) (rg_linksK H hX (fun j i hj => fK j i (by omega)) (fun n' hn' h8 => ?_))))
          · rw [f2, f2, fK 3 _ (by omega), fK 3 _ (by omega)]
            by_cases c : k' = k
            · subst c
              rw [if_neg (by omega), if_pos rfl, if_pos rfl]
              exact ⟨Iff.rfl, fun h8 => absurd rfl h8⟩
            · rw [if_neg (by omega), if_neg (by omega), if_neg (by omega), if_neg (by omega)]
              exact H.2.1.2.2 k' hk'
          · rw [f2, if_neg (by omega), if_neg (by omega)]
            exact h8
  · refine rg_pub_of2 (B' := B) (a := 0) (A' := A) (by omega) (fun Q hq => rg_leaveNo H (fun n hn hh had => ?_) Q hq) (fun Q hq => rr_leaveOut (d := 7) hx hq)
    have := rg_addrR n hn
    rw [had] at this
    exact hx this
end RHW
