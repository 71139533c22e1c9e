/-! a connection's tick, on both sides -/
section RHM
variable {nd : Nat → Nat → Nat} {X A : Nat → Nat → Int32} {R : Nat → Nat → Option Nat} {t : Int32} {B : Nat}
theorem rg_C_keep {X' A' : Nat → Nat → Int32} {c a b p u v f s k st e ik is ti tr : Nat} (hC : rg_C X A c B a b p u v f s k st e ik is ti tr) (hX : ∀ q j, 135 ≤ q → X' q j = X q j) (hA : ∀ j i, 35 ≤ j → A' j i = A j i) (h2 : ∀ i, A' 2 i = A 2 i) : rg_C X' A' c B a b p u v f s k st e ik is ti tr := by
  have x0 : ∀ j, X' (135 + 5 * c) j = X (135 + 5 * c) j := fun j => hX _ j (by omega)
  have x1 : ∀ j, X' (135 + 5 * c + 1) j = X (135 + 5 * c + 1) j := fun j => hX _ j (by omega)
  have x2 : ∀ j, X' (135 + 5 * c + 2) j = X (135 + 5 * c + 2) j := fun j => hX _ j (by omega)
  have x3 : ∀ j, X' (135 + 5 * c + 3) j = X (135 + 5 * c + 3) j := fun j => hX _ j (by omega)
  have x4 : ∀ j, X' (135 + 5 * c + 4) j = X (135 + 5 * c + 4) j := fun j => hX _ j (by omega)
  obtain ⟨f0, f1, f2, f3, f4, f5, f6, f7⟩ := hC
  refine ⟨f0, ?_, ?_, ?_, ?_, ⟨?_, ?_, ?_, fun i hi => ?_⟩, ⟨?_, ?_, ?_, fun i hi => ?_⟩, ?_⟩
  · rw [x0, x0, x0, hA 36 _ (by omega), hA 37 _ (by omega), hA 38 _ (by omega)]; exact f1
  · rw [x0, hA 39 _ (by omega), hA 40 _ (by omega)]; exact f2
  · rw [x0, x0, x0, x0, x0, hA 42 _ (by omega), hA 43 _ (by omega), hA 47 _ (by omega), hA 48 _ (by omega), hA 49 _ (by omega)]; exact f3
  · rw [x0, x0, x0, hA 46 _ (by omega), hA 52 _ (by omega), hA 53 _ (by omega)]; exact f4
  · rw [hA 44 _ (by omega)]; exact f5.1
  · rw [x1]; exact f5.2.1
  · rw [x1]; exact f5.2.2.1
  · rw [x2, hA 45 _ (by omega)]; exact f5.2.2.2 i hi
  · rw [hA 50 _ (by omega)]; exact f6.1
  · rw [x3]; exact f6.2.1
  · rw [x3]; exact f6.2.2.1
  · rw [x4, hA 51 _ (by omega)]; exact f6.2.2.2 i hi
  · rw [hA 35 _ (by omega), h2, h2]; exact f7
theorem rg_dmake_at {c s j i : Nat} (h : ¬ ((8 ≤ j ∧ j ≤ 20) ∧ i = 63)) : rr_dmake A c s j i = A j i := by
  rw [rr_dmake, rr_up_at, if_neg (by omega), rr_up_at, if_neg (by omega), rr_up_at, if_neg (by omega), rr_up_at, if_neg (by omega)]
  exact rg_make_at (by omega)
theorem rg_dloop {c n r pl h q a b p u v f k st e ik is ti tr : Nat} (hB : B ≤ 900000) (hc : c < 4) (hr : r < 3) (hpl : pl < 5) : ∀ (fu s w : Nat) (X A : Nat → Nat → Int32) (y : Value), s + fu = 3 → rg_Rel nd X R A t B → rg_C X A c B a b p u v f s k st e ik is ti tr → rg_on A r n → rg_N nd X A n r pl w h q → A 35 c = 1 → A 46 c = 0 → ∀ (d : Nat) (Q : Option Value → rb_H → Prop), (∀ X', rg_Rel nd X' R (rr_dloop c n fu s w A) t B → Q none (rc_h X' R)) → rb_wp (d + 2) 37 30 [.ref 0, .ref (135 + 5 * c), .ref (rg_o nd r pl), y] [] (rc_h X R) Q := by
  intro fu
  induction fu with
  | zero =>
    intro s w X A y hs H hC hon hN h35 h46 d Q hq
    have tL := rc_tL hc
    have hs3 : s = 3 := by omega
    refine rw_step rfl rfl ?_
    refine rc_gv rfl tL rfl hC.2.2.2.1.2.2.2.1 ?_
    refine rw_step rfl rfl ?_
    refine rw_icmp rfl (fun _ => rw_ret rfl rfl rfl (hq X H)) (fun h8 => absurd (by rw [hs3]; decide) (of_decide_eq_false h8))
  | succ fu ih =>
    intro s w X A y hs H hC hon hN h35 h46 d Q hq
    have hC0 := hC
    have hN0 := hN
    obtain ⟨f0, f1, f2, f3, f4, f5, f6, f7⟩ := hC
    obtain ⟨b0, b1, b2, b3, b4⟩ := hN
    obtain ⟨g0, g1, g2, ⟨O, hO, hO2, hO3⟩, g4⟩ := H.2.2.2.2.2 c hc
    have tL := rc_tL hc
    have tO := (rc_t5 tL).1
    have tN := rg_oT H hr hpl
    have tG := rc_t2f tN (show (h + w) % 4 < 4 by omega)
    have hLN : 135 + 5 * c ≠ rg_o nd r pl := rk_tne tL tN rfl
    have hLG : 135 + 5 * c ≠ rg_o nd r pl + 2 + (h + w) % 4 := rk_tne tL tG rfl
    have hL1N : 135 + 5 * c + 1 ≠ rg_o nd r pl := rk_tne tO tN rfl
    have hL1G : 135 + 5 * c + 1 ≠ rg_o nd r pl + 2 + (h + w) % 4 := rk_tne tO tG rfl
    have hL2N : 135 + 5 * c + 2 ≠ rg_o nd r pl := rk_tne (rc_t5 tL).2.1 tN rfl
    have hL2G : 135 + 5 * c + 2 ≠ rg_o nd r pl + 2 + (h + w) % 4 := rk_tne (rc_t5 tL).2.1 tG rfl
    have hNG : rg_o nd r pl ≠ rg_o nd r pl + 2 + (h + w) % 4 := by omega
    have s10 : X (135 + 5 * c) 10 = nI s := f3.2.2.2.1
    refine rw_step rfl rfl ?_
    refine rc_gv rfl tL rfl s10 ?_
    refine rw_step rfl rfl ?_
    have hn3 : ¬ (3 : Int32) ≤ nI s := nI_ge (b := 3) (by omega) (by omega)
    refine rw_icmp rfl (fun h8 => absurd (of_decide_eq_true h8) hn3) (fun _ => ?_)
    refine rw_step rfl rfl ?_
    refine rc_gv rfl tL rfl s10 ?_
    refine rw_step rfl rfl ?_
    refine rc_gr rfl tL rfl ?_
    refine rc_gv rfl tO rfl f5.2.1 ?_
    refine rw_icmp rfl (fun h8 => ?_) (fun h8 => ?_)
    · rw [rr_dloop, if_neg (fun h7 => h7.1.2 (by rw [f5.1, f3.2.2.1]; exact of_decide_eq_true h8))] at hq
      exact rw_ret rfl rfl rfl (hq X H)
    have hsk : ¬ nI k ≤ nI s := of_decide_eq_false h8
    have hsk' : s < k := by
      refine Nat.not_le.mp (fun h7 => hsk ?_)
      exact nI_le h7 (by omega)
    refine rw_step rfl rfl ?_
    refine rc_call rfl tN (by decide) rfl rfl rfl rfl ?_
    refine rk_nfull tN ?_
    rw [b2.2.2.1]
    by_cases hw : w < 4
    · rw [if_pos (show nI w < 4 from nI_lt (b := 4) hw (by omega))]
      have hcond : (((A 35 c = 1 ∧ A 46 c = 0) ∧ ¬ 3 ≤ A 43 c) ∧ ¬ A 44 c ≤ A 43 c) ∧ ¬ 4 ≤ A 4 n := by
        rw [f3.2.2.1, f5.1, b1.2.2.1]
        exact ⟨⟨⟨⟨h35, h46⟩, hn3⟩, hsk⟩, nI_ge (b := 4) hw (by omega)⟩
      rw [rr_dloop, if_pos hcond] at hq
      refine rw_step rfl rfl ?_
      refine rw_step rfl rfl ?_
      refine rc_call rfl tN (by decide) rfl rfl rfl rfl ?_
      refine rk_addFrame (i := (h + w) % 4) H.1.1.1 tN ?_ ?_ (by omega) ?_
      · rw [b2.2.2.1]; exact nI_lt (b := 4) hw (by omega)
      · rw [b2.2.1, b2.2.2.1, nI_add, rg_and3]
      rw [b2.2.2.1, nI_1]
      refine rw_step rfl rfl ?_
      refine rw_step rfl rfl ?_
      refine rw_step rfl rfl ?_
      refine rw_step rfl rfl ?_
      refine rw_step rfl rfl ?_
      refine rw_step rfl rfl ?_
      refine rc_gv rfl tL rfl ((rk_ne hLN).trans f1.2.2.2.2.2) ?_
      refine rw_step rfl rfl ?_
      refine rc_gv rfl tL rfl ((rk_ne hLN).trans f1.2.1) ?_
      refine rw_step rfl rfl ?_
      refine rc_gv rfl tL rfl ((rk_ne hLN).trans f1.2.2.2.1) ?_
      refine rc_call rfl tG (by decide) rfl rfl rfl rfl ?_
      refine rk_fbegin tG ?_
      refine rw_step rfl rfl ?_
      refine rw_step rfl rfl ?_
      refine rc_gv rfl tL rfl ((rg_bg_ne hLG).trans ((rk_ne hLN).trans f2.2.2)) ?_
      refine rc_p rfl tG rfl rfl ?_
      refine rw_step rfl rfl ?_
      refine rw_step rfl rfl ?_
      refine rw_step rfl rfl ?_
      refine rc_gv rfl tL rfl ((rk_ne hLG).trans ((rg_bg_ne hLG).trans ((rk_ne hLN).trans f3.2.1))) ?_
      refine rw_step rfl rfl ?_
      refine rc_gv rfl tL rfl ((rk_ne hLG).trans ((rg_bg_ne hLG).trans ((rk_ne hLN).trans s10))) ?_
      refine rw_step rfl rfl ?_
      refine rw_step rfl rfl ?_
      refine rw_step rfl rfl ?_
      refine rc_call rfl tG (by decide) rfl rfl rfl rfl ?_
      refine rk_belong tG tL ?_
      have e0 : rr_up (rk_bgX (rr_up X (rg_o nd r pl) 5 (nI (w + 1))) (rg_o nd r pl + 2 + (h + w) % 4) 3 (nI p) (nI a) (nI b)) (rg_o nd r pl + 2 + (h + w) % 4) 4 (nI (u + 4 * v)) (135 + 5 * c) 0 = nI c := (rk_ne hLG).trans ((rg_bg_ne hLG).trans ((rk_ne hLN).trans g0.1))
      have e4 : rr_up (rk_bgX (rr_up X (rg_o nd r pl) 5 (nI (w + 1))) (rg_o nd r pl + 2 + (h + w) % 4) 3 (nI p) (nI a) (nI b)) (rg_o nd r pl + 2 + (h + w) % 4) 4 (nI (u + 4 * v)) (135 + 5 * c) 4 = nI O := (rk_ne hLG).trans ((rg_bg_ne hLG).trans ((rk_ne hLN).trans hO3))
      rw [e0, e4]
      have keep : ∀ q' j, ¬ q' = rg_o nd r pl + 2 + (h + w) % 4 → ¬ q' = rg_o nd r pl → rr_up (rr_up (rr_up (rr_up (rk_bgX (rr_up X (rg_o nd r pl) 5 (nI (w + 1))) (rg_o nd r pl + 2 + (h + w) % 4) 3 (nI p) (nI a) (nI b)) (rg_o nd r pl + 2 + (h + w) % 4) 4 (nI (u + 4 * v))) (rg_o nd r pl + 2 + (h + w) % 4) 7 (nI c)) (rg_o nd r pl + 2 + (h + w) % 4) 8 (nI O)) (rg_o nd r pl + 2 + (h + w) % 4) 9 ((nI f + nI s) &&& 7) q' j = X q' j := by
        intro q' j h1 h2
        rw [rk_ne h1, rk_ne h1, rk_ne h1, rk_ne h1, rg_bg_ne h1, rk_ne h2]
      refine rw_step rfl rfl ?_
      refine rw_step rfl rfl ?_
      refine rc_gr rfl tL rfl ?_
      refine rw_step rfl rfl ?_
      refine rc_gv rfl tL rfl ((keep _ _ hLG hLN).trans s10) ?_
      refine rc_call rfl tO (by decide) rfl rfl rfl rfl ?_
      refine rk_bget (n := 8) (i := (st + s) % 8) tO (rc_t5 tL).2.1 rfl (nI_pos (by omega)) ?_ ?_ (by omega) ?_
      · rw [keep _ _ hL1G hL1N, f5.2.1]; exact nI_lt hsk' (by omega)
      · rw [keep _ _ hL1G hL1N, keep _ _ hL1G hL1N, f5.2.2.1, g0.2.1, nI_add, rg_and7]
      have ev : rr_up (rr_up (rr_up (rr_up (rk_bgX (rr_up X (rg_o nd r pl) 5 (nI (w + 1))) (rg_o nd r pl + 2 + (h + w) % 4) 3 (nI p) (nI a) (nI b)) (rg_o nd r pl + 2 + (h + w) % 4) 4 (nI (u + 4 * v))) (rg_o nd r pl + 2 + (h + w) % 4) 7 (nI c)) (rg_o nd r pl + 2 + (h + w) % 4) 8 (nI O)) (rg_o nd r pl + 2 + (h + w) % 4) 9 ((nI f + nI s) &&& 7) (135 + 5 * c + 1 + 1) ((st + s) % 8) = A 45 (8 * c + s) := (keep _ _ hL2G hL2N).trans (f5.2.2.2 s hsk')
      rw [ev]
      refine rc_p rfl tG rfl rfl ?_
      obtain ⟨H1, N1⟩ := rg_enq (X' := rr_up (rr_up (rr_up (rr_up (rr_up (rk_bgX (rr_up X (rg_o nd r pl) 5 (nI (w + 1))) (rg_o nd r pl + 2 + (h + w) % 4) 3 (nI p) (nI a) (nI b)) (rg_o nd r pl + 2 + (h + w) % 4) 4 (nI (u + 4 * v))) (rg_o nd r pl + 2 + (h + w) % 4) 7 (nI c)) (rg_o nd r pl + 2 + (h + w) % 4) 8 (nI O)) (rg_o nd r pl + 2 + (h + w) % 4) 9 ((nI f + nI s) &&& 7)) (rg_o nd r pl + 2 + (h + w) % 4) 10 (A 45 (8 * c + s))) H hon hN0 hw (fun q' j h1 h2 => by rw [rk_ne h1, rk_ne h1, rk_ne h1, rk_ne h1, rk_ne h1, rg_bg_ne h1, rr_up_at, if_neg h2]) (by rw [rk_ne hNG, rk_ne hNG, rk_ne hNG, rk_ne hNG, rk_ne hNG, rg_bg_ne hNG, rr_up_same]) (fun j i h1 => rg_dmake_at (s := s) h1) (rg_datF hc hC0 hO2 (by omega) (by omega) rfl)
      have hnd := (H.1.1.2 r hr pl hpl).2.1
      have C1 := rg_C_keep (X' := rr_up (rr_up (rr_up (rr_up (rr_up (rk_bgX (rr_up X (rg_o nd r pl) 5 (nI (w + 1))) (rg_o nd r pl + 2 + (h + w) % 4) 3 (nI p) (nI a) (nI b)) (rg_o nd r pl + 2 + (h + w) % 4) 4 (nI (u + 4 * v))) (rg_o nd r pl + 2 + (h + w) % 4) 7 (nI c)) (rg_o nd r pl + 2 + (h + w) % 4) 8 (nI O)) (rg_o nd r pl + 2 + (h + w) % 4) 9 ((nI f + nI s) &&& 7)) (rg_o nd r pl + 2 + (h + w) % 4) 10 (A 45 (8 * c + s))) (A' := rr_queue (rr_dmake A c s) n w) hC0 (fun q' j h1 => by rw [rk_ne (by unfold rg_o; omega)]; exact keep q' j (by unfold rg_o; omega) (by unfold rg_o; omega)) (fun j i h1 => by rw [rg_queue_at hw, if_neg (by omega), if_neg (by omega), rg_dmake_at (by omega)]) (fun i => by rw [rg_queue_at hw, if_neg (by omega), if_neg (by omega), rg_dmake_at (by omega)])
      have q35 : ∀ j i, 21 ≤ j ∨ j ≤ 3 → rr_queue (rr_dmake A c s) n w j i = A j i := fun j i hj => by rw [rg_queue_at hw, if_neg (by omega), if_neg (by omega), rg_dmake_at (by omega)]
      obtain ⟨H2, C2⟩ := rg_sentC (s' := s + 1) (x := nI (s + 1)) hc H1 C1 (Or.inl ((q35 35 c (by omega)).trans h35)) (by omega) (by omega) rfl
      refine rw_step rfl rfl ?_
      refine rw_step rfl rfl ?_
      refine rc_gv rfl tL rfl ((rk_ne hLG).trans ((keep _ _ hLG hLN).trans s10)) ?_
      refine rw_step rfl rfl ?_
      refine rw_step rfl rfl ?_
      refine rc_p rfl tL rfl rfl ?_
      refine rw_step rfl rfl ?_
      dsimp only
      rw [nI_1]
      have N2 : rg_N nd (rr_up (rr_up (rr_up (rr_up (rr_up (rr_up (rk_bgX (rr_up X (rg_o nd r pl) 5 (nI (w + 1))) (rg_o nd r pl + 2 + (h + w) % 4) 3 (nI p) (nI a) (nI b)) (rg_o nd r pl + 2 + (h + w) % 4) 4 (nI (u + 4 * v))) (rg_o nd r pl + 2 + (h + w) % 4) 7 (nI c)) (rg_o nd r pl + 2 + (h + w) % 4) 8 (nI O)) (rg_o nd r pl + 2 + (h + w) % 4) 9 ((nI f + nI s) &&& 7)) (rg_o nd r pl + 2 + (h + w) % 4) 10 (A 45 (8 * c + s))) (135 + 5 * c) 10 (nI (s + 1))) (rr_up (rr_queue (rr_dmake A c s) n w) 43 c (nI (s + 1))) n r pl (w + 1) h q := rg_N_keep H1 N1 (fun q' j h1 => rk_ne (by omega)) (fun j i h1 => by rw [rr_up_at, if_neg (by omega)]) (fun c' _ => by rw [rr_up_at, if_neg (by omega)]) (fun c' _ => by rw [rr_up_at, if_neg (by omega)])
      refine ih (s + 1) (w + 1) _ _ _ (by omega) H2 C2 ?_ N2 ?_ ?_ d Q hq
      · unfold rg_on
        rw [rr_up_at, if_neg (by omega), rr_up_at, if_neg (by omega), q35 2 n (by omega), q35 3 n (by omega)]
        exact hon
      · rw [rr_up_at, if_neg (by omega), q35 35 c (by omega)]; exact h35
      · rw [rr_up_at, if_neg (by omega), q35 46 c (by omega)]; exact h46
    · have e4 : w = 4 := by have := b0.2.2.1; omega
      rw [if_neg (show ¬ nI w < 4 by rw [e4]; decide)]
      rw [rr_dloop, if_neg (fun h7 => h7.2 (by rw [b1.2.2.1, e4]; decide))] at hq
      refine rw_step rfl rfl ?_
      exact rw_ret rfl rfl rfl (hq X H)
end RHM
