/-! every pair of public methods: the start's table, whole -/
section RHG
variable {nd : Nat → Nat → Nat} {X A : Nat → Nat → Int32} {R : Nat → Nat → Option Nat} {t : Int32} {B : Nat}
theorem rg_atP {x : Int32} (H : rg_Rel nd X R A t B) : rg_pub nd X R A t B 14 83 [.int x] :=
  rg_pub_of (A' := A) (B' := B) (a := rr_atA A x) (by omega) (fun _ hq => rg_atM (d := 6) H (hq X H)) (fun _ hq => rr_atM (d := 6) hq)
theorem rg_monP {x : Int32} (H : rg_Rel nd X R A t B) : rg_pub nd X R A t B 15 84 [.int x] :=
  rg_pub_of (A' := A) (B' := B) (a := rr_monA A x) (by omega) (fun _ hq => rg_monM (d := 6) H (hq X H)) (fun _ hq => rr_monM (d := 6) hq)
theorem rg_countP {x y : Int32} (H : rg_Rel nd X R A t B) : rg_pub nd X R A t B 17 86 [.int x, .int y] :=
  rg_pub_of (A' := A) (B' := B) (a := rr_countA A x y) (by omega) (fun _ hq => rg_countM (d := 6) H (hq X H)) (fun _ hq => rr_countM (d := 6) hq)
theorem rg_nodeP {x p k : Int32} (H : rg_Rel nd X R A t B) : rg_pub nd X R A t B 16 85 [.int x, .int p, .int k] :=
  rg_pub_of (A' := A) (B' := B) (a := rr_nodeA A x p k) (by omega) (fun _ hq => rg_nodeM (d := 6) H (hq X H)) (fun _ hq => rr_nodeM (d := 6) hq)
theorem rg_sigP {x : Int32} (H : rg_Rel nd X R A t B) : rg_pub nd X R A t B 13 82 [.int x] :=
  rg_pub_of (A' := A) (B' := B) (a := rr_sigA A x) (by omega) (fun _ hq => rg_sigM (d := 6) H (hq X H)) (fun _ hq => rr_sigM (d := 6) hq)
theorem rg_conP {x k : Int32} (H : rg_Rel nd X R A t B) : rg_pub nd X R A t B 18 87 [.int x, .int k] :=
  rg_pub_of (A' := A) (B' := B) (a := rr_conA A x k) (by omega) (fun _ hq => rg_conM (d := 6) H (hq X H)) (fun _ hq => rr_conM (d := 6) hq)
theorem rg_routeP {x y : Int32} (H : rg_Rel nd X R A t B) : rg_pub nd X R A t B 7 76 [.int x, .int y] :=
  rg_pub_of (A' := A) (B' := B) (a := rr_routeA A x y) (by omega) (fun _ hq => rg_routeM (d := 5) H (hq X H)) (fun _ hq => rr_routeM (d := 6) hq)
theorem rg_forgetP {x y : Int32} (H : rg_Rel nd X R A t B) : rg_pub nd X R A t B 6 75 [.int x, .int y] :=
  rg_pub_of (A' := (rr_forgetA A x y).2) (B' := B) (a := (rr_forgetA A x y).1) (by omega) (fun _ hq => rg_forgetM (d := 5) H hq) (fun _ hq => rr_forgetM (d := 6) hq)
theorem rg_closeP {x : Int32} (H : rg_Rel nd X R A t B) : rg_pub nd X R A t B 9 79 [.int x] :=
  rg_pub_of (A' := (rr_closeA A x).2) (B' := B) (a := (rr_closeA A x).1) (by omega) (fun _ hq => rg_closeM (d := 6) H hq) (fun _ hq => rr_closeM (d := 6) hq)
theorem rg_joinP {x y : Int32} (H : rg_Rel nd X R A t B) : rg_pub nd X R A t B 1 69 [.int x, .int y] :=
  rg_pub_of (A' := (rr_joinA A x y).2) (B' := B) (a := (rr_joinA A x y).1) (by omega) (fun _ hq => rg_joinM (d := 5) H hq) (fun _ hq => rr_joinM (d := 5) hq)
theorem rg_bridgeP {b x y : Int32} (H : rg_Rel nd X R A t B) : rg_pub nd X R A t B 2 70 [.int b, .int x, .int y] :=
  rg_pub_of (A' := (rr_brA A b x y).2) (B' := B) (a := (rr_brA A b x y).1) (by omega) (fun _ hq => rg_bridgeM (d := 5) H hq) (fun _ hq => rr_brM (d := 6) hq)
theorem rg_damP {x : Int32} (H : rg_Rel nd X R A t B) : rg_pub nd X R A t B 4 73 [.int x] :=
  rg_pub_of (A' := (rr_damA A x).2) (B' := B) (a := (rr_damA A x).1) (by omega) (fun _ hq => rg_damM (d := 6) H hq) (fun _ hq => rr_damM (d := 6) hq)
theorem rg_tickP {x : Int32} (H : rg_Rel nd X R A t B) (hB : B + 600 < 900000) : rg_pub nd X R A t B 12 68 [.int x] := by
  obtain ⟨X', A', t', h1, h2, h3⟩ := rg_tick (x := x) H hB
  exact ⟨t', nd, X', R, A', t', h1, h2, h3⟩
end RHG
/-- what the two heaps keep through n calls -/
def rg_Good (n : Nat) (hC hR : rb_H) : Prop := ∃ (nd : Nat → Nat → Nat) (X : Nat → Nat → Int32) (R : Nat → Nat → Option Nat) (A : Nat → Nat → Int32) (t : Int32), hC = rc_h X R ∧ hR = rr_h A t ∧ rg_Rel nd X R A t (600 * n)
theorem rg_pairG {nd : Nat → Nat → Nat} {X A : Nat → Nat → Int32} {R : Nat → Nat → Option Nat} {t : Int32} {n k1 k2 : Nat} {as : List Value} (h : rg_pub nd X R A t (600 * n) k1 k2 as) : lw_pair rg_Good k1 k2 n (rc_h X R) (rr_h A t) as := by
  obtain ⟨a, nd', X', R', A', t', H', hc, hr⟩ := h
  obtain ⟨v1, g1, e1, f1, f2⟩ := hc (fun v h => v = some (.int a) ∧ h = rc_h X' R') ⟨rfl, rfl⟩
  obtain ⟨v2, g2, e2, f3, f4⟩ := hr (fun v h => v = some (.int a) ∧ h = rr_h A' t') ⟨rfl, rfl⟩
  subst f1 f2 f3 f4
  exact ⟨a, _, _, e1, e2, nd', X', R', A', t', rfl, rfl, by rw [show 600 * (n + 1) = 600 * n + 600 by omega]; exact H'⟩
theorem rg_sC (X : Nat → Nat → Int32) (R : Nat → Nat → Option Nat) : lw_sC (rc_h X R) := by
  refine ⟨rfl, rfl, fun i hi => ?_, _, rfl⟩
  show rc_cell (rc_ty i) i (X i) (R i) = rb_blank
  rw [rc_ty_ge hi]
  rfl
theorem rg_sR (A : Nat → Nat → Int32) (t : Int32) : lw_sR (rr_h A t) := by
  refine ⟨rfl, rfl, fun i hi => ?_, _, rfl⟩
  have hi : 55 ≤ i := hi
  obtain ⟨j, rfl⟩ : ∃ j, i = j + 54 + 1 := ⟨i - 55, by omega⟩
  show rr_cell (j + 54) (A (j + 54)) = rb_blank
  rfl
theorem rg_Ok : lw_Ok 512 rg_Good := by
  refine ⟨?_, ?_⟩
  · rintro n hC hR ⟨nd, X, R, A, t, rfl, rfl, H⟩
    exact ⟨rg_sC X R, rg_sR A t, nd, X, R, A, t, rfl, rfl, rg_monoB (by omega) H⟩
  · rintro n hC hR hn ⟨nd, X, R, A, t, rfl, rfl, H⟩ j hj a1 a2 a3
    have hB : 600 * n + 600 < 900000 := by omega
    have hB2 : 600 * n ≤ 900000 := by omega
    have hj2 : j = 0 ∨ j = 1 ∨ j = 2 ∨ j = 3 ∨ j = 4 ∨ j = 5 ∨ j = 6 ∨ j = 7 ∨ j = 8 ∨ j = 9 ∨ j = 10 ∨ j = 11 ∨ j = 12 ∨ j = 13 ∨ j = 14 ∨ j = 15 ∨ j = 16 ∨ j = 17 := by omega
    rcases hj2 with rfl | rfl | rfl | rfl | rfl | rfl | rfl | rfl | rfl | rfl | rfl | rfl | rfl | rfl | rfl | rfl | rfl | rfl
    · exact rg_pairG (rg_joinP H)
    · exact rg_pairG (rg_bridgeP H)
    · exact rg_pairG (rg_leaveP H)
    · exact rg_pairG (rg_damP H)
    · exact rg_pairG (rg_exploreP H)
    · exact rg_pairG (rg_forgetP H)
    · exact rg_pairG (rg_routeP H)
    · exact rg_pairG (rg_openP H hB2)
    · exact rg_pairG (rg_closeP H)
    · exact rg_pairG (rg_offerP H)
    · exact rg_pairG (rg_takeP H hB2)
    · exact rg_pairG (rg_tickP H hB)
    · exact rg_pairG (rg_sigP H)
    · exact rg_pairG (rg_atP H)
    · exact rg_pairG (rg_monP H)
    · exact rg_pairG (rg_nodeP H)
    · exact rg_pairG (rg_countP H)
    · exact rg_pairG (rg_conP H)
