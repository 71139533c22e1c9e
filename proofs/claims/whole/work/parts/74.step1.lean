/-! silence, purge, token -/
section RGI
variable {nd : Nat → Nat → Nat} {X X' A A' : Nat → Nat → Int32} {R : Nat → Nat → Option Nat} {t : Int32} {B : Nat}
theorem rg_up_id {X : Nat → Nat → Int32} {p j : Nat} {v : Int32} (h : X p j = v) : rr_up X p j v = X := by
  funext q i
  rw [rr_up_at]
  split
  · rename_i e
    rw [e.1, e.2, h]
  · rfl
theorem rg_silent {r m a y k p v : Nat} (hr : r < 3) (H : rg_Rel nd X R A t B) (h9 : rg_R X A r m a y k p v) : rg_Rel nd (rr_up (rr_up X (2 + 44 * r + 42) 1 0) (2 + 44 * r) 5 0) R (rr_up (rr_up A 21 r 0) 23 r 0) t B := by
  obtain ⟨e1, e2, e3, e4⟩ := rg_R_E h9
  obtain ⟨g0, g1, g2, g3, g4, g5, g6, g7, g8, g9, g10⟩ := h9
  refine rg_ring hr H (fun q j hq => by rw [rk_ne (by omega), rk_ne (by omega)]) (fun j i hj => by rw [rr_up_at, if_neg (by omega), rr_up_at, if_neg (by omega)]) ⟨m, a, 0, 0, p, v, rg_R_mk ?_ ⟨g0.1, g0.2.1, by omega, by omega, fun h => absurd rfl h, g0.2.2.2.2.2.1, g0.2.2.2.2.2.2⟩ ?_ ?_ ?_ (fun h => absurd h (by omega)) (fun h => absurd h (by omega)) (fun h => absurd h (by omega))⟩
  · unfold rg_E
    simp [rr_up_at, e1, e2, e3, e4]
  · simp only [rr_up_at]
    simp [g1, nI]
  · simpa [rr_up_at] using g6
  · unfold rg_on
    simpa [rr_up_at, rg_on] using g7
/-- a purge begins behind the monitor mn, at place pm -/
theorem rg_purge {r m a y k p v mn pm : Nat} {x : Int32} (hr : r < 3) (H : rg_Rel nd X R A t B) (h9 : rg_R X A r m a y k p v) (hon : rg_on A r mn) (hmon : rr_addr (nI mn) = A 30 r) (hpm : A 0 mn = nI pm) (hpmm : pm < m) (hx : x = nI (if pm + 1 < m then pm + 1 else 0)) : rg_Rel nd (rk_spX (rr_up X (2 + 44 * r) 4 x) (2 + 44 * r)) R (rr_purge A r mn) t B := by
  obtain ⟨e1, e2, e3, e4⟩ := rg_R_E h9
  obtain ⟨g0, g1, g2, g3, g4, g5, g6, g7, g8, g9, g10⟩ := h9
  have hat : rr_rem (A 0 mn + 1) (A 1 r) = x := by
    rw [hpm, nI_1, g1.1, hx]
    exact rg_remp m (by omega) (by omega) (pm + 1) (by omega) (by omega)
  have h30 : rr_up X (2 + 44 * r) 4 x (2 + 44 * r) 6 = A 30 r := (rk_ne2 (by decide)).trans e1.2.2.2.2
  have h31 : rr_up X (2 + 44 * r) 4 x (2 + 44 * r) 7 = A 31 (3 * r) := (rk_ne2 (by decide)).trans e2.1
  have hplace : ∀ n p', rg_on A r n → A 0 n = nI p' → p' < 5 → p' < m := by
    intro n p' q1 q2 q3
    obtain ⟨m', b1, b2, b3, b4⟩ := H.2.1.1 r hr
    have e : m' = m := (nI_eq (by omega) (by omega)).mp (b2.symm.trans g1.1)
    obtain ⟨p2, c1, c2⟩ := b4 n q1.1 q1.2.1 q1.2.2
    have := (nI_eq (by omega) (by omega)).mp (c2.symm.trans q2)
    omega
  unfold rk_spX rr_purge
  rw [h30, h31, hat]
  refine rg_ring hr H (fun q j hq => by rw [rk_ne (by omega), rk_ne (by omega), rk_ne (by omega), rk_ne (by omega)]) (fun j i hj => by rw [rr_up_at, if_neg (by omega), rr_up_at, if_neg (by omega), rr_up_at, if_neg (by omega), rr_up_at, if_neg (by omega)]) ⟨m, if pm + 1 < m then pm + 1 else 0, y, 4, p, v, rg_R_mk ?_ ⟨g0.1, by split <;> omega, g0.2.2.1, by omega, fun _ => by omega, g0.2.2.2.2.2.1, g0.2.2.2.2.2.2⟩ ?_ ?_ ?_ (fun h => absurd h (by omega)) (fun h => absurd h (by omega)) (fun _ => ?_)⟩
  · unfold rg_E
    simp [rr_up_at, e1, e2, e3, e4]
  · simp only [rr_up_at]
    simp [g1, hx]
    rfl
  · simpa [rr_up_at] using g6
  · unfold rg_on
    simpa [rr_up_at, rg_on] using g7
  · refine ⟨by simp [rr_up_at], mn, pm, ?_, ?_, ?_, by omega, fun n p' q1 q2 q3 q4 => ?_⟩
    · simpa [rg_on, rr_up_at] using hon
    · simpa [rr_up_at] using hmon
    · simpa [rr_up_at] using hpm
    · exfalso
      have q1 : rg_on A r n := by simpa [rg_on, rr_up_at] using q1
      have q2 : A 0 n = nI p' := by simpa [rr_up_at] using q2
      have := hplace n p' q1 q2 q3
      split at q4 <;> omega
/-- a token is set on the ring -/
theorem rg_setTok {r m a y k p v p' v' : Nat} {x x' : Int32} (hr : r < 3) (H : rg_Rel nd X R A t B) (h9 : rg_R X A r m a y k p v) (hm : 0 < m) (hp : p' ≤ 3) (hv : v' ≤ 3) (hx : x = nI p') (hx' : x' = nI v') (hS : rg_S A r p') : rg_Rel nd (rk_btX X (2 + 44 * r + 42) x x') R (rr_tok A r x x') t B := by
  obtain ⟨e1, e2, e3, e4⟩ := rg_R_E h9
  obtain ⟨g0, g1, g2, g3, g4, g5, g6, g7, g8, g9, g10⟩ := h9
  unfold rk_btX rk_cmX rr_tok
  refine rg_ring hr H (fun q j hq => by rw [rk_ne (by omega), rk_ne (by omega), rk_ne (by omega), rk_ne (by omega), rk_ne (by omega), rk_ne (by omega)]) (fun j i hj => by rw [rr_up_at, if_neg (by omega), rr_up_at, if_neg (by omega), rr_up_at, if_neg (by omega), rr_up_at, if_neg (by omega), rr_up_at, if_neg (by omega), rr_up_at, if_neg (by omega)]) ⟨m, a, y, 1, p', v', rg_R_mk ?_ ⟨g0.1, g0.2.1, g0.2.2.1, by omega, fun _ => hm, hp, hv⟩ ?_ ?_ ?_ (fun h => absurd h (by omega)) (fun _ => ?_) (fun h => absurd h (by omega))⟩
  · unfold rg_E
    simp [rr_up_at, e1, e2, e3, e4]
  · simp only [rr_up_at]
    simp [g1, hx, hx']
    rfl
  · simp [rr_up_at]
  · unfold rg_on
    simpa [rr_up_at, rg_on] using g7
  · refine rg_S_congr ⟨fun n => ?_, fun n _ => ?_⟩ hS
    · simp [rg_on, rr_up_at]
    · simp [rr_up_at]
end RGI
