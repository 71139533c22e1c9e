/-! the relation between the class's heap (X, R) and the reference's arrays A -/
/-- a frame: its row x in the class, its column y in the reference; op, to: the openings and receivers of the connections -/
def rg_F (x y op to : Nat → Int32) : Prop := ∃ k p a b u v s t : Nat,
  (y 8 = nI k ∧ x 0 = nI (k + 1) ∧ k ≤ 5) ∧ (y 9 = nI p ∧ x 1 = nI p ∧ p ≤ 3) ∧ (y 10 = nI a ∧ x 2 = nI a ∧ 1 ≤ a ∧ a ≤ 9) ∧ (y 11 = nI b ∧ x 3 = nI b ∧ 1 ≤ b ∧ b ≤ 9)
  ∧ (y 12 = nI u - 1 ∧ y 13 = nI v - 1 ∧ rk_pth u v ∧ x 4 = nI (u + 4 * v)) ∧ (y 14 = nI s - 1 ∧ y 15 = nI t - 1 ∧ rk_pth s t ∧ x 5 = nI (s + 4 * t))
  ∧ (k = 0 → u = 0 ∧ ∃ g, g < 8 ∧ y 16 = nI g ∧ x 6 = nI g)
  ∧ (2 ≤ k → ∃ c o O z : Nat, c < 4 ∧ y 17 = nI c ∧ x 7 = nI c ∧ y 18 = nI o ∧ x 8 = nI o ∧ op c = nI O ∧ o ≤ O ∧ O ≤ 1000000 ∧ y 19 = nI z ∧ x 9 = nI z ∧ z < 8 ∧ (k = 2 → x 10 = y 20 ∧ (o = O → y 11 = to c)))
theorem rg_F_congr {x y op to x' y' op' to' : Nat → Int32} (h : rg_F x y op to) (hx : ∀ j, j ≤ 10 → x' j = x j) (hy : ∀ j, 8 ≤ j → j ≤ 20 → y' j = y j) (ho : ∀ c, c < 4 → op' c = op c) (ht : ∀ c, c < 4 → to' c = to c) : rg_F x' y' op' to' := by
  obtain ⟨k, p, a, b, u, v, s, t, h1, h2, h3, h4, h5, h6, h7, h8⟩ := h
  refine ⟨k, p, a, b, u, v, s, t, ?_, ?_, ?_, ?_, ?_, ?_, ?_, ?_⟩
  · rw [hy 8 (by omega) (by omega), hx 0 (by omega)]; exact h1
  · rw [hy 9 (by omega) (by omega), hx 1 (by omega)]; exact h2
  · rw [hy 10 (by omega) (by omega), hx 2 (by omega)]; exact h3
  · rw [hy 11 (by omega) (by omega), hx 3 (by omega)]; exact h4
  · rw [hy 12 (by omega) (by omega), hy 13 (by omega) (by omega), hx 4 (by omega)]; exact h5
  · rw [hy 14 (by omega) (by omega), hy 15 (by omega) (by omega), hx 5 (by omega)]; exact h6
  · rw [hy 16 (by omega) (by omega), hx 6 (by omega)]; exact h7
  · intro hk
    obtain ⟨c, o, O, z, g⟩ := h8 hk
    refine ⟨c, o, O, z, ?_⟩
    rw [hy 17 (by omega) (by omega), hy 18 (by omega) (by omega), hy 19 (by omega) (by omega), hy 20 (by omega) (by omega), hy 11 (by omega) (by omega), hx 7 (by omega), hx 8 (by omega), hx 9 (by omega), hx 10 (by omega), ho c g.1, ht c g.1]
    exact g
/-- where the node object of ring r at place p lies -/
def rg_o (nd : Nat → Nat → Nat) (r p : Nat) : Nat := 4 + 44 * r + 8 * nd r p
def rg_W (nd : Nat → Nat → Nat) (R : Nat → Nat → Option Nat) : Prop := rc_wf R ∧ ∀ r, r < 3 → ∀ p, p < 5 → R (2 + 44 * r + 1) p = some (rg_o nd r p) ∧ nd r p < 5 ∧ ∀ p', p' < 5 → nd r p = nd r p' → p = p'
/-- node n stands on ring r at place p, w frames wait (the first at head h), q pairs -/
def rg_N (nd : Nat → Nat → Nat) (X A : Nat → Nat → Int32) (n r p w h q : Nat) : Prop :=
  (r < 3 ∧ p < 5 ∧ w ≤ 4 ∧ h < 4 ∧ q ≤ 3) ∧ (A 3 n = nI r ∧ A 0 n = nI p ∧ A 4 n = nI w ∧ A 5 n = nI q)
  ∧ (X (rg_o nd r p) 3 = rr_addr (nI n) ∧ X (rg_o nd r p) 4 = nI h ∧ X (rg_o nd r p) 5 = nI w ∧ X (rg_o nd r p) 6 = nI q)
  ∧ (∀ i, i < w → rg_F (X (rg_o nd r p + 2 + (h + i) % 4)) (fun j => A j (4 * n + i)) (A 41) (A 37))
  ∧ ∀ i, i < q → X (rg_o nd r p + 6) i = A 6 (8 * n + i) ∧ X (rg_o nd r p + 7) i = A 7 (8 * n + i)
/-- who stands where -/
def rg_M (A : Nat → Nat → Int32) : Prop :=
  (∀ r, r < 3 → ∃ m, m ≤ 5 ∧ A 1 r = nI m ∧ (∀ p, p < m → ∃ n, n < 15 ∧ ¬ A 2 n = 0 ∧ A 3 n = nI r ∧ A 0 n = nI p) ∧ ∀ n, n < 15 → ¬ A 2 n = 0 → A 3 n = nI r → ∃ p, p < m ∧ A 0 n = nI p)
  ∧ (∀ n n', n < 15 → n' < 15 → ¬ A 2 n = 0 → ¬ A 2 n' = 0 → A 3 n = A 3 n' → A 0 n = A 0 n' → n = n')
  ∧ ∀ k, k < 3 → (A 2 (9 + 2 * k) = 0 ↔ A 2 (10 + 2 * k) = 0) ∧ (¬ A 2 (9 + 2 * k) = 0 → ¬ A 3 (9 + 2 * k) = A 3 (10 + 2 * k))
def rg_on (A : Nat → Nat → Int32) (r n : Nat) : Prop := n < 15 ∧ ¬ A 2 n = 0 ∧ A 3 n = nI r
/-- a pair of ring r: the i-th of node n, from l to u -/
def rg_pr (A : Nat → Nat → Int32) (r n i l u : Nat) : Prop := rg_on A r n ∧ (∃ q, A 5 n = nI q ∧ i < q ∧ q ≤ 3) ∧ A 6 (8 * n + i) = nI l ∧ A 7 (8 * n + i) = nI u
/-- the pairs while a token or a frame of priority p goes round -/
def rg_S (A : Nat → Nat → Int32) (r p : Nat) : Prop :=
  (∀ n i q, rg_on A r n → A 5 n = nI q → q ≤ 3 → i < q → ∃ l u, A 6 (8 * n + i) = nI l ∧ A 7 (8 * n + i) = nI u ∧ l < u ∧ u ≤ p)
  ∧ (∀ n n' i i' l u l' u', u ≤ 3 → u' ≤ 3 → l < u → l' < u' → rg_pr A r n i l u → rg_pr A r n' i' l' u' → (n = n' ∧ i = i') ∨ u ≤ l' ∨ u' ≤ l)
  ∧ ∀ n i i' l u l' u', u ≤ 3 → u' ≤ 3 → l < u → l' < u' → i < i' → rg_pr A r n i l u → rg_pr A r n i' l' u' → u ≤ l'
/-- the pairs while a purge goes round: none behind the monitor (at place pm) and ahead of place a -/
def rg_P (A : Nat → Nat → Int32) (r a : Nat) : Prop := A 29 r = A 30 r ∧ ∃ mn pm, rg_on A r mn ∧ rr_addr (nI mn) = A 30 r ∧ A 0 mn = nI pm ∧ pm < 5 ∧ ∀ n p, rg_on A r n → A 0 n = nI p → p < 5 → ((pm < a ∧ pm < p ∧ p < a) ∨ (a ≤ pm ∧ (pm < p ∨ p < a))) → A 5 n = 0
/-- ring r: m members, AT a, quiet y, signal k, priority p, reserved v -/
def rg_R (X A : Nat → Nat → Int32) (r m a y k p v : Nat) : Prop :=
  (m ≤ 5 ∧ (a < m ∨ a = 0) ∧ y < 6 ∧ k ≤ 4 ∧ (¬ k = 0 → 0 < m) ∧ p ≤ 3 ∧ v ≤ 3)
  ∧ (A 1 r = nI m ∧ A 22 r = nI a ∧ A 23 r = nI y ∧ A 21 r = nI k ∧ A 24 r = nI p ∧ A 25 r = nI v)
  ∧ (X (2 + 44 * r) 0 = nI r ∧ X (2 + 44 * r) 3 = nI m ∧ X (2 + 44 * r) 4 = nI a ∧ X (2 + 44 * r) 5 = nI y ∧ X (2 + 44 * r) 6 = A 30 r)
  ∧ (X (2 + 44 * r) 7 = A 31 (3 * r) ∧ X (2 + 44 * r) 8 = A 31 (3 * r + 1) ∧ X (2 + 44 * r) 9 = A 31 (3 * r + 2))
  ∧ (X (2 + 44 * r + 42) 1 = nI k ∧ X (2 + 44 * r + 42) 2 = nI p ∧ X (2 + 44 * r + 42) 3 = nI v ∧ X (2 + 44 * r + 42) 4 = A 29 r)
  ∧ (X (2 + 44 * r + 42) 5 = A 26 r ∧ X (2 + 44 * r + 42) 6 = A 27 r ∧ X (2 + 44 * r + 42) 7 = A 28 r)
  ∧ ((A 26 r = 0 ∨ A 26 r = 1) ∧ (A 27 r = 0 ∨ A 27 r = 1) ∧ (A 28 r = 0 ∨ A 28 r = 1))
  ∧ (A 30 r = 0 ∨ ∃ n, rg_on A r n ∧ rr_addr (nI n) = A 30 r)
  ∧ (k = 2 → rg_F (X (2 + 44 * r + 43)) (fun j => A j (60 + r)) (A 41) (A 37))
  ∧ (k = 1 ∨ k = 2 → rg_S A r p) ∧ (k = 4 → rg_P A r a)
/-- the route from station a + 1 to station b + 1 -/
def rg_T (X A : Nat → Nat → Int32) (a b : Nat) : Prop := (A 32 (9 * a + b) = 0 ∧ X (156 + (a + 1)) (b + 1) = -1) ∨ (A 32 (9 * a + b) = 1 ∧ ∃ u v, rk_pth u v ∧ A 33 (9 * a + b) = nI u - 1 ∧ A 34 (9 * a + b) = nI v - 1 ∧ X (156 + (a + 1)) (b + 1) = nI (u + 4 * v))
/-- connection c, while it is not free -/
def rg_C (X A : Nat → Nat → Int32) (c B a b p u v f s k st e ik is ti tr : Nat) : Prop :=
  (1 ≤ a ∧ a ≤ 9 ∧ 1 ≤ b ∧ b ≤ 9 ∧ p ≤ 3 ∧ rk_pth u v ∧ f ≤ 3 * B ∧ s ≤ 3 ∧ s ≤ k ∧ k ≤ 8 ∧ st < 8 ∧ e ≤ B ∧ ik ≤ 4 ∧ is < 4 ∧ ti < 60 ∧ tr ≤ 4)
  ∧ (A 36 c = nI a ∧ X (135 + 5 * c) 5 = nI a ∧ A 37 c = nI b ∧ X (135 + 5 * c) 6 = nI b ∧ A 38 c = nI p ∧ X (135 + 5 * c) 7 = nI p)
  ∧ (A 39 c = nI u - 1 ∧ A 40 c = nI v - 1 ∧ X (135 + 5 * c) 8 = nI (u + 4 * v))
  ∧ (A 42 c = nI f ∧ X (135 + 5 * c) 9 = nI f ∧ A 43 c = nI s ∧ X (135 + 5 * c) 10 = nI s ∧ A 47 c = nI ti ∧ X (135 + 5 * c) 11 = nI ti ∧ A 48 c = nI tr ∧ X (135 + 5 * c) 12 = nI tr ∧ A 49 c = nI e ∧ X (135 + 5 * c) 13 = nI e)
  ∧ (X (135 + 5 * c) 14 = A 46 c ∧ (A 46 c = 0 ∨ A 46 c = 1) ∧ X (135 + 5 * c) 15 = A 52 c ∧ (A 52 c = 0 ∨ A 52 c = 1) ∧ X (135 + 5 * c) 16 = A 53 c ∧ (A 53 c = 0 ∨ A 53 c = 1))
  ∧ (A 44 c = nI k ∧ X (135 + 5 * c + 1) 3 = nI k ∧ X (135 + 5 * c + 1) 2 = nI st ∧ ∀ i, i < k → X (135 + 5 * c + 2) ((st + i) % 8) = A 45 (8 * c + i))
  ∧ (A 50 c = nI ik ∧ X (135 + 5 * c + 3) 3 = nI ik ∧ X (135 + 5 * c + 3) 2 = nI is ∧ ∀ i, i < ik → X (135 + 5 * c + 4) ((is + i) % 4) = A 51 (4 * c + i))
  ∧ (A 35 c = 1 → tr < 4 ∧ ¬ A 2 (a - 1) = 0 ∧ ¬ A 2 (b - 1) = 0)
def rg_L (X A : Nat → Nat → Int32) (c B : Nat) : Prop :=
  (X (135 + 5 * c) 0 = nI c ∧ X (135 + 5 * c + 1) 1 = 7 ∧ X (135 + 5 * c + 3) 1 = 3) ∧ X (135 + 5 * c) 3 = A 35 c ∧ (A 35 c = 0 ∨ A 35 c = 1 ∨ A 35 c = 2)
  ∧ (∃ O, O ≤ B ∧ A 41 c = nI O ∧ X (135 + 5 * c) 4 = nI O) ∧ (¬ A 35 c = 0 → ∃ a b p u v f s k st e ik is ti tr, rg_C X A c B a b p u v f s k st e ik is ti tr)
def rg_Rel (nd : Nat → Nat → Nat) (X : Nat → Nat → Int32) (R : Nat → Nat → Option Nat) (A : Nat → Nat → Int32) (t : Int32) (B : Nat) : Prop :=
  (rg_W nd R ∧ X 0 3 = t) ∧ rg_M A ∧ (∀ r, r < 3 → ∃ m a y k p v, rg_R X A r m a y k p v) ∧ (∀ n, n < 15 → ¬ A 2 n = 0 → ∃ r p w h q, rg_N nd X A n r p w h q)
  ∧ (∀ a b, a < 9 → b < 9 → rg_T X A a b) ∧ ∀ c, c < 4 → rg_L X A c B
