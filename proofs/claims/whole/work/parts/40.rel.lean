/-! PURE PART. The relation of class and reference. -/
theorem gI (g : Gs) (c o j : Nat) (v : Int32) (c1 o1 j1 : Nat) : (sI g c o j v).1 c1 o1 j1 = if c1 = c ∧ o1 = o ∧ j1 = j then v else g.1 c1 o1 j1 := by
  unfold sI sA upd
  by_cases h1 : c1 = c ∧ o1 = o
  · obtain ⟨rfl, rfl⟩ := h1
    by_cases h2 : j1 = j
    · subst h2; simp
    · simp [h2]
  · simp only [if_neg h1]
    rw [if_neg (fun q => h1 ⟨q.1, q.2.1⟩)]
theorem gI1 (g : Gs) (c o j : Nat) (v : Int32) : (sI g c o j v).2 = g.2 := rfl
theorem gL (g : Gs) (c j : Nat) (v : Int64) (c1 j1 : Nat) : (sL g c j v).2.1 c1 j1 = if c1 = c ∧ j1 = j then v else g.2.1 c1 j1 := by
  unfold sL vp_updL
  by_cases h1 : c1 = c
  · subst h1
    by_cases h2 : j1 = j
    · subst h2; simp
    · simp [h2]
  · simp only [if_neg h1]
    rw [if_neg (fun q => h1 q.1)]
theorem gL1 (g : Gs) (c j : Nat) (v : Int64) : (sL g c j v).1 = g.1 := rfl
theorem gL2 (g : Gs) (c j : Nat) (v : Int64) : (sL g c j v).2.2 = g.2.2 := rfl
def lenN (lo hi : Int32) : Nat := (hi.toInt - lo.toInt + 1).toNat
def itN (g : Gs) (o : Nat) : Nat → Nat
  | 0 => 1
  | d + 1 => itN g o d * lenN (g.1 5 o d) (g.1 6 o d)
def rs (g : Gs) (r : Nat) : Nat := (g.1 14 0 r).toNatClampNeg
def rl (g : Gs) (r : Nat) : Nat := (g.1 15 0 r).toNatClampNeg
def rwOk (g : Gs) (P r : Nat) : Prop := g.1 14 0 r = nI (rs g r) ∧ g.1 15 0 r = nI (rl g r) ∧ rl g r ≤ 500 ∧ rs g r + rl g r ≤ P ∧ g.1 32 0 r = g.1 14 0 r ∧ g.1 33 0 r = g.1 15 0 r
def inRow (g : Gs) (r p : Nat) : Prop := rs g r ≤ p ∧ p < rs g r + rl g r
def aShape (g : Gs) (i rk : Nat) : Prop := 1 ≤ rk ∧ rk ≤ 3 ∧ g.1 4 (i + 1) 0 = nI rk ∧ g.1 27 0 i = nI rk ∧ ∀ d, d < rk → g.1 28 0 (3 * i + d) = g.1 5 (i + 1) d ∧ g.1 29 0 (3 * i + d) = g.1 6 (i + 1) d
def aPlain (g : Gs) (R : Nat) (bx : Nat → Bool) (i k rk : Nat) : Prop := ∃ r, r < R ∧ g.1 17 i 0 = nI r ∧ g.1 30 0 i = nI r ∧ rl g r = itN g (i + 1) rk ∧ ∀ p, inRow g r p → bx p = decide (k = 3)
def rcN (g : Gs) (i : Nat) : Nat := lenN (g.1 5 (i + 1) 0) (g.1 6 (i + 1) 0)
def slOk (g : Gs) (R : Nat) (bx : Nat → Bool) (v : Int32) : Prop := v = -1 ∨ ∃ q, q < R ∧ v = nI q ∧ ∀ p, inRow g q p → bx p = false
def aTab (g : Gs) (R S : Nat) (bx : Nat → Bool) (so : Nat → Nat) (i : Nat) : Prop := g.1 17 i 0 = -1 ∧ g.1 30 0 i = nI (so i) ∧ so i + rcN g i ≤ S ∧ rcN g i ≤ 500 ∧ rcN g i ≤ g.2.2 (500 + i) ∧ itN g (i + 1) 2 ≤ 500 ∧ ∀ r, r < rcN g i → g.1 38 0 (so i + r) = g.1 18 i r ∧ slOk g R bx (g.1 18 i r)
def aOk (g : Gs) (R S : Nat) (bx : Nat → Bool) (so : Nat → Nat) (i : Nat) : Prop := ∃ k rk, k ≤ 4 ∧ g.1 16 i 0 = nI k ∧ g.1 26 0 i = nI k ∧ aShape g i rk ∧ (k ≠ 4 → aPlain g R bx i k rk) ∧ (k = 4 → rk = 2 ∧ aTab g R S bx so i)
def clOk (g : Gs) (bx : Nat → Bool) (p : Nat) : Prop := g.2.1 2 p = g.2.1 0 p ∧ (g.1 13 0 p = 0 ∨ g.1 13 0 p = 1) ∧ (bx p = true → g.1 36 0 p = g.1 13 0 p) ∧ (bx p = false → g.1 13 0 p = 1)
/-- arrays, rows, cells -/
def Core (a R P S : Nat) (bx : Nat → Bool) (so : Nat → Nat) (n : Nat) (g : Gs) : Prop :=
  (a ≤ 24 ∧ R ≤ 500 * a + n ∧ P ≤ 500 * a + 100 * n ∧ S ≤ 500 * a) ∧
  (g.1 0 0 0 = nI a ∧ g.1 25 0 0 = nI a) ∧
  (g.1 12 0 0 = nI R ∧ g.1 31 0 0 = nI R ∧ g.1 11 0 0 = nI P ∧ g.1 34 0 0 = nI P ∧ g.1 37 0 0 = nI S) ∧
  (g.2.2 12 = g.2.2 11 ∧ g.2.2 10 = g.2.2 9 ∧ R ≤ g.2.2 11 ∧ P ≤ g.2.2 9 ∧ 32 ≤ g.2.2 11 ∧ g.2.2 11 ≤ 30000 ∧ 64 ≤ g.2.2 9 ∧ g.2.2 9 ≤ 150000) ∧
  (∀ r, r < R → rwOk g P r) ∧
  (∀ p, p < P → clOk g bx p) ∧
  (∀ i, i < a → aOk g R S bx so i) ∧
  (∀ i j, i < j → j < a → g.1 16 i 0 = 4 → g.1 16 j 0 = 4 → so i + rcN g i ≤ so j) ∧
  (∀ i, g.2.2 (500 + i) ≤ 500)
/-- code, which, the shape, the list -/
def Cw (g : Gs) : Prop := g.1 20 0 0 = g.1 1 0 0 ∧ g.1 21 0 0 = g.1 2 0 0
def Shp (d : Nat) (g : Gs) : Prop := d ≤ 3 ∧ g.1 4 0 0 = nI d ∧ g.1 22 0 0 = nI d ∧ ∀ j, j < 3 → g.1 23 0 j = g.1 5 0 j ∧ g.1 24 0 j = g.1 6 0 j
def Lns (k : Nat) (g : Gs) : Prop := k ≤ 30 ∧ g.1 7 0 0 = nI k ∧ g.1 39 0 0 = nI k ∧ ∀ j, j < k → g.1 40 0 j = g.1 8 0 j ∧ g.1 41 0 j = g.1 9 0 j ∧ g.1 42 0 j = g.1 10 0 j ∧ g.2.1 3 j = g.2.1 1 j
def RI (n : Nat) (g : Gs) : Prop := Cw g ∧ (∃ d, Shp d g) ∧ (∃ k, Lns k g) ∧ ∃ a R P S bx so, Core a R P S bx so n g
/-- what the core rests on -/
def coreC (c o : Nat) : Bool := !(c == 1 || c == 2 || c == 3 || c == 7 || c == 8 || c == 9 || c == 10 || c == 20 || c == 21 || c == 22 || c == 23 || c == 24 || c == 39 || c == 40 || c == 41 || c == 42 || c == 44) && !((c == 4 || c == 5 || c == 6) && o == 0)
theorem itN_congr {g g2 : Gs} {o : Nat} (h5 : g2.1 5 o = g.1 5 o) (h6 : g2.1 6 o = g.1 6 o) : ∀ d, itN g2 o d = itN g o d := by
  intro d
  induction d with
  | zero => rfl
  | succ d ih => simp only [itN, ih, h5, h6]
theorem Core_congr {a R P S n : Nat} {bx : Nat → Bool} {so : Nat → Nat} {g g2 : Gs} (C : Core a R P S bx so n g) (h : ∀ c o, coreC c o = true → g2.1 c o = g.1 c o) (h0 : g2.2.1 0 = g.2.1 0) (h2 : g2.2.1 2 = g.2.1 2) (hN : g2.2.2 = g.2.2) : Core a R P S bx so n g2 := by
  have hc : ∀ c o, c ≠ 4 → c ≠ 5 → c ≠ 6 → coreC c 0 = true → g2.1 c o = g.1 c o := fun c o h4 h5 h6 hc => h c o (by
    simp only [coreC] at hc ⊢
    simpa [h4, h5, h6] using hc)
  have e4 : ∀ i, g2.1 4 (i + 1) = g.1 4 (i + 1) := fun i => h 4 (i + 1) (by simp [coreC])
  have e5 : ∀ i, g2.1 5 (i + 1) = g.1 5 (i + 1) := fun i => h 5 (i + 1) (by simp [coreC])
  have e6 : ∀ i, g2.1 6 (i + 1) = g.1 6 (i + 1) := fun i => h 6 (i + 1) (by simp [coreC])
  have eit : ∀ i d, itN g2 (i + 1) d = itN g (i + 1) d := fun i d => itN_congr (e5 i) (e6 i) d
  simp only [Core, rwOk, rs, rl, clOk, aOk, aShape, aPlain, aTab, slOk, inRow, rcN, hN, h0, h2, e4, e5, e6, eit, hc 0 _ (by decide) (by decide) (by decide) (by decide), hc 25 _ (by decide) (by decide) (by decide) (by decide), hc 12 _ (by decide) (by decide) (by decide) (by decide), hc 31 _ (by decide) (by decide) (by decide) (by decide), hc 11 _ (by decide) (by decide) (by decide) (by decide), hc 34 _ (by decide) (by decide) (by decide) (by decide), hc 37 _ (by decide) (by decide) (by decide) (by decide), hc 14 _ (by decide) (by decide) (by decide) (by decide), hc 15 _ (by decide) (by decide) (by decide) (by decide), hc 32 _ (by decide) (by decide) (by decide) (by decide), hc 33 _ (by decide) (by decide) (by decide) (by decide), hc 13 _ (by decide) (by decide) (by decide) (by decide), hc 36 _ (by decide) (by decide) (by decide) (by decide), hc 16 _ (by decide) (by decide) (by decide) (by decide), hc 26 _ (by decide) (by decide) (by decide) (by decide), hc 27 _ (by decide) (by decide) (by decide) (by decide), hc 28 _ (by decide) (by decide) (by decide) (by decide), hc 29 _ (by decide) (by decide) (by decide) (by decide), hc 17 _ (by decide) (by decide) (by decide) (by decide), hc 30 _ (by decide) (by decide) (by decide) (by decide), hc 18 _ (by decide) (by decide) (by decide) (by decide), hc 38 _ (by decide) (by decide) (by decide) (by decide)] at C ⊢
  exact C
theorem Core_n {a R P S n : Nat} {bx : Nat → Bool} {so : Nat → Nat} {g : Gs} (C : Core a R P S bx so n g) : Core a R P S bx so (n + 1) g := by
  obtain ⟨hA, h⟩ := C
  exact ⟨by omega, h⟩
theorem RI_def (n : Nat) (g : Gs) (h : RI n g) (_ : n < 512) : RI (n + 1) g := by
  obtain ⟨h1, h2, h3, a, R, P, S, bx, so, C⟩ := h
  exact ⟨h1, h2, h3, a, R, P, S, bx, so, Core_n C⟩
theorem RI_0 : RI 0 g0 := by
  refine ⟨⟨rfl, rfl⟩, ⟨0, by decide, rfl, rfl, fun j _ => ⟨rfl, rfl⟩⟩, ⟨0, by decide, rfl, rfl, fun j hj => absurd hj (by omega)⟩, 0, 0, 0, 0, fun _ => false, fun _ => 0, ?_⟩
  refine ⟨by decide, ⟨rfl, rfl⟩, ⟨rfl, rfl, rfl, rfl, rfl⟩, by decide, fun r hr => absurd hr (by omega), fun p hp => absurd hp (by omega), fun i hi => absurd hi (by omega), fun i j _ hj => absurd hj (by omega), fun i => ?_⟩
  show (if 500 + i = 9 ∨ 500 + i = 10 then 64 else if 500 + i = 11 ∨ 500 + i = 12 then 32 else 0) ≤ 500
  rw [if_neg (by omega), if_neg (by omega)]
  omega
theorem CB_0 {n : Nat} {g g2 : Gs} (h : RI n g) (hN : g2.2.2 = g.2.2) : CB 0 0 g g2 := by
  obtain ⟨-, -, -, a, R, P, S, bx, so, -, -, -, h4, -⟩ := h
  unfold CB
  rw [hN]
  omega
