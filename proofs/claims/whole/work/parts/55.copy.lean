/-! PURE: cells copied on both sides. -/
def nb (v : Int32) : Int32 := vp_nar .boolean v
theorem nb0 : nb 0 = 0 := by decide
theorem nb1 : nb 1 = 1 := by decide
theorem nb01 {v : Int32} (h : v = 0 ∨ v = 1) : nb v = v := by rcases h with rfl | rfl <;> decide
def cgX (g : Gs) (t : Nat) (σ : Nat → Nat) (m : Nat) : Gs := (fun c o j => if c = 13 ∧ o = 0 ∧ t ≤ j ∧ j < t + m then nb (g.1 13 0 (σ (j - t))) else g.1 c o j, fun c p => if c = 0 ∧ t ≤ p ∧ p < t + m then g.2.1 0 (σ (p - t)) else g.2.1 c p, g.2.2)
def cgM (g : Gs) (t : Nat) (σ : Nat → Nat) (m : Nat) : Gs := (fun c o j => if c = 36 ∧ o = 0 ∧ t ≤ j ∧ j < t + m then nb (g.1 36 0 (σ (j - t))) else g.1 c o j, fun c p => if c = 2 ∧ t ≤ p ∧ p < t + m then g.2.1 2 (σ (p - t)) else g.2.1 c p, g.2.2)
theorem cgX_1 (g : Gs) (t : Nat) (σ : Nat → Nat) (m c o j : Nat) : (cgX g t σ m).1 c o j = if c = 13 ∧ o = 0 ∧ t ≤ j ∧ j < t + m then nb (g.1 13 0 (σ (j - t))) else g.1 c o j := rfl
theorem cgX_2 (g : Gs) (t : Nat) (σ : Nat → Nat) (m c p : Nat) : (cgX g t σ m).2.1 c p = if c = 0 ∧ t ≤ p ∧ p < t + m then g.2.1 0 (σ (p - t)) else g.2.1 c p := rfl
theorem cgX_3 (g : Gs) (t : Nat) (σ : Nat → Nat) (m : Nat) : (cgX g t σ m).2.2 = g.2.2 := rfl
theorem cgM_1 (g : Gs) (t : Nat) (σ : Nat → Nat) (m c o j : Nat) : (cgM g t σ m).1 c o j = if c = 36 ∧ o = 0 ∧ t ≤ j ∧ j < t + m then nb (g.1 36 0 (σ (j - t))) else g.1 c o j := rfl
theorem cgM_2 (g : Gs) (t : Nat) (σ : Nat → Nat) (m c p : Nat) : (cgM g t σ m).2.1 c p = if c = 2 ∧ t ≤ p ∧ p < t + m then g.2.1 2 (σ (p - t)) else g.2.1 c p := rfl
theorem cgM_3 (g : Gs) (t : Nat) (σ : Nat → Nat) (m : Nat) : (cgM g t σ m).2.2 = g.2.2 := rfl
theorem cgX_nil (g : Gs) (t : Nat) (σ : Nat → Nat) : cgX g t σ 0 = g := by
  refine Prod.ext (funext fun c => funext fun o => funext fun j => ?_) (Prod.ext (funext fun c => funext fun p => ?_) rfl)
  · rw [cgX_1, if_neg (by omega)]
  · rw [cgX_2, if_neg (by omega)]
theorem cgM_nil (g : Gs) (t : Nat) (σ : Nat → Nat) : cgM g t σ 0 = g := by
  refine Prod.ext (funext fun c => funext fun o => funext fun j => ?_) (Prod.ext (funext fun c => funext fun p => ?_) rfl)
  · rw [cgM_1, if_neg (by omega)]
  · rw [cgM_2, if_neg (by omega)]
theorem cgX_cons {g : Gs} {t m k : Nat} {σ τ ρ : Nat → Nat} (h1 : ∀ q, q < m → ρ q = σ q) (h2 : ∀ q, q < k → ρ (m + q) = τ q ∧ τ q < t) : cgX (cgX g t σ m) (t + m) τ k = cgX g t ρ (m + k) := by
  refine Prod.ext (funext fun c => funext fun o => funext fun j => ?_) (Prod.ext (funext fun c => funext fun p => ?_) rfl)
  · rw [cgX_1, cgX_1, cgX_1, cgX_1]
    by_cases q1 : c = 13 ∧ o = 0 ∧ t + m ≤ j ∧ j < t + m + k
    · obtain ⟨e1, e2⟩ := h2 (j - (t + m)) (by omega)
      rw [if_pos q1, if_pos (show c = 13 ∧ o = 0 ∧ t ≤ j ∧ j < t + (m + k) by omega), if_neg (by omega), ← e1, show m + (j - (t + m)) = j - t by omega]
    · rw [if_neg q1]
      by_cases q2 : c = 13 ∧ o = 0 ∧ t ≤ j ∧ j < t + m
      · rw [if_pos q2, if_pos (show c = 13 ∧ o = 0 ∧ t ≤ j ∧ j < t + (m + k) by omega), h1 _ (by omega)]
      · rw [if_neg q2, if_neg (by omega)]
  · rw [cgX_2, cgX_2, cgX_2, cgX_2]
    by_cases q1 : c = 0 ∧ t + m ≤ p ∧ p < t + m + k
    · obtain ⟨e1, e2⟩ := h2 (p - (t + m)) (by omega)
      rw [if_pos q1, if_pos (show c = 0 ∧ t ≤ p ∧ p < t + (m + k) by omega), if_neg (by omega), ← e1, show m + (p - (t + m)) = p - t by omega]
    · rw [if_neg q1]
      by_cases q2 : c = 0 ∧ t ≤ p ∧ p < t + m
      · rw [if_pos q2, if_pos (show c = 0 ∧ t ≤ p ∧ p < t + (m + k) by omega), h1 _ (by omega)]
      · rw [if_neg q2, if_neg (by omega)]
theorem cgM_cons {g : Gs} {t m k : Nat} {σ τ ρ : Nat → Nat} (h1 : ∀ q, q < m → ρ q = σ q) (h2 : ∀ q, q < k → ρ (m + q) = τ q ∧ τ q < t) : cgM (cgM g t σ m) (t + m) τ k = cgM g t ρ (m + k) := by
  refine Prod.ext (funext fun c => funext fun o => funext fun j => ?_) (Prod.ext (funext fun c => funext fun p => ?_) rfl)
  · rw [cgM_1, cgM_1, cgM_1, cgM_1]
    by_cases q1 : c = 36 ∧ o = 0 ∧ t + m ≤ j ∧ j < t + m + k
    · obtain ⟨e1, e2⟩ := h2 (j - (t + m)) (by omega)
      rw [if_pos q1, if_pos (show c = 36 ∧ o = 0 ∧ t ≤ j ∧ j < t + (m + k) by omega), if_neg (by omega), ← e1, show m + (j - (t + m)) = j - t by omega]
    · rw [if_neg q1]
      by_cases q2 : c = 36 ∧ o = 0 ∧ t ≤ j ∧ j < t + m
      · rw [if_pos q2, if_pos (show c = 36 ∧ o = 0 ∧ t ≤ j ∧ j < t + (m + k) by omega), h1 _ (by omega)]
      · rw [if_neg q2, if_neg (by omega)]
  · rw [cgM_2, cgM_2, cgM_2, cgM_2]
    by_cases q1 : c = 2 ∧ t + m ≤ p ∧ p < t + m + k
    · obtain ⟨e1, e2⟩ := h2 (p - (t + m)) (by omega)
      rw [if_pos q1, if_pos (show c = 2 ∧ t ≤ p ∧ p < t + (m + k) by omega), if_neg (by omega), ← e1, show m + (p - (t + m)) = p - t by omega]
    · rw [if_neg q1]
      by_cases q2 : c = 2 ∧ t ≤ p ∧ p < t + m
      · rw [if_pos q2, if_pos (show c = 2 ∧ t ≤ p ∧ p < t + (m + k) by omega), h1 _ (by omega)]
      · rw [if_neg q2, if_neg (by omega)]
theorem cgX_one (g : Gs) (s t : Nat) : sI (sL g 0 t (g.2.1 0 s)) 13 0 t (nb (g.1 13 0 s)) = cgX g t (fun _ => s) 1 := by
  refine Prod.ext (funext fun c => funext fun o => funext fun j => ?_) (Prod.ext (funext fun c => funext fun p => ?_) rfl)
  · rw [gI, gL1, cgX_1]
    by_cases q : c = 13 ∧ o = 0 ∧ j = t
    · rw [if_pos q, if_pos (by omega)]
    · rw [if_neg q, if_neg (by omega)]
  · rw [gI1, gL, cgX_2]
    by_cases q : c = 0 ∧ p = t
    · rw [if_pos q, if_pos (by omega)]
    · rw [if_neg q, if_neg (by omega)]
theorem cgM_one (g : Gs) (s t : Nat) : sI (sL g 2 t (g.2.1 2 s)) 36 0 t (nb (g.1 36 0 s)) = cgM g t (fun _ => s) 1 := by
  refine Prod.ext (funext fun c => funext fun o => funext fun j => ?_) (Prod.ext (funext fun c => funext fun p => ?_) rfl)
  · rw [gI, gL1, cgM_1]
    by_cases q : c = 36 ∧ o = 0 ∧ j = t
    · rw [if_pos q, if_pos (by omega)]
    · rw [if_neg q, if_neg (by omega)]
  · rw [gI1, gL, cgM_2]
    by_cases q : c = 2 ∧ p = t
    · rw [if_pos q, if_pos (by omega)]
    · rw [if_neg q, if_neg (by omega)]
theorem cgX_congr {g : Gs} {t m : Nat} {σ ρ : Nat → Nat} (h : ∀ q, q < m → ρ q = σ q) : cgX g t σ m = cgX g t ρ m := by
  have := cgX_cons (g := g) (t := t) (m := m) (k := 0) (σ := σ) (τ := σ) (ρ := ρ) h (fun q hq => by omega)
  rw [cgX_nil] at this
  exact this
theorem cgM_congr {g : Gs} {t m : Nat} {σ ρ : Nat → Nat} (h : ∀ q, q < m → ρ q = σ q) : cgM g t σ m = cgM g t ρ m := by
  have := cgM_cons (g := g) (t := t) (m := m) (k := 0) (σ := σ) (τ := σ) (ρ := ρ) h (fun q hq => by omega)
  rw [cgM_nil] at this
  exact this
theorem copyCells_L {s t n : Nat} (hst : s + n ≤ t) (htn : t + n < 2 ^ 31) : ∀ m i f g, i + m = n → m < f → t + n ≤ g.2.2 9 → g.2.2 10 = g.2.2 9 → m_X3_copyCells_L3 (nI s) (nI t) (nI n) f (nI i) g = some (cgX g (t + i) (fun q => s + i + q) m) := by
  intro m
  induction m with
  | zero =>
    intro i f g hi hf h9 h10
    obtain ⟨f, rfl⟩ : ∃ f2, f = f2 + 1 := ⟨f - 1, by omega⟩
    rw [m_X3_copyCells_L3, if_pos (nI_le (by omega) (by omega)), cgX_nil]
  | succ m ih =>
    intro i f g hi hf h9 h10
    obtain ⟨f, rfl⟩ : ∃ f2, f = f2 + 1 := ⟨f - 1, by omega⟩
    have c1 := inb_m (show s + i < g.2.2 9 by omega) (by omega)
    have c2 := inb_m (show t + i < g.2.2 9 by omega) (by omega)
    have c3 := inb_m (show s + i < g.2.2 10 by omega) (by omega)
    have c4 := inb_m (show t + i < g.2.2 10 by omega) (by omega)
    rw [m_X3_copyCells_L3, if_neg (nI_ge (by omega) (by omega))]
    simp only [nI_add, chk_t c1, chk_t c2, lett, gL2, chk_t c3, chk_t c4, gL1, nI_clamp (show s + i < 2 ^ 31 by omega), nI_clamp (show t + i < 2 ^ 31 by omega), nI_1]
    have e := cgX_one g (s + i) (t + i)
    unfold nb at e
    rw [e, ih (i + 1) f (cgX g (t + i) (fun _ => s + i) 1) (by omega) (by omega) h9 h10]
    rw [show t + (i + 1) = t + i + 1 by omega, cgX_cons (ρ := fun q => s + i + q) (fun q hq => by show s + i + q = s + i; omega) (fun q hq => ⟨by show s + i + (1 + q) = s + (i + 1) + q; omega, by show s + (i + 1) + q < t + i; omega⟩), Nat.add_comm 1 m]
theorem copyCells {s t n : Nat} {g : Gs} (hst : s + n ≤ t) (htn : t + n < 2 ^ 31) (hn : n ≤ 60000) (h9 : t + n ≤ g.2.2 9) (h10 : g.2.2 10 = g.2.2 9) : m_X3_copyCells (nI s) (nI t) (nI n) g = some (cgX g t (fun q => s + q) n) := by
  have h := copyCells_L hst htn n 0 FU g (by omega) (FU_big (by omega)) h9 h10
  rw [nl0] at h
  simp only [m_X3_copyCells, lett, h, Option.bind_some, Nat.add_zero]
theorem copyM {s t : Nat} {g : Gs} (hs : s < 300000) (ht : t < 300000) : m_X5_copy (nI s) (nI t) g = some (cgM g t (fun _ => s) 1) := by
  have e := cgM_one g s t
  unfold nb at e
  simp only [m_X5_copy, chk_t (inb_m hs (by omega)), chk_t (inb_m ht (by omega)), lett, nI_clamp (show s < 2 ^ 31 by omega), nI_clamp (show t < 2 ^ 31 by omega), gL1, e]
/-- the class's and the reference's state after a new array with a copied row -/
def plX (g : Gs) (a R P N : Nat) (kd : Int32) (rk : Nat) (lo hi : Nat → Int32) (σ : Nat → Nat) : Gs :=
  (fun c o j => if c = 0 ∧ o = 0 ∧ j = 0 then nI (a + 1) else if c = 16 ∧ o = a ∧ j = 0 then kd else if c = 17 ∧ o = a ∧ j = 0 then nI R else if c = 4 ∧ o = a + 1 ∧ j = 0 then nI rk else if c = 5 ∧ o = a + 1 ∧ j < rk then lo j else if c = 6 ∧ o = a + 1 ∧ j < rk then hi j else if c = 11 ∧ o = 0 ∧ j = 0 then nI (P + N) else if c = 12 ∧ o = 0 ∧ j = 0 then nI (R + 1) else if c = 13 ∧ o = 0 ∧ P ≤ j ∧ j < P + N then nb (g.1 13 0 (σ (j - P))) else if c = 14 ∧ o = 0 ∧ j = R then nI P else if c = 15 ∧ o = 0 ∧ j = R then nI N else g.1 c o j,
   fun c p => if c = 0 ∧ P ≤ p ∧ p < P + N then g.2.1 0 (σ (p - P)) else g.2.1 c p, g.2.2)
theorem plX_1 (g : Gs) (a R P N : Nat) (kd : Int32) (rk : Nat) (lo hi : Nat → Int32) (σ : Nat → Nat) (c o j : Nat) : (plX g a R P N kd rk lo hi σ).1 c o j = if c = 0 ∧ o = 0 ∧ j = 0 then nI (a + 1) else if c = 16 ∧ o = a ∧ j = 0 then kd else if c = 17 ∧ o = a ∧ j = 0 then nI R else if c = 4 ∧ o = a + 1 ∧ j = 0 then nI rk else if c = 5 ∧ o = a + 1 ∧ j < rk then lo j else if c = 6 ∧ o = a + 1 ∧ j < rk then hi j else if c = 11 ∧ o = 0 ∧ j = 0 then nI (P + N) else if c = 12 ∧ o = 0 ∧ j = 0 then nI (R + 1) else if c = 13 ∧ o = 0 ∧ P ≤ j ∧ j < P + N then nb (g.1 13 0 (σ (j - P))) else if c = 14 ∧ o = 0 ∧ j = R then nI P else if c = 15 ∧ o = 0 ∧ j = R then nI N else g.1 c o j := rfl
theorem plX_2 (g : Gs) (a R P N : Nat) (kd : Int32) (rk : Nat) (lo hi : Nat → Int32) (σ : Nat → Nat) (c p : Nat) : (plX g a R P N kd rk lo hi σ).2.1 c p = if c = 0 ∧ P ≤ p ∧ p < P + N then g.2.1 0 (σ (p - P)) else g.2.1 c p := rfl
def plM (g : Gs) (a R P N : Nat) (kd : Int32) (rk : Nat) (lo hi : Nat → Int32) (σ : Nat → Nat) : Gs :=
  (fun c o j => if c = 25 ∧ o = 0 ∧ j = 0 then nI (a + 1) else if c = 26 ∧ o = 0 ∧ j = a then kd else if c = 27 ∧ o = 0 ∧ j = a then nI rk else if c = 28 ∧ o = 0 ∧ 3 * a ≤ j ∧ j < 3 * a + 3 then lo (j - 3 * a) else if c = 29 ∧ o = 0 ∧ 3 * a ≤ j ∧ j < 3 * a + 3 then hi (j - 3 * a) else if c = 30 ∧ o = 0 ∧ j = a then nI R else if c = 31 ∧ o = 0 ∧ j = 0 then nI (R + 1) else if c = 34 ∧ o = 0 ∧ j = 0 then nI (P + N) else if c = 36 ∧ o = 0 ∧ P ≤ j ∧ j < P + N then nb (g.1 36 0 (σ (j - P))) else if c = 32 ∧ o = 0 ∧ j = R then nI P else if c = 33 ∧ o = 0 ∧ j = R then nI N else g.1 c o j,
   fun c p => if c = 2 ∧ P ≤ p ∧ p < P + N then g.2.1 2 (σ (p - P)) else g.2.1 c p, g.2.2)
theorem plM_1 (g : Gs) (a R P N : Nat) (kd : Int32) (rk : Nat) (lo hi : Nat → Int32) (σ : Nat → Nat) (c o j : Nat) : (plM g a R P N kd rk lo hi σ).1 c o j = if c = 25 ∧ o = 0 ∧ j = 0 then nI (a + 1) else if c = 26 ∧ o = 0 ∧ j = a then kd else if c = 27 ∧ o = 0 ∧ j = a then nI rk else if c = 28 ∧ o = 0 ∧ 3 * a ≤ j ∧ j < 3 * a + 3 then lo (j - 3 * a) else if c = 29 ∧ o = 0 ∧ 3 * a ≤ j ∧ j < 3 * a + 3 then hi (j - 3 * a) else if c = 30 ∧ o = 0 ∧ j = a then nI R else if c = 31 ∧ o = 0 ∧ j = 0 then nI (R + 1) else if c = 34 ∧ o = 0 ∧ j = 0 then nI (P + N) else if c = 36 ∧ o = 0 ∧ P ≤ j ∧ j < P + N then nb (g.1 36 0 (σ (j - P))) else if c = 32 ∧ o = 0 ∧ j = R then nI P else if c = 33 ∧ o = 0 ∧ j = R then nI N else g.1 c o j := rfl
theorem plM_2 (g : Gs) (a R P N : Nat) (kd : Int32) (rk : Nat) (lo hi : Nat → Int32) (σ : Nat → Nat) (c p : Nat) : (plM g a R P N kd rk lo hi σ).2.1 c p = if c = 2 ∧ P ≤ p ∧ p < P + N then g.2.1 2 (σ (p - P)) else g.2.1 c p := rfl
theorem RI_copy {n a R P S N d2 kd rk : Nat} {bx : Nat → Bool} {so : Nat → Nat} {lo hi lo2 hi2 : Nat → Int32} {σ : Nat → Nat} {g g2 : Gs} (h : RI n g) (C : Core a R P S bx so n g) (hn : n < 512) (ha : a < 24) (hN5 : N ≤ 500) (hkd : kd ≤ 3) (hrk : 1 ≤ rk ∧ rk ≤ 3) (hpr : prN lo hi rk = N) (hlo : ∀ e, e < rk → lo2 e = lo e ∧ hi2 e = hi e)
    (hσ : ∀ q, q < N → σ q < P ∧ bx (σ q) = decide (kd = 3)) (hN2 : R + 1 ≤ g.2.2 11 ∧ P + N ≤ g.2.2 9)
    (hX : ∀ c o j, c < 20 → c ≠ 1 → c ≠ 3 → ¬ (c = 4 ∧ o = 0) → g2.1 c o j = (plX g a R P N (nI kd) rk lo hi σ).1 c o j)
    (hM : ∀ c o j, 20 ≤ c → c ≠ 20 → c ≠ 22 → c ≠ 44 → g2.1 c o j = (plM g a R P N (nI kd) rk lo2 hi2 σ).1 c o j)
    (hL : ∀ p, g2.2.1 0 p = (plX g a R P N (nI kd) rk lo hi σ).2.1 0 p ∧ g2.2.1 2 p = (plM g a R P N (nI kd) rk lo2 hi2 σ).2.1 2 p) (hL1 : g2.2.1 1 = g.2.1 1 ∧ g2.2.1 3 = g.2.1 3)
    (hN : g2.2.2 = g.2.2) (hcode : g2.1 1 0 0 = 0 ∧ g2.1 20 0 0 = 0) (hd2 : d2 ≤ 3 ∧ g2.1 4 0 0 = nI d2 ∧ g2.1 22 0 0 = nI d2) : RI (n + 1) g2 := by
  have hc3 := C.2.2.1
  have h5 : ∀ e, e < rk → g2.1 5 (a + 1) e = lo e ∧ g2.1 6 (a + 1) e = hi e := fun e he => by
    refine ⟨?_, ?_⟩
    · rw [hX 5 (a + 1) e (by omega) (by omega) (by omega) (by omega), plX_1]
      simp [he]
    · rw [hX 6 (a + 1) e (by omega) (by omega) (by omega) (by omega), plX_1]
      simp [he]
  refine RI_plain (N := N) (kd := kd) (rk := rk) (d2 := d2) h C hn ha hN5 hkd ?_ ?_ hL1 ?_ ?_ hN hN2 hcode hd2 ?_ ?_ ⟨hrk.1, hrk.2, ?_, ?_, fun e he => ?_⟩ ?_ ?_ ?_
  · intro c o j ht
    unfold Tch at ht
    by_cases hc : c < 20
    · rw [hX c o j hc (by omega) (by omega) (by omega), plX_1]
      repeat rw [if_neg (by omega)]
    · rw [hM c o j (by omega) (by omega) (by omega) (by omega), plM_1]
      repeat rw [if_neg (by omega)]
  · intro p hp
    rw [(hL p).1, (hL p).2, plX_2, plM_2, if_neg (by omega), if_neg (by omega)]
    exact ⟨rfl, rfl⟩
  · rw [hX 0 0 0 (by omega) (by omega) (by omega) (by omega), hM 25 0 0 (by omega) (by omega) (by omega) (by omega), plX_1, plM_1]
    simp
  · rw [hX 12 0 0 (by omega) (by omega) (by omega) (by omega), hX 11 0 0 (by omega) (by omega) (by omega) (by omega), hM 31 0 0 (by omega) (by omega) (by omega) (by omega), hM 34 0 0 (by omega) (by omega) (by omega) (by omega), hM 37 0 0 (by omega) (by omega) (by omega) (by omega), plX_1, plX_1, plM_1, plM_1, plM_1]
    simp [hc3.2.2.2.2]
  · rw [hX 16 a 0 (by omega) (by omega) (by omega) (by omega), hM 26 0 a (by omega) (by omega) (by omega) (by omega), plX_1, plM_1]
    simp
  · rw [hX 17 a 0 (by omega) (by omega) (by omega) (by omega), hM 30 0 a (by omega) (by omega) (by omega) (by omega), plX_1, plM_1]
    simp
  · rw [hX 4 (a + 1) 0 (by omega) (by omega) (by omega) (by omega), plX_1]
    simp
  · rw [hM 27 0 a (by omega) (by omega) (by omega) (by omega), plM_1]
    simp
  · rw [(h5 e he).1, (h5 e he).2, hM 28 0 _ (by omega) (by omega) (by omega) (by omega), hM 29 0 _ (by omega) (by omega) (by omega) (by omega), plM_1, plM_1, ← (hlo e he).1, ← (hlo e he).2]
    have q1 : 3 * a + e < 3 * a + 3 := by omega
    simp [q1]
  · rw [itN_pr]
    rw [prN_congr rk h5]
    exact hpr
  · rw [hX 14 0 R (by omega) (by omega) (by omega) (by omega), hX 15 0 R (by omega) (by omega) (by omega) (by omega), hM 32 0 R (by omega) (by omega) (by omega) (by omega), hM 33 0 R (by omega) (by omega) (by omega) (by omega), plX_1, plX_1, plM_1, plM_1]
    simp
  · intro q hq
    obtain ⟨s1, s2⟩ := hσ q hq
    obtain ⟨w1, w2, w3, w4⟩ := C.2.2.2.2.2.1 (σ q) s1
    have q1 : P ≤ P + q ∧ P + q < P + N := by omega
    have e13 : g2.1 13 0 (P + q) = nb (g.1 13 0 (σ q)) := by
      rw [hX 13 0 _ (by omega) (by omega) (by omega) (by omega), plX_1]
      simp [q1]
    have e36 : g2.1 36 0 (P + q) = nb (g.1 36 0 (σ q)) := by
      rw [hM 36 0 _ (by omega) (by omega) (by omega) (by omega), plM_1]
      simp [q1]
    have e0 : g2.2.1 0 (P + q) = g.2.1 0 (σ q) := by
      rw [(hL _).1, plX_2]
      simp [q1]
    have e2 : g2.2.1 2 (P + q) = g.2.1 2 (σ q) := by
      rw [(hL _).2, plM_2]
      simp [q1]
    rw [e13, e36, e0, e2, nb01 w2]
    refine ⟨w1, w2, fun z => ?_, fun z => ?_⟩
    · rw [z] at s2
      rw [w3 s2, nb01 w2]
    · exact w4 (by rw [s2]; exact decide_eq_false z)
