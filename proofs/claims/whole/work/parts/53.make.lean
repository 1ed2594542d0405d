/-! PURE: a table's rows; make. -/
def tbX (g : Gs) (a R P N m i : Nat) : Gs := (fun c o j => if c = 11 ∧ o = 0 ∧ j = 0 then nI (P + m * N) else if c = 12 ∧ o = 0 ∧ j = 0 then nI (R + m) else if c = 13 ∧ o = 0 ∧ P ≤ j ∧ j < P + m * N then 1 else if c = 14 ∧ o = 0 ∧ R ≤ j ∧ j < R + m then nI (P + (j - R) * N) else if c = 15 ∧ o = 0 ∧ R ≤ j ∧ j < R + m then nI N else if c = 18 ∧ o = a ∧ i ≤ j ∧ j < i + m then nI (R + (j - i)) else g.1 c o j, fun c p => if c = 0 ∧ P ≤ p ∧ p < P + m * N then 0 else g.2.1 c p, g.2.2)
theorem tbX_1 (g : Gs) (a R P N m i c o j : Nat) : (tbX g a R P N m i).1 c o j = if c = 11 ∧ o = 0 ∧ j = 0 then nI (P + m * N) else if c = 12 ∧ o = 0 ∧ j = 0 then nI (R + m) else if c = 13 ∧ o = 0 ∧ P ≤ j ∧ j < P + m * N then 1 else if c = 14 ∧ o = 0 ∧ R ≤ j ∧ j < R + m then nI (P + (j - R) * N) else if c = 15 ∧ o = 0 ∧ R ≤ j ∧ j < R + m then nI N else if c = 18 ∧ o = a ∧ i ≤ j ∧ j < i + m then nI (R + (j - i)) else g.1 c o j := rfl
theorem tbX_2 (g : Gs) (a R P N m i c p : Nat) : (tbX g a R P N m i).2.1 c p = if c = 0 ∧ P ≤ p ∧ p < P + m * N then 0 else g.2.1 c p := rfl
theorem tbX_3 (g : Gs) (a R P N m i : Nat) : (tbX g a R P N m i).2.2 = g.2.2 := rfl
theorem mulStep {j R N P : Nat} (h : R + 1 ≤ j) : P + N + (j - (R + 1)) * N = P + (j - R) * N := by
  rw [show j - R = (j - (R + 1)) + 1 by omega, Nat.succ_mul]
  omega
theorem tbX_nil {g : Gs} {a R P N i : Nat} (h11 : g.1 11 0 0 = nI P) (h12 : g.1 12 0 0 = nI R) : tbX g a R P N 0 i = g := by
  refine Prod.ext (funext fun c => funext fun o => funext fun j => ?_) (Prod.ext (funext fun c => funext fun p => ?_) rfl)
  · rw [tbX_1, Nat.zero_mul]
    by_cases q1 : c = 11 ∧ o = 0 ∧ j = 0
    · obtain ⟨rfl, rfl, rfl⟩ := q1
      rw [if_pos ⟨rfl, rfl, rfl⟩, h11]; rfl
    · rw [if_neg q1]
      by_cases q2 : c = 12 ∧ o = 0 ∧ j = 0
      · obtain ⟨rfl, rfl, rfl⟩ := q2
        rw [if_pos ⟨rfl, rfl, rfl⟩, h12]; rfl
      · rw [if_neg q2, if_neg (by omega), if_neg (by omega), if_neg (by omega), if_neg (by omega)]
  · rw [tbX_2, Nat.zero_mul, if_neg (by omega)]
theorem tbX_step (g : Gs) (a R P N m i : Nat) : tbX (sI (arX g R P N 1) 18 a i (nI R)) a (R + 1) (P + N) N m (i + 1) = tbX g a R P N (m + 1) i := by
  have e1 : P + N + m * N = P + (m + 1) * N := by rw [Nat.succ_mul]; omega
  have e2 : P + N ≤ P + (m + 1) * N := by rw [Nat.succ_mul]; omega
  refine Prod.ext (funext fun c => funext fun o => funext fun j => ?_) (Prod.ext (funext fun c => funext fun p => ?_) rfl)
  · rw [tbX_1, tbX_1, gI, arX_1, e1, show R + 1 + m = R + (m + 1) by omega]
    have hK : ∀ h : R + 1 ≤ j, P + N + (j - (R + 1)) * N = P + (j - R) * N := fun h => mulStep h
    have hj0 : j = R → (j - R) * N = 0 := fun h => by rw [h, Nat.sub_self, Nat.zero_mul]
    generalize (m + 1) * N = K at *
    generalize (j - (R + 1)) * N = U at *
    generalize (j - R) * N = V at *
    rcases (by omega : c = 11 ∨ c = 12 ∨ c = 13 ∨ c = 14 ∨ c = 15 ∨ c = 18 ∨ (c ≠ 11 ∧ c ≠ 12 ∧ c ≠ 13 ∧ c ≠ 14 ∧ c ≠ 15 ∧ c ≠ 18)) with rfl | rfl | rfl | rfl | rfl | rfl | hc
    · simp <;> grind
    · simp <;> grind
    · simp <;> grind
    · simp <;> grind
    · simp <;> grind
    · simp <;> grind
    · simp [hc]
  · rw [tbX_2, tbX_2, gI1, arX_2, e1]
    generalize (m + 1) * N = K at *
    by_cases z1 : c = 0 ∧ P + N ≤ p ∧ p < P + K
    · rw [if_pos z1, if_pos (by omega)]
    · rw [if_neg z1]
      by_cases z2 : c = 0 ∧ P ≤ p ∧ p < P + N
      · rw [if_pos z2, if_pos (by omega)]
      · rw [if_neg z2, if_neg (by omega)]
theorem addTab_L {a N k : Nat} (ha : a < 24) (hN : N ≤ 500) (hk : k ≤ 500) : ∀ m i f g R P, i + m = k → m < f → g.1 11 0 0 = nI P → g.1 12 0 0 = nI R → R + m ≤ g.2.2 11 → g.2.2 12 = g.2.2 11 → P + m * N ≤ g.2.2 9 → g.2.2 10 = g.2.2 9 → P + m * N ≤ 100000 → R + m ≤ 100000 → k ≤ g.2.2 (500 + a) → m_X4_addTableRows_L42 a (nI k) (nI N) f (nI i) g = some (tbX g a R P N m i) := by
  intro m
  induction m with
  | zero =>
    intro i f g R P hi hf h11 h12 hR hR2 hP hP2 hb1 hb2 hk5
    obtain ⟨f, rfl⟩ : ∃ f2, f = f2 + 1 := ⟨f - 1, by omega⟩
    rw [m_X4_addTableRows_L42, if_pos (nI_le (by omega) (by omega)), tbX_nil h11 h12]
  | succ m ih =>
    intro i f g R P hi hf h11 h12 hR hR2 hP hP2 hb1 hb2 hk5
    obtain ⟨f, rfl⟩ : ∃ f2, f = f2 + 1 := ⟨f - 1, by omega⟩
    have em : (m + 1) * N = m * N + N := Nat.succ_mul m N
    rw [em] at hP hb1
    have hA := addRow_e (g := g) (R := R) (P := P) (N := N) (f := 1) h12 h11 (by omega) (by omega) (by omega) hP2 (by omega) (by omega) (by omega)
    rw [nar1] at hA
    rw [m_X4_addTableRows_L42, if_neg (nI_ge (by omega) (by omega)), hA]
    have ci := inb_m (show i < g.2.2 (500 + a) by omega) (show i < 2 ^ 31 by omega)
    simp only [Option.bind_some, arX_3, chk_t ci, nI_clamp (show i < 2 ^ 31 by omega), lett, nI_1]
    rw [ih (i + 1) f (sI (arX g R P N 1) 18 a i (nI R)) (R + 1) (P + N) (by omega) (by omega) (by simp [gI, arX_1]) (by simp [gI, arX_1]) (by rw [gI1, arX_3]; omega) (by rw [gI1, arX_3]; omega) (by rw [gI1, arX_3]; omega) (by rw [gI1, arX_3]; omega) (by omega) (by omega) (by rw [gI1, arX_3]; omega), tbX_step]
    exact chk_t ci
def tbM (g : Gs) (R P S N m : Nat) : Gs := (fun c o j => if c = 31 ∧ o = 0 ∧ j = 0 then nI (R + m) else if c = 34 ∧ o = 0 ∧ j = 0 then nI (P + m * N) else if c = 37 ∧ o = 0 ∧ j = 0 then nI (S + m) else if c = 36 ∧ o = 0 ∧ P ≤ j ∧ j < P + m * N then 0 else if c = 32 ∧ o = 0 ∧ R ≤ j ∧ j < R + m then nI (P + (j - R) * N) else if c = 33 ∧ o = 0 ∧ R ≤ j ∧ j < R + m then nI N else if c = 38 ∧ o = 0 ∧ S ≤ j ∧ j < S + m then nI (R + (j - S)) else g.1 c o j, fun c p => if c = 2 ∧ P ≤ p ∧ p < P + m * N then 0 else g.2.1 c p, g.2.2)
theorem tbM_1 (g : Gs) (R P S N m c o j : Nat) : (tbM g R P S N m).1 c o j = if c = 31 ∧ o = 0 ∧ j = 0 then nI (R + m) else if c = 34 ∧ o = 0 ∧ j = 0 then nI (P + m * N) else if c = 37 ∧ o = 0 ∧ j = 0 then nI (S + m) else if c = 36 ∧ o = 0 ∧ P ≤ j ∧ j < P + m * N then 0 else if c = 32 ∧ o = 0 ∧ R ≤ j ∧ j < R + m then nI (P + (j - R) * N) else if c = 33 ∧ o = 0 ∧ R ≤ j ∧ j < R + m then nI N else if c = 38 ∧ o = 0 ∧ S ≤ j ∧ j < S + m then nI (R + (j - S)) else g.1 c o j := rfl
theorem tbM_2 (g : Gs) (R P S N m c p : Nat) : (tbM g R P S N m).2.1 c p = if c = 2 ∧ P ≤ p ∧ p < P + m * N then 0 else g.2.1 c p := rfl
theorem tbM_3 (g : Gs) (R P S N m : Nat) : (tbM g R P S N m).2.2 = g.2.2 := rfl
theorem tbM_nil {g : Gs} {R P S N : Nat} (h31 : g.1 31 0 0 = nI R) (h34 : g.1 34 0 0 = nI P) (h37 : g.1 37 0 0 = nI S) : tbM g R P S N 0 = g := by
  refine Prod.ext (funext fun c => funext fun o => funext fun j => ?_) (Prod.ext (funext fun c => funext fun p => ?_) rfl)
  · rw [tbM_1, Nat.zero_mul]
    by_cases q1 : c = 31 ∧ o = 0 ∧ j = 0
    · obtain ⟨rfl, rfl, rfl⟩ := q1
      rw [if_pos ⟨rfl, rfl, rfl⟩, h31]; rfl
    · rw [if_neg q1]
      by_cases q2 : c = 34 ∧ o = 0 ∧ j = 0
      · obtain ⟨rfl, rfl, rfl⟩ := q2
        rw [if_pos ⟨rfl, rfl, rfl⟩, h34]; rfl
      · rw [if_neg q2]
        by_cases q3 : c = 37 ∧ o = 0 ∧ j = 0
        · obtain ⟨rfl, rfl, rfl⟩ := q3
          rw [if_pos ⟨rfl, rfl, rfl⟩, h37]; rfl
        · rw [if_neg q3, if_neg (by omega), if_neg (by omega), if_neg (by omega), if_neg (by omega)]
  · rw [tbM_2, Nat.zero_mul, if_neg (by omega)]
theorem tbM_step (g : Gs) (R P S N m : Nat) : tbM (sI (sI (arM g R P N) 38 0 S (nI R)) 37 0 0 (nI (S + 1))) (R + 1) (P + N) (S + 1) N m = tbM g R P S N (m + 1) := by
  have e1 : P + N + m * N = P + (m + 1) * N := by rw [Nat.succ_mul]; omega
  have e2 : P + N ≤ P + (m + 1) * N := by rw [Nat.succ_mul]; omega
  refine Prod.ext (funext fun c => funext fun o => funext fun j => ?_) (Prod.ext (funext fun c => funext fun p => ?_) rfl)
  · rw [tbM_1, tbM_1, gI, gI, arM_1, e1, show R + 1 + m = R + (m + 1) by omega, show S + 1 + m = S + (m + 1) by omega]
    have hK : ∀ h : R + 1 ≤ j, P + N + (j - (R + 1)) * N = P + (j - R) * N := fun h => mulStep h
    have hj0 : j = R → (j - R) * N = 0 := fun h => by rw [h, Nat.sub_self, Nat.zero_mul]
    generalize (m + 1) * N = K at *
    generalize (j - (R + 1)) * N = U at *
    generalize (j - R) * N = V at *
    rcases (by omega : c = 31 ∨ c = 34 ∨ c = 36 ∨ c = 32 ∨ c = 33 ∨ c = 37 ∨ c = 38 ∨ (c ≠ 31 ∧ c ≠ 34 ∧ c ≠ 36 ∧ c ≠ 32 ∧ c ≠ 33 ∧ c ≠ 37 ∧ c ≠ 38)) with rfl | rfl | rfl | rfl | rfl | rfl | rfl | hc
    · simp <;> grind
    · simp <;> grind
    · simp <;> grind
    · simp <;> grind
    · simp <;> grind
    · simp <;> grind
    · simp <;> grind
    · simp [hc]
  · rw [tbM_2, tbM_2, gI1, gI1, arM_2, e1]
    generalize (m + 1) * N = K at *
    by_cases z1 : c = 2 ∧ P + N ≤ p ∧ p < P + K
    · rw [if_pos z1, if_pos (by omega)]
    · rw [if_neg z1]
      by_cases z2 : c = 2 ∧ P ≤ p ∧ p < P + N
      · rw [if_pos z2, if_pos (by omega)]
      · rw [if_neg z2, if_neg (by omega)]
theorem newTab_L {N k : Nat} (hN : N ≤ 500) (hk : k ≤ 500) : ∀ m i f g R P S, i + m = k → m < f → g.1 31 0 0 = nI R → g.1 34 0 0 = nI P → g.1 37 0 0 = nI S → R + m ≤ 13000 → P + m * N ≤ 300000 → S + m ≤ 12100 → m_X5_newTable_L37 (nI k) (nI N) f (nI i) g = some (tbM g R P S N m) := by
  intro m
  induction m with
  | zero =>
    intro i f g R P S hi hf h31 h34 h37 hR hP hS
    obtain ⟨f, rfl⟩ : ∃ f2, f = f2 + 1 := ⟨f - 1, by omega⟩
    rw [m_X5_newTable_L37, if_pos (nI_le (by omega) (by omega)), tbM_nil h31 h34 h37]
  | succ m ih =>
    intro i f g R P S hi hf h31 h34 h37 hR hP hS
    obtain ⟨f, rfl⟩ : ∃ f2, f = f2 + 1 := ⟨f - 1, by omega⟩
    have em : (m + 1) * N = m * N + N := Nat.succ_mul m N
    rw [em] at hP
    have hA := newRow_e (g := g) (R := R) (P := P) (N := N) h31 h34 (by omega) (by omega) (by omega)
    have e37 : (sI (arM g R P N) 38 0 S (nI R)).1 37 0 0 = nI S := by simp [gI, arM_1, h37]
    rw [m_X5_newTable_L37, if_neg (nI_ge (by omega) (by omega)), hA]
    simp only [Option.bind_some, h37, chk_t (inb_m (show S < 12100 by omega) (by omega)), nI_clamp (show S < 2 ^ 31 by omega), lett, e37, nI_1]
    rw [ih (i + 1) f (sI (sI (arM g R P N) 38 0 S (nI R)) 37 0 0 (nI (S + 1))) (R + 1) (P + N) (S + 1) (by omega) (by omega) (by simp [gI, arM_1]) (by simp [gI, arM_1]) (by simp [gI]) (by omega) (by omega) (by omega), tbM_step]
theorem rowCount_f {g : Gs} {a : Nat} (ha : a < 24) (h4 : g.1 4 (a + 1) 0 = nI 2) : m_X1_rowCount a g = some (nI (rcN g a)) := by
  have h := X2_length_in (g := g) (o := a + 1) (d := 0) (rk := 2) (by omega) (by omega) (by omega) h4
  rw [nl0] at h
  simp only [m_X1_rowCount, chk_t ha, h, Option.bind_some, lN_i]
  rfl
theorem len_1 {g : Gs} {a : Nat} (ha : a < 24) (h4 : g.1 4 (a + 1) 0 = nI 2) : m_X2_length (a + 1) 1 g = some (lN (lenN (g.1 5 (a + 1) 1) (g.1 6 (a + 1) 1))) := X2_length_in (g := g) (o := a + 1) (d := 1) (rk := 2) (by omega) (by omega) (by omega) h4
/-- a table's state before its rows: the rows' array made anew, if it is too short -/
def wdR (g : Gs) (a k : Nat) : Gs := if k ≤ g.2.2 (500 + a) then g else swR g a k
theorem wdR_1 (g : Gs) (a k c o j : Nat) (h : ¬ (c = 18 ∧ o = a)) : (wdR g a k).1 c o j = g.1 c o j := by
  unfold wdR
  split
  · rfl
  · show (if c = 18 ∧ o = a then _ else g.1 c o) j = _
    rw [if_neg h]
theorem wdR_2 (g : Gs) (a k : Nat) : (wdR g a k).2.1 = g.2.1 := by
  unfold wdR
  split <;> rfl
theorem wdR_3 (g : Gs) (a k i : Nat) (h : i ≠ 500 + a) : (wdR g a k).2.2 i = g.2.2 i := by
  unfold wdR
  split
  · rfl
  · show (if i = 500 + a then k else g.2.2 i) = _
    rw [if_neg h]
theorem wdR_4 (g : Gs) (a k : Nat) : k ≤ (wdR g a k).2.2 (500 + a) := by
  unfold wdR
  split
  · rename_i h; exact h
  · show k ≤ (if 500 + a = 500 + a then k else _)
    rw [if_pos rfl]
    omega
theorem addv_some (a b : Nat) (g : Gs) (c d : Nat) : addv a b (some (g, c, d)) = some (g, a + c, b + d) := rfl
theorem addTab {g : Gs} {a R P N k : Nat} (ha : a < 24) (h4 : g.1 4 (a + 1) 0 = nI 2) (hk : rcN g a = k) (hk5 : k ≤ 500) (hN : N = if k = 0 then 0 else lenN (g.1 5 (a + 1) 1) (g.1 6 (a + 1) 1)) (hN5 : N ≤ 500) (h11 : g.1 11 0 0 = nI P) (h12 : g.1 12 0 0 = nI R) (hR : R + k ≤ g.2.2 11) (hR2 : g.2.2 12 = g.2.2 11) (hP : P + k * N ≤ g.2.2 9) (hP2 : g.2.2 10 = g.2.2 9) (hb1 : P + k * N ≤ 100000) (hb2 : R + k ≤ 100000) (hcap : g.2.2 (500 + a) ≤ 2 ^ 30) : ∃ ca cb, m_X4_addTableRows a g = some (tbX (wdR g a k) a R P N k 0, ca, cb) ∧ ca ≤ 1 ∧ cb ≤ 500 := by
  have hL : ∀ g1 : Gs, g1 = wdR g a k → m_X4_addTableRows_J21 a (nI k) g1 = some (tbX g1 a R P N k 0, 0, 0) := by
    intro g1 e
    have q : ∀ c o j, ¬ (c = 18 ∧ o = a) → g1.1 c o j = g.1 c o j := fun c o j z => by rw [e]; exact wdR_1 g a k c o j z
    have q3 : ∀ i, i ≠ 500 + a → g1.2.2 i = g.2.2 i := fun i z => by rw [e]; exact wdR_3 g a k i z
    have hL := addTab_L (a := a) (N := N) (k := k) ha hN5 hk5 k 0 FU g1 R P (by omega) (FU_big (by omega)) (by rw [q 11 0 0 (by omega)]; exact h11) (by rw [q 12 0 0 (by omega)]; exact h12) (by rw [q3 11 (by omega)]; exact hR) (by rw [q3 11 (by omega), q3 12 (by omega)]; exact hR2) (by rw [q3 9 (by omega)]; exact hP) (by rw [q3 9 (by omega), q3 10 (by omega)]; exact hP2) hb1 hb2 (by rw [e]; exact wdR_4 g a k)
    rw [nl0] at hL
    by_cases hz : k = 0
    · subst hz
      rw [if_pos rfl] at hN
      subst hN
      rw [nl0] at hL
      simp only [m_X4_addTableRows_J21, m_X4_addTableRows_J38, nl0, if_true, lett, hL, Option.bind_some]
    · rw [if_neg hz] at hN
      have hz2 : ¬ nI k = 0 := fun z => hz ((nI_eq (b := 0) (by omega) (by omega)).mp z)
      have l1 := len_1 (g := g1) ha (by rw [q 4 (a + 1) 0 (by omega)]; exact h4)
      rw [q 5 (a + 1) 1 (by omega), q 6 (a + 1) 1 (by omega), ← hN] at l1
      simp only [m_X4_addTableRows_J21, m_X4_addTableRows_J38, if_neg hz2, l1, Option.bind_some, lN_i, lett, hL]
  by_cases hc : k ≤ g.2.2 (500 + a)
  · have e : wdR g a k = g := if_pos hc
    refine ⟨0, 0, ?_, by omega, by omega⟩
    rw [e]
    simp only [m_X4_addTableRows, chk_t ha, rowCount_f ha h4, hk, Option.bind_some, if_pos (nI_le hc (by omega)), hL g e.symm]
  · have e : wdR g a k = swR g a k := if_neg hc
    refine ⟨1 + 0, k + 0, ?_, by omega, by omega⟩
    have hpos : ¬ nI k < 0 := nI_pos (by omega)
    rw [e]
    simp only [m_X4_addTableRows, chk_t ha, rowCount_f ha h4, hk, Option.bind_some, if_neg (nI_ge (show g.2.2 (500 + a) < k by omega) (by omega)), nI_clamp (show k < 2 ^ 31 by omega), lett, hL (swR g a k) e.symm, addv_some, chk_t (show ¬ nI k < 0 ∧ k ≤ 200000 from ⟨hpos, by omega⟩)]
theorem newTab {g : Gs} {a R P S N k : Nat} {lo hi : Nat → Int32} (ha : a < 24) (hlo : ∀ d, d < 2 → g.1 28 0 (3 * a + d) = lo d ∧ g.1 29 0 (3 * a + d) = hi d) (hk : lenN (lo 0) (hi 0) = k) (hk5 : k ≤ 500) (hN : N = if k = 0 then 0 else lenN (lo 1) (hi 1)) (hN5 : N ≤ 500) (h31 : g.1 31 0 0 = nI R) (h34 : g.1 34 0 0 = nI P) (h37 : g.1 37 0 0 = nI S) (hR : R + k ≤ 13000) (hP : P + k * N ≤ 300000) (hS : S + k ≤ 12100) : m_X5_newTable (nI a) g = some (tbM (sI g 30 0 a (nI S)) R P S N k) := by
  have hL := newTab_L (N := N) (k := k) hN5 hk5 k 0 FU (sI g 30 0 a (nI S)) R P S (by omega) (FU_big (by omega)) h31 h34 h37 hR hP hS
  rw [nl0] at hL
  have l0 := X5_lengthOf (g := sI g 30 0 a (nI S)) (i := a) (d := 0) ha (by omega)
  have l1 := X5_lengthOf (g := sI g 30 0 a (nI S)) (i := a) (d := 1) ha (by omega)
  have e28 : ∀ j, (sI g 30 0 a (nI S)).1 28 0 j = g.1 28 0 j := fun j => rfl
  have e29 : ∀ j, (sI g 30 0 a (nI S)).1 29 0 j = g.1 29 0 j := fun j => rfl
  rw [nl0, e28, e29, (hlo 0 (by omega)).1, (hlo 0 (by omega)).2, hk] at l0
  rw [nl1, e28, e29, (hlo 1 (by omega)).1, (hlo 1 (by omega)).2] at l1
  by_cases hz : k = 0
  · subst hz
    rw [if_pos rfl] at hN
    subst hN
    rw [nl0] at hL
    have z0 : (0 : Int64).toInt32 = 0 := by decide
    simp only [m_X5_newTable, m_X5_newTable_J32, chk_t (inb_m ha (by omega)), nI_clamp (show a < 2 ^ 31 by omega), h37, lett, l0, Option.bind_some, lN_i, nl0, if_true, z0, hL]
  · rw [if_neg hz] at hN
    rw [← hN] at l1
    have hz2 : ¬ nI k = 0 := fun z => hz ((nI_eq (b := 0) (by omega) (by omega)).mp z)
    simp only [m_X5_newTable, m_X5_newTable_J32, chk_t (inb_m ha (by omega)), nI_clamp (show a < 2 ^ 31 by omega), h37, lett, l0, Option.bind_some, lN_i, if_neg hz2, l1, hL]
/-- a new table of k rows of N items on both sides -/
theorem RI_table {n a R P S N k d2 : Nat} {bx : Nat → Bool} {so : Nat → Nat} {g g2 : Gs} (h : RI n g) (C : Core a R P S bx so n g) (hn : n < 512) (ha : a < 24) (hk5 : k ≤ 500) (hN5 : N ≤ 500) (hkN : k * N ≤ 500)
    (hF : ∀ c o j, ¬ Tch a R P S c o j → g2.1 c o j = g.1 c o j) (hL : ∀ p, p < P → g2.2.1 0 p = g.2.1 0 p ∧ g2.2.1 2 p = g.2.1 2 p) (hL1 : g2.2.1 1 = g.2.1 1 ∧ g2.2.1 3 = g.2.1 3)
    (hc : g2.1 0 0 0 = nI (a + 1) ∧ g2.1 25 0 0 = nI (a + 1)) (hk : g2.1 12 0 0 = nI (R + k) ∧ g2.1 31 0 0 = nI (R + k) ∧ g2.1 11 0 0 = nI (P + k * N) ∧ g2.1 34 0 0 = nI (P + k * N) ∧ g2.1 37 0 0 = nI (S + k))
    (hN : ∀ i, i ≠ 500 + a → g2.2.2 i = g.2.2 i) (hN2 : R + k ≤ g.2.2 11 ∧ P + k * N ≤ g.2.2 9) (hNa : k ≤ g2.2.2 (500 + a)) (hNa2 : g2.2.2 (500 + a) ≤ 500)
    (hcode : g2.1 1 0 0 = 0 ∧ g2.1 20 0 0 = 0) (hd2 : d2 ≤ 3 ∧ g2.1 4 0 0 = nI d2 ∧ g2.1 22 0 0 = nI d2)
    (hkk : g2.1 16 a 0 = nI 4 ∧ g2.1 26 0 a = nI 4) (hrr : g2.1 17 a 0 = -1 ∧ g2.1 30 0 a = nI S) (hs : aShape g2 a 2) (hrc : rcN g2 a = k) (hit : itN g2 (a + 1) 2 ≤ 500)
    (hrow : ∀ i, i < k → g2.1 14 0 (R + i) = nI (P + i * N) ∧ g2.1 15 0 (R + i) = nI N ∧ g2.1 32 0 (R + i) = nI (P + i * N) ∧ g2.1 33 0 (R + i) = nI N)
    (hslot : ∀ i, i < k → g2.1 18 a i = nI (R + i) ∧ g2.1 38 0 (S + i) = nI (R + i))
    (hcell : ∀ q, q < k * N → g2.2.1 2 (P + q) = g2.2.1 0 (P + q) ∧ g2.1 13 0 (P + q) = 1) : RI (n + 1) g2 := by
  have hA := C.1
  have hiN : ∀ i, i < k → i * N + N ≤ k * N := fun i hi => by
    have := Nat.mul_le_mul_right N (show i + 1 ≤ k from hi)
    rw [Nat.succ_mul] at this
    exact this
  have e1 : ∀ i, i < k → rs g2 (R + i) = P + i * N := fun i hi => by
    have := hiN i hi
    simp only [rs, (hrow i hi).1]
    exact nI_clamp (by omega)
  have e2 : ∀ i, i < k → rl g2 (R + i) = N := fun i hi => by simp only [rl, (hrow i hi).2.1]; exact nI_clamp (by omega)
  refine RI_new (bx2 := fun p => if P ≤ p then false else bx p) (so2 := fun i => if i = a then S else so i) h C ha (R2 := R + k) (P2 := P + k * N) (S2 := S + k) (by omega) (by omega) hF hL hL1 hc hk hN hN2 (fun p hp => if_neg (by omega)) (fun i hi => if_neg (by omega)) hcode hd2 (fun r h1 h2 => ?_) (fun p h1 h2 => ?_) ⟨⟨4, 2, by omega, hkk.1, hkk.2, hs, fun z => absurd rfl z, fun _ => ⟨rfl, hrr.1, ?_, ?_, ?_, ?_, hit, fun r hr => ?_⟩⟩, fun _ => ?_⟩ hNa2
  · obtain ⟨i, rfl⟩ : ∃ i, r = R + i := ⟨r - R, by omega⟩
    have hi : i < k := by omega
    have := hiN i hi
    obtain ⟨w1, w2, w3, w4⟩ := hrow i hi
    exact ⟨by rw [e1 i hi]; exact w1, by rw [e2 i hi]; exact w2, by rw [e2 i hi]; omega, by rw [e1 i hi, e2 i hi]; omega, by rw [w1, w3], by rw [w2, w4]⟩
  · obtain ⟨q1, q2⟩ := hcell (p - P) (by omega)
    rw [show P + (p - P) = p by omega] at q1 q2
    refine ⟨q1, Or.inr q2, fun z => ?_, fun z => q2⟩
    simp [h1] at z
  · simp only [if_true]; exact hrr.2
  · simp only [if_true]; omega
  · rw [hrc]; exact hk5
  · rw [hrc]; exact hNa
  · rw [hrc] at hr
    simp only [if_true]
    obtain ⟨s1, s2⟩ := hslot r hr
    refine ⟨by rw [s1, s2], Or.inr ⟨R + r, by omega, s1, fun p hp => ?_⟩⟩
    have : P ≤ p := by have := hp.1; rw [e1 r hr] at this; omega
    simp [this]
  · simp
