/-! PURE: turn. -/
def trn (A B D q : Nat) : Nat := (q / D % A * B + q / D / A) * D + q % D
theorem dm_at {A D x y z : Nat} (hx : x < A) (hz : z < D) : ((y * A + x) * D + z) / D = y * A + x ∧ ((y * A + x) * D + z) % D = z ∧ (y * A + x) % A = x ∧ (y * A + x) / A = y := by
  refine ⟨?_, ?_, ?_, ?_⟩
  · rw [Nat.mul_comm (y * A + x), Nat.mul_add_div (by omega), Nat.div_eq_of_lt hz, Nat.add_zero]
  · rw [Nat.mul_comm (y * A + x), Nat.mul_add_mod, Nat.mod_eq_of_lt hz]
  · rw [Nat.mul_comm y, Nat.mul_add_mod, Nat.mod_eq_of_lt hx]
  · rw [Nat.mul_comm y, Nat.mul_add_div (by omega), Nat.div_eq_of_lt hx, Nat.add_zero]
theorem trn_at {A B D x y z : Nat} (hx : x < A) (hz : z < D) : trn A B D ((y * A + x) * D + z) = (x * B + y) * D + z := by
  obtain ⟨h1, h2, h3, h4⟩ := dm_at (y := y) hx hz
  unfold trn
  rw [h1, h2, h3, h4]
theorem dm_of {A B D q : Nat} (h : q < A * B * D) : ∃ x y z, x < A ∧ y < B ∧ z < D ∧ q = (y * A + x) * D + z := by
  have hD : 0 < D := by
    rcases Nat.eq_zero_or_pos D with z | z
    · rw [z, Nat.mul_zero] at h; omega
    · exact z
  have hAB : q / D < A * B := Nat.div_lt_of_lt_mul (by rw [Nat.mul_comm]; exact h)
  have hA : 0 < A := by
    rcases Nat.eq_zero_or_pos A with z | z
    · rw [z, Nat.zero_mul] at hAB; exact absurd hAB (Nat.not_lt_zero _)
    · exact z
  refine ⟨q / D % A, q / D / A, q % D, Nat.mod_lt _ hA, Nat.div_lt_of_lt_mul hAB, Nat.mod_lt _ hD, ?_⟩
  have h1 := Nat.div_add_mod (q / D) A
  have h2 := Nat.div_add_mod q D
  rw [Nat.mul_comm] at h1 h2
  rw [h1, h2]
theorem tri_lt {A B D x y z : Nat} (hx : x < A) (hy : y < B) (hz : z < D) : (x * B + y) * D + z < A * B * D := by
  have h1 : (x + 1) * B ≤ A * B := Nat.mul_le_mul_right B hx
  rw [Nat.succ_mul] at h1
  have h2 : (x * B + y + 1) * D ≤ A * B * D := Nat.mul_le_mul_right D (by omega)
  rw [Nat.succ_mul] at h2
  omega
theorem trn_lt {A B D q : Nat} (h : q < A * B * D) : trn A B D q < A * B * D := by
  obtain ⟨x, y, z, hx, hy, hz, rfl⟩ := dm_of h
  rw [trn_at hx hz]
  exact tri_lt hx hy hz
theorem trn_inv {A B D q : Nat} (h : q < A * B * D) : trn B A D (trn A B D q) = q := by
  obtain ⟨x, y, z, hx, hy, hz, rfl⟩ := dm_of h
  rw [trn_at hx hz, trn_at hy hz]
/-- the sources -/
def stF (g : Gs) (f : Nat → Int32) (lo hi : Nat) : Gs := (fun c o j => if c = 3 ∧ o = 0 ∧ lo ≤ j ∧ j < hi then f j else g.1 c o j, g.2)
theorem stF_1 (g : Gs) (f : Nat → Int32) (lo hi c o j : Nat) : (stF g f lo hi).1 c o j = if c = 3 ∧ o = 0 ∧ lo ≤ j ∧ j < hi then f j else g.1 c o j := rfl
theorem stF_2 (g : Gs) (f : Nat → Int32) (lo hi : Nat) : (stF g f lo hi).2 = g.2 := rfl
theorem stF_nil (g : Gs) (f : Nat → Int32) (lo : Nat) : stF g f lo lo = g := by
  refine Prod.ext (funext fun c => funext fun o => funext fun j => ?_) rfl
  rw [stF_1, if_neg (by omega)]
theorem stF_cons {g : Gs} {f : Nat → Int32} {lo mid hi : Nat} (h1 : lo ≤ mid) (h2 : mid ≤ hi) : stF (stF g f lo mid) f mid hi = stF g f lo hi := by
  refine Prod.ext (funext fun c => funext fun o => funext fun j => ?_) rfl
  rw [stF_1, stF_1, stF_1]
  by_cases q1 : c = 3 ∧ o = 0 ∧ mid ≤ j ∧ j < hi
  · rw [if_pos q1, if_pos (by omega)]
  · rw [if_neg q1]
    by_cases q2 : c = 3 ∧ o = 0 ∧ lo ≤ j ∧ j < mid
    · rw [if_pos q2, if_pos (by omega)]
    · rw [if_neg q2, if_neg (by omega)]
theorem stF_one (g : Gs) (f : Nat → Int32) (q : Nat) : sI g 3 0 q (f q) = stF g f q (q + 1) := by
  refine Prod.ext (funext fun c => funext fun o => funext fun j => ?_) rfl
  rw [stF_1, gI]
  by_cases h : c = 3 ∧ o = 0 ∧ j = q
  · obtain ⟨rfl, rfl, rfl⟩ := h
    rw [if_pos ⟨rfl, rfl, rfl⟩, if_pos (by omega)]
  · rw [if_neg h, if_neg (by omega)]
theorem turn_z {A B D s x y : Nat} (hx : x < A) : ∀ m z fu g q, z + m = D → m < fu → q = (y * A + x) * D + z → q + m ≤ 500 → D ≤ 500 → m_X4_findTurned_L83 (nI A) (nI B) (nI D) (nI s) (nI y) (nI x) fu (nI q) (nI z) g = some (nI (q + m), stF g (fun j => nI (s + trn A B D j)) q (q + m)) := by
  intro m
  induction m with
  | zero =>
    intro z fu g q hz hf hq h5 hD
    obtain ⟨fu, rfl⟩ : ∃ f2, fu = f2 + 1 := ⟨fu - 1, by omega⟩
    rw [m_X4_findTurned_L83, if_pos (nI_le (by omega) (by omega)), Nat.add_zero, stF_nil]
  | succ m ih =>
    intro z fu g q hz hf hq h5 hD
    obtain ⟨fu, rfl⟩ : ∃ f2, fu = f2 + 1 := ⟨fu - 1, by omega⟩
    have hv : s + (x * B + y) * D + z = s + trn A B D q := by
      rw [hq, trn_at hx (by omega)]
      omega
    have e := stF_one g (fun j => nI (s + trn A B D j)) q
    rw [m_X4_findTurned_L83, if_neg (nI_ge (by omega) (by omega))]
    simp only [chk_t (inb_m (show q < 500 by omega) (by omega)), nI_clamp (show q < 2 ^ 31 by omega), pk_mul, nI_add, lett, nI_1, hv]
    rw [e, ih (z + 1) fu _ (q + 1) (by omega) (by omega) (by omega) (by omega) hD, stF_cons (by omega) (by omega), show q + 1 + m = q + (m + 1) by omega]
theorem turn_x {A B D s y : Nat} (hD : D ≤ 500) (hA : A ≤ 500) : ∀ m x fu g q, x + m = A → m < fu → q = (y * A + x) * D → q + m * D ≤ 500 → m_X4_findTurned_L74 (nI A) (nI B) (nI D) (nI s) (nI y) fu (nI q) (nI x) g = some (nI (q + m * D), stF g (fun j => nI (s + trn A B D j)) q (q + m * D)) := by
  intro m
  induction m with
  | zero =>
    intro x fu g q hx hf hq h5
    obtain ⟨fu, rfl⟩ : ∃ f2, fu = f2 + 1 := ⟨fu - 1, by omega⟩
    rw [m_X4_findTurned_L74, if_pos (nI_le (by omega) (by omega)), Nat.zero_mul, Nat.add_zero, stF_nil]
  | succ m ih =>
    intro x fu g q hx hf hq h5
    obtain ⟨fu, rfl⟩ : ∃ f2, fu = f2 + 1 := ⟨fu - 1, by omega⟩
    rw [Nat.succ_mul] at h5
    have hz := turn_z (A := A) (B := B) (D := D) (s := s) (x := x) (y := y) (by omega) D 0 FU g q (by omega) (FU_big (by omega)) (by omega) (by omega) hD
    rw [nl0] at hz
    rw [m_X4_findTurned_L74, if_neg (nI_ge (by omega) (by omega))]
    simp only [lett, hz, Option.bind_some, nI_1]
    rw [ih (x + 1) fu _ (q + D) (by omega) (by omega) (by rw [hq, ← Nat.succ_mul]; rfl) (by omega), stF_cons (by omega) (by omega), Nat.succ_mul, show q + D + m * D = q + (m * D + D) by omega]
theorem turn_y {A B D s : Nat} (hD : D ≤ 500) (hA : A ≤ 500) (hB : B ≤ 500) : ∀ m y fu g q, y + m = B → m < fu → q = y * A * D → q + m * (A * D) ≤ 500 → m_X4_findTurned_L65 (nI A) (nI B) (nI D) (nI s) fu (nI q) (nI y) g = some (stF g (fun j => nI (s + trn A B D j)) q (q + m * (A * D))) := by
  intro m
  induction m with
  | zero =>
    intro y fu g q hy hf hq h5
    obtain ⟨fu, rfl⟩ : ∃ f2, fu = f2 + 1 := ⟨fu - 1, by omega⟩
    rw [m_X4_findTurned_L65, if_pos (nI_le (by omega) (by omega)), Nat.zero_mul, Nat.add_zero, stF_nil]
  | succ m ih =>
    intro y fu g q hy hf hq h5
    obtain ⟨fu, rfl⟩ : ∃ f2, fu = f2 + 1 := ⟨fu - 1, by omega⟩
    rw [Nat.succ_mul] at h5
    have hz := turn_x (A := A) (B := B) (D := D) (s := s) (y := y) hD hA A 0 FU g q (by omega) (FU_big (by omega)) (by rw [Nat.add_zero]; exact hq) (by omega)
    rw [nl0] at hz
    rw [m_X4_findTurned_L65, if_neg (nI_ge (by omega) (by omega))]
    simp only [lett, hz, Option.bind_some, nI_1]
    rw [ih (y + 1) fu _ (q + A * D) (by omega) (by omega) (by rw [hq, Nat.succ_mul, Nat.add_mul]) (by omega), stF_cons (by omega) (by omega), Nat.succ_mul, show q + A * D + m * (A * D) = q + (m * (A * D) + A * D) by omega]
/-- sources copied -/
theorem copySrc_L {a R P N : Nat} {src : Nat → Nat} (hN : N ≤ 500) (hP : P + N ≤ 100000) (hsrc : ∀ p, p < N → src p < P) : ∀ m i f g, i + m = N → m < f → g.1 17 a 0 = nI R → R < g.2.2 12 → g.2.2 12 ≤ 30000 → g.1 15 0 R = nI N → (∀ p, p < N → g.1 3 0 p = nI (src p)) → P + N ≤ g.2.2 9 → g.2.2 10 = g.2.2 9 → m_X4_copySources_L14 a (nI P) f (nI i) g = some (cgX g (P + i) (fun q => src (i + q)) m) := by
  intro m
  induction m with
  | zero =>
    intro i f g hi hf h17 hR hR2 h15 h3 h9 h10
    obtain ⟨f, rfl⟩ : ∃ f2, f = f2 + 1 := ⟨f - 1, by omega⟩
    rw [m_X4_copySources_L14, h17, lengthOf_r hR hR2, h15]
    simp only [Option.bind_some]
    rw [if_pos (nI_le (by omega) (by omega)), cgX_nil]
  | succ m ih =>
    intro i f g hi hf h17 hR hR2 h15 h3 h9 h10
    obtain ⟨f, rfl⟩ : ∃ f2, f = f2 + 1 := ⟨f - 1, by omega⟩
    have hs := hsrc i (by omega)
    have hc : m_X3_copyCells (nI (src i)) (nI (P + i)) 1 g = some (cgX g (P + i) (fun q => src i + q) 1) := copyCells (s := src i) (t := P + i) (n := 1) (g := g) (by omega) (by omega) (by omega) (by omega) h10
    rw [m_X4_copySources_L14, h17, lengthOf_r hR hR2, h15]
    simp only [Option.bind_some, chk_t (inb_m (show i < 500 by omega) (by omega)), nI_clamp (show i < 2 ^ 31 by omega), h3 i (by omega), nI_add, hc, lett, nI_1]
    rw [if_neg (nI_ge (by omega) (by omega)), ih (i + 1) f (cgX g (P + i) (fun q => src i + q) 1) (by omega) (by omega) (by rw [cgX_f (by decide)]; exact h17) hR hR2 (by rw [cgX_f (by decide)]; exact h15) (fun p hp => by rw [cgX_f (by decide)]; exact h3 p hp) h9 h10, ← Nat.add_assoc, cgX_cons (ρ := fun q => src (i + q)) (fun q hq => by show src (i + q) = src i + q; rw [show q = 0 by omega]; rfl) (fun q hq => ⟨by show src (i + (1 + q)) = src (i + 1 + q); rw [Nat.add_assoc], by show src (i + 1 + q) < P + i; have := hsrc (i + 1 + q) (by omega); omega⟩), Nat.add_comm 1 m]
theorem copySrc {a R P N : Nat} {src : Nat → Nat} {g : Gs} (ha : a < 24) (hN : N ≤ 500) (hP : P + N ≤ 100000) (hsrc : ∀ p, p < N → src p < P) (h17 : g.1 17 a 0 = nI R) (hR : R < g.2.2 11) (hR1 : g.2.2 12 = g.2.2 11) (hR2 : g.2.2 11 ≤ 30000) (h14 : g.1 14 0 R = nI P) (h15 : g.1 15 0 R = nI N) (h3 : ∀ p, p < N → g.1 3 0 p = nI (src p)) (h9 : P + N ≤ g.2.2 9) (h10 : g.2.2 10 = g.2.2 9) : m_X4_copySources a g = some (cgX g P src N) := by
  have h := copySrc_L (a := a) (R := R) hN hP hsrc N 0 FU g (by omega) (FU_big (by omega)) h17 (by omega) (by omega) h15 h3 h9 h10
  rw [nl0] at h
  simp only [m_X4_copySources, chk_t ha, h17, startOf_r hR hR2, h14, Option.bind_some, lett, h, Nat.add_zero, Nat.zero_add]
/-- cells copied in another order -/
def cpM (g : Gs) (P N s : Nat) (ρ : Nat → Nat) (lo hi : Nat) : Gs := (fun c o j => if c = 36 ∧ o = 0 ∧ P ≤ j ∧ j < P + N ∧ lo ≤ ρ (j - P) ∧ ρ (j - P) < hi then nb (g.1 36 0 (s + ρ (j - P))) else g.1 c o j, fun c p => if c = 2 ∧ P ≤ p ∧ p < P + N ∧ lo ≤ ρ (p - P) ∧ ρ (p - P) < hi then g.2.1 2 (s + ρ (p - P)) else g.2.1 c p, g.2.2)
theorem cpM_1 (g : Gs) (P N s : Nat) (ρ : Nat → Nat) (lo hi c o j : Nat) : (cpM g P N s ρ lo hi).1 c o j = if c = 36 ∧ o = 0 ∧ P ≤ j ∧ j < P + N ∧ lo ≤ ρ (j - P) ∧ ρ (j - P) < hi then nb (g.1 36 0 (s + ρ (j - P))) else g.1 c o j := rfl
theorem cpM_2 (g : Gs) (P N s : Nat) (ρ : Nat → Nat) (lo hi c p : Nat) : (cpM g P N s ρ lo hi).2.1 c p = if c = 2 ∧ P ≤ p ∧ p < P + N ∧ lo ≤ ρ (p - P) ∧ ρ (p - P) < hi then g.2.1 2 (s + ρ (p - P)) else g.2.1 c p := rfl
theorem cpM_nil (g : Gs) (P N s : Nat) (ρ : Nat → Nat) (lo : Nat) : cpM g P N s ρ lo lo = g := by
  refine Prod.ext (funext fun c => funext fun o => funext fun j => ?_) (Prod.ext (funext fun c => funext fun p => ?_) rfl)
  · rw [cpM_1, if_neg (by omega)]
  · rw [cpM_2, if_neg (by omega)]
theorem cpM_all {g : Gs} {P N s : Nat} {ρ : Nat → Nat} (h : ∀ q, q < N → ρ q < N) : cpM g P N s ρ 0 N = cgM g P (fun q => s + ρ q) N := by
  refine Prod.ext (funext fun c => funext fun o => funext fun j => ?_) (Prod.ext (funext fun c => funext fun p => ?_) rfl)
  · rw [cpM_1, cgM_1]
    by_cases q : c = 36 ∧ o = 0 ∧ P ≤ j ∧ j < P + N
    · have := h (j - P) (by omega)
      rw [if_pos q, if_pos (by omega)]
    · rw [if_neg q, if_neg (by omega)]
  · rw [cpM_2, cgM_2]
    by_cases q : c = 2 ∧ P ≤ p ∧ p < P + N
    · have := h (p - P) (by omega)
      rw [if_pos q, if_pos (by omega)]
    · rw [if_neg q, if_neg (by omega)]
theorem cpM_step {g : Gs} {P N s i t hi : Nat} {ρ : Nat → Nat} (hs : s + N ≤ P) (hi2 : i < hi) (hiN : hi ≤ N) (ht : t < N) (h1 : ρ t = i) (h2 : ∀ q, q < N → ρ q = i → q = t) : cpM (cgM g (P + t) (fun _ => s + i) 1) P N s ρ (i + 1) hi = cpM g P N s ρ i hi := by
  refine Prod.ext (funext fun c => funext fun o => funext fun j => ?_) (Prod.ext (funext fun c => funext fun p => ?_) rfl)
  · rw [cpM_1, cpM_1, cgM_1, cgM_1]
    by_cases q : c = 36 ∧ o = 0 ∧ P ≤ j ∧ j < P + N ∧ i + 1 ≤ ρ (j - P) ∧ ρ (j - P) < hi
    · rw [if_pos q, if_pos (show c = 36 ∧ o = 0 ∧ P ≤ j ∧ j < P + N ∧ i ≤ ρ (j - P) ∧ ρ (j - P) < hi by omega), if_neg (by omega)]
    · rw [if_neg q]
      by_cases q2 : c = 36 ∧ o = 0 ∧ P + t ≤ j ∧ j < P + t + 1
      · have : j - P = t := by omega
        rw [if_pos q2, this, h1, if_pos (by omega)]
      · rw [if_neg q2]
        by_cases q3 : c = 36 ∧ o = 0 ∧ P ≤ j ∧ j < P + N ∧ i ≤ ρ (j - P) ∧ ρ (j - P) < hi
        · have := h2 (j - P) (by omega) (by omega)
          omega
        · rw [if_neg q3]
  · rw [cpM_2, cpM_2, cgM_2, cgM_2]
    by_cases q : c = 2 ∧ P ≤ p ∧ p < P + N ∧ i + 1 ≤ ρ (p - P) ∧ ρ (p - P) < hi
    · rw [if_pos q, if_pos (show c = 2 ∧ P ≤ p ∧ p < P + N ∧ i ≤ ρ (p - P) ∧ ρ (p - P) < hi by omega), if_neg (by omega)]
    · rw [if_neg q]
      by_cases q2 : c = 2 ∧ P + t ≤ p ∧ p < P + t + 1
      · have : p - P = t := by omega
        rw [if_pos q2, this, h1, if_pos (by omega)]
      · rw [if_neg q2]
        by_cases q3 : c = 2 ∧ P ≤ p ∧ p < P + N ∧ i ≤ ρ (p - P) ∧ ρ (p - P) < hi
        · have := h2 (p - P) (by omega) (by omega)
          omega
        · rw [if_neg q3]
theorem X5_turn_L {a b r R A B D P N s : Nat} (ha : a < 24) (hb : b < 24) (hr : r < 13000) (hR : R < 13000) (hN : N = A * B * D) (hN5 : N ≤ 500) (hA : A ≤ 500) (hB : B ≤ 500) (hD : D ≤ 500) (hs : s + N ≤ P) (hP : P + N ≤ 100000) : ∀ m i f g, i + m = N → m < f → g.1 30 0 b = nI r ∧ g.1 32 0 r = nI s ∧ g.1 30 0 a = nI R ∧ g.1 32 0 R = nI P → m_X5_turn_L225 (nI b) (nI a) (nI N) (nI B) (nI D) (nI A) f (nI i) g = some (cpM g P N s (trn A B D) i N) := by
  intro m
  induction m with
  | zero =>
    intro i f g hi hf hh
    obtain ⟨f, rfl⟩ : ∃ f2, f = f2 + 1 := ⟨f - 1, by omega⟩
    rw [m_X5_turn_L225, if_pos (nI_le (by omega) (by omega)), show i = N by omega, cpM_nil]
  | succ m ih =>
    intro i f g hi hf hh
    obtain ⟨f, rfl⟩ : ∃ f2, f = f2 + 1 := ⟨f - 1, by omega⟩
    obtain ⟨h1, h2, h3, h4⟩ := id hh
    have hiN : i < B * A * D := by rw [Nat.mul_comm B A, ← hN]; omega
    have hiN2 : i < N := by omega
    have tlt : trn B A D i < N := by rw [hN, Nat.mul_comm A B]; exact trn_lt hiN
    obtain ⟨x, y, z, hx, hy, hz, hxyz⟩ := dm_of hiN
    have hB0 : 0 < B := by omega
    have hD0 : 0 < D := by omega
    have hB1 : ¬ nI B = 0 := nI_ne0 hB0 (by omega)
    have hD1 : ¬ nI D = 0 := nI_ne0 hD0 (by omega)
    have hdl : i / D ≤ i := Nat.div_le_self i D
    have hr1 : nI i - nI (i / D * D) = nI (i % D) := by
      have := remN (x := i) (e := D) (by omega) hD0 (by omega)
      rw [pk_div (show i < 2 ^ 31 by omega) hD0 (show D < 2 ^ 31 by omega), pk_mul] at this
      exact this
    have hr2 : nI (i / D) - nI (i / D / B * B) = nI (i / D % B) := by
      have := remN (x := i / D) (e := B) (by omega) hB0 (by omega)
      rw [pk_div (show i / D < 2 ^ 31 by omega) hB0 (show B < 2 ^ 31 by omega), pk_mul] at this
      exact this
    have htv : P + (i / D % B * A + i / D / B) * D + i % D = P + trn B A D i := by
      unfold trn
      omega
    rw [m_X5_turn_L225, if_neg (nI_ge (by omega) (by omega))]
    simp only [chk_t hD1, chk_t hB1, lett, pk_div (show i < 2 ^ 31 by omega) hD0 (show D < 2 ^ 31 by omega), pk_div (show i / D < 2 ^ 31 by omega) hB0 (show B < 2 ^ 31 by omega), hr1, hr2, chk_t (inb_m hb (by omega)), nI_clamp (show b < 2 ^ 31 by omega), h1, chk_t (inb_m hr (by omega)), nI_clamp (show r < 2 ^ 31 by omega), h2, chk_t (inb_m ha (by omega)), nI_clamp (show a < 2 ^ 31 by omega), h3, chk_t (inb_m hR (by omega)), nI_clamp (show R < 2 ^ 31 by omega), h4, nI_add, pk_mul, htv, copyM (g := g) (show s + i < 300000 by omega) (show P + trn B A D i < 300000 by omega), Option.bind_some, nI_1]
    rw [ih (i + 1) f (cgM g (P + trn B A D i) (fun _ => s + i) 1) (by omega) (by omega) (by rw [cgM_f (by decide), cgM_f (by decide)]; exact hh)]
    rw [cpM_step hs (by omega) (Nat.le_refl N) tlt (trn_inv hiN) (fun q hq he => ?_)]
    rw [← he, trn_inv (by rw [← hN]; exact hq)]
