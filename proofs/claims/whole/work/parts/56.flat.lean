/-! PURE: flat. -/
theorem plX_eq {g1 gA gX : Gs} {a R P N rk : Nat} {kd f : Int32} {lo hi : Nat → Int32} {σ : Nat → Nat} (hA : ∀ c o j, c ≠ 3 → c < 20 → gA.1 c o j = if c = 0 ∧ o = 0 ∧ j = 0 then nI (a + 1) else if c = 16 ∧ o = a ∧ j = 0 then kd else if c = 17 ∧ o = a ∧ j = 0 then -1 else if c = 4 ∧ o = a + 1 ∧ j = 0 then nI rk else if c = 5 ∧ o = a + 1 ∧ j < rk then lo j else if c = 6 ∧ o = a + 1 ∧ j < rk then hi j else g1.1 c o j) (hA2 : gA.2 = g1.2) (hσ : ∀ q, q < N → σ q < P) (hX : gX = cgX (sI (arX gA R P N f) 17 a 0 (nI R)) P σ N) :
    (∀ c o j, c ≠ 3 → c < 20 → gX.1 c o j = (plX g1 a R P N kd rk lo hi σ).1 c o j) ∧ gX.2.1 = (plX g1 a R P N kd rk lo hi σ).2.1 ∧ gX.2.2 = g1.2.2 := by
  subst hX
  refine ⟨fun c o j h3 hc => ?_, funext fun c => funext fun p => ?_, ?_⟩
  · have hA0 := hA c o j h3 hc
    have hA13 := fun q => hA 13 0 q (by omega) (by omega)
    rw [cgX_1, plX_1, gI, arX_1, gI, arX_1, hA0, hA13]
    rcases (by omega : c = 0 ∨ c = 16 ∨ c = 17 ∨ c = 4 ∨ c = 5 ∨ c = 6 ∨ c = 11 ∨ c = 12 ∨ c = 13 ∨ c = 14 ∨ c = 15 ∨ (c ≠ 0 ∧ c ≠ 16 ∧ c ≠ 17 ∧ c ≠ 4 ∧ c ≠ 5 ∧ c ≠ 6 ∧ c ≠ 11 ∧ c ≠ 12 ∧ c ≠ 13 ∧ c ≠ 14 ∧ c ≠ 15)) with rfl | rfl | rfl | rfl | rfl | rfl | rfl | rfl | rfl | rfl | rfl | hc
    · simp
    · simp
    · simp
      by_cases q : o = a ∧ j = 0
      · simp [q]
      · simp [q]
    · simp
    · simp
    · simp
    · simp
    · simp
    · by_cases q : o = 0 ∧ P ≤ j ∧ j < P + N
      · have s1 := hσ (j - P) (by omega)
        have s2 : ¬ P ≤ σ (j - P) := by omega
        simp [q, s2]
      · simp [q]
    · simp
    · simp
    · simp [hc]
  · rw [cgX_2, plX_2, gI1, arX_2, arX_2, hA2]
    by_cases q : c = 0 ∧ P ≤ p ∧ p < P + N
    · have s1 := hσ (p - P) (by omega)
      rw [if_pos q, if_pos q, if_neg (by omega)]
    · rw [if_neg q, if_neg q, if_neg q]
  · rw [cgX_3, gI1, arX_3, hA2]
theorem plM_eq {g1 gB gM : Gs} {a R P N : Nat} {kd : Int32} {rk : Nat} {lo hi : Nat → Int32} {σ : Nat → Nat} (hB : ∀ c o j, 20 ≤ c → c ≠ 20 → c ≠ 22 → c ≠ 44 → gB.1 c o j = if c = 25 ∧ o = 0 ∧ j = 0 then nI (a + 1) else if c = 29 ∧ o = 0 ∧ 3 * a ≤ j ∧ j < 3 * a + 3 then hi (j - 3 * a) else if c = 28 ∧ o = 0 ∧ 3 * a ≤ j ∧ j < 3 * a + 3 then lo (j - 3 * a) else if c = 27 ∧ o = 0 ∧ j = a then nI rk else if c = 26 ∧ o = 0 ∧ j = a then kd else g1.1 c o j) (hB2 : ∀ c, 2 ≤ c → gB.2.1 c = g1.2.1 c) (hσ : ∀ q, q < N → σ q < P) (hM : gM = cgM (sI (arM gB R P N) 30 0 a (nI R)) P σ N) :
    (∀ c o j, 20 ≤ c → c ≠ 20 → c ≠ 22 → c ≠ 44 → gM.1 c o j = (plM g1 a R P N kd rk lo hi σ).1 c o j) ∧ (∀ c, 2 ≤ c → gM.2.1 c = (plM g1 a R P N kd rk lo hi σ).2.1 c) := by
  subst hM
  refine ⟨fun c o j h1 h2 h3 h4 => ?_, fun c hc => funext fun p => ?_⟩
  · have hB0 := hB c o j h1 h2 h3 h4
    have hB36 := fun q => hB 36 0 q (by omega) (by omega) (by omega) (by omega)
    rw [cgM_1, plM_1, gI, arM_1, gI, arM_1, hB0, hB36]
    rcases (by omega : c = 25 ∨ c = 26 ∨ c = 27 ∨ c = 28 ∨ c = 29 ∨ c = 30 ∨ c = 31 ∨ c = 34 ∨ c = 36 ∨ c = 32 ∨ c = 33 ∨ (c ≠ 25 ∧ c ≠ 26 ∧ c ≠ 27 ∧ c ≠ 28 ∧ c ≠ 29 ∧ c ≠ 30 ∧ c ≠ 31 ∧ c ≠ 34 ∧ c ≠ 36 ∧ c ≠ 32 ∧ c ≠ 33)) with rfl | rfl | rfl | rfl | rfl | rfl | rfl | rfl | rfl | rfl | rfl | hc
    · simp
    · simp
    · simp
    · simp
    · simp
    · simp
    · simp
    · simp
    · by_cases q : o = 0 ∧ P ≤ j ∧ j < P + N
      · have s1 := hσ (j - P) (by omega)
        have s2 : ¬ P ≤ σ (j - P) := by omega
        simp [q, s2]
      · simp [q]
    · simp
    · simp
    · simp [hc]
  · rw [cgM_2, plM_2, gI1, arM_2, arM_2, hB2 2 (by omega), hB2 c hc]
    by_cases q : c = 2 ∧ P ≤ p ∧ p < P + N
    · have s1 := hσ (p - P) (by omega)
      rw [if_pos q, if_pos q, if_neg (by omega)]
    · rw [if_neg q, if_neg q, if_neg q]
theorem cgX_f {g : Gs} {t m : Nat} {σ : Nat → Nat} {c o : Nat} (h : c ≠ 13) : (cgX g t σ m).1 c o = g.1 c o := by
  funext j
  rw [cgX_1, if_neg (by omega)]
theorem cgM_f {g : Gs} {t m : Nat} {σ : Nat → Nat} {c o : Nat} (h : c ≠ 36) : (cgM g t σ m).1 c o = g.1 c o := by
  funext j
  rw [cgM_1, if_neg (by omega)]
/-- what stops flat -/
def flF (g : Gs) (b L : Nat) : Nat → Nat → Option Int32
  | 0, _ => none
  | m + 1, i => if g.1 18 b i = -1 then some 1 else if rl g (g.1 18 b i).toNatClampNeg = L then flF g b L m (i + 1) else some 11
theorem flF_none {g : Gs} {b L : Nat} : ∀ m i, flF g b L m i = none → ∀ j, i ≤ j → j < i + m → ¬ g.1 18 b j = -1 ∧ rl g (g.1 18 b j).toNatClampNeg = L := by
  intro m
  induction m with
  | zero => intro i _ j h1 h2; omega
  | succ m ih =>
    intro i h j h1 h2
    unfold flF at h
    split at h
    · cases h
    · rename_i q1
      split at h
      · rename_i q2
        by_cases e : j = i
        · subst e; exact ⟨q1, q2⟩
        · exact ih (i + 1) h j (by omega) (by omega)
      · cases h
theorem flF_some {g : Gs} {b L : Nat} : ∀ m i e, flF g b L m i = some e → e = 1 ∨ e = 11 := by
  intro m
  induction m with
  | zero => intro i e h; cases h
  | succ m ih =>
    intro i e h
    unfold flF at h
    split at h
    · cases h; exact Or.inl rfl
    · split at h
      · exact ih (i + 1) e h
      · cases h; exact Or.inr rfl
theorem X4_flat_w {a R P S n : Nat} {bx : Nat → Bool} {so : Nat → Nat} {g : Gs} (C : Core a R P S bx so n g) (hn : n ≤ 512) {b L : Nat} (hb : b < a) (hs : aShape g b 2) (ht : aTab g R S bx so b) (hL : L ≤ 2 ^ 32) : ∀ m i f, i + m = rcN g b → m < f → m_X4_whyNotFlat_L29 b (lN L) g f (nI i) = some (match flF g b L m i with | none => .inr () | some e => .inl (e, g, 0, 0)) := by
  obtain ⟨t1, t2, t3, t4, t5, t6, t7⟩ := ht
  have ha := C.1
  intro m
  induction m with
  | zero =>
    intro i f hi hf
    obtain ⟨f, rfl⟩ : ∃ f2, f = f2 + 1 := ⟨f - 1, by omega⟩
    rw [m_X4_whyNotFlat_L29, X1_rowCount C (SX_r g) hb hs]
    simp only [Option.bind_some]
    rw [if_pos (nI_le (by omega) (by omega))]
    rfl
  | succ m ih =>
    intro i f hi hf
    obtain ⟨f, rfl⟩ : ∃ f2, f = f2 + 1 := ⟨f - 1, by omega⟩
    have c1 := inb_m (show i < g.2.2 (500 + b) by omega) (by omega)
    rw [m_X4_whyNotFlat_L29, X1_rowCount C (SX_r g) hb hs]
    simp only [Option.bind_some, chk_t c1, nI_clamp (show i < 2 ^ 31 by omega), lett, nI_1, flF]
    rw [if_neg (nI_ge (by omega) (by omega))]
    rcases (t7 i (by omega)).2 with hv | ⟨q, hq, hv, -⟩
    · rw [hv, if_pos rfl, if_pos rfl]
    · have F := row_f C hn (SX_r g) (SM_r g) hq
      have f5 := F.l5
      have hq1 : ¬ nI q = -1 := nI_ne_m1 (by omega)
      rw [hv, if_neg hq1, if_neg hq1, nI_clamp (by omega), F.lX]
      simp only [Option.bind_some, lg_cmp_eq, nI_l (show rl g q < 2 ^ 31 by omega)]
      by_cases e : rl g q = L
      · rw [if_pos ((pk_lEQ (by omega) (by omega)).mpr e), if_pos e, ih (i + 1) f (by omega) (by omega)]
      · rw [if_neg (fun z => e ((pk_lEQ (by omega) (by omega)).mp z)), if_neg e]
theorem X5_flat_w {a R P S n : Nat} {bx : Nat → Bool} {so : Nat → Nat} {g gM : Gs} (C : Core a R P S bx so n g) (hn : n ≤ 512) (sm : SM g gM) {b L : Nat} (hb : b < a) (hs : aShape g b 2) (ht : aTab g R S bx so b) (hL : L ≤ 2 ^ 32) (hLe : lenN (g.1 5 (b + 1) 1) (g.1 6 (b + 1) 1) = L) : ∀ m i f y, i + m = rcN g b → m < f → ∃ z, m_X5_flat_L34 (nI b) gM (f + 1) 0 (nI y) (nI i) = some (match flF g b L m i with | none => (0, nI (y + m * L)) | some e => (e, z)) := by
  have ha := C.1
  obtain ⟨t1, t2, t3, t4, t5, t6, t7⟩ := ht
  have c24 := inb_m (show b < 24 by omega) (by omega)
  have q24 := nI_clamp (show b < 2 ^ 31 by omega)
  have h30 : gM.1 30 0 b = nI (so b) := by rw [sm.1 30 _ (by omega)]; exact t2
  have hl1 : m_X5_lengthOf (nI b) 1 gM = some (lN L) := by
    have := X5_lengthOf (g := gM) (i := b) (d := 1) (by omega) (by omega)
    have h1 := hs.2.2.2.2 1 (by omega)
    rw [sm.1 28 0 (by omega), sm.1 29 0 (by omega), h1.1, h1.2, hLe] at this
    exact this
  intro m
  induction m with
  | zero =>
    intro i f y hi hf
    refine ⟨0, ?_⟩
    rw [m_X5_flat_L34, if_pos rfl, X5_tableRows C sm hb hs]
    simp only [Option.bind_some]
    rw [if_pos (nI_le (by omega) (by omega))]
    simp [flF]
  | succ m ih =>
    intro i f y hi hf
    have cso := inb_m (show so b + i < 12100 by omega) (by omega)
    have qso := nI_clamp (show so b + i < 2 ^ 31 by omega)
    obtain ⟨hsl, hv⟩ := t7 i (by omega)
    have h38 : gM.1 38 0 (so b + i) = g.1 18 b i := by rw [sm.1 38 _ (by omega)]; exact hsl
    obtain ⟨f, rfl⟩ : ∃ f2, f = f2 + 1 := ⟨f - 1, by omega⟩
    have n10' : ¬ (1 : Int32) = 0 := by decide
    have n110 : ¬ (11 : Int32) = 0 := by decide
    rw [m_X5_flat_L34, if_pos rfl, X5_tableRows C sm hb hs]
    simp only [Option.bind_some, chk_t c24, q24, h30, nI_add, chk_t cso, qso, h38, lett, nI_1, hl1, lg_cmp_eq, flF, if_neg n10', if_neg n110, if_true]
    rw [if_neg (nI_ge (by omega) (by omega))]
    rcases hv with hv | ⟨q, hq, hv, -⟩
    · refine ⟨nI y + 0, ?_⟩
      rw [hv, if_pos rfl, if_pos rfl, m_X5_flat_L34, if_neg n10']
    · have F := row_f C hn (SX_r g) sm hq
      have f5 := F.l5
      have hq1 : ¬ nI q = -1 := nI_ne_m1 (by omega)
      have c13 := inb_m F.r13 (by omega)
      rw [hv, if_neg hq1, if_neg hq1]
      simp only [chk_t c13, nI_clamp (show q < 2 ^ 31 by omega), F.lM, nI_l (show rl g q < 2 ^ 31 by omega), nI_add]
      by_cases e : rl g q = L
      · obtain ⟨z, hz⟩ := ih (i + 1) f (y + rl g q) (by omega) (by omega)
        refine ⟨z, ?_⟩
        rw [if_pos ((pk_lEQ (by omega) (by omega)).mpr e), if_pos e, hz, e, Nat.succ_mul, show y + L + m * L = y + (m * L + L) by omega]
      · refine ⟨nI y + 0, ?_⟩
        rw [if_neg (fun z => e ((pk_lEQ (by omega) (by omega)).mp z)), if_neg e, m_X5_flat_L34, if_neg n110]
/-- where an item of a flat array comes from -/
def flS (st : Nat → Nat) (L q : Nat) : Nat := st (q / L) + q % L
theorem flS_at {st : Nat → Nat} {L r q : Nat} (h : q < L) : flS st L (r * L + q) = st r + q := by
  unfold flS
  rw [Nat.mul_comm, Nat.mul_add_div (by omega), Nat.div_eq_of_lt h, Nat.add_zero, Nat.mul_add_mod, Nat.mod_eq_of_lt h]
theorem X4_flat_L {b k L P : Nat} {rw2 st : Nat → Nat} (hb : b < 24) (hk : k ≤ 500) (hP : P + k * L ≤ 100000) (hst : ∀ i, i < k → st i + L ≤ P ∧ rw2 i ≤ 20000) : ∀ m r f g, r + m = k → m < f → g.1 4 (b + 1) 0 = nI 2 → rcN g b = k → k ≤ g.2.2 (500 + b) → (∀ i, i < k → g.1 18 b i = nI (rw2 i) ∧ rw2 i < g.2.2 11 ∧ g.1 14 0 (rw2 i) = nI (st i) ∧ g.1 15 0 (rw2 i) = nI L) → g.2.2 12 = g.2.2 11 ∧ g.2.2 11 ≤ 30000 → P + k * L ≤ g.2.2 9 → g.2.2 10 = g.2.2 9 → m_X4_flat_L56 b f (nI (P + r * L)) (nI r) g = some (cgX g (P + r * L) (fun q => flS st L (r * L + q)) (m * L)) := by
  intro m
  induction m with
  | zero =>
    intro r f g hr hf h4 hrc h5 hrow h12 h9 h10
    obtain ⟨f, rfl⟩ : ∃ f2, f = f2 + 1 := ⟨f - 1, by omega⟩
    rw [m_X4_flat_L56, rowCount_f hb h4, hrc]
    simp only [Option.bind_some]
    rw [if_pos (nI_le (by omega) (by omega)), Nat.zero_mul, cgX_nil]
  | succ m ih =>
    intro r f g hr hf h4 hrc h5 hrow h12 h9 h10
    obtain ⟨f, rfl⟩ : ∃ f2, f = f2 + 1 := ⟨f - 1, by omega⟩
    obtain ⟨e18, e11, e14, e15⟩ := hrow r (by omega)
    obtain ⟨s1, s2⟩ := hst r (by omega)
    have hrL : (r + 1) * L ≤ k * L := Nat.mul_le_mul_right L (by omega)
    rw [Nat.succ_mul] at hrL
    have c1 := inb_m (show r < g.2.2 (500 + b) by omega) (by omega)
    have hS := startOf_r (g := g) (r := rw2 r) e11 h12.2
    have hLn := lengthOf_r (g := g) (r := rw2 r) (by omega) (by omega)
    rw [e14] at hS
    rw [e15] at hLn
    have hcp := copyCells (s := st r) (t := P + r * L) (n := L) (g := g) (by omega) (by omega) (by omega) (by omega) h10
    have hLn2 : m_X3_lengthOf (nI (rw2 r)) (cgX g (P + r * L) (fun q => st r + q) L) = some (nI L) := by
      have := lengthOf_r (g := cgX g (P + r * L) (fun q => st r + q) L) (r := rw2 r) (by rw [cgX_3]; omega) (by rw [cgX_3]; omega)
      rw [cgX_f (by decide), e15] at this
      exact this
    rw [m_X4_flat_L56, rowCount_f hb h4, hrc]
    simp only [Option.bind_some, chk_t c1, nI_clamp (show r < 2 ^ 31 by omega), lett, e18, hS, hLn, hcp, hLn2, nI_add, nI_1]
    rw [if_neg (nI_ge (by omega) (by omega))]
    have hih := ih (r + 1) f (cgX g (P + r * L) (fun q => st r + q) L) (by omega) (by omega) (by rw [cgX_f (by decide)]; exact h4) (by unfold rcN; rw [cgX_f (by decide), cgX_f (by decide)]; exact hrc) h5 (fun i hi => by rw [cgX_f (by decide), cgX_f (by decide), cgX_f (by decide)]; exact hrow i hi) h12 h9 h10
    rw [Nat.succ_mul, ← Nat.add_assoc] at hih
    rw [hih]
    rw [cgX_cons (ρ := fun q => flS st L (r * L + q)) (fun q hq => flS_at hq) (fun q hq => ⟨?_, ?_⟩), Nat.succ_mul, Nat.add_comm L]
    · show flS st L (r * L + (L + q)) = flS st L (r * L + L + q)
      rw [Nat.add_assoc]
    · show flS st L (r * L + L + q) < P + r * L
      have hL0 : 0 < L := by
        rcases Nat.eq_zero_or_pos L with z | z
        · rw [z, Nat.mul_zero] at hq; omega
        · exact z
      have hdiv : (r * L + L + q) / L = r + 1 + q / L := by
        rw [show r * L + L + q = L * (r + 1) + q by rw [Nat.mul_comm L, Nat.succ_mul], Nat.mul_add_div hL0]
      have hql : q / L < m := Nat.div_lt_of_lt_mul (by rw [Nat.mul_comm]; exact hq)
      have hmd := Nat.mod_lt (r * L + L + q) hL0
      have := (hst (r + 1 + q / L) (by omega)).1
      unfold flS
      rw [hdiv]
      omega
theorem tableRows_f {g : Gs} {b : Nat} {x y : Int32} (hb : b < 24) (h1 : g.1 28 0 (3 * b) = x) (h2 : g.1 29 0 (3 * b) = y) : m_X5_tableRows (nI b) g = some (nI (lenN x y)) := by
  have h := X5_lengthOf (g := g) (i := b) (d := 0) hb (by omega)
  rw [nl0, Nat.add_zero, h1, h2] at h
  simp only [m_X5_tableRows, h, Option.bind_some, lN_i]
theorem X5_flat_in {x1 x4 x6 : Int32} {q s L : Nat} (hq : q < 13000) : ∀ m j f t g, j + m = L → m < f → g.1 33 0 q = nI L → g.1 32 0 q = nI s → s + L ≤ t → t + m ≤ 300000 → m_X5_flat_L215 x1 x4 x6 (nI q) f (nI t) (nI j) g = some (nI (t + m), cgM g t (fun z => s + j + z) m) := by
  intro m
  induction m with
  | zero =>
    intro j f t g hj hf h33 h32 hst ht
    obtain ⟨f, rfl⟩ : ∃ f2, f = f2 + 1 := ⟨f - 1, by omega⟩
    rw [m_X5_flat_L215, cgM_nil]
    simp only [chk_t (inb_m hq (by omega)), nI_clamp (show q < 2 ^ 31 by omega), h33]
    rw [if_pos (nI_le (by omega) (by omega))]
    rfl
  | succ m ih =>
    intro j f t g hj hf h33 h32 hst ht
    obtain ⟨f, rfl⟩ : ∃ f2, f = f2 + 1 := ⟨f - 1, by omega⟩
    rw [m_X5_flat_L215]
    simp only [chk_t (inb_m hq (by omega)), nI_clamp (show q < 2 ^ 31 by omega), h33, h32, nI_add, copyM (g := g) (show s + j < 300000 by omega) (show t < 300000 by omega), Option.bind_some, lett, nI_1]
    rw [if_neg (nI_ge (by omega) (by omega)), ih (j + 1) f (t + 1) (cgM g t (fun _ => s + j) 1) (by omega) (by omega) (by rw [cgM_f (by decide)]; exact h33) (by rw [cgM_f (by decide)]; exact h32) (by omega) (by omega), cgM_cons (ρ := fun z => s + j + z) (fun z hz => by show s + j + z = s + j; omega) (fun z hz => ⟨by show s + j + (1 + z) = s + (j + 1) + z; omega, by show s + (j + 1) + z < t; omega⟩), show t + 1 + m = t + (m + 1) by omega, Nat.add_comm 1 m]
theorem X5_flat_L {b k L P sb : Nat} {x4 x y : Int32} {rw2 st : Nat → Nat} (hb : b < 24) (hk : k ≤ 500) (hxy : lenN x y = k) (hsb : sb + k ≤ 12100) (hP : P + k * L ≤ 100000) (hst : ∀ i, i < k → st i + L ≤ P ∧ rw2 i < 13000) : ∀ m r f g, r + m = k → m < f → g.1 28 0 (3 * b) = x ∧ g.1 29 0 (3 * b) = y ∧ g.1 30 0 b = nI sb → (∀ i, i < k → g.1 38 0 (sb + i) = nI (rw2 i) ∧ g.1 32 0 (rw2 i) = nI (st i) ∧ g.1 33 0 (rw2 i) = nI L) → m_X5_flat_L186 (nI b) x4 f (nI (P + r * L)) (nI r) g = some (cgM g (P + r * L) (fun q => flS st L (r * L + q)) (m * L)) := by
  intro m
  induction m with
  | zero =>
    intro r f g hr hf hh hrow
    obtain ⟨f, rfl⟩ : ∃ f2, f = f2 + 1 := ⟨f - 1, by omega⟩
    rw [m_X5_flat_L186, tableRows_f hb hh.1 hh.2.1, hxy]
    simp only [Option.bind_some]
    rw [if_pos (nI_le (by omega) (by omega)), Nat.zero_mul, cgM_nil]
  | succ m ih =>
    intro r f g hr hf hh hrow
    obtain ⟨f, rfl⟩ : ∃ f2, f = f2 + 1 := ⟨f - 1, by omega⟩
    obtain ⟨e38, e32, e33⟩ := hrow r (by omega)
    obtain ⟨s1, s2⟩ := hst r (by omega)
    have hrL : (r + 1) * L ≤ k * L := Nat.mul_le_mul_right L (by omega)
    rw [Nat.succ_mul] at hrL
    have hin := X5_flat_in (x1 := nI b) (x4 := x4) (x6 := nI r) (q := rw2 r) (s := st r) (L := L) s2 L 0 FU (P + r * L) g (by omega) (FU_big (by omega)) e33 e32 (by omega) (by omega)
    rw [nl0] at hin
    rw [m_X5_flat_L186, tableRows_f hb hh.1 hh.2.1, hxy]
    simp only [Option.bind_some, chk_t (inb_m hb (by omega)), nI_clamp (show b < 2 ^ 31 by omega), hh.2.2, nI_add, chk_t (inb_m (show sb + r < 12100 by omega) (by omega)), nI_clamp (show sb + r < 2 ^ 31 by omega), e38, lett, hin, nI_1, Nat.add_zero]
    rw [if_neg (nI_ge (by omega) (by omega))]
    have hih := ih (r + 1) f (cgM g (P + r * L) (fun z => st r + z) L) (by omega) (by omega) (by rw [cgM_f (by decide), cgM_f (by decide), cgM_f (by decide)]; exact hh) (fun i hi => by rw [cgM_f (by decide), cgM_f (by decide), cgM_f (by decide)]; exact hrow i hi)
    rw [Nat.succ_mul, ← Nat.add_assoc] at hih
    rw [hih, cgM_cons (ρ := fun q => flS st L (r * L + q)) (fun q hq => flS_at hq) (fun q hq => ⟨?_, ?_⟩), Nat.succ_mul, Nat.add_comm L]
    · show flS st L (r * L + (L + q)) = flS st L (r * L + L + q)
      rw [Nat.add_assoc]
    · show flS st L (r * L + L + q) < P + r * L
      have hL0 : 0 < L := by
        rcases Nat.eq_zero_or_pos L with z | z
        · rw [z, Nat.mul_zero] at hq; omega
        · exact z
      have hdiv : (r * L + L + q) / L = r + 1 + q / L := by
        rw [show r * L + L + q = L * (r + 1) + q by rw [Nat.mul_comm L, Nat.succ_mul], Nat.mul_add_div hL0]
      have hql : q / L < m := Nat.div_lt_of_lt_mul (by rw [Nat.mul_comm]; exact hq)
      have hmd := Nat.mod_lt (r * L + L + q) hL0
      have := (hst (r + 1 + q / L) (by omega)).1
      unfold flS
      rw [hdiv]
      omega
theorem flS_lt {st : Nat → Nat} {L k P q : Nat} (hst : ∀ i, i < k → st i + L ≤ P) (hq : q < k * L) : flS st L q < P ∧ ∃ i, i < k ∧ st i ≤ flS st L q ∧ flS st L q < st i + L := by
  have hL0 : 0 < L := by
    rcases Nat.eq_zero_or_pos L with z | z
    · rw [z, Nat.mul_zero] at hq; omega
    · exact z
  have hql : q / L < k := Nat.div_lt_of_lt_mul (by rw [Nat.mul_comm]; exact hq)
  have hmd := Nat.mod_lt q hL0
  have := hst (q / L) hql
  unfold flS
  exact ⟨by omega, q / L, hql, by omega, by omega⟩
theorem s_flat : S_flat RI := by
  intro n g x1 h hn
  obtain ⟨hcw, ⟨d, hd⟩, hk, a, R, P, S, bx, so, C⟩ := id h
  have ha := C.1
  have n70 : ¬ (7 : Int32) = 0 := by decide
  have n20 : ¬ (2 : Int32) = 0 := by decide
  have n80 : ¬ (8 : Int32) = 0 := by decide
  obtain ⟨F0, hF0⟩ : ∃ F, FU = F + 1 := ⟨FU - 1, rfl⟩
  have hF0b : 600 < F0 := by have := FU_big (m := 700) (by omega); omega
  rcases arr_cases x1 C.1.1 with hx | ⟨b, hb, rfl⟩
  · refine ⟨0, sI g 1 0 0 7, sI (sI g 1 0 0 7) 20 0 0 7, 0 + 0, 0 + 0, ?_, ?_, RI_stop h 7, CB_0 h rfl⟩
    · simp only [m_X4_flat, m_X4_whyNotFlat, X4_arr_no C.2.1.1 hx, Option.bind_some, cas_n, if_neg n70, m_stop, addc_some]
    · simp only [m_X5_flat, m_X5_flat_J28, m_X5_flat_J139, X5_arr_no (g := sI g 1 0 0 7) C.2.1.2 C.1.1 hx, Option.bind_some, if_true, lett, hF0, m_X5_flat_L34, if_neg n70, m_no]
  · have hA := X4_arr_yes C.2.1.1 C.1.1 hb
    have hb24 : b < 24 := by omega
    have cb := inb_m hb24 (by omega)
    have qb := nI_clamp (show b < 2 ^ 31 by omega)
    rcases arr_view C hb with ⟨kd, rk, r, hkd, h16, h26, hs, hr, h17, h30, hrl, hbx⟩ | ⟨h16, h26, hs, ht⟩
    · have hn4 : ¬ g.1 16 b 0 = 4 := by rw [h16]; exact n4 hkd
      have e26 : (sI g 1 0 0 2).1 26 0 b = nI kd := h26
      refine ⟨0, sI g 1 0 0 2, sI (sI g 1 0 0 2) 20 0 0 2, 0 + 0, 0 + 0, ?_, ?_, RI_stop h 2, CB_0 h rfl⟩
      · simp only [m_X4_flat, m_X4_whyNotFlat, hA, Option.bind_some, cas_y hb24, if_neg hn4, if_neg n20, m_stop, addc_some]
      · simp only [m_X5_flat, m_X5_flat_J28, m_X5_flat_J139, isA (g := sI g 1 0 0 2) C.2.1.2 C.1.1 hb, Option.bind_some, if_neg n10, chk_t cb, qb, e26, if_neg (n4 hkd), lett, hF0, m_X5_flat_L34, if_neg n20, m_no]
    · have hl1 : m_X2_length (b + 1) 1 g = some (lN (lenN (g.1 5 (b + 1) 1) (g.1 6 (b + 1) 1))) := len_1 hb24 hs.2.2.1
      have hL32 := lenN_lt (g.1 5 (b + 1) 1) (g.1 6 (b + 1) 1)
      generalize hLe : lenN (g.1 5 (b + 1) 1) (g.1 6 (b + 1) 1) = L at hl1 hL32
      obtain ⟨t1, t2, t3, t4, t5, t6, t7⟩ := id ht
      have wX := X4_flat_w C (by omega) hb hs ht hL32 (rcN g b) 0 FU (by omega) (FU_big (by omega))
      have wM := fun gM sm => X5_flat_w C (by omega) (gM := gM) sm hb hs ht hL32 hLe (rcN g b) 0 F0 0 (by omega) (by omega)
      rw [nl0] at wX
      simp only [nl0, ← hF0] at wM
      cases hfl : flF g b L (rcN g b) 0 with
      | some e =>
        rw [hfl] at wX
        obtain ⟨z, wM1⟩ := wM _ (SM_1 g e)
        rw [hfl] at wM1
        have he : ¬ e = 0 := by rcases flF_some _ _ _ hfl with rfl | rfl <;> decide
        have e26 : (sI g 1 0 0 e).1 26 0 b = 4 := h26
        refine ⟨0, sI g 1 0 0 e, sI (sI g 1 0 0 e) 20 0 0 e, 0 + 0, 0 + 0, ?_, ?_, RI_stop h e, CB_0 h rfl⟩
        · simp only [m_X4_flat, m_X4_whyNotFlat, hA, Option.bind_some, cas_y hb24, h16, if_true, hl1, lett, wX, exi, if_neg he, m_stop, addc_some]
        · simp only [m_X5_flat, m_X5_flat_J28, m_X5_flat_J139, isA (g := sI g 1 0 0 e) C.2.1.2 C.1.1 hb, Option.bind_some, if_neg n10, chk_t cb, qb, e26, if_true, lett, wM1, if_neg he, m_no]
      | none =>
        rw [hfl] at wX
        have hall := flF_none (rcN g b) 0 hfl
        have hit2 : itN g (b + 1) 2 = rcN g b * L := by rw [it2, hLe]; rfl
        generalize hkk : rcN g b = k at *
        generalize hNN : k * L = N at *
        have hN5 : N ≤ 500 := by omega
        have hit := X2_items (g := g) (o := b + 1) (rk := 2) (by omega) (by omega) hs.2.2.1
        rw [hit2, Nat.min_eq_right (by omega)] at hit
        have hrw : ∀ i, i < k → ∃ q, q < R ∧ g.1 18 b i = nI q ∧ rl g q = L ∧ ∀ p, inRow g q p → bx p = false := fun i hi => by
          obtain ⟨u1, u2⟩ := hall i (by omega) (by omega)
          rcases (t7 i hi).2 with z | ⟨q, hq, hv, hbq⟩
          · exact absurd z u1
          · rw [hv, nI_clamp (by omega)] at u2
            exact ⟨q, hq, hv, u2, hbq⟩
        obtain ⟨rw2, hrw2⟩ := Classical.axiomOfChoice (r := fun (i : Nat) q => i < k → q < R ∧ g.1 18 b i = nI q ∧ rl g q = L ∧ ∀ p, inRow g q p → bx p = false) (fun i => by
          by_cases hi : i < k
          · obtain ⟨q, hq⟩ := hrw i hi
            exact ⟨q, fun _ => hq⟩
          · exact ⟨0, fun z => absurd z hi⟩)
        have hst : ∀ i, i < k → rs g (rw2 i) + L ≤ P := fun i hi => by
          obtain ⟨v1, v2, v3, v4⟩ := hrw2 i hi
          have := (C.2.2.2.2.1 _ v1).2.2.2.1
          omega
        by_cases hfull : a < 24
        · obtain ⟨g1, ca, cb2, er, G⟩ := room C hfull (x := 1) (y := N) (by omega) (by omega)
          have er1 : m_X4_hasRoom 1 (nI N) g = some (1, g1, ca, cb2) := er
          have C1 := Core_grw C G (by omega) (by omega)
          have h1 := RI_grw h C G (by omega) (by omega)
          have hc1 := C1.2.1
          have hc3 := C1.2.2.1
          have G6 := G.2.2.2.2.2.1
          obtain ⟨d4, d22, dl, dit⟩ := shapes (a := a) (S := S) (n := n) (bx := bx) (so := so) G hd
          have b4 : g1.1 4 (b + 1) 0 = nI 2 := by rw [Grw_q G (by decide)]; exact hs.2.2.1
          have e5 : g1.1 5 (b + 1) = g.1 5 (b + 1) := Grw_q G (by decide)
          have e6 : g1.1 6 (b + 1) = g.1 6 (b + 1) := Grw_q G (by decide)
          have e18 : g1.1 18 b = g.1 18 b := Grw_q G (by decide)
          have hni := nextIn (g := g1) (a := a) (o := b + 1) (rk := 2) hc1.1 hfull (by omega) (by omega) (by omega) b4 (nI 1)
          generalize hgA : niX g1 a (nI 1) (b + 1) 2 = gA at hni
          have A1 : ∀ c o j, gA.1 c o j = if (c = 5 ∨ c = 6) ∧ o = a + 1 ∧ j < 2 then g1.1 c (b + 1) j else if c = 4 ∧ o = a + 1 ∧ j = 0 then nI 2 else if c = 17 ∧ o = a ∧ j = 0 then -1 else if c = 16 ∧ o = a ∧ j = 0 then nI 1 else if c = 0 ∧ o = 0 ∧ j = 0 then nI (a + 1) else g1.1 c o j := by
            intro c o j
            rw [← hgA, niX_1 (by omega)]
          have A2 : gA.2 = g1.2 := by rw [← hgA]; rfl
          have itA : itN gA (a + 1) 2 = N := by
            rw [itN_of (g := g1) (o := b + 1) (fun e he => by simp [A1, he]), itN_congr e5 e6, hit2]
          have hOwn := ownRow (g := gA) (a := a) (R := R) (P := P) (N := N) (rk := 2) (kd := 1) hfull (by omega) (by omega) (by simp [A1]) (by simp [A1]) itA hN5 (by simp [A1, hc3.1]) (by simp [A1, hc3.2.2.1]) (by rw [A2]; omega) (by rw [A2]; omega) (by rw [A2]; omega) (by rw [A2]; omega) (by omega) (by omega)
          rw [if_neg (show ¬ (1 : Nat) = 3 by decide)] at hOwn
          generalize hgO : sI (arX gA R P N 1) 17 a 0 (nI R) = gO at hOwn
          have O1 : ∀ c o j, gO.1 c o j = if c = 17 ∧ o = a ∧ j = 0 then nI R else if c = 11 ∧ o = 0 ∧ j = 0 then nI (P + N) else if c = 12 ∧ o = 0 ∧ j = 0 then nI (R + 1) else if c = 13 ∧ o = 0 ∧ P ≤ j ∧ j < P + N then 1 else if c = 15 ∧ o = 0 ∧ j = R then nI N else if c = 14 ∧ o = 0 ∧ j = R then nI P else gA.1 c o j := by
            intro c o j
            rw [← hgO, gI, arX_1]
          have O2 : gO.2.2 = g1.2.2 := by rw [← hgO, gI1, arX_3, A2]
          have hba : ¬ b = a := by omega
          have hba1 : ¬ b + 1 = a + 1 := by omega
          have hL4 := X4_flat_L (b := b) (k := k) (L := L) (P := P) (rw2 := rw2) (st := fun i => rs g (rw2 i)) hb24 t4 (by omega) (fun i hi => ⟨hst i hi, by have := (hrw2 i hi).1; omega⟩) k 0 FU gO (by omega) (FU_big (by omega)) (by simp [O1, A1, hba, b4]) (by simp only [rcN, O1, A1]; simp [hba, e5, e6]; exact hkk) (by rw [O2, G.2.2.2.2.1 (500 + b) (by omega) (by omega) (by omega) (by omega)]; exact t5) (fun i hi => by
            obtain ⟨v1, v2, v3, v4⟩ := hrw2 i hi
            obtain ⟨w1, w2, -⟩ := C.2.2.2.2.1 _ v1
            have ne : ¬ rw2 i = R := by omega
            refine ⟨by simp [O1, A1, e18, v2], by rw [O2]; omega, by simp [O1, A1, ne, (G.2.1 _ v1).1, w1], by simp [O1, A1, ne, (G.2.1 _ v1).2, w2, v3]⟩) (by rw [O2]; omega) (by rw [O2]; omega) (by rw [O2]; omega)
          rw [nl0, Nat.zero_mul, Nat.add_zero, hNN] at hL4
          simp only [Nat.zero_add] at hL4
          generalize hσd : (fun q => flS (fun i => rs g (rw2 i)) L q) = σ at hL4
          have hσ : ∀ q, q < N → σ q < P ∧ bx (σ q) = false := fun q hq => by
            rw [← hσd]
            obtain ⟨y1, i, hi, y2, y3⟩ := flS_lt (st := fun i => rs g (rw2 i)) (L := L) (k := k) (P := P) (q := q) hst (by omega)
            refine ⟨y1, ?_⟩
            obtain ⟨v1, v2, v3, v4⟩ := hrw2 i hi
            exact v4 _ ⟨y2, by rw [v3]; exact y3⟩
          generalize hgC : cgX gO P σ N = gC at hL4
          obtain ⟨pX, pX2, pX3⟩ := plX_eq (g1 := g1) (gA := gA) (gX := gC) (a := a) (R := R) (P := P) (N := N) (rk := 2) (kd := nI 1) (f := 1) (lo := g1.1 5 (b + 1)) (hi := g1.1 6 (b + 1)) (σ := σ) (fun c o j h3 hc => by
            rw [A1]
            rcases (by omega : c = 0 ∨ c = 16 ∨ c = 17 ∨ c = 4 ∨ c = 5 ∨ c = 6 ∨ (c ≠ 0 ∧ c ≠ 16 ∧ c ≠ 17 ∧ c ≠ 4 ∧ c ≠ 5 ∧ c ≠ 6)) with rfl | rfl | rfl | rfl | rfl | rfl | hc
            · simp
            · simp
            · simp
            · simp
            · simp
            · simp
            · simp [hc]) A2 (fun q hq => (hσ q hq).1) (by rw [← hgC, hgO])
          have C13 : ∀ c o, c ≠ 13 → gC.1 c o = gO.1 c o := fun c o z => by rw [← hgC]; exact cgX_f z
          generalize hgX : sI gC 1 0 0 0 = gX
          have X1 : ∀ c o j, gX.1 c o j = if c = 1 ∧ o = 0 ∧ j = 0 then 0 else gC.1 c o j := by
            intro c o j
            rw [← hgX, gI]
          have X2 : gX.2 = gC.2 := by rw [← hgX]; rfl
          have sm1 : SM g1 gX := ⟨fun c o hc => by
            funext j
            rw [X1, if_neg (by omega), C13 c o (by omega), O1]
            repeat rw [if_neg (by omega)]
            rw [A1]
            repeat rw [if_neg (by omega)], by rw [X2, pX2]; funext p; rw [plX_2, if_neg (by omega)], by rw [X2, pX2]; funext p; rw [plX_2, if_neg (by omega)]⟩
          have smg : SM g gX := ⟨fun c o hc => (sm1.1 c o hc).trans (Grw_q G (by omega)), sm1.2.1.trans (G.2.2.2.1 2 (by decide)), sm1.2.2.trans (G.2.2.2.1 3 (by decide))⟩
          have m25 : gX.1 25 0 0 = nI a := by rw [sm1.1 25 0 (by omega)]; exact hc1.2
          have m26 : gX.1 26 0 b = 4 := by rw [smg.1 26 0 (by omega)]; exact h26
          have m27 : gX.1 27 0 b = nI 2 := by rw [smg.1 27 0 (by omega)]; exact hs.2.2.2.1
          obtain ⟨z, wM1⟩ := wM gX smg
          rw [hfl, Nat.zero_add] at wM1
          have hna := newArrB (g := gX) (a := a) (b := b) (lo := fun e => g1.1 28 0 (3 * b + e)) (hi := fun e => g1.1 29 0 (3 * b + e)) (rk := nI 2) m25 hfull hb m27 (fun e he => by rw [sm1.1 28 0 (by omega), sm1.1 29 0 (by omega)]; exact ⟨rfl, rfl⟩) (nI 1)
          generalize hgB : naM gX a (nI 1) (nI 2) (fun e => g1.1 28 0 (3 * b + e)) (fun e => g1.1 29 0 (3 * b + e)) = gB at hna
          have B1 : ∀ c o j, gB.1 c o j = if c = 25 ∧ o = 0 ∧ j = 0 then nI (a + 1) else if c = 29 ∧ o = 0 ∧ 3 * a ≤ j ∧ j < 3 * a + 3 then g1.1 29 0 (3 * b + (j - 3 * a)) else if c = 28 ∧ o = 0 ∧ 3 * a ≤ j ∧ j < 3 * a + 3 then g1.1 28 0 (3 * b + (j - 3 * a)) else if c = 27 ∧ o = 0 ∧ j = a then nI 2 else if c = 26 ∧ o = 0 ∧ j = a then nI 1 else gX.1 c o j := by
            intro c o j
            rw [← hgB, naM_1]
          have B2 : gB.2 = gX.2 := by rw [← hgB]; rfl
          have hNR : m_X5_newRow (nI N) gB = some (nI R, arM gB R P N) := newRow_e (by rw [B1]; simp; rw [sm1.1 31 0 (by omega)]; exact hc3.2.1) (by rw [B1]; simp; rw [sm1.1 34 0 (by omega)]; exact hc3.2.2.2.1) (by omega) (by omega) (by omega)
          generalize hgD : sI (arM gB R P N) 30 0 a (nI R) = gD
          have D1 : ∀ c o j, gD.1 c o j = if c = 30 ∧ o = 0 ∧ j = a then nI R else if c = 31 ∧ o = 0 ∧ j = 0 then nI (R + 1) else if c = 34 ∧ o = 0 ∧ j = 0 then nI (P + N) else if c = 36 ∧ o = 0 ∧ P ≤ j ∧ j < P + N then 0 else if c = 33 ∧ o = 0 ∧ j = R then nI N else if c = 32 ∧ o = 0 ∧ j = R then nI P else gB.1 c o j := by
            intro c o j
            rw [← hgD, gI, arM_1]
          have h3b : ¬ 3 * a ≤ 3 * b := by omega
          have hs0 := hs.2.2.2.2 0 (by omega)
          have hL5 := X5_flat_L (b := b) (k := k) (L := L) (P := P) (sb := so b) (x4 := nI a) (x := g.1 5 (b + 1) 0) (y := g.1 6 (b + 1) 0) (rw2 := rw2) (st := fun i => rs g (rw2 i)) hb24 t4 hkk (by omega) (by omega) (fun i hi => ⟨hst i hi, by have := (hrw2 i hi).1; omega⟩) k 0 FU gD (by omega) (FU_big (by omega)) ⟨by simp [D1, B1, h3b]; rw [smg.1 28 0 (by omega)]; exact hs0.1, by simp [D1, B1, h3b]; rw [smg.1 29 0 (by omega)]; exact hs0.2, by simp [D1, B1, hba]; rw [smg.1 30 0 (by omega)]; exact t2⟩ (fun i hi => by
            obtain ⟨v1, v2, v3, v4⟩ := hrw2 i hi
            obtain ⟨w1, w2, w3, w4, w5, w6⟩ := C.2.2.2.2.1 _ v1
            have ne : ¬ rw2 i = R := by omega
            refine ⟨?_, ?_, ?_⟩
            · simp [D1, B1]; rw [smg.1 38 0 (by omega), (t7 i hi).1]; exact v2
            · simp [D1, B1, ne]; rw [smg.1 32 0 (by omega), w5]; exact w1
            · simp [D1, B1, ne]; rw [smg.1 33 0 (by omega), w6, w2, v3])
          rw [nl0, Nat.zero_mul, Nat.add_zero, hNN] at hL5
          simp only [Nat.zero_add, hσd] at hL5
          generalize hgE : cgM gD P σ N = gE at hL5
          obtain ⟨pM, pM2⟩ := plM_eq (g1 := g1) (gB := gB) (gM := gE) (a := a) (R := R) (P := P) (N := N) (kd := nI 1) (rk := 2) (lo := fun e => g1.1 28 0 (3 * b + e)) (hi := fun e => g1.1 29 0 (3 * b + e)) (σ := σ) (fun c o j h1 h2 h3 h4 => by rw [B1, sm1.1 c o (by omega)]) (fun c hc => by
            rw [B2, X2, pX2]
            funext p
            rw [plX_2, if_neg (by omega)]) (fun q hq => (hσ q hq).1) (by rw [← hgE, hgD])
          have E36 : ∀ c o, c ≠ 36 → gE.1 c o = gD.1 c o := fun c o z => by rw [← hgE]; exact cgM_f z
          refine ⟨nI a, gX, sI gE 20 0 0 0, ca + 0 + 0, cb2 + 0 + 0, ?_, ?_, ?_, ?_⟩
          · have hw : m_X4_whyNotFlat (some b) g = some (0, g1, ca + 0, cb2 + 0) := by
              simp only [m_X4_whyNotFlat, m_X4_whyNotFlat_J100, cas_y hb24, h16, if_true, hl1, Option.bind_some, lett, wX, exi, hit, er1, if_neg n10, addc_some]
            have hni2 : m_X4_nextArrayIn (b + 1) 1 g1 = some (a, gA) := hni
            have e17 : gO.1 17 a 0 = nI R := by simp [O1]
            have eS : m_X3_startOf (nI R) gO = some (nI P) := by
              rw [startOf_r (by rw [O2]; omega) (by rw [O2]; omega)]
              simp [O1]
            have e0 : gC.1 0 0 0 = nI (a + 1) := by rw [C13 0 0 (by decide)]; simp [O1, A1]
            simp only [m_X4_flat, hA, Option.bind_some, hw, if_true, unw_y hb24, hni2, chk_t hfull, hOwn, e17, eS, lett, hL4, e0, show nI (a + 1) - 1 = nI a from nI_pred a, m_done, hgX, addc_some]
          · have hna2 : m_X5_newArray 1 (nI b) gX = some (nI a, gB) := hna
            have d30 : gD.1 30 0 a = nI R := by simp [D1]
            have d32 : gD.1 32 0 R = nI P := by simp [D1]
            simp only [m_X5_flat, m_X5_flat_J28, m_X5_flat_J139, isA m25 C.1.1 hb, Option.bind_some, if_neg n10, chk_t cb, qb, m26, if_true, lett, wM1, m25, if_neg (ne24 hfull), hna2, hNN, hNR, chk_t (inb_m hfull (by omega)), nI_clamp (show a < 2 ^ 31 by omega), hgD, d30, chk_t (inb_m (show R < 13000 by omega) (by omega)), nI_clamp (show R < 2 ^ 31 by omega), d32, hL5, m_yes]
          · have lowE : ∀ c o j, c < 20 → gE.1 c o j = gX.1 c o j := fun c o j hc => by
              rw [E36 c o (by omega), D1]
              repeat rw [if_neg (by omega)]
              rw [B1]
              repeat rw [if_neg (by omega)]
            have lonE : ∀ c, c < 2 → gE.2.1 c = gX.2.1 c := fun c hc => by
              rw [← hgE]
              funext p
              rw [cgM_2, if_neg (by omega), ← hgD, gI1, arM_2, if_neg (by omega), B2]
            refine RI_copy (N := N) (kd := 1) (rk := 2) (d2 := d) (lo := g1.1 5 (b + 1)) (hi := g1.1 6 (b + 1)) (lo2 := fun e => g1.1 28 0 (3 * b + e)) (hi2 := fun e => g1.1 29 0 (3 * b + e)) (σ := σ) h1 C1 hn hfull hN5 (by omega) (by omega) ?_ ?_ (fun q hq => ⟨(hσ q hq).1, (hσ q hq).2⟩) (by omega) ?_ ?_ ?_ ?_ ?_ ?_ ⟨hd.1, ?_, ?_⟩
            · rw [← itN_pr, itN_congr e5 e6, hit2]
            · intro e he
              rw [e5, e6, Grw_q G (by decide), Grw_q G (by decide)]
              exact hs.2.2.2.2 e he
            · intro c o j hc hc1 hc3 hc4
              rw [gI, if_neg (by omega), lowE c o j hc, X1, if_neg (by omega), pX c o j hc3 hc]
            · intro c o j h1 h2 h3 h4
              rw [gI, if_neg (by omega), pM c o j h1 h2 h3 h4]
            · intro p
              rw [gI1, pM2 2 (by omega), lonE 0 (by omega), X2, pX2]
              exact ⟨rfl, rfl⟩
            · rw [gI1, lonE 1 (by omega), pM2 3 (by omega), X2, pX2]
              refine ⟨funext fun p => ?_, funext fun p => ?_⟩
              · rw [plX_2, if_neg (by omega)]
              · rw [plM_2, if_neg (by omega)]
            · rw [gI1, ← hgE, cgM_3, ← hgD, gI1, arM_3, B2, X2, pX3]
            · rw [gI, if_neg (by omega), lowE 1 0 0 (by omega), X1, if_pos ⟨rfl, rfl, rfl⟩, gI, if_pos ⟨rfl, rfl, rfl⟩]
              exact ⟨rfl, rfl⟩
            · rw [gI, if_neg (by omega), lowE 4 0 0 (by omega), X1, if_neg (by omega), C13 4 0 (by decide), O1]
              repeat rw [if_neg (by omega)]
              rw [A1]
              repeat rw [if_neg (by omega)]
              exact d4
            · rw [gI, if_neg (by omega), E36 22 0 (by decide), D1]
              repeat rw [if_neg (by omega)]
              rw [B1]
              repeat rw [if_neg (by omega)]
              rw [sm1.1 22 0 (by omega)]
              exact d22
          · refine CB_of G ?_ (by omega) (by omega)
            rw [gI1, ← hgE, cgM_3, ← hgD, gI1, arM_3, B2, X2, pX3]
            exact ⟨rfl, rfl⟩
        · have hfa := a_full C.1.1 hfull
          subst hfa
          obtain ⟨z, wM1⟩ := wM _ (SM_1 g 8)
          rw [hfl] at wM1
          have e26 : (sI g 1 0 0 8).1 26 0 b = 4 := h26
          have e25 : (sI g 1 0 0 8).1 25 0 0 = nI 24 := C.2.1.2
          refine ⟨0, sI g 1 0 0 8, sI (sI g 1 0 0 8) 20 0 0 8, 0 + 0 + 0, 0 + 0 + 0, ?_, ?_, RI_stop h 8, CB_0 h rfl⟩
          · simp only [m_X4_flat, m_X4_whyNotFlat, m_X4_whyNotFlat_J100, hA, Option.bind_some, cas_y hb24, h16, if_true, hl1, lett, wX, exi, hit, room_full C.2.1.1, addc_some, if_neg n80, m_stop]
          · simp only [m_X5_flat, m_X5_flat_J28, m_X5_flat_J139, isA (g := sI g 1 0 0 8) C.2.1.2 C.1.1 hb, Option.bind_some, if_neg n10, chk_t cb, qb, e26, if_true, lett, wM1, e25, if_pos (show nI 24 = (24 : Int32) from rfl), if_neg n80, m_no]
