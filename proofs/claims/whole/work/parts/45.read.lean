/-! PURE: sum, mean, compare, same, about. -/
def accF (f : Nat → Int64) (s : Nat) : Nat → Int64 → Nat → Int64
  | 0, y, _ => y
  | m + 1, y, i => accF f s m (y + f (s + i)) (i + 1)
theorem accF_congr {f f2 : Nat → Int64} {s : Nat} : ∀ m i y, (∀ p, s + i ≤ p → p < s + i + m → f2 p = f p) → accF f2 s m y i = accF f s m y i := by
  intro m
  induction m with
  | zero => intro i y _; rfl
  | succ m ih =>
    intro i y h
    simp only [accF]
    rw [h (s + i) (by omega) (by omega), ih (i + 1) _ (fun p h1 h2 => h p (by omega) (by omega))]
theorem X3_total_L {gX : Gs} {x : Int32} {L s : Nat} (hl : m_X3_lengthOf x gX = some (nI L)) (hs : m_X3_startOf x gX = some (nI s)) (hc : s + L ≤ gX.2.2 9) (hN : s + L < 2 ^ 31) : ∀ m i f y, i + m = L → m < f → m_X3_totalOf_L5 x gX f y (nI i) = some (accF (gX.2.1 0) s m y i) := by
  intro m
  induction m with
  | zero =>
    intro i f y hi hf
    obtain ⟨f, rfl⟩ : ∃ f2, f = f2 + 1 := ⟨f - 1, by omega⟩
    rw [m_X3_totalOf_L5, hl]
    simp only [Option.bind_some]
    rw [if_pos (nI_le (by omega) (by omega))]
    rfl
  | succ m ih =>
    intro i f y hi hf
    obtain ⟨f, rfl⟩ : ∃ f2, f = f2 + 1 := ⟨f - 1, by omega⟩
    rw [m_X3_totalOf_L5, hl, hs]
    simp only [Option.bind_some, lett, nI_add, chk_t (inb_m (show s + i < gX.2.2 9 by omega) (by omega)), nI_clamp (show s + i < 2 ^ 31 by omega), nI_1]
    rw [if_neg (nI_ge (by omega) (by omega)), ih (i + 1) f _ (by omega) (by omega)]
    rfl
theorem X3_total {gX : Gs} {x : Int32} {L s : Nat} (hl : m_X3_lengthOf x gX = some (nI L)) (hs : m_X3_startOf x gX = some (nI s)) (hc : s + L ≤ gX.2.2 9) (hN : s + L < 2 ^ 31) (hL : L ≤ 60000) : m_X3_totalOf x gX = some (accF (gX.2.1 0) s L 0 0) := by
  have := X3_total_L hl hs hc hN L 0 FU 0 (by omega) (FU_big (by omega))
  rw [nl0] at this
  simp only [m_X3_totalOf, lett, this]
  rfl
theorem X5_sum_L {gM : Gs} {r L s : Nat} (hr : r < 13000) (h33 : gM.1 33 0 r = nI L) (h32 : gM.1 32 0 r = nI s) (hc : s + L ≤ 300000) : ∀ m i f y, i + m = L → m < f → m_X5_sumOf_L5 (nI r) gM f y (nI i) = some (accF (gM.2.1 2) s m y i) := by
  have c1 := inb_m hr (by omega)
  have q1 := nI_clamp (show r < 2 ^ 31 by omega)
  intro m
  induction m with
  | zero =>
    intro i f y hi hf
    obtain ⟨f, rfl⟩ : ∃ f2, f = f2 + 1 := ⟨f - 1, by omega⟩
    rw [m_X5_sumOf_L5]
    simp only [chk_t c1, q1, h33]
    rw [if_pos (nI_le (by omega) (by omega))]
    rfl
  | succ m ih =>
    intro i f y hi hf
    obtain ⟨f, rfl⟩ : ∃ f2, f = f2 + 1 := ⟨f - 1, by omega⟩
    rw [m_X5_sumOf_L5]
    simp only [chk_t c1, q1, h33, h32, lett, nI_add, chk_t (inb_m (show s + i < 300000 by omega) (by omega)), nI_clamp (show s + i < 2 ^ 31 by omega), nI_1]
    rw [if_neg (nI_ge (by omega) (by omega)), ih (i + 1) f _ (by omega) (by omega)]
    rfl
theorem X5_sumOf {gM : Gs} {r L s : Nat} (hr : r < 13000) (h33 : gM.1 33 0 r = nI L) (h32 : gM.1 32 0 r = nI s) (hc : s + L ≤ 300000) (hL : L ≤ 60000) : m_X5_sumOf (nI r) gM = some (accF (gM.2.1 2) s L 0 0) := by
  have := X5_sum_L hr h33 h32 hc L 0 FU 0 (by omega) (FU_big (by omega))
  rw [nl0] at this
  simp only [m_X5_sumOf, lett, this]
  rfl
/-- a row's facts in states of class and reference -/
def RowF (g gX gM : Gs) (r : Nat) : Prop := m_X3_lengthOf (nI r) gX = some (nI (rl g r)) ∧ m_X3_startOf (nI r) gX = some (nI (rs g r)) ∧ gM.1 33 0 r = nI (rl g r) ∧ gM.1 32 0 r = nI (rs g r) ∧ r < 13000 ∧ rl g r ≤ 500 ∧ rs g r + rl g r ≤ gX.2.2 9 ∧ rs g r + rl g r ≤ 64000
theorem RowF.lX {g gX gM : Gs} {r : Nat} (h : RowF g gX gM r) : m_X3_lengthOf (nI r) gX = some (nI (rl g r)) := h.1
theorem RowF.sX {g gX gM : Gs} {r : Nat} (h : RowF g gX gM r) : m_X3_startOf (nI r) gX = some (nI (rs g r)) := h.2.1
theorem RowF.lM {g gX gM : Gs} {r : Nat} (h : RowF g gX gM r) : gM.1 33 0 r = nI (rl g r) := h.2.2.1
theorem RowF.sM {g gX gM : Gs} {r : Nat} (h : RowF g gX gM r) : gM.1 32 0 r = nI (rs g r) := h.2.2.2.1
theorem RowF.r13 {g gX gM : Gs} {r : Nat} (h : RowF g gX gM r) : r < 13000 := h.2.2.2.2.1
theorem RowF.l5 {g gX gM : Gs} {r : Nat} (h : RowF g gX gM r) : rl g r ≤ 500 := h.2.2.2.2.2.1
theorem RowF.s9 {g gX gM : Gs} {r : Nat} (h : RowF g gX gM r) : rs g r + rl g r ≤ gX.2.2 9 := h.2.2.2.2.2.2.1
theorem RowF.s3 {g gX gM : Gs} {r : Nat} (h : RowF g gX gM r) : rs g r + rl g r ≤ 64000 := h.2.2.2.2.2.2.2
theorem row_f {a R P S n : Nat} {bx : Nat → Bool} {so : Nat → Nat} {g gX gM : Gs} (C : Core a R P S bx so n g) (hn : n ≤ 512) (sx : SX g gX) (sm : SM g gM) {r : Nat} (hr : r < R) : RowF g gX gM r := by
  obtain ⟨⟨ha, hR, hP, hSS⟩, -, -, ⟨hc1, hc2, hc3, hc4, hc5, hc6, hc7, hc8⟩, hrow, -⟩ := C
  obtain ⟨w1, w2, w3, w4, w5, w6⟩ := hrow r hr
  refine ⟨?_, ?_, ?_, ?_, by omega, w3, by rw [sx.2.2.2]; omega, by omega⟩
  · rw [lengthOf_r (by rw [sx.2.2.2]; omega) (by rw [sx.2.2.2]; omega), sx.1 15 _ (by omega), w2]
  · rw [startOf_r (by rw [sx.2.2.2]; omega) (by rw [sx.2.2.2]; omega), sx.1 14 _ (by omega), w1]
  · rw [sm.1 33 _ (by omega), w6, w2]
  · rw [sm.1 32 _ (by omega), w5, w1]
theorem row_sum {a R P S n : Nat} {bx : Nat → Bool} {so : Nat → Nat} {g gX gM : Gs} (C : Core a R P S bx so n g) (hn : n ≤ 512) (sx : SX g gX) (sm : SM g gM) {r : Nat} (hr : r < R) : m_X3_totalOf (nI r) gX = some (accF (g.2.1 0) (rs g r) (rl g r) 0 0) ∧ m_X5_sumOf (nI r) gM = some (accF (g.2.1 0) (rs g r) (rl g r) 0 0) := by
  have F := row_f C hn sx sm hr
  have w4 := (C.2.2.2.2.1 r hr).2.2.2.1
  have h9 := F.s9; have h3 := F.s3; have h5 := F.l5
  refine ⟨?_, ?_⟩
  · rw [X3_total F.lX F.sX F.s9 (by omega) (by omega), sx.2.1]
  · rw [X5_sumOf F.r13 F.lM F.sM (by omega) (by omega), sm.2.1, accF_congr]
    intro p h1 h2
    exact (C.2.2.2.2.2.1 p (by omega)).1
/-- an array, seen -/
theorem arr_view {a R P S n : Nat} {bx : Nat → Bool} {so : Nat → Nat} {g : Gs} (C : Core a R P S bx so n g) {b : Nat} (hb : b < a) : (∃ kd rk r, kd ≤ 3 ∧ g.1 16 b 0 = nI kd ∧ g.1 26 0 b = nI kd ∧ aShape g b rk ∧ r < R ∧ g.1 17 b 0 = nI r ∧ g.1 30 0 b = nI r ∧ rl g r = itN g (b + 1) rk ∧ ∀ p, inRow g r p → bx p = decide (kd = 3)) ∨ (g.1 16 b 0 = 4 ∧ g.1 26 0 b = 4 ∧ aShape g b 2 ∧ aTab g R S bx so b) := by
  obtain ⟨kd, rk, hk, hkX, hkM, hs, hp, ht⟩ := C.2.2.2.2.2.2.1 b hb
  by_cases h4 : kd = 4
  · subst h4
    obtain ⟨rfl, ht2⟩ := ht rfl
    exact Or.inr ⟨hkX, hkM, hs, ht2⟩
  · obtain ⟨r, hr, h17, h30, hrl, hbx⟩ := hp h4
    exact Or.inl ⟨kd, rk, r, by omega, hkX, hkM, hs, hr, h17, h30, hrl, hbx⟩
theorem n4 {kd : Nat} (h : kd ≤ 3) : ¬ nI kd = (4 : Int32) := fun q => by
  have := (k4_iff (k := kd) (m := 4) (by omega) (by omega) (show (4 : Int32) = nI 4 from rfl)).mp q
  omega
theorem X1_rowCount {a R P S n : Nat} {bx : Nat → Bool} {so : Nat → Nat} {g gX : Gs} (C : Core a R P S bx so n g) (sx : SX g gX) {b : Nat} (hb : b < a) (hs : aShape g b 2) : m_X1_rowCount b gX = some (nI (rcN g b)) := by
  have ha := C.1
  have h := X2_length_in (g := gX) (o := b + 1) (d := 0) (rk := 2) (by omega) (by omega) (by omega) (by rw [sx.1 4 _ (by omega)]; exact hs.2.2.1)
  rw [nl0, sx.1 5 _ (by omega), sx.1 6 _ (by omega)] at h
  simp only [m_X1_rowCount, chk_t (show b < 24 by omega), h, Option.bind_some, lN_i]
  rfl
theorem X5_tableRows {a R P S n : Nat} {bx : Nat → Bool} {so : Nat → Nat} {g gM : Gs} (C : Core a R P S bx so n g) (sm : SM g gM) {b : Nat} (hb : b < a) (hs : aShape g b 2) : m_X5_tableRows (nI b) gM = some (nI (rcN g b)) := by
  have ha := C.1
  have h := X5_lengthOf (g := gM) (i := b) (d := 0) (by omega) (by omega)
  have hs0 := hs.2.2.2.2 0 (by omega)
  rw [nl0, sm.1 28 _ (by omega), sm.1 29 _ (by omega), hs0.1, hs0.2] at h
  simp only [m_X5_tableRows, h, Option.bind_some, lN_i]
  rfl
/-- tables, row by row -/
def rowTot (g : Gs) (v : Int32) : Int64 := if v = -1 then 0 else accF (g.2.1 0) (rs g v.toNatClampNeg) (rl g v.toNatClampNeg) 0 0
def rowLen (g : Gs) (v : Int32) : Int32 := if v = -1 then 0 else nI (rl g v.toNatClampNeg)
def tabT (g : Gs) (b : Nat) : Nat → Int64 → Nat → Int64
  | 0, y, _ => y
  | m + 1, y, i => tabT g b m (y + rowTot g (g.1 18 b i)) (i + 1)
def tabI (g : Gs) (b : Nat) : Nat → Int32 → Nat → Int32
  | 0, y, _ => y
  | m + 1, y, i => tabI g b m (y + rowLen g (g.1 18 b i)) (i + 1)
theorem total_v {a R P S n : Nat} {bx : Nat → Bool} {so : Nat → Nat} {g gX : Gs} (C : Core a R P S bx so n g) (hn : n ≤ 512) (sx : SX g gX) {v : Int32} (hv : slOk g R bx v) : m_X3_totalOf v gX = some (rowTot g v) ∧ m_X3_lengthOf v gX = some (rowLen g v) := by
  have hR := C.1
  unfold rowTot rowLen
  rcases hv with rfl | ⟨q, hq, rfl, -⟩
  · exact ⟨X3_total (L := 0) (s := 0) rfl rfl (by omega) (by omega) (by omega), rfl⟩
  · have hq1 : ¬ nI q = -1 := nI_ne_m1 (by omega)
    rw [if_neg hq1, if_neg hq1, nI_clamp (by omega)]
    exact ⟨(row_sum C hn sx (SM_r g) hq).1, (row_f C hn sx (SM_r g) hq).lX⟩
theorem X4_sum_L {a R P S n : Nat} {bx : Nat → Bool} {so : Nat → Nat} {g gX : Gs} (C : Core a R P S bx so n g) (hn : n ≤ 512) (sx : SX g gX) {b : Nat} (hb : b < a) (hs : aShape g b 2) (ht : aTab g R S bx so b) : ∀ m i f y, i + m = rcN g b → m < f → m_X4_sum_L48 b gX f y (nI i) = some (tabT g b m y i) := by
  obtain ⟨t1, t2, t3, t4, t5, t6, t7⟩ := ht
  intro m
  induction m with
  | zero =>
    intro i f y hi hf
    obtain ⟨f, rfl⟩ : ∃ f2, f = f2 + 1 := ⟨f - 1, by omega⟩
    rw [m_X4_sum_L48, X1_rowCount C sx hb hs]
    simp only [Option.bind_some]
    rw [if_pos (nI_le (by omega) (by omega))]
    rfl
  | succ m ih =>
    intro i f y hi hf
    obtain ⟨f, rfl⟩ : ∃ f2, f = f2 + 1 := ⟨f - 1, by omega⟩
    have c1 := inb_m (show i < gX.2.2 (500 + b) by rw [sx.2.2.2]; omega) (by omega)
    rw [m_X4_sum_L48, X1_rowCount C sx hb hs]
    simp only [Option.bind_some, chk_t c1, nI_clamp (show i < 2 ^ 31 by omega), sx.1 18 b (by omega), (total_v C hn sx (t7 i (by omega)).2).1, lett, nI_1]
    rw [if_neg (nI_ge (by omega) (by omega)), ih (i + 1) f _ (by omega) (by omega)]
    rfl
theorem X4_items_L {a R P S n : Nat} {bx : Nat → Bool} {so : Nat → Nat} {g gX : Gs} (C : Core a R P S bx so n g) (hn : n ≤ 512) (sx : SX g gX) {b : Nat} (hb : b < a) (hs : aShape g b 2) (ht : aTab g R S bx so b) : ∀ m i f y, i + m = rcN g b → m < f → m_X4_itemsOf_L24 b gX f y (nI i) = some (tabI g b m y i) := by
  obtain ⟨t1, t2, t3, t4, t5, t6, t7⟩ := ht
  intro m
  induction m with
  | zero =>
    intro i f y hi hf
    obtain ⟨f, rfl⟩ : ∃ f2, f = f2 + 1 := ⟨f - 1, by omega⟩
    rw [m_X4_itemsOf_L24, X1_rowCount C sx hb hs]
    simp only [Option.bind_some]
    rw [if_pos (nI_le (by omega) (by omega))]
    rfl
  | succ m ih =>
    intro i f y hi hf
    obtain ⟨f, rfl⟩ : ∃ f2, f = f2 + 1 := ⟨f - 1, by omega⟩
    have c1 := inb_m (show i < gX.2.2 (500 + b) by rw [sx.2.2.2]; omega) (by omega)
    rw [m_X4_itemsOf_L24, X1_rowCount C sx hb hs]
    simp only [Option.bind_some, chk_t c1, nI_clamp (show i < 2 ^ 31 by omega), sx.1 18 b (by omega), (total_v C hn sx (t7 i (by omega)).2).2, lett, nI_1]
    rw [if_neg (nI_ge (by omega) (by omega)), ih (i + 1) f _ (by omega) (by omega)]
    rfl
theorem X5_tsum_L {a R P S n : Nat} {bx : Nat → Bool} {so : Nat → Nat} {g gM : Gs} (C : Core a R P S bx so n g) (hn : n ≤ 512) (sm : SM g gM) {b : Nat} (hb : b < a) (hs : aShape g b 2) (ht : aTab g R S bx so b) : ∀ m i f y, i + m = rcN g b → m < f → m_X5_sum_L47 (nI b) gM f y (nI i) = some (tabT g b m y i) := by
  have ha := C.1
  obtain ⟨t1, t2, t3, t4, t5, t6, t7⟩ := ht
  have c24 := inb_m (show b < 24 by omega) (by omega)
  have q24 := nI_clamp (show b < 2 ^ 31 by omega)
  have h30 : gM.1 30 0 b = nI (so b) := by rw [sm.1 30 _ (by omega)]; exact t2
  intro m
  induction m with
  | zero =>
    intro i f y hi hf
    obtain ⟨f, rfl⟩ : ∃ f2, f = f2 + 1 := ⟨f - 1, by omega⟩
    rw [m_X5_sum_L47, X5_tableRows C sm hb hs]
    simp only [Option.bind_some]
    rw [if_pos (nI_le (by omega) (by omega))]
    rfl
  | succ m ih =>
    intro i f y hi hf
    obtain ⟨f, rfl⟩ : ∃ f2, f = f2 + 1 := ⟨f - 1, by omega⟩
    have cso := inb_m (show so b + i < 12100 by omega) (by omega)
    have qso := nI_clamp (show so b + i < 2 ^ 31 by omega)
    obtain ⟨hsl, hv⟩ := t7 i (by omega)
    have h38 : gM.1 38 0 (so b + i) = g.1 18 b i := by rw [sm.1 38 _ (by omega)]; exact hsl
    rw [m_X5_sum_L47, X5_tableRows C sm hb hs]
    simp only [Option.bind_some, chk_t c24, q24, h30, nI_add, chk_t cso, qso, h38, lett, nI_1]
    rw [if_neg (nI_ge (by omega) (by omega)), tabT]
    rcases hv with hv | ⟨q, hq, hv, -⟩
    · rw [hv, if_pos rfl, ih (i + 1) f _ (by omega) (by omega)]
      simp [rowTot]
    · have hq1 : ¬ nI q = -1 := nI_ne_m1 (by omega)
      rw [hv, if_neg hq1, (row_sum C hn (SX_r g) sm hq).2]
      simp only [Option.bind_some]
      rw [ih (i + 1) f _ (by omega) (by omega), rowTot, if_neg hq1, nI_clamp (by omega)]
theorem X5_titems_L {a R P S n : Nat} {bx : Nat → Bool} {so : Nat → Nat} {g gM : Gs} (C : Core a R P S bx so n g) (hn : n ≤ 512) (sm : SM g gM) {b : Nat} (hb : b < a) (h26 : g.1 26 0 b = 4) (hs : aShape g b 2) (ht : aTab g R S bx so b) : ∀ m i f y, i + m = rcN g b → m < f → m_X5_about_L95 (nI b) gM f y (nI i) = some (tabI g b m y i) := by
  have ha := C.1
  obtain ⟨t1, t2, t3, t4, t5, t6, t7⟩ := ht
  have c24 := inb_m (show b < 24 by omega) (by omega)
  have q24 := nI_clamp (show b < 2 ^ 31 by omega)
  have h30 : gM.1 30 0 b = nI (so b) := by rw [sm.1 30 _ (by omega)]; exact t2
  have h26 : gM.1 26 0 b = 4 := by rw [sm.1 26 _ (by omega)]; exact h26
  intro m
  induction m with
  | zero =>
    intro i f y hi hf
    obtain ⟨f, rfl⟩ : ∃ f2, f = f2 + 1 := ⟨f - 1, by omega⟩
    rw [m_X5_about_L95]
    simp only [chk_t c24, q24, h26, if_true, X5_tableRows C sm hb hs, Option.bind_some]
    rw [if_pos (nI_le (by omega) (by omega))]
    rfl
  | succ m ih =>
    intro i f y hi hf
    obtain ⟨f, rfl⟩ : ∃ f2, f = f2 + 1 := ⟨f - 1, by omega⟩
    have cso := inb_m (show so b + i < 12100 by omega) (by omega)
    have qso := nI_clamp (show so b + i < 2 ^ 31 by omega)
    obtain ⟨hsl, hv⟩ := t7 i (by omega)
    have h38 : gM.1 38 0 (so b + i) = g.1 18 b i := by rw [sm.1 38 _ (by omega)]; exact hsl
    rw [m_X5_about_L95]
    simp only [chk_t c24, q24, h26, if_true, X5_tableRows C sm hb hs, Option.bind_some, h30, nI_add, chk_t cso, qso, h38, lett, nI_1]
    rw [if_neg (nI_ge (by omega) (by omega)), tabI]
    rcases hv with hv | ⟨q, hq, hv, -⟩
    · rw [hv, if_pos rfl, ih (i + 1) f _ (by omega) (by omega)]
      simp [rowLen]
    · have hq1 : ¬ nI q = -1 := nI_ne_m1 (by omega)
      rw [hv, if_neg hq1, chk_t (inb_m (show q < 13000 by omega) (by omega)), nI_clamp (by omega), (row_f C hn (SX_r g) sm hq).lM]
      rw [ih (i + 1) f _ (by omega) (by omega), rowLen, if_neg hq1, nI_clamp (by omega)]
theorem rowTot_congr {g g2 : Gs} (h14 : g2.1 14 0 = g.1 14 0) (h15 : g2.1 15 0 = g.1 15 0) (l0 : g2.2.1 0 = g.2.1 0) (v : Int32) : rowTot g2 v = rowTot g v := by
  simp only [rowTot, rs, rl, h14, h15, l0]
theorem tabT_congr {g g2 : Gs} {b : Nat} (h14 : g2.1 14 0 = g.1 14 0) (h15 : g2.1 15 0 = g.1 15 0) (l0 : g2.2.1 0 = g.2.1 0) (h18 : g2.1 18 b = g.1 18 b) : ∀ m y i, tabT g2 b m y i = tabT g b m y i := by
  intro m
  induction m with
  | zero => intro y i; rfl
  | succ m ih => intro y i; simp only [tabT, rowTot_congr h14 h15 l0, h18, ih]
theorem tabI_congr {g g2 : Gs} {b : Nat} (h15 : g2.1 15 0 = g.1 15 0) (h18 : g2.1 18 b = g.1 18 b) : ∀ m y i, tabI g2 b m y i = tabI g b m y i := by
  intro m
  induction m with
  | zero => intro y i; rfl
  | succ m ih => intro y i; simp only [tabI, rowLen, rl, h15, h18, ih]
theorem isA {g : Gs} {a : Nat} (h25 : g.1 25 0 0 = nI a) (ha : a ≤ 24) {b : Nat} (hb : b < a) : m_X5_isArray (nI b) g = some 1 := X5_arr_yes h25 ha hb
theorem n10 : ¬ (1 : Int32) = 0 := by decide
theorem Core_1 {a R P S n : Nat} {bx : Nat → Bool} {so : Nat → Nat} {g : Gs} (C : Core a R P S bx so n g) (x : Int32) : Core a R P S bx so n (sI g 1 0 0 x) := Core_congr C (fun c o hc => by simp [coreC] at hc; rw [sF, if_neg (by omega)]) rfl rfl rfl
theorem Core_20 {a R P S n : Nat} {bx : Nat → Bool} {so : Nat → Nat} {g : Gs} (C : Core a R P S bx so n g) (x : Int32) : Core a R P S bx so n (sI g 20 0 0 x) := Core_congr C (fun c o hc => by simp [coreC] at hc; rw [sF, if_neg (by omega)]) rfl rfl rfl
theorem s_sum : S_sum RI := by
  intro n g x1 h hn
  obtain ⟨hcw, hd, hk, a, R, P, S, bx, so, C⟩ := id h
  have ha := C.1
  rcases arr_cases x1 C.1.1 with hx | ⟨b, hb, rfl⟩
  · refine ⟨0, sI g 1 0 0 7, sI (sI g 1 0 0 7) 20 0 0 7, ?_, ?_, RI_stop h 7, CB_0 h rfl⟩
    · simp only [m_X4_sum, X4_arr_no C.2.1.1 hx, Option.bind_some, cas_n, m_stop]
      rfl
    · simp only [m_X5_sum, X5_arr_no (g := sI g 1 0 0 7) C.2.1.2 C.1.1 hx, Option.bind_some, if_true, m_no]
      rfl
  · have hA := X4_arr_yes C.2.1.1 C.1.1 hb
    have hM := isA (g := sI g 1 0 0 0) C.2.1.2 C.1.1 hb
    have cb := inb_m (show b < 24 by omega) (by omega)
    have qb := nI_clamp (show b < 2 ^ 31 by omega)
    have C1 := Core_1 C 0
    have C2 := Core_20 C1 0
    rcases arr_view C hb with ⟨kd, rk, r, hkd, h16, h26, hs, hr, h17, h30, hrl, hbx⟩ | ⟨h16, h26, hs, ht⟩
    · refine ⟨accF (g.2.1 0) (rs g r) (rl g r) 0 0, sI g 1 0 0 0, sI (sI g 1 0 0 0) 20 0 0 0, ?_, ?_, RI_stop h 0, CB_0 h rfl⟩
      · have e16 : (sI g 1 0 0 0).1 16 b 0 = nI kd := h16
        have e17 : (sI g 1 0 0 0).1 17 b 0 = nI r := h17
        have := (row_sum C1 (by omega) (SX_r _) (SM_r _) hr).1
        simp only [m_X4_sum, hA, Option.bind_some, cas_y (show b < 24 by omega), lett, e16, if_neg (n4 hkd), e17, this]
        rfl
      · have e16 : (sI (sI g 1 0 0 0) 20 0 0 0).1 26 0 b = nI kd := h26
        have e17 : (sI (sI g 1 0 0 0) 20 0 0 0).1 30 0 b = nI r := h30
        have := (row_sum C2 (by omega) (SX_r _) (SM_r _) hr).2
        simp only [m_X5_sum, hM, Option.bind_some, if_neg n10, lett, chk_t cb, qb, e16, if_neg (n4 hkd), e17, this]
        rfl
    · have h500 := ht.2.2.2.1
      refine ⟨tabT g b (rcN g b) 0 0, sI g 1 0 0 0, sI (sI g 1 0 0 0) 20 0 0 0, ?_, ?_, RI_stop h 0, CB_0 h rfl⟩
      · have e16 : (sI g 1 0 0 0).1 16 b 0 = 4 := h16
        have := X4_sum_L C1 (by omega) (SX_r _) hb hs ht (rcN g b) 0 FU 0 (by show _ = rcN g b; omega) (FU_big (by omega))
        rw [nl0, tabT_congr (g := g) (g2 := sI g 1 0 0 0) rfl rfl rfl rfl] at this
        simp only [m_X4_sum, hA, Option.bind_some, cas_y (show b < 24 by omega), lett, e16, if_true, this]
      · have e16 : (sI (sI g 1 0 0 0) 20 0 0 0).1 26 0 b = 4 := h26
        have := X5_tsum_L C2 (by omega) (SM_r _) hb hs ht (rcN g b) 0 FU 0 (by show _ = rcN g b; omega) (FU_big (by omega))
        rw [nl0, tabT_congr (g := g) (g2 := sI (sI g 1 0 0 0) 20 0 0 0) rfl rfl rfl rfl] at this
        simp only [m_X5_sum, hM, Option.bind_some, if_neg n10, lett, chk_t cb, qb, e16, if_true, this]
theorem k_le2 {kd : Nat} (h : kd ≤ 4) : nI kd ≤ (2 : Int32) ↔ kd ≤ 2 := nI_leI (by omega) (b := 2) (by omega)
theorem k_lt3 {kd : Nat} (h : kd ≤ 4) : nI kd < (3 : Int32) ↔ kd < 3 := nI_ltI (by omega) (b := 3) (by omega)
theorem s_mean : S_mean RI := by
  intro n g x1 h hn
  obtain ⟨hcw, hd, hk, a, R, P, S, bx, so, C⟩ := id h
  have ha := C.1
  rcases arr_cases x1 C.1.1 with hx | ⟨b, hb, rfl⟩
  · refine ⟨0, sI g 1 0 0 7, sI (sI g 1 0 0 7) 20 0 0 7, ?_, ?_, RI_stop h 7, CB_0 h rfl⟩
    · simp only [m_X4_mean, X4_arr_no C.2.1.1 hx, Option.bind_some, cas_n, m_stop]
      rfl
    · simp only [m_X5_mean, m_X5_mean_J47, X5_arr_no (g := sI g 1 0 0 7) C.2.1.2 C.1.1 hx, Option.bind_some, if_true, m_no]
      rfl
  · have hA := X4_arr_yes C.2.1.1 C.1.1 hb
    have cb := inb_m (show b < 24 by omega) (by omega)
    have qb := nI_clamp (show b < 2 ^ 31 by omega)
    have C1 := Core_1 C 0
    have C2 := Core_20 C1 0
    rcases arr_view C hb with ⟨kd, rk, r, hkd, h16, h26, hs, hr, h17, h30, hrl, hbx⟩ | ⟨h16, h26, hs, ht⟩
    · by_cases hk3 : kd = 3
      · subst hk3
        refine ⟨0, sI g 1 0 0 2, sI (sI g 1 0 0 2) 20 0 0 2, ?_, ?_, RI_stop h 2, CB_0 h rfl⟩
        · simp only [m_X4_mean, hA, Option.bind_some, cas_y (show b < 24 by omega), h16, if_neg (show ¬ nI 3 ≤ (2 : Int32) by decide), m_stop]
          rfl
        · have e26 : (sI g 1 0 0 2).1 26 0 b = nI 3 := h26
          simp only [m_X5_mean, m_X5_mean_J47, isA (g := sI g 1 0 0 2) C.2.1.2 C.1.1 hb, Option.bind_some, if_neg n10, chk_t cb, qb, e26, if_neg (show ¬ nI 3 < (3 : Int32) by decide), m_no]
          rfl
      · have F := row_f C (by omega) (SX_r g) (SM_r g) hr
        have l2 := (k_le2 (kd := kd) (by omega)).mpr (by omega)
        have l3 := (k_lt3 (kd := kd) (by omega)).mpr (by omega)
        have c13 := inb_m F.r13 (by omega)
        have q13 := nI_clamp (show r < 2 ^ 31 by omega)
        have hl5 := F.l5
        by_cases h0 : rl g r = 0
        · refine ⟨0, sI g 1 0 0 6, sI (sI g 1 0 0 6) 20 0 0 6, ?_, ?_, RI_stop h 6, CB_0 h rfl⟩
          · have := F.lX
            rw [h0, nl0] at this
            simp only [m_X4_mean, hA, Option.bind_some, cas_y (show b < 24 by omega), h16, if_pos l2, h17, this, if_true, m_stop]
            rfl
          · have e26 : (sI g 1 0 0 6).1 26 0 b = nI kd := h26
            have e30 : (sI g 1 0 0 6).1 30 0 b = nI r := h30
            have e33 : (sI g 1 0 0 6).1 33 0 r = 0 := by have := F.lM; rw [h0, nl0] at this; exact this
            simp only [m_X5_mean, m_X5_mean_J47, isA (g := sI g 1 0 0 6) C.2.1.2 C.1.1 hb, Option.bind_some, if_neg n10, chk_t cb, qb, e26, if_pos l3, e30, chk_t c13, q13, e33, if_true, m_no]
            rfl
        · have hne : ¬ nI (rl g r) = 0 := nI_ne0 (by omega) (by omega)
          have hne64 : ¬ (nI (rl g r)).toInt64 = 0 := by
            rw [nI_l (by omega)]
            intro q
            have := (lN_eq (a := rl g r) (b := 0) (by omega) (by omega)).mp q
            omega
          refine ⟨accF (g.2.1 0) (rs g r) (rl g r) 0 0 / (nI (rl g r)).toInt64, sI g 1 0 0 0, sI (sI g 1 0 0 0) 20 0 0 0, ?_, ?_, RI_stop h 0, CB_0 h rfl⟩
          · have e17 : (sI g 1 0 0 0).1 17 b 0 = nI r := h17
            have := (row_sum C1 (by omega) (SX_r _) (SM_r _) hr).1
            simp only [m_X4_mean, hA, Option.bind_some, cas_y (show b < 24 by omega), h16, if_pos l2, h17, F.lX, if_neg hne, lett, e17, this, chk_t hne64]
            rfl
          · have e26 : (sI g 1 0 0 0).1 26 0 b = nI kd := h26
            have e30 : (sI g 1 0 0 0).1 30 0 b = nI r := h30
            have e33 : (sI g 1 0 0 0).1 33 0 r = nI (rl g r) := F.lM
            have f30 : (sI (sI g 1 0 0 0) 20 0 0 0).1 30 0 b = nI r := h30
            have f33 : (sI (sI g 1 0 0 0) 20 0 0 0).1 33 0 r = nI (rl g r) := F.lM
            have := (row_sum C2 (by omega) (SX_r _) (SM_r _) hr).2
            simp only [m_X5_mean, m_X5_mean_J47, isA (g := sI g 1 0 0 0) C.2.1.2 C.1.1 hb, Option.bind_some, if_neg n10, chk_t cb, qb, e26, if_pos l3, e30, chk_t c13, q13, e33, if_neg hne, if_true, lett, f30, this, f33, chk_t hne64]
            rfl
    · refine ⟨0, sI g 1 0 0 2, sI (sI g 1 0 0 2) 20 0 0 2, ?_, ?_, RI_stop h 2, CB_0 h rfl⟩
      · simp only [m_X4_mean, hA, Option.bind_some, cas_y (show b < 24 by omega), h16, if_neg (show ¬ (4 : Int32) ≤ (2 : Int32) by decide), m_stop]
        rfl
      · have e26 : (sI g 1 0 0 2).1 26 0 b = 4 := h26
        simp only [m_X5_mean, m_X5_mean_J47, isA (g := sI g 1 0 0 2) C.2.1.2 C.1.1 hb, Option.bind_some, if_neg n10, chk_t cb, qb, e26, if_neg (show ¬ (4 : Int32) < (3 : Int32) by decide), m_no]
        rfl
/-- order -/
def cmF (f : Nat → Int64) (s t : Nat) : Nat → Nat → Option Bool
  | 0, _ => none
  | m + 1, i => if f (s + i) = f (t + i) then cmF f s t m (i + 1) else some (decide (f (s + i) < f (t + i)))
theorem cmF_congr {f f2 : Nat → Int64} {s t : Nat} : ∀ m i, (∀ j, i ≤ j → j < i + m → f2 (s + j) = f (s + j) ∧ f2 (t + j) = f (t + j)) → cmF f2 s t m i = cmF f s t m i := by
  intro m
  induction m with
  | zero => intro i _; rfl
  | succ m ih =>
    intro i h
    have h0 := h i (by omega) (by omega)
    simp only [cmF]
    rw [h0.1, h0.2, ih (i + 1) (fun j h1 h2 => h j (by omega) (by omega))]
theorem J13_cmp (x y : Int64) (g : Gs) : m_J13_compare_74951 x y g = some (if x = y then 0 else if x < y then -1 else 1) := by
  unfold m_J13_compare_74951 m_J13_compare_74951_J21
  simp only [lg_cmp_ge, lg_cmp_eq]
  by_cases h1 : x < y
  · rw [if_neg (Int64.not_le.mpr h1), if_neg (fun q => by rw [q] at h1; exact Int64.lt_irrefl h1), if_pos h1]
  · rw [if_pos (Int64.not_lt.mp h1), if_neg h1]
    split <;> rfl
theorem J6_cmp (x y : Int32) (g : Gs) : m_J6_compare_7cf53 x y g = some (if y ≤ x then (if x ≤ y then 0 else 1) else -1) := by
  unfold m_J6_compare_7cf53 m_J6_compare_7cf53_J19
  by_cases h1 : y ≤ x
  · rw [if_pos h1, if_pos h1]
    by_cases h2 : x ≤ y
    · rw [if_pos h2, if_pos (Int32.le_antisymm h2 h1)]
    · rw [if_neg h2, if_neg (fun q => h2 (by rw [q]; exact Int32.le_refl _))]
  · rw [if_neg h1, if_neg h1]
theorem X3_order_L {gX : Gs} {x y : Int32} {s t L : Nat} (hs : m_X3_startOf x gX = some (nI s)) (ht : m_X3_startOf y gX = some (nI t)) (hc : s + L ≤ gX.2.2 9) (hc2 : t + L ≤ gX.2.2 9) (hN : s + L < 2 ^ 31) (hN2 : t + L < 2 ^ 31) : ∀ m i f, i + m = L → m < f → m_X3_orderOf_L17 x y (nI L) gX f (nI i) = some (match cmF (gX.2.1 0) s t m i with | none => .inr () | some b => .inl (if b then -1 else 1)) := by
  intro m
  induction m with
  | zero =>
    intro i f hi hf
    obtain ⟨f, rfl⟩ : ∃ f2, f = f2 + 1 := ⟨f - 1, by omega⟩
    rw [m_X3_orderOf_L17, if_pos (nI_le (by omega) (by omega))]
    rfl
  | succ m ih =>
    intro i f hi hf
    obtain ⟨f, rfl⟩ : ∃ f2, f = f2 + 1 := ⟨f - 1, by omega⟩
    rw [m_X3_orderOf_L17, if_neg (nI_ge (by omega) (by omega)), hs, ht]
    simp only [Option.bind_some, nI_add, chk_t (inb_m (show s + i < gX.2.2 9 by omega) (by omega)), chk_t (inb_m (show t + i < gX.2.2 9 by omega) (by omega)), nI_clamp (show s + i < 2 ^ 31 by omega), nI_clamp (show t + i < 2 ^ 31 by omega), J13_cmp, lett, nI_1, cmF]
    by_cases h1 : gX.2.1 0 (s + i) = gX.2.1 0 (t + i)
    · rw [if_pos h1, if_pos rfl, if_pos h1, ih (i + 1) f (by omega) (by omega)]
    · rw [if_neg h1, if_neg h1]
      by_cases h2 : gX.2.1 0 (s + i) < gX.2.1 0 (t + i)
      · rw [if_pos h2, if_neg (by decide), decide_eq_true h2]
        rfl
      · rw [if_neg h2, if_neg (by decide), decide_eq_false h2]
        rfl
theorem X5_cmp_L {gM : Gs} {b c r q s t Lb Lc : Nat} (hb : b < 24) (hc : c < 24) (hr : r < 13000) (hq : q < 13000) (hb30 : gM.1 30 0 b = nI r) (hc30 : gM.1 30 0 c = nI q) (hs : gM.1 32 0 r = nI s) (ht : gM.1 32 0 q = nI t) (h1 : s + Lb ≤ 300000) (h2 : t + Lc ≤ 300000) : ∀ m i f, i + m = min Lb Lc → m < f → m_X5_compare_L82 (nI b) (nI c) (nI Lb) (nI Lc) f (nI i) gM = some (match cmF (gM.2.1 2) s t m i with | none => .inr gM | some z => .inl ((if z then -1 else 1), sI gM 20 0 0 0)) := by
  intro m
  induction m with
  | zero =>
    intro i f hi hf
    obtain ⟨f, rfl⟩ : ∃ f2, f = f2 + 1 := ⟨f - 1, by omega⟩
    rw [m_X5_compare_L82]
    by_cases h : Lb ≤ i
    · rw [if_pos (nI_le (by omega) (by omega))]
      rfl
    · rw [if_neg (nI_ge (by omega) (by omega)), if_pos (nI_le (by omega) (by omega))]
      rfl
  | succ m ih =>
    intro i f hi hf
    obtain ⟨f, rfl⟩ : ∃ f2, f = f2 + 1 := ⟨f - 1, by omega⟩
    rw [m_X5_compare_L82, if_neg (nI_ge (by omega) (by omega)), if_neg (nI_ge (by omega) (by omega))]
    simp only [chk_t (inb_m hb (by omega)), chk_t (inb_m hc (by omega)), nI_clamp (show b < 2 ^ 31 by omega), nI_clamp (show c < 2 ^ 31 by omega), hb30, hc30, chk_t (inb_m hr (by omega)), chk_t (inb_m hq (by omega)), nI_clamp (show r < 2 ^ 31 by omega), nI_clamp (show q < 2 ^ 31 by omega), hs, ht, nI_add, chk_t (inb_m (show s + i < 300000 by omega) (by omega)), chk_t (inb_m (show t + i < 300000 by omega) (by omega)), nI_clamp (show s + i < 2 ^ 31 by omega), nI_clamp (show t + i < 2 ^ 31 by omega), lett, nI_1, cmF, lg_cmp_eq, lg_cmp_ge, m_yes, Option.bind_some]
    by_cases h1 : gM.2.1 2 (s + i) = gM.2.1 2 (t + i)
    · rw [if_pos h1, if_pos h1, ih (i + 1) f (by omega) (by omega)]
    · rw [if_neg h1, if_neg h1]
      by_cases h2 : gM.2.1 2 (s + i) < gM.2.1 2 (t + i)
      · rw [if_neg (Int64.not_le.mpr h2), decide_eq_true h2]
        rfl
      · rw [if_pos (Int64.not_lt.mp h2), decide_eq_false h2]
        rfl
theorem both_no {g : Gs} {a : Nat} (h0 : g.1 0 0 0 = nI a) {x1 x2 : Int32} (ha : a ≤ 24) (hx : (x1 < 0 ∨ nI a ≤ x1) ∨ (x2 < 0 ∨ nI a ≤ x2)) : ∃ o1 o2, m_X4_arrayOf x1 g = some o1 ∧ m_X4_arrayOf x2 g = some o2 ∧ (o1 = none ∨ ∃ b, b < 24 ∧ o1 = some b ∧ o2 = none) := by
  rcases arr_cases x1 ha with h1 | ⟨b, hb, rfl⟩
  · rcases arr_cases x2 ha with h2 | ⟨c, hc, rfl⟩
    · exact ⟨none, none, X4_arr_no h0 h1, X4_arr_no h0 h2, Or.inl rfl⟩
    · exact ⟨none, some c, X4_arr_no h0 h1, X4_arr_yes h0 ha hc, Or.inl rfl⟩
  · rcases hx with h1 | h2
    · exfalso
      rcases h1 with h1 | h1
      · exact nI_pos (by omega) h1
      · exact nI_ge hb (by omega) h1
    · exact ⟨some b, none, X4_arr_yes h0 ha hb, X4_arr_no h0 h2, Or.inr ⟨b, by omega, rfl, rfl⟩⟩
theorem both_noM {g : Gs} {a : Nat} (h25 : g.1 25 0 0 = nI a) {x1 x2 : Int32} (ha : a ≤ 24) (hx : (x1 < 0 ∨ nI a ≤ x1) ∨ (x2 < 0 ∨ nI a ≤ x2)) : m_X5_isArray x1 g = some 0 ∨ (m_X5_isArray x1 g = some 1 ∧ m_X5_isArray x2 g = some 0) := by
  rcases arr_cases x1 ha with h1 | ⟨b, hb, rfl⟩
  · exact Or.inl (X5_arr_no h25 ha h1)
  · rcases hx with h1 | h2
    · exact Or.inl (X5_arr_no h25 ha h1)
    · exact Or.inr ⟨X5_arr_yes h25 ha hb, X5_arr_no h25 ha h2⟩
theorem two_cases (x1 x2 : Int32) {a : Nat} (ha : a ≤ 24) : ((x1 < 0 ∨ nI a ≤ x1) ∨ (x2 < 0 ∨ nI a ≤ x2)) ∨ ∃ b c, b < a ∧ c < a ∧ x1 = nI b ∧ x2 = nI c := by
  rcases arr_cases x1 ha with h1 | ⟨b, hb, h1⟩
  · exact Or.inl (Or.inl h1)
  · rcases arr_cases x2 ha with h2 | ⟨c, hc, h2⟩
    · exact Or.inl (Or.inr h2)
    · exact Or.inr ⟨b, c, hb, hc, h1, h2⟩
theorem s_compare : S_compare RI := by
  intro n g x1 x2 h hn
  obtain ⟨hcw, hd, hk, a, R, P, S, bx, so, C⟩ := id h
  have ha := C.1
  rcases two_cases x1 x2 C.1.1 with hx | ⟨b, c, hb, hc, rfl, rfl⟩
  · refine ⟨0, sI g 1 0 0 7, sI (sI g 1 0 0 7) 20 0 0 7, ?_, ?_, RI_stop h 7, CB_0 h rfl⟩
    · obtain ⟨o1, o2, e1, e2, hq⟩ := both_no C.2.1.1 C.1.1 hx
      simp only [m_X4_compare, m_X4_compare_J22, e1, e2, Option.bind_some, m_stop]
      rcases hq with rfl | ⟨b, hb, rfl, rfl⟩
      · rfl
      · rw [cas_y hb]
        rfl
    · rcases both_noM (g := sI g 1 0 0 7) C.2.1.2 C.1.1 hx with q | ⟨q1, q2⟩
      · simp only [m_X5_compare, m_X5_compare_J16, q, Option.bind_some, if_true, m_no]
      · simp only [m_X5_compare, m_X5_compare_J16, q1, q2, Option.bind_some, if_neg n10, if_true, m_no]
  · have hA := X4_arr_yes C.2.1.1 C.1.1 hb
    have hA2 := X4_arr_yes C.2.1.1 C.1.1 hc
    have cb := inb_m (show b < 24 by omega) (by omega)
    have qb := nI_clamp (show b < 2 ^ 31 by omega)
    have cc := inb_m (show c < 24 by omega) (by omega)
    have qc := nI_clamp (show c < 2 ^ 31 by omega)
    have hb24 : b < 24 := by omega
    have hc24 : c < 24 := by omega
    have kb := kd_eq C hb
    have kc := kd_eq C hc
    by_cases hkk : g.1 16 b 0 = g.1 16 c 0 ∧ g.1 16 b 0 ≤ 2
    · rcases arr_view C hb with ⟨kd, rk, r, hkd, h16, h26, hs, hr, h17, h30, hrl, hbx⟩ | ⟨h16, h26, hs, ht⟩
      · rcases arr_view C hc with ⟨kd2, rk2, q, hkd2, i16, i26, is, hq, i17, i30, irl, ibx⟩ | ⟨i16, i26, is, it⟩
        · have F := row_f C (by omega) (SX_r g) (SM_r g) hr
          have G := row_f C (by omega) (SX_r g) (SM_r g) hq
          have f1 := F.l5; have f2 := F.s9; have f3 := F.s3
          have g1 := G.l5; have g2 := G.s9; have g3 := G.s3
          have hlt : g.1 16 b 0 < 3 := by
            have := hkk.2
            rw [h16] at this ⊢
            have := (k_le2 (by omega)).mp this
            exact (k_lt3 (by omega)).mpr (by omega)
          have hmin : (if nI (rl g q) < nI (rl g r) then nI (rl g q) else nI (rl g r)) = nI (min (rl g r) (rl g q)) := by
            by_cases hm : rl g q < rl g r
            · rw [if_pos (nI_lt hm (by omega)), Nat.min_eq_right (by omega)]
            · rw [if_neg (nI_nlt (by omega) (by omega)), Nat.min_eq_left (by omega)]
          have hL := X3_order_L F.sX G.sX (L := min (rl g r) (rl g q)) (by omega) (by omega) (by omega) (by omega) (min (rl g r) (rl g q)) 0 FU (by omega) (FU_big (by omega))
          rw [nl0] at hL
          refine ⟨match cmF (g.2.1 0) (rs g r) (rs g q) (min (rl g r) (rl g q)) 0 with | none => (if nI (rl g q) ≤ nI (rl g r) then (if nI (rl g r) ≤ nI (rl g q) then 0 else 1) else -1) | some z => if z then -1 else 1, sI g 1 0 0 0, sI (sI g 1 0 0 0) 20 0 0 0, ?_, ?_, RI_stop h 0, CB_0 h rfl⟩
          · simp only [m_X4_compare, hA, hA2, Option.bind_some, cas_y hb24, cas_y hc24, if_pos hkk.1, if_pos hkk.2, h17, i17, m_X3_orderOf, F.lX, G.lX, lett, hmin, hL, J6_cmp, m_done]
            cases cmF (g.2.1 0) (rs g r) (rs g q) (min (rl g r) (rl g q)) 0 with
            | none => rfl
            | some z => rfl
          · have F1 := row_f (Core_1 C 0) (by omega) (SX_r _) (SM_r _) hr
            have G1 := row_f (Core_1 C 0) (by omega) (SX_r _) (SM_r _) hq
            have e26 : (sI g 1 0 0 0).1 26 0 b = g.1 16 b 0 := kb
            have e26c : (sI g 1 0 0 0).1 26 0 c = g.1 16 c 0 := kc
            have e30 : (sI g 1 0 0 0).1 30 0 b = nI r := h30
            have e30c : (sI g 1 0 0 0).1 30 0 c = nI q := i30
            have e33 : (sI g 1 0 0 0).1 33 0 r = nI (rl g r) := F.lM
            have e33c : (sI g 1 0 0 0).1 33 0 q = nI (rl g q) := G.lM
            have hM := X5_cmp_L (gM := sI g 1 0 0 0) hb24 hc24 F.r13 G.r13 e30 e30c (s := rs g r) (t := rs g q) F.sM G.sM (Lb := rl g r) (Lc := rl g q) (by omega) (by omega) (min (rl g r) (rl g q)) 0 FU (by omega) (FU_big (by omega))
            have hcm : cmF ((sI g 1 0 0 0).2.1 2) (rs g r) (rs g q) (min (rl g r) (rl g q)) 0 = cmF (g.2.1 0) (rs g r) (rs g q) (min (rl g r) (rl g q)) 0 := by
              have wr := (C.2.2.2.2.1 r hr).2.2.2.1
              have wq := (C.2.2.2.2.1 q hq).2.2.2.1
              exact cmF_congr _ _ (fun j h1 h2 => ⟨(C.2.2.2.2.2.1 _ (by omega)).1, (C.2.2.2.2.2.1 _ (by omega)).1⟩)
            rw [nl0, hcm] at hM
            simp only [m_X5_compare, m_X5_compare_J191, isA (g := sI g 1 0 0 0) C.2.1.2 C.1.1 hb, isA (g := sI g 1 0 0 0) C.2.1.2 C.1.1 hc, Option.bind_some, if_neg n10, chk_t cb, chk_t cc, qb, qc, e26, e26c, if_pos hkk.1, if_pos hlt, e30, e30c, chk_t (inb_m F.r13 (by omega)), chk_t (inb_m G.r13 (by omega)), nI_clamp (show r < 2 ^ 31 by omega), nI_clamp (show q < 2 ^ 31 by omega), e33, e33c, lett, hM]
            cases cmF (g.2.1 0) (rs g r) (rs g q) (min (rl g r) (rl g q)) 0 with
            | none =>
              simp only [exi, m_yes, Option.bind_some]
              split
              · split <;> rfl
              · rfl
            | some z => rfl
        · exfalso
          have := hkk.2
          rw [hkk.1, i16] at this
          exact absurd this (by decide)
      · exfalso
        have := hkk.2
        rw [h16] at this
        exact absurd this (by decide)
    · refine ⟨0, sI g 1 0 0 2, sI (sI g 1 0 0 2) 20 0 0 2, ?_, ?_, RI_stop h 2, CB_0 h rfl⟩
      · simp only [m_X4_compare, m_X4_compare_J49, hA, hA2, Option.bind_some, cas_y hb24, cas_y hc24, m_stop]
        by_cases h1 : g.1 16 b 0 = g.1 16 c 0
        · rw [if_pos h1, if_neg (fun q => hkk ⟨h1, q⟩)]
        · rw [if_neg h1]
      · have e26 : (sI g 1 0 0 2).1 26 0 b = g.1 16 b 0 := kb
        have e26c : (sI g 1 0 0 2).1 26 0 c = g.1 16 c 0 := kc
        simp only [m_X5_compare, m_X5_compare_J48, isA (g := sI g 1 0 0 2) C.2.1.2 C.1.1 hb, isA (g := sI g 1 0 0 2) C.2.1.2 C.1.1 hc, Option.bind_some, if_neg n10, chk_t cb, chk_t cc, qb, qc, e26, e26c, m_no]
        by_cases h1 : g.1 16 b 0 = g.1 16 c 0
        · have h2 : ¬ g.1 16 b 0 < 3 := fun q => by
            obtain ⟨kd, rk, hk, hkX, -⟩ := C.2.2.2.2.2.2.1 b hb
            rw [hkX] at q
            have := (k_lt3 hk).mp q
            exact hkk ⟨h1, by rw [hkX]; exact (k_le2 hk).mpr (by omega)⟩
          rw [if_pos h1, if_neg h2]
        · rw [if_neg h1]
/-- the same rows -/
def smF (f h : Nat → Int32) : Nat → Nat → Bool
  | 0, _ => true
  | m + 1, i => if f i = h i then smF f h m (i + 1) else false
theorem smF_t {f h : Nat → Int32} {m i : Nat} (q : f i = h i) : smF f h (m + 1) i = smF f h m (i + 1) := if_pos q
theorem smF_f {f h : Nat → Int32} {m i : Nat} (q : ¬ f i = h i) : smF f h (m + 1) i = false := if_neg q
theorem X4_same_L {a R P S n : Nat} {bx : Nat → Bool} {so : Nat → Nat} {g gX : Gs} (C : Core a R P S bx so n g) (sx : SX g gX) {b c : Nat} (hb : b < a) (hc : c < a) (hs : aShape g b 2) (ht : aTab g R S bx so b) (hs2 : aShape g c 2) (ht2 : aTab g R S bx so c) (he : rcN g b = rcN g c) : ∀ m i f, i + m = rcN g b → m < f → m_X4_haveSameRows_L48 b c gX f (nI i) = some (if smF (g.1 18 b) (g.1 18 c) m i then .inr () else .inl 0) := by
  have h5 := ht.2.2.2.1
  have h6 := ht.2.2.2.2.1
  have h7 := ht2.2.2.2.2.1
  intro m
  induction m with
  | zero =>
    intro i f hi hf
    obtain ⟨f, rfl⟩ : ∃ f2, f = f2 + 1 := ⟨f - 1, by omega⟩
    rw [m_X4_haveSameRows_L48, X1_rowCount C sx hb hs]
    simp only [Option.bind_some]
    rw [if_pos (nI_le (by omega) (by omega))]
    rfl
  | succ m ih =>
    intro i f hi hf
    obtain ⟨f, rfl⟩ : ∃ f2, f = f2 + 1 := ⟨f - 1, by omega⟩
    have c1 := inb_m (show i < gX.2.2 (500 + b) by rw [sx.2.2.2]; omega) (by omega)
    have c2 := inb_m (show i < gX.2.2 (500 + c) by rw [sx.2.2.2]; omega) (by omega)
    rw [m_X4_haveSameRows_L48, X1_rowCount C sx hb hs]
    simp only [Option.bind_some, chk_t c1, chk_t c2, nI_clamp (show i < 2 ^ 31 by omega), sx.1 18 b (by omega), sx.1 18 c (by omega), lett, nI_1]
    rw [if_neg (nI_ge (by omega) (by omega))]
    by_cases hq : g.1 18 b i = g.1 18 c i
    · rw [if_pos hq, smF_t hq, ih (i + 1) f (by omega) (by omega)]
    · rw [if_neg hq, smF_f hq]
      rfl
theorem X5_same_L {a R P S n : Nat} {bx : Nat → Bool} {so : Nat → Nat} {g gM : Gs} (C : Core a R P S bx so n g) (sm : SM g gM) {b c : Nat} (hb : b < a) (hc : c < a) (hs : aShape g b 2) (ht : aTab g R S bx so b) (hs2 : aShape g c 2) (ht2 : aTab g R S bx so c) (he : rcN g b = rcN g c) : ∀ m i f, i + m = rcN g b → m < f → m_X5_same_L110 (nI b) (nI c) gM (f + 1) 1 (nI i) = some (if smF (g.1 18 b) (g.1 18 c) m i then 1 else 0) := by
  have ha := C.1
  obtain ⟨t1, t2, t3, t4, t5, t6, t7⟩ := ht
  obtain ⟨u1, u2, u3, u4, u5, u6, u7⟩ := ht2
  have c24 := inb_m (show b < 24 by omega) (by omega)
  have q24 := nI_clamp (show b < 2 ^ 31 by omega)
  have d24 := inb_m (show c < 24 by omega) (by omega)
  have p24 := nI_clamp (show c < 2 ^ 31 by omega)
  have h30 : gM.1 30 0 b = nI (so b) := by rw [sm.1 30 _ (by omega)]; exact t2
  have i30 : gM.1 30 0 c = nI (so c) := by rw [sm.1 30 _ (by omega)]; exact u2
  intro m
  induction m with
  | zero =>
    intro i f hi hf
    rw [m_X5_same_L110, if_neg n10, X5_tableRows C sm hb hs]
    simp only [Option.bind_some]
    rw [if_pos (nI_le (by omega) (by omega))]
    rfl
  | succ m ih =>
    intro i f hi hf
    have cso := inb_m (show so b + i < 12100 by omega) (by omega)
    have qso := nI_clamp (show so b + i < 2 ^ 31 by omega)
    have dso := inb_m (show so c + i < 12100 by omega) (by omega)
    have pso := nI_clamp (show so c + i < 2 ^ 31 by omega)
    have h38 : gM.1 38 0 (so b + i) = g.1 18 b i := by rw [sm.1 38 _ (by omega)]; exact (t7 i (by omega)).1
    have i38 : gM.1 38 0 (so c + i) = g.1 18 c i := by rw [sm.1 38 _ (by omega)]; exact (u7 i (by omega)).1
    rw [m_X5_same_L110, if_neg n10, X5_tableRows C sm hb hs]
    simp only [Option.bind_some, chk_t c24, q24, chk_t d24, p24, h30, i30, nI_add, chk_t cso, qso, chk_t dso, pso, h38, i38, lett, nI_1]
    rw [if_neg (nI_ge (by omega) (by omega))]
    obtain ⟨f, rfl⟩ : ∃ f2, f = f2 + 1 := ⟨f - 1, by omega⟩
    by_cases hq : g.1 18 b i = g.1 18 c i
    · rw [if_pos hq, smF_t hq, ih (i + 1) f (by omega) (by omega)]
    · rw [if_neg hq, smF_f hq, m_X5_same_L110]
      rfl
theorem s_same : S_same RI := by
  intro n g x1 x2 h hn
  obtain ⟨hcw, hd, hk, a, R, P, S, bx, so, C⟩ := id h
  have ha := C.1
  rcases two_cases x1 x2 C.1.1 with hx | ⟨b, c, hb, hc, rfl, rfl⟩
  · refine ⟨0, sI g 1 0 0 7, sI (sI g 1 0 0 7) 20 0 0 7, ?_, ?_, RI_stop h 7, CB_0 h rfl⟩
    · obtain ⟨o1, o2, e1, e2, hq⟩ := both_no C.2.1.1 C.1.1 hx
      simp only [m_X4_same, m_X4_same_J22, e1, e2, Option.bind_some, m_stop]
      rcases hq with rfl | ⟨b, hb, rfl, rfl⟩
      · rfl
      · rw [cas_y hb]
        rfl
    · rcases both_noM (g := sI g 1 0 0 7) C.2.1.2 C.1.1 hx with q | ⟨q1, q2⟩
      · simp only [m_X5_same, m_X5_same_J16, q, Option.bind_some, if_true, m_no]
      · simp only [m_X5_same, m_X5_same_J16, q1, q2, Option.bind_some, if_neg n10, if_true, m_no]
  · have hA := X4_arr_yes C.2.1.1 C.1.1 hb
    have hA2 := X4_arr_yes C.2.1.1 C.1.1 hc
    have hM := isA (g := sI g 1 0 0 0) C.2.1.2 C.1.1 hb
    have hM2 := isA (g := sI g 1 0 0 0) C.2.1.2 C.1.1 hc
    have cb := inb_m (show b < 24 by omega) (by omega)
    have qb := nI_clamp (show b < 2 ^ 31 by omega)
    have cc := inb_m (show c < 24 by omega) (by omega)
    have qc := nI_clamp (show c < 2 ^ 31 by omega)
    have hb24 : b < 24 := by omega
    have hc24 : c < 24 := by omega
    have C1 := Core_1 C 0
    rcases arr_view C hb with ⟨kd, rk, r, hkd, h16, h26, hs, hr, h17, h30, hrl, hbx⟩ | ⟨h16, h26, hs, ht⟩
    · have e26 : (sI g 1 0 0 0).1 26 0 b = nI kd := h26
      have e30 : (sI g 1 0 0 0).1 30 0 b = nI r := h30
      rcases arr_view C hc with ⟨kd2, rk2, q, hkd2, i16, i26, is, hq, i17, i30, irl, ibx⟩ | ⟨i16, i26, is, it⟩
      · have f26 : (sI g 1 0 0 0).1 26 0 c = nI kd2 := i26
        have f30 : (sI g 1 0 0 0).1 30 0 c = nI q := i30
        refine ⟨if nI r = nI q then 1 else 0, sI g 1 0 0 0, sI (sI g 1 0 0 0) 20 0 0 0, ?_, ?_, RI_stop h 0, CB_0 h rfl⟩
        · simp only [m_X4_same, m_X4_same_J44, hA, hA2, Option.bind_some, cas_y hb24, cas_y hc24, m_X4_haveSameRows, m_X4_haveSameRows_J16, m_X4_haveSameRows_J32, chk_t hb24, chk_t hc24, h16, if_neg (n4 hkd), h17, i17, m_done]
          by_cases e : nI r = nI q
          · simp only [if_pos e]; rfl
          · simp only [if_neg e]; rfl
        · simp only [m_X5_same, m_X5_same_J43, m_X5_same_J84, m_X5_same_J83, hM, hM2, Option.bind_some, if_neg n10, chk_t cb, chk_t cc, qb, qc, e26, f26, if_neg (n4 hkd), if_neg (n4 hkd2), e30, f30, m_yes]
          by_cases e : nI r = nI q
          · simp only [if_pos e]
          · simp only [if_neg e]
      · have f26 : (sI g 1 0 0 0).1 26 0 c = 4 := i26
        have f17 := it.1
        have hne : ¬ nI r = -1 := nI_ne_m1 (by omega)
        refine ⟨0, sI g 1 0 0 0, sI (sI g 1 0 0 0) 20 0 0 0, ?_, ?_, RI_stop h 0, CB_0 h rfl⟩
        · simp only [m_X4_same, m_X4_same_J44, hA, hA2, Option.bind_some, cas_y hb24, cas_y hc24, m_X4_haveSameRows, m_X4_haveSameRows_J16, m_X4_haveSameRows_J32, chk_t hb24, chk_t hc24, h16, if_neg (n4 hkd), h17, f17, if_neg hne, m_done]
          rfl
        · simp only [m_X5_same, m_X5_same_J43, m_X5_same_J84, m_X5_same_J83, hM, hM2, Option.bind_some, if_neg n10, chk_t cb, chk_t cc, qb, qc, e26, f26, if_neg (n4 hkd), if_true, m_yes]
    · have e26 : (sI g 1 0 0 0).1 26 0 b = 4 := h26
      rcases arr_view C hc with ⟨kd2, rk2, q, hkd2, i16, i26, is, hq, i17, i30, irl, ibx⟩ | ⟨i16, i26, is, it⟩
      · have f26 : (sI g 1 0 0 0).1 26 0 c = nI kd2 := i26
        have f17 := ht.1
        have hne : ¬ -1 = nI q := fun z => nI_ne_m1 (show q < 2 ^ 31 by omega) z.symm
        refine ⟨0, sI g 1 0 0 0, sI (sI g 1 0 0 0) 20 0 0 0, ?_, ?_, RI_stop h 0, CB_0 h rfl⟩
        · simp only [m_X4_same, m_X4_same_J44, hA, hA2, Option.bind_some, cas_y hb24, cas_y hc24, m_X4_haveSameRows, m_X4_haveSameRows_J16, m_X4_haveSameRows_J32, chk_t hb24, chk_t hc24, h16, i16, if_true, if_neg (n4 hkd2), f17, i17, if_neg hne, m_done]
          rfl
        · simp only [m_X5_same, m_X5_same_J43, m_X5_same_J84, m_X5_same_J83, hM, hM2, Option.bind_some, if_neg n10, chk_t cb, chk_t cc, qb, qc, e26, f26, if_true, if_neg (n4 hkd2), m_yes]
      · have f26 : (sI g 1 0 0 0).1 26 0 c = 4 := i26
        have h5b := ht.2.2.2.1
        have h5c := it.2.2.2.1
        have r1 := X1_rowCount C (SX_r g) hb hs
        have r2 := X1_rowCount C (SX_r g) hc is
        have m1 : m_X5_tableRows (nI b) (sI g 1 0 0 0) = some (nI (rcN g b)) := X5_tableRows C (SM_1 g 0) hb hs
        have m2 : m_X5_tableRows (nI c) (sI g 1 0 0 0) = some (nI (rcN g c)) := X5_tableRows C (SM_1 g 0) hc is
        by_cases he : rcN g b = rcN g c
        · have hL := X4_same_L C (SX_r g) hb hc hs ht is it he (rcN g b) 0 FU (by omega) (FU_big (by omega))
          obtain ⟨F, hF⟩ : ∃ F, FU = F + 1 := ⟨FU - 1, rfl⟩
          have hL2 := X5_same_L C (SM_1 g 0) hb hc hs ht is it he (rcN g b) 0 F (by omega) (by have := FU_big (m := 501) (by omega); omega)
          rw [nl0] at hL hL2
          refine ⟨if smF (g.1 18 b) (g.1 18 c) (rcN g b) 0 then 1 else 0, sI g 1 0 0 0, sI (sI g 1 0 0 0) 20 0 0 0, ?_, ?_, RI_stop h 0, CB_0 h rfl⟩
          · simp only [m_X4_same, m_X4_same_J44, hA, hA2, Option.bind_some, cas_y hb24, cas_y hc24, m_X4_haveSameRows, chk_t hb24, chk_t hc24, h16, i16, if_true, r1, r2, if_pos (show nI (rcN g b) = nI (rcN g c) by rw [he]), lett, hL, m_done]
            cases smF (g.1 18 b) (g.1 18 c) (rcN g b) 0 with
            | true => rfl
            | false => rfl
          · simp only [m_X5_same, m_X5_same_J106, m_X5_same_J177, hM, hM2, Option.bind_some, if_neg n10, chk_t cb, chk_t cc, qb, qc, e26, f26, if_true, m1, m2, if_pos (show nI (rcN g b) = nI (rcN g c) by rw [he]), lett, hF, hL2, m_yes]
            cases smF (g.1 18 b) (g.1 18 c) (rcN g b) 0 with
            | true => rfl
            | false => rfl
        · have hne : ¬ nI (rcN g b) = nI (rcN g c) := fun z => he ((nI_eq (by omega) (by omega)).mp z)
          refine ⟨0, sI g 1 0 0 0, sI (sI g 1 0 0 0) 20 0 0 0, ?_, ?_, RI_stop h 0, CB_0 h rfl⟩
          · simp only [m_X4_same, m_X4_same_J44, hA, hA2, Option.bind_some, cas_y hb24, cas_y hc24, m_X4_haveSameRows, chk_t hb24, chk_t hc24, h16, i16, if_true, r1, r2, if_neg hne, m_done]
            rfl
          · obtain ⟨F, hF⟩ : ∃ F, FU = F + 1 := ⟨FU - 1, rfl⟩
            simp only [m_X5_same, m_X5_same_J106, m_X5_same_J177, hM, hM2, Option.bind_some, if_neg n10, chk_t cb, chk_t cc, qb, qc, e26, f26, if_true, m1, m2, if_neg hne, lett, hF, m_X5_same_L110, m_yes]
theorem nI_of8 {x : Int32} (h0 : ¬ x < 0) (h8 : x ≤ 8) : ∃ j, j ≤ 8 ∧ x = nI j := nI_of2 (M := 8) (n := 8) (by decide) h0 h8
theorem X5_w8 (x : Int32) (M : Nat) (hM : M < 2 ^ 31) (g : Gs) : m_X5_within x.toInt64 (0 : Int64) (lN M) g = some (if x < 0 ∨ nI M < x then 0 else 1) := by
  have h := X5_withinI x 0 (nI M) g
  rw [nI_l hM] at h
  rw [show (0 : Int64) = (0 : Int32).toInt64 from by decide, h]
  by_cases h1 : x < 0
  · rw [if_neg (fun q => Int32.not_le.mpr h1 q.1), if_pos (Or.inl h1)]
  · by_cases h2 : nI M < x
    · rw [if_neg (fun q => Int32.not_le.mpr h2 q.2), if_pos (Or.inr h2)]
    · rw [if_pos ⟨Int32.not_lt.mp h1, Int32.not_lt.mp h2⟩, if_neg (fun q => q.elim h1 h2)]
theorem RI_same {n : Nat} {g : Gs} (h : RI n g) (hn : n < 512) : RI (n + 1) g := RI_def n g h hn
theorem about_low {a R P S n : Nat} {bx : Nat → Bool} {so : Nat → Nat} {g : Gs} (C : Core a R P S bx so n g) {b rk : Nat} (hb : b < a) (hs : aShape g b rk) {d : Nat} (hd : d < rk) (x : Int32) : (sI g 1 0 0 x).1 28 0 (3 * b + d) = g.1 5 (b + 1) d ∧ (sI g 1 0 0 x).1 29 0 (3 * b + d) = g.1 6 (b + 1) d := hs.2.2.2.2 d hd
theorem s_about : S_about RI := by
  intro n g x1 x2 h hn
  obtain ⟨hcw, hd, hk, a, R, P, S, bx, so, C⟩ := id h
  have ha := C.1
  by_cases hout : x2 < 0 ∨ nI 8 < x2
  · refine ⟨-2000000001, g, g, ?_, ?_, RI_def n g h hn, CB_0 h rfl⟩
    · unfold m_X4_about m_X4_about_J10
      by_cases h1 : x2 < 0
      · rw [if_pos h1]
      · rw [if_neg h1, if_neg (show ¬ x2 ≤ 8 from Int32.not_le.mpr (hout.resolve_left h1))]
    · have := X5_w8 x2 8 (by decide) g
      rw [if_pos hout] at this
      simp only [m_X5_about, show (8 : Int64) = lN 8 from rfl, this, Option.bind_some, if_true]
  · obtain ⟨w, hw, rfl⟩ := nI_of8 (fun q => hout (Or.inl q)) (Int32.not_lt.mp (fun q => hout (Or.inr q)))
    have hwi := fun g1 => X5_w8 (nI w) 8 (by decide) g1
    simp only [if_neg hout] at hwi
    have e8 : (8 : Int64) = lN 8 := rfl
    have p0 : ¬ nI w < 0 := fun q => hout (Or.inl q)
    have p8 : nI w ≤ 8 := Int32.not_lt.mp (fun q => hout (Or.inr q))
    rcases arr_cases x1 C.1.1 with hx | ⟨b, hb, rfl⟩
    · refine ⟨0, sI g 1 0 0 7, sI (sI g 1 0 0 7) 20 0 0 7, ?_, ?_, RI_stop h 7, CB_0 h rfl⟩
      · simp only [m_X4_about, if_neg p0, if_pos p8, X4_arr_no C.2.1.1 hx, Option.bind_some, cas_n, m_stop]
      · simp only [m_X5_about, e8, hwi, Option.bind_some, if_neg n10, X5_arr_no (g := sI g 1 0 0 7) C.2.1.2 C.1.1 hx, if_true, m_no]
    · have hA := X4_arr_yes C.2.1.1 C.1.1 hb
      have hM := fun x => isA (g := sI g 1 0 0 x) C.2.1.2 C.1.1 hb
      have cb := inb_m (show b < 24 by omega) (by omega)
      have qb := nI_clamp (show b < 2 ^ 31 by omega)
      have hb24 : b < 24 := by omega
      have kb := kd_eq C hb
      obtain ⟨kd, rk, hkd, hkX, hkM, hs, -, -⟩ := C.2.2.2.2.2.2.1 b hb
      have hsr := hs.2.1
      by_cases w0 : w = 0
      · subst w0
        refine ⟨g.1 16 b 0, sI g 1 0 0 0, sI (sI g 1 0 0 0) 20 0 0 0, ?_, ?_, RI_stop h 0, CB_0 h rfl⟩
        · simp only [m_X4_about, if_neg p0, if_pos p8, hA, Option.bind_some, cas_y hb24, if_pos (show nI 0 = 0 from rfl), m_done]
        · have e26 : (sI g 1 0 0 0).1 26 0 b = g.1 16 b 0 := kb
          simp only [m_X5_about, e8, hwi, Option.bind_some, if_neg n10, hM, if_pos (show nI 0 = 0 from rfl), chk_t cb, qb, e26, m_yes]
      · have z0 : ¬ nI w = 0 := nI_ne0 (by omega) (by omega)
        by_cases w1 : w = 1
        · subst w1
          refine ⟨nI rk, sI g 1 0 0 0, sI (sI g 1 0 0 0) 20 0 0 0, ?_, ?_, RI_stop h 0, CB_0 h rfl⟩
          · simp only [m_X4_about, if_neg p0, if_pos p8, hA, Option.bind_some, cas_y hb24, if_neg z0, if_pos (show nI 1 = 1 from rfl), hs.2.2.1, m_done]
          · have e27 : (sI g 1 0 0 0).1 27 0 b = nI rk := hs.2.2.2.1
            simp only [m_X5_about, e8, hwi, Option.bind_some, if_neg n10, hM, if_neg z0, if_pos (show nI 1 = 1 from rfl), chk_t cb, qb, e27, m_yes]
        · have z1 : ¬ nI w = 1 := fun q => w1 ((nI_eq (b := 1) (by omega) (by omega)).mp q)
          by_cases w2 : w = 2
          · subst w2
            rcases arr_view C hb with ⟨kd, rk, r, hkd, h16, h26, hs, hr, h17, h30, hrl, hbx⟩ | ⟨h16, h26, hs, ht⟩
            · have F := row_f C (by omega) (SX_r g) (SM_r g) hr
              refine ⟨nI (rl g r), sI g 1 0 0 0, sI (sI g 1 0 0 0) 20 0 0 0, ?_, ?_, RI_stop h 0, CB_0 h rfl⟩
              · simp only [m_X4_about, if_neg p0, if_pos p8, hA, Option.bind_some, cas_y hb24, if_neg z0, if_neg z1, if_pos (show nI 2 = 2 from rfl), m_X4_itemsOf, chk_t hb24, h16, if_neg (n4 hkd), h17, F.lX, m_done]
              · have e26 : (sI g 1 0 0 0).1 26 0 b = nI kd := h26
                have e30 : (sI g 1 0 0 0).1 30 0 b = nI r := h30
                have e33 : (sI g 1 0 0 0).1 33 0 r = nI (rl g r) := F.lM
                obtain ⟨F1, hF⟩ : ∃ F, FU = F + 1 := ⟨FU - 1, rfl⟩
                simp only [m_X5_about, m_X5_about_J91, e8, hwi, Option.bind_some, if_neg n10, hM, if_neg z0, if_neg z1, if_pos (show nI 2 = 2 from rfl), chk_t cb, qb, e26, if_neg (n4 hkd), e30, chk_t (inb_m F.r13 (by omega)), nI_clamp (show r < 2 ^ 31 by omega), e33, lett, hF, m_X5_about_L95, m_yes]
            · have h500 := ht.2.2.2.1
              have hL := X4_items_L C (by omega) (SX_r g) hb hs ht (rcN g b) 0 FU 0 (by omega) (FU_big (by omega))
              have hL2 := X5_titems_L C (by omega) (SM_1 g 0) hb h26 hs ht (rcN g b) 0 FU 0 (by omega) (FU_big (by omega))
              rw [nl0] at hL hL2
              refine ⟨tabI g b (rcN g b) 0 0, sI g 1 0 0 0, sI (sI g 1 0 0 0) 20 0 0 0, ?_, ?_, RI_stop h 0, CB_0 h rfl⟩
              · simp only [m_X4_about, if_neg p0, if_pos p8, hA, Option.bind_some, cas_y hb24, if_neg z0, if_neg z1, if_pos (show nI 2 = 2 from rfl), m_X4_itemsOf, chk_t hb24, h16, if_true, lett, hL, m_done]
              · have e26 : (sI g 1 0 0 0).1 26 0 b = 4 := h26
                simp only [m_X5_about, m_X5_about_J91, e8, hwi, Option.bind_some, if_neg n10, hM, if_neg z0, if_neg z1, if_pos (show nI 2 = 2 from rfl), chk_t cb, qb, e26, if_true, lett, hL2, m_yes]
          · have z2 : ¬ nI w = 2 := fun q => w2 ((nI_eq (b := 2) (by omega) (by omega)).mp q)
            have zz : ¬ (2 : Int32) = 0 := by decide
            obtain ⟨d, hd3, hdw, hpar⟩ : ∃ d, d < 3 ∧ (nI w - 3) / 2 = nI d ∧ (((nI w - 3) - (nI w - 3) / 2 * 2 = 0 ∧ nI w - nI w / 2 * 2 = 1) ∨ (¬ (nI w - 3) - (nI w - 3) / 2 * 2 = 0 ∧ ¬ nI w - nI w / 2 * 2 = 1)) := by
              have : w = 3 ∨ w = 4 ∨ w = 5 ∨ w = 6 ∨ w = 7 ∨ w = 8 := by omega
              rcases this with rfl | rfl | rfl | rfl | rfl | rfl
              · exact ⟨0, by decide, by decide, by decide⟩
              · exact ⟨0, by decide, by decide, by decide⟩
              · exact ⟨1, by decide, by decide, by decide⟩
              · exact ⟨1, by decide, by decide, by decide⟩
              · exact ⟨2, by decide, by decide, by decide⟩
              · exact ⟨2, by decide, by decide, by decide⟩
            have e27 := fun x => show (sI g 1 0 0 x).1 27 0 b = nI rk from hs.2.2.2.1
            have e4 := hs.2.2.1
            have cd := inb_m (show d < 3 by omega) (by omega)
            have qd := nI_clamp (show d < 2 ^ 31 by omega)
            have i3 := ix3 hb24 hd3
            have c72 := inb_m (show 3 * b + d < 72 by omega) (by omega)
            have q72 := nI_clamp (show 3 * b + d < 2 ^ 31 by omega)
            by_cases hdr : d < rk
            · have ld := nI_lt hdr (show rk < 2 ^ 31 by omega)
              have hlo := about_low C hb hs hdr 0
              refine ⟨if (nI w - 3) - (nI w - 3) / 2 * 2 = 0 then g.1 5 (b + 1) d else g.1 6 (b + 1) d, sI g 1 0 0 0, sI (sI g 1 0 0 0) 20 0 0 0, ?_, ?_, RI_stop h 0, CB_0 h rfl⟩
              · simp only [m_X4_about, m_X4_about_J114, m_X4_about_J145, if_neg p0, if_pos p8, hA, Option.bind_some, cas_y hb24, if_neg z0, if_neg z1, if_neg z2, chk_t zz, lett, e4, m_done]
                rcases hpar with ⟨q1, q2⟩ | ⟨q1, q2⟩
                · rw [if_pos q1, if_pos q1, if_neg n10, hdw, if_pos ld, chk_t cd, qd]
                · rw [if_neg q1, if_neg q1, if_pos trivial, hdw, if_pos ld, chk_t cd, qd]
              · simp only [m_X5_about, m_X5_about_J217, e8, hwi, Option.bind_some, if_neg n10, hM, if_neg z0, if_neg z1, if_neg z2, chk_t zz, chk_t cb, qb, lett, e27, m_yes]
                rcases hpar with ⟨q1, q2⟩ | ⟨q1, q2⟩
                · rw [if_pos q1, if_pos q2, hdw, if_pos ld, i3, chk_t c72, q72, hlo.1]
                · rw [if_neg q1, if_neg q2, hdw, if_pos ld, i3, chk_t c72, q72, hlo.2]
            · have ld := nI_nlt (show rk ≤ d by omega) (show d < 2 ^ 31 by omega)
              refine ⟨0, sI g 1 0 0 9, sI (sI g 1 0 0 9) 20 0 0 9, ?_, ?_, RI_stop h 9, CB_0 h rfl⟩
              · simp only [m_X4_about, if_neg p0, if_pos p8, hA, Option.bind_some, cas_y hb24, if_neg z0, if_neg z1, if_neg z2, chk_t zz, lett, e4, m_stop]
                rw [hdw, if_neg ld]
              · simp only [m_X5_about, e8, hwi, Option.bind_some, if_neg n10, hM, if_neg z0, if_neg z1, if_neg z2, chk_t zz, chk_t cb, qb, lett, e27, m_no]
                rw [hdw, if_neg ld]
