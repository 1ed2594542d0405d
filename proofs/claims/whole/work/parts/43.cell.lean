/-! PURE: where an item lies, for class and reference. -/
def SX (g gX : Gs) : Prop := (∀ c o, c < 20 → gX.1 c o = g.1 c o) ∧ gX.2.1 0 = g.2.1 0 ∧ gX.2.1 1 = g.2.1 1 ∧ gX.2.2 = g.2.2
def SM (g gM : Gs) : Prop := (∀ c o, 20 ≤ c → gM.1 c o = g.1 c o) ∧ gM.2.1 2 = g.2.1 2 ∧ gM.2.1 3 = g.2.1 3
theorem SX_r (g : Gs) : SX g g := ⟨fun _ _ _ => rfl, rfl, rfl, rfl⟩
theorem SM_r (g : Gs) : SM g g := ⟨fun _ _ _ => rfl, rfl, rfl⟩
theorem SX_sI {g gX : Gs} (h : SX g gX) {c o j : Nat} {v : Int32} (hc : 20 ≤ c) : SX g (sI gX c o j v) := ⟨fun c1 o1 h1 => by rw [sF, if_neg (by omega)]; exact h.1 c1 o1 h1, h.2⟩
theorem SM_sI {g gM : Gs} (h : SM g gM) {c o j : Nat} {v : Int32} (hc : c < 20) : SM g (sI gM c o j v) := ⟨fun c1 o1 h1 => by rw [sF, if_neg (by omega)]; exact h.1 c1 o1 h1, h.2⟩
theorem inb_m {n N : Nat} (h : n < N) (hn : n < 2 ^ 31) : inb (nI n) N := by
  rintro (q | q)
  · exact nI_pos hn q
  · rw [nI_clamp hn] at q
    omega
theorem nI_inj4 {k m : Nat} (hk : k < 2 ^ 31) (hm : m < 2 ^ 31) : nI k = nI m ↔ k = m := nI_eq hk hm
theorem nI_ne_m1 {k : Nat} (hk : k < 2 ^ 31) : ¬ nI k = -1 := fun h => by
  have h1 := congrArg Int32.toInt h
  rw [nI_toInt hk, show (-1 : Int32).toInt = -1 from by decide] at h1
  omega
theorem startOf_r {g : Gs} {r : Nat} (hr : r < g.2.2 11) (h : g.2.2 11 ≤ 30000) : m_X3_startOf (nI r) g = some (g.1 14 0 r) := by
  simp only [m_X3_startOf, m_X3_startOf_J15]
  rw [if_neg (nI_ne_m1 (by omega)), chk_t (inb_n hr (by omega)), nI_clamp (by omega)]
theorem lengthOf_r {g : Gs} {r : Nat} (hr : r < g.2.2 12) (h : g.2.2 12 ≤ 30000) : m_X3_lengthOf (nI r) g = some (g.1 15 0 r) := by
  simp only [m_X3_lengthOf, m_X3_lengthOf_J15]
  rw [if_neg (nI_ne_m1 (by omega)), chk_t (inb_n hr (by omega)), nI_clamp (by omega)]
theorem lengthOf_n (g : Gs) : m_X3_lengthOf (-1) g = some 0 := rfl
theorem startOf_n (g : Gs) : m_X3_startOf (-1) g = some 0 := rfl
/-- what is said of an item -/
def FdI (P : Nat) (bx : Nat → Bool) (g gX gM : Gs) (x i j k : Int32) (b : Nat) : Prop :=
  (∃ p, p < P ∧ m_X4_cellOf (some b) i j k gX = some (nI p, gX) ∧ m_X5_find x i j k gM = some (nI p, gM) ∧ bx p = decide (g.1 16 b 0 = 3)) ∨
  (∃ e gm, e < 3 ∧ m_X4_cellOf (some b) i j k gX = some (-1, sI (sI gX 2 0 0 (nI e)) 1 0 0 3) ∧ (gm = gM ∨ gm = sI gM 44 0 0 (nI e)) ∧ m_X5_find x i j k gM = some (-1, sI (sI gm 21 0 0 (nI e)) 20 0 0 3)) ∨
  (m_X4_cellOf (some b) i j k gX = some (-1, sI gX 1 0 0 1) ∧ m_X5_find x i j k gM = some (-1, sI gM 20 0 0 1))
theorem k4_iff {k m : Nat} (hk : k ≤ 4) (hm : m ≤ 4) {v : Int32} (hv : v = nI m) : nI k = v ↔ k = m := by
  rw [hv]
  exact nI_eq (by omega) (by omega)
theorem cell_plain {a R P S n : Nat} {bx : Nat → Bool} {so : Nat → Nat} {g gX gM : Gs} (C : Core a R P S bx so n g) (hn : n ≤ 512) (sx : SX g gX) (sm : SM g gM) {b : Nat} (hb : b < a) {kd rk : Nat} (hk : kd ≤ 4) (hkX : g.1 16 b 0 = nI kd) (hkM : g.1 26 0 b = nI kd) (hs : aShape g b rk) (hp : aPlain g R bx b kd rk) (hk4 : kd ≠ 4) (i j k : Int32) : FdI P bx g gX gM (nI b) i j k b := by
  obtain ⟨⟨ha, hR, hP, hSS⟩, ⟨h0, h25⟩, -, ⟨hc1, hc2, hc3, hc4, hc5, hc6, hc7, hc8⟩, hrow, -, -, -⟩ := C
  obtain ⟨hs1, hs2, hs3, hs4, hs5⟩ := hs
  obtain ⟨r, hr, hrX, hrM, hrl, hbx⟩ := hp
  obtain ⟨w1, w2, w3, w4, w5, w6⟩ := hrow r hr
  have e4 : gX.1 4 (b + 1) 0 = nI rk := by rw [sx.1 4 _ (by omega)]; exact hs3
  have e5 := sx.1 5 (b + 1) (by omega)
  have e6 := sx.1 6 (b + 1) (by omega)
  have f27 : gM.1 27 0 b = nI rk := by rw [sm.1 27 _ (by omega)]; exact hs4
  have flo : ∀ d, d < rk → gM.1 28 0 (3 * b + d) = g.1 5 (b + 1) d ∧ gM.1 29 0 (3 * b + d) = g.1 6 (b + 1) d := fun d hd => by rw [sm.1 28 _ (by omega), sm.1 29 _ (by omega)]; exact hs5 d hd
  have hne4 : ¬ nI kd = (4 : Int32) := fun q => hk4 ((k4_iff hk (by omega) (show (4 : Int32) = nI 4 from rfl)).mp q)
  have h26 : gM.1 26 0 b = nI kd := by rw [sm.1 26 _ (by omega)]; exact hkM
  have hX0 : m_X4_cellOf (some b) i j k gX = ((m_X2_firstBeyond (b + 1) i j k gX).bind fun x_8 => if x_8 = (-1 : Int32) then ((m_X3_startOf (gX.1 17 b 0) gX).bind fun x_11 => (m_X2_place (b + 1) i j k gX).bind fun x_13 => some ((x_11 + x_13), gX)) else ((m_X4_stopBeyond x_8 gX).bind fun (x_15, g_16) => some ((-1 : Int32), g_16))) := by
    simp only [m_X4_cellOf, cas]
    rw [chk_t (by omega), sx.1 16 _ (by omega), hkX, if_neg (fun q => hk4 ((k4_iff hk (by omega) (show (4 : Int32) = nI 4 from rfl)).mp q))]
  have hM0 : m_X5_find (nI b) i j k gM = ((m_X5_placeOf (nI b) i j k gM).bind fun (x_32, g_33) => if x_32 = (-1 : Int32) then ((m_X5_noItem (g_33.1 44 0 0) g_33).bind fun (x_38, g_39) => some ((-1 : Int32), g_39)) else (chk (inb (g_33.1 30 0 b) 13000) (some (((g_33.1 32 0 (g_33.1 30 0 b).toNatClampNeg) + x_32), g_33)))) := by
    simp only [m_X5_find, X5_arr_yes (g := gM) (a := a) (i := b) (by rw [sm.1 25 _ (by omega)]; exact h25) ha hb, Option.bind_some, if_neg (show ¬ (1 : Int32) = 0 by decide), chk_t (inb_m (show b < 24 by omega) (by omega)), nI_clamp (show b < 2 ^ 31 by omega), h26, if_neg hne4]
  rw [X2_firstBeyond (by omega) hs2 e4, e5, e6] at hX0
  rw [X5_placeOf (by omega) hs2 f27 flo] at hM0
  cases hf : fbF (g.1 5 (b + 1)) (g.1 6 (b + 1)) (ixf i j k) 0 rk with
  | none =>
    have hin := fb_none rk 0 hf
    have hpl := pl_lt (lo := g.1 5 (b + 1)) (hi := g.1 6 (b + 1)) (x := ixf i j k) rk 0 0 (by simp [prN]) (fun e h1 h2 => hin e h1 h2)
    rw [Nat.zero_add, ← itN_pr, ← hrl] at hpl
    refine Or.inl ⟨rs g r + plF (g.1 5 (b + 1)) (g.1 6 (b + 1)) (ixf i j k) 0 0 rk, by omega, ?_, ?_, ?_⟩
    · rw [hX0, hf]
      simp only [Option.bind_some, if_true]
      rw [sx.1 17 _ (by omega), hrX, startOf_r (by rw [sx.2.2.2]; omega) (by rw [sx.2.2.2]; omega), X2_place (by omega) hs2 e4 (fun e he => by rw [e5, e6]; exact hin e (by omega) (by omega)), sx.1 14 _ (by omega), w1, e5, e6]
      simp only [Option.bind_some, nI_add]
    · rw [hM0, hf]
      simp only [Option.bind_some]
      rw [if_neg (nI_ne_m1 (by omega)), sm.1 30 _ (by omega), hrM, chk_t (inb_m (by omega) (by omega)), nI_clamp (by omega), sm.1 32 _ (by omega), w5, w1, nI_add]
    · rw [hbx _ ⟨by omega, by omega⟩, hkX]
      exact decide_eq_decide.mpr (k4_iff hk (by omega) (show (3 : Int32) = nI 3 from rfl)).symm
  | some e =>
    have he := fb_some rk 0 e hf
    refine Or.inr (Or.inl ⟨e, sI gM 44 0 0 (nI e), by omega, ?_, Or.inr rfl, ?_⟩)
    · rw [hX0, hf]
      simp only [Option.bind_some]
      rw [if_neg (nI_ne_m1 (by omega)), m_stopB]
      rfl
    · rw [hM0, hf]
      simp only [Option.bind_some, if_true, m_noItem, gI]
      simp
theorem cell_tab {a R P S n : Nat} {bx : Nat → Bool} {so : Nat → Nat} {g gX gM : Gs} (C : Core a R P S bx so n g) (hn : n ≤ 512) (sx : SX g gX) (sm : SM g gM) {b : Nat} (hb : b < a) (hkX : g.1 16 b 0 = nI 4) (hkM : g.1 26 0 b = nI 4) (hs : aShape g b 2) (ht : aTab g R S bx so b) (i j k : Int32) : FdI P bx g gX gM (nI b) i j k b := by
  obtain ⟨⟨ha, hR, hP, hSS⟩, ⟨h0, h25⟩, -, ⟨hc1, hc2, hc3, hc4, hc5, hc6, hc7, hc8⟩, hrow, -, -, -⟩ := C
  obtain ⟨hs1, hs2, hs3, hs4, hs5⟩ := hs
  obtain ⟨t1, t2, t3, t4, t5, t6, t7⟩ := ht
  have e4 : gX.1 4 (b + 1) 0 = nI 2 := by rw [sx.1 4 _ (by omega)]; exact hs3
  have e5 := sx.1 5 (b + 1) (by omega)
  have e6 := sx.1 6 (b + 1) (by omega)
  have hs50 := hs5 0 (by omega)
  have hs51 := hs5 1 (by omega)
  have hX0 : m_X4_cellOf (some b) i j k gX = m_X4_tableCellOf b i j gX := by
    simp only [m_X4_cellOf, cas]
    rw [chk_t (by omega), sx.1 16 _ (by omega), hkX, if_pos (by decide)]
    cases m_X4_tableCellOf b i j gX <;> rfl
  have e3 : (3 : Int32) * nI b = nI (3 * b) := by rw [show (3 : Int32) = nI 3 from rfl, pk_mul]
  have e31 : nI (3 * b) + 1 = nI (3 * b + 1) := nI_1 _
  have hisA := X5_arr_yes (g := gM) (a := a) (i := b) (by rw [sm.1 25 _ (by omega)]; exact h25) ha hb
  have h26 : gM.1 26 0 b = 4 := by rw [sm.1 26 _ (by omega)]; exact hkM
  have h28 : gM.1 28 0 (3 * b) = g.1 5 (b + 1) 0 := by rw [sm.1 28 _ (by omega)]; exact hs50.1
  have h29 : gM.1 29 0 (3 * b) = g.1 6 (b + 1) 0 := by rw [sm.1 29 _ (by omega)]; exact hs50.2
  have h281 : gM.1 28 0 (3 * b + 1) = g.1 5 (b + 1) 1 := by rw [sm.1 28 _ (by omega)]; exact hs51.1
  have h30 : gM.1 30 0 b = nI (so b) := by rw [sm.1 30 _ (by omega)]; exact t2
  have n10 : ¬ (1 : Int32) = 0 := by decide
  have n30 : ¬ (3 : Int32) = 0 := by decide
  have c24 := inb_m (show b < 24 by omega) (by omega)
  have c72 := inb_m (show 3 * b < 72 by omega) (by omega)
  have c721 := inb_m (show 3 * b + 1 < 72 by omega) (by omega)
  have q24 := nI_clamp (show b < 2 ^ 31 by omega)
  have q72 := nI_clamp (show 3 * b < 2 ^ 31 by omega)
  have q721 := nI_clamp (show 3 * b + 1 < 2 ^ 31 by omega)
  have hwr : m_X5_wantsRow (nI b) i gM = some (if g.1 5 (b + 1) 0 ≤ i ∧ i ≤ g.1 6 (b + 1) 0 then 0 else 3) := by
    simp only [m_X5_wantsRow, m_X5_wantsRow_J58, hisA, Option.bind_some, if_neg n10, chk_t c24, q24, h26, if_true, e3, chk_t c72, q72, h28, h29, X5_withinI]
    by_cases h : g.1 5 (b + 1) 0 ≤ i ∧ i ≤ g.1 6 (b + 1) 0
    · simp only [if_pos h, if_neg n10]
    · simp only [if_neg h, if_true]
  have hhold : m_X2_holds (b + 1) 0 i gX = some (if g.1 5 (b + 1) 0 ≤ i ∧ i ≤ g.1 6 (b + 1) 0 then 1 else 0) := by
    have := X2_holds (g := gX) (o := b + 1) (d := 0) (by omega) (by omega) i
    rw [e5, e6] at this
    exact this
  unfold FdI
  rw [hX0]
  by_cases hin : g.1 5 (b + 1) 0 ≤ i ∧ i ≤ g.1 6 (b + 1) 0
  · have hoff := off_lt hin.1 hin.2
    have hofs : i - g.1 5 (b + 1) 0 = nI (offN (g.1 5 (b + 1) 0) i) := off32 hin.1
    generalize hq : offN (g.1 5 (b + 1) 0) i = q at hoff hofs
    have hqr : q < rcN g b := hoff
    obtain ⟨hsl, hso⟩ := t7 q hqr
    have hslot : m_X5_slotOf (nI b) i gM = some (nI (so b + q)) := by
      simp only [m_X5_slotOf, chk_t c24, e3, chk_t c72, q24, q72, h30, h28]
      rw [← nI_add, ← hofs]
      congr 1
      rw [Int32.sub_eq_add_neg, Int32.sub_eq_add_neg, Int32.add_assoc]
    have hoffs : m_X2_offset (b + 1) 0 i gX = some (nI q) := by
      have := X2_offset (g := gX) (o := b + 1) (d := 0) (by omega) (by omega) i
      rw [e5, hofs] at this
      exact this
    have cq := inb_m (show q < gX.2.2 (500 + b) by rw [sx.2.2.2]; omega) (by omega)
    have cso := inb_m (show so b + q < 12100 by omega) (by omega)
    have qq := nI_clamp (show q < 2 ^ 31 by omega)
    have qso := nI_clamp (show so b + q < 2 ^ 31 by omega)
    have x18 : gX.1 18 b q = g.1 18 b q := by rw [sx.1 18 _ (by omega)]
    have x38 : gM.1 38 0 (so b + q) = g.1 18 b q := by rw [sm.1 38 _ (by omega)]; exact hsl
    have hX1 : m_X4_tableCellOf b i j gX = (if g.1 18 b q = (-1 : Int32) then ((m_X4_stop (1 : Int32) gX).bind fun (x_23, g_24) => some ((-1 : Int32), g_24)) else (chk (inb (1 : Int32) 3) (lett (j.toInt64 - (gX.1 5 (b + 1) (1 : Int32).toNatClampNeg).toInt64) fun y_11 => if (lg_cmp y_11 (0 : Int64)) < 0 then (m_X4_tableCellOf_J88  gX) else ((m_X3_lengthOf (g.1 18 b q) gX).bind fun x_18 => if (lg_cmp y_11 x_18.toInt64) < 0 then ((m_X3_startOf (g.1 18 b q) gX).bind fun x_21 => some ((x_21 + y_11.toInt32), gX)) else (m_X4_tableCellOf_J88  gX))))) := by
      simp only [m_X4_tableCellOf, chk_t (show b < 24 by omega), hhold, Option.bind_some, if_pos hin, if_neg n10, hoffs, chk_t cq, qq, x18]
      rfl
    have hM1 : m_X5_find (nI b) i j k gM = (if g.1 18 b q = (-1 : Int32) then (lett (sI gM 20 0 0 (1 : Int32)) fun g_26 => some ((-1 : Int32), g_26)) else (lett (j.toInt64 - (g.1 5 (b + 1) 1).toInt64) fun y_16 => chk (inb (g.1 18 b q) 13000) ((m_X5_within y_16 (0 : Int64) (((gM.1 33 0 (g.1 18 b q).toNatClampNeg) - (1 : Int32)).toInt64) gM).bind fun x_20 => if x_20 = 0 then ((m_X5_noItem (1 : Int32) gM).bind fun (x_24, g_25) => some ((-1 : Int32), g_25)) else (chk (inb (g.1 18 b q) 13000) (some (((gM.1 32 0 (g.1 18 b q).toNatClampNeg) + y_16.toInt32), gM)))))) := by
      simp only [m_X5_find, hisA, Option.bind_some, if_neg n10, chk_t c24, q24, h26, if_true, hwr, if_pos hin, hslot, chk_t cso, qso, x38, e3, e31, chk_t c721, q721, h281]
      rfl
    rw [hX1, hM1]
    rcases hso with hso | ⟨r, hr, hrv, hbx⟩
    · rw [if_pos hso, if_pos hso]
      exact Or.inr (Or.inr ⟨rfl, rfl⟩)
    · obtain ⟨w1, w2, w3, w4, w5, w6⟩ := hrow r hr
      have hrn : ¬ g.1 18 b q = -1 := by rw [hrv]; exact nI_ne_m1 (by omega)
      have x5 : gX.1 5 (b + 1) (1 : Int32).toNatClampNeg = g.1 5 (b + 1) 1 := by rw [e5]; rfl
      have hln : m_X3_lengthOf (nI r) gX = some (nI (rl g r)) := by rw [lengthOf_r (by rw [sx.2.2.2]; omega) (by rw [sx.2.2.2]; omega), sx.1 15 _ (by omega), w2]
      have hst : m_X3_startOf (nI r) gX = some (nI (rs g r)) := by rw [startOf_r (by rw [sx.2.2.2]; omega) (by rw [sx.2.2.2]; omega), sx.1 14 _ (by omega), w1]
      have c13 := inb_m (show r < 13000 by omega) (by omega)
      have q13 := nI_clamp (show r < 2 ^ 31 by omega)
      have h33 : gM.1 33 0 r = nI (rl g r) := by rw [sm.1 33 _ (by omega), w6, w2]
      have h32 : gM.1 32 0 r = nI (rs g r) := by rw [sm.1 32 _ (by omega), w5, w1]
      have hrl64 : (nI (rl g r)).toInt64 = lN (rl g r) := nI_l (by omega)
      have hm1 : ((nI (rl g r) - 1).toInt64).toInt = (rl g r : Int) - 1 := by
        rw [Int32.toInt_toInt64]
        exact pk_sub_toInt (a := rl g r) (b := 1) (by omega) (by omega)
      rw [if_neg hrn, if_neg hrn, hrv]
      simp only [lett, x5, chk_t (show inb (1 : Int32) 3 by decide), hln, hst, Option.bind_some, chk_t c13, q13, h33, h32, X5_within, lg_cmp_lt, hrl64]
      generalize hy : j.toInt64 - (g.1 5 (b + 1) 1).toInt64 = y
      by_cases hy0 : y < 0
      · have hcn : ¬ ((0 : Int64) ≤ y ∧ y ≤ (nI (rl g r) - 1).toInt64) := fun z => Int64.not_le.mpr hy0 z.1
        rw [if_pos hy0, if_neg hcn]
        refine Or.inr (Or.inl ⟨1, gM, by omega, rfl, Or.inl rfl, ?_⟩)
        rw [if_pos rfl]
        rfl
      · obtain ⟨v, hv, rfl⟩ := pk_lOf hy0
        have hc : ((0 : Int64) ≤ lN v ∧ lN v ≤ (nI (rl g r) - 1).toInt64) ↔ v < rl g r := by
          rw [Int64.le_iff_toInt_le, Int64.le_iff_toInt_le, hm1, pk_lT hv, show (0 : Int64).toInt = 0 from by decide]
          omega
        have hc2 : lN v < lN (rl g r) ↔ v < rl g r := pk_lLT hv (by omega)
        rw [if_neg hy0]
        by_cases hvl : v < rl g r
        · rw [if_pos (hc2.mpr hvl), if_pos (hc.mpr hvl), if_neg n10]
          refine Or.inl ⟨rs g r + v, by omega, ?_, ?_, ?_⟩
          · rw [lN_i, nI_add]
          · rw [lN_i, nI_add]
          · rw [hbx _ ⟨by omega, by omega⟩, hkX]
            rfl
        · have hcn : ¬ ((0 : Int64) ≤ lN v ∧ lN v ≤ (nI (rl g r) - 1).toInt64) := fun z => hvl (hc.mp z)
          have hcn2 : ¬ lN v < lN (rl g r) := fun z => hvl (hc2.mp z)
          rw [if_neg hcn2, if_neg hcn]
          refine Or.inr (Or.inl ⟨1, gM, by omega, rfl, Or.inl rfl, ?_⟩)
          rw [if_pos rfl]
          rfl
  · refine Or.inr (Or.inl ⟨0, gM, by omega, ?_, Or.inl rfl, ?_⟩)
    · simp only [m_X4_tableCellOf, chk_t (show b < 24 by omega), hhold, Option.bind_some, if_neg hin, if_true]
      rfl
    · simp only [m_X5_find, hisA, Option.bind_some, if_neg n10, chk_t c24, q24, h26, if_true, hwr, if_neg hin, if_neg n30]
      rfl
theorem cell_no {a R P S n : Nat} {bx : Nat → Bool} {so : Nat → Nat} {g gX gM : Gs} (C : Core a R P S bx so n g) (sx : SX g gX) (sm : SM g gM) {x : Int32} (hx : x < 0 ∨ nI a ≤ x) (i j k : Int32) : m_X4_arrayOf x gX = some none ∧ m_X4_cellOf none i j k gX = some (-1, sI gX 1 0 0 7) ∧ m_X5_find x i j k gM = some (-1, sI gM 20 0 0 7) := by
  obtain ⟨⟨ha, hR, hP, hSS⟩, ⟨h0, h25⟩, -⟩ := C
  refine ⟨X4_arr_no (by rw [sx.1 0 _ (by omega)]; exact h0) hx, rfl, ?_⟩
  simp only [m_X5_find, X5_arr_no (g := gM) (by rw [sm.1 25 _ (by omega)]; exact h25) ha hx, Option.bind_some, if_true]
  rfl
theorem cell_yes {a R P S n : Nat} {bx : Nat → Bool} {so : Nat → Nat} {g gX gM : Gs} (C : Core a R P S bx so n g) (hn : n ≤ 512) (sx : SX g gX) (sm : SM g gM) {b : Nat} (hb : b < a) (i j k : Int32) : m_X4_arrayOf (nI b) gX = some (some b) ∧ FdI P bx g gX gM (nI b) i j k b := by
  refine ⟨X4_arr_yes (by rw [sx.1 0 _ (by omega)]; exact C.2.1.1) C.1.1 hb, ?_⟩
  obtain ⟨kd, rk, hk, hkX, hkM, hs, hp, ht⟩ := C.2.2.2.2.2.2.1 b hb
  by_cases h4 : kd = 4
  · subst h4
    obtain ⟨rfl, ht2⟩ := ht rfl
    exact cell_tab C hn sx sm hb hkX hkM hs ht2 i j k
  · exact cell_plain C hn sx sm hb hk hkX hkM hs (hp h4) h4 i j k
