/-! PURE: without, tie. -/
theorem Core_slot {a R P S n : Nat} {bx : Nat → Bool} {so : Nat → Nat} {g g2 : Gs} (C : Core a R P S bx so n g) {b i : Nat} {v : Int32} (hb : b < a) (hk4 : g.1 16 b 0 = 4) (hi : i < rcN g b) (hv : slOk g R bx v) (h : ∀ c o, coreC c o = true → c ≠ 18 → c ≠ 38 → g2.1 c o = g.1 c o) (h18 : ∀ o j, g2.1 18 o j = if o = b ∧ j = i then v else g.1 18 o j) (h38 : ∀ j, g2.1 38 0 j = if j = so b + i then v else g.1 38 0 j) (l0 : g2.2.1 0 = g.2.1 0) (l2 : g2.2.1 2 = g.2.1 2) (hN : g2.2.2 = g.2.2) : Core a R P S bx so n g2 := by
  have hc : ∀ c o, c ≠ 4 → c ≠ 5 → c ≠ 6 → coreC c 0 = true ∧ c ≠ 18 ∧ c ≠ 38 → g2.1 c o = g.1 c o := fun c o h4 h5 h6 hc => h c o (by
    have hc1 := hc.1
    simp only [coreC] at hc1 ⊢
    simpa [h4, h5, h6] using hc1) hc.2.1 hc.2.2
  have e4 : ∀ i, g2.1 4 (i + 1) = g.1 4 (i + 1) := fun i => h 4 (i + 1) (by simp [coreC]) (by decide) (by decide)
  have e5 : ∀ i, g2.1 5 (i + 1) = g.1 5 (i + 1) := fun i => h 5 (i + 1) (by simp [coreC]) (by decide) (by decide)
  have e6 : ∀ i, g2.1 6 (i + 1) = g.1 6 (i + 1) := fun i => h 6 (i + 1) (by simp [coreC]) (by decide) (by decide)
  have eit : ∀ i d, itN g2 (i + 1) d = itN g (i + 1) d := fun i d => itN_congr (e5 i) (e6 i) d
  obtain ⟨c1, c2, c3, c4, c5, c6, c7, c8⟩ := C
  have hsl : ∀ w, slOk g R bx w → slOk g2 R bx w := by
    intro w hw
    simp only [slOk, inRow, rs, rl, hc 14 _ (by decide) (by decide) (by decide) (by decide), hc 15 _ (by decide) (by decide) (by decide) (by decide)] at hw ⊢
    exact hw
  refine ⟨c1, ?_, ?_, ?_, ?_, ?_, ?_, ?_⟩
  · rw [hc 0 _ (by decide) (by decide) (by decide) (by decide), hc 25 _ (by decide) (by decide) (by decide) (by decide)]
    exact c2
  · rw [hc 12 _ (by decide) (by decide) (by decide) (by decide), hc 31 _ (by decide) (by decide) (by decide) (by decide), hc 11 _ (by decide) (by decide) (by decide) (by decide), hc 34 _ (by decide) (by decide) (by decide) (by decide), hc 37 _ (by decide) (by decide) (by decide) (by decide)]
    exact c3
  · rw [hN]
    exact c4
  · simp only [rwOk, rs, rl, hc 14 _ (by decide) (by decide) (by decide) (by decide), hc 15 _ (by decide) (by decide) (by decide) (by decide), hc 32 _ (by decide) (by decide) (by decide) (by decide), hc 33 _ (by decide) (by decide) (by decide) (by decide)] at c5 ⊢
    exact c5
  · simp only [clOk, l0, l2, hc 13 _ (by decide) (by decide) (by decide) (by decide), hc 36 _ (by decide) (by decide) (by decide) (by decide)] at c6 ⊢
    exact c6
  · intro c hca
    obtain ⟨k, rk, hk, hkX, hkM, hs, hp, ht⟩ := c7 c hca
    refine ⟨k, rk, hk, ?_, ?_, ?_, fun q => ?_, fun q => ?_⟩
    · rw [hc 16 _ (by decide) (by decide) (by decide) (by decide)]; exact hkX
    · rw [hc 26 _ (by decide) (by decide) (by decide) (by decide)]; exact hkM
    · simp only [aShape, e4, e5, e6, hc 27 _ (by decide) (by decide) (by decide) (by decide), hc 28 _ (by decide) (by decide) (by decide) (by decide), hc 29 _ (by decide) (by decide) (by decide) (by decide)] at hs ⊢
      exact hs
    · have := hp q
      simp only [aPlain, inRow, rs, rl, eit, hc 14 _ (by decide) (by decide) (by decide) (by decide), hc 15 _ (by decide) (by decide) (by decide) (by decide), hc 17 _ (by decide) (by decide) (by decide) (by decide), hc 30 _ (by decide) (by decide) (by decide) (by decide)] at this ⊢
      exact this
    · obtain ⟨hrk, t1, t2, t3, t4, t5, t6, t7⟩ := ht q
      have erc : rcN g2 c = rcN g c := by simp only [rcN, e5, e6]
      refine ⟨hrk, ?_, ?_, ?_, ?_, ?_, ?_, ?_⟩
      · rw [hc 17 _ (by decide) (by decide) (by decide) (by decide)]; exact t1
      · rw [hc 30 _ (by decide) (by decide) (by decide) (by decide)]; exact t2
      · rw [erc]; exact t3
      · rw [erc]; exact t4
      · rw [erc, hN]; exact t5
      · rw [eit]; exact t6
      · rw [erc]
        intro r hr
        obtain ⟨q1, q2⟩ := t7 r hr
        have hc4 : g.1 16 c 0 = 4 := by rw [hkX, q]; rfl
        rw [h18, h38]
        by_cases hcb : c = b
        · subst hcb
          by_cases hri : r = i
          · subst hri
            rw [if_pos rfl, if_pos ⟨rfl, rfl⟩]
            exact ⟨rfl, hsl v hv⟩
          · rw [if_neg (by omega), if_neg (fun z => hri z.2)]
            exact ⟨q1, hsl _ q2⟩
        · have hne : ¬ so c + r = so b + i := by
            rcases Nat.lt_or_gt_of_ne hcb with hl | hl
            · have := c8.1 c b hl hb hc4 hk4
              omega
            · have := c8.1 b c hl hca hk4 hc4
              omega
          rw [if_neg hne, if_neg (fun z => hcb z.1)]
          exact ⟨q1, hsl _ q2⟩
  · simp only [rcN, e5, e6, hN, hc 16 _ (by decide) (by decide) (by decide) (by decide)] at c8 ⊢
    exact c8
/-- a slot on both sides -/
theorem RI_slot {n : Nat} {g : Gs} (h : RI n g) {a R P S : Nat} {bx : Nat → Bool} {so : Nat → Nat} (C : Core a R P S bx so n g) {b i : Nat} {v : Int32} (hb : b < a) (hk4 : g.1 16 b 0 = 4) (hi : i < rcN g b) (hv : slOk g R bx v) : RI (n + 1) (sI (sI (sI (sI g 18 b i v) 1 0 0 0) 38 0 (so b + i) v) 20 0 0 0) := by
  obtain ⟨hcw, ⟨d, hd⟩, ⟨k, hk⟩, -⟩ := h
  refine ⟨by simp [Cw, gI, hcw.2], ⟨d, Shp_congr hd (by simp [sF]) (by simp [sF]) (by simp [sF]) (by simp [sF]) (by simp [sF]) (by simp [sF])⟩, ⟨k, Lns_congr hk (by simp [sF]) (by simp [sF]) (by simp [sF]) (by simp [sF]) (by simp [sF]) (by simp [sF]) (by simp [sF]) (by simp [sF]) rfl rfl⟩, a, R, P, S, bx, so, ?_⟩
  refine Core_n (Core_slot C hb hk4 hi hv (fun c o hco c13 c36 => ?_) (fun o j => ?_) (fun j => ?_) rfl rfl rfl)
  · simp [coreC] at hco
    simp [sF]
    grind
  · simp [gI]
  · simp [gI]
/-- a table's row of an index -/
def hld (g : Gs) (b : Nat) (i : Int32) : Prop := g.1 5 (b + 1) 0 ≤ i ∧ i ≤ g.1 6 (b + 1) 0
theorem holds0 {g gX : Gs} (sx : SX g gX) {b : Nat} (hb : b < 24) (i : Int32) : m_X2_holds (b + 1) 0 i gX = some (if g.1 5 (b + 1) 0 ≤ i ∧ i ≤ g.1 6 (b + 1) 0 then 1 else 0) := by
  have := X2_holds (g := gX) (o := b + 1) (d := 0) (by omega) (by omega) i
  rw [nl0, sx.1 5 _ (by omega), sx.1 6 _ (by omega)] at this
  exact this
theorem offset0 {g gX : Gs} (sx : SX g gX) {b : Nat} (hb : b < 24) {i : Int32} (h : g.1 5 (b + 1) 0 ≤ i) : m_X2_offset (b + 1) 0 i gX = some (nI (offN (g.1 5 (b + 1) 0) i)) := by
  have := X2_offset (g := gX) (o := b + 1) (d := 0) (by omega) (by omega) i
  rw [nl0, sx.1 5 _ (by omega), off32 h] at this
  exact this
theorem wr_no {a R P S n : Nat} {bx : Nat → Bool} {so : Nat → Nat} {g gM : Gs} (C : Core a R P S bx so n g) (sm : SM g gM) {x : Int32} (hx : x < 0 ∨ nI a ≤ x) (i : Int32) : m_X5_wantsRow x i gM = some 7 := by
  simp only [m_X5_wantsRow, m_X5_wantsRow_J58, X5_arr_no (g := gM) (by rw [sm.1 25 _ (by omega)]; exact C.2.1.2) C.1.1 hx, Option.bind_some, if_true]
theorem wr_plain {a R P S n : Nat} {bx : Nat → Bool} {so : Nat → Nat} {g gM : Gs} (C : Core a R P S bx so n g) (sm : SM g gM) {b : Nat} (hb : b < a) (h4 : ¬ g.1 16 b 0 = 4) (i : Int32) : m_X5_wantsRow (nI b) i gM = some 2 := by
  have ha := C.1
  have h26 : ¬ gM.1 26 0 b = 4 := by rw [sm.1 26 _ (by omega), kd_eq C hb]; exact h4
  simp only [m_X5_wantsRow, m_X5_wantsRow_J58, isA (g := gM) (by rw [sm.1 25 _ (by omega)]; exact C.2.1.2) C.1.1 hb, Option.bind_some, if_neg n10, chk_t (inb_m (show b < 24 by omega) (by omega)), nI_clamp (show b < 2 ^ 31 by omega), if_neg h26]
theorem wr_tab {a R P S n : Nat} {bx : Nat → Bool} {so : Nat → Nat} {g gM : Gs} (C : Core a R P S bx so n g) (sm : SM g gM) {b : Nat} (hb : b < a) (h4 : g.1 16 b 0 = 4) (hs : aShape g b 2) (i : Int32) : m_X5_wantsRow (nI b) i gM = some (if g.1 5 (b + 1) 0 ≤ i ∧ i ≤ g.1 6 (b + 1) 0 then 0 else 3) := by
  have ha := C.1
  have h26 : gM.1 26 0 b = 4 := by rw [sm.1 26 _ (by omega), kd_eq C hb]; exact h4
  have e3 : (3 : Int32) * nI b = nI (3 * b) := by rw [show (3 : Int32) = nI 3 from rfl, pk_mul]
  have hs50 := hs.2.2.2.2 0 (by omega)
  have h28 : gM.1 28 0 (3 * b) = g.1 5 (b + 1) 0 := by rw [sm.1 28 _ (by omega)]; exact hs50.1
  have h29 : gM.1 29 0 (3 * b) = g.1 6 (b + 1) 0 := by rw [sm.1 29 _ (by omega)]; exact hs50.2
  simp only [m_X5_wantsRow, m_X5_wantsRow_J58, isA (g := gM) (by rw [sm.1 25 _ (by omega)]; exact C.2.1.2) C.1.1 hb, Option.bind_some, if_neg n10, chk_t (inb_m (show b < 24 by omega) (by omega)), nI_clamp (show b < 2 ^ 31 by omega), h26, if_true, e3, chk_t (inb_m (show 3 * b < 72 by omega) (by omega)), nI_clamp (show 3 * b < 2 ^ 31 by omega), h28, h29, X5_withinI]
  by_cases h : g.1 5 (b + 1) 0 ≤ i ∧ i ≤ g.1 6 (b + 1) 0
  · simp only [if_pos h, if_neg n10]
  · simp only [if_neg h, if_true]
theorem slotOf {a R P S n : Nat} {bx : Nat → Bool} {so : Nat → Nat} {g gM : Gs} (C : Core a R P S bx so n g) (sm : SM g gM) {b : Nat} (hb : b < a) (hs : aShape g b 2) (ht : aTab g R S bx so b) {i : Int32} (h : g.1 5 (b + 1) 0 ≤ i) : m_X5_slotOf (nI b) i gM = some (nI (so b + offN (g.1 5 (b + 1) 0) i)) := by
  have ha := C.1
  have e3 : (3 : Int32) * nI b = nI (3 * b) := by rw [show (3 : Int32) = nI 3 from rfl, pk_mul]
  have hs50 := hs.2.2.2.2 0 (by omega)
  have h28 : gM.1 28 0 (3 * b) = g.1 5 (b + 1) 0 := by rw [sm.1 28 _ (by omega)]; exact hs50.1
  have h30 : gM.1 30 0 b = nI (so b) := by rw [sm.1 30 _ (by omega)]; exact ht.2.1
  simp only [m_X5_slotOf, chk_t (inb_m (show b < 24 by omega) (by omega)), e3, chk_t (inb_m (show 3 * b < 72 by omega) (by omega)), nI_clamp (show b < 2 ^ 31 by omega), nI_clamp (show 3 * b < 2 ^ 31 by omega), h30, h28]
  rw [← nI_add, ← off32 h]
  congr 1
  rw [Int32.sub_eq_add_neg, Int32.sub_eq_add_neg, Int32.add_assoc]
theorem s_without : S_without RI := by
  intro n g x1 x2 h hn
  obtain ⟨hcw, hd, hk, a, R, P, S, bx, so, C⟩ := id h
  have ha := C.1
  rcases arr_cases x1 C.1.1 with hx | ⟨b, hb, rfl⟩
  · refine ⟨0, sI g 1 0 0 7, sI (sI g 1 0 0 7) 20 0 0 7, ?_, ?_, RI_stop h 7, CB_0 h rfl⟩
    · simp only [m_X4_without, m_X4_whyNoTableRow, X4_arr_no C.2.1.1 hx, Option.bind_some, cas_n, if_neg (show ¬ (7 : Int32) = 0 by decide), m_stop]
    · simp only [m_X5_without, wr_no C (SM_1 g 7) hx, Option.bind_some, if_neg (show ¬ (7 : Int32) = 3 by decide), if_neg (show ¬ (7 : Int32) = 0 by decide), m_no]
  · have hA := X4_arr_yes C.2.1.1 C.1.1 hb
    have hb24 : b < 24 := by omega
    rcases arr_view C hb with ⟨kd, rk, r, hkd, h16, h26, hs, hr, h17, h30, hrl, hbx⟩ | ⟨h16, h26, hs, ht⟩
    · have hn4 : ¬ g.1 16 b 0 = 4 := by rw [h16]; exact n4 hkd
      refine ⟨0, sI g 1 0 0 2, sI (sI g 1 0 0 2) 20 0 0 2, ?_, ?_, RI_stop h 2, CB_0 h rfl⟩
      · simp only [m_X4_without, m_X4_whyNoTableRow, hA, Option.bind_some, cas_y hb24, if_neg hn4, if_neg (show ¬ (2 : Int32) = 0 by decide), m_stop]
      · simp only [m_X5_without, wr_plain C (SM_1 g 2) hb hn4, Option.bind_some, if_neg (show ¬ (2 : Int32) = 3 by decide), if_neg (show ¬ (2 : Int32) = 0 by decide), m_no]
    · by_cases hin : g.1 5 (b + 1) 0 ≤ x2 ∧ x2 ≤ g.1 6 (b + 1) 0
      · have hoff : offN (g.1 5 (b + 1) 0) x2 < rcN g b := off_lt hin.1 hin.2
        have t3 := ht.2.2.1
        have t4 := ht.2.2.2.1
        have t5 := ht.2.2.2.2.1
        refine ⟨1, sI (sI g 18 b (offN (g.1 5 (b + 1) 0) x2) (-1)) 1 0 0 0, sI (sI (sI (sI g 18 b (offN (g.1 5 (b + 1) 0) x2) (-1)) 1 0 0 0) 38 0 (so b + offN (g.1 5 (b + 1) 0) x2) (-1)) 20 0 0 0, ?_, ?_, RI_slot h C hb h16 hoff (Or.inl rfl), CB_0 h rfl⟩
        · simp only [m_X4_without, m_X4_whyNoTableRow, hA, Option.bind_some, cas_y hb24, unw_y hb24, h16, if_true, holds0 (SX_r g) hb24, if_pos hin, if_neg n10, offset0 (SX_r g) hb24 hin.1, chk_t (inb_m (show offN (g.1 5 (b + 1) 0) x2 < g.2.2 (500 + b) by omega) (by omega)), nI_clamp (show offN (g.1 5 (b + 1) 0) x2 < 2 ^ 31 by omega), lett, m_done]
        · have sm : SM g (sI (sI g 18 b (offN (g.1 5 (b + 1) 0) x2) (-1)) 1 0 0 0) := SM_sI (SM_sI (SM_r g) (by decide)) (by decide)
          simp only [m_X5_without, wr_tab C sm hb h16 hs, if_pos hin, Option.bind_some, if_neg (show ¬ (0 : Int32) = 3 by decide), if_true, slotOf C sm hb hs ht hin.1, chk_t (inb_m (show so b + offN (g.1 5 (b + 1) 0) x2 < 12100 by omega) (by omega)), nI_clamp (show so b + offN (g.1 5 (b + 1) 0) x2 < 2 ^ 31 by omega), lett, m_yes]
      · refine ⟨0, sI (sI g 2 0 0 0) 1 0 0 3, sI (sI (sI (sI g 2 0 0 0) 1 0 0 3) 21 0 0 0) 20 0 0 3, ?_, ?_, RI_stopB h 0, CB_0 h rfl⟩
        · simp only [m_X4_without, m_X4_whyNoTableRow, hA, Option.bind_some, cas_y hb24, h16, if_true, holds0 (SX_r g) hb24, if_neg hin, lett, if_neg (show ¬ (3 : Int32) = 0 by decide), m_stop]
        · simp only [m_X5_without, wr_tab C (SM_21 g 0 3) hb h16 hs, if_neg hin, Option.bind_some, if_true, m_noItem]
theorem s_tie : S_tie RI := by
  intro n g x1 x2 x3 x4 h hn
  obtain ⟨hcw, hd, hk, a, R, P, S, bx, so, C⟩ := id h
  have ha := C.1
  rcases two_cases x1 x3 C.1.1 with hx | ⟨b, c, hb, hc, rfl, rfl⟩
  · refine ⟨0, sI g 1 0 0 7, sI (sI g 1 0 0 7) 20 0 0 7, ?_, ?_, RI_stop h 7, CB_0 h rfl⟩
    · obtain ⟨o1, o2, e1, e2, hq⟩ := both_no C.2.1.1 C.1.1 hx
      simp only [m_X4_tie, m_X4_tie_J24, e1, e2, Option.bind_some, m_stop]
      rcases hq with rfl | ⟨b, hb, rfl, rfl⟩
      · rfl
      · rw [cas_y hb]
        rfl
    · rcases both_noM (g := sI g 1 0 0 7) C.2.1.2 C.1.1 hx with q | ⟨q1, q2⟩
      · simp only [m_X5_tie, m_X5_tie_J16, q, Option.bind_some, if_true, m_no]
      · simp only [m_X5_tie, m_X5_tie_J16, q1, q2, Option.bind_some, if_neg n10, if_true, m_no]
  · have hA := X4_arr_yes C.2.1.1 C.1.1 hb
    have hA2 := X4_arr_yes C.2.1.1 C.1.1 hc
    have cb := inb_m (show b < 24 by omega) (by omega)
    have qb := nI_clamp (show b < 2 ^ 31 by omega)
    have cc := inb_m (show c < 24 by omega) (by omega)
    have qc := nI_clamp (show c < 2 ^ 31 by omega)
    have hb24 : b < 24 := by omega
    have hc24 : c < 24 := by omega
    have kb := kd_eq C hb
    have kc := kd_eq C hc
    by_cases hkk : g.1 16 b 0 = 4 ∧ g.1 16 c 0 = 4
    · obtain ⟨h4b, h4c⟩ := hkk
      have hs2 : ∀ {b}, b < a → g.1 16 b 0 = 4 → aShape g b 2 ∧ aTab g R S bx so b := by
        intro b hb h4
        rcases arr_view C hb with ⟨kd, rk, r, hkd, h16, -⟩ | ⟨-, -, hs, ht⟩
        · rw [h16] at h4
          exact absurd h4 (n4 hkd)
        · exact ⟨hs, ht⟩
      obtain ⟨hs, ht⟩ := hs2 hb h4b
      obtain ⟨is, it⟩ := hs2 hc h4c
      have mA := fun gM sm => wr_tab C (gM := gM) sm hb h4b hs x2
      have mB := fun gM sm => wr_tab C (gM := gM) sm hc h4c is x4
      have e25 : ∀ gM, SM g gM → m_X5_isArray (nI b) gM = some 1 ∧ m_X5_isArray (nI c) gM = some 1 ∧ gM.1 26 0 b = 4 ∧ gM.1 26 0 c = 4 := fun gM sm => ⟨isA (by rw [sm.1 25 _ (by omega)]; exact C.2.1.2) C.1.1 hb, isA (by rw [sm.1 25 _ (by omega)]; exact C.2.1.2) C.1.1 hc, by rw [sm.1 26 _ (by omega), kb, h4b], by rw [sm.1 26 _ (by omega), kc, h4c]⟩
      by_cases hin : g.1 5 (b + 1) 0 ≤ x2 ∧ x2 ≤ g.1 6 (b + 1) 0
      · by_cases hin2 : g.1 5 (c + 1) 0 ≤ x4 ∧ x4 ≤ g.1 6 (c + 1) 0
        · have hoff : offN (g.1 5 (b + 1) 0) x2 < rcN g b := off_lt hin.1 hin.2
          have hoff2 : offN (g.1 5 (c + 1) 0) x4 < rcN g c := off_lt hin2.1 hin2.2
          have t3 := ht.2.2.1
          have t4 := ht.2.2.2.1
          have t5 := ht.2.2.2.2.1
          have u3 := it.2.2.1
          have u4 := it.2.2.2.1
          have u5 := it.2.2.2.2.1
          obtain ⟨v1, v2⟩ := it.2.2.2.2.2.2 _ hoff2
          generalize hq1 : offN (g.1 5 (b + 1) 0) x2 = i at *
          generalize hq2 : offN (g.1 5 (c + 1) 0) x4 = j at *
          have hXi : m_X2_offset (b + 1) 0 x2 g = some (nI i) := by rw [offset0 (SX_r g) hb24 hin.1, hq1]
          have hXj : m_X2_offset (c + 1) 0 x4 g = some (nI j) := by rw [offset0 (SX_r g) hc24 hin2.1, hq2]
          refine ⟨1, sI (sI g 18 b i (g.1 18 c j)) 1 0 0 0, sI (sI (sI (sI g 18 b i (g.1 18 c j)) 1 0 0 0) 38 0 (so b + i) (g.1 18 c j)) 20 0 0 0, ?_, ?_, RI_slot h C hb h4b hoff v2, CB_0 h rfl⟩
          · simp only [m_X4_tie, hA, hA2, Option.bind_some, cas_y hb24, cas_y hc24, h4b, h4c, if_true, holds0 (SX_r g) hb24, holds0 (SX_r g) hc24, if_pos hin, if_pos hin2, if_neg n10, hXi, hXj, chk_t (inb_m (show i < g.2.2 (500 + b) by omega) (by omega)), chk_t (inb_m (show j < g.2.2 (500 + c) by omega) (by omega)), nI_clamp (show i < 2 ^ 31 by omega), nI_clamp (show j < 2 ^ 31 by omega), lett, m_done]
          · have sm : SM g (sI (sI g 18 b i (g.1 18 c j)) 1 0 0 0) := SM_sI (SM_sI (SM_r g) (by decide)) (by decide)
            obtain ⟨f1, f2, f3, f4⟩ := e25 _ sm
            have hMi : m_X5_slotOf (nI b) x2 (sI (sI g 18 b i (g.1 18 c j)) 1 0 0 0) = some (nI (so b + i)) := by rw [slotOf C sm hb hs ht hin.1, hq1]
            have hMj : m_X5_slotOf (nI c) x4 (sI (sI g 18 b i (g.1 18 c j)) 1 0 0 0) = some (nI (so c + j)) := by rw [slotOf C sm hc is it hin2.1, hq2]
            have f38 : (sI (sI g 18 b i (g.1 18 c j)) 1 0 0 0).1 38 0 (so c + j) = g.1 18 c j := v1
            simp only [m_X5_tie, f1, f2, Option.bind_some, if_neg n10, chk_t cb, chk_t cc, qb, qc, f3, f4, if_true, mA _ sm, mB _ sm, if_pos hin, if_pos hin2, hMi, hMj, chk_t (inb_m (show so b + i < 12100 by omega) (by omega)), chk_t (inb_m (show so c + j < 12100 by omega) (by omega)), nI_clamp (show so b + i < 2 ^ 31 by omega), nI_clamp (show so c + j < 2 ^ 31 by omega), f38, lett, m_yes]
        · obtain ⟨f1, f2, f3, f4⟩ := e25 _ (SM_21 g 1 3)
          refine ⟨0, sI (sI g 2 0 0 1) 1 0 0 3, sI (sI (sI (sI g 2 0 0 1) 1 0 0 3) 21 0 0 1) 20 0 0 3, ?_, ?_, RI_stopB h 1, CB_0 h rfl⟩
          · simp only [m_X4_tie, hA, hA2, Option.bind_some, cas_y hb24, cas_y hc24, h4b, h4c, if_true, holds0 (SX_r g) hb24, holds0 (SX_r g) hc24, if_pos hin, if_neg hin2, if_neg n10, m_stopB]
          · simp only [m_X5_tie, f1, f2, Option.bind_some, if_neg n10, chk_t cb, chk_t cc, qb, qc, f3, f4, if_true, mA _ (SM_21 g 1 3), mB _ (SM_21 g 1 3), if_pos hin, if_neg hin2, if_neg (show ¬ (3 : Int32) = 0 by decide), m_noItem]
      · obtain ⟨f1, f2, f3, f4⟩ := e25 _ (SM_21 g 0 3)
        refine ⟨0, sI (sI g 2 0 0 0) 1 0 0 3, sI (sI (sI (sI g 2 0 0 0) 1 0 0 3) 21 0 0 0) 20 0 0 3, ?_, ?_, RI_stopB h 0, CB_0 h rfl⟩
        · simp only [m_X4_tie, hA, hA2, Option.bind_some, cas_y hb24, cas_y hc24, h4b, h4c, if_true, holds0 (SX_r g) hb24, if_neg hin, m_stopB]
        · simp only [m_X5_tie, f1, f2, Option.bind_some, if_neg n10, chk_t cb, chk_t cc, qb, qc, f3, f4, if_true, mA _ (SM_21 g 0 3), if_neg hin, if_neg (show ¬ (3 : Int32) = 0 by decide), m_noItem]
    · refine ⟨0, sI g 1 0 0 2, sI (sI g 1 0 0 2) 20 0 0 2, ?_, ?_, RI_stop h 2, CB_0 h rfl⟩
      · simp only [m_X4_tie, m_X4_tie_J49, hA, hA2, Option.bind_some, cas_y hb24, cas_y hc24, m_stop]
        by_cases h1 : g.1 16 b 0 = 4
        · rw [if_pos h1, if_neg (fun q => hkk ⟨h1, q⟩)]
        · rw [if_neg h1]
      · have e26 : (sI g 1 0 0 2).1 26 0 b = g.1 16 b 0 := kb
        have e26c : (sI g 1 0 0 2).1 26 0 c = g.1 16 c 0 := kc
        simp only [m_X5_tie, m_X5_tie_J43, isA (g := sI g 1 0 0 2) C.2.1.2 C.1.1 hb, isA (g := sI g 1 0 0 2) C.2.1.2 C.1.1 hc, Option.bind_some, if_neg n10, chk_t cb, chk_t cc, qb, qc, e26, e26c, m_no]
        by_cases h1 : g.1 16 b 0 = 4
        · rw [if_pos h1, if_neg (fun q => hkk ⟨h1, q⟩)]
        · rw [if_neg h1]
