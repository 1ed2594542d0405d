/-! PURE: get, put, empty. -/
def FdA (P : Nat) (bx : Nat → Bool) (g : Gs) (x i j k : Int32) (b : Nat) : Prop :=
  (∃ p, p < P ∧ bx p = decide (g.1 16 b 0 = 3) ∧ (∀ gX, SX g gX → m_X4_cellOf (some b) i j k gX = some (nI p, gX)) ∧ ∀ gM, SM g gM → m_X5_find x i j k gM = some (nI p, gM)) ∨
  (∃ e, e < 3 ∧ (∀ gX, SX g gX → m_X4_cellOf (some b) i j k gX = some (-1, sI (sI gX 2 0 0 (nI e)) 1 0 0 3)) ∧ ∀ gM, SM g gM → ∃ gm, (gm = gM ∨ gm = sI gM 44 0 0 (nI e)) ∧ m_X5_find x i j k gM = some (-1, sI (sI gm 21 0 0 (nI e)) 20 0 0 3)) ∨
  ((∀ gX, SX g gX → m_X4_cellOf (some b) i j k gX = some (-1, sI gX 1 0 0 1)) ∧ ∀ gM, SM g gM → m_X5_find x i j k gM = some (-1, sI gM 20 0 0 1))
theorem som_in {α : Type} {x y : α} {o : Option α} (h1 : o = some x) (h2 : o = some y) : x = y := Option.some.inj (h1.symm.trans h2)
theorem cell_all {a R P S n : Nat} {bx : Nat → Bool} {so : Nat → Nat} {g : Gs} (C : Core a R P S bx so n g) (hn : n ≤ 512) {b : Nat} (hb : b < a) (i j k : Int32) : FdA P bx g (nI b) i j k b := by
  have hP : P < 2 ^ 31 := by have := C.1; omega
  have H := fun gX gM sx sm => (cell_yes C hn (gX := gX) (gM := gM) sx sm hb i j k).2
  rcases H g g (SX_r g) (SM_r g) with ⟨p, hp, hX, hM, hbx⟩ | ⟨e, gm, he, hX, hgm, hM⟩ | ⟨hX, hM⟩
  · refine Or.inl ⟨p, hp, hbx, fun gX sx => ?_, fun gM sm => ?_⟩
    · rcases H gX g sx (SM_r g) with ⟨q, hq, hX2, hM2, -⟩ | ⟨e, gm, he, hX2, hgm, hM2⟩ | ⟨hX2, hM2⟩
      · rw [hX2, (Prod.mk.inj (som_in hM hM2)).1]
      · exact absurd (Prod.mk.inj (som_in hM hM2)).1 (nI_ne_m1 (by omega))
      · exact absurd (Prod.mk.inj (som_in hM hM2)).1 (nI_ne_m1 (by omega))
    · rcases H g gM (SX_r g) sm with ⟨q, hq, hX2, hM2, -⟩ | ⟨e, gm, he, hX2, hgm, hM2⟩ | ⟨hX2, hM2⟩
      · rw [hM2, (Prod.mk.inj (som_in hX hX2)).1]
      · exact absurd (Prod.mk.inj (som_in hX hX2)).1 (nI_ne_m1 (by omega))
      · exact absurd (Prod.mk.inj (som_in hX hX2)).1 (nI_ne_m1 (by omega))
  · have d2 : ∀ (f : Nat) (g1 : Gs), f < 3 → sI (sI g1 2 0 0 (nI e)) 1 0 0 3 = sI (sI g1 2 0 0 (nI f)) 1 0 0 3 → f = e := fun f g1 hf hh => by
      have := congrArg (fun (z : Gs) => z.1 2 0 0) hh
      simp [gI] at this
      exact ((nI_inj4 (by omega) (by omega)).mp this).symm
    have dM : ∀ (f : Nat) (gm gm2 : Gs), f < 3 → sI (sI gm 21 0 0 (nI e)) 20 0 0 3 = sI (sI gm2 21 0 0 (nI f)) 20 0 0 3 → f = e := fun f gm gm2 hf hh => by
      have := congrArg (fun (z : Gs) => z.1 21 0 0) hh
      simp [gI] at this
      exact ((nI_inj4 (by omega) (by omega)).mp this).symm
    refine Or.inr (Or.inl ⟨e, he, fun gX sx => ?_, fun gM sm => ?_⟩)
    · rcases H gX g sx (SM_r g) with ⟨q, hq, hX2, hM2, -⟩ | ⟨f, gm2, hf, hX2, hgm2, hM2⟩ | ⟨hX2, hM2⟩
      · exact absurd (Prod.mk.inj (som_in hM2 hM)).1 (nI_ne_m1 (by omega))
      · rw [hX2, dM f gm gm2 hf (Prod.mk.inj (som_in hM hM2)).2]
      · have := congrArg (fun (z : Gs) => z.1 20 0 0) (Prod.mk.inj (som_in hM2 hM)).2
        simp [gI] at this
    · rcases H g gM (SX_r g) sm with ⟨q, hq, hX2, hM2, -⟩ | ⟨f, gm2, hf, hX2, hgm2, hM2⟩ | ⟨hX2, hM2⟩
      · exact absurd (Prod.mk.inj (som_in hX2 hX)).1 (nI_ne_m1 (by omega))
      · have := d2 f g hf (Prod.mk.inj (som_in hX hX2)).2
        subst this
        exact ⟨gm2, hgm2, hM2⟩
      · have := congrArg (fun (z : Gs) => z.1 1 0 0) (Prod.mk.inj (som_in hX2 hX)).2
        simp [gI] at this
  · refine Or.inr (Or.inr ⟨fun gX sx => ?_, fun gM sm => ?_⟩)
    · rcases H gX g sx (SM_r g) with ⟨q, hq, hX2, hM2, -⟩ | ⟨f, gm2, hf, hX2, hgm2, hM2⟩ | ⟨hX2, hM2⟩
      · exact absurd (Prod.mk.inj (som_in hM2 hM)).1 (nI_ne_m1 (by omega))
      · have := congrArg (fun (z : Gs) => z.1 20 0 0) (Prod.mk.inj (som_in hM2 hM)).2
        simp [gI] at this
      · exact hX2
    · rcases H g gM (SX_r g) sm with ⟨q, hq, hX2, hM2, -⟩ | ⟨f, gm2, hf, hX2, hgm2, hM2⟩ | ⟨hX2, hM2⟩
      · exact absurd (Prod.mk.inj (som_in hX2 hX)).1 (nI_ne_m1 (by omega))
      · have := congrArg (fun (z : Gs) => z.1 1 0 0) (Prod.mk.inj (som_in hX2 hX)).2
        simp [gI] at this
      · exact hM2
/-- only the cells' contents are others -/
theorem Core_cells {a R P S n : Nat} {bx : Nat → Bool} {so : Nat → Nat} {g g2 : Gs} (C : Core a R P S bx so n g) (h : ∀ c o, coreC c o = true → c ≠ 13 → c ≠ 36 → g2.1 c o = g.1 c o) (hN : g2.2.2 = g.2.2) (hcl : ∀ p, p < P → clOk g2 bx p) : Core a R P S bx so n g2 := by
  have hc : ∀ c o, c ≠ 4 → c ≠ 5 → c ≠ 6 → coreC c 0 = true ∧ c ≠ 13 ∧ c ≠ 36 → g2.1 c o = g.1 c o := fun c o h4 h5 h6 hc => h c o (by
    have hc1 := hc.1
    simp only [coreC] at hc1 ⊢
    simpa [h4, h5, h6] using hc1) hc.2.1 hc.2.2
  have e4 : ∀ i, g2.1 4 (i + 1) = g.1 4 (i + 1) := fun i => h 4 (i + 1) (by simp [coreC]) (by decide) (by decide)
  have e5 : ∀ i, g2.1 5 (i + 1) = g.1 5 (i + 1) := fun i => h 5 (i + 1) (by simp [coreC]) (by decide) (by decide)
  have e6 : ∀ i, g2.1 6 (i + 1) = g.1 6 (i + 1) := fun i => h 6 (i + 1) (by simp [coreC]) (by decide) (by decide)
  have eit : ∀ i d, itN g2 (i + 1) d = itN g (i + 1) d := fun i d => itN_congr (e5 i) (e6 i) d
  obtain ⟨c1, c2, c3, c4, c5, -, c7, c8⟩ := C
  refine ⟨c1, ?_, ?_, ?_, ?_, hcl, ?_, ?_⟩
  · rw [hc 0 _ (by decide) (by decide) (by decide) (by decide), hc 25 _ (by decide) (by decide) (by decide) (by decide)]
    exact c2
  · rw [hc 12 _ (by decide) (by decide) (by decide) (by decide), hc 31 _ (by decide) (by decide) (by decide) (by decide), hc 11 _ (by decide) (by decide) (by decide) (by decide), hc 34 _ (by decide) (by decide) (by decide) (by decide), hc 37 _ (by decide) (by decide) (by decide) (by decide)]
    exact c3
  · rw [hN]
    exact c4
  · simp only [rwOk, rs, rl, hc 14 _ (by decide) (by decide) (by decide) (by decide), hc 15 _ (by decide) (by decide) (by decide) (by decide), hc 32 _ (by decide) (by decide) (by decide) (by decide), hc 33 _ (by decide) (by decide) (by decide) (by decide)] at c5 ⊢
    exact c5
  · simp only [rs, rl, aOk, aShape, aPlain, aTab, slOk, inRow, rcN, hN, e4, e5, e6, eit, hc 14 _ (by decide) (by decide) (by decide) (by decide), hc 15 _ (by decide) (by decide) (by decide) (by decide), hc 16 _ (by decide) (by decide) (by decide) (by decide), hc 26 _ (by decide) (by decide) (by decide) (by decide), hc 27 _ (by decide) (by decide) (by decide) (by decide), hc 28 _ (by decide) (by decide) (by decide) (by decide), hc 29 _ (by decide) (by decide) (by decide) (by decide), hc 17 _ (by decide) (by decide) (by decide) (by decide), hc 30 _ (by decide) (by decide) (by decide) (by decide), hc 18 _ (by decide) (by decide) (by decide) (by decide), hc 38 _ (by decide) (by decide) (by decide) (by decide)] at c7 ⊢
    exact c7
  · simp only [rcN, e5, e6, hN, hc 16 _ (by decide) (by decide) (by decide) (by decide)] at c8 ⊢
    exact c8
theorem RI_stopB2 {n : Nat} {g gm : Gs} (h : RI n g) (x : Int32) (hg : gm = sI (sI g 2 0 0 x) 1 0 0 3 ∨ gm = sI (sI (sI g 2 0 0 x) 1 0 0 3) 44 0 0 x) : RI (n + 1) (sI (sI gm 21 0 0 x) 20 0 0 3) := by
  rcases hg with rfl | rfl
  · exact RI_stopB h x
  · refine RI_cw h (fun c o h1 h2 _ h20 h21 h44 => ?_) rfl ?_
    · rw [sF, if_neg (fun q => h20 q.1), sF, if_neg (fun q => h21 q.1), sF, if_neg (fun q => h44 q.1), sF, if_neg (fun q => h1 q.1), sF, if_neg (fun q => h2 q.1)]
    · simp [Cw, gI]
/-- a number as a kind keeps it -/
def fitV (k : Int32) (y : Int64) : Int64 := if k = 0 then y.toInt32.toInt8.toInt32.toInt64 else if k = 1 then y.toInt32.toInt64 else if k = 4 then y.toInt32.toInt64 else y
theorem X4_fitted (k : Int32) (y : Int64) (g : Gs) : m_X4_fitted k y g = some (fitV k y) := by
  unfold m_X4_fitted m_X4_fitted_J19 m_X4_fitted_J26 fitV
  split
  · rfl
  · split
    · rfl
    · split <;> rfl
theorem byte_eq (y : Int64) : (if y &&& 255 ≤ 127 then y &&& 255 else (y &&& 255) - 256) = y.toInt32.toInt8.toInt32.toInt64 := by
  have hn : (y &&& 255).toBitVec.toNat = y.toBitVec.toNat % 256 := by
    rw [Int64.toBitVec_and, BitVec.toNat_and]
    exact Nat.and_two_pow_sub_one_eq_mod _ 8
  have hy : (y &&& 255).toInt = ((y.toBitVec.toNat % 256 : Nat) : Int) := by
    show (y &&& 255).toBitVec.toInt = _
    rw [BitVec.toInt_eq_toNat_of_lt (by rw [hn]; omega), hn]
  have hyi : y.toInt = (y.toBitVec.toNat : Int) ∨ y.toInt = (y.toBitVec.toNat : Int) - 2 ^ 64 := by
    show y.toBitVec.toInt = _ ∨ y.toBitVec.toInt = _
    rw [BitVec.toInt_eq_toNat_cond]
    split
    · exact Or.inl rfl
    · exact Or.inr rfl
  apply Int64.toInt_inj.mp
  have hr : y.toInt32.toInt8.toInt32.toInt64.toInt = y.toInt.bmod 256 := by
    rw [Int32.toInt_toInt64, Int8.toInt_toInt32, Int64.toInt8_toInt32, Int64.toInt_toInt8]
  rw [hr]
  have h127 : y &&& 255 ≤ 127 ↔ y.toBitVec.toNat % 256 ≤ 127 := by
    rw [Int64.le_iff_toInt_le, hy, show (127 : Int64).toInt = 127 from by decide]
    omega
  have hb : y.toInt.bmod 256 = if y.toBitVec.toNat % 256 < 128 then ((y.toBitVec.toNat % 256 : Nat) : Int) else ((y.toBitVec.toNat % 256 : Nat) : Int) - 256 := by
    rw [Int.bmod_def]
    have : y.toInt % 256 = ((y.toBitVec.toNat % 256 : Nat) : Int) := by
      rcases hyi with q | q <;> (rw [q]; omega)
    rw [show ((256 : Nat) : Int) = 256 from rfl, this]
    split <;> split <;> omega
  rw [hb]
  by_cases h : y.toBitVec.toNat % 256 ≤ 127
  · rw [if_pos (h127.mpr h), if_pos (by omega), hy]
  · rw [if_neg (fun q => h (h127.mp q)), if_neg (by omega), Int64.toInt_sub, hy, show (256 : Int64).toInt = 256 from by decide]
    exact Int.bmod_eq_of_le (by omega) (by omega)
theorem X5_as (k : Int32) (y : Int64) (g : Gs) : m_X5_as k y g = some (fitV k y) := by
  unfold m_X5_as m_X5_as_J38 m_X5_as_J45 m_X5_as_J27 fitV lett
  split
  · rw [← byte_eq]
    simp only [lg_cmp_le]
    split <;> rfl
  · split
    · rfl
    · split <;> rfl
theorem nar0 : vp_nar .boolean (0 : Int32) = 0 := by decide
theorem nar1 : vp_nar .boolean (1 : Int32) = 1 := by decide
theorem X3_fill {g : Gs} {p : Nat} (v : Int64) (h9 : p < g.2.2 9) (h10 : p < g.2.2 10) (hp : p < 2 ^ 31) : m_X3_fill (nI p) v g = some (sI (sL g 0 p v) 13 0 p 1) := by
  simp only [m_X3_fill, lett, chk_t (inb_m h9 hp), gL2, chk_t (inb_m h10 hp), nI_clamp hp, nar1]
theorem X3_drain {g : Gs} {p : Nat} (h9 : p < g.2.2 9) (h10 : p < g.2.2 10) (hp : p < 2 ^ 31) : m_X3_drain (nI p) g = some (sI (sL g 0 p 0) 13 0 p 0) := by
  simp only [m_X3_drain, lett, chk_t (inb_m h9 hp), gL2, chk_t (inb_m h10 hp), nI_clamp hp, nar0]
theorem X5_lay {g : Gs} {p : Nat} (k : Int32) (v : Int64) (hp : p < 300000) : m_X5_lay (nI p) k v g = some (sI (sL g 2 p (fitV k v)) 36 0 p (if k = 3 then 1 else 0)) := by
  simp only [m_X5_lay, m_X5_lay_J26, X5_as, Option.bind_some, lett, chk_t (inb_m hp (by omega)), nI_clamp (show p < 2 ^ 31 by omega), nar0, nar1]
  split <;> rfl
theorem kd_eq {a R P S n : Nat} {bx : Nat → Bool} {so : Nat → Nat} {g : Gs} (C : Core a R P S bx so n g) {b : Nat} (hb : b < a) : g.1 26 0 b = g.1 16 b 0 := by
  obtain ⟨kd, rk, hk, hkX, hkM, -⟩ := C.2.2.2.2.2.2.1 b hb
  rw [hkX, hkM]
theorem SM_1 (g : Gs) (x : Int32) : SM g (sI g 1 0 0 x) := SM_sI (SM_r g) (by decide)
theorem SM_21 (g : Gs) (x y : Int32) : SM g (sI (sI g 2 0 0 x) 1 0 0 y) := SM_sI (SM_sI (SM_r g) (by decide)) (by decide)
/-- code and nothing else -/
theorem RI_code {n : Nat} {g : Gs} (h : RI n g) (x : Int32) : RI (n + 1) (sI (sI g 1 0 0 x) 20 0 0 x) := RI_stop h x
theorem cas_y {β : Type} {b : Nat} (hb : b < 24) (z : Option β) (f : Nat → Option β) : cas (some b) z f = f b := if_pos hb
theorem cas_n {β : Type} (z : Option β) (f : Nat → Option β) : cas none z f = z := rfl
theorem unw_y {β : Type} {b : Nat} (hb : b < 24) (f : Nat → Option β) : unw (some b) f = f b := if_pos hb
theorem s_get : S_get RI := by
  intro n g x1 x2 x3 x4 h hn
  obtain ⟨hcw, hd, hk, a, R, P, S, bx, so, C⟩ := id h
  rcases arr_cases x1 C.1.1 with hx | ⟨b, hb, rfl⟩
  · obtain ⟨hA, hX, -⟩ := cell_no C (SX_r g) (SM_r g) hx x2 x3 x4
    obtain ⟨-, -, hM⟩ := cell_no C (SX_r g) (SM_1 g 7) hx x2 x3 x4
    refine ⟨0, sI g 1 0 0 7, sI (sI g 1 0 0 7) 20 0 0 7, ?_, ?_, RI_stop h 7, CB_0 h rfl⟩
    · simp only [m_X4_get, hA, hX, Option.bind_some, if_true]
    · simp only [m_X5_get, hM, Option.bind_some, if_true]
  · have hA := X4_arr_yes C.2.1.1 C.1.1 hb
    have h26 := kd_eq C hb
    have ha := C.1
    have cb := inb_m (show b < 24 by omega) (by omega)
    have qb := nI_clamp (show b < 2 ^ 31 by omega)
    rcases cell_all C (by omega) hb x2 x3 x4 with ⟨p, hp, hbx, hX, hM⟩ | ⟨e, he, hX, hM⟩ | ⟨hX, hM⟩
    · have hN := C.2.2.2.1
      have hcl := C.2.2.2.2.2.1 p hp
      have c10 := inb_m (show p < g.2.2 10 by omega) (by omega)
      have c9 := inb_m (show p < g.2.2 9 by omega) (by omega)
      have c3 := inb_m (show p < 300000 by omega) (by omega)
      have qp := nI_clamp (show p < 2 ^ 31 by omega)
      have np : ¬ nI p = -1 := nI_ne_m1 (by omega)
      by_cases hf : g.1 13 0 p = 0
      · have hb3 : bx p = true := by
          cases hq : bx p with
          | true => rfl
          | false => rw [hcl.2.2.2 hq] at hf; exact absurd hf (by decide)
        have h3 : g.1 16 b 0 = 3 := by rw [hb3] at hbx; exact of_decide_eq_true hbx.symm
        refine ⟨0, sI g 1 0 0 1, sI (sI g 1 0 0 1) 20 0 0 1, ?_, ?_, RI_stop h 1, CB_0 h rfl⟩
        · simp only [m_X4_get, hA, hX g (SX_r g), Option.bind_some, if_neg np, chk_t c10, qp, hf, if_true, m_stop]
          rfl
        · have e26 : (sI g 1 0 0 1).1 26 0 b = 3 := by simp [gI, h26, h3]
          have e36 : (sI g 1 0 0 1).1 36 0 p = 0 := by simp [gI, hcl.2.2.1 hb3, hf]
          simp only [m_X5_get, hM _ (SM_1 g 1), Option.bind_some, if_neg np, chk_t cb, qb, e26, if_true, chk_t c3, qp, e36, m_no]
          rfl
      · refine ⟨g.2.1 0 p, sI g 1 0 0 0, sI (sI g 1 0 0 0) 20 0 0 0, ?_, ?_, RI_stop h 0, CB_0 h rfl⟩
        · simp only [m_X4_get, hA, hX g (SX_r g), Option.bind_some, if_neg np, chk_t c10, qp, if_neg hf, lett, gI1, chk_t c9]
        · have e26 : (sI g 1 0 0 0).1 26 0 b = g.1 16 b 0 := by simp [gI, h26]
          have hj : m_X5_get_J46 (nI p) (sI g 1 0 0 0) = some (g.2.1 0 p, sI (sI g 1 0 0 0) 20 0 0 0) := by
            simp only [m_X5_get_J46, lett, gI1, chk_t c3, qp, hcl.1]
          by_cases h3 : g.1 16 b 0 = 3
          · have hb3 : bx p = true := by rw [hbx]; exact decide_eq_true h3
            have e36 : ¬ (sI g 1 0 0 0).1 36 0 p = 0 := by simp [gI, hcl.2.2.1 hb3, hf]
            simp only [m_X5_get, hM _ (SM_1 g 0), Option.bind_some, if_neg np, chk_t cb, qb, e26, if_pos h3, chk_t c3, qp, if_neg e36, hj]
          · simp only [m_X5_get, hM _ (SM_1 g 0), Option.bind_some, if_neg np, chk_t cb, qb, e26, if_neg h3, hj]
    · obtain ⟨gm, hgm, hM⟩ := hM _ (SM_21 g (nI e) 3)
      refine ⟨0, sI (sI g 2 0 0 (nI e)) 1 0 0 3, sI (sI gm 21 0 0 (nI e)) 20 0 0 3, ?_, ?_, RI_stopB2 h _ hgm, CB_0 h ?_⟩
      · simp only [m_X4_get, hA, hX g (SX_r g), Option.bind_some, if_true]
      · simp only [m_X5_get, hM, Option.bind_some, if_true]
      · rcases hgm with rfl | rfl <;> rfl
    · refine ⟨0, sI g 1 0 0 1, sI (sI g 1 0 0 1) 20 0 0 1, ?_, ?_, RI_stop h 1, CB_0 h rfl⟩
      · simp only [m_X4_get, hA, hX g (SX_r g), Option.bind_some, if_true]
      · simp only [m_X5_get, hM _ (SM_1 g 1), Option.bind_some, if_true]
/-- a cell gets the same number on both sides -/
theorem Core_put {a R P S n : Nat} {bx : Nat → Bool} {so : Nat → Nat} {g g2 : Gs} (C : Core a R P S bx so n g) {p : Nat} {v : Int64} {f t : Int32} (hf : f = 0 ∨ f = 1) (h1 : bx p = true → t = f) (h0 : bx p = false → f = 1) (h : ∀ c o, coreC c o = true → c ≠ 13 → c ≠ 36 → g2.1 c o = g.1 c o) (e13 : ∀ q, g2.1 13 0 q = if q = p then f else g.1 13 0 q) (e36 : ∀ q, g2.1 36 0 q = if q = p then t else g.1 36 0 q) (l0 : ∀ q, g2.2.1 0 q = if q = p then v else g.2.1 0 q) (l2 : ∀ q, g2.2.1 2 q = if q = p then v else g.2.1 2 q) (hN : g2.2.2 = g.2.2) : Core a R P S bx so n g2 := by
  refine Core_cells C h hN fun q hq => ?_
  have hcl := C.2.2.2.2.2.1 q hq
  unfold clOk
  rw [e13, e36, l0, l2]
  by_cases hqp : q = p
  · subst hqp
    simp only [if_true]
    exact ⟨trivial, hf, h1, h0⟩
  · simp only [if_neg hqp]
    exact hcl
theorem RI_put {n : Nat} {g : Gs} (h : RI n g) {a R P S : Nat} {bx : Nat → Bool} {so : Nat → Nat} (C : Core a R P S bx so n g) {p : Nat} {v : Int64} {f t : Int32} (hf : f = 0 ∨ f = 1) (h1 : bx p = true → t = f) (h0 : bx p = false → f = 1) : RI (n + 1) (sI (sI (sL (sI (sI (sL g 0 p v) 13 0 p f) 1 0 0 0) 2 p v) 36 0 p t) 20 0 0 0) := by
  obtain ⟨hcw, ⟨d, hd⟩, ⟨k, hk⟩, -⟩ := h
  refine ⟨by simp [Cw, gI, gL1, hcw.2], ⟨d, Shp_congr hd (by simp [sF, gL1]) (by simp [sF, gL1]) (by simp [sF, gL1]) (by simp [sF, gL1]) (by simp [sF, gL1]) (by simp [sF, gL1])⟩, ⟨k, Lns_congr hk (by simp [sF, gL1]) (by simp [sF, gL1]) (by simp [sF, gL1]) (by simp [sF, gL1]) (by simp [sF, gL1]) (by simp [sF, gL1]) (by simp [sF, gL1]) (by simp [sF, gL1]) (by simp [gI1, sF1]) (by simp [gI1, sF1])⟩, a, R, P, S, bx, so, ?_⟩
  refine Core_n (Core_put C hf h1 h0 (p := p) (v := v) (f := f) (t := t) (fun c o hco c13 c36 => ?_) (fun q => ?_) (fun q => ?_) (fun q => ?_) (fun q => ?_) rfl)
  · simp [coreC] at hco
    simp [sF, gL1]
    grind
  · simp [gI, gL1]
  · simp [gI, gL1]
  · simp [gI1, gL]
  · simp [gI1, gL]
theorem s_put : S_put RI := by
  intro n g x1 x2 x3 x4 y5 h hn
  obtain ⟨hcw, hd, hk, a, R, P, S, bx, so, C⟩ := id h
  rcases arr_cases x1 C.1.1 with hx | ⟨b, hb, rfl⟩
  · obtain ⟨hA, hX, -⟩ := cell_no C (SX_r g) (SM_r g) hx x2 x3 x4
    obtain ⟨-, -, hM⟩ := cell_no C (SX_r g) (SM_1 g 7) hx x2 x3 x4
    refine ⟨0, sI g 1 0 0 7, sI (sI g 1 0 0 7) 20 0 0 7, ?_, ?_, RI_stop h 7, CB_0 h rfl⟩
    · simp only [m_X4_put, m_X4_put_J30, hA, hX, Option.bind_some, if_true]
    · simp only [m_X5_put, hM, Option.bind_some, if_true]
  · have hA := X4_arr_yes C.2.1.1 C.1.1 hb
    have h26 := kd_eq C hb
    have ha := C.1
    have cb := inb_m (show b < 24 by omega) (by omega)
    have qb := nI_clamp (show b < 2 ^ 31 by omega)
    rcases cell_all C (by omega) hb x2 x3 x4 with ⟨p, hp, hbx, hX, hM⟩ | ⟨e, he, hX, hM⟩ | ⟨hX, hM⟩
    · have hN := C.2.2.2.1
      have np : ¬ nI p = -1 := nI_ne_m1 (by omega)
      refine ⟨1, sI (sI (sL g 0 p (fitV (g.1 16 b 0) y5)) 13 0 p 1) 1 0 0 0, sI (sI (sL (sI (sI (sL g 0 p (fitV (g.1 16 b 0) y5)) 13 0 p 1) 1 0 0 0) 2 p (fitV (g.1 16 b 0) y5)) 36 0 p (if g.1 16 b 0 = 3 then 1 else 0)) 20 0 0 0, ?_, ?_, RI_put h C (Or.inr rfl) ?_ (fun _ => rfl), CB_0 h rfl⟩
      · simp only [m_X4_put, hA, hX g (SX_r g), Option.bind_some, if_neg np, cas_y (show b < 24 by omega), X4_fitted, X3_fill _ (show p < g.2.2 9 by omega) (show p < g.2.2 10 by omega) (show p < 2 ^ 31 by omega), m_done]
      · have sm : SM g (sI (sI (sL g 0 p (fitV (g.1 16 b 0) y5)) 13 0 p 1) 1 0 0 0) := by
          refine SM_sI (SM_sI ⟨fun c o _ => rfl, ?_, ?_⟩ (by decide)) (by decide)
          · simp [sF1]
          · simp [sF1]
        have e26 : (sI (sI (sL g 0 p (fitV (g.1 16 b 0) y5)) 13 0 p 1) 1 0 0 0).1 26 0 b = g.1 16 b 0 := by simp [gI, gL1, h26]
        simp only [m_X5_put, hM _ sm, Option.bind_some, if_neg np, chk_t cb, qb, e26, X5_lay _ _ (show p < 300000 by omega), m_yes]
      · intro hq
        rw [hq] at hbx
        rw [if_pos (of_decide_eq_true hbx.symm)]
    · obtain ⟨gm, hgm, hM⟩ := hM _ (SM_21 g (nI e) 3)
      refine ⟨0, sI (sI g 2 0 0 (nI e)) 1 0 0 3, sI (sI gm 21 0 0 (nI e)) 20 0 0 3, ?_, ?_, RI_stopB2 h _ hgm, CB_0 h ?_⟩
      · simp only [m_X4_put, m_X4_put_J30, hA, hX g (SX_r g), Option.bind_some, if_true]
      · simp only [m_X5_put, hM, Option.bind_some, if_true]
      · rcases hgm with rfl | rfl <;> rfl
    · refine ⟨0, sI g 1 0 0 1, sI (sI g 1 0 0 1) 20 0 0 1, ?_, ?_, RI_stop h 1, CB_0 h rfl⟩
      · simp only [m_X4_put, m_X4_put_J30, hA, hX g (SX_r g), Option.bind_some, if_true]
      · simp only [m_X5_put, hM _ (SM_1 g 1), Option.bind_some, if_true]
theorem s_empty : S_empty RI := by
  intro n g x1 x2 x3 x4 h hn
  obtain ⟨hcw, hd, hk, a, R, P, S, bx, so, C⟩ := id h
  rcases arr_cases x1 C.1.1 with hx | ⟨b, hb, rfl⟩
  · obtain ⟨hA, hX, -⟩ := cell_no C (SX_r g) (SM_r g) hx x2 x3 x4
    have hM := X5_arr_no (g := sI g 1 0 0 7) C.2.1.2 C.1.1 hx
    refine ⟨0, sI g 1 0 0 7, sI (sI g 1 0 0 7) 20 0 0 7, ?_, ?_, RI_stop h 7, CB_0 h rfl⟩
    · simp only [m_X4_empty, hA, Option.bind_some, cas, m_stop]
    · simp only [m_X5_empty, hM, Option.bind_some, if_true, m_no]
  · have hA := X4_arr_yes C.2.1.1 C.1.1 hb
    have h26 := kd_eq C hb
    have ha := C.1
    have cb := inb_m (show b < 24 by omega) (by omega)
    have qb := nI_clamp (show b < 2 ^ 31 by omega)
    have n10 : ¬ (1 : Int32) = 0 := by decide
    by_cases h3 : g.1 16 b 0 = 3
    · rcases cell_all C (by omega) hb x2 x3 x4 with ⟨p, hp, hbx, hX, hM⟩ | ⟨e, he, hX, hM⟩ | ⟨hX, hM⟩
      · have hN := C.2.2.2.1
        have np : ¬ nI p = -1 := nI_ne_m1 (by omega)
        have c3 := inb_m (show p < 300000 by omega) (by omega)
        have qp := nI_clamp (show p < 2 ^ 31 by omega)
        refine ⟨1, sI (sI (sL g 0 p 0) 13 0 p 0) 1 0 0 0, sI (sI (sL (sI (sI (sL g 0 p 0) 13 0 p 0) 1 0 0 0) 2 p 0) 36 0 p 0) 20 0 0 0, ?_, ?_, RI_put h C (Or.inl rfl) (fun _ => rfl) ?_, CB_0 h rfl⟩
        · simp only [m_X4_empty, hA, hX g (SX_r g), Option.bind_some, if_neg np, cas_y (show b < 24 by omega), if_pos h3, X3_drain (show p < g.2.2 9 by omega) (show p < g.2.2 10 by omega) (show p < 2 ^ 31 by omega), m_done]
        · have sm : SM g (sI (sI (sL g 0 p 0) 13 0 p 0) 1 0 0 0) := by
            refine SM_sI (SM_sI ⟨fun c o _ => rfl, ?_, ?_⟩ (by decide)) (by decide)
            · simp [sF1]
            · simp [sF1]
          have hM0 := X5_arr_yes (g := sI (sI (sL g 0 p 0) 13 0 p 0) 1 0 0 0) (i := b) C.2.1.2 C.1.1 hb
          have e26 : (sI (sI (sL g 0 p 0) 13 0 p 0) 1 0 0 0).1 26 0 b = 3 := by simp [gI, gL1, h26, h3]
          simp only [m_X5_empty, hM0, hM _ sm, Option.bind_some, if_neg n10, if_neg np, chk_t cb, qb, e26, if_true, chk_t c3, qp, lett, nar0, m_yes]
        · intro hq
          rw [hq] at hbx
          exact absurd h3 (of_decide_eq_false hbx.symm)
      · obtain ⟨gm, hgm, hM⟩ := hM _ (SM_21 g (nI e) 3)
        have hM0 := X5_arr_yes (g := sI (sI g 2 0 0 (nI e)) 1 0 0 3) (i := b) C.2.1.2 C.1.1 hb
        have e26 : (sI (sI g 2 0 0 (nI e)) 1 0 0 3).1 26 0 b = 3 := by simp [gI, h26, h3]
        refine ⟨0, sI (sI g 2 0 0 (nI e)) 1 0 0 3, sI (sI gm 21 0 0 (nI e)) 20 0 0 3, ?_, ?_, RI_stopB2 h _ hgm, CB_0 h ?_⟩
        · simp only [m_X4_empty, hA, hX g (SX_r g), Option.bind_some, cas_y (show b < 24 by omega), if_pos h3, if_true]
        · simp only [m_X5_empty, hM0, hM, Option.bind_some, if_neg n10, chk_t cb, qb, e26, if_true]
        · rcases hgm with rfl | rfl <;> rfl
      · have hM0 := X5_arr_yes (g := sI g 1 0 0 1) (i := b) C.2.1.2 C.1.1 hb
        have e26 : (sI g 1 0 0 1).1 26 0 b = 3 := by simp [gI, h26, h3]
        refine ⟨0, sI g 1 0 0 1, sI (sI g 1 0 0 1) 20 0 0 1, ?_, ?_, RI_stop h 1, CB_0 h rfl⟩
        · simp only [m_X4_empty, hA, hX g (SX_r g), Option.bind_some, cas_y (show b < 24 by omega), if_pos h3, if_true]
        · simp only [m_X5_empty, hM0, hM _ (SM_1 g 1), Option.bind_some, if_neg n10, chk_t cb, qb, e26, if_true]
    · have hM0 := X5_arr_yes (g := sI g 1 0 0 2) (i := b) C.2.1.2 C.1.1 hb
      have e26 : ¬ (sI g 1 0 0 2).1 26 0 b = 3 := by simp [gI, h26, h3]
      refine ⟨0, sI g 1 0 0 2, sI (sI g 1 0 0 2) 20 0 0 2, ?_, ?_, RI_stop h 2, CB_0 h rfl⟩
      · simp only [m_X4_empty, hA, Option.bind_some, cas_y (show b < 24 by omega), if_neg h3, m_stop]
      · simp only [m_X5_empty, hM0, Option.bind_some, if_neg n10, chk_t cb, qb, if_neg e26, m_no]
