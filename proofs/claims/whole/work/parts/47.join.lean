/-! PURE: gather, join. -/
def mg (gX gM : Gs) : Gs := (fun c o => if c < 20 then gX.1 c o else gM.1 c o, fun c => if c < 2 then gX.2.1 c else gM.2.1 c, gX.2.2)
theorem mg_X (gX gM : Gs) : SX (mg gX gM) gX := ⟨fun c o h => by simp [mg, h], rfl, rfl, rfl⟩
theorem mg_M (gX gM : Gs) : SM (mg gX gM) gM := ⟨fun c o h => by simp [mg, Nat.not_lt.mpr h], rfl, rfl⟩
theorem mg_lt {gX gM : Gs} {c o : Nat} (h : c < 20) : (mg gX gM).1 c o = gX.1 c o := if_pos h
theorem mg_ge {gX gM : Gs} {c o : Nat} (h : 20 ≤ c) : (mg gX gM).1 c o = gM.1 c o := if_neg (by omega)
theorem mg_eq {hX hM : Gs} (h1 : ∀ c o, c < 20 → hM.1 c o = hX.1 c o) (h2 : ∀ c, c < 2 → hM.2.1 c = hX.2.1 c) (h3 : hM.2.2 = hX.2.2) : mg hX hM = hM := by
  refine Prod.ext (funext fun c => funext fun o => ?_) (Prod.ext (funext fun c => ?_) h3.symm)
  · by_cases h : c < 20
    · rw [mg_lt h, h1 c o h]
    · rw [mg_ge (by omega)]
  · show (if c < 2 then hX.2.1 c else hM.2.1 c) = hM.2.1 c
    by_cases h : c < 2
    · rw [if_pos h, h2 c h]
    · rw [if_neg h]
def LX (gX hX : Gs) : Prop := (∀ c o, c ≠ 13 → c ≠ 1 → c ≠ 2 → hX.1 c o = gX.1 c o) ∧ (∀ c, c ≠ 0 → hX.2.1 c = gX.2.1 c) ∧ hX.2.2 = gX.2.2
def LM (gM hM : Gs) : Prop := (∀ c o, c ≠ 36 → c ≠ 20 → c ≠ 21 → c ≠ 44 → hM.1 c o = gM.1 c o) ∧ (∀ c, c ≠ 2 → hM.2.1 c = gM.2.1 c) ∧ hM.2.2 = gM.2.2
theorem LX_r (g : Gs) : LX g g := ⟨fun _ _ _ _ _ => rfl, fun _ _ => rfl, rfl⟩
theorem LM_r (g : Gs) : LM g g := ⟨fun _ _ _ _ _ _ => rfl, fun _ _ => rfl, rfl⟩
theorem LX_t {g h k : Gs} (a : LX g h) (b : LX h k) : LX g k := ⟨fun c o h1 h2 h3 => (b.1 c o h1 h2 h3).trans (a.1 c o h1 h2 h3), fun c h1 => (b.2.1 c h1).trans (a.2.1 c h1), b.2.2.trans a.2.2⟩
theorem LM_t {g h k : Gs} (a : LM g h) (b : LM h k) : LM g k := ⟨fun c o h1 h2 h3 h4 => (b.1 c o h1 h2 h3 h4).trans (a.1 c o h1 h2 h3 h4), fun c h1 => (b.2.1 c h1).trans (a.2.1 c h1), b.2.2.trans a.2.2⟩
theorem LX_c {g h : Gs} (a : LX g h) {c : Nat} {j : Nat} {x : Int32} (hc : c = 1 ∨ c = 2) : LX g (sI h c 0 j x) := ⟨fun c1 o h1 h2 h3 => by rw [sF, if_neg (by omega)]; exact a.1 c1 o h1 h2 h3, a.2⟩
theorem LM_c {g h : Gs} (a : LM g h) {c : Nat} {j : Nat} {x : Int32} (hc : c = 20 ∨ c = 21 ∨ c = 44) : LM g (sI h c 0 j x) := ⟨fun c1 o h1 h2 h3 h4 => by rw [sF, if_neg (by omega)]; exact a.1 c1 o h1 h2 h3 h4, a.2⟩
def fX (gX : Gs) (p : Nat) (v : Int64) : Gs := sI (sL gX 0 p v) 13 0 p 1
def fM (gM : Gs) (p : Nat) (v : Int64) (k : Int32) : Gs := sI (sL gM 2 p v) 36 0 p (if k = 3 then 1 else 0)
theorem fX_L (gX : Gs) (p : Nat) (v : Int64) : LX gX (fX gX p v) := ⟨fun c o h1 h2 h3 => by rw [fX, sF, if_neg (by omega)]; rfl, fun c h => by rw [fX, gI1, sF1, if_neg h], rfl⟩
theorem fM_L (gM : Gs) (p : Nat) (v : Int64) (k : Int32) : LM gM (fM gM p v k) := ⟨fun c o h1 h2 h3 h4 => by rw [fM, sF, if_neg (by omega)]; rfl, fun c h => by rw [fM, gI1, sF1, if_neg h], rfl⟩
theorem Core_fill {a R P S n : Nat} {bx : Nat → Bool} {so : Nat → Nat} {gX gM : Gs} (C : Core a R P S bx so n (mg gX gM)) {p : Nat} {v : Int64} {k : Int32} (hb : bx p = decide (k = 3)) : Core a R P S bx so n (mg (fX gX p v) (fM gM p v k)) := by
  refine Core_put (p := p) (v := v) (f := 1) (t := if k = 3 then 1 else 0) C (Or.inr rfl) (fun q => ?_) (fun _ => rfl) (fun c o hco h13 h36 => ?_) (fun q => ?_) (fun q => ?_) (fun q => ?_) (fun q => ?_) rfl
  · rw [hb] at q
    rw [if_pos (of_decide_eq_true q)]
  · by_cases h : c < 20
    · rw [mg_lt h, mg_lt h, fX, sF, if_neg (by omega)]
      rfl
    · rw [mg_ge (by omega), mg_ge (by omega), fM, sF, if_neg (by omega)]
      rfl
  · rw [mg_lt (by omega), mg_lt (by omega), fX, gI]
    simp [gL1]
  · rw [mg_ge (by omega), mg_ge (by omega), fM, gI]
    simp [gL1]
  · show (fX gX p v).2.1 0 q = if q = p then v else gX.2.1 0 q
    simp [fX, gI1, gL]
  · show (fM gM p v k).2.1 2 q = if q = p then v else gM.2.1 2 q
    simp [fM, gI1, gL]
theorem Core_cong2 {a R P S n : Nat} {bx : Nat → Bool} {so : Nat → Nat} {gX gM hX hM : Gs} (C : Core a R P S bx so n (mg gX gM)) (h1 : ∀ c o, c ≠ 1 → c ≠ 2 → c ≠ 3 → c ≠ 7 → hX.1 c o = gX.1 c o) (h2 : ∀ c o, c ≠ 20 → c ≠ 21 → c ≠ 39 → c ≠ 44 → hM.1 c o = gM.1 c o) (l1 : hX.2 = gX.2) (l2 : hM.2.1 2 = gM.2.1 2) : Core a R P S bx so n (mg hX hM) := by
  refine Core_congr C (fun c o hc => ?_) ?_ ?_ ?_
  · simp [coreC] at hc
    by_cases h : c < 20
    · rw [mg_lt h, mg_lt h, h1 c o (by omega) (by omega) (by omega) (by omega)]
    · rw [mg_ge (by omega), mg_ge (by omega), h2 c o (by omega) (by omega) (by omega) (by omega)]
  · show hX.2.1 0 = gX.2.1 0
    rw [l1]
  · show hM.2.1 2 = gM.2.1 2
    rw [l2]
  · show hX.2.2 = gX.2.2
    rw [l1]
/-- o joined with v -/
def jnV (way : Int32) (o v : Int64) : Int64 := if way = 1 then o + v else if way = 2 then (if v < o then o else v) else if way = 3 then (if v < o then v else o) else if way = 4 then o / v else if way = 5 then o - o / v * v else v
theorem div_m1 (o : Int64) : o / -1 = 0 - o := by
  apply Int64.toInt_inj.mp
  rw [Int64.toInt_div, Int64.toInt_sub, show (-1 : Int64).toInt = -1 from by decide, show (0 : Int64).toInt = 0 from by decide, Int.tdiv_neg, Int.tdiv_one, Int.zero_sub]
theorem rem_m1 (o : Int64) : o - o / -1 * -1 = 0 := by
  rw [div_m1]
  grind
theorem X4_joined {way : Int32} {o v : Int64} (g : Gs) (h : way = 4 ∨ way = 5 → ¬ v = 0) : m_X4_joined o v way g = some (jnV way o v) := by
  unfold m_X4_joined m_X4_joined_J65 m_X4_joined_J79 jnV
  simp only [lg_cmp_eq]
  by_cases h1 : way = 1
  · rw [if_pos h1, if_pos h1]
  · rw [if_neg h1, if_neg h1]
    by_cases h2 : way = 2
    · rw [if_pos h2, if_pos h2]
    · rw [if_neg h2, if_neg h2]
      by_cases h3 : way = 3
      · rw [if_pos h3, if_pos h3]
      · rw [if_neg h3, if_neg h3]
        by_cases h4 : way = 4
        · have := h (Or.inl h4)
          rw [if_pos h4, if_pos h4, if_neg this, chk_t this]
        · rw [if_neg h4, if_neg h4]
          by_cases h5 : way = 5
          · have := h (Or.inr h5)
            rw [if_pos h5, if_pos h5, if_neg this, chk_t this]
          · rw [if_neg h5, if_neg h5]
theorem X5_j46 {gM : Gs} {p : Nat} {k way : Int32} {o v : Int64} (hp : p < 300000) (h : way = 4 ∨ way = 5 → ¬ v = 0) : m_X5_joins_J46 (nI p) k way v o gM = some (1, fM gM p (fitV k (jnV way o v)) k) := by
  have hL : ∀ w, m_X5_joins_J171 (nI p) k w gM = some (1, fM gM p (fitV k w) k) := fun w => by
    simp only [m_X5_joins_J171, X5_lay _ _ hp, Option.bind_some]
    rfl
  unfold m_X5_joins_J46 m_X5_joins_J85 m_X5_joins_J110 m_X5_joins_J141 m_X5_joins_J169 jnV lett
  simp only [lg_cmp_eq, lg_cmp_le, lg_cmp_ge, hL]
  by_cases h1 : way = 1
  · rw [if_pos h1, if_pos h1]
  · rw [if_neg h1, if_neg h1]
    by_cases h2 : way = 2
    · rw [if_pos h2, if_pos h2]
      by_cases q : v < o
      · rw [if_neg (Int64.not_le.mpr q), if_pos q]
      · rw [if_pos (Int64.not_lt.mp q), if_neg q]
    · rw [if_neg h2, if_neg h2]
      by_cases h3 : way = 3
      · rw [if_pos h3, if_pos h3]
        by_cases q : v < o
        · rw [if_pos (Int64.le_of_lt q), if_pos q]
        · rw [if_neg q]
          by_cases q2 : v ≤ o
          · rw [if_pos q2, Int64.le_antisymm q2 (Int64.not_lt.mp q)]
          · rw [if_neg q2]
      · rw [if_neg h3, if_neg h3]
        by_cases h4 : way = 4
        · have hv := h (Or.inl h4)
          rw [if_pos h4, if_pos h4]
          by_cases q : v = -1
          · rw [if_pos q, q, div_m1]
          · rw [if_neg q, chk_t hv]
        · rw [if_neg h4, if_neg h4]
          by_cases h5 : way = 5
          · have hv := h (Or.inr h5)
            rw [if_pos h5, if_pos h5]
            by_cases q : v = -1
            · rw [if_pos q, q, rem_m1]
            · rw [if_neg q, chk_t hv]
          · rw [if_neg h5, if_neg h5]
/-- one item, both sides -/
theorem join1 {a R P S n : Nat} {bx : Nat → Bool} {so : Nat → Nat} {gX gM : Gs} (C : Core a R P S bx so n (mg gX gM)) (hn : n ≤ 512) {p : Nat} (hp : p < P) {k : Int32} (hb : bx p = decide (k = 3)) {w : Nat} (hw : w ≤ 5) (v : Int64) :
    (∃ v2, m_X4_joinCell k (nI p) v (nI w) gX = some (1, fX gX p v2) ∧ m_X5_joins (nI p) k (nI w) v gM = some (1, fM gM p v2 k)) ∨ (m_X4_joinCell k (nI p) v (nI w) gX = some (0, gX) ∧ m_X5_joins (nI p) k (nI w) v gM = some (0, gM)) := by
  have hA := C.1
  have hN := C.2.2.2.1
  have hcl := C.2.2.2.2.2.1 p hp
  have e9 : gX.2.2 9 = (mg gX gM).2.2 9 := rfl
  have e10 : gX.2.2 10 = (mg gX gM).2.2 10 := rfl
  have c9 := inb_m (show p < gX.2.2 9 by omega) (by omega)
  have c10 := inb_m (show p < gX.2.2 10 by omega) (by omega)
  have c3 := inb_m (show p < 300000 by omega) (by omega)
  have qp := nI_clamp (show p < 2 ^ 31 by omega)
  have hfill := fun y => X3_fill (g := gX) (p := p) y (by omega) (by omega) (by omega)
  obtain ⟨hl, hf, hb1, hb0⟩ := hcl
  rw [mg_lt (show 13 < 20 by decide)] at hf hb0 hb1
  rw [mg_ge (show 20 ≤ 36 by decide)] at hb1
  have hl2 : gM.2.1 2 p = gX.2.1 0 p := hl
  have z4 : (nI w = 4 ↔ w = 4) := nI_eq (b := 4) (by omega) (by omega)
  have z5 : (nI w = 5 ↔ w = 5) := nI_eq (b := 5) (by omega) (by omega)
  have z3 : (nI w ≤ 3 ↔ w ≤ 3) := nI_leI (b := 3) (by omega) (by omega)
  by_cases hemp : gX.1 13 0 p = 0
  · have hbt : bx p = true := by
      cases hq : bx p with
      | true => rfl
      | false => rw [hb0 hq] at hemp; exact absurd hemp (by decide)
    have hk3 : k = 3 := by rw [hbt] at hb; exact of_decide_eq_true hb.symm
    have h36 : gM.1 36 0 p = 0 := by rw [hb1 hbt, hemp]
    refine Or.inl ⟨fitV k v, ?_, ?_⟩
    · simp only [m_X4_joinCell, chk_t c10, qp, if_pos hemp, X4_fitted, Option.bind_some, hfill]
      rfl
    · simp only [m_X5_joins, if_pos hk3, chk_t c3, qp, if_pos h36, X5_lay _ _ (show p < 300000 by omega), Option.bind_some]
      rw [fM, if_pos hk3]
      rfl
  · have hfull : ∀ r : Option (Int32 × Gs), m_X5_joins_J24 (nI p) k (nI w) v gM = r → m_X5_joins (nI p) k (nI w) v gM = r := by
      intro r hr
      unfold m_X5_joins
      by_cases hk3 : k = 3
      · have hbt : bx p = true := by rw [hb]; exact decide_eq_true hk3
        have h36 : ¬ gM.1 36 0 p = 0 := by rw [hb1 hbt]; exact hemp
        rw [if_pos hk3, chk_t c3, qp, if_neg h36, hr]
      · rw [if_neg hk3, hr]
    by_cases hz : v = 0 ∧ (w = 4 ∨ w = 5)
    · obtain ⟨hv, hw45⟩ := hz
      refine Or.inr ⟨?_, hfull _ ?_⟩
      · simp only [m_X4_joinCell, m_X4_joinCell_J45, chk_t c10, qp, if_neg hemp, lg_cmp_eq, if_pos hv]
        rcases hw45 with q | q
        · rw [if_pos (z4.mpr q)]
          rfl
        · rw [if_neg (fun z => by have := z4.mp z; omega), if_pos (z5.mpr q)]
          rfl
      · simp only [m_X5_joins_J24, chk_t c3, qp, lett, if_neg (fun z => by have := z3.mp z; omega : ¬ nI w ≤ 3), lg_cmp_eq, if_pos hv]
        rfl
    · have hj : nI w = 4 ∨ nI w = 5 → ¬ v = 0 := fun q hv => hz ⟨hv, q.elim (fun z => Or.inl (z4.mp z)) (fun z => Or.inr (z5.mp z))⟩
      refine Or.inl ⟨fitV k (jnV (nI w) (gX.2.1 0 p) v), ?_, hfull _ ?_⟩
      · have hJ : m_X4_joinCell_J47 k (nI p) v (nI w) gX = some (1, fX gX p (fitV k (jnV (nI w) (gX.2.1 0 p) v))) := by
          simp only [m_X4_joinCell_J47, chk_t c9, qp, X4_joined _ hj, Option.bind_some, X4_fitted, hfill]
          rfl
        simp only [m_X4_joinCell, chk_t c10, qp, if_neg hemp, lg_cmp_eq, hJ]
        by_cases hv : v = 0
        · rw [if_pos hv, if_neg (fun z => hj (Or.inl z) hv), if_neg (fun z => hj (Or.inr z) hv)]
        · rw [if_neg hv]
      · have hJ : m_X5_joins_J46 (nI p) k (nI w) v (gX.2.1 0 p) gM = some (1, fM gM p (fitV k (jnV (nI w) (gX.2.1 0 p) v)) k) := X5_j46 (by omega) hj
        simp only [m_X5_joins_J24, chk_t c3, qp, lett, hl2, hJ, lg_cmp_eq]
        by_cases hw3 : nI w ≤ 3
        · rw [if_pos hw3]
        · have hw4 : ¬ w ≤ 3 := fun z => hw3 (z3.mpr z)
          have hv : ¬ v = 0 := fun q => hz ⟨q, by omega⟩
          rw [if_neg hw3, if_neg hv]
/-- a run of the loop on both sides: it ends, or stops alike -/
def Both (a R P S : Nat) (bx : Nat → Bool) (so : Nat → Nat) (n : Nat) (gX gM : Gs) (qX qM : Option ((Int32 × Gs) ⊕ Gs)) : Prop :=
  (∃ hX hM, qX = some (.inr hX) ∧ qM = some (.inr hM) ∧ LX gX hX ∧ LM gM hM ∧ Cw (mg hX hM) ∧ Core a R P S bx so n (mg hX hM)) ∨
  (∃ r hX hM, qX = some (.inl (r, hX)) ∧ qM = some (.inl (r, hM)) ∧ LX gX hX ∧ LM gM hM ∧ Cw (mg hX hM) ∧ Core a R P S bx so n (mg hX hM))
theorem Both_t {a R P S n : Nat} {bx : Nat → Bool} {so : Nat → Nat} {gX gM kX kM : Gs} {qX qM : Option ((Int32 × Gs) ⊕ Gs)} (h : Both a R P S bx so n kX kM qX qM) (lx : LX gX kX) (lm : LM gM kM) : Both a R P S bx so n gX gM qX qM := by
  rcases h with ⟨hX, hM, e1, e2, l1, l2, h3⟩ | ⟨r, hX, hM, e1, e2, l1, l2, h3⟩
  · exact Or.inl ⟨hX, hM, e1, e2, LX_t lx l1, LM_t lm l2, h3⟩
  · exact Or.inr ⟨r, hX, hM, e1, e2, LX_t lx l1, LM_t lm l2, h3⟩
/-- both stop with a code -/
theorem Both_c {a R P S n : Nat} {bx : Nat → Bool} {so : Nat → Nat} {gX gM : Gs} (cw : Cw (mg gX gM)) (C : Core a R P S bx so n (mg gX gM)) (x r : Int32) : Both a R P S bx so n gX gM (some (.inl (r, sI gX 1 0 0 x))) (some (.inl (r, sI gM 20 0 0 x))) := by
  refine Or.inr ⟨r, _, _, rfl, rfl, LX_c (LX_r gX) (Or.inl rfl), LM_c (LM_r gM) (Or.inl rfl), ⟨?_, ?_⟩, Core_cong2 C (fun c o h1 _ _ _ => by rw [sF, if_neg (by omega)]) (fun c o h1 _ _ _ => by rw [sF, if_neg (by omega)]) rfl rfl⟩
  · rw [mg_ge (show 20 ≤ 20 by decide), mg_lt (show 1 < 20 by decide), gI, gI]
    simp
  · have := cw.2
    rw [mg_ge (show 20 ≤ 21 by decide), mg_lt (show 2 < 20 by decide)] at this ⊢
    rw [gI, gI]
    simp [this]
theorem Both_b {a R P S n : Nat} {bx : Nat → Bool} {so : Nat → Nat} {gX gM gm : Gs} (C : Core a R P S bx so n (mg gX gM)) {e : Int32} (hg : gm = gM ∨ gm = sI gM 44 0 0 e) (r : Int32) : Both a R P S bx so n gX gM (some (.inl (r, sI (sI gX 2 0 0 e) 1 0 0 3))) (some (.inl (r, sI (sI gm 21 0 0 e) 20 0 0 3))) := by
  have lm : LM gM gm ∧ (∀ c o, c ≠ 44 → gm.1 c o = gM.1 c o) ∧ gm.2 = gM.2 := by
    rcases hg with rfl | rfl
    · exact ⟨LM_r _, fun _ _ _ => rfl, rfl⟩
    · exact ⟨LM_c (LM_r _) (Or.inr (Or.inr rfl)), fun c o h => by rw [sF, if_neg (by omega)], rfl⟩
  refine Or.inr ⟨r, _, _, rfl, rfl, LX_c (LX_c (LX_r gX) (Or.inr rfl)) (Or.inl rfl), LM_c (LM_c lm.1 (Or.inr (Or.inl rfl))) (Or.inl rfl), ⟨?_, ?_⟩, Core_cong2 C (fun c o h1 h2 _ _ => by rw [sF, if_neg (by omega), sF, if_neg (by omega)]) (fun c o h1 h2 h3 h4 => by rw [sF, if_neg (by omega), sF, if_neg (by omega), lm.2.1 c o h4]) rfl (by show gm.2.1 2 = _; rw [lm.2.2])⟩
  · rw [mg_ge (show 20 ≤ 20 by decide), mg_lt (show 1 < 20 by decide)]
    simp [gI]
  · rw [mg_ge (show 20 ≤ 21 by decide), mg_lt (show 2 < 20 by decide), gI, gI, gI, gI]
    simp
theorem Cw_fill {gX gM : Gs} {p : Nat} {v : Int64} {k : Int32} (cw : Cw (mg gX gM)) : Cw (mg (fX gX p v) (fM gM p v k)) := by
  unfold Cw at *
  rw [mg_ge (show 20 ≤ 20 by decide), mg_lt (show 1 < 20 by decide), mg_ge (show 20 ≤ 21 by decide), mg_lt (show 2 < 20 by decide)] at *
  exact cw
/-- gather's loop -/
theorem gather_L {a R P S n : Nat} {bx : Nat → Bool} {so : Nat → Nat} (hn : n ≤ 512) {b k w : Nat} (hb : b < a) (hw : w ≤ 5) (hk : k ≤ 30) : ∀ m i f gX gM, i + m = k → m < f → Cw (mg gX gM) → Core a R P S bx so n (mg gX gM) → Lns k (mg gX gM) → Both a R P S bx so n gX gM (m_X4_gather_L40 (nI w) (some b) f (nI i) gX) (m_X5_gather_L34 (nI b) (nI w) f (nI i) gM) := by
  intro m
  induction m with
  | zero =>
    intro i f gX gM hi hf cw C L
    obtain ⟨f, rfl⟩ : ∃ f2, f = f2 + 1 := ⟨f - 1, by omega⟩
    have h7 : gX.1 7 0 0 = nI k := L.2.1
    have h39 : gM.1 39 0 0 = nI k := L.2.2.1
    rw [m_X4_gather_L40, m_X5_gather_L34, h7, h39, if_pos (nI_le (by omega) (by omega)), if_pos (nI_le (by omega) (by omega))]
    exact Or.inl ⟨gX, gM, rfl, rfl, LX_r _, LM_r _, cw, C⟩
  | succ m ih =>
    intro i f gX gM hi hf cw C L
    obtain ⟨f, rfl⟩ : ∃ f2, f = f2 + 1 := ⟨f - 1, by omega⟩
    have ha := C.1
    have h7 : gX.1 7 0 0 = nI k := L.2.1
    have h39 : gM.1 39 0 0 = nI k := L.2.2.1
    obtain ⟨q1, q2, q3, q4⟩ := L.2.2.2 i (by omega)
    have q1 : gM.1 40 0 i = gX.1 8 0 i := q1
    have q2 : gM.1 41 0 i = gX.1 9 0 i := q2
    have q3 : gM.1 42 0 i = gX.1 10 0 i := q3
    have q4 : gM.2.1 3 i = gX.2.1 1 i := q4
    have ci := inb_m (show i < 30 by omega) (by omega)
    have qi := nI_clamp (show i < 2 ^ 31 by omega)
    have cb := inb_m (show b < 24 by omega) (by omega)
    have qb := nI_clamp (show b < 2 ^ 31 by omega)
    have hb24 : b < 24 := by omega
    have h26 : gM.1 26 0 b = gX.1 16 b 0 := kd_eq C hb
    rw [m_X4_gather_L40, m_X5_gather_L34, h7, h39, if_neg (nI_ge (by omega) (by omega)), if_neg (nI_ge (by omega) (by omega))]
    simp only [chk_t ci, qi, q1, q2, q3]
    rcases cell_all C hn hb (gX.1 8 0 i) (gX.1 9 0 i) (gX.1 10 0 i) with ⟨p, hp, hbx, hX, hM⟩ | ⟨e, he, hX, hM⟩ | ⟨hX, hM⟩
    · have np : ¬ nI p = -1 := nI_ne_m1 (by omega)
      have hbx2 : bx p = decide (gX.1 16 b 0 = 3) := hbx
      rw [hX gX (mg_X gX gM), hM gM (mg_M gX gM)]
      simp only [Option.bind_some, if_neg np, unw_y hb24, chk_t cb, qb, h26, q4]
      rcases join1 C hn hp hbx2 hw (gX.2.1 1 i) with ⟨v2, j1, j2⟩ | ⟨j1, j2⟩
      · rw [j1, j2]
        simp only [Option.bind_some, if_neg n10, lett, nI_1]
        refine Both_t (ih (i + 1) f (fX gX p v2) (fM gM p v2 (gX.1 16 b 0)) (by omega) (by omega) (Cw_fill cw) (Core_fill C hbx2) ?_) (fX_L _ _ _) (fM_L _ _ _ _)
        exact L
      · rw [j1, j2]
        simp only [Option.bind_some, if_true, lett, m_tell]
        exact Both_c cw C 6 (nI i)
    · obtain ⟨gm, hgm, hM⟩ := hM gM (mg_M gX gM)
      rw [hX gX (mg_X gX gM), hM]
      simp only [Option.bind_some, if_true]
      exact Both_b C hgm (nI i)
    · rw [hX gX (mg_X gX gM), hM gM (mg_M gX gM)]
      simp only [Option.bind_some, if_true]
      exact Both_c cw C 1 (nI i)
theorem mg_of {g g1 : Gs} (h : ∀ c o, 20 ≤ c → g1.1 c o = g.1 c o) (h2 : ∀ c, 2 ≤ c → g1.2.1 c = g.2.1 c) : mg g g1 = g := by
  refine Prod.ext (funext fun c => funext fun o => ?_) (Prod.ext (funext fun c => ?_) rfl)
  · by_cases q : c < 20
    · rw [mg_lt q]
    · rw [mg_ge (by omega), h c o (by omega)]
  · show (if c < 2 then g.2.1 c else g1.2.1 c) = g.2.1 c
    by_cases q : c < 2
    · rw [if_pos q]
    · rw [if_neg q, h2 c (by omega)]
theorem mg_self (g : Gs) : mg g g = g := mg_of (fun _ _ _ => rfl) (fun _ _ => rfl)
theorem mg_LX {g hX : Gs} (l : LX g hX) : mg g hX = g := mg_of (fun c o h => l.1 c o (by omega) (by omega) (by omega)) (fun c h => l.2.1 c (by omega))
theorem RI_fin {n : Nat} {g hX hM : Gs} (h : RI n g) (lx : LX g hX) (lm : LM hX hM) (cw : Cw (mg hX hM)) {a R P S : Nat} {bx : Nat → Bool} {so : Nat → Nat} (C : Core a R P S bx so n (mg hX hM)) : RI (n + 1) hM := by
  have e : mg hX hM = hM := mg_eq (fun c o q => lm.1 c o (by omega) (by omega) (by omega) (by omega)) (fun c q => lm.2.1 c (by omega)) lm.2.2
  rw [e] at cw C
  obtain ⟨-, ⟨d, hd⟩, ⟨k, hk⟩, -⟩ := h
  have q : ∀ c o, c ≠ 36 ∧ c ≠ 20 ∧ c ≠ 21 ∧ c ≠ 44 ∧ c ≠ 13 ∧ c ≠ 1 ∧ c ≠ 2 → hM.1 c o = g.1 c o := fun c o z => (lm.1 c o z.1 z.2.1 z.2.2.1 z.2.2.2.1).trans (lx.1 c o z.2.2.2.2.1 z.2.2.2.2.2.1 z.2.2.2.2.2.2)
  have l : ∀ c, c ≠ 0 ∧ c ≠ 2 → hM.2.1 c = g.2.1 c := fun c z => (lm.2.1 c z.2).trans (lx.2.1 c z.1)
  exact ⟨cw, ⟨d, Shp_congr hd (q _ _ (by decide)) (q _ _ (by decide)) (q _ _ (by decide)) (q _ _ (by decide)) (q _ _ (by decide)) (q _ _ (by decide))⟩, ⟨k, Lns_congr hk (q _ _ (by decide)) (q _ _ (by decide)) (q _ _ (by decide)) (q _ _ (by decide)) (q _ _ (by decide)) (q _ _ (by decide)) (q _ _ (by decide)) (q _ _ (by decide)) (l _ (by decide)) (l _ (by decide))⟩, a, R, P, S, bx, so, Core_n C⟩
theorem CB_L {n : Nat} {g g2 : Gs} (h : RI n g) (hN : g2.2.2 = g.2.2) : CB 0 0 g g2 := CB_0 h hN
theorem why_no {a R P S n : Nat} {bx : Nat → Bool} {so : Nat → Nat} {g : Gs} (C : Core a R P S bx so n g) {x : Int32} (hx : x < 0 ∨ nI a ≤ x) {gM : Gs} (sm : SM g gM) : m_X5_wants x gM = some 7 := by
  simp only [m_X5_wants, m_X5_wants_J28, X5_arr_no (g := gM) (by rw [sm.1 25 _ (by omega)]; exact C.2.1.2) C.1.1 hx, Option.bind_some, if_true]
theorem why_tab {a R P S n : Nat} {bx : Nat → Bool} {so : Nat → Nat} {g : Gs} (C : Core a R P S bx so n g) {b : Nat} (hb : b < a) {gM : Gs} (sm : SM g gM) : m_X4_whyNoRow (some b) g = some (if g.1 16 b 0 = 4 then 2 else 0) ∧ m_X5_wants (nI b) gM = some (if g.1 16 b 0 = 4 then 2 else 0) := by
  have ha := C.1
  have h26 : gM.1 26 0 b = g.1 16 b 0 := by rw [sm.1 26 _ (by omega), kd_eq C hb]
  refine ⟨?_, ?_⟩
  · simp only [m_X4_whyNoRow, m_X4_whyNoRow_J20, cas_y (show b < 24 by omega)]
    split <;> rfl
  · simp only [m_X5_wants, m_X5_wants_J28, isA (g := gM) (by rw [sm.1 25 _ (by omega)]; exact C.2.1.2) C.1.1 hb, Option.bind_some, if_neg n10, chk_t (inb_m (show b < 24 by omega) (by omega)), nI_clamp (show b < 2 ^ 31 by omega), h26]
    split <;> rfl
theorem way_in {x : Int32} (h : ¬ (x < 0 ∨ nI 5 < x)) : ∃ w, w ≤ 5 ∧ x = nI w := nI_of2 (M := 5) (n := 5) (by decide) (fun q => h (Or.inl q)) (Int32.not_lt.mp (fun q => h (Or.inr q)))
theorem s_gather : S_gather RI := by
  intro n g x1 x2 h hn
  obtain ⟨hcw, hd, ⟨k, hk⟩, a, R, P, S, bx, so, C⟩ := id h
  have ha := C.1
  by_cases hout : x2 < 0 ∨ nI 5 < x2
  · refine ⟨-2000000001, g, g, ?_, ?_, RI_def n g h hn, CB_0 h rfl⟩
    · unfold m_X4_gather m_X4_gather_J9
      by_cases h1 : x2 < 0
      · rw [if_pos h1]
      · rw [if_neg h1, if_neg (show ¬ x2 ≤ 5 from Int32.not_le.mpr (hout.resolve_left h1))]
    · have := X5_w8 x2 5 (by decide) g
      rw [if_pos hout] at this
      simp only [m_X5_gather, show (5 : Int64) = lN 5 from rfl, this, Option.bind_some, if_true]
  · obtain ⟨w, hw, rfl⟩ := way_in hout
    have hwi := fun g1 => X5_w8 (nI w) 5 (by decide) g1
    simp only [if_neg hout] at hwi
    have e5 : (5 : Int64) = lN 5 := rfl
    have p0 : ¬ nI w < 0 := fun q => hout (Or.inl q)
    have p5 : nI w ≤ 5 := Int32.not_lt.mp (fun q => hout (Or.inr q))
    rcases arr_cases x1 C.1.1 with hx | ⟨b, hb, rfl⟩
    · refine ⟨0, sI g 1 0 0 7, sI (sI g 1 0 0 7) 20 0 0 7, ?_, ?_, RI_stop h 7, CB_0 h rfl⟩
      · simp only [m_X4_gather, if_neg p0, if_pos p5, X4_arr_no C.2.1.1 hx, Option.bind_some, m_X4_whyNoRow, cas_n, if_neg (show ¬ (7 : Int32) = 0 by decide), m_stop]
      · simp only [m_X5_gather, e5, hwi, Option.bind_some, if_neg n10, why_no C hx (SM_1 g 7), if_neg (show ¬ (7 : Int32) = 0 by decide), m_no]
    · have hA := X4_arr_yes C.2.1.1 C.1.1 hb
      by_cases h4 : g.1 16 b 0 = 4
      · refine ⟨0, sI g 1 0 0 2, sI (sI g 1 0 0 2) 20 0 0 2, ?_, ?_, RI_stop h 2, CB_0 h rfl⟩
        · simp only [m_X4_gather, if_neg p0, if_pos p5, hA, Option.bind_some, (why_tab C hb (SM_r g)).1, if_pos h4, if_neg (show ¬ (2 : Int32) = 0 by decide), m_stop]
        · simp only [m_X5_gather, e5, hwi, Option.bind_some, if_neg n10, (why_tab C hb (SM_1 g 2)).2, if_pos h4, if_neg (show ¬ (2 : Int32) = 0 by decide), m_no]
      · have hk30 := hk.1
        have wX : m_X4_whyNoRow (some b) g = some 0 := by rw [(why_tab C hb (SM_r g)).1, if_neg h4]
        have B := fun gM (e : mg g gM = g) => gather_L (a := a) (R := R) (P := P) (S := S) (bx := bx) (so := so) (n := n) (by omega) hb hw hk.1 k 0 FU g gM (by omega) (FU_big (by omega)) (by rw [e]; exact hcw) (by rw [e]; exact C) (by rw [e]; exact hk)
        rw [nl0] at B
        rcases B g (mg_self g) with ⟨hX, -, eX, -, lx, -, -, -⟩ | ⟨r, hX, -, eX, -, lx, -, -, -⟩
        · have h7 : hX.1 7 0 0 = nI k := by rw [lx.1 7 0 (by decide) (by decide) (by decide)]; exact hk.2.1
          have em : mg g (sI (sI hX 7 0 0 0) 1 0 0 0) = g := mg_of (fun c o q => by rw [sF, if_neg (by omega), sF, if_neg (by omega)]; exact lx.1 c o (by omega) (by omega) (by omega)) (fun c q => lx.2.1 c (by omega))
          rcases B (sI (sI hX 7 0 0 0) 1 0 0 0) em with ⟨hX2, hM, eX2, eM, lx2, lm, cw, C2⟩ | ⟨r, hX2, hM, eX2, -⟩
          · have : hX = hX2 := Sum.inr.inj (som_in eX eX2)
            subst this
            have h39 : hM.1 39 0 0 = nI k := by
              rw [lm.1 39 0 (by decide) (by decide) (by decide) (by decide)]
              show hX.1 39 0 0 = nI k
              rw [lx.1 39 0 (by decide) (by decide) (by decide)]
              exact hk.2.2.1
            have sm : SM g (sI (sI hX 7 0 0 0) 1 0 0 0) := ⟨fun c o q => by rw [sF, if_neg (by omega), sF, if_neg (by omega)]; exact lx.1 c o (by omega) (by omega) (by omega), lx.2.1 2 (by decide), lx.2.1 3 (by decide)⟩
            have wM : m_X5_wants (nI b) (sI (sI hX 7 0 0 0) 1 0 0 0) = some 0 := by rw [(why_tab C hb sm).2, if_neg h4]
            refine ⟨nI k, sI (sI hX 7 0 0 0) 1 0 0 0, sI (sI hM 39 0 0 0) 20 0 0 0, ?_, ?_, ?_, ?_⟩
            · simp only [m_X4_gather, if_neg p0, if_pos p5, hA, Option.bind_some, wX, if_true, lett, eX, exi, h7, m_done]
            · simp only [m_X5_gather, e5, hwi, Option.bind_some, if_neg n10, wM, if_true, lett, eM, exi, h39, m_yes]
            · obtain ⟨-, ⟨d, hd⟩, -, -⟩ := h
              have e : mg (sI (sI hX 7 0 0 0) 1 0 0 0) (sI (sI hM 39 0 0 0) 20 0 0 0) = sI (sI hM 39 0 0 0) 20 0 0 0 := mg_eq (fun c o q => by rw [sF, if_neg (by omega), sF, if_neg (by omega)]; exact lm.1 c o (by omega) (by omega) (by omega) (by omega)) (fun c q => lm.2.1 c (by omega)) lm.2.2
              have q : ∀ c o, c ≠ 36 ∧ c ≠ 20 ∧ c ≠ 21 ∧ c ≠ 44 ∧ c ≠ 13 ∧ c ≠ 1 ∧ c ≠ 2 ∧ c ≠ 7 ∧ c ≠ 39 → (sI (sI hM 39 0 0 0) 20 0 0 0).1 c o = g.1 c o := fun c o z => by
                rw [sF, if_neg (by omega), sF, if_neg (by omega), lm.1 c o (by omega) (by omega) (by omega) (by omega), sF, if_neg (by omega), sF, if_neg (by omega)]
                exact lx.1 c o (by omega) (by omega) (by omega)
              refine ⟨⟨?_, ?_⟩, ⟨d, Shp_congr hd (q _ _ (by decide)) (q _ _ (by decide)) (q _ _ (by decide)) (q _ _ (by decide)) (q _ _ (by decide)) (q _ _ (by decide))⟩, ⟨0, by omega, ?_, by simp [gI, nl0], fun j hj => absurd hj (by omega)⟩, a, R, P, S, bx, so, ?_⟩
              · have := lm.1 1 0 (by decide) (by decide) (by decide) (by decide)
                simp [gI, this]
              · have h2 := cw.2
                rw [mg_ge (show 20 ≤ 21 by decide), mg_lt (show 2 < 20 by decide)] at h2
                have := lm.1 2 0 (by decide) (by decide) (by decide) (by decide)
                simp [gI, this, h2]
              · have := lm.1 7 0 (by decide) (by decide) (by decide) (by decide)
                simp [gI, this, nl0]
              · rw [← e]
                exact Core_n (Core_cong2 C2 (fun c o h1 _ _ h7 => by rw [sF, if_neg (by omega), sF, if_neg (by omega)]) (fun c o h1 _ h39 _ => by rw [sF, if_neg (by omega), sF, if_neg (by omega)]) rfl rfl)
            · exact CB_0 h (lm.2.2.trans lx.2.2)
          · cases som_in eX eX2
        · rcases B hX (mg_LX lx) with ⟨hX2, hM, eX2, -⟩ | ⟨r2, hX2, hM, eX2, eM, lx2, lm, cw, C2⟩
          · cases som_in eX eX2
          · obtain ⟨rfl, rfl⟩ := Prod.mk.inj (Sum.inl.inj (som_in eX eX2))
            have sm : SM g hX := ⟨fun c o q => lx.1 c o (by omega) (by omega) (by omega), lx.2.1 2 (by decide), lx.2.1 3 (by decide)⟩
            have wM : m_X5_wants (nI b) hX = some 0 := by rw [(why_tab C hb sm).2, if_neg h4]
            refine ⟨r, hX, hM, ?_, ?_, RI_fin h lx lm cw C2, CB_0 h (lm.2.2.trans lx.2.2)⟩
            · simp only [m_X4_gather, if_neg p0, if_pos p5, hA, Option.bind_some, wX, if_true, lett, eX, exi]
            · simp only [m_X5_gather, e5, hwi, Option.bind_some, if_neg n10, wM, if_true, lett, eM, exi]
/-- join's loop -/
theorem join_L {a R P S n : Nat} {bx : Nat → Bool} {so : Nat → Nat} (hn : n ≤ 512) {b c r q s t L kd w : Nat} (hb : b < 24) (hc : c < 24) (hr : r < 13000) (hq : q < 13000) (hw : w ≤ 5) (hkd : kd ≤ 3) (hs : s + L ≤ P) (ht : t + L ≤ P) (hbs : ∀ i, i < L → bx (s + i) = decide (kd = 3) ∧ bx (t + i) = decide (kd = 3)) : ∀ m i f gX gM, i + m = L → m < f → Cw (mg gX gM) → Core a R P S bx so n (mg gX gM) → gX.1 16 b 0 = nI kd → gM.1 26 0 b = nI kd ∧ gM.1 26 0 c = nI kd ∧ gM.1 30 0 b = nI r ∧ gM.1 30 0 c = nI q ∧ gM.1 32 0 r = nI s ∧ gM.1 32 0 q = nI t → Both a R P S bx so n gX gM (m_X4_join_L93 (nI w) b (nI s) (nI t) (nI L) f (nI i) gX) (m_X5_join_L108 (nI b) (nI c) (nI w) (nI L) f (nI i) gM) := by
  intro m
  induction m with
  | zero =>
    intro i f gX gM hi hf cw C h16 hM
    obtain ⟨f, rfl⟩ : ∃ f2, f = f2 + 1 := ⟨f - 1, by omega⟩
    have ha := C.1
    rw [m_X4_join_L93, m_X5_join_L108, if_pos (nI_le (by omega) (by omega)), if_pos (nI_le (by omega) (by omega))]
    exact Or.inl ⟨gX, gM, rfl, rfl, LX_r _, LM_r _, cw, C⟩
  | succ m ih =>
    intro i f gX gM hi hf cw C h16 hM
    obtain ⟨f, rfl⟩ : ∃ f2, f = f2 + 1 := ⟨f - 1, by omega⟩
    obtain ⟨m1, m2, m3, m4, m5, m6⟩ := hM
    have ha := C.1
    have hN := C.2.2.2.1
    have e9 : gX.2.2 9 = (mg gX gM).2.2 9 := rfl
    have e10 : gX.2.2 10 = (mg gX gM).2.2 10 := rfl
    obtain ⟨b1, b2⟩ := hbs i (by omega)
    obtain ⟨hl, hf1, hb1, hb0⟩ := C.2.2.2.2.2.1 (t + i) (by omega)
    rw [mg_lt (show 13 < 20 by decide)] at hf1 hb0 hb1
    rw [mg_ge (show 20 ≤ 36 by decide)] at hb1
    have hl2 : gM.2.1 2 (t + i) = gX.2.1 0 (t + i) := hl
    have k3 : nI kd = (3 : Int32) ↔ kd = 3 := k4_iff (by omega) (by omega) (show (3 : Int32) = nI 3 from rfl)
    have hbk : bx (s + i) = decide (nI kd = 3) := by rw [b1]; exact decide_eq_decide.mpr k3.symm
    have ct := inb_m (show t + i < gX.2.2 10 by omega) (by omega)
    have ct9 := inb_m (show t + i < gX.2.2 9 by omega) (by omega)
    have ct3 := inb_m (show t + i < 300000 by omega) (by omega)
    have qt := nI_clamp (show t + i < 2 ^ 31 by omega)
    have J := join1 C hn (show s + i < P by omega) hbk hw (gX.2.1 0 (t + i))
    rw [m_X4_join_L93, m_X5_join_L108, if_neg (nI_ge (by omega) (by omega)), if_neg (nI_ge (by omega) (by omega))]
    simp only [nI_add, chk_t ct, qt, h16, chk_t ct9, chk_t (inb_m hb (by omega)), chk_t (inb_m hc (by omega)), nI_clamp (show b < 2 ^ 31 by omega), nI_clamp (show c < 2 ^ 31 by omega), m1, m2, m3, m4, chk_t (inb_m hr (by omega)), chk_t (inb_m hq (by omega)), nI_clamp (show r < 2 ^ 31 by omega), nI_clamp (show q < 2 ^ 31 by omega), m5, m6, lett, chk_t ct3, hl2]
    have go : Both a R P S bx so n gX gM ((m_X4_joinCell (nI kd) (nI (s + i)) (gX.2.1 0 (t + i)) (nI w) gX).bind fun (x_27, g_28) => if x_27 = 0 then ((m_X4_tell (6 : Int32) (nI i) g_28).bind fun (x_33, g_34) => some (.inl (x_33, g_34))) else m_X4_join_L93 (nI w) b (nI s) (nI t) (nI L) f (nI i + 1) g_28) ((m_X5_joins (nI (s + i)) (nI kd) (nI w) (gX.2.1 0 (t + i)) gM).bind fun (x_44, g_45) => if x_44 = 0 then some (.inl (nI i, sI g_45 20 0 0 6)) else m_X5_join_L108 (nI b) (nI c) (nI w) (nI L) f (nI i + 1) g_45) := by
      rcases J with ⟨v2, j1, j2⟩ | ⟨j1, j2⟩
      · rw [j1, j2]
        simp only [Option.bind_some, if_neg n10, nI_1]
        refine Both_t (ih (i + 1) f (fX gX (s + i) v2) (fM gM (s + i) v2 (nI kd)) (by omega) (by omega) (Cw_fill cw) (Core_fill C hbk) ?_ ?_) (fX_L _ _ _) (fM_L _ _ _ _)
        · exact h16
        · exact ⟨m1, m2, m3, m4, m5, m6⟩
      · rw [j1, j2]
        simp only [Option.bind_some, if_true, m_tell]
        exact Both_c cw C 6 (nI i)
    by_cases hk3 : kd = 3
    · have hbt : bx (t + i) = true := by rw [b2]; exact decide_eq_true hk3
      rw [if_pos (k3.mpr hk3), hb1 hbt]
      by_cases hz : gX.1 13 0 (t + i) = 0
      · rw [if_pos hz, if_pos hz]
        simp only [m_tell, Option.bind_some]
        exact Both_c cw C 1 (nI i)
      · rw [if_neg hz, if_neg hz]
        exact go
    · have hbf : bx (t + i) = false := by rw [b2]; exact decide_eq_false hk3
      rw [if_neg (fun z => hk3 (k3.mp z)), hb0 hbf, if_neg n10]
      exact go
theorem s_join : S_join RI := by
  intro n g x1 x2 x3 h hn
  obtain ⟨hcw, hd, ⟨k, hk⟩, a, R, P, S, bx, so, C⟩ := id h
  have ha := C.1
  by_cases hout : x3 < 0 ∨ nI 5 < x3
  · refine ⟨-2000000001, g, g, ?_, ?_, RI_def n g h hn, CB_0 h rfl⟩
    · unfold m_X4_join m_X4_join_J9
      by_cases h1 : x3 < 0
      · rw [if_pos h1]
      · rw [if_neg h1, if_neg (show ¬ x3 ≤ 5 from Int32.not_le.mpr (hout.resolve_left h1))]
    · have := X5_w8 x3 5 (by decide) g
      rw [if_pos hout] at this
      simp only [m_X5_join, show (5 : Int64) = lN 5 from rfl, this, Option.bind_some, if_true]
  · obtain ⟨w, hw, rfl⟩ := way_in hout
    have hwi := fun g1 => X5_w8 (nI w) 5 (by decide) g1
    simp only [if_neg hout] at hwi
    have e5 : (5 : Int64) = lN 5 := rfl
    have p0 : ¬ nI w < 0 := fun q => hout (Or.inl q)
    have p5 : nI w ≤ 5 := Int32.not_lt.mp (fun q => hout (Or.inr q))
    have n70 : ¬ (7 : Int32) = 0 := by decide
    rcases two_cases x1 x2 C.1.1 with hx | ⟨b, c, hb, hc, rfl, rfl⟩
    · refine ⟨0, sI g 1 0 0 7, sI (sI g 1 0 0 7) 20 0 0 7, ?_, ?_, RI_stop h 7, CB_0 h rfl⟩
      · obtain ⟨o1, o2, e1, e2, hq⟩ := both_no C.2.1.1 C.1.1 hx
        have hwn : m_X4_whyNotJoined o1 o2 g = some 7 := by
          rcases hq with rfl | ⟨b, hb, rfl, rfl⟩
          · rfl
          · simp only [m_X4_whyNotJoined, m_X4_whyNotJoined_J8, cas_y hb, cas_n]
        simp only [m_X4_join, if_neg p0, if_pos p5, e1, e2, Option.bind_some, hwn, if_neg n70, m_stop]
      · rcases both_noM (g := sI g 1 0 0 7) C.2.1.2 C.1.1 hx with q | ⟨q1, q2⟩
        · simp only [m_X5_join, m_X5_join_J31, e5, hwi, q, Option.bind_some, if_neg n10, if_true, m_no]
        · simp only [m_X5_join, m_X5_join_J31, e5, hwi, q1, q2, Option.bind_some, if_neg n10, if_true, m_no]
    · have hA := X4_arr_yes C.2.1.1 C.1.1 hb
      have hA2 := X4_arr_yes C.2.1.1 C.1.1 hc
      have cb := inb_m (show b < 24 by omega) (by omega)
      have qb := nI_clamp (show b < 2 ^ 31 by omega)
      have cc := inb_m (show c < 24 by omega) (by omega)
      have qc := nI_clamp (show c < 2 ^ 31 by omega)
      have hb24 : b < 24 := by omega
      have hc24 : c < 24 := by omega
      have kb := kd_eq C hb
      have kc := kd_eq C hc
      by_cases hkk : g.1 16 b 0 = g.1 16 c 0 ∧ ¬ g.1 16 b 0 = 4
      · rcases arr_view C hb with ⟨kd, rk, r, hkd, h16, h26, hs, hr, h17, h30, hrl, hbx⟩ | ⟨h16, -⟩
        · rcases arr_view C hc with ⟨kd2, rk2, q, hkd2, i16, i26, is, hq, i17, i30, irl, ibx⟩ | ⟨i16, -⟩
          · have hkd3 : kd2 = kd := by
              have := hkk.1
              rw [h16, i16] at this
              exact ((nI_eq (by omega) (by omega)).mp this).symm
            subst hkd3
            have F := row_f C (by omega) (SX_r g) (SM_r g) hr
            have G := row_f C (by omega) (SX_r g) (SM_r g) hq
            have f1 := F.l5; have f2 := F.s9; have f3 := F.s3
            have g1 := G.l5; have g2 := G.s9; have g3 := G.s3
            have wr := (C.2.2.2.2.1 r hr).2.2.2.1
            have wq := (C.2.2.2.2.1 q hq).2.2.2.1
            by_cases hlen : rl g r = rl g q
            · have B := fun gM (e : mg g gM = g) (hm : gM.1 26 0 b = nI kd2 ∧ gM.1 26 0 c = nI kd2 ∧ gM.1 30 0 b = nI r ∧ gM.1 30 0 c = nI q ∧ gM.1 32 0 r = nI (rs g r) ∧ gM.1 32 0 q = nI (rs g q)) => join_L (a := a) (R := R) (P := P) (S := S) (bx := bx) (so := so) (n := n) (by omega) hb24 hc24 F.r13 G.r13 hw hkd (s := rs g r) (t := rs g q) (L := rl g r) (by omega) (by omega) (fun i hi => ⟨hbx _ ⟨by omega, by omega⟩, ibx _ ⟨by omega, by omega⟩⟩) (rl g r) 0 FU g gM (by omega) (FU_big (by omega)) (by rw [e]; exact hcw) (by rw [e]; exact C) h16 hm
              rw [nl0] at B
              have hwn : m_X4_whyNotJoined (some b) (some c) g = some 0 := by
                simp only [m_X4_whyNotJoined, m_X4_whyNotJoined_J63, cas_y hb24, cas_y hc24, if_pos hkk.1, if_neg hkk.2, h17, i17, F.lX, G.lX, Option.bind_some, if_pos (show nI (rl g r) = nI (rl g q) by rw [hlen])]
              have mf : ∀ gM, SM g gM → gM.1 26 0 b = nI kd2 ∧ gM.1 26 0 c = nI kd2 ∧ gM.1 30 0 b = nI r ∧ gM.1 30 0 c = nI q ∧ gM.1 32 0 r = nI (rs g r) ∧ gM.1 32 0 q = nI (rs g q) := fun gM sm => ⟨by rw [sm.1 26 _ (by omega)]; exact h26, by rw [sm.1 26 _ (by omega)]; exact i26, by rw [sm.1 30 _ (by omega)]; exact h30, by rw [sm.1 30 _ (by omega)]; exact i30, by rw [sm.1 32 _ (by omega)]; exact F.sM, by rw [sm.1 32 _ (by omega)]; exact G.sM⟩
              have ml : ∀ gM, SM g gM → gM.1 33 0 r = nI (rl g r) ∧ gM.1 33 0 q = nI (rl g r) ∧ m_X5_isArray (nI b) gM = some 1 ∧ m_X5_isArray (nI c) gM = some 1 := fun gM sm => ⟨by rw [sm.1 33 _ (by omega)]; exact F.lM, by rw [sm.1 33 _ (by omega), hlen]; exact G.lM, isA (by rw [sm.1 25 _ (by omega)]; exact C.2.1.2) C.1.1 hb, isA (by rw [sm.1 25 _ (by omega)]; exact C.2.1.2) C.1.1 hc⟩
              rcases B g (mg_self g) (mf g (SM_r g)) with ⟨hX, -, eX, -, lx, -, -, -⟩ | ⟨z, hX, -, eX, -, lx, -, -, -⟩
              · have sm : SM g (sI hX 1 0 0 0) := ⟨fun c o q => by rw [sF, if_neg (by omega)]; exact lx.1 c o (by omega) (by omega) (by omega), lx.2.1 2 (by decide), lx.2.1 3 (by decide)⟩
                have em : mg g (sI hX 1 0 0 0) = g := mg_of (fun c o q => sm.1 c o q) (fun c q => lx.2.1 c (by omega))
                rcases B (sI hX 1 0 0 0) em (mf _ sm) with ⟨hX2, hM, eX2, eM, lx2, lm, cw, C2⟩ | ⟨z, hX2, hM, eX2, -⟩
                · have : hX = hX2 := Sum.inr.inj (som_in eX eX2)
                  subst this
                  obtain ⟨u1, u2, u3, u4, u5, u6⟩ := mf _ sm
                  obtain ⟨v1, v2, v3, v4⟩ := ml _ sm
                  refine ⟨nI (rl g r), sI hX 1 0 0 0, sI hM 20 0 0 0, ?_, ?_, RI_fin h (LX_c lx (Or.inl rfl)) (LM_c lm (Or.inl rfl)) ⟨?_, ?_⟩ (Core_cong2 C2 (fun c o h1 _ _ _ => by rw [sF, if_neg (by omega)]) (fun c o h1 _ _ _ => by rw [sF, if_neg (by omega)]) rfl rfl), CB_0 h (lm.2.2.trans lx.2.2)⟩
                  · simp only [m_X4_join, if_neg p0, if_pos p5, hA, hA2, Option.bind_some, hwn, if_true, unw_y hb24, unw_y hc24, h17, i17, F.sX, G.sX, F.lX, lett, eX, exi, m_done]
                  · simp only [m_X5_join, e5, hwi, Option.bind_some, if_neg n10, v3, v4, chk_t cb, chk_t cc, qb, qc, u1, u2, if_true, if_neg (n4 hkd), u3, u4, chk_t (inb_m F.r13 (by omega)), chk_t (inb_m G.r13 (by omega)), nI_clamp (show r < 2 ^ 31 by omega), nI_clamp (show q < 2 ^ 31 by omega), v1, v2, lett, eM, exi, m_yes]
                  · rw [mg_ge (show 20 ≤ 20 by decide), mg_lt (show 1 < 20 by decide)]
                    simp [gI]
                  · have := cw.2
                    rw [mg_ge (show 20 ≤ 21 by decide), mg_lt (show 2 < 20 by decide)] at this ⊢
                    simp [gI, this]
                · cases som_in eX eX2
              · have sm : SM g hX := ⟨fun c o q => lx.1 c o (by omega) (by omega) (by omega), lx.2.1 2 (by decide), lx.2.1 3 (by decide)⟩
                rcases B hX (mg_LX lx) (mf _ sm) with ⟨hX2, hM, eX2, -⟩ | ⟨z2, hX2, hM, eX2, eM, lx2, lm, cw, C2⟩
                · cases som_in eX eX2
                · obtain ⟨rfl, rfl⟩ := Prod.mk.inj (Sum.inl.inj (som_in eX eX2))
                  obtain ⟨u1, u2, u3, u4, u5, u6⟩ := mf _ sm
                  obtain ⟨v1, v2, v3, v4⟩ := ml _ sm
                  refine ⟨z, hX, hM, ?_, ?_, RI_fin h lx lm cw C2, CB_0 h (lm.2.2.trans lx.2.2)⟩
                  · simp only [m_X4_join, if_neg p0, if_pos p5, hA, hA2, Option.bind_some, hwn, if_true, unw_y hb24, unw_y hc24, h17, i17, F.sX, G.sX, F.lX, lett, eX, exi]
                  · simp only [m_X5_join, e5, hwi, Option.bind_some, if_neg n10, v3, v4, chk_t cb, chk_t cc, qb, qc, u1, u2, if_true, if_neg (n4 hkd), u3, u4, chk_t (inb_m F.r13 (by omega)), chk_t (inb_m G.r13 (by omega)), nI_clamp (show r < 2 ^ 31 by omega), nI_clamp (show q < 2 ^ 31 by omega), v1, v2, lett, eM, exi]
            · have hne : ¬ nI (rl g r) = nI (rl g q) := fun z => hlen ((nI_eq (by omega) (by omega)).mp z)
              refine ⟨0, sI g 1 0 0 10, sI (sI g 1 0 0 10) 20 0 0 10, ?_, ?_, RI_stop h 10, CB_0 h rfl⟩
              · have hwn : m_X4_whyNotJoined (some b) (some c) g = some 10 := by
                  simp only [m_X4_whyNotJoined, m_X4_whyNotJoined_J63, cas_y hb24, cas_y hc24, if_pos hkk.1, if_neg hkk.2, h17, i17, F.lX, G.lX, Option.bind_some, if_neg hne]
                simp only [m_X4_join, if_neg p0, if_pos p5, hA, hA2, Option.bind_some, hwn, if_neg (show ¬ (10 : Int32) = 0 by decide), m_stop]
              · have u1 : (sI g 1 0 0 10).1 26 0 b = nI kd2 := h26
                have u2 : (sI g 1 0 0 10).1 26 0 c = nI kd2 := i26
                have u3 : (sI g 1 0 0 10).1 30 0 b = nI r := h30
                have u4 : (sI g 1 0 0 10).1 30 0 c = nI q := i30
                have v1 : (sI g 1 0 0 10).1 33 0 r = nI (rl g r) := F.lM
                have v2 : (sI g 1 0 0 10).1 33 0 q = nI (rl g q) := G.lM
                simp only [m_X5_join, e5, hwi, Option.bind_some, if_neg n10, isA (g := sI g 1 0 0 10) C.2.1.2 C.1.1 hb, isA (g := sI g 1 0 0 10) C.2.1.2 C.1.1 hc, chk_t cb, chk_t cc, qb, qc, u1, u2, if_true, if_neg (n4 hkd), u3, u4, chk_t (inb_m F.r13 (by omega)), chk_t (inb_m G.r13 (by omega)), nI_clamp (show r < 2 ^ 31 by omega), nI_clamp (show q < 2 ^ 31 by omega), v1, v2, lett, if_neg hne, m_no]
          · exact absurd (hkk.1.trans i16) hkk.2
        · exact absurd h16 hkk.2
      · refine ⟨0, sI g 1 0 0 2, sI (sI g 1 0 0 2) 20 0 0 2, ?_, ?_, RI_stop h 2, CB_0 h rfl⟩
        · have hwn : m_X4_whyNotJoined (some b) (some c) g = some 2 := by
            simp only [m_X4_whyNotJoined, m_X4_whyNotJoined_J30, cas_y hb24, cas_y hc24]
            by_cases h1 : g.1 16 b 0 = g.1 16 c 0
            · rw [if_pos h1, if_pos (Classical.byContradiction fun z => hkk ⟨h1, z⟩)]
            · rw [if_neg h1]
          simp only [m_X4_join, if_neg p0, if_pos p5, hA, hA2, Option.bind_some, hwn, if_neg (show ¬ (2 : Int32) = 0 by decide), m_stop]
        · have e26 : (sI g 1 0 0 2).1 26 0 b = g.1 16 b 0 := kb
          have e26c : (sI g 1 0 0 2).1 26 0 c = g.1 16 c 0 := kc
          simp only [m_X5_join, m_X5_join_J63, e5, hwi, isA (g := sI g 1 0 0 2) C.2.1.2 C.1.1 hb, isA (g := sI g 1 0 0 2) C.2.1.2 C.1.1 hc, Option.bind_some, if_neg n10, chk_t cb, chk_t cc, qb, qc, e26, e26c, m_no]
          by_cases h1 : g.1 16 b 0 = g.1 16 c 0
          · rw [if_pos h1, if_pos (Classical.byContradiction fun z => hkk ⟨h1, z⟩)]
          · rw [if_neg h1]
