/-! PURE: a new array on both sides; items of a shape. -/
def Tch (a R P S c o j : Nat) : Prop :=
  c = 0 ∨ c = 1 ∨ c = 3 ∨ c = 11 ∨ c = 12 ∨ c = 20 ∨ c = 22 ∨ c = 25 ∨ c = 31 ∨ c = 34 ∨ c = 37 ∨ c = 44 ∨ (c = 4 ∧ o = 0) ∨ ((c = 4 ∨ c = 5 ∨ c = 6) ∧ o = a + 1) ∨ ((c = 16 ∨ c = 17 ∨ c = 18) ∧ o = a) ∨ ((c = 26 ∨ c = 27 ∨ c = 30) ∧ a ≤ j) ∨ ((c = 28 ∨ c = 29) ∧ 3 * a ≤ j) ∨ ((c = 14 ∨ c = 15 ∨ c = 32 ∨ c = 33) ∧ R ≤ j) ∨ ((c = 13 ∨ c = 36) ∧ P ≤ j) ∨ (c = 38 ∧ S ≤ j)
theorem RI_new {n a R P S R2 P2 S2 d2 : Nat} {bx bx2 : Nat → Bool} {so so2 : Nat → Nat} {g g2 : Gs} (h : RI n g) (C : Core a R P S bx so n g) (ha : a < 24)
    (hb : R2 ≤ 500 * (a + 1) + (n + 1) ∧ P2 ≤ 500 * (a + 1) + 100 * (n + 1) ∧ S2 ≤ 500 * (a + 1)) (hm : R ≤ R2 ∧ P ≤ P2 ∧ S ≤ S2)
    (hF : ∀ c o j, ¬ Tch a R P S c o j → g2.1 c o j = g.1 c o j) (hL : ∀ p, p < P → g2.2.1 0 p = g.2.1 0 p ∧ g2.2.1 2 p = g.2.1 2 p) (hL1 : g2.2.1 1 = g.2.1 1 ∧ g2.2.1 3 = g.2.1 3)
    (hc : g2.1 0 0 0 = nI (a + 1) ∧ g2.1 25 0 0 = nI (a + 1)) (hk : g2.1 12 0 0 = nI R2 ∧ g2.1 31 0 0 = nI R2 ∧ g2.1 11 0 0 = nI P2 ∧ g2.1 34 0 0 = nI P2 ∧ g2.1 37 0 0 = nI S2)
    (hN : ∀ i, i ≠ 500 + a → g2.2.2 i = g.2.2 i) (hN2 : R2 ≤ g.2.2 11 ∧ P2 ≤ g.2.2 9)
    (hbx : ∀ p, p < P → bx2 p = bx p) (hso : ∀ i, i < a → so2 i = so i)
    (hcode : g2.1 1 0 0 = 0 ∧ g2.1 20 0 0 = 0) (hd2 : d2 ≤ 3 ∧ g2.1 4 0 0 = nI d2 ∧ g2.1 22 0 0 = nI d2)
    (nr : ∀ r, R ≤ r → r < R2 → rwOk g2 P2 r) (np : ∀ p, P ≤ p → p < P2 → clOk g2 bx2 p) (na : aOk g2 R2 S2 bx2 so2 a ∧ (g2.1 16 a 0 = 4 → S ≤ so2 a)) (hNa : g2.2.2 (500 + a) ≤ 500) : RI (n + 1) g2 := by
  have hh := C
  obtain ⟨c1, c2, c3, c4, -⟩ := hh
  obtain ⟨cw, ⟨d, hd⟩, ⟨k, hk1⟩, -⟩ := h
  have q : ∀ c o, (∀ j, ¬ Tch a R P S c o j) → g2.1 c o = g.1 c o := fun c o z => funext fun j => hF c o j (z j)
  have n9 := hN 9 (by omega)
  have n10 := hN 10 (by omega)
  have n11 := hN 11 (by omega)
  have n12 := hN 12 (by omega)
  refine ⟨⟨by rw [hcode.1, hcode.2], ?_⟩, ⟨d2, hd2.1, hd2.2.1, hd2.2.2, fun j hj => ?_⟩, ⟨k, Lns_congr hk1 (q _ _ (fun j => by unfold Tch; omega)) (q _ _ (fun j => by unfold Tch; omega)) (q _ _ (fun j => by unfold Tch; omega)) (q _ _ (fun j => by unfold Tch; omega)) (q _ _ (fun j => by unfold Tch; omega)) (q _ _ (fun j => by unfold Tch; omega)) (q _ _ (fun j => by unfold Tch; omega)) (q _ _ (fun j => by unfold Tch; omega)) hL1.1 hL1.2⟩, a + 1, R2, P2, S2, bx2, so2, ?_⟩
  · rw [hF 21 0 0 (by unfold Tch; omega), hF 2 0 0 (by unfold Tch; omega)]
    exact cw.2
  · rw [hF 23 0 j (by unfold Tch; omega), hF 24 0 j (by unfold Tch; omega), hF 5 0 j (by unfold Tch; omega), hF 6 0 j (by unfold Tch; omega)]
    exact hd.2.2.2 j hj
  · refine Core_ext C ⟨by omega, by omega, by omega, by omega⟩ ⟨by omega, by omega, hm.1, hm.2.1, hm.2.2⟩ hc hk (by omega) (fun r hr => ?_) (fun p hp => ?_) (fun i hi => ?_) (fun s hs => hF 38 0 s (by unfold Tch; omega)) nr np (fun i h1 h2 => ?_) (fun i => ?_)
    · exact ⟨hF 14 0 r (by unfold Tch; omega), hF 15 0 r (by unfold Tch; omega), hF 32 0 r (by unfold Tch; omega), hF 33 0 r (by unfold Tch; omega)⟩
    · exact ⟨hF 13 0 p (by unfold Tch; omega), hF 36 0 p (by unfold Tch; omega), (hL p hp).1, (hL p hp).2, hbx p hp⟩
    · exact ⟨hF 16 i 0 (by unfold Tch; omega), hF 26 0 i (by unfold Tch; omega), hF 17 i 0 (by unfold Tch; omega), hF 30 0 i (by unfold Tch; omega), q 4 (i + 1) (fun j => by unfold Tch; omega), q 5 (i + 1) (fun j => by unfold Tch; omega), q 6 (i + 1) (fun j => by unfold Tch; omega), hF 27 0 i (by unfold Tch; omega), fun d hd => ⟨hF 28 0 (3 * i + d) (by unfold Tch; omega), hF 29 0 (3 * i + d) (by unfold Tch; omega)⟩, q 18 i (fun j => by unfold Tch; omega), hN (500 + i) (by omega), hso i hi⟩
    · have : i = a := by omega
      subst this
      exact na
    · by_cases z : i = a
      · rw [z]; exact hNa
      · rw [hN (500 + i) (by omega)]; exact C.2.2.2.2.2.2.2.2 i
/-- the class's next array -/
def naX (g : Gs) (a : Nat) (kd : Int32) : Gs := sI (sI (sI (sI g 0 0 0 (nI (a + 1))) 16 a 0 kd) 17 a 0 (-1)) 4 (a + 1) 0 0
def shX (g : Gs) (t o d rk : Nat) : Gs := (fun c o2 j => if (c = 5 ∨ c = 6) ∧ o2 = t ∧ d ≤ j ∧ j < rk then g.1 c o j else if c = 4 ∧ o2 = t ∧ j = 0 then nI rk else g.1 c o2 j, g.2)
theorem shX_1 (g : Gs) (t o d rk c o2 j : Nat) : (shX g t o d rk).1 c o2 j = if (c = 5 ∨ c = 6) ∧ o2 = t ∧ d ≤ j ∧ j < rk then g.1 c o j else if c = 4 ∧ o2 = t ∧ j = 0 then nI rk else g.1 c o2 j := rfl
theorem shX_2 (g : Gs) (t o d rk : Nat) : (shX g t o d rk).2 = g.2 := rfl
theorem naX_1 (g : Gs) (a : Nat) (kd : Int32) (c o j : Nat) : (naX g a kd).1 c o j = if c = 4 ∧ o = a + 1 ∧ j = 0 then 0 else if c = 17 ∧ o = a ∧ j = 0 then -1 else if c = 16 ∧ o = a ∧ j = 0 then kd else if c = 0 ∧ o = 0 ∧ j = 0 then nI (a + 1) else g.1 c o j := by
  rw [naX, gI, gI, gI, gI]
theorem naX_2 (g : Gs) (a : Nat) (kd : Int32) : (naX g a kd).2 = g.2 := rfl
theorem nextArray {g : Gs} {a : Nat} (h0 : g.1 0 0 0 = nI a) (ha : a < 24) (kd : Int32) : m_X4_nextArray kd g = some (a, naX g a kd) := by
  simp only [m_X4_nextArray, lett, h0, chk_t (inb_m ha (by omega)), nI_clamp (show a < 2 ^ 31 by omega), nI_1]
  rfl
theorem X2_add {g : Gs} {t d : Nat} (ht : t < 25) (hd : d < 3) (h4 : g.1 4 t 0 = nI d) (x y : Int32) : m_X2_add t x y g = some (sI (sI (sI g 5 t d x) 6 t d y) 4 t 0 (nI (d + 1))) := by
  have e1 : (sI g 5 t d x).1 4 t 0 = nI d := by rw [gI, if_neg (by omega)]; exact h4
  have e2 : (sI (sI g 5 t d x) 6 t d y).1 4 t 0 = nI d := by rw [gI, if_neg (by omega)]; exact e1
  have hge : ¬ (3 : Int32) ≤ nI d := nI_ge (b := 3) hd (by decide)
  simp only [m_X2_add, m_X2_add_J38, lett, chk_t ht, h4, if_neg hge, chk_t (inb_m hd (by omega)), nI_clamp (show d < 2 ^ 31 by omega), e1, e2, nI_1]
theorem addAll_L {t o rk : Nat} (ht : t < 25) (hto : o ≠ t) (hrk : rk ≤ 3) : ∀ m d f g, d + m = rk → m < f → g.1 4 o 0 = nI rk → g.1 4 t 0 = nI d → m_X2_addAll_L2 t o f (nI d) g = some (shX g t o d rk) := by
  intro m
  induction m with
  | zero =>
    intro d f g hd hf h4o h4t
    obtain ⟨f, rfl⟩ : ∃ f2, f = f2 + 1 := ⟨f - 1, by omega⟩
    rw [m_X2_addAll_L2, h4o, if_pos (nI_le (by omega) (by omega))]
    congr 1
    refine Prod.ext (funext fun c => funext fun o2 => funext fun j => ?_) rfl
    rw [shX_1, if_neg (by omega)]
    by_cases q : c = 4 ∧ o2 = t ∧ j = 0
    · obtain ⟨rfl, rfl, rfl⟩ := q
      rw [if_pos ⟨rfl, rfl, rfl⟩, h4t, show d = rk by omega]
    · rw [if_neg q]
  | succ m ih =>
    intro d f g hd hf h4o h4t
    obtain ⟨f, rfl⟩ : ∃ f2, f = f2 + 1 := ⟨f - 1, by omega⟩
    rw [m_X2_addAll_L2, h4o, if_neg (nI_ge (by omega) (by omega))]
    simp only [chk_t (inb_m (show d < 3 by omega) (by omega)), nI_clamp (show d < 2 ^ 31 by omega), X2_add ht (show d < 3 by omega) h4t, Option.bind_some, lett, nI_1]
    rw [ih (d + 1) f _ (by omega) (by omega) (by simp [gI, hto, h4o]) (by simp [gI])]
    congr 1
    refine Prod.ext (funext fun c => funext fun o2 => funext fun j => ?_) rfl
    rw [shX_1, shX_1]
    simp only [gI]
    grind
def niX (g : Gs) (a : Nat) (kd : Int32) (o rk : Nat) : Gs := shX (naX g a kd) (a + 1) o 0 rk
theorem niX_1 {g : Gs} {a o rk : Nat} {kd : Int32} (ho : o ≠ a + 1) (c o2 j : Nat) : (niX g a kd o rk).1 c o2 j = if (c = 5 ∨ c = 6) ∧ o2 = a + 1 ∧ j < rk then g.1 c o j else if c = 4 ∧ o2 = a + 1 ∧ j = 0 then nI rk else if c = 17 ∧ o2 = a ∧ j = 0 then -1 else if c = 16 ∧ o2 = a ∧ j = 0 then kd else if c = 0 ∧ o2 = 0 ∧ j = 0 then nI (a + 1) else g.1 c o2 j := by
  rw [niX, shX_1, naX_1, naX_1]
  grind
theorem niX_2 (g : Gs) (a : Nat) (kd : Int32) (o rk : Nat) : (niX g a kd o rk).2 = g.2 := rfl
theorem nextIn {g : Gs} {a o rk : Nat} (h0 : g.1 0 0 0 = nI a) (ha : a < 24) (ho : o < 25) (hoa : o ≠ a + 1) (hrk : rk ≤ 3) (h4 : g.1 4 o 0 = nI rk) (kd : Int32) : m_X4_nextArrayIn o kd g = some (a, niX g a kd o rk) := by
  have h := addAll_L (t := a + 1) (o := o) (rk := rk) (by omega) hoa hrk rk 0 FU (naX g a kd) (by omega) (FU_big (by omega)) (by rw [naX_1, if_neg (by omega), if_neg (by omega), if_neg (by omega), if_neg (by omega)]; exact h4) (by rw [naX_1, if_pos ⟨rfl, rfl, rfl⟩]; rfl)
  rw [nl0] at h
  simp only [m_X4_nextArrayIn, chk_t ho, nextArray h0 ha, Option.bind_some, chk_t ha, m_X2_addAll, chk_t (show a + 1 < 25 by omega), lett, h]
  rfl
/-- items -/
theorem cap_mul (x l : Nat) : min 501 (min 501 x * l) = min 501 (x * l) := by
  by_cases h : x ≤ 501
  · rw [Nat.min_eq_right h]
  · rw [Nat.min_eq_left (show 501 ≤ x by omega)]
    rcases Nat.eq_zero_or_pos l with rfl | hl
    · simp
    · have h1 : 501 * 1 ≤ 501 * l := Nat.mul_le_mul_left _ hl
      have h2 : 501 * l ≤ x * l := Nat.mul_le_mul_right _ (by omega)
      omega
theorem items_L {g : Gs} {o rk : Nat} (ho : o < 25) (hrk : rk ≤ 3) (h4 : g.1 4 o 0 = nI rk) : ∀ m d f Y, d + m = rk → m < f → min 501 Y = min 501 (itN g o d) → Y ≤ 501 * 2 ^ 32 → ∃ Y2, m_X2_items_L4 o g f (lN Y) (nI d) = some (lN Y2) ∧ min 501 Y2 = min 501 (itN g o rk) ∧ Y2 ≤ 501 * 2 ^ 32 := by
  intro m
  induction m with
  | zero =>
    intro d f Y hd hf hY hY2
    obtain ⟨f, rfl⟩ : ∃ f2, f = f2 + 1 := ⟨f - 1, by omega⟩
    rw [m_X2_items_L4, h4, if_pos (nI_le (by omega) (by omega))]
    exact ⟨Y, rfl, by rw [hY, show d = rk by omega], hY2⟩
  | succ m ih =>
    intro d f Y hd hf hY hY2
    obtain ⟨f, rfl⟩ : ∃ f2, f = f2 + 1 := ⟨f - 1, by omega⟩
    have hl := lenN_lt (g.1 5 o d) (g.1 6 o d)
    have hc : (if (501 : Int64) < lN Y then (501 : Int64) else lN Y) = lN (min 501 Y) := by
      rw [show (501 : Int64) = lN 501 from rfl]
      by_cases q : 501 < Y
      · rw [if_pos ((pk_lLT (by omega) (by omega)).mpr q), Nat.min_eq_left (by omega)]
      · rw [if_neg (fun z => q ((pk_lLT (by omega) (by omega)).mp z)), Nat.min_eq_right (by omega)]
    rw [m_X2_items_L4, h4, if_neg (nI_ge (by omega) (by omega)), X2_length_in ho (by omega) hrk h4]
    simp only [Option.bind_some, lett, hc, lN_mul, nI_1]
    refine ih (d + 1) f _ (by omega) (by omega) ?_ ?_
    · rw [cap_mul]
      show _ = min 501 (itN g o d * lenN (g.1 5 o d) (g.1 6 o d))
      rw [← cap_mul Y, ← cap_mul (itN g o d), hY]
    · exact Nat.mul_le_mul (by omega) hl
theorem X2_items {g : Gs} {o rk : Nat} (ho : o < 25) (hrk : rk ≤ 3) (h4 : g.1 4 o 0 = nI rk) : m_X2_items o g = some (nI (min 501 (itN g o rk))) := by
  obtain ⟨Y, e, h1, h2⟩ := items_L ho hrk h4 rk 0 FU 1 (by omega) (FU_big (by omega)) rfl (by omega)
  rw [nl0] at e
  have e1 : m_X2_items_L4 o g FU (1 : Int64) 0 = some (lN Y) := e
  simp only [m_X2_items, chk_t ho, lett, e1, Option.bind_some]
  rw [← h1, show (501 : Int64) = lN 501 from rfl]
  by_cases q : 501 < Y
  · rw [if_pos ((pk_lLT (by omega) (by omega)).mpr q), Nat.min_eq_left (by omega), lN_i]
  · rw [if_neg (fun z => q ((pk_lLT (by omega) (by omega)).mp z)), Nat.min_eq_right (by omega), lN_i]
theorem prN_pos {lo hi : Nat → Int32} {d : Nat} : prN lo hi (d + 1) = prN lo hi d * lenN (lo d) (hi d) := rfl
theorem shapeItems_L {g : Gs} {rk : Nat} {lo hi : Nat → Int32} (hrk : rk ≤ 3) (h22 : g.1 22 0 0 = nI rk) (hlo : ∀ j, j < 3 → g.1 23 0 j = lo j ∧ g.1 24 0 j = hi j) : ∀ m d f (b : Bool) Y, d + m = rk → m < f → (b = true → prN lo hi d = 0) → (b = false → Y = min 501 (prN lo hi d) ∧ 0 < prN lo hi d) → Y ≤ 501 → ∃ (b2 : Bool) (Y2 : Nat), m_X5_shapeItems_L7 g f (if b then 1 else 0) (lN Y) (nI d) = some (if b2 then 1 else 0, lN Y2) ∧ (b2 = true → prN lo hi rk = 0) ∧ (b2 = false → Y2 = min 501 (prN lo hi rk) ∧ 0 < prN lo hi rk) := by
  intro m
  induction m with
  | zero =>
    intro d f b Y hd hf hb1 hb0 hY
    obtain ⟨f, rfl⟩ : ∃ f2, f = f2 + 1 := ⟨f - 1, by omega⟩
    have : d = rk := by omega
    subst this
    rw [m_X5_shapeItems_L7, h22, if_pos (nI_le (by omega) (by omega))]
    exact ⟨b, Y, rfl, hb1, hb0⟩
  | succ m ih =>
    intro d f b Y hd hf hb1 hb0 hY
    obtain ⟨f, rfl⟩ : ∃ f2, f = f2 + 1 := ⟨f - 1, by omega⟩
    have hl := lenN_lt (lo d) (hi d)
    obtain ⟨e1, e2⟩ := hlo d (by omega)
    rw [m_X5_shapeItems_L7, h22, if_neg (nI_ge (by omega) (by omega))]
    simp only [chk_t (inb_m (show d < 3 by omega) (by omega)), nI_clamp (show d < 2 ^ 31 by omega), e1, e2, X5_length, Option.bind_some, lett, lg_cmp_eq, lg_cmp_le, lN_mul, nI_1]
    have hYl : Y * lenN (lo d) (hi d) ≤ 501 * 2 ^ 32 := Nat.mul_le_mul hY hl
    have key : ∀ b2 : Bool, (b2 = true → prN lo hi (d + 1) = 0) → (b2 = false → min 501 (Y * lenN (lo d) (hi d)) = min 501 (prN lo hi (d + 1)) ∧ 0 < prN lo hi (d + 1)) → ∃ (b3 : Bool) (Y2 : Nat), (if lN (Y * lenN (lo d) (hi d)) ≤ (500 : Int64) then m_X5_shapeItems_L7 g f (if b2 then 1 else 0) (lN (Y * lenN (lo d) (hi d))) (nI (d + 1)) else m_X5_shapeItems_L7 g f (if b2 then 1 else 0) (501 : Int64) (nI (d + 1))) = some (if b3 then 1 else 0, lN Y2) ∧ (b3 = true → prN lo hi rk = 0) ∧ (b3 = false → Y2 = min 501 (prN lo hi rk) ∧ 0 < prN lo hi rk) := by
      intro b2 q1 q0
      by_cases hq : Y * lenN (lo d) (hi d) ≤ 500
      · rw [if_pos (show lN (Y * lenN (lo d) (hi d)) ≤ (500 : Int64) from (pk_lLE (b := 500) (by omega) (by omega)).mpr hq)]
        exact ih (d + 1) f b2 _ (by omega) (by omega) q1 (fun z => ⟨by have := (q0 z).1; omega, (q0 z).2⟩) (by omega)
      · rw [if_neg (show ¬ lN (Y * lenN (lo d) (hi d)) ≤ (500 : Int64) from fun z => hq ((pk_lLE (b := 500) (by omega) (by omega)).mp z))]
        exact ih (d + 1) f b2 501 (by omega) (by omega) q1 (fun z => ⟨by have := (q0 z).1; omega, (q0 z).2⟩) (by omega)
    cases b with
    | true =>
      have := key true (fun _ => by rw [prN_pos, hb1 rfl, Nat.zero_mul]) (fun z => absurd z (by decide))
      simpa using this
    | false =>
      obtain ⟨hY1, hpos⟩ := hb0 rfl
      by_cases hz : lenN (lo d) (hi d) = 0
      · have hz2 : lN (lenN (lo d) (hi d)) = 0 := by rw [hz]; rfl
        have := key true (fun _ => by rw [prN_pos, hz, Nat.mul_zero]) (fun z => absurd z (by decide))
        simpa [hz2] using this
      · have hz2 : ¬ lN (lenN (lo d) (hi d)) = 0 := fun z => hz ((pk_lEQ (b := 0) (by omega) (by omega)).mp z)
        have := key false (fun z => absurd z (by decide)) (fun _ => ⟨by rw [hY1, cap_mul]; rfl, by rw [prN_pos]; exact Nat.mul_pos hpos (by omega)⟩)
        simpa [hz2] using this
theorem X5_shapeItems {g : Gs} {rk : Nat} {lo hi : Nat → Int32} (hrk : rk ≤ 3) (h22 : g.1 22 0 0 = nI rk) (hlo : ∀ j, j < 3 → g.1 23 0 j = lo j ∧ g.1 24 0 j = hi j) : m_X5_shapeItems g = some (nI (min 501 (prN lo hi rk))) := by
  obtain ⟨b2, Y2, e, h1, h0⟩ := shapeItems_L hrk h22 hlo rk 0 FU false 1 (by omega) (FU_big (by omega)) (fun z => absurd z (by decide)) (fun _ => ⟨rfl, Nat.one_pos⟩) (by decide)
  rw [nl0] at e
  have e1 : m_X5_shapeItems_L7 g FU 0 1 0 = some (if b2 then 1 else 0, lN Y2) := e
  simp only [m_X5_shapeItems, m_X5_shapeItems_J89, lett, e1, Option.bind_some]
  cases b2 with
  | true =>
    rw [h1 rfl]
    rfl
  | false =>
    rw [← (h0 rfl).1]
    simp [lN_i]
theorem prN_congr {lo hi lo2 hi2 : Nat → Int32} : ∀ d, (∀ e, e < d → lo2 e = lo e ∧ hi2 e = hi e) → prN lo2 hi2 d = prN lo hi d := by
  intro d
  induction d with
  | zero => intro _; rfl
  | succ d ih =>
    intro h
    rw [prN_pos, prN_pos, ih (fun e he => h e (by omega)), (h d (by omega)).1, (h d (by omega)).2]
/-- a row of its own -/
theorem ownRow {g : Gs} {a R P N rk kd : Nat} (ha : a < 24) (hkd : kd ≤ 4) (hrk : rk ≤ 3) (h16 : g.1 16 a 0 = nI kd) (h4 : g.1 4 (a + 1) 0 = nI rk) (hit : itN g (a + 1) rk = N) (hN : N ≤ 500) (h12 : g.1 12 0 0 = nI R) (h11 : g.1 11 0 0 = nI P) (hR : R < g.2.2 11) (hR2 : g.2.2 12 = g.2.2 11) (h9 : P + N ≤ g.2.2 9) (h10 : g.2.2 10 = g.2.2 9) (hP : P ≤ 100000) (hr : R ≤ 100000) : m_X4_addOwnRow a g = some (sI (arX g R P N (if kd = 3 then 0 else 1)) 17 a 0 (nI R)) := by
  have hi := X2_items (g := g) (o := a + 1) (rk := rk) (by omega) hrk h4
  rw [hit, Nat.min_eq_right (by omega)] at hi
  have k3 : nI kd = (3 : Int32) ↔ kd = 3 := k4_iff hkd (by omega) (show (3 : Int32) = nI 3 from rfl)
  have hA := fun f => addRow_e (g := g) (R := R) (P := P) (N := N) (f := f) h12 h11 hR (by omega) h9 h10 (by omega) (by omega) (by omega)
  simp only [m_X4_addOwnRow, m_X4_addOwnRow_J25, chk_t ha, hi, Option.bind_some, h16, hA, lett, nar0, nar1]
  by_cases q : kd = 3
  · rw [if_pos (k3.mpr q), if_pos q]
  · rw [if_neg (fun z => q (k3.mp z)), if_neg q]
/-- the reference's new array -/
def lhM (g : Gs) (a : Nat) (lo hi : Nat → Int32) (d : Nat) : Gs := (fun c o j => if c = 29 ∧ o = 0 ∧ 3 * a + d ≤ j ∧ j < 3 * a + 3 then hi (j - 3 * a) else if c = 28 ∧ o = 0 ∧ 3 * a + d ≤ j ∧ j < 3 * a + 3 then lo (j - 3 * a) else g.1 c o j, g.2)
theorem lhM_1 (g : Gs) (a : Nat) (lo hi : Nat → Int32) (d c o j : Nat) : (lhM g a lo hi d).1 c o j = if c = 29 ∧ o = 0 ∧ 3 * a + d ≤ j ∧ j < 3 * a + 3 then hi (j - 3 * a) else if c = 28 ∧ o = 0 ∧ 3 * a + d ≤ j ∧ j < 3 * a + 3 then lo (j - 3 * a) else g.1 c o j := rfl
theorem newArray_L {a : Nat} {x2 : Int32} {lo hi : Nat → Int32} (ha : a < 24) : ∀ m d f g, d + m = 3 → m < f → g.1 25 0 0 = nI a → ((x2 = -1 ∧ ∀ e, e < 3 → g.1 23 0 e = lo e ∧ g.1 24 0 e = hi e) ∨ (∃ b, b < a ∧ x2 = nI b ∧ ∀ e, e < 3 → g.1 28 0 (3 * b + e) = lo e ∧ g.1 29 0 (3 * b + e) = hi e)) → m_X5_newArray_L39 x2 f (nI d) g = some (lhM g a lo hi d) := by
  intro m
  induction m with
  | zero =>
    intro d f g hd hf h25 hrd
    obtain ⟨f, rfl⟩ : ∃ f2, f = f2 + 1 := ⟨f - 1, by omega⟩
    rw [m_X5_newArray_L39, if_pos (show (3 : Int32) ≤ nI d from nI_le (a := 3) (by omega) (by omega))]
    congr 1
    refine Prod.ext (funext fun c => funext fun o => funext fun j => ?_) rfl
    rw [lhM_1, if_neg (by omega), if_neg (by omega)]
  | succ m ih =>
    intro d f g hd hf h25 hrd
    obtain ⟨f, rfl⟩ : ∃ f2, f = f2 + 1 := ⟨f - 1, by omega⟩
    have fin : lhM (sI (sI g 28 0 (3 * a + d) (lo d)) 29 0 (3 * a + d) (hi d)) a lo hi (d + 1) = lhM g a lo hi d := by
      refine Prod.ext (funext fun c => funext fun o => funext fun j => ?_) rfl
      rw [lhM_1, lhM_1, gI, gI]
      by_cases hj : j = 3 * a + d
      · subst hj
        rw [show 3 * a + d - 3 * a = d by omega]
        grind
      · grind
    have c72 := inb_m (show 3 * a + d < 72 by omega) (by omega)
    have q72 := nI_clamp (show 3 * a + d < 2 ^ 31 by omega)
    have i3 := ix3 (i := a) (d := d) ha (by omega)
    rw [m_X5_newArray_L39, if_neg (show ¬ (3 : Int32) ≤ nI d from nI_ge (b := 3) (by omega) (by omega))]
    rcases hrd with ⟨hx, hlo⟩ | ⟨b, hb, hx, hlo⟩
    · have e25 : (sI g 28 0 (3 * a + d) (lo d)).1 25 0 0 = nI a := h25
      have e24 : (sI g 28 0 (3 * a + d) (lo d)).1 24 0 d = hi d := (hlo d (by omega)).2
      simp only [if_pos hx, h25, i3, chk_t c72, q72, chk_t (inb_m (show d < 3 by omega) (by omega)), nI_clamp (show d < 2 ^ 31 by omega), (hlo d (by omega)).1, lett, e25, e24, nI_1]
      rw [ih (d + 1) f (sI (sI g 28 0 (3 * a + d) (lo d)) 29 0 (3 * a + d) (hi d)) (by omega) (by omega) h25 (Or.inl ⟨hx, hlo⟩), fin]
    · have hxn : ¬ x2 = -1 := by rw [hx]; exact nI_ne_m1 (by omega)
      have j3 := ix3 (i := b) (d := d) (by omega) (by omega)
      have d72 := inb_m (show 3 * b + d < 72 by omega) (by omega)
      have p72 := nI_clamp (show 3 * b + d < 2 ^ 31 by omega)
      have e25 : (sI g 28 0 (3 * a + d) (lo d)).1 25 0 0 = nI a := h25
      have e29 : (sI g 28 0 (3 * a + d) (lo d)).1 29 0 (3 * b + d) = hi d := (hlo d (by omega)).2
      simp only [if_neg hxn, h25, i3, chk_t c72, q72]
      simp only [hx, j3, chk_t d72, p72, (hlo d (by omega)).1, lett, e25, i3, chk_t c72, q72, e29, nI_1]
      rw [← hx, ih (d + 1) f (sI (sI g 28 0 (3 * a + d) (lo d)) 29 0 (3 * a + d) (hi d)) (by omega) (by omega) h25 (Or.inr ⟨b, hb, hx, fun e he => ?_⟩), fin]
      have hh := hlo e he
      rw [gI, if_neg (by omega), gI, if_neg (by omega), gI, if_neg (by omega), gI, if_neg (by omega)]
      exact hh
def naM (g : Gs) (a : Nat) (kd rk : Int32) (lo hi : Nat → Int32) : Gs := sI (lhM (sI (sI g 26 0 a kd) 27 0 a rk) a lo hi 0) 25 0 0 (nI (a + 1))
theorem naM_1 (g : Gs) (a : Nat) (kd rk : Int32) (lo hi : Nat → Int32) (c o j : Nat) : (naM g a kd rk lo hi).1 c o j = if c = 25 ∧ o = 0 ∧ j = 0 then nI (a + 1) else if c = 29 ∧ o = 0 ∧ 3 * a ≤ j ∧ j < 3 * a + 3 then hi (j - 3 * a) else if c = 28 ∧ o = 0 ∧ 3 * a ≤ j ∧ j < 3 * a + 3 then lo (j - 3 * a) else if c = 27 ∧ o = 0 ∧ j = a then rk else if c = 26 ∧ o = 0 ∧ j = a then kd else g.1 c o j := by
  rw [naM, gI, lhM_1, gI, gI]
  rfl
theorem naM_2 (g : Gs) (a : Nat) (kd rk : Int32) (lo hi : Nat → Int32) : (naM g a kd rk lo hi).2 = g.2 := rfl
theorem newArr0 {g : Gs} {a : Nat} {lo hi : Nat → Int32} {rk : Int32} (h25 : g.1 25 0 0 = nI a) (ha : a < 24) (h22 : g.1 22 0 0 = rk) (hlo : ∀ e, e < 3 → g.1 23 0 e = lo e ∧ g.1 24 0 e = hi e) (kd : Int32) : m_X5_newArray kd (-1) g = some (nI a, naM g a kd rk lo hi) := by
  have e25 : (sI g 26 0 a kd).1 25 0 0 = nI a := h25
  have e22 : (sI g 26 0 a kd).1 22 0 0 = rk := h22
  have hL := newArray_L (a := a) (x2 := -1) (lo := lo) (hi := hi) ha 3 0 FU (sI (sI g 26 0 a kd) 27 0 a rk) (by omega) (FU_big (by omega)) h25 (Or.inl ⟨rfl, hlo⟩)
  rw [nl0] at hL
  have f25 : (lhM (sI (sI g 26 0 a kd) 27 0 a rk) a lo hi 0).1 25 0 0 = nI a := h25
  have f25b : (sI (lhM (sI (sI g 26 0 a kd) 27 0 a rk) a lo hi 0) 25 0 0 (nI (a + 1))).1 25 0 0 = nI (a + 1) := rfl
  simp only [m_X5_newArray, m_X5_newArray_J36, lett, h25, chk_t (inb_m ha (by omega)), nI_clamp (show a < 2 ^ 31 by omega), if_true, e25, e22, hL, Option.bind_some, f25, nI_1, f25b, nI_pred]
  rfl
theorem newArrB {g : Gs} {a b : Nat} {lo hi : Nat → Int32} {rk : Int32} (h25 : g.1 25 0 0 = nI a) (ha : a < 24) (hb : b < a) (h27 : g.1 27 0 b = rk) (hlo : ∀ e, e < 3 → g.1 28 0 (3 * b + e) = lo e ∧ g.1 29 0 (3 * b + e) = hi e) (kd : Int32) : m_X5_newArray kd (nI b) g = some (nI a, naM g a kd rk lo hi) := by
  have e25 : (sI g 26 0 a kd).1 25 0 0 = nI a := h25
  have e27 : (sI g 26 0 a kd).1 27 0 b = rk := h27
  have hL := newArray_L (a := a) (x2 := nI b) (lo := lo) (hi := hi) ha 3 0 FU (sI (sI g 26 0 a kd) 27 0 a rk) (by omega) (FU_big (by omega)) h25 (Or.inr ⟨b, hb, rfl, hlo⟩)
  rw [nl0] at hL
  have f25 : (lhM (sI (sI g 26 0 a kd) 27 0 a rk) a lo hi 0).1 25 0 0 = nI a := h25
  have f25b : (sI (lhM (sI (sI g 26 0 a kd) 27 0 a rk) a lo hi 0) 25 0 0 (nI (a + 1))).1 25 0 0 = nI (a + 1) := rfl
  simp only [m_X5_newArray, m_X5_newArray_J36, lett, h25, chk_t (inb_m ha (by omega)), nI_clamp (show a < 2 ^ 31 by omega), if_neg (nI_ne_m1 (show b < 2 ^ 31 by omega)), chk_t (inb_m (show b < 24 by omega) (by omega)), nI_clamp (show b < 2 ^ 31 by omega), e25, e27, hL, Option.bind_some, f25, nI_1, f25b, nI_pred]
  rfl
/-- room -/
theorem room_full {g : Gs} (h0 : g.1 0 0 0 = nI 24) (x y : Int32) : m_X4_hasRoom x y g = some (0, g, 0, 0) := by
  simp only [m_X4_hasRoom, m_X4_hasRoom_J25, m_X4_hasRoom_J26, h0, if_pos (show (24 : Int32) ≤ nI 24 by decide)]
  rfl
theorem room {a R P S n : Nat} {bx : Nat → Bool} {so : Nat → Nat} {g : Gs} (C : Core a R P S bx so n g) (ha : a < 24) {x y : Nat} (hx : R + x ≤ 12512) (hy : P + y ≤ 63200) : ∃ g2 ca cb, m_X4_hasRoom (nI x) (nI y) g = some (1, g2, ca, cb) ∧ Grw R P (R + x) (P + y) g g2 ca cb := by
  obtain ⟨g2, ca, cb, e, G⟩ := reserve C hx hy
  refine ⟨g2, ca, cb, ?_, G⟩
  simp only [m_X4_hasRoom, m_X4_hasRoom_J25, m_X4_hasRoom_J26, C.2.1.1, if_neg (show ¬ (24 : Int32) ≤ nI a from nI_ge (b := 24) ha (by decide)), e, Option.bind_some, if_neg n10]
  rfl
