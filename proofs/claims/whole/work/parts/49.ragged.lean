/-! PURE: a new row, items of a shape; ragged. -/
def zX (g : Gs) (lo hi : Nat) (f : Int32) : Gs := (fun c o j => if c = 13 ∧ o = 0 ∧ lo ≤ j ∧ j < hi then f else g.1 c o j, fun c j => if c = 0 ∧ lo ≤ j ∧ j < hi then 0 else g.2.1 c j, g.2.2)
def zM (g : Gs) (lo hi : Nat) : Gs := (fun c o j => if c = 36 ∧ o = 0 ∧ lo ≤ j ∧ j < hi then 0 else g.1 c o j, fun c j => if c = 2 ∧ lo ≤ j ∧ j < hi then 0 else g.2.1 c j, g.2.2)
theorem zX_1 (g : Gs) (lo hi : Nat) (f : Int32) (c o j : Nat) : (zX g lo hi f).1 c o j = if c = 13 ∧ o = 0 ∧ lo ≤ j ∧ j < hi then f else g.1 c o j := rfl
theorem zX_2 (g : Gs) (lo hi : Nat) (f : Int32) (c j : Nat) : (zX g lo hi f).2.1 c j = if c = 0 ∧ lo ≤ j ∧ j < hi then 0 else g.2.1 c j := rfl
theorem zX_3 (g : Gs) (lo hi : Nat) (f : Int32) : (zX g lo hi f).2.2 = g.2.2 := rfl
theorem zM_1 (g : Gs) (lo hi : Nat) (c o j : Nat) : (zM g lo hi).1 c o j = if c = 36 ∧ o = 0 ∧ lo ≤ j ∧ j < hi then 0 else g.1 c o j := rfl
theorem zM_2 (g : Gs) (lo hi : Nat) (c j : Nat) : (zM g lo hi).2.1 c j = if c = 2 ∧ lo ≤ j ∧ j < hi then 0 else g.2.1 c j := rfl
theorem zM_3 (g : Gs) (lo hi : Nat) : (zM g lo hi).2.2 = g.2.2 := rfl
theorem zX_nil (g : Gs) (lo : Nat) (f : Int32) : zX g lo lo f = g := by
  refine Prod.ext (funext fun c => funext fun o => funext fun j => ?_) (Prod.ext (funext fun c => funext fun j => ?_) rfl)
  · rw [zX_1, if_neg (by omega)]
  · rw [zX_2, if_neg (by omega)]
theorem zM_nil (g : Gs) (lo : Nat) : zM g lo lo = g := by
  refine Prod.ext (funext fun c => funext fun o => funext fun j => ?_) (Prod.ext (funext fun c => funext fun j => ?_) rfl)
  · rw [zM_1, if_neg (by omega)]
  · rw [zM_2, if_neg (by omega)]
theorem zX_step {g : Gs} {lo hi : Nat} {f : Int32} (h : lo < hi) : zX (sI (sL g 0 lo 0) 13 0 lo f) (lo + 1) hi f = zX g lo hi f := by
  refine Prod.ext (funext fun c => funext fun o => funext fun j => ?_) (Prod.ext (funext fun c => funext fun j => ?_) rfl)
  · rw [zX_1, zX_1, gI, gL1]
    grind
  · rw [zX_2, zX_2, gI1, gL]
    grind
theorem zM_step {g : Gs} {lo hi : Nat} (h : lo < hi) : zM (sI (sL g 2 lo 0) 36 0 lo 0) (lo + 1) hi = zM g lo hi := by
  refine Prod.ext (funext fun c => funext fun o => funext fun j => ?_) (Prod.ext (funext fun c => funext fun j => ?_) rfl)
  · rw [zM_1, zM_1, gI, gL1]
    grind
  · rw [zM_2, zM_2, gI1, gL]
    grind
theorem addRow_L {P N : Nat} {f x3 : Int32} (hP : P + N < 2 ^ 31) : ∀ m i fu g, i + m = N → m < fu → g.1 11 0 0 = nI P → P + N ≤ g.2.2 9 → g.2.2 10 = g.2.2 9 → m_X3_addRow_L28 (nI N) f x3 fu (nI (P + i)) g = some (zX g (P + i) (P + N) (vp_nar .boolean f)) := by
  intro m
  induction m with
  | zero =>
    intro i fu g hi hf h11 h9 h10
    obtain ⟨fu, rfl⟩ : ∃ f2, fu = f2 + 1 := ⟨fu - 1, by omega⟩
    rw [m_X3_addRow_L28, h11, nI_add, if_pos (nI_le (by omega) (by omega)), show P + i = P + N by omega, zX_nil]
  | succ m ih =>
    intro i fu g hi hf h11 h9 h10
    obtain ⟨fu, rfl⟩ : ∃ f2, fu = f2 + 1 := ⟨fu - 1, by omega⟩
    rw [m_X3_addRow_L28, h11, nI_add, if_neg (nI_ge (by omega) (by omega))]
    simp only [lett, chk_t (inb_m (show P + i < g.2.2 9 by omega) (by omega)), nI_clamp (show P + i < 2 ^ 31 by omega), gL2, chk_t (inb_m (show P + i < g.2.2 10 by omega) (by omega)), nI_1]
    have := ih (i + 1) fu (sI (sL g 0 (P + i) 0) 13 0 (P + i) (vp_nar .boolean f)) (by omega) (by omega) h11 h9 h10
    rw [← Nat.add_assoc] at this
    rw [this, zX_step (by omega)]
theorem newRow_L {P N : Nat} (hP : P + N ≤ 300000) : ∀ m i fu g, i + m = N → m < fu → g.1 34 0 0 = nI P → m_X5_newRow_L25 (nI N) fu (nI i) g = some (zM g (P + i) (P + N)) := by
  intro m
  induction m with
  | zero =>
    intro i fu g hi hf h34
    obtain ⟨fu, rfl⟩ : ∃ f2, fu = f2 + 1 := ⟨fu - 1, by omega⟩
    rw [m_X5_newRow_L25, if_pos (nI_le (by omega) (by omega)), show P + i = P + N by omega, zM_nil]
  | succ m ih =>
    intro i fu g hi hf h34
    obtain ⟨fu, rfl⟩ : ∃ f2, fu = f2 + 1 := ⟨fu - 1, by omega⟩
    rw [m_X5_newRow_L25, if_neg (nI_ge (by omega) (by omega))]
    have h34b : (sL g 2 (P + i) 0).1 34 0 0 = nI P := h34
    simp only [lett, h34, h34b, nI_add, chk_t (inb_m (show P + i < 300000 by omega) (by omega)), nI_clamp (show P + i < 2 ^ 31 by omega), nI_1, nar0]
    have := ih (i + 1) fu (sI (sL g 2 (P + i) 0) 36 0 (P + i) 0) (by omega) (by omega) h34
    rw [← Nat.add_assoc] at this
    rw [this, zM_step (by omega)]
def arX (g : Gs) (R P N : Nat) (f : Int32) : Gs := sI (sI (zX (sI (sI g 14 0 R (nI P)) 15 0 R (nI N)) P (P + N) f) 12 0 0 (nI (R + 1))) 11 0 0 (nI (P + N))
def arM (g : Gs) (R P N : Nat) : Gs := sI (sI (zM (sI (sI g 32 0 R (nI P)) 33 0 R (nI N)) P (P + N)) 34 0 0 (nI (P + N))) 31 0 0 (nI (R + 1))
theorem arX_1 (g : Gs) (R P N : Nat) (f : Int32) (c o j : Nat) : (arX g R P N f).1 c o j = if c = 11 ∧ o = 0 ∧ j = 0 then nI (P + N) else if c = 12 ∧ o = 0 ∧ j = 0 then nI (R + 1) else if c = 13 ∧ o = 0 ∧ P ≤ j ∧ j < P + N then f else if c = 15 ∧ o = 0 ∧ j = R then nI N else if c = 14 ∧ o = 0 ∧ j = R then nI P else g.1 c o j := by
  rw [arX, gI, gI, zX_1, gI, gI]
theorem arX_2 (g : Gs) (R P N : Nat) (f : Int32) (c j : Nat) : (arX g R P N f).2.1 c j = if c = 0 ∧ P ≤ j ∧ j < P + N then 0 else g.2.1 c j := rfl
theorem arX_3 (g : Gs) (R P N : Nat) (f : Int32) : (arX g R P N f).2.2 = g.2.2 := rfl
theorem arM_1 (g : Gs) (R P N : Nat) (c o j : Nat) : (arM g R P N).1 c o j = if c = 31 ∧ o = 0 ∧ j = 0 then nI (R + 1) else if c = 34 ∧ o = 0 ∧ j = 0 then nI (P + N) else if c = 36 ∧ o = 0 ∧ P ≤ j ∧ j < P + N then 0 else if c = 33 ∧ o = 0 ∧ j = R then nI N else if c = 32 ∧ o = 0 ∧ j = R then nI P else g.1 c o j := by
  rw [arM, gI, gI, zM_1, gI, gI]
theorem arM_2 (g : Gs) (R P N : Nat) (c j : Nat) : (arM g R P N).2.1 c j = if c = 2 ∧ P ≤ j ∧ j < P + N then 0 else g.2.1 c j := rfl
theorem arM_3 (g : Gs) (R P N : Nat) : (arM g R P N).2.2 = g.2.2 := rfl
theorem arX_f {g : Gs} {R P N : Nat} {f : Int32} {c : Nat} (o : Nat) (h : c ≠ 11 ∧ c ≠ 12 ∧ c ≠ 13 ∧ c ≠ 14 ∧ c ≠ 15) : (arX g R P N f).1 c o = g.1 c o := by
  funext j
  rw [arX_1, if_neg (by omega), if_neg (by omega), if_neg (by omega), if_neg (by omega), if_neg (by omega)]
theorem arX_l {g : Gs} {R P N : Nat} {f : Int32} {c : Nat} (h : c ≠ 0) : (arX g R P N f).2.1 c = g.2.1 c := by
  funext j
  rw [arX_2, if_neg (by omega)]
theorem arM_f {g : Gs} {R P N : Nat} {c : Nat} (o : Nat) (h : c ≠ 31 ∧ c ≠ 32 ∧ c ≠ 33 ∧ c ≠ 34 ∧ c ≠ 36) : (arM g R P N).1 c o = g.1 c o := by
  funext j
  rw [arM_1, if_neg (by omega), if_neg (by omega), if_neg (by omega), if_neg (by omega), if_neg (by omega)]
theorem arM_l {g : Gs} {R P N : Nat} {c : Nat} (h : c ≠ 2) : (arM g R P N).2.1 c = g.2.1 c := by
  funext j
  rw [arM_2, if_neg (by omega)]
theorem addRow_e {g : Gs} {R P N : Nat} {f : Int32} (h12 : g.1 12 0 0 = nI R) (h11 : g.1 11 0 0 = nI P) (hR : R < g.2.2 11) (hR2 : R < g.2.2 12) (h9 : P + N ≤ g.2.2 9) (h10 : g.2.2 10 = g.2.2 9) (hP : P + N < 2 ^ 31) (hr : R < 2 ^ 31) (hN : N ≤ 60000) : m_X3_addRow (nI N) f g = some (nI R, arX g R P N (vp_nar .boolean f)) := by
  have q11 : (sI (sI g 14 0 R (nI P)) 15 0 R (nI N)).1 11 0 0 = nI P := h11
  have hL := addRow_L (P := P) (N := N) (f := f) (x3 := nI R) hP N 0 FU (sI (sI g 14 0 R (nI P)) 15 0 R (nI N)) (by omega) (FU_big (by omega)) q11 h9 h10
  rw [Nat.add_zero] at hL
  have r12 : (zX (sI (sI g 14 0 R (nI P)) 15 0 R (nI N)) P (P + N) (vp_nar .boolean f)).1 12 0 0 = nI R := h12
  have r11 : (sI (zX (sI (sI g 14 0 R (nI P)) 15 0 R (nI N)) P (P + N) (vp_nar .boolean f)) 12 0 0 (nI (R + 1))).1 11 0 0 = nI P := h11
  simp only [m_X3_addRow, lett, h12, chk_t (inb_m hR hr), nI_clamp hr, h11, gI1, chk_t (inb_m hR2 hr), q11, hL, Option.bind_some, r12, nI_1, r11, nI_add]
  rfl
theorem newRow_e {g : Gs} {R P N : Nat} (h31 : g.1 31 0 0 = nI R) (h34 : g.1 34 0 0 = nI P) (hR : R < 13000) (hP : P + N ≤ 300000) (hN : N ≤ 60000) : m_X5_newRow (nI N) g = some (nI R, arM g R P N) := by
  have q31 : (sI g 32 0 R (nI P)).1 31 0 0 = nI R := h31
  have q34 : (sI (sI g 32 0 R (nI P)) 33 0 R (nI N)).1 34 0 0 = nI P := h34
  have hL := newRow_L (P := P) (N := N) hP N 0 FU (sI (sI g 32 0 R (nI P)) 33 0 R (nI N)) (by omega) (FU_big (by omega)) q34
  rw [Nat.add_zero, nl0] at hL
  have r34 : (zM (sI (sI g 32 0 R (nI P)) 33 0 R (nI N)) P (P + N)).1 34 0 0 = nI P := h34
  have r31 : (sI (zM (sI (sI g 32 0 R (nI P)) 33 0 R (nI N)) P (P + N)) 34 0 0 (nI (P + N))).1 31 0 0 = nI R := h31
  have r31b : (sI (sI (zM (sI (sI g 32 0 R (nI P)) 33 0 R (nI N)) P (P + N)) 34 0 0 (nI (P + N))) 31 0 0 (nI (R + 1))).1 31 0 0 = nI (R + 1) := rfl
  simp only [m_X5_newRow, lett, h31, chk_t (inb_m hR (by omega)), nI_clamp (show R < 2 ^ 31 by omega), h34, q31, hL, Option.bind_some, r34, nI_add, r31, nI_1, r31b, nI_pred]
  rfl
/-- a grown store -/
theorem Core_grw {a R P S n R2 P2 ca cb : Nat} {bx : Nat → Bool} {so : Nat → Nat} {g g2 : Gs} (C : Core a R P S bx so n g) (G : Grw R P R2 P2 g g2 ca cb) (hR : R ≤ R2) (hP : P ≤ P2) : Core a R P S bx so n g2 := by
  obtain ⟨f1, f2, f3, f4, f5, f6, -⟩ := G
  have hh := C
  obtain ⟨c1, c2, c3, c4, -⟩ := hh
  have q : ∀ c o, c ≠ 13 ∧ c ≠ 14 ∧ c ≠ 15 → g2.1 c o = g.1 c o := fun c o z => f1 c o z.1 z.2.1 z.2.2
  refine Core_ext C c1 ⟨by omega, by omega, by omega, by omega, by omega⟩ ?_ ?_ (by omega) (fun r hr => ?_) (fun p hp => ?_) (fun i hi => ?_) (fun s hs => by rw [q 38 0 (by decide)]) (fun r h1 h2 => by omega) (fun p h1 h2 => by omega) (fun i h1 h2 => by omega) (fun i => by rw [f5 (500 + i) (by omega) (by omega) (by omega) (by omega)]; exact C.2.2.2.2.2.2.2.2 i)
  · rw [q 0 0 (by decide), q 25 0 (by decide)]; exact c2
  · rw [q 12 0 (by decide), q 31 0 (by decide), q 11 0 (by decide), q 34 0 (by decide), q 37 0 (by decide)]; exact c3
  · rw [(f2 r hr).1, (f2 r hr).2, q 32 0 (by decide), q 33 0 (by decide)]; exact ⟨rfl, rfl, rfl, rfl⟩
  · rw [(f3 p hp).1, (f3 p hp).2, q 36 0 (by decide), f4 2 (by decide)]; exact ⟨rfl, rfl, rfl, rfl, rfl⟩
  · rw [q 16 i (by decide), q 26 0 (by decide), q 17 i (by decide), q 30 0 (by decide), q 4 _ (by decide), q 5 _ (by decide), q 6 _ (by decide), q 27 0 (by decide), q 28 0 (by decide), q 29 0 (by decide), q 18 i (by decide), f5 (500 + i) (by omega) (by omega) (by omega) (by omega)]
    exact ⟨rfl, rfl, rfl, rfl, rfl, rfl, rfl, rfl, fun _ _ => ⟨rfl, rfl⟩, rfl, rfl, rfl⟩
theorem RI_grw {n R P R2 P2 ca cb : Nat} {g g2 : Gs} (h : RI n g) {a S : Nat} {bx : Nat → Bool} {so : Nat → Nat} (C : Core a R P S bx so n g) (G : Grw R P R2 P2 g g2 ca cb) (hR : R ≤ R2) (hP : P ≤ P2) : RI n g2 := by
  have C2 := Core_grw C G hR hP
  obtain ⟨f1, f2, f3, f4, f5, f6, -⟩ := G
  have q : ∀ c o, c ≠ 13 ∧ c ≠ 14 ∧ c ≠ 15 → g2.1 c o = g.1 c o := fun c o z => f1 c o z.1 z.2.1 z.2.2
  obtain ⟨cw, ⟨d, hd⟩, ⟨k, hk⟩, -⟩ := h
  refine ⟨?_, ⟨d, Shp_congr hd (q _ _ (by decide)) (q _ _ (by decide)) (q _ _ (by decide)) (q _ _ (by decide)) (q _ _ (by decide)) (q _ _ (by decide))⟩, ⟨k, Lns_congr hk (q _ _ (by decide)) (q _ _ (by decide)) (q _ _ (by decide)) (q _ _ (by decide)) (q _ _ (by decide)) (q _ _ (by decide)) (q _ _ (by decide)) (q _ _ (by decide)) (f4 1 (by decide)) (f4 3 (by decide))⟩, a, R, P, S, bx, so, C2⟩
  unfold Cw
  rw [q 20 0 (by decide), q 1 0 (by decide), q 21 0 (by decide), q 2 0 (by decide)]
  exact cw
theorem CB_of {g g1 g2 : Gs} {R P R2 P2 ca cb : Nat} (G : Grw R P R2 P2 g g1 ca cb) (hN : g2.2.2 9 = g1.2.2 9 ∧ g2.2.2 11 = g1.2.2 11) {a b : Nat} (ha : a ≤ ca + 4) (hb : b ≤ cb + 600) : CB a b g g2 := by
  obtain ⟨-, -, -, -, -, f6, f7⟩ := G
  unfold CB
  omega
/-- a new row on both sides, in no array yet -/
theorem Core_row {a R P S n N : Nat} {bx : Nat → Bool} {so : Nat → Nat} {g : Gs} (C : Core a R P S bx so n g) (hn : n < 512) (hN : N ≤ 100) (hR : R + 1 ≤ g.2.2 11) (hP : P + N ≤ g.2.2 9) : Core a (R + 1) (P + N) S (fun p => if P ≤ p then false else bx p) so (n + 1) (arM (arX g R P N 1) R P N) := by
  have hh := C
  obtain ⟨c1, c2, c3, c4, c5, -⟩ := hh
  have qX : ∀ c o, c ≠ 11 ∧ c ≠ 12 ∧ c ≠ 13 ∧ c ≠ 14 ∧ c ≠ 15 ∧ c ≠ 31 ∧ c ≠ 32 ∧ c ≠ 33 ∧ c ≠ 34 ∧ c ≠ 36 → (arM (arX g R P N 1) R P N).1 c o = g.1 c o := fun c o z => by
    rw [arM_f o (by omega), arX_f o (by omega)]
  have v14 : (arM (arX g R P N 1) R P N).1 14 0 R = nI P := by simp [arM_1, arX_1]
  have v15 : (arM (arX g R P N 1) R P N).1 15 0 R = nI N := by simp [arM_1, arX_1]
  refine Core_ext C (by omega) ⟨by omega, by omega, by omega, by omega, by omega⟩ ?_ ?_ ?_ (fun r hr => ?_) (fun p hp => ?_) (fun i hi => ?_) (fun s hs => by rw [qX 38 0 (by decide)]) (fun r h1 h2 => ?_) (fun p h1 h2 => ?_) (fun i h1 h2 => by omega) C.2.2.2.2.2.2.2.2
  · rw [qX 0 0 (by decide), qX 25 0 (by decide)]; exact c2
  · rw [qX 37 0 (by decide)]
    simp [arM_1, arX_1, c3.2.2.2.2]
  · show (g.2.2 12 = g.2.2 11 ∧ _)
    exact ⟨c4.1, c4.2.1, hR, hP, c4.2.2.2.2⟩
  · have : ¬ r = R := by omega
    simp [arM_1, arX_1, this]
  · have : ¬ P ≤ p := by omega
    simp [arM_1, arX_1, arM_2, arX_2, this]
  · rw [qX 16 i (by decide), qX 26 0 (by decide), qX 17 i (by decide), qX 30 0 (by decide), qX 4 _ (by decide), qX 5 _ (by decide), qX 6 _ (by decide), qX 27 0 (by decide), qX 28 0 (by decide), qX 29 0 (by decide), qX 18 i (by decide)]
    exact ⟨rfl, rfl, rfl, rfl, rfl, rfl, rfl, rfl, fun _ _ => ⟨rfl, rfl⟩, rfl, rfl, rfl⟩
  · have : r = R := by omega
    subst this
    have e1 : rs (arM (arX g r P N 1) r P N) r = P := by simp only [rs, v14]; exact nI_clamp (by omega)
    have e2 : rl (arM (arX g r P N 1) r P N) r = N := by simp only [rl, v15]; exact nI_clamp (by omega)
    refine ⟨by rw [e1, v14], by rw [e2, v15], by omega, by omega, ?_, ?_⟩
    · rw [v14]; simp [arM_1]
    · rw [v15]; simp [arM_1]
  · simp [clOk, arM_1, arX_1, arM_2, arX_2, h1, h2]
theorem s_ragged : S_ragged RI := by
  intro n g x1 x2 x3 h hn
  obtain ⟨hcw, hd, hk, a, R, P, S, bx, so, C⟩ := id h
  have ha := C.1
  have n70 : ¬ (7 : Int32) = 0 := by decide
  have n20 : ¬ (2 : Int32) = 0 := by decide
  rcases arr_cases x1 C.1.1 with hx | ⟨b, hb, rfl⟩
  · refine ⟨0, sI g 1 0 0 7, sI (sI g 1 0 0 7) 20 0 0 7, 0, 0, ?_, ?_, RI_stop h 7, CB_0 h rfl⟩
    · simp only [m_X4_ragged, m_X4_whyNoTableRow, X4_arr_no C.2.1.1 hx, Option.bind_some, cas_n, if_neg n70, m_stop]
    · simp only [m_X5_ragged, m_X5_ragged_J49, wr_no C (SM_1 g 7) hx, Option.bind_some, if_neg (show ¬ (7 : Int32) = 3 by decide), if_neg n70, m_no]
  · have hA := X4_arr_yes C.2.1.1 C.1.1 hb
    have hb24 : b < 24 := by omega
    rcases arr_view C hb with ⟨kd, rk, r, hkd, h16, h26, hs, hr, h17, h30, hrl, hbx⟩ | ⟨h16, h26, hs, ht⟩
    · have hn4 : ¬ g.1 16 b 0 = 4 := by rw [h16]; exact n4 hkd
      refine ⟨0, sI g 1 0 0 2, sI (sI g 1 0 0 2) 20 0 0 2, 0, 0, ?_, ?_, RI_stop h 2, CB_0 h rfl⟩
      · simp only [m_X4_ragged, m_X4_whyNoTableRow, hA, Option.bind_some, cas_y hb24, if_neg hn4, if_neg n20, m_stop]
      · simp only [m_X5_ragged, m_X5_ragged_J49, wr_plain C (SM_1 g 2) hb hn4, Option.bind_some, if_neg (show ¬ (2 : Int32) = 3 by decide), if_neg n20, m_no]
    · by_cases hin : g.1 5 (b + 1) 0 ≤ x2 ∧ x2 ≤ g.1 6 (b + 1) 0
      · have hwX : m_X4_whyNoTableRow (some b) x2 g = some (0, g) := by
          simp only [m_X4_whyNoTableRow, cas_y hb24, h16, if_true, holds0 (SX_r g) hb24, if_pos hin, Option.bind_some, if_neg n10]
        have hwM : ∀ gM, SM g gM → m_X5_wantsRow (nI b) x2 gM = some 0 := fun gM sm => by rw [wr_tab C sm hb h16 hs, if_pos hin]
        have n03 : ¬ (0 : Int32) = 3 := by decide
        by_cases hneg : 0 ≤ x3
        · by_cases hbig : x3 ≤ 100
          · obtain ⟨N, hN, rfl⟩ := nI_of2 (x := x3) (M := 100) (n := 100) (by decide) (Int32.not_lt.mpr hneg) hbig
            obtain ⟨g1, ca, cb, er, G⟩ := reserve C (x := 1) (y := N) (by omega) (by omega)
            have C1 := Core_grw C G (by omega) (by omega)
            have h1 := RI_grw h C G (by omega) (by omega)
            have G6 := G.2.2.2.2.2.1
            have q : ∀ c o, c ≠ 13 ∧ c ≠ 14 ∧ c ≠ 15 → g1.1 c o = g.1 c o := fun c o z => G.1 c o z.1 z.2.1 z.2.2
            have b16 : g1.1 16 b 0 = 4 := by rw [q 16 b (by decide)]; exact h16
            have e5 : g1.1 5 (b + 1) = g.1 5 (b + 1) := q 5 _ (by decide)
            have e6 : g1.1 6 (b + 1) = g.1 6 (b + 1) := q 6 _ (by decide)
            rcases arr_view C1 hb with ⟨kd, rk, r, hkd, i16, -⟩ | ⟨-, i26, is, it⟩
            · rw [b16] at i16
              exact absurd i16.symm (n4 hkd)
            · have C2 := Core_row C1 hn hN (by omega) (by omega)
              have hc3 := C1.2.2.1
              have hoff : offN (g.1 5 (b + 1) 0) x2 < rcN g1 b := by unfold rcN; rw [e5, e6]; exact off_lt hin.1 hin.2
              have t3 := it.2.2.1
              have t4 := it.2.2.2.1
              have t5 := it.2.2.2.2.1
              generalize hqi : offN (g.1 5 (b + 1) 0) x2 = i at hoff
              have hX : m_X2_offset (b + 1) 0 x2 g1 = some (nI i) := by rw [offset0 (SX_r g1) hb24 (by rw [e5]; exact hin.1), e5, hqi]
              have hAR : m_X3_addRow (nI N) 1 g1 = some (nI R, arX g1 R P N 1) := by
                have := addRow_e (g := g1) (R := R) (P := P) (N := N) (f := 1) hc3.1 hc3.2.2.1 (by omega) (by omega) (by omega) (by omega) (by omega) (by omega) (by omega)
                rw [nar1] at this
                exact this
              have sm : SM g1 (sI (sI (arX g1 R P N 1) 18 b i (nI R)) 1 0 0 0) := SM_sI (SM_sI ⟨fun c o hc => arX_f o (by omega), arX_l (by decide), arX_l (by decide)⟩ (by decide)) (by decide)
              have smg : SM g (sI (sI (arX g1 R P N 1) 18 b i (nI R)) 1 0 0 0) := ⟨fun c o hc => (sm.1 c o hc).trans (q c o (by omega)), sm.2.1.trans (G.2.2.2.1 2 (by decide)), sm.2.2.trans (G.2.2.2.1 3 (by decide))⟩
              have hNR : m_X5_newRow (nI N) (sI (sI (arX g1 R P N 1) 18 b i (nI R)) 1 0 0 0) = some (nI R, arM (sI (sI (arX g1 R P N 1) 18 b i (nI R)) 1 0 0 0) R P N) := newRow_e (by rw [sm.1 31 0 (by omega)]; exact hc3.2.1) (by rw [sm.1 34 0 (by omega)]; exact hc3.2.2.2.1) (by omega) (by omega) (by omega)
              have hsl : m_X5_slotOf (nI b) x2 (sI (sI (arX g1 R P N 1) 18 b i (nI R)) 1 0 0 0) = some (nI (so b + i)) := by rw [slotOf C1 sm hb is it (by rw [e5]; exact hin.1), e5, hqi]
              refine ⟨1, sI (sI (arX g1 R P N 1) 18 b i (nI R)) 1 0 0 0, sI (sI (arM (sI (sI (arX g1 R P N 1) 18 b i (nI R)) 1 0 0 0) R P N) 38 0 (so b + i) (nI R)) 20 0 0 0, ca + 0, cb + 0, ?_, ?_, ?_, CB_of G ⟨rfl, rfl⟩ (by omega) (by omega)⟩
              · have er1 : m_X3_reserve 1 (nI N) g = some (1, g1, ca, cb) := er
                simp only [m_X4_ragged, hA, Option.bind_some, hwX, if_true, if_pos hneg, if_pos hbig, er1, if_neg n10, unw_y hb24, hX, hAR, arX_3, chk_t (inb_m (show i < g1.2.2 (500 + b) by omega) (by omega)), nI_clamp (show i < 2 ^ 31 by omega), lett, m_done, addc_some]
              · simp only [m_X5_ragged, m_X5_ragged_J49, hwM _ smg, Option.bind_some, if_neg n03, if_true, if_pos hneg, if_pos hbig, hsl, hNR, chk_t (inb_m (show so b + i < 12100 by omega) (by omega)), nI_clamp (show so b + i < 2 ^ 31 by omega), lett, m_yes]
              · obtain ⟨cw, ⟨d, hd⟩, ⟨k, hk⟩, -⟩ := h1
                have qq : ∀ c o, c ≠ 11 ∧ c ≠ 12 ∧ c ≠ 13 ∧ c ≠ 14 ∧ c ≠ 15 ∧ c ≠ 31 ∧ c ≠ 32 ∧ c ≠ 33 ∧ c ≠ 34 ∧ c ≠ 36 ∧ c ≠ 18 ∧ c ≠ 38 ∧ c ≠ 1 ∧ c ≠ 20 → (sI (sI (arM (sI (sI (arX g1 R P N 1) 18 b i (nI R)) 1 0 0 0) R P N) 38 0 (so b + i) (nI R)) 20 0 0 0).1 c o = g1.1 c o := fun c o z => by
                  rw [sF, if_neg (by omega), sF, if_neg (by omega), arM_f o (by omega), sF, if_neg (by omega), sF, if_neg (by omega), arX_f o (by omega)]
                refine ⟨⟨?_, ?_⟩, ⟨d, Shp_congr hd (qq _ _ (by decide)) (qq _ _ (by decide)) (qq _ _ (by decide)) (qq _ _ (by decide)) (qq _ _ (by decide)) (qq _ _ (by decide))⟩, ⟨k, Lns_congr hk (qq _ _ (by decide)) (qq _ _ (by decide)) (qq _ _ (by decide)) (qq _ _ (by decide)) (qq _ _ (by decide)) (qq _ _ (by decide)) (qq _ _ (by decide)) (qq _ _ (by decide)) ((arM_l (by decide)).trans (arX_l (f := 1) (by decide))) ((arM_l (by decide)).trans (arX_l (f := 1) (by decide)))⟩, a, R + 1, P + N, S, (fun p => if P ≤ p then false else bx p), so, ?_⟩
                · simp [gI, arM_1, arX_1]
                · rw [qq 21 0 (by decide), qq 2 0 (by decide)]; exact cw.2
                · refine Core_slot (v := nI R) C2 (b := b) (i := i) hb ?_ ?_ ?_ (fun c o hco h18 h38 => ?_) (fun o j => ?_) (fun j => ?_) ?_ ?_ rfl
                  · rw [arM_f b (by decide), arX_f b (by decide)]; exact b16
                  · unfold rcN at hoff ⊢
                    rw [arM_f (b + 1) (by decide), arX_f (b + 1) (by decide), arM_f (b + 1) (by decide), arX_f (b + 1) (by decide)]
                    exact hoff
                  · refine Or.inr ⟨R, by omega, rfl, fun p hp => ?_⟩
                    have : P ≤ p := by
                      have := hp.1
                      have e : rs (arM (arX g1 R P N 1) R P N) R = P := by
                        have v14 : (arM (arX g1 R P N 1) R P N).1 14 0 R = nI P := by simp [arM_1, arX_1]
                        simp only [rs, v14]
                        exact nI_clamp (by omega)
                      omega
                    simp [this]
                  · simp [coreC] at hco
                    funext j
                    simp only [gI, arM_1, arX_1]
                    grind
                  · simp only [gI, arM_1, arX_1]
                    grind
                  · simp only [gI, arM_1, arX_1]
                    grind
                  · rfl
                  · rfl
          · refine ⟨0, sI g 1 0 0 5, sI (sI g 1 0 0 5) 20 0 0 5, 0, 0, ?_, ?_, RI_stop h 5, CB_0 h rfl⟩
            · simp only [m_X4_ragged, hA, Option.bind_some, hwX, if_true, if_pos hneg, if_neg hbig, m_stop]
            · simp only [m_X5_ragged, m_X5_ragged_J49, hwM _ (SM_1 g 5), Option.bind_some, if_neg n03, if_true, if_pos hneg, if_neg hbig, if_neg (show ¬ (5 : Int32) = 0 by decide), m_no]
        · refine ⟨0, sI g 1 0 0 4, sI (sI g 1 0 0 4) 20 0 0 4, 0, 0, ?_, ?_, RI_stop h 4, CB_0 h rfl⟩
          · simp only [m_X4_ragged, hA, Option.bind_some, hwX, if_true, if_neg hneg, m_stop]
          · simp only [m_X5_ragged, m_X5_ragged_J49, hwM _ (SM_1 g 4), Option.bind_some, if_neg n03, if_true, if_neg hneg, if_neg (show ¬ (4 : Int32) = 0 by decide), m_no]
      · refine ⟨0, sI (sI g 2 0 0 0) 1 0 0 3, sI (sI (sI (sI g 2 0 0 0) 1 0 0 3) 21 0 0 0) 20 0 0 3, 0, 0, ?_, ?_, RI_stopB h 0, CB_0 h rfl⟩
        · simp only [m_X4_ragged, m_X4_whyNoTableRow, hA, Option.bind_some, cas_y hb24, h16, if_true, holds0 (SX_r g) hb24, if_neg hin, lett, if_neg (show ¬ (3 : Int32) = 0 by decide), m_stop]
        · simp only [m_X5_ragged, wr_tab C (SM_21 g 0 3) hb h16 hs, if_neg hin, Option.bind_some, if_true, m_noItem]
