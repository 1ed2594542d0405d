/-! PURE: deep. -/
theorem X4_deep_L {a k N P R s : Nat} (ha : a < 24) (hk : k ≤ 500) (hN : N ≤ 500) (hP : P + k * N ≤ 100000) (hR : R + k ≤ 20000) (hs : s + k * N ≤ P) : ∀ m r f g, r + m = k → m < f → g.1 4 (a + 1) 0 = nI 2 → rcN g a = k → k ≤ g.2.2 (500 + a) → (∀ i, i < k → g.1 18 a i = nI (R + i) ∧ R + i < g.2.2 11 ∧ g.1 14 0 (R + i) = nI (P + i * N) ∧ g.1 15 0 (R + i) = nI N) → g.2.2 12 = g.2.2 11 ∧ g.2.2 11 ≤ 30000 → P + k * N ≤ g.2.2 9 → g.2.2 10 = g.2.2 9 → m_X4_deep_L55 a f (nI (s + r * N)) (nI r) g = some (cgX g (P + r * N) (fun q => s + (r * N + q)) (m * N)) := by
  intro m
  induction m with
  | zero =>
    intro r f g hr hf h4 hrc h5 hrow h12 h9 h10
    obtain ⟨f, rfl⟩ : ∃ f2, f = f2 + 1 := ⟨f - 1, by omega⟩
    rw [m_X4_deep_L55, rowCount_f ha h4, hrc]
    simp only [Option.bind_some]
    rw [if_pos (nI_le (by omega) (by omega)), Nat.zero_mul, cgX_nil]
  | succ m ih =>
    intro r f g hr hf h4 hrc h5 hrow h12 h9 h10
    obtain ⟨f, rfl⟩ : ∃ f2, f = f2 + 1 := ⟨f - 1, by omega⟩
    obtain ⟨e18, e11, e14, e15⟩ := hrow r (by omega)
    have hrL : (r + 1 + m) * N = k * N := by rw [show r + 1 + m = k by omega]
    rw [Nat.add_mul, Nat.succ_mul] at hrL
    have c1 := inb_m (show r < g.2.2 (500 + a) by omega) (by omega)
    have hS := startOf_r (g := g) (r := R + r) e11 h12.2
    have hLn := lengthOf_r (g := g) (r := R + r) (by omega) (by omega)
    rw [e14] at hS
    rw [e15] at hLn
    have hcp := copyCells (s := s + r * N) (t := P + r * N) (n := N) (g := g) (by omega) (by omega) (by omega) (by omega) h10
    have hLn2 : m_X3_lengthOf (nI (R + r)) (cgX g (P + r * N) (fun q => s + r * N + q) N) = some (nI N) := by
      have := lengthOf_r (g := cgX g (P + r * N) (fun q => s + r * N + q) N) (r := R + r) (by rw [cgX_3]; omega) (by rw [cgX_3]; omega)
      rw [cgX_f (by decide), e15] at this
      exact this
    rw [m_X4_deep_L55, rowCount_f ha h4, hrc]
    simp only [Option.bind_some, chk_t c1, nI_clamp (show r < 2 ^ 31 by omega), lett, e18, hS, hLn, hcp, hLn2, nI_add, nI_1]
    rw [if_neg (nI_ge (by omega) (by omega))]
    have hih := ih (r + 1) f (cgX g (P + r * N) (fun q => s + r * N + q) N) (by omega) (by omega) (by rw [cgX_f (by decide)]; exact h4) (by unfold rcN; rw [cgX_f (by decide), cgX_f (by decide)]; exact hrc) h5 (fun i hi => by rw [cgX_f (by decide), cgX_f (by decide), cgX_f (by decide)]; exact hrow i hi) h12 h9 h10
    rw [Nat.succ_mul, ← Nat.add_assoc, ← Nat.add_assoc] at hih
    rw [hih]
    rw [cgX_cons (ρ := fun q => s + (r * N + q)) (fun q hq => by show s + (r * N + q) = s + r * N + q; omega) (fun q hq => ⟨?_, ?_⟩), Nat.succ_mul, Nat.add_comm N]
    · show s + (r * N + (N + q)) = s + (r * N + N + q)
      omega
    · show s + (r * N + N + q) < P + r * N
      omega
theorem remN {x e : Nat} (hx : x < 2 ^ 31) (h0 : 0 < e) (he : e < 2 ^ 31) : nI x - nI x / nI e * nI e = nI (x % e) := by
  have h := Nat.div_add_mod x e
  have h2 : x / e * e ≤ x := Nat.div_mul_le_self x e
  rw [pk_div hx h0 he, pk_mul, pk_sub h2]
  congr 1
  rw [Nat.mul_comm] at h
  omega
theorem X5_deep_L {a b k N P R S s r Lr : Nat} (ha : a < 24) (hb : b < 24) (hN : N ≤ 500) (hk : k ≤ 500) (hr : r < 13000) (hLr : Lr = k * N) (hP : P + k * N ≤ 100000) (hR : R + k ≤ 13000) (hS : S + k ≤ 12100) (hs : s + k * N ≤ P) : ∀ m i f g, i + m = Lr → m < f → g.1 30 0 b = nI r ∧ g.1 33 0 r = nI Lr ∧ g.1 32 0 r = nI s ∧ g.1 30 0 a = nI S → (∀ j, j < k → g.1 38 0 (S + j) = nI (R + j) ∧ g.1 32 0 (R + j) = nI (P + j * N)) → m_X5_deep_L127 (nI b) (nI a) (nI N) f (nI i) g = some (cgM g (P + i) (fun q => s + (i + q)) m) := by
  intro m
  induction m with
  | zero =>
    intro i f g hi hf hh hrow
    obtain ⟨f, rfl⟩ : ∃ f2, f = f2 + 1 := ⟨f - 1, by omega⟩
    obtain ⟨h1, h2, h3, h4⟩ := hh
    rw [m_X5_deep_L127, cgM_nil]
    simp only [chk_t (inb_m hb (by omega)), nI_clamp (show b < 2 ^ 31 by omega), h1, chk_t (inb_m hr (by omega)), nI_clamp (show r < 2 ^ 31 by omega), h2]
    rw [if_pos (nI_le (by omega) (by omega))]
  | succ m ih =>
    intro i f g hi hf hh hrow
    obtain ⟨f, rfl⟩ : ∃ f2, f = f2 + 1 := ⟨f - 1, by omega⟩
    obtain ⟨h1, h2, h3, h4⟩ := id hh
    have hN0 : 0 < N := by
      rcases Nat.eq_zero_or_pos N with z | z
      · rw [z, Nat.mul_zero] at hLr; omega
      · exact z
    have hq : i / N < k := Nat.div_lt_of_lt_mul (by rw [Nat.mul_comm]; omega)
    obtain ⟨e38, e32⟩ := hrow (i / N) hq
    have hdm : i / N * N + i % N = i := by rw [Nat.mul_comm]; exact Nat.div_add_mod i N
    have hN1 : ¬ nI N = 0 := nI_ne0 hN0 (by omega)
    have hrem : nI i - nI (i / N) * nI N = nI (i % N) := by
      have := remN (x := i) (e := N) (by omega) hN0 (by omega)
      rw [pk_div (show i < 2 ^ 31 by omega) hN0 (show N < 2 ^ 31 by omega)] at this
      exact this
    rw [m_X5_deep_L127]
    simp only [chk_t (inb_m hb (by omega)), nI_clamp (show b < 2 ^ 31 by omega), h1, chk_t (inb_m hr (by omega)), nI_clamp (show r < 2 ^ 31 by omega), h2, chk_t (inb_m ha (by omega)), nI_clamp (show a < 2 ^ 31 by omega), h4, chk_t hN1, pk_div (show i < 2 ^ 31 by omega) hN0 (show N < 2 ^ 31 by omega), hrem, nI_add, chk_t (inb_m (show S + i / N < 12100 by omega) (by omega)), nI_clamp (show S + i / N < 2 ^ 31 by omega), e38, chk_t (inb_m (show R + i / N < 13000 by omega) (by omega)), nI_clamp (show R + i / N < 2 ^ 31 by omega), e32, h3, lett, nI_1]
    rw [if_neg (nI_ge (by omega) (by omega)), show P + i / N * N + i % N = P + i by omega, copyM (by omega) (by omega)]
    simp only [Option.bind_some]
    rw [ih (i + 1) f (cgM g (P + i) (fun _ => s + i) 1) (by omega) (by omega) (by rw [cgM_f (by decide), cgM_f (by decide), cgM_f (by decide)]; exact hh) (fun j hj => by rw [cgM_f (by decide), cgM_f (by decide)]; exact hrow j hj), ← Nat.add_assoc, cgM_cons (ρ := fun q => s + (i + q)) (fun q hq => by show s + (i + q) = s + i; omega) (fun q hq => ⟨by show s + (i + (1 + q)) = s + (i + 1 + q); omega, by show s + (i + 1 + q) < P + i; omega⟩), Nat.add_comm 1 m]
theorem s_deep : S_deep RI := by
  intro n g x1 h hn
  obtain ⟨hcw, ⟨d, hd⟩, hk0, a, R, P, S, bx, so, C⟩ := id h
  have ha := C.1
  have n70 : ¬ (7 : Int32) = 0 := by decide
  have n20 : ¬ (2 : Int32) = 0 := by decide
  have n80 : ¬ (8 : Int32) = 0 := by decide
  have n90 : ¬ (9 : Int32) = 0 := by decide
  have n50 : ¬ (5 : Int32) = 0 := by decide
  rcases arr_cases x1 C.1.1 with hx | ⟨b, hb, rfl⟩
  · refine ⟨0, sI g 1 0 0 7, sI (sI g 1 0 0 7) 20 0 0 7, 0 + 0, 0 + 0, ?_, ?_, RI_stop h 7, CB_0 h rfl⟩
    · simp only [m_X4_deep, m_X4_whyNotDeep, X4_arr_no C.2.1.1 hx, Option.bind_some, cas_n, if_neg n70, m_stop, addc_some]
    · simp only [m_X5_deep, m_X5_deep_J74, X5_arr_no (g := sI g 1 0 0 7) C.2.1.2 C.1.1 hx, Option.bind_some, if_true, if_neg n70, m_no]
  · have hA := X4_arr_yes C.2.1.1 C.1.1 hb
    have hb24 : b < 24 := by omega
    have cb := inb_m hb24 (by omega)
    have qb := nI_clamp (show b < 2 ^ 31 by omega)
    have kb := kd_eq C hb
    by_cases hk1 : g.1 16 b 0 = 1
    · rcases arr_view C hb with ⟨kd, rk, r, hkd, h16, h26, hs, hr, h17, h30, hrl, hbx⟩ | ⟨h16, -⟩
      · have hkd1 : kd = 1 := by
          rw [h16] at hk1
          exact (nI_eq (b := 1) (by omega) (by omega)).mp hk1
        subst hkd1
        have hbx2 : ∀ p, inRow g r p → bx p = false := fun p hp => by rw [hbx p hp]; rfl
        have r4 := hs.2.2.1
        have r27 := hs.2.2.2.1
        have e26 : ∀ x, (sI g 1 0 0 x).1 26 0 b = 1 := fun x => h26
        have e27 : ∀ x, (sI g 1 0 0 x).1 27 0 b = nI rk := fun x => r27
        have hrk := hs.2.1
        by_cases h2 : rk = 2
        · subst h2
          have z22 : nI 2 = (2 : Int32) := rfl
          have l0 : m_X2_length (b + 1) 0 g = some (lN (rcN g b)) := X2_length_in (g := g) (o := b + 1) (d := 0) (rk := 2) (by omega) (by omega) (by omega) r4
          have hk32 : rcN g b ≤ 2 ^ 32 := lenN_lt _ _
          have ml0 : ∀ gM, SM g gM → m_X5_lengthOf (nI b) 0 gM = some (lN (rcN g b)) := fun gM sm => by
            have := X5_lengthOf (g := gM) (i := b) (d := 0) hb24 (by omega)
            have h1 := hs.2.2.2.2 0 (by omega)
            rw [nl0, sm.1 28 0 (by omega), sm.1 29 0 (by omega), h1.1, h1.2] at this
            exact this
          have k5 : lN (rcN g b) ≤ (500 : Int64) ↔ rcN g b ≤ 500 := pk_lLE (b := 500) (by omega) (by omega)
          have F := row_f C (by omega) (SX_r g) (SM_r g) hr
          have f5 := F.l5
          by_cases hbig : rcN g b ≤ 500
          · by_cases hfull : a < 24
            · have hit2 : itN g (b + 1) 2 = rcN g b * lenN (g.1 5 (b + 1) 1) (g.1 6 (b + 1) 1) := it2 g (b + 1)
              have hrcd : rcN g b = lenN (g.1 5 (b + 1) 0) (g.1 6 (b + 1) 0) := rfl
              generalize hNd : (if rcN g b = 0 then 0 else lenN (g.1 5 (b + 1) 1) (g.1 6 (b + 1) 1)) = N
              obtain ⟨hkN, hN5⟩ := kN hit2 (by omega) hNd.symm
              rw [← hrl] at hkN
              generalize hkk : rcN g b = k at *
              have wr := (C.2.2.2.2.1 r hr).2.2.2.1
              obtain ⟨g1, ca, cb2, er, G⟩ := room C hfull (x := k) (y := rl g r) (by omega) (by omega)
              have C1 := Core_grw C G (by omega) (by omega)
              have h1 := RI_grw h C G (by omega) (by omega)
              have hc1 := C1.2.1
              have hc3 := C1.2.2.1
              have hcap := C1.2.2.2.2.2.2.2.2 a
              have G6 := G.2.2.2.2.2.1
              obtain ⟨d4, d22, dl, dit⟩ := shapes (a := a) (S := S) (n := n) (bx := bx) (so := so) G hd
              have b4 : g1.1 4 (b + 1) 0 = nI 2 := by rw [Grw_q G (by decide)]; exact r4
              have e5 : g1.1 5 (b + 1) = g.1 5 (b + 1) := Grw_q G (by decide)
              have e6 : g1.1 6 (b + 1) = g.1 6 (b + 1) := Grw_q G (by decide)
              have b17 : g1.1 17 b 0 = nI r := by rw [Grw_q G (by decide)]; exact h17
              have hni := nextIn (g := g1) (a := a) (o := b + 1) (rk := 2) hc1.1 hfull (by omega) (by omega) (by omega) b4 (nI 4)
              generalize hgA : niX g1 a (nI 4) (b + 1) 2 = gA at hni
              have A1 : ∀ c o j, gA.1 c o j = if (c = 5 ∨ c = 6) ∧ o = a + 1 ∧ j < 2 then g1.1 c (b + 1) j else if c = 4 ∧ o = a + 1 ∧ j = 0 then nI 2 else if c = 17 ∧ o = a ∧ j = 0 then -1 else if c = 16 ∧ o = a ∧ j = 0 then nI 4 else if c = 0 ∧ o = 0 ∧ j = 0 then nI (a + 1) else g1.1 c o j := by
                intro c o j
                rw [← hgA, niX_1 (by omega)]
              have A2 : gA.2 = g1.2 := by rw [← hgA]; rfl
              obtain ⟨ta, tb, eT, hta, htb⟩ := addTab (g := gA) (a := a) (R := R) (P := P) (N := N) (k := k) hfull (by simp [A1]) (by simp [rcN, A1, e5, e6, ← hrcd]) hbig (by simp [A1, e5, e6, hNd]) hN5 (by simp [A1, hc3.2.2.1]) (by simp [A1, hc3.1]) (by rw [A2]; omega) (by rw [A2]; omega) (by rw [A2]; omega) (by rw [A2]; omega) (by omega) (by omega) (by rw [A2]; omega)
              generalize hgW : wdR gA a k = gW at eT
              have W1 : ∀ c o j, ¬ (c = 18 ∧ o = a) → gW.1 c o j = gA.1 c o j := fun c o j z => by rw [← hgW]; exact wdR_1 gA a k c o j z
              have W2 : gW.2.1 = g1.2.1 := by rw [← hgW, wdR_2, A2]
              have W3 : ∀ i, i ≠ 500 + a → gW.2.2 i = g1.2.2 i := fun i z => by rw [← hgW, wdR_3 _ _ _ _ z, A2]
              have W4 : k ≤ gW.2.2 (500 + a) := by rw [← hgW]; exact wdR_4 gA a k
              have W5 : gW.2.2 (500 + a) ≤ 500 := by
                rw [← hgW]
                unfold wdR
                split
                · rw [A2]; exact hcap
                · show (if 500 + a = 500 + a then k else _) ≤ 500
                  rw [if_pos rfl]; exact hbig
              have w9 := W3 9 (by omega)
              have w10 := W3 10 (by omega)
              have w11 := W3 11 (by omega)
              have w12 := W3 12 (by omega)
              generalize hgT : tbX gW a R P N k 0 = gT at eT
              have T1 : ∀ c o j, gT.1 c o j = if c = 11 ∧ o = 0 ∧ j = 0 then nI (P + k * N) else if c = 12 ∧ o = 0 ∧ j = 0 then nI (R + k) else if c = 13 ∧ o = 0 ∧ P ≤ j ∧ j < P + k * N then 1 else if c = 14 ∧ o = 0 ∧ R ≤ j ∧ j < R + k then nI (P + (j - R) * N) else if c = 15 ∧ o = 0 ∧ R ≤ j ∧ j < R + k then nI N else if c = 18 ∧ o = a ∧ 0 ≤ j ∧ j < 0 + k then nI (R + (j - 0)) else gW.1 c o j := by
                intro c o j
                rw [← hgT, tbX_1]
              have T2 : ∀ c p, gT.2.1 c p = if c = 0 ∧ P ≤ p ∧ p < P + k * N then 0 else g1.2.1 c p := by
                intro c p
                rw [← hgT, tbX_2, W2]
              have T3 : gT.2.2 = gW.2.2 := by rw [← hgT, tbX_3]
              have hL4 := X4_deep_L (a := a) (k := k) (N := N) (P := P) (R := R) (s := rs g r) hfull hbig hN5 (by omega) (by omega) (by omega) k 0 FU gT (by omega) (FU_big (by omega)) (by simp [T1, W1, A1]) (by simp only [rcN, T1]; simp [W1, A1, e5, e6, ← hrcd]) (by rw [T3]; exact W4) (fun i hi => by
                have q1 : R ≤ R + i ∧ R + i < R + k := by omega
                refine ⟨by simp [T1, hi], by rw [T3]; omega, by simp [T1, q1], by simp [T1, q1]⟩) (by rw [T3]; omega) (by rw [T3]; omega) (by rw [T3]; omega)
              rw [nl0, Nat.zero_mul, Nat.add_zero, Nat.add_zero] at hL4
              simp only [Nat.zero_add] at hL4
              have hσ : ∀ q, q < k * N → rs g r + q < P ∧ bx (rs g r + q) = false := fun q hq => ⟨by omega, hbx2 _ ⟨by omega, by omega⟩⟩
              generalize hgX : sI (cgX gT P (fun q => rs g r + q) (k * N)) 1 0 0 0 = gX
              have X1 : ∀ c o j, gX.1 c o j = if c = 1 ∧ o = 0 ∧ j = 0 then 0 else if c = 13 ∧ o = 0 ∧ P ≤ j ∧ j < P + k * N then nb (gT.1 13 0 (rs g r + (j - P))) else gT.1 c o j := by
                intro c o j
                rw [← hgX, gI, cgX_1]
              have X2 : ∀ c p, gX.2.1 c p = if c = 0 ∧ P ≤ p ∧ p < P + k * N then gT.2.1 0 (rs g r + (p - P)) else gT.2.1 c p := by
                intro c p
                rw [← hgX, gI1, cgX_2]
              have X3 : gX.2.2 = gW.2.2 := by rw [← hgX, gI1, cgX_3, T3]
              have sm1 : SM g1 gX := ⟨fun c o hc => by
                funext j
                rw [X1, if_neg (by omega), if_neg (by omega), T1]
                repeat rw [if_neg (by omega)]
                rw [W1 c o j (by omega), A1]
                repeat rw [if_neg (by omega)], funext fun p => by rw [X2, if_neg (by omega), T2, if_neg (by omega)], funext fun p => by rw [X2, if_neg (by omega), T2, if_neg (by omega)]⟩
              have smg : SM g gX := ⟨fun c o hc => (sm1.1 c o hc).trans (Grw_q G (by omega)), sm1.2.1.trans (G.2.2.2.1 2 (by decide)), sm1.2.2.trans (G.2.2.2.1 3 (by decide))⟩
              have m25 : gX.1 25 0 0 = nI a := by rw [sm1.1 25 0 (by omega)]; exact hc1.2
              have m26 : gX.1 26 0 b = 1 := by rw [smg.1 26 0 (by omega)]; exact h26
              have m27 : gX.1 27 0 b = nI 2 := by rw [smg.1 27 0 (by omega)]; exact r27
              have lo2 : ∀ e, e < 2 → g1.1 28 0 (3 * b + e) = g.1 5 (b + 1) e ∧ g1.1 29 0 (3 * b + e) = g.1 6 (b + 1) e := fun e he => by
                rw [Grw_q G (by decide), Grw_q G (by decide)]
                exact hs.2.2.2.2 e he
              have hna := newArrB (g := gX) (a := a) (b := b) (lo := fun e => g1.1 28 0 (3 * b + e)) (hi := fun e => g1.1 29 0 (3 * b + e)) (rk := nI 2) m25 hfull hb m27 (fun e he => by rw [sm1.1 28 0 (by omega), sm1.1 29 0 (by omega)]; exact ⟨rfl, rfl⟩) (nI 4)
              generalize hgB : naM gX a (nI 4) (nI 2) (fun e => g1.1 28 0 (3 * b + e)) (fun e => g1.1 29 0 (3 * b + e)) = gB at hna
              have B1 : ∀ c o j, gB.1 c o j = if c = 25 ∧ o = 0 ∧ j = 0 then nI (a + 1) else if c = 29 ∧ o = 0 ∧ 3 * a ≤ j ∧ j < 3 * a + 3 then g1.1 29 0 (3 * b + (j - 3 * a)) else if c = 28 ∧ o = 0 ∧ 3 * a ≤ j ∧ j < 3 * a + 3 then g1.1 28 0 (3 * b + (j - 3 * a)) else if c = 27 ∧ o = 0 ∧ j = a then nI 2 else if c = 26 ∧ o = 0 ∧ j = a then nI 4 else gX.1 c o j := by
                intro c o j
                rw [← hgB, naM_1]
              have B2 : gB.2 = gX.2 := by rw [← hgB]; rfl
              have b28 : ∀ e, e < 2 → gB.1 28 0 (3 * a + e) = g.1 5 (b + 1) e ∧ gB.1 29 0 (3 * a + e) = g.1 6 (b + 1) e := fun e he => by
                have q1 : 3 * a + e < 3 * a + 3 := by omega
                refine ⟨by simp [B1, q1, (lo2 e he).1], by simp [B1, q1, (lo2 e he).2]⟩
              have hNT := newTab (g := gB) (a := a) (R := R) (P := P) (S := S) (N := N) (k := k) (lo := g.1 5 (b + 1)) (hi := g.1 6 (b + 1)) hfull b28 hrcd.symm hbig hNd.symm hN5 (by rw [B1]; simp; rw [sm1.1 31 0 (by omega)]; exact hc3.2.1) (by rw [B1]; simp; rw [sm1.1 34 0 (by omega)]; exact hc3.2.2.2.1) (by rw [B1]; simp; rw [sm1.1 37 0 (by omega)]; exact hc3.2.2.2.2) (by omega) (by omega) (by omega)
              generalize hgD : tbM (sI gB 30 0 a (nI S)) R P S N k = gD at hNT
              have D1 : ∀ c o j, gD.1 c o j = if c = 31 ∧ o = 0 ∧ j = 0 then nI (R + k) else if c = 34 ∧ o = 0 ∧ j = 0 then nI (P + k * N) else if c = 37 ∧ o = 0 ∧ j = 0 then nI (S + k) else if c = 36 ∧ o = 0 ∧ P ≤ j ∧ j < P + k * N then 0 else if c = 32 ∧ o = 0 ∧ R ≤ j ∧ j < R + k then nI (P + (j - R) * N) else if c = 33 ∧ o = 0 ∧ R ≤ j ∧ j < R + k then nI N else if c = 38 ∧ o = 0 ∧ S ≤ j ∧ j < S + k then nI (R + (j - S)) else if c = 30 ∧ o = 0 ∧ j = a then nI S else gB.1 c o j := by
                intro c o j
                rw [← hgD, tbM_1, gI]
              have D2 : ∀ c p, gD.2.1 c p = if c = 2 ∧ P ≤ p ∧ p < P + k * N then 0 else gX.2.1 c p := by
                intro c p
                rw [← hgD, tbM_2, gI1, B2]
              have D3 : gD.2.2 = gW.2.2 := by rw [← hgD, tbM_3, gI1, B2, X3]
              have hba : ¬ b = a := by omega
              have hrR : ¬ R ≤ r := by omega
              have d30 : gD.1 30 0 b = nI r := by simp [D1, B1, hba]; rw [smg.1 30 0 (by omega)]; exact h30
              have d33 : gD.1 33 0 r = nI (rl g r) := by simp [D1, B1, hrR]; rw [smg.1 33 0 (by omega)]; exact F.lM
              have d32 : gD.1 32 0 r = nI (rs g r) := by simp [D1, B1, hrR]; rw [smg.1 32 0 (by omega)]; exact F.sM
              have hL5 := X5_deep_L (a := a) (b := b) (k := k) (N := N) (P := P) (R := R) (S := S) (s := rs g r) (r := r) (Lr := rl g r) hfull hb24 hN5 hbig F.r13 hkN.symm (by omega) (by omega) (by omega) (by omega) (rl g r) 0 FU gD (by omega) (FU_big (by omega)) ⟨d30, d33, d32, by simp [D1]⟩ (fun j hj => by
                have q1 : S ≤ S + j ∧ S + j < S + k := by omega
                have q2 : R ≤ R + j ∧ R + j < R + k := by omega
                refine ⟨by simp [D1, q1], by simp [D1, q2]⟩)
              rw [nl0, Nat.add_zero, ← hkN] at hL5
              simp only [Nat.zero_add] at hL5
              generalize hg2 : sI (cgM gD P (fun q => rs g r + q) (k * N)) 20 0 0 0 = g2
              have M1 : ∀ c o j, g2.1 c o j = if c = 20 ∧ o = 0 ∧ j = 0 then 0 else if c = 36 ∧ o = 0 ∧ P ≤ j ∧ j < P + k * N then nb (gD.1 36 0 (rs g r + (j - P))) else gD.1 c o j := by
                intro c o j
                rw [← hg2, gI, cgM_1]
              have M2 : ∀ c p, g2.2.1 c p = if c = 2 ∧ P ≤ p ∧ p < P + k * N then gD.2.1 2 (rs g r + (p - P)) else gD.2.1 c p := by
                intro c p
                rw [← hg2, gI1, cgM_2]
              have M3 : g2.2.2 = gW.2.2 := by rw [← hg2, gI1, cgM_3, D3]
              have k500 := k5.mpr hbig
              refine ⟨nI a, gX, g2, ca + 0 + (ta + 0), cb2 + 0 + (tb + 0), ?_, ?_, ?_, CB_of G ⟨by rw [M3, w9], by rw [M3, w11]⟩ (by omega) (by omega)⟩
              · have hw : m_X4_whyNotDeep (some b) g = some (0, g1, ca + 0, cb2 + 0) := by
                  simp only [m_X4_whyNotDeep, m_X4_whyNotDeep_J83, cas_y hb24, hk1, if_true, r4, if_pos z22, l0, Option.bind_some, lg_cmp_le, if_pos k500, lN_i, lett, h17, F.lX, er, if_neg n10, addc_some]
                have hni2 : m_X4_nextArrayIn (b + 1) 4 g1 = some (a, gA) := hni
                have e17 : gT.1 17 b 0 = nI r := by simp [T1, W1, A1, hba, b17]
                have eS : m_X3_startOf (nI r) gT = some (nI (rs g r)) := by
                  rw [startOf_r (by rw [T3]; omega) (by rw [T3]; omega)]
                  simp [T1, W1, A1, hrR, (G.2.1 r hr).1]
                  exact (C.2.2.2.2.1 r hr).1
                have e0 : (cgX gT P (fun q => rs g r + q) (k * N)).1 0 0 0 = nI (a + 1) := by rw [cgX_f (by decide)]; simp [T1, W1, A1]
                simp only [m_X4_deep, hA, Option.bind_some, hw, if_true, unw_y hb24, hni2, chk_t hfull, eT, e17, eS, lett, hL4, e0, show nI (a + 1) - 1 = nI a from nI_pred a, m_done, hgX, addc_some]
              · have hna2 : m_X5_newArray 4 (nI b) gX = some (nI a, gB) := hna
                have hJ : m_X5_deep_J74 (nI b) 0 gX = some (nI a, g2) := by
                  by_cases hz : rl g r = 0
                  · have hN0 : N = 0 := by
                      by_cases hk0 : k = 0
                      · rw [if_pos hk0] at hNd; exact hNd.symm
                      · rcases Nat.eq_zero_or_pos N with z | z
                        · exact z
                        · have := Nat.mul_pos (show 0 < k by omega) z
                          omega
                    have d33z : gD.1 33 0 r = 0 := by rw [d33, hz]; rfl
                    have z0 : (0 : Int64).toInt32 = 0 := by decide
                    subst hN0
                    rw [nl0] at hL5
                    simp only [m_X5_deep_J74, m_X5_deep_J121, if_true, hna2, Option.bind_some, hNT, chk_t cb, qb, d30, chk_t (inb_m F.r13 (by omega)), nI_clamp (show r < 2 ^ 31 by omega), d33z, lett, z0, hL5, m_yes, hg2]
                  · have hzn : ¬ nI (rl g r) = 0 := nI_ne0 (by omega) (by omega)
                    have hk0 : ¬ k = 0 := fun z => by rw [z, Nat.zero_mul] at hkN; omega
                    rw [if_neg hk0] at hNd
                    have h3b1 : ¬ 3 * a ≤ 3 * b + 1 := by omega
                    have l1 : m_X5_lengthOf (nI b) 1 gD = some (lN N) := by
                      have := X5_lengthOf (g := gD) (i := b) (d := 1) hb24 (by omega)
                      have e1 : gD.1 28 0 (3 * b + 1) = g.1 5 (b + 1) 1 := by simp [D1, B1, h3b1]; rw [sm1.1 28 0 (by omega)]; exact (lo2 1 (by omega)).1
                      have e2 : gD.1 29 0 (3 * b + 1) = g.1 6 (b + 1) 1 := by simp [D1, B1, h3b1]; rw [sm1.1 29 0 (by omega)]; exact (lo2 1 (by omega)).2
                      rw [e1, e2, hNd] at this
                      exact this
                    simp only [m_X5_deep_J74, m_X5_deep_J121, if_true, hna2, Option.bind_some, hNT, chk_t cb, qb, d30, chk_t (inb_m F.r13 (by omega)), nI_clamp (show r < 2 ^ 31 by omega), d33, if_neg hzn, l1, lN_i, lett, hL5, m_yes, hg2]
                simp only [m_X5_deep, isA m25 C.1.1 hb, Option.bind_some, if_neg n10, chk_t cb, qb, m26, if_true, m27, if_pos z22, ml0 _ smg, lg_cmp_le, if_pos k500, m25, if_neg (ne24 hfull), hJ]
              · have hsh : ∀ e, e < 2 → g2.1 5 (a + 1) e = g.1 5 (b + 1) e ∧ g2.1 6 (a + 1) e = g.1 6 (b + 1) e := fun e he => by
                  refine ⟨?_, ?_⟩
                  · simp [M1, D1, B1, X1, T1, W1, A1, he, e5]
                  · simp [M1, D1, B1, X1, T1, W1, A1, he, e6]
                have h50 := hsh 0 (by omega)
                refine RI_table (N := N) (k := k) (d2 := d) h1 C1 hn hfull hbig hN5 (by omega) ?_ ?_ ?_ ?_ ?_ (fun i z => by rw [M3]; exact W3 i z) (by omega) (by rw [M3]; exact W4) (by rw [M3]; exact W5) ?_ ⟨hd.1, ?_, ?_⟩ ?_ ?_ ⟨by omega, by omega, ?_, ?_, fun e he => ?_⟩ ?_ ?_ (fun i hi => ?_) (fun i hi => ?_) (fun q hq => ?_)
                · intro c o j ht
                  unfold Tch at ht
                  rw [M1, if_neg (by omega), if_neg (by omega), D1]
                  repeat rw [if_neg (by omega)]
                  rw [B1]
                  repeat rw [if_neg (by omega)]
                  rw [X1, if_neg (by omega), if_neg (by omega), T1]
                  repeat rw [if_neg (by omega)]
                  rw [W1 c o j (by omega), A1]
                  repeat rw [if_neg (by omega)]
                · intro p hp
                  rw [M2, M2, if_neg (by omega), if_neg (by omega), D2, D2, if_neg (by omega), if_neg (by omega), X2, X2, if_neg (by omega), if_neg (by omega), T2, T2, if_neg (by omega), if_neg (by omega)]
                  exact ⟨rfl, rfl⟩
                · refine ⟨funext fun p => ?_, funext fun p => ?_⟩
                  · rw [M2, if_neg (by omega), D2, if_neg (by omega), X2, if_neg (by omega), T2, if_neg (by omega)]
                  · rw [M2, if_neg (by omega), D2, if_neg (by omega), X2, if_neg (by omega), T2, if_neg (by omega)]
                · simp [M1, D1, B1, X1, T1, W1, A1]
                · simp [M1, D1, B1, X1, T1]
                · simp [M1, D1, B1, X1]
                · simp [M1, D1, B1, X1, T1, W1, A1, d4]
                · simp [M1, D1, B1, X1, T1, W1, A1, d22]
                · simp [M1, D1, B1, X1, T1, W1, A1]
                · simp [M1, D1, B1, X1, T1, W1, A1]
                · simp [M1, D1, B1, X1, T1, W1, A1]
                · simp [M1, D1, B1]
                · have q1 : 3 * a + e < 3 * a + 3 := by omega
                  rw [(hsh e he).1, (hsh e he).2, ← (lo2 e he).1, ← (lo2 e he).2]
                  simp [M1, D1, B1, q1]
                · simp only [rcN, h50.1, h50.2]; exact hrcd.symm
                · rw [itN_of hsh, hit2]; omega
                · have q1 : R ≤ R + i ∧ R + i < R + k := by omega
                  simp [M1, D1, B1, X1, T1, q1]
                · have q1 : S ≤ S + i ∧ S + i < S + k := by omega
                  simp [M1, D1, B1, X1, T1, q1, hi]
                · obtain ⟨s1, s2⟩ := hσ q hq
                  obtain ⟨y1, y2, y3, y4⟩ := C1.2.2.2.2.2.1 _ s1
                  have q1 : P ≤ P + q ∧ P + q < P + k * N := by omega
                  have s3 : ¬ P ≤ rs g r + q := by omega
                  refine ⟨?_, ?_⟩
                  · have l2 : g2.2.1 2 (P + q) = g1.2.1 2 (rs g r + q) := by
                      rw [M2, if_pos ⟨rfl, q1⟩, show P + q - P = q by omega, D2, if_neg (by omega), X2, if_neg (by omega), T2, if_neg (by omega)]
                    have l0 : g2.2.1 0 (P + q) = g1.2.1 0 (rs g r + q) := by
                      rw [M2, if_neg (by omega), D2, if_neg (by omega), X2, if_pos ⟨rfl, q1⟩, show P + q - P = q by omega, T2, if_neg (by omega)]
                    rw [l2, l0]; exact y1
                  · have e13 : g2.1 13 0 (P + q) = nb (g1.1 13 0 (rs g r + q)) := by
                      simp [M1, D1, B1, X1, q1, T1, s3, W1, A1]
                    rw [e13, y4 s2]; exact nb1
            · have hfa := a_full C.1.1 hfull
              subst hfa
              have e25 : (sI g 1 0 0 8).1 25 0 0 = nI 24 := C.2.1.2
              refine ⟨0, sI g 1 0 0 8, sI (sI g 1 0 0 8) 20 0 0 8, 0 + 0 + 0, 0 + 0 + 0, ?_, ?_, RI_stop h 8, CB_0 h rfl⟩
              · simp only [m_X4_deep, m_X4_whyNotDeep, m_X4_whyNotDeep_J83, hA, Option.bind_some, cas_y hb24, hk1, if_true, r4, if_pos z22, l0, lg_cmp_le, if_pos (k5.mpr hbig), lett, h17, F.lX, room_full C.2.1.1, addc_some, if_neg n80, m_stop]
              · simp only [m_X5_deep, m_X5_deep_J74, isA (g := sI g 1 0 0 8) C.2.1.2 C.1.1 hb, Option.bind_some, if_neg n10, chk_t cb, qb, e26, if_true, e27, if_pos z22, ml0 _ (SM_1 g 8), lg_cmp_le, if_pos (k5.mpr hbig), e25, if_pos (show nI 24 = (24 : Int32) from rfl), if_neg n80, m_no]
          · have k5n : ¬ lN (rcN g b) ≤ (500 : Int64) := fun z => hbig (k5.mp z)
            refine ⟨0, sI g 1 0 0 5, sI (sI g 1 0 0 5) 20 0 0 5, 0 + 0, 0 + 0, ?_, ?_, RI_stop h 5, CB_0 h rfl⟩
            · simp only [m_X4_deep, m_X4_whyNotDeep, hA, Option.bind_some, cas_y hb24, hk1, if_true, r4, if_pos z22, l0, lg_cmp_le, if_neg k5n, addc_some, if_neg n50, m_stop]
            · simp only [m_X5_deep, m_X5_deep_J74, isA (g := sI g 1 0 0 5) C.2.1.2 C.1.1 hb, Option.bind_some, if_neg n10, chk_t cb, qb, e26, if_true, e27, if_pos z22, ml0 _ (SM_1 g 5), lg_cmp_le, if_neg k5n, if_neg n50, m_no]
        · have z2n : ¬ nI rk = (2 : Int32) := fun z => h2 ((nI_eq (b := 2) (by omega) (by omega)).mp z)
          refine ⟨0, sI g 1 0 0 9, sI (sI g 1 0 0 9) 20 0 0 9, 0 + 0, 0 + 0, ?_, ?_, RI_stop h 9, CB_0 h rfl⟩
          · simp only [m_X4_deep, m_X4_whyNotDeep, hA, Option.bind_some, cas_y hb24, hk1, if_true, r4, if_neg z2n, addc_some, if_neg n90, m_stop]
          · simp only [m_X5_deep, m_X5_deep_J74, isA (g := sI g 1 0 0 9) C.2.1.2 C.1.1 hb, Option.bind_some, if_neg n10, chk_t cb, qb, e26, if_true, e27, if_neg z2n, if_neg n90, m_no]
      · rw [h16] at hk1
        exact absurd hk1 (by decide)
    · have e26 : ¬ (sI g 1 0 0 2).1 26 0 b = 1 := by
        show ¬ g.1 26 0 b = 1
        rw [kb]; exact hk1
      refine ⟨0, sI g 1 0 0 2, sI (sI g 1 0 0 2) 20 0 0 2, 0 + 0, 0 + 0, ?_, ?_, RI_stop h 2, CB_0 h rfl⟩
      · simp only [m_X4_deep, m_X4_whyNotDeep, hA, Option.bind_some, cas_y hb24, if_neg hk1, addc_some, if_neg n20, m_stop]
      · simp only [m_X5_deep, m_X5_deep_J74, isA (g := sI g 1 0 0 2) C.2.1.2 C.1.1 hb, Option.bind_some, if_neg n10, chk_t cb, qb, if_neg e26, if_neg n20, m_no]
