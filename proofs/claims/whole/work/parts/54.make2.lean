/-! PURE: make. -/
theorem shapes {a R P S n : Nat} {bx : Nat → Bool} {so : Nat → Nat} {g g1 : Gs} {R2 P2 ca cb d : Nat} (G : Grw R P R2 P2 g g1 ca cb) (hd : Shp d g) : g1.1 4 0 0 = nI d ∧ g1.1 22 0 0 = nI d ∧ (∀ j, j < 3 → g1.1 23 0 j = g1.1 5 0 j ∧ g1.1 24 0 j = g1.1 6 0 j) ∧ (∀ e, itN g1 0 e = itN g 0 e) := by
  refine ⟨by rw [Grw_q G (by decide)]; exact hd.2.1, by rw [Grw_q G (by decide)]; exact hd.2.2.1, fun j hj => ?_, fun e => itN_congr (Grw_q G (by decide)) (Grw_q G (by decide)) e⟩
  rw [Grw_q G (by decide), Grw_q G (by decide), Grw_q G (by decide), Grw_q G (by decide)]
  exact hd.2.2.2 j hj
theorem make_plain {n a R P S kd d : Nat} {bx : Nat → Bool} {so : Nat → Nat} {g : Gs} (h : RI n g) (hn : n < 512) (C : Core a R P S bx so n g) (hd : Shp d g) (hfull : a < 24) (hkd : kd ≤ 3) (hd0 : d ≠ 0) (hN : itN g 0 d ≤ 500) : ∃ (r : Int32) (g1 g2 : Gs) (ca cb : Nat), m_X4_make (nI kd) g = some (r, g1, ca, cb) ∧ m_X5_make (nI kd) g1 = some (r, g2) ∧ RI (n + 1) g2 ∧ CB ca cb g g2 := by
  have ha := C.1
  generalize hNN : itN g 0 d = N at hN
  have hdz : ¬ nI d = 0 := fun z => hd0 ((ne0 hd.1).mp z)
  have hk4 : ¬ nI kd = (4 : Int32) := n4 hkd
  have hit := X2_items (g := g) (o := 0) (rk := d) (by omega) hd.1 hd.2.1
  rw [hNN, Nat.min_eq_right (by omega)] at hit
  obtain ⟨g1, ca, cb, er, G⟩ := room C hfull (x := 1) (y := N) (by omega) (by omega)
  have er1 : m_X4_hasRoom 1 (nI N) g = some (1, g1, ca, cb) := er
  have C1 := Core_grw C G (by omega) (by omega)
  have h1 := RI_grw h C G (by omega) (by omega)
  have hc1 := C1.2.1
  have hc3 := C1.2.2.1
  have G6 := G.2.2.2.2.2.1
  obtain ⟨d4, d22, dl, dit⟩ := shapes (a := a) (S := S) (n := n) (bx := bx) (so := so) G hd
  have hni := nextIn (g := g1) (a := a) (o := 0) (rk := d) hc1.1 hfull (by omega) (by omega) hd.1 d4 (nI kd)
  generalize hgA : niX g1 a (nI kd) 0 d = gA at hni
  have A1 : ∀ c o j, gA.1 c o j = if (c = 5 ∨ c = 6) ∧ o = a + 1 ∧ j < d then g1.1 c 0 j else if c = 4 ∧ o = a + 1 ∧ j = 0 then nI d else if c = 17 ∧ o = a ∧ j = 0 then -1 else if c = 16 ∧ o = a ∧ j = 0 then nI kd else if c = 0 ∧ o = 0 ∧ j = 0 then nI (a + 1) else g1.1 c o j := by
    intro c o j
    rw [← hgA, niX_1 (by omega)]
  have A2 : gA.2 = g1.2 := by rw [← hgA]; rfl
  have itA : itN gA (a + 1) d = N := by
    rw [itN_of (g := g1) (o := 0) (fun e he => by simp [A1, he]), dit, hNN]
  have hOwn := ownRow (g := gA) (a := a) (R := R) (P := P) (N := N) (rk := d) (kd := kd) hfull (by omega) hd.1 (by simp [A1]) (by simp [A1]) itA hN (by simp [A1, hc3.1]) (by simp [A1, hc3.2.2.1]) (by rw [A2]; omega) (by rw [A2]; omega) (by rw [A2]; omega) (by rw [A2]; omega) (by omega) (by omega)
  generalize hf : (if kd = 3 then (0 : Int32) else 1) = f at hOwn
  generalize hgX : sI (sI (sI (arX gA R P N f) 17 a 0 (nI R)) 4 0 0 0) 1 0 0 0 = gX
  have X1 : ∀ c o j, gX.1 c o j = if c = 1 ∧ o = 0 ∧ j = 0 then 0 else if c = 4 ∧ o = 0 ∧ j = 0 then 0 else if c = 17 ∧ o = a ∧ j = 0 then nI R else if c = 11 ∧ o = 0 ∧ j = 0 then nI (P + N) else if c = 12 ∧ o = 0 ∧ j = 0 then nI (R + 1) else if c = 13 ∧ o = 0 ∧ P ≤ j ∧ j < P + N then f else if c = 15 ∧ o = 0 ∧ j = R then nI N else if c = 14 ∧ o = 0 ∧ j = R then nI P else gA.1 c o j := by
    intro c o j
    rw [← hgX, gI, gI, gI, arX_1]
  have X2 : ∀ c p, gX.2.1 c p = if c = 0 ∧ P ≤ p ∧ p < P + N then 0 else g1.2.1 c p := by
    intro c p
    rw [← hgX, gI1, gI1, gI1, arX_2, A2]
  have X3 : gX.2.2 = g1.2.2 := by rw [← hgX, gI1, gI1, gI1, arX_3, A2]
  have sm1 : SM g1 gX := ⟨fun c o hc => by funext j; rw [X1, A1]; repeat rw [if_neg (by omega)], funext fun p => by rw [X2, if_neg (by omega)], funext fun p => by rw [X2, if_neg (by omega)]⟩
  have m25 : gX.1 25 0 0 = nI a := by rw [sm1.1 25 0 (by omega)]; exact hc1.2
  have m22 : gX.1 22 0 0 = nI d := by rw [sm1.1 22 0 (by omega)]; exact d22
  have mlo : ∀ e, e < 3 → gX.1 23 0 e = g1.1 5 0 e ∧ gX.1 24 0 e = g1.1 6 0 e := fun e he => by rw [sm1.1 23 0 (by omega), sm1.1 24 0 (by omega)]; exact dl e he
  have hna := newArr0 (g := gX) (a := a) (lo := g1.1 5 0) (hi := g1.1 6 0) (rk := nI d) m25 hfull m22 mlo (nI kd)
  have hsi : m_X5_shapeItems gX = some (nI N) := by
    rw [X5_shapeItems hd.1 m22 mlo, ← itN_pr, dit, hNN, Nat.min_eq_right (by omega)]
  generalize hgB : naM gX a (nI kd) (nI d) (g1.1 5 0) (g1.1 6 0) = gB at hna
  have B1 : ∀ c o j, gB.1 c o j = if c = 25 ∧ o = 0 ∧ j = 0 then nI (a + 1) else if c = 29 ∧ o = 0 ∧ 3 * a ≤ j ∧ j < 3 * a + 3 then g1.1 6 0 (j - 3 * a) else if c = 28 ∧ o = 0 ∧ 3 * a ≤ j ∧ j < 3 * a + 3 then g1.1 5 0 (j - 3 * a) else if c = 27 ∧ o = 0 ∧ j = a then nI d else if c = 26 ∧ o = 0 ∧ j = a then nI kd else gX.1 c o j := by
    intro c o j
    rw [← hgB, naM_1]
  have B2 : gB.2 = gX.2 := by rw [← hgB]; rfl
  have hNR : m_X5_newRow (nI N) gB = some (nI R, arM gB R P N) := newRow_e (by simp [B1, X1, A1, hc3.2.1]) (by simp [B1, X1, A1, hc3.2.2.2.1]) (by omega) (by omega) (by omega)
  generalize hg2 : sI (sI (sI (arM gB R P N) 30 0 a (nI R)) 22 0 0 0) 20 0 0 0 = g2
  have M1 : ∀ c o j, g2.1 c o j = if c = 20 ∧ o = 0 ∧ j = 0 then 0 else if c = 22 ∧ o = 0 ∧ j = 0 then 0 else if c = 30 ∧ o = 0 ∧ j = a then nI R else if c = 31 ∧ o = 0 ∧ j = 0 then nI (R + 1) else if c = 34 ∧ o = 0 ∧ j = 0 then nI (P + N) else if c = 36 ∧ o = 0 ∧ P ≤ j ∧ j < P + N then 0 else if c = 33 ∧ o = 0 ∧ j = R then nI N else if c = 32 ∧ o = 0 ∧ j = R then nI P else gB.1 c o j := by
    intro c o j
    rw [← hg2, gI, gI, gI, arM_1]
  have M2 : ∀ c p, g2.2.1 c p = if c = 2 ∧ P ≤ p ∧ p < P + N then 0 else if c = 0 ∧ P ≤ p ∧ p < P + N then 0 else g1.2.1 c p := by
    intro c p
    rw [← hg2, gI1, gI1, gI1, arM_2, B2, X2]
  have M3 : g2.2.2 = g1.2.2 := by rw [← hg2, gI1, gI1, gI1, arM_3, B2, X3]
  have p0 : ¬ nI kd < 0 := nI_pos (by omega)
  have p4 : nI kd ≤ 4 := nI_le (b := 4) (by omega) (by omega)
  have l500 : ¬ (500 : Int32) < nI N := nI_nlt (a := 500) (by omega) (by omega)
  refine ⟨nI a, gX, g2, ca + 0 + 0, cb + 0 + 0, ?_, ?_, ?_, CB_of G ⟨by rw [M3], by rw [M3]⟩ (by omega) (by omega)⟩
  · have hw : m_X4_whyNotMade (nI kd) g = some (0, g1, ca + 0, cb + 0) := by
      simp only [m_X4_whyNotMade, m_X4_whyNotMade_J29, m_X4_whyNotMade_J66, m_X4_whyNotMade_J84, m_X4_whyNotMade_J100, hd.2.1, if_neg hdz, if_neg hk4, hit, Option.bind_some, if_neg l500, er1, if_neg n10, addc_some]
    have e0 : (sI (sI (arX gA R P N f) 17 a 0 (nI R)) 4 0 0 0).1 0 0 0 = nI (a + 1) := by simp [gI, arX_1, A1]
    simp only [m_X4_make, m_X4_make_J56, if_neg p0, if_pos p4, hw, Option.bind_some, if_true, hni, chk_t hfull, if_neg hk4, hOwn, lett, e0, show nI (a + 1) - 1 = nI a from nI_pred a, m_done, hgX, addc_some]
  · have hw := X5_w8 (nI kd) 4 (by decide) gX
    rw [if_neg (fun z => z.elim p0 (fun q => Int32.not_lt.mpr p4 q))] at hw
    simp only [m_X5_make, m_X5_make_J42, m_X5_make_J87, m_X5_make_J134, show (4 : Int64) = lN 4 from rfl, hw, Option.bind_some, if_neg n10, m22, if_neg hdz, if_neg hk4, hsi, if_neg l500, m25, if_neg (ne24 hfull), hna, hNR, chk_t (inb_m hfull (by omega)), nI_clamp (show a < 2 ^ 31 by omega), lett, m_yes, hg2]
  · have hsh : ∀ e, e < d → g2.1 5 (a + 1) e = g1.1 5 0 e ∧ g2.1 6 (a + 1) e = g1.1 6 0 e := fun e he => by
      refine ⟨?_, ?_⟩
      · simp [M1, B1, X1, A1, he]
      · simp [M1, B1, X1, A1, he]
    refine RI_plain (N := N) (kd := kd) (rk := d) (d2 := 0) h1 C1 hn hfull hN hkd ?_ ?_ ?_ ?_ ?_ M3 (by omega) ?_ ⟨by omega, ?_, ?_⟩ ?_ ?_ ⟨by omega, hd.1, ?_, ?_, fun e he => ?_⟩ ?_ ?_ ?_
    · intro c o j ht
      unfold Tch at ht
      rw [M1, B1, X1, A1]
      repeat rw [if_neg (by omega)]
    · intro p hp
      rw [M2, M2, if_neg (by omega), if_neg (by omega), if_neg (by omega), if_neg (by omega)]
      exact ⟨rfl, rfl⟩
    · refine ⟨funext fun p => ?_, funext fun p => ?_⟩
      · rw [M2, if_neg (by omega), if_neg (by omega)]
      · rw [M2, if_neg (by omega), if_neg (by omega)]
    · simp [M1, B1, X1, A1]
    · simp [M1, B1, X1, A1, hc3.2.2.2.2]
    · simp [M1, B1, X1, A1]
    · simp [M1, B1, X1, A1, nl0]
    · simp [M1, nl0]
    · simp [M1, B1, X1, A1]
    · simp [M1, B1, X1, A1]
    · simp [M1, B1, X1, A1]
    · simp [M1, B1]
    · have := hd.1
      have q1 : 3 * a + e < 3 * a + 3 := by omega
      rw [(hsh e he).1, (hsh e he).2]
      simp [M1, B1, q1]
    · rw [itN_of hsh, dit, hNN]
    · simp [M1, B1, X1, A1]
    · intro q hq
      have q1 : P ≤ P + q ∧ P + q < P + N := by omega
      have hf01 : f = 0 ∨ f = 1 := by rw [← hf]; split <;> simp
      refine ⟨by simp [M2, q1], by simpa [M1, B1, X1, A1, q1] using hf01, fun z => ?_, fun z => ?_⟩
      · rw [if_pos z] at hf
        simp [M1, B1, X1, A1, q1, ← hf]
      · rw [if_neg z] at hf
        simp [M1, B1, X1, A1, q1, ← hf]
theorem it2 (g : Gs) (o : Nat) : itN g o 2 = lenN (g.1 5 o 0) (g.1 6 o 0) * lenN (g.1 5 o 1) (g.1 6 o 1) := by
  show 1 * lenN (g.1 5 o 0) (g.1 6 o 0) * lenN (g.1 5 o 1) (g.1 6 o 1) = _
  rw [Nat.one_mul]
/-- rows and items of a table-to-be -/
theorem kN {k L N it : Nat} (hit : it = k * L) (h5 : it ≤ 500) (hN : N = if k = 0 then 0 else L) : k * N = it ∧ N ≤ 500 := by
  by_cases hz : k = 0
  · rw [if_pos hz] at hN
    subst hN hz
    omega
  · rw [if_neg hz] at hN
    subst hN
    refine ⟨hit.symm, ?_⟩
    have := Nat.mul_le_mul_right N (show 1 ≤ k by omega)
    rw [Nat.one_mul] at this
    omega
theorem make_table {n a R P S : Nat} {bx : Nat → Bool} {so : Nat → Nat} {g : Gs} (h : RI n g) (hn : n < 512) (C : Core a R P S bx so n g) (hd : Shp 2 g) (hfull : a < 24) (hit5 : itN g 0 2 ≤ 500) (hk5 : lenN (g.1 5 0 0) (g.1 6 0 0) ≤ 500) : ∃ (r : Int32) (g1 g2 : Gs) (ca cb : Nat), m_X4_make 4 g = some (r, g1, ca, cb) ∧ m_X5_make 4 g1 = some (r, g2) ∧ RI (n + 1) g2 ∧ CB ca cb g g2 := by
  have ha := C.1
  generalize hkk : lenN (g.1 5 0 0) (g.1 6 0 0) = k at hk5
  have hit2 := it2 g 0
  rw [hkk] at hit2
  generalize hNd : (if k = 0 then 0 else lenN (g.1 5 0 1) (g.1 6 0 1)) = N
  obtain ⟨hkN, hN5⟩ := kN hit2 hit5 hNd.symm
  have hdz : ¬ nI 2 = 0 := by decide
  have hit := X2_items (g := g) (o := 0) (rk := 2) (by omega) hd.1 hd.2.1
  rw [← hkN, Nat.min_eq_right (by omega)] at hit
  have hl0 : m_X2_length 0 0 g = some (lN k) := by
    have := X2_length_in (g := g) (o := 0) (d := 0) (rk := 2) (by omega) (by omega) (by omega) hd.2.1
    rw [hkk] at this
    exact this
  obtain ⟨g1, ca, cb, er, G⟩ := room C hfull (x := k) (y := k * N) (by omega) (by omega)
  have C1 := Core_grw C G (by omega) (by omega)
  have h1 := RI_grw h C G (by omega) (by omega)
  have hc1 := C1.2.1
  have hc3 := C1.2.2.1
  have hcap := C1.2.2.2.2.2.2.2.2 a
  have G6 := G.2.2.2.2.2.1
  obtain ⟨d4, d22, dl, dit⟩ := shapes (a := a) (S := S) (n := n) (bx := bx) (so := so) G hd
  have e5 : g1.1 5 0 = g.1 5 0 := Grw_q G (by decide)
  have e6 : g1.1 6 0 = g.1 6 0 := Grw_q G (by decide)
  have hni := nextIn (g := g1) (a := a) (o := 0) (rk := 2) hc1.1 hfull (by omega) (by omega) (by omega) d4 (nI 4)
  generalize hgA : niX g1 a (nI 4) 0 2 = gA at hni
  have A1 : ∀ c o j, gA.1 c o j = if (c = 5 ∨ c = 6) ∧ o = a + 1 ∧ j < 2 then g1.1 c 0 j else if c = 4 ∧ o = a + 1 ∧ j = 0 then nI 2 else if c = 17 ∧ o = a ∧ j = 0 then -1 else if c = 16 ∧ o = a ∧ j = 0 then nI 4 else if c = 0 ∧ o = 0 ∧ j = 0 then nI (a + 1) else g1.1 c o j := by
    intro c o j
    rw [← hgA, niX_1 (by omega)]
  have A2 : gA.2 = g1.2 := by rw [← hgA]; rfl
  obtain ⟨ta, tb, eT, hta, htb⟩ := addTab (g := gA) (a := a) (R := R) (P := P) (N := N) (k := k) hfull (by simp [A1]) (by simp [rcN, A1, e5, e6, hkk]) hk5 (by simp [A1, e5, e6, hNd]) hN5 (by simp [A1, hc3.2.2.1]) (by simp [A1, hc3.1]) (by rw [A2]; omega) (by rw [A2]; omega) (by rw [A2]; omega) (by rw [A2]; omega) (by omega) (by omega) (by rw [A2]; omega)
  generalize hgW : wdR gA a k = gW at eT
  have W1 : ∀ c o j, ¬ (c = 18 ∧ o = a) → gW.1 c o j = gA.1 c o j := fun c o j z => by rw [← hgW]; exact wdR_1 gA a k c o j z
  have W2 : gW.2.1 = g1.2.1 := by rw [← hgW, wdR_2, A2]
  have W3 : ∀ i, i ≠ 500 + a → gW.2.2 i = g1.2.2 i := fun i z => by rw [← hgW, wdR_3 _ _ _ _ z, A2]
  have W4 : k ≤ gW.2.2 (500 + a) := by rw [← hgW]; exact wdR_4 gA a k
  have W5 : gW.2.2 (500 + a) ≤ 500 := by
    rw [← hgW]
    unfold wdR
    split
    · rw [A2]; exact hcap
    · show (if 500 + a = 500 + a then k else _) ≤ 500
      rw [if_pos rfl]; exact hk5
  generalize hgX : sI (sI (tbX gW a R P N k 0) 4 0 0 0) 1 0 0 0 = gX
  have X1 : ∀ c o j, gX.1 c o j = if c = 1 ∧ o = 0 ∧ j = 0 then 0 else if c = 4 ∧ o = 0 ∧ j = 0 then 0 else if c = 11 ∧ o = 0 ∧ j = 0 then nI (P + k * N) else if c = 12 ∧ o = 0 ∧ j = 0 then nI (R + k) else if c = 13 ∧ o = 0 ∧ P ≤ j ∧ j < P + k * N then 1 else if c = 14 ∧ o = 0 ∧ R ≤ j ∧ j < R + k then nI (P + (j - R) * N) else if c = 15 ∧ o = 0 ∧ R ≤ j ∧ j < R + k then nI N else if c = 18 ∧ o = a ∧ 0 ≤ j ∧ j < 0 + k then nI (R + (j - 0)) else gW.1 c o j := by
    intro c o j
    rw [← hgX, gI, gI, tbX_1]
  have X2 : ∀ c p, gX.2.1 c p = if c = 0 ∧ P ≤ p ∧ p < P + k * N then 0 else g1.2.1 c p := by
    intro c p
    rw [← hgX, gI1, gI1, tbX_2, W2]
  have X3 : gX.2.2 = gW.2.2 := by rw [← hgX, gI1, gI1, tbX_3]
  have sm1 : SM g1 gX := ⟨fun c o hc => by
    funext j
    rw [X1]
    repeat rw [if_neg (by omega)]
    rw [W1 c o j (by omega), A1]
    repeat rw [if_neg (by omega)], funext fun p => by rw [X2, if_neg (by omega)], funext fun p => by rw [X2, if_neg (by omega)]⟩
  have m25 : gX.1 25 0 0 = nI a := by rw [sm1.1 25 0 (by omega)]; exact hc1.2
  have m22 : gX.1 22 0 0 = nI 2 := by rw [sm1.1 22 0 (by omega)]; exact d22
  have mlo : ∀ e, e < 3 → gX.1 23 0 e = g1.1 5 0 e ∧ gX.1 24 0 e = g1.1 6 0 e := fun e he => by rw [sm1.1 23 0 (by omega), sm1.1 24 0 (by omega)]; exact dl e he
  have hna := newArr0 (g := gX) (a := a) (lo := g1.1 5 0) (hi := g1.1 6 0) (rk := nI 2) m25 hfull m22 mlo (nI 4)
  have hsi : m_X5_shapeItems gX = some (nI (k * N)) := by
    rw [X5_shapeItems (rk := 2) (by omega) m22 mlo, ← itN_pr, dit, ← hkN, Nat.min_eq_right (by omega)]
  generalize hgB : naM gX a (nI 4) (nI 2) (g1.1 5 0) (g1.1 6 0) = gB at hna
  have B1 : ∀ c o j, gB.1 c o j = if c = 25 ∧ o = 0 ∧ j = 0 then nI (a + 1) else if c = 29 ∧ o = 0 ∧ 3 * a ≤ j ∧ j < 3 * a + 3 then g1.1 6 0 (j - 3 * a) else if c = 28 ∧ o = 0 ∧ 3 * a ≤ j ∧ j < 3 * a + 3 then g1.1 5 0 (j - 3 * a) else if c = 27 ∧ o = 0 ∧ j = a then nI 2 else if c = 26 ∧ o = 0 ∧ j = a then nI 4 else gX.1 c o j := by
    intro c o j
    rw [← hgB, naM_1]
  have B2 : gB.2 = gX.2 := by rw [← hgB]; rfl
  have b28 : ∀ e, e < 2 → gB.1 28 0 (3 * a + e) = g1.1 5 0 e ∧ gB.1 29 0 (3 * a + e) = g1.1 6 0 e := fun e he => by
    have q1 : 3 * a + e < 3 * a + 3 := by omega
    refine ⟨by simp [B1, q1], by simp [B1, q1]⟩
  have hNT := newTab (g := gB) (a := a) (R := R) (P := P) (S := S) (N := N) (k := k) (lo := g1.1 5 0) (hi := g1.1 6 0) hfull b28 (by rw [e5, e6, hkk]) hk5 (by rw [e5, e6, hNd]) hN5 (by simp [B1, X1, W1, A1, hc3.2.1]) (by simp [B1, X1, W1, A1, hc3.2.2.2.1]) (by simp [B1, X1, W1, A1, hc3.2.2.2.2]) (by omega) (by omega) (by omega)
  generalize hg2 : sI (sI (tbM (sI gB 30 0 a (nI S)) R P S N k) 22 0 0 0) 20 0 0 0 = g2
  have M1 : ∀ c o j, g2.1 c o j = if c = 20 ∧ o = 0 ∧ j = 0 then 0 else if c = 22 ∧ o = 0 ∧ j = 0 then 0 else if c = 31 ∧ o = 0 ∧ j = 0 then nI (R + k) else if c = 34 ∧ o = 0 ∧ j = 0 then nI (P + k * N) else if c = 37 ∧ o = 0 ∧ j = 0 then nI (S + k) else if c = 36 ∧ o = 0 ∧ P ≤ j ∧ j < P + k * N then 0 else if c = 32 ∧ o = 0 ∧ R ≤ j ∧ j < R + k then nI (P + (j - R) * N) else if c = 33 ∧ o = 0 ∧ R ≤ j ∧ j < R + k then nI N else if c = 38 ∧ o = 0 ∧ S ≤ j ∧ j < S + k then nI (R + (j - S)) else if c = 30 ∧ o = 0 ∧ j = a then nI S else gB.1 c o j := by
    intro c o j
    rw [← hg2, gI, gI, tbM_1, gI]
  have M2 : ∀ c p, g2.2.1 c p = if c = 2 ∧ P ≤ p ∧ p < P + k * N then 0 else if c = 0 ∧ P ≤ p ∧ p < P + k * N then 0 else g1.2.1 c p := by
    intro c p
    rw [← hg2, gI1, gI1, tbM_2, gI1, B2, X2]
  have M3 : g2.2.2 = gW.2.2 := by rw [← hg2, gI1, gI1, tbM_3, gI1, B2, X3]
  have l500 : ¬ (500 : Int32) < nI (k * N) := nI_nlt (a := 500) (by omega) (by omega)
  have k500 : lN k ≤ (500 : Int64) := (lN_le (b := 500) (by omega) (by omega)).mpr hk5
  refine ⟨nI a, gX, g2, ca + 0 + (ta + 0), cb + 0 + (tb + 0), ?_, ?_, ?_, CB_of G ⟨by rw [M3, W3 9 (by omega)], by rw [M3, W3 11 (by omega)]⟩ (by omega) (by omega)⟩
  · have hw : m_X4_whyNotMade 4 g = some (0, g1, ca + 0, cb + 0) := by
      simp only [m_X4_whyNotMade, m_X4_whyNotMade_J29, m_X4_whyNotMade_J66, m_X4_whyNotMade_J84, m_X4_whyNotMade_J100, hd.2.1, if_neg hdz, if_true, if_pos (show nI 2 = (2 : Int32) from rfl), hit, Option.bind_some, if_neg l500, hl0, lg_cmp_le, if_pos k500, lN_i, er, if_neg n10, addc_some]
    have hni2 : m_X4_nextArrayIn 0 4 g1 = some (a, gA) := hni
    have e0 : (sI (tbX gW a R P N k 0) 4 0 0 0).1 0 0 0 = nI (a + 1) := by simp [gI, tbX_1, W1, A1]
    simp only [m_X4_make, m_X4_make_J56, if_neg (show ¬ (4 : Int32) < 0 by decide), if_pos (show (4 : Int32) ≤ 4 by decide), hw, Option.bind_some, if_true, hni2, chk_t hfull, eT, lett, e0, show nI (a + 1) - 1 = nI a from nI_pred a, m_done, hgX, addc_some]
  · have hw := X5_w8 (nI 4) 4 (by decide) gX
    rw [if_neg (by decide)] at hw
    have hw2 : m_X5_within (4 : Int32).toInt64 0 4 gX = some 1 := hw
    have hna2 : m_X5_newArray 4 (-1) gX = some (nI a, gB) := hna
    have z0 : (0 : Int32).toNatClampNeg = 0 := by decide
    have hle : m_X5_length (gX.1 23 0 0) (gX.1 24 0 0) gX = some (lN k) := by
      rw [X5_length, (mlo 0 (by omega)).1, (mlo 0 (by omega)).2, e5, e6, hkk]
    simp only [m_X5_make, m_X5_make_J42, m_X5_make_J87, m_X5_make_J134, hw2, Option.bind_some, if_neg n10, m22, if_neg hdz, if_true, if_pos (show nI 2 = (2 : Int32) from rfl), hsi, if_neg l500, chk_t (show inb (0 : Int32) 3 by decide), z0, hle, lg_cmp_le, if_pos k500, m25, if_neg (ne24 hfull), hna2, hNT, lett, m_yes, hg2]
  · have hsh : ∀ e, e < 2 → g2.1 5 (a + 1) e = g1.1 5 0 e ∧ g2.1 6 (a + 1) e = g1.1 6 0 e := fun e he => by
      refine ⟨?_, ?_⟩
      · simp [M1, B1, X1, W1, A1, he]
      · simp [M1, B1, X1, W1, A1, he]
    have h50 := hsh 0 (by omega)
    refine RI_table (N := N) (k := k) (d2 := 0) h1 C1 hn hfull hk5 hN5 (by omega) ?_ ?_ ?_ ?_ ?_ (fun i z => by rw [M3]; exact W3 i z) (by omega) (by rw [M3]; exact W4) (by rw [M3]; exact W5) ?_ ⟨by omega, ?_, ?_⟩ ?_ ?_ ⟨by omega, by omega, ?_, ?_, fun e he => ?_⟩ ?_ ?_ (fun i hi => ?_) (fun i hi => ?_) (fun q hq => ?_)
    · intro c o j ht
      unfold Tch at ht
      rw [M1, B1, X1]
      repeat rw [if_neg (by omega)]
      rw [W1 c o j (by omega), A1]
      repeat rw [if_neg (by omega)]
    · intro p hp
      rw [M2, M2, if_neg (by omega), if_neg (by omega), if_neg (by omega), if_neg (by omega)]
      exact ⟨rfl, rfl⟩
    · refine ⟨funext fun p => ?_, funext fun p => ?_⟩
      · rw [M2, if_neg (by omega), if_neg (by omega)]
      · rw [M2, if_neg (by omega), if_neg (by omega)]
    · simp [M1, B1, X1, W1, A1]
    · simp [M1, B1, X1, W1, A1]
    · simp [M1, B1, X1, W1, A1]
    · simp [M1, B1, X1, W1, A1, nl0]
    · simp [M1, nl0]
    · simp [M1, B1, X1, W1, A1]
    · simp [M1, B1, X1, W1, A1]
    · simp [M1, B1, X1, W1, A1]
    · simp [M1, B1]
    · have q1 : 3 * a + e < 3 * a + 3 := by omega
      rw [(hsh e he).1, (hsh e he).2]
      simp [M1, B1, q1]
    · simp only [rcN, h50.1, h50.2, e5, e6, hkk]
    · rw [itN_of hsh, dit]; exact hit5
    · have q1 : R ≤ R + i ∧ R + i < R + k := by omega
      simp [M1, B1, X1, q1]
    · have q1 : S ≤ S + i ∧ S + i < S + k := by omega
      simp [M1, B1, X1, q1, hi]
    · have q1 : P ≤ P + q ∧ P + q < P + k * N := by omega
      simp [M1, M2, B1, X1, q1]
theorem s_make : S_make RI := by
  intro n g x1 h hn
  obtain ⟨hcw, ⟨d, hd⟩, hk, a, R, P, S, bx, so, C⟩ := id h
  have ha := C.1
  have n90 : ¬ (9 : Int32) = 0 := by decide
  have n50 : ¬ (5 : Int32) = 0 := by decide
  have n80 : ¬ (8 : Int32) = 0 := by decide
  by_cases hout : x1 < 0 ∨ nI 4 < x1
  · refine ⟨-2000000001, g, g, 0, 0, ?_, ?_, RI_def n g h hn, CB_0 h rfl⟩
    · unfold m_X4_make m_X4_make_J9
      by_cases h1 : x1 < 0
      · rw [if_pos h1]
      · rw [if_neg h1, if_neg (show ¬ x1 ≤ 4 from Int32.not_le.mpr (hout.resolve_left h1))]
    · have := X5_w8 x1 4 (by decide) g
      rw [if_pos hout] at this
      simp only [m_X5_make, show (4 : Int64) = lN 4 from rfl, this, Option.bind_some, if_true]
  · have hwi := fun g1 => X5_w8 x1 4 (by decide) g1
    simp only [if_neg hout] at hwi
    have e4 : (4 : Int64) = lN 4 := rfl
    have p0 : ¬ x1 < 0 := fun q => hout (Or.inl q)
    have p4 : x1 ≤ 4 := Int32.not_lt.mp (fun q => hout (Or.inr q))
    obtain ⟨kd, hkd, hkx⟩ : ∃ w, w ≤ 4 ∧ x1 = nI w := nI_of2 (M := 4) (n := 4) (by decide) p0 p4
    have m22 : ∀ x, (sI g 1 0 0 x).1 22 0 0 = nI d := fun x => hd.2.2.1
    have z2 : nI d = (2 : Int32) ↔ d = 2 := nI_eq (b := 2) (by have := hd.1; omega) (by omega)
    by_cases h9 : d = 0 ∨ (x1 = 4 ∧ d ≠ 2)
    · refine ⟨0, sI g 1 0 0 9, sI (sI g 1 0 0 9) 20 0 0 9, 0 + 0, 0 + 0, ?_, ?_, RI_stop h 9, CB_0 h rfl⟩
      · have hw : m_X4_whyNotMade x1 g = some (9, g, 0, 0) := by
          unfold m_X4_whyNotMade m_X4_whyNotMade_J26
          rw [hd.2.1]
          by_cases hz : d = 0
          · rw [if_pos ((ne0 hd.1).mpr hz)]
          · obtain ⟨q1, q2⟩ := h9.resolve_left hz
            rw [if_neg (fun z => hz ((ne0 hd.1).mp z)), if_pos q1, if_neg (fun z => q2 (z2.mp z))]
        simp only [m_X4_make, if_neg p0, if_pos p4, hw, Option.bind_some, if_neg n90, m_stop, addc_some]
      · unfold m_X5_make m_X5_make_J35
        rw [e4, hwi]
        simp only [Option.bind_some, if_neg n10, m22, m_no]
        by_cases hz : d = 0
        · rw [if_pos ((ne0 hd.1).mpr hz)]
        · obtain ⟨q1, q2⟩ := h9.resolve_left hz
          rw [if_neg (fun z => hz ((ne0 hd.1).mp z)), if_pos q1, if_neg (fun z => q2 (z2.mp z))]
    · have hd0 : d ≠ 0 := fun z => h9 (Or.inl z)
      have hd2 : x1 = 4 → d = 2 := fun z => Classical.byContradiction fun q => h9 (Or.inr ⟨z, q⟩)
      have hdz : ¬ nI d = 0 := fun z => hd0 ((ne0 hd.1).mp z)
      have hit := X2_items (g := g) (o := 0) (rk := d) (by omega) hd.1 hd.2.1
      have hsi : ∀ x, m_X5_shapeItems (sI g 1 0 0 x) = some (nI (min 501 (itN g 0 d))) := fun x => by
        rw [itN_pr]
        exact X5_shapeItems hd.1 (m22 x) (fun j hj => hd.2.2.2 j hj)
      have hl0 : x1 = 4 → m_X2_length 0 0 g = some (lN (lenN (g.1 5 0 0) (g.1 6 0 0))) := fun z => by
        exact X2_length_in (g := g) (o := 0) (d := 0) (rk := d) (by omega) (by omega) hd.1 hd.2.1
      have hle : ∀ x, m_X5_length ((sI g 1 0 0 x).1 23 0 0) ((sI g 1 0 0 x).1 24 0 0) (sI g 1 0 0 x) = some (lN (lenN (g.1 5 0 0) (g.1 6 0 0))) := fun x => by
        rw [X5_length]
        have := hd.2.2.2 0 (by omega)
        have e1 : (sI g 1 0 0 x).1 23 0 0 = g.1 5 0 0 := this.1
        have e2 : (sI g 1 0 0 x).1 24 0 0 = g.1 6 0 0 := this.2
        rw [e1, e2]
      have hl64 := lenN_lt (g.1 5 0 0) (g.1 6 0 0)
      have k5 : lN (lenN (g.1 5 0 0) (g.1 6 0 0)) ≤ (500 : Int64) ↔ lenN (g.1 5 0 0) (g.1 6 0 0) ≤ 500 := pk_lLE (b := 500) (by omega) (by omega)
      have z0 : (0 : Int32).toNatClampNeg = 0 := by decide
      have hj29 : m_X4_whyNotMade x1 g = m_X4_whyNotMade_J29 x1 g := by
        unfold m_X4_whyNotMade
        rw [hd.2.1, if_neg hdz]
        by_cases q : x1 = 4
        · rw [if_pos q, if_pos (z2.mpr (hd2 q))]
        · rw [if_neg q]
      have hj42 : ∀ x, m_X5_make x1 (sI g 1 0 0 x) = m_X5_make_J42 x1 (sI g 1 0 0 x) := fun x => by
        unfold m_X5_make
        rw [e4, hwi]
        simp only [Option.bind_some, if_neg n10, m22, if_neg hdz]
        by_cases q : x1 = 4
        · rw [if_pos q, if_pos (z2.mpr (hd2 q))]
        · rw [if_neg q]
      by_cases h5 : 500 < itN g 0 d ∨ (x1 = 4 ∧ 500 < lenN (g.1 5 0 0) (g.1 6 0 0))
      · refine ⟨0, sI g 1 0 0 5, sI (sI g 1 0 0 5) 20 0 0 5, 0 + 0, 0 + 0, ?_, ?_, RI_stop h 5, CB_0 h rfl⟩
        · have hw : m_X4_whyNotMade x1 g = some (5, g, 0, 0) := by
            rw [hj29]
            unfold m_X4_whyNotMade_J29 m_X4_whyNotMade_J64
            rw [hit]
            simp only [Option.bind_some]
            by_cases q : 500 < itN g 0 d
            · rw [if_pos (show (500 : Int32) < nI (min 501 (itN g 0 d)) from nI_lt (a := 500) (by omega) (by omega))]
            · obtain ⟨q1, q2⟩ := h5.resolve_left q
              rw [if_neg (show ¬ (500 : Int32) < nI (min 501 (itN g 0 d)) from nI_nlt (a := 500) (by omega) (by omega)), if_pos q1, hl0 q1]
              simp only [Option.bind_some, lg_cmp_le]
              rw [if_neg (fun z => by have := k5.mp z; omega)]
          simp only [m_X4_make, if_neg p0, if_pos p4, hw, Option.bind_some, if_neg n50, m_stop, addc_some]
        · rw [hj42]
          unfold m_X5_make_J42 m_X5_make_J81
          rw [hsi]
          simp only [Option.bind_some, m_no]
          by_cases q : 500 < itN g 0 d
          · rw [if_pos (show (500 : Int32) < nI (min 501 (itN g 0 d)) from nI_lt (a := 500) (by omega) (by omega))]
          · obtain ⟨q1, q2⟩ := h5.resolve_left q
            rw [if_neg (show ¬ (500 : Int32) < nI (min 501 (itN g 0 d)) from nI_nlt (a := 500) (by omega) (by omega)), if_pos q1]
            simp only [chk_t (show inb (0 : Int32) 3 by decide), z0, hle, Option.bind_some, lg_cmp_le]
            rw [if_neg (fun z => by have := k5.mp z; omega)]
      · have hi5 : itN g 0 d ≤ 500 := Nat.le_of_not_lt (fun z => h5 (Or.inl z))
        have hk5 : x1 = 4 → lenN (g.1 5 0 0) (g.1 6 0 0) ≤ 500 := fun z => Nat.le_of_not_lt (fun q => h5 (Or.inr ⟨z, q⟩))
        have l500 : ¬ (500 : Int32) < nI (min 501 (itN g 0 d)) := nI_nlt (a := 500) (by omega) (by omega)
        by_cases hfull : a < 24
        · by_cases q : x1 = 4
          · have h2 := hd2 q
            subst h2
            rw [q]
            exact make_table h hn C hd hfull hi5 (hk5 q)
          · rw [hkx]
            refine make_plain h hn C hd hfull ?_ hd0 hi5
            have : kd ≠ 4 := fun z => q (by rw [hkx, z]; rfl)
            omega
        · have hfa := a_full C.1.1 hfull
          subst hfa
          refine ⟨0, sI g 1 0 0 8, sI (sI g 1 0 0 8) 20 0 0 8, 0 + 0 + 0, 0 + 0 + 0, ?_, ?_, RI_stop h 8, CB_0 h rfl⟩
          · have hw : m_X4_whyNotMade x1 g = some (8, g, 0 + 0, 0 + 0) := by
              rw [hj29]
              unfold m_X4_whyNotMade_J29 m_X4_whyNotMade_J66 m_X4_whyNotMade_J84 m_X4_whyNotMade_J100
              rw [hit]
              simp only [Option.bind_some, room_full C.2.1.1, if_true, addc_some]
              rw [if_neg l500]
              by_cases q : x1 = 4
              · rw [if_pos q, hl0 q]
                simp only [Option.bind_some, lg_cmp_le, if_pos q, if_pos (k5.mpr (hk5 q)), if_true]
              · rw [if_neg q, if_neg q]
            simp only [m_X4_make, if_neg p0, if_pos p4, hw, Option.bind_some, if_neg n80, m_stop, addc_some]
          · have e25 : (sI g 1 0 0 8).1 25 0 0 = nI 24 := C.2.1.2
            rw [hj42]
            unfold m_X5_make_J42 m_X5_make_J87
            rw [hsi]
            simp only [Option.bind_some, e25, if_pos (show nI 24 = (24 : Int32) from rfl), m_no]
            rw [if_neg l500]
            by_cases q : x1 = 4
            · rw [if_pos q]
              simp only [chk_t (show inb (0 : Int32) 3 by decide), z0, hle, Option.bind_some, lg_cmp_le, if_pos (k5.mpr (hk5 q))]
            · rw [if_neg q]
