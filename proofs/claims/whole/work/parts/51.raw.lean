/-! PURE: raw, see. -/
theorem RI_plain {n a R P S N d2 kd rk : Nat} {bx : Nat → Bool} {so : Nat → Nat} {g g2 : Gs} (h : RI n g) (C : Core a R P S bx so n g) (hn : n < 512) (ha : a < 24) (hN5 : N ≤ 500) (hkd : kd ≤ 3)
    (hF : ∀ c o j, ¬ Tch a R P S c o j → g2.1 c o j = g.1 c o j) (hL : ∀ p, p < P → g2.2.1 0 p = g.2.1 0 p ∧ g2.2.1 2 p = g.2.1 2 p) (hL1 : g2.2.1 1 = g.2.1 1 ∧ g2.2.1 3 = g.2.1 3)
    (hc : g2.1 0 0 0 = nI (a + 1) ∧ g2.1 25 0 0 = nI (a + 1)) (hk : g2.1 12 0 0 = nI (R + 1) ∧ g2.1 31 0 0 = nI (R + 1) ∧ g2.1 11 0 0 = nI (P + N) ∧ g2.1 34 0 0 = nI (P + N) ∧ g2.1 37 0 0 = nI S)
    (hN : g2.2.2 = g.2.2) (hN2 : R + 1 ≤ g.2.2 11 ∧ P + N ≤ g.2.2 9)
    (hcode : g2.1 1 0 0 = 0 ∧ g2.1 20 0 0 = 0) (hd2 : d2 ≤ 3 ∧ g2.1 4 0 0 = nI d2 ∧ g2.1 22 0 0 = nI d2)
    (hkk : g2.1 16 a 0 = nI kd ∧ g2.1 26 0 a = nI kd) (hrr : g2.1 17 a 0 = nI R ∧ g2.1 30 0 a = nI R) (hs : aShape g2 a rk) (hit : itN g2 (a + 1) rk = N)
    (hrow : g2.1 14 0 R = nI P ∧ g2.1 15 0 R = nI N ∧ g2.1 32 0 R = nI P ∧ g2.1 33 0 R = nI N)
    (hcell : ∀ q, q < N → g2.2.1 2 (P + q) = g2.2.1 0 (P + q) ∧ (g2.1 13 0 (P + q) = 0 ∨ g2.1 13 0 (P + q) = 1) ∧ (kd = 3 → g2.1 36 0 (P + q) = g2.1 13 0 (P + q)) ∧ (kd ≠ 3 → g2.1 13 0 (P + q) = 1)) : RI (n + 1) g2 := by
  have hA := C.1
  have e1 : rs g2 R = P := by simp only [rs, hrow.1]; exact nI_clamp (by omega)
  have e2 : rl g2 R = N := by simp only [rl, hrow.2.1]; exact nI_clamp (by omega)
  refine RI_new (bx2 := fun p => if P ≤ p then decide (kd = 3) else bx p) (so2 := so) h C ha (R2 := R + 1) (P2 := P + N) (S2 := S) (by omega) (by omega) hF hL hL1 hc hk (fun i _ => by rw [hN]) hN2 (fun p hp => if_neg (by omega)) (fun _ _ => rfl) hcode hd2 (fun r h1 h2 => ?_) (fun p h1 h2 => ?_) ⟨⟨kd, rk, by omega, hkk.1, hkk.2, hs, fun _ => ⟨R, by omega, hrr.1, hrr.2, by rw [e2, hit], fun p hp => ?_⟩, fun q => by omega⟩, fun q => ?_⟩ (by rw [hN]; exact C.2.2.2.2.2.2.2.2 a)
  · have : r = R := by omega
    subst this
    exact ⟨by rw [e1]; exact hrow.1, by rw [e2]; exact hrow.2.1, by omega, by omega, by rw [hrow.1, hrow.2.2.1], by rw [hrow.2.1, hrow.2.2.2]⟩
  · obtain ⟨q1, q2, q3, q4⟩ := hcell (p - P) (by omega)
    rw [show P + (p - P) = p by omega] at q1 q2 q3 q4
    refine ⟨q1, q2, fun z => ?_, fun z => ?_⟩
    · simp only [h1, if_true] at z
      exact q3 (of_decide_eq_true z)
    · simp only [h1, if_true] at z
      exact q4 (of_decide_eq_false z)
  · have : P ≤ p := by have := hp.1; omega
    simp only [this, if_true]
  · rw [hkk.1] at q
    exact absurd q (n4 hkd)
theorem a_full {a : Nat} (h1 : a ≤ 24) (h2 : ¬ a < 24) : a = 24 := by omega
theorem ne24 {a : Nat} (h : a < 24) : ¬ nI a = (24 : Int32) := fun q => by
  have := (nI_eq (b := 24) (by omega) (by omega)).mp q
  omega
theorem lenN_raw {N : Nat} (h : N ≤ 500) : lenN 0 (nI N - 1) = N := by
  unfold lenN
  have := pk_sub_toInt (a := N) (b := 1) (by omega) (by omega)
  rw [show nI N - 1 = nI N - nI 1 from rfl, this, show (0 : Int32).toInt = 0 from by decide]
  omega
theorem Grw_q {R P R2 P2 ca cb : Nat} {g g1 : Gs} (G : Grw R P R2 P2 g g1 ca cb) {c o : Nat} (z : c ≠ 13 ∧ c ≠ 14 ∧ c ≠ 15) : g1.1 c o = g.1 c o := G.1 c o z.1 z.2.1 z.2.2
theorem s_raw : S_raw RI := by
  intro n g x1 x2 h hn
  obtain ⟨hcw, hd, hk, a, R, P, S, bx, so, C⟩ := id h
  have ha := C.1
  by_cases hout : x1 < 0 ∨ nI 3 < x1
  · refine ⟨-2000000001, g, g, 0, 0, ?_, ?_, RI_def n g h hn, CB_0 h rfl⟩
    · unfold m_X4_raw m_X4_raw_J9
      by_cases h1 : x1 < 0
      · rw [if_pos h1]
      · rw [if_neg h1, if_neg (show ¬ x1 ≤ 3 from Int32.not_le.mpr (hout.resolve_left h1))]
    · have := X5_w8 x1 3 (by decide) g
      rw [if_pos hout] at this
      simp only [m_X5_raw, show (3 : Int64) = lN 3 from rfl, this, Option.bind_some, if_true]
  · obtain ⟨kd, hkd, rfl⟩ : ∃ w, w ≤ 3 ∧ x1 = nI w := nI_of2 (M := 3) (n := 3) (by decide) (fun q => hout (Or.inl q)) (Int32.not_lt.mp (fun q => hout (Or.inr q)))
    have hwi := fun g1 => X5_w8 (nI kd) 3 (by decide) g1
    simp only [if_neg hout] at hwi
    have e3 : (3 : Int64) = lN 3 := rfl
    have p0 : ¬ nI kd < 0 := fun q => hout (Or.inl q)
    have p3 : nI kd ≤ 3 := Int32.not_lt.mp (fun q => hout (Or.inr q))
    by_cases hneg : 0 ≤ x2
    · by_cases hbig : x2 ≤ 500
      · obtain ⟨N, hN, rfl⟩ := nI_of2 (x := x2) (M := 500) (n := 500) (by decide) (Int32.not_lt.mpr hneg) hbig
        by_cases hfull : a < 24
        · obtain ⟨g1, ca, cb, er, G⟩ := room C hfull (x := 1) (y := N) (by omega) (by omega)
          have er1 : m_X4_hasRoom 1 (nI N) g = some (1, g1, ca, cb) := er
          have C1 := Core_grw C G (by omega) (by omega)
          have h1 := RI_grw h C G (by omega) (by omega)
          have hc1 := C1.2.1
          have hc3 := C1.2.2.1
          have G6 := G.2.2.2.2.2.1
          obtain ⟨-, ⟨d, hd⟩, -, -⟩ := id h1
          generalize hgA : sI (sI (sI (naX g1 a (nI kd)) 5 (a + 1) 0 0) 6 (a + 1) 0 (nI N - 1)) 4 (a + 1) 0 (nI (0 + 1)) = gA
          have hAdd : m_X2_add (a + 1) 0 (nI N - 1) (naX g1 a (nI kd)) = some gA := by
            rw [← hgA]
            exact X2_add (by omega) (by omega) (by simp [naX_1, nl0]) 0 (nI N - 1)
          have A1 : ∀ c o j, gA.1 c o j = if c = 4 ∧ o = a + 1 ∧ j = 0 then nI 1 else if c = 6 ∧ o = a + 1 ∧ j = 0 then nI N - 1 else if c = 5 ∧ o = a + 1 ∧ j = 0 then 0 else if c = 17 ∧ o = a ∧ j = 0 then -1 else if c = 16 ∧ o = a ∧ j = 0 then nI kd else if c = 0 ∧ o = 0 ∧ j = 0 then nI (a + 1) else g1.1 c o j := by
            intro c o j
            rw [← hgA, gI, gI, gI, naX_1]
            grind
          have A2 : gA.2 = g1.2 := by rw [← hgA]; rfl
          have hOwn := ownRow (g := gA) (a := a) (R := R) (P := P) (N := N) (rk := 1) (kd := kd) hfull (by omega) (by omega) (by simp [A1]) (by simp [A1]) (by simp [itN, A1, lenN_raw hN]) hN (by simp [A1, hc3.1]) (by simp [A1, hc3.2.2.1]) (by rw [A2]; omega) (by rw [A2]; omega) (by rw [A2]; omega) (by rw [A2]; omega) (by omega) (by omega)
          generalize hf : (if kd = 3 then (0 : Int32) else 1) = f at hOwn
          generalize hgX : sI (sI (arX gA R P N f) 17 a 0 (nI R)) 1 0 0 0 = gX
          have X1 : ∀ c o j, gX.1 c o j = if c = 1 ∧ o = 0 ∧ j = 0 then 0 else if c = 17 ∧ o = a ∧ j = 0 then nI R else if c = 11 ∧ o = 0 ∧ j = 0 then nI (P + N) else if c = 12 ∧ o = 0 ∧ j = 0 then nI (R + 1) else if c = 13 ∧ o = 0 ∧ P ≤ j ∧ j < P + N then f else if c = 15 ∧ o = 0 ∧ j = R then nI N else if c = 14 ∧ o = 0 ∧ j = R then nI P else if c = 4 ∧ o = a + 1 ∧ j = 0 then nI 1 else if c = 6 ∧ o = a + 1 ∧ j = 0 then nI N - 1 else if c = 5 ∧ o = a + 1 ∧ j = 0 then 0 else if c = 17 ∧ o = a ∧ j = 0 then -1 else if c = 16 ∧ o = a ∧ j = 0 then nI kd else if c = 0 ∧ o = 0 ∧ j = 0 then nI (a + 1) else g1.1 c o j := by
            intro c o j
            rw [← hgX, gI, gI, arX_1, A1]
          have X2 : ∀ c p, gX.2.1 c p = if c = 0 ∧ P ≤ p ∧ p < P + N then 0 else g1.2.1 c p := by
            intro c p
            rw [← hgX, gI1, gI1, arX_2, A2]
          have X3 : gX.2.2 = g1.2.2 := by rw [← hgX, gI1, gI1, arX_3, A2]
          generalize hgB : sI (sI (sI (sI gX 26 0 a (nI kd)) 27 0 a 1) 28 0 (3 * a) 0) 29 0 (3 * a) (nI N - 1) = gB
          have B1 : ∀ c o j, gB.1 c o j = if c = 29 ∧ o = 0 ∧ j = 3 * a then nI N - 1 else if c = 28 ∧ o = 0 ∧ j = 3 * a then 0 else if c = 27 ∧ o = 0 ∧ j = a then 1 else if c = 26 ∧ o = 0 ∧ j = a then nI kd else gX.1 c o j := by
            intro c o j
            rw [← hgB, gI, gI, gI, gI]
          have B2 : gB.2 = gX.2 := by rw [← hgB]; rfl
          have hNR : m_X5_newRow (nI N) gB = some (nI R, arM gB R P N) := newRow_e (by simp [B1, X1, hc3.2.1]) (by simp [B1, X1, hc3.2.2.2.1]) (by omega) (by omega) (by omega)
          generalize hg2 : sI (sI (sI (arM gB R P N) 30 0 a (nI R)) 25 0 0 (nI (a + 1))) 20 0 0 0 = g2
          have M1 : ∀ c o j, g2.1 c o j = if c = 20 ∧ o = 0 ∧ j = 0 then 0 else if c = 25 ∧ o = 0 ∧ j = 0 then nI (a + 1) else if c = 30 ∧ o = 0 ∧ j = a then nI R else if c = 31 ∧ o = 0 ∧ j = 0 then nI (R + 1) else if c = 34 ∧ o = 0 ∧ j = 0 then nI (P + N) else if c = 36 ∧ o = 0 ∧ P ≤ j ∧ j < P + N then 0 else if c = 33 ∧ o = 0 ∧ j = R then nI N else if c = 32 ∧ o = 0 ∧ j = R then nI P else gB.1 c o j := by
            intro c o j
            rw [← hg2, gI, gI, gI, arM_1]
          have M2 : ∀ c p, g2.2.1 c p = if c = 2 ∧ P ≤ p ∧ p < P + N then 0 else if c = 0 ∧ P ≤ p ∧ p < P + N then 0 else g1.2.1 c p := by
            intro c p
            rw [← hg2, gI1, gI1, gI1, arM_2, B2, X2]
          have M3 : g2.2.2 = g1.2.2 := by rw [← hg2, gI1, gI1, gI1, arM_3, B2, X3]
          refine ⟨nI a, gX, g2, ca + 0, cb + 0, ?_, ?_, ?_, CB_of G ⟨by rw [M3], by rw [M3]⟩ (by omega) (by omega)⟩
          · have e0 : (sI (arX gA R P N f) 17 a 0 (nI R)).1 0 0 0 = nI (a + 1) := by simp [gI, arX_1, A1]
            simp only [m_X4_raw, if_neg p0, if_pos p3, if_pos hneg, if_pos hbig, er1, Option.bind_some, if_neg n10, nextArray hc1.1 hfull, chk_t hfull, hAdd, hOwn, e0, show nI (a + 1) - 1 = nI a from nI_pred a, m_done, hgX, addc_some]
          · have e25 : gX.1 25 0 0 = nI a := by simp [X1, hc1.2]
            have e3a : (3 : Int32) * nI a = nI (3 * a) := by rw [show (3 : Int32) = nI 3 from rfl, pk_mul]
            have f1 : (sI gX 26 0 a (nI kd)).1 25 0 0 = nI a := e25
            have f2 : (sI (sI gX 26 0 a (nI kd)) 27 0 a 1).1 25 0 0 = nI a := e25
            have f3 : (sI (sI (sI gX 26 0 a (nI kd)) 27 0 a 1) 28 0 (3 * a) 0).1 25 0 0 = nI a := e25
            have f4 : gB.1 25 0 0 = nI a := by simp [B1, e25]
            have f5 : (sI (arM gB R P N) 30 0 a (nI R)).1 25 0 0 = nI a := by simp [gI, arM_1, f4]
            have f6 : (sI (sI (arM gB R P N) 30 0 a (nI R)) 25 0 0 (nI (a + 1))).1 25 0 0 = nI (a + 1) := rfl
            simp only [m_X5_raw, e3, hwi, Option.bind_some, if_neg n10, if_pos hneg, if_pos hbig, e25, if_neg (ne24 hfull), chk_t (inb_m hfull (by omega)), nI_clamp (show a < 2 ^ 31 by omega), lett, f1, f2, e3a, chk_t (inb_m (show 3 * a < 72 by omega) (by omega)), nI_clamp (show 3 * a < 2 ^ 31 by omega), f3, hgB, hNR, f4, f5, nI_1, f6, nI_pred, m_yes, hg2]
          · refine RI_plain (N := N) (kd := kd) (rk := 1) (d2 := d) h1 C1 hn hfull hN hkd ?_ ?_ ?_ ?_ ?_ M3 (by omega) ?_ ⟨hd.1, ?_, ?_⟩ ?_ ?_ ?_ ?_ ?_ ?_
            · intro c o j ht
              unfold Tch at ht
              rw [M1, B1, X1]
              repeat rw [if_neg (by omega)]
            · intro p hp
              rw [M2, M2, if_neg (by omega), if_neg (by omega), if_neg (by omega), if_neg (by omega)]
              exact ⟨rfl, rfl⟩
            · refine ⟨funext fun p => ?_, funext fun p => ?_⟩
              · rw [M2, if_neg (by omega), if_neg (by omega)]
              · rw [M2, if_neg (by omega), if_neg (by omega)]
            · simp [M1, B1, X1]
            · simp [M1, B1, X1, hc3.2.2.2.2]
            · simp [M1, B1, X1]
            · simp [M1, B1, X1, hd.2.1]
            · simp [M1, B1, X1, hd.2.2.1]
            · simp [M1, B1, X1]
            · simp [M1, B1, X1]
            · refine ⟨by omega, by omega, by simp [M1, B1, X1], by simp [M1, B1, X1, nl1], fun e he => ?_⟩
              have : e = 0 := by omega
              subst this
              simp [M1, B1, X1]
            · simp [itN, M1, B1, X1, lenN_raw hN]
            · simp [M1, B1, X1]
            · intro q hq
              have q1 : P ≤ P + q ∧ P + q < P + N := by omega
              have hf01 : f = 0 ∨ f = 1 := by rw [← hf]; split <;> simp
              refine ⟨by simp [M2, q1], by simpa [M1, B1, X1, q1] using hf01, fun z => ?_, fun z => ?_⟩
              · rw [if_pos z] at hf
                simp [M1, B1, X1, q1, ← hf]
              · rw [if_neg z] at hf
                simp [M1, B1, X1, q1, ← hf]
        · have hfa := a_full C.1.1 hfull
          subst hfa
          refine ⟨0, sI g 1 0 0 8, sI (sI g 1 0 0 8) 20 0 0 8, 0, 0, ?_, ?_, RI_stop h 8, CB_0 h rfl⟩
          · simp only [m_X4_raw, if_neg p0, if_pos p3, if_pos hneg, if_pos hbig, room_full C.2.1.1, Option.bind_some, if_true, m_stop, addc_some]
          · have e25 : (sI g 1 0 0 8).1 25 0 0 = nI 24 := C.2.1.2
            simp only [m_X5_raw, e3, hwi, Option.bind_some, if_neg n10, if_pos hneg, if_pos hbig, e25, if_pos (show nI 24 = (24 : Int32) from rfl), m_no]
      · refine ⟨0, sI g 1 0 0 5, sI (sI g 1 0 0 5) 20 0 0 5, 0, 0, ?_, ?_, RI_stop h 5, CB_0 h rfl⟩
        · simp only [m_X4_raw, if_neg p0, if_pos p3, if_pos hneg, if_neg hbig, Option.bind_some, m_stop]
        · simp only [m_X5_raw, e3, hwi, Option.bind_some, if_neg n10, if_pos hneg, if_neg hbig, m_no]
    · refine ⟨0, sI g 1 0 0 4, sI (sI g 1 0 0 4) 20 0 0 4, 0, 0, ?_, ?_, RI_stop h 4, CB_0 h rfl⟩
      · simp only [m_X4_raw, if_neg p0, if_pos p3, if_neg hneg, Option.bind_some, m_stop]
      · simp only [m_X5_raw, e3, hwi, Option.bind_some, if_neg n10, if_neg hneg, m_no]
