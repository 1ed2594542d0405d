/-! PURE: turn. -/
theorem it_tri (g : Gs) (o rk : Nat) (h : rk = 2 ∨ rk = 3) : itN g o rk = lenN (g.1 5 o 0) (g.1 6 o 0) * lenN (g.1 5 o 1) (g.1 6 o 1) * (if rk = 3 then lenN (g.1 5 o 2) (g.1 6 o 2) else 1) := by
  rcases h with rfl | rfl
  · show 1 * lenN (g.1 5 o 0) (g.1 6 o 0) * lenN (g.1 5 o 1) (g.1 6 o 1) = _
    rw [Nat.one_mul, if_neg (by decide), Nat.mul_one]
  · show 1 * lenN (g.1 5 o 0) (g.1 6 o 0) * lenN (g.1 5 o 1) (g.1 6 o 1) * lenN (g.1 5 o 2) (g.1 6 o 2) = _
    rw [Nat.one_mul, if_pos rfl]
theorem tri_bd {A B D N : Nat} (h : N = A * B * D) (h0 : 0 < N) (h5 : N ≤ 500) : A ≤ 500 ∧ B ≤ 500 ∧ D ≤ 500 ∧ 0 < A ∧ 0 < B ∧ 0 < D := by
  have hD : 0 < D := by
    rcases Nat.eq_zero_or_pos D with z | z
    · rw [z, Nat.mul_zero] at h; omega
    · exact z
  have hAB : 0 < A * B := by
    rcases Nat.eq_zero_or_pos (A * B) with z | z
    · rw [z, Nat.zero_mul] at h; omega
    · exact z
  have hA : 0 < A := Nat.pos_of_mul_pos_right hAB
  have hB : 0 < B := Nat.pos_of_mul_pos_left hAB
  have h1 : A * B ≤ A * B * D := Nat.le_mul_of_pos_right _ hD
  have h2 : A ≤ A * B := Nat.le_mul_of_pos_right _ hB
  have h3 : B ≤ A * B := Nat.le_mul_of_pos_left _ hA
  have h4 : D ≤ A * B * D := Nat.le_mul_of_pos_left _ hAB
  omega
theorem findTurned {g : Gs} {b r rk s N A B D : Nat} (hb : b < 24) (hrk : rk = 2 ∨ rk = 3) (h4 : g.1 4 (b + 1) 0 = nI rk) (h17 : g.1 17 b 0 = nI r) (hL : m_X3_lengthOf (nI r) g = some (nI N)) (hS : m_X3_startOf (nI r) g = some (nI s)) (hA : A = lenN (g.1 5 (b + 1) 0) (g.1 6 (b + 1) 0)) (hB : B = lenN (g.1 5 (b + 1) 1) (g.1 6 (b + 1) 1)) (hD : D = if rk = 3 then lenN (g.1 5 (b + 1) 2) (g.1 6 (b + 1) 2) else 1) (hN : N = A * B * D) (hN5 : N ≤ 500) : ∃ gS, m_X4_findTurned b g = some gS ∧ (∀ c o, c ≠ 3 → gS.1 c o = g.1 c o) ∧ gS.2 = g.2 ∧ ∀ p, p < N → gS.1 3 0 p = nI (s + trn A B D p) := by
  by_cases hz : N = 0
  · refine ⟨g, ?_, fun _ _ _ => rfl, rfl, fun p hp => by omega⟩
    have : nI N = 0 := by rw [hz]; rfl
    simp only [m_X4_findTurned, chk_t hb, h17, hL, Option.bind_some, if_pos this]
  · obtain ⟨b1, b2, b3, p1, p2, p3⟩ := tri_bd hN (by omega) hN5
    have hz2 : ¬ nI N = 0 := nI_ne0 (by omega) (by omega)
    have l0 : m_X2_length (b + 1) 0 g = some (lN A) := by rw [hA]; exact X2_length_in (g := g) (o := b + 1) (d := 0) (by omega) (by omega) (by omega) h4
    have l1 : m_X2_length (b + 1) 1 g = some (lN B) := by rw [hB]; exact X2_length_in (g := g) (o := b + 1) (d := 1) (by omega) (by omega) (by omega) h4
    have l2 : m_X2_length (b + 1) 2 g = some (lN D) := by
      rw [hD]
      rcases hrk with rfl | rfl
      · rw [if_neg (by decide)]
        exact X2_length_out (g := g) (o := b + 1) (d := 2) (by omega) (by omega) (by omega) h4
      · rw [if_pos rfl]
        exact X2_length_in (g := g) (o := b + 1) (d := 2) (by omega) (by omega) (by omega) h4
    have hBAD : B * (A * D) = N := by rw [hN, ← Nat.mul_assoc, Nat.mul_comm B A]
    have ht := turn_y (A := A) (B := B) (D := D) (s := s) b3 b1 b2 B 0 FU g 0 (by omega) (FU_big (by omega)) (by simp) (by omega)
    rw [nl0, hBAD, Nat.zero_add] at ht
    refine ⟨stF g (fun j => nI (s + trn A B D j)) 0 N, ?_, fun c o hc => ?_, rfl, fun p hp => ?_⟩
    · simp only [m_X4_findTurned, chk_t hb, h17, hL, Option.bind_some, if_neg hz2, l0, l1, l2, lN_i, lett, hS, ht]
    · funext j
      rw [stF_1, if_neg (by omega)]
    · rw [stF_1, if_pos (by omega)]
def swX (g : Gs) (o : Nat) : Gs := sI (sI (sI (sI g 5 o 0 (g.1 5 o 1)) 6 o 0 (g.1 6 o 1)) 5 o 1 (g.1 5 o 0)) 6 o 1 (g.1 6 o 0)
theorem swX_1 (g : Gs) (o c o2 j : Nat) : (swX g o).1 c o2 j = if c = 6 ∧ o2 = o ∧ j = 1 then g.1 6 o 0 else if c = 5 ∧ o2 = o ∧ j = 1 then g.1 5 o 0 else if c = 6 ∧ o2 = o ∧ j = 0 then g.1 6 o 1 else if c = 5 ∧ o2 = o ∧ j = 0 then g.1 5 o 1 else g.1 c o2 j := by
  rw [swX, gI, gI, gI, gI]
theorem swX_2 (g : Gs) (o : Nat) : (swX g o).2 = g.2 := rfl
theorem swap2 {g : Gs} {o : Nat} (ho : o < 25) : m_X2_swapFirstTwo o g = some (swX g o) := by
  have z0 : (0 : Int32).toNatClampNeg = 0 := by decide
  have z1 : (1 : Int32).toNatClampNeg = 1 := by decide
  have e6 : (sI g 5 o 0 (g.1 5 o 1)).1 6 o 1 = g.1 6 o 1 := by simp [gI]
  simp only [m_X2_swapFirstTwo, chk_t ho, chk_t (show inb (0 : Int32) 3 by decide), chk_t (show inb (1 : Int32) 3 by decide), z0, z1, lett, e6]
  rfl
def sw01 (f : Nat → Int32) (e : Nat) : Int32 := if e = 0 then f 1 else if e = 1 then f 0 else f e
theorem pr_sw {lo hi : Nat → Int32} {rk : Nat} (h : rk = 2 ∨ rk = 3) : prN (sw01 lo) (sw01 hi) rk = prN lo hi rk := by
  rcases h with rfl | rfl
  · show 1 * lenN (lo 1) (hi 1) * lenN (lo 0) (hi 0) = 1 * lenN (lo 0) (hi 0) * lenN (lo 1) (hi 1)
    rw [Nat.one_mul, Nat.one_mul, Nat.mul_comm]
  · show 1 * lenN (lo 1) (hi 1) * lenN (lo 0) (hi 0) * lenN (lo 2) (hi 2) = 1 * lenN (lo 0) (hi 0) * lenN (lo 1) (hi 1) * lenN (lo 2) (hi 2)
    rw [Nat.one_mul, Nat.one_mul, Nat.mul_comm (lenN (lo 1) (hi 1))]
theorem s_turn : S_turn RI := by
  intro n g x1 h hn
  obtain ⟨hcw, ⟨d, hd⟩, hk0, a, R, P, S, bx, so, C⟩ := id h
  have ha := C.1
  have n70 : ¬ (7 : Int32) = 0 := by decide
  have n20 : ¬ (2 : Int32) = 0 := by decide
  have n80 : ¬ (8 : Int32) = 0 := by decide
  have n90 : ¬ (9 : Int32) = 0 := by decide
  rcases arr_cases x1 C.1.1 with hx | ⟨b, hb, rfl⟩
  · refine ⟨0, sI g 1 0 0 7, sI (sI g 1 0 0 7) 20 0 0 7, 0, 0, ?_, ?_, RI_stop h 7, CB_0 h rfl⟩
    · simp only [m_X4_turn, X4_arr_no C.2.1.1 hx, Option.bind_some, m_X4_whyNoRow, cas_n, if_neg n70, m_stop]
    · simp only [m_X5_turn, m_X5_turn_J23, m_X5_turn_J39, why_no C hx (SM_1 g 7), Option.bind_some, if_neg n70, m_no]
  · have hA := X4_arr_yes C.2.1.1 C.1.1 hb
    have hb24 : b < 24 := by omega
    have cb := inb_m hb24 (by omega)
    have qb := nI_clamp (show b < 2 ^ 31 by omega)
    rcases arr_view C hb with ⟨kd, rk, r, hkd, h16, h26, hs, hr, h17, h30, hrl, hbx⟩ | ⟨h16, h26, hs, ht⟩
    · have hn4 : ¬ g.1 16 b 0 = 4 := by rw [h16]; exact n4 hkd
      have wX : m_X4_whyNoRow (some b) g = some 0 := by rw [(why_tab C hb (SM_r g)).1, if_neg hn4]
      have wM : ∀ gM, SM g gM → m_X5_wants (nI b) gM = some 0 := fun gM sm => by rw [(why_tab C hb sm).2, if_neg hn4]
      have r4 := hs.2.2.1
      have r27 := hs.2.2.2.1
      have hrk1 := hs.1
      have hrk3 := hs.2.1
      have F := row_f C (by omega) (SX_r g) (SM_r g) hr
      have f5 := F.l5
      have hge : ((2 : Int32) ≤ nI rk) ↔ 2 ≤ rk := nI_leI (a := 2) (by omega) (by omega)
      have heq1 : (nI rk = (1 : Int32)) ↔ rk = 1 := nI_eq (b := 1) (by omega) (by omega)
      by_cases h2 : 2 ≤ rk
      · have hrk : rk = 2 ∨ rk = 3 := by omega
        have hne1 : ¬ nI rk = (1 : Int32) := fun z => by have := heq1.mp z; omega
        by_cases hfull : a < 24
        · have hitri := it_tri g (b + 1) rk hrk
          rw [← hrl] at hitri
          generalize hAd : lenN (g.1 5 (b + 1) 0) (g.1 6 (b + 1) 0) = A at hitri
          generalize hBd : lenN (g.1 5 (b + 1) 1) (g.1 6 (b + 1) 1) = B at hitri
          generalize hDd : (if rk = 3 then lenN (g.1 5 (b + 1) 2) (g.1 6 (b + 1) 2) else 1) = D at hitri
          generalize hNN : rl g r = N at *
          have wr := (C.2.2.2.2.1 r hr).2.2.2.1
          rw [hNN] at wr
          obtain ⟨g1, ca, cb2, er, G⟩ := room C hfull (x := 1) (y := N) (by omega) (by omega)
          have er1 : m_X4_hasRoom 1 (nI N) g = some (1, g1, ca, cb2) := er
          have C1 := Core_grw C G (by omega) (by omega)
          have h1 := RI_grw h C G (by omega) (by omega)
          have hc1 := C1.2.1
          have hc3 := C1.2.2.1
          have G6 := G.2.2.2.2.2.1
          obtain ⟨d4, d22, dl, dit⟩ := shapes (a := a) (S := S) (n := n) (bx := bx) (so := so) G hd
          have b4 : g1.1 4 (b + 1) 0 = nI rk := by rw [Grw_q G (by decide)]; exact r4
          have e5 : g1.1 5 (b + 1) = g.1 5 (b + 1) := Grw_q G (by decide)
          have e6 : g1.1 6 (b + 1) = g.1 6 (b + 1) := Grw_q G (by decide)
          have b16 : g1.1 16 b 0 = nI kd := by rw [Grw_q G (by decide)]; exact h16
          have b17 : g1.1 17 b 0 = nI r := by rw [Grw_q G (by decide)]; exact h17
          have w14 : g1.1 14 0 r = nI (rs g r) := by rw [(G.2.1 r hr).1]; exact (C.2.2.2.2.1 r hr).1
          have w15 : g1.1 15 0 r = nI N := by rw [(G.2.1 r hr).2, (C.2.2.2.2.1 r hr).2.1, hNN]
          have hLr : m_X3_lengthOf (nI r) g1 = some (nI N) := by rw [lengthOf_r (by omega) (by omega), w15]
          have hSr : m_X3_startOf (nI r) g1 = some (nI (rs g r)) := by rw [startOf_r (by omega) (by omega), w14]
          obtain ⟨gS, eS, S1, S2, S3⟩ := findTurned (g := g1) (b := b) (r := r) (rk := rk) (s := rs g r) (N := N) (A := A) (B := B) (D := D) hb24 hrk b4 b17 hLr hSr (by rw [e5, e6, hAd]) (by rw [e5, e6, hBd]) (by rw [e5, e6, hDd]) hitri f5
          have hni := nextIn (g := gS) (a := a) (o := b + 1) (rk := rk) (by rw [S1 0 0 (by decide)]; exact hc1.1) hfull (by omega) (by omega) hrk3 (by rw [S1 4 _ (by decide)]; exact b4) (nI kd)
          generalize hgN : niX gS a (nI kd) (b + 1) rk = gN at hni
          have N1 : ∀ c o j, gN.1 c o j = if (c = 5 ∨ c = 6) ∧ o = a + 1 ∧ j < rk then gS.1 c (b + 1) j else if c = 4 ∧ o = a + 1 ∧ j = 0 then nI rk else if c = 17 ∧ o = a ∧ j = 0 then -1 else if c = 16 ∧ o = a ∧ j = 0 then nI kd else if c = 0 ∧ o = 0 ∧ j = 0 then nI (a + 1) else gS.1 c o j := by
            intro c o j
            rw [← hgN, niX_1 (by omega)]
          have hsw := swap2 (g := gN) (o := a + 1) (by omega)
          generalize hgA : swX gN (a + 1) = gA at hsw
          have A0 : ∀ c o j, gA.1 c o j = if c = 6 ∧ o = a + 1 ∧ j = 1 then gN.1 6 (a + 1) 0 else if c = 5 ∧ o = a + 1 ∧ j = 1 then gN.1 5 (a + 1) 0 else if c = 6 ∧ o = a + 1 ∧ j = 0 then gN.1 6 (a + 1) 1 else if c = 5 ∧ o = a + 1 ∧ j = 0 then gN.1 5 (a + 1) 1 else gN.1 c o j := by
            intro c o j
            rw [← hgA, swX_1]
          have A2 : gA.2 = g1.2 := by rw [← hgA, swX_2, ← hgN, niX_2, S2]
          have p0 : 0 < rk := by omega
          have p1 : 1 < rk := by omega
          have A1 : ∀ c o j, c ≠ 3 → gA.1 c o j = if c = 0 ∧ o = 0 ∧ j = 0 then nI (a + 1) else if c = 16 ∧ o = a ∧ j = 0 then nI kd else if c = 17 ∧ o = a ∧ j = 0 then -1 else if c = 4 ∧ o = a + 1 ∧ j = 0 then nI rk else if c = 5 ∧ o = a + 1 ∧ j < rk then sw01 (g1.1 5 (b + 1)) j else if c = 6 ∧ o = a + 1 ∧ j < rk then sw01 (g1.1 6 (b + 1)) j else g1.1 c o j := by
            intro c o j h3
            have hS0 : ∀ o j, gS.1 c o j = g1.1 c o j := fun o j => by rw [S1 c o h3]
            have hS5 : ∀ o j, gS.1 5 o j = g1.1 5 o j := fun o j => by rw [S1 5 o (by decide)]
            have hS6 : ∀ o j, gS.1 6 o j = g1.1 6 o j := fun o j => by rw [S1 6 o (by decide)]
            rw [A0, N1 c o j]
            rcases (by omega : c = 0 ∨ c = 16 ∨ c = 17 ∨ c = 4 ∨ c = 5 ∨ c = 6 ∨ (c ≠ 0 ∧ c ≠ 16 ∧ c ≠ 17 ∧ c ≠ 4 ∧ c ≠ 5 ∧ c ≠ 6)) with rfl | rfl | rfl | rfl | rfl | rfl | hc
            · simp [hS0]
            · simp [hS0]
            · simp [hS0]
            · simp [hS0]
            · by_cases q : o = a + 1
              · by_cases q0 : j = 0
                · simp [q, q0, N1, p0, p1, hS5, sw01]
                · by_cases q1 : j = 1
                  · simp [q, q1, N1, p0, p1, hS5, sw01]
                  · simp [q, q0, q1, hS5, sw01]
              · simp [q, hS0]
            · by_cases q : o = a + 1
              · by_cases q0 : j = 0
                · simp [q, q0, N1, p0, p1, hS6, sw01]
                · by_cases q1 : j = 1
                  · simp [q, q1, N1, p0, p1, hS6, sw01]
                  · simp [q, q0, q1, hS6, sw01]
              · simp [q, hS0]
            · simp [hc, hS0]
          have A3 : ∀ p, gA.1 3 0 p = gS.1 3 0 p := fun p => by
            rw [A0]
            repeat rw [if_neg (by omega)]
            rw [N1]
            repeat rw [if_neg (by omega)]
          have itA : itN gA (a + 1) rk = N := by
            rw [itN_pr, prN_congr (lo := sw01 (g1.1 5 (b + 1))) (hi := sw01 (g1.1 6 (b + 1))) rk (fun e he => by
              rw [A1 5 _ _ (by decide), A1 6 _ _ (by decide)]
              simp [he]), pr_sw hrk, ← itN_pr, itN_congr e5 e6, hrl]
          have hOwn := ownRow (g := gA) (a := a) (R := R) (P := P) (N := N) (rk := rk) (kd := kd) hfull (by omega) hrk3 (by rw [A1 16 _ _ (by decide)]; simp) (by rw [A1 4 _ _ (by decide)]; simp) itA f5 (by rw [A1 12 _ _ (by decide)]; simp [hc3.1]) (by rw [A1 11 _ _ (by decide)]; simp [hc3.2.2.1]) (by rw [A2]; omega) (by rw [A2]; omega) (by rw [A2]; omega) (by rw [A2]; omega) (by omega) (by omega)
          generalize hf : (if kd = 3 then (0 : Int32) else 1) = f at hOwn
          generalize hgO : sI (arX gA R P N f) 17 a 0 (nI R) = gO at hOwn
          have O1 : ∀ c o j, gO.1 c o j = if c = 17 ∧ o = a ∧ j = 0 then nI R else if c = 11 ∧ o = 0 ∧ j = 0 then nI (P + N) else if c = 12 ∧ o = 0 ∧ j = 0 then nI (R + 1) else if c = 13 ∧ o = 0 ∧ P ≤ j ∧ j < P + N then f else if c = 15 ∧ o = 0 ∧ j = R then nI N else if c = 14 ∧ o = 0 ∧ j = R then nI P else gA.1 c o j := by
            intro c o j
            rw [← hgO, gI, arX_1]
          have O2 : gO.2.2 = g1.2.2 := by rw [← hgO, gI1, arX_3, A2]
          have tl : ∀ q, q < N → trn A B D q < N := fun q hq => by rw [hitri] at hq ⊢; exact trn_lt hq
          have hcs := copySrc (a := a) (R := R) (P := P) (N := N) (src := fun q => rs g r + trn A B D q) (g := gO) hfull f5 (by omega) (fun p hp => by have := tl p hp; show rs g r + trn A B D p < P; omega) (by simp [O1]) (by rw [O2]; omega) (by rw [O2]; omega) (by rw [O2]; omega) (by simp [O1]) (by simp [O1]) (fun p hp => by
            rw [O1]
            repeat rw [if_neg (by omega)]
            rw [A3, S3 p hp]) (by rw [O2]; omega) (by rw [O2]; omega)
          have hσ : ∀ q, q < N → rs g r + trn A B D q < P ∧ bx (rs g r + trn A B D q) = decide (kd = 3) := fun q hq => by
            have := tl q hq
            exact ⟨by omega, hbx _ ⟨by omega, by rw [hNN]; omega⟩⟩
          generalize hσd : (fun q => rs g r + trn A B D q) = σ at hcs
          have hσ2 : ∀ q, q < N → σ q < P ∧ bx (σ q) = decide (kd = 3) := fun q hq => by rw [← hσd]; exact hσ q hq
          generalize hgC : cgX gO P σ N = gC at hcs
          obtain ⟨pX, pX2, pX3⟩ := plX_eq (g1 := g1) (gA := gA) (gX := gC) (a := a) (R := R) (P := P) (N := N) (rk := rk) (kd := nI kd) (f := f) (lo := sw01 (g1.1 5 (b + 1))) (hi := sw01 (g1.1 6 (b + 1))) (σ := σ) (fun c o j h3 _ => A1 c o j h3) A2 (fun q hq => (hσ2 q hq).1) (by rw [← hgC, hgO])
          have C13 : ∀ c o, c ≠ 13 → gC.1 c o = gO.1 c o := fun c o z => by rw [← hgC]; exact cgX_f z
          generalize hgX : sI gC 1 0 0 0 = gX
          have X1 : ∀ c o j, gX.1 c o j = if c = 1 ∧ o = 0 ∧ j = 0 then 0 else gC.1 c o j := by
            intro c o j
            rw [← hgX, gI]
          have X2 : gX.2 = gC.2 := by rw [← hgX]; rfl
          have sm1 : SM g1 gX := ⟨fun c o hc => by
            funext j
            rw [X1, if_neg (by omega), C13 c o (by omega), O1]
            repeat rw [if_neg (by omega)]
            rw [A1 c o j (by omega)]
            repeat rw [if_neg (by omega)], by rw [X2, pX2]; funext p; rw [plX_2, if_neg (by omega)], by rw [X2, pX2]; funext p; rw [plX_2, if_neg (by omega)]⟩
          have smg : SM g gX := ⟨fun c o hc => (sm1.1 c o hc).trans (Grw_q G (by omega)), sm1.2.1.trans (G.2.2.2.1 2 (by decide)), sm1.2.2.trans (G.2.2.2.1 3 (by decide))⟩
          have m25 : gX.1 25 0 0 = nI a := by rw [sm1.1 25 0 (by omega)]; exact hc1.2
          have m26 : gX.1 26 0 b = nI kd := by rw [smg.1 26 0 (by omega)]; exact h26
          have m27 : gX.1 27 0 b = nI rk := by rw [smg.1 27 0 (by omega)]; exact r27
          have lo2 : ∀ e, e < rk → g1.1 28 0 (3 * b + e) = g.1 5 (b + 1) e ∧ g1.1 29 0 (3 * b + e) = g.1 6 (b + 1) e := fun e he => by
            rw [Grw_q G (by decide), Grw_q G (by decide)]
            exact hs.2.2.2.2 e he
          have hna := newArrB (g := gX) (a := a) (b := b) (lo := fun e => g1.1 28 0 (3 * b + e)) (hi := fun e => g1.1 29 0 (3 * b + e)) (rk := nI rk) m25 hfull hb m27 (fun e he => by rw [sm1.1 28 0 (by omega), sm1.1 29 0 (by omega)]; exact ⟨rfl, rfl⟩) (nI kd)
          generalize hgB0 : naM gX a (nI kd) (nI rk) (fun e => g1.1 28 0 (3 * b + e)) (fun e => g1.1 29 0 (3 * b + e)) = gB0 at hna
          have Z1 : ∀ c o j, gB0.1 c o j = if c = 25 ∧ o = 0 ∧ j = 0 then nI (a + 1) else if c = 29 ∧ o = 0 ∧ 3 * a ≤ j ∧ j < 3 * a + 3 then g1.1 29 0 (3 * b + (j - 3 * a)) else if c = 28 ∧ o = 0 ∧ 3 * a ≤ j ∧ j < 3 * a + 3 then g1.1 28 0 (3 * b + (j - 3 * a)) else if c = 27 ∧ o = 0 ∧ j = a then nI rk else if c = 26 ∧ o = 0 ∧ j = a then nI kd else gX.1 c o j := by
            intro c o j
            rw [← hgB0, naM_1]
          have hlow : ∀ j, j < 3 * a → gB0.1 28 0 j = g1.1 28 0 j ∧ gB0.1 29 0 j = g1.1 29 0 j := fun j hj => by
            refine ⟨?_, ?_⟩
            · rw [Z1]
              repeat rw [if_neg (by omega)]
              rw [sm1.1 28 0 (by omega)]
            · rw [Z1]
              repeat rw [if_neg (by omega)]
              rw [sm1.1 29 0 (by omega)]
          generalize hgB : sI (sI (sI (sI gB0 28 0 (3 * a) (g1.1 28 0 (3 * b + 1))) 29 0 (3 * a) (g1.1 29 0 (3 * b + 1))) 28 0 (3 * a + 1) (g1.1 28 0 (3 * b))) 29 0 (3 * a + 1) (g1.1 29 0 (3 * b)) = gB
          have Y1 : ∀ c o j, gB.1 c o j = if c = 29 ∧ o = 0 ∧ j = 3 * a + 1 then g1.1 29 0 (3 * b) else if c = 28 ∧ o = 0 ∧ j = 3 * a + 1 then g1.1 28 0 (3 * b) else if c = 29 ∧ o = 0 ∧ j = 3 * a then g1.1 29 0 (3 * b + 1) else if c = 28 ∧ o = 0 ∧ j = 3 * a then g1.1 28 0 (3 * b + 1) else gB0.1 c o j := by
            intro c o j
            rw [← hgB, gI, gI, gI, gI]
          have B2 : gB.2 = gX.2 := by rw [← hgB, gI1, gI1, gI1, gI1, ← hgB0, naM_2]
          have B1 : ∀ c o j, gB.1 c o j = if c = 25 ∧ o = 0 ∧ j = 0 then nI (a + 1) else if c = 29 ∧ o = 0 ∧ 3 * a ≤ j ∧ j < 3 * a + 3 then sw01 (fun e => g1.1 29 0 (3 * b + e)) (j - 3 * a) else if c = 28 ∧ o = 0 ∧ 3 * a ≤ j ∧ j < 3 * a + 3 then sw01 (fun e => g1.1 28 0 (3 * b + e)) (j - 3 * a) else if c = 27 ∧ o = 0 ∧ j = a then nI rk else if c = 26 ∧ o = 0 ∧ j = a then nI kd else gX.1 c o j := by
            intro c o j
            rw [Y1, Z1]
            rcases (by omega : c = 28 ∨ c = 29 ∨ (c ≠ 28 ∧ c ≠ 29)) with rfl | rfl | hc
            · by_cases q : o = 0 ∧ 3 * a ≤ j ∧ j < 3 * a + 3
              · obtain ⟨rfl, q1, q2⟩ := q
                rcases (by omega : j = 3 * a ∨ j = 3 * a + 1 ∨ j = 3 * a + 2) with rfl | rfl | rfl
                · simp [sw01]
                · simp [sw01]
                · simp [sw01]
              · have q2 : ¬ (o = 0 ∧ j = 3 * a + 1) := by omega
                have q3 : ¬ (o = 0 ∧ j = 3 * a) := by omega
                simp [q, q2, q3]
            · by_cases q : o = 0 ∧ 3 * a ≤ j ∧ j < 3 * a + 3
              · obtain ⟨rfl, q1, q2⟩ := q
                rcases (by omega : j = 3 * a ∨ j = 3 * a + 1 ∨ j = 3 * a + 2) with rfl | rfl | rfl
                · simp [sw01]
                · simp [sw01]
                · simp [sw01]
              · have q2 : ¬ (o = 0 ∧ j = 3 * a + 1) := by omega
                have q3 : ¬ (o = 0 ∧ j = 3 * a) := by omega
                simp [q, q2, q3]
            · simp [hc]
          have hNR : m_X5_newRow (nI N) gB = some (nI R, arM gB R P N) := newRow_e (by rw [B1]; simp; rw [sm1.1 31 0 (by omega)]; exact hc3.2.1) (by rw [B1]; simp; rw [sm1.1 34 0 (by omega)]; exact hc3.2.2.2.1) (by omega) (by omega) (by omega)
          generalize hgD : sI (arM gB R P N) 30 0 a (nI R) = gD
          have D1 : ∀ c o j, gD.1 c o j = if c = 30 ∧ o = 0 ∧ j = a then nI R else if c = 31 ∧ o = 0 ∧ j = 0 then nI (R + 1) else if c = 34 ∧ o = 0 ∧ j = 0 then nI (P + N) else if c = 36 ∧ o = 0 ∧ P ≤ j ∧ j < P + N then 0 else if c = 33 ∧ o = 0 ∧ j = R then nI N else if c = 32 ∧ o = 0 ∧ j = R then nI P else gB.1 c o j := by
            intro c o j
            rw [← hgD, gI, arM_1]
          have hba : ¬ b = a := by omega
          have hrR : ¬ r = R := by omega
          have y30 : gB.1 30 0 b = nI r := by rw [B1]; simp; rw [smg.1 30 0 (by omega)]; exact h30
          have y33 : gB.1 33 0 r = nI N := by rw [B1]; simp; rw [smg.1 33 0 (by omega), ← hNN]; exact F.lM
          have v30 : gD.1 30 0 b = nI r := by rw [D1]; simp [hba, y30]
          have v30a : gD.1 30 0 a = nI R := by simp [D1]
          have v32 : gD.1 32 0 r = nI (rs g r) := by rw [D1]; simp [hrR]; rw [B1]; simp; rw [smg.1 32 0 (by omega)]; exact F.sM
          have v32a : gD.1 32 0 R = nI P := by simp [D1]
          have v27 : gD.1 27 0 b = nI rk := by rw [D1]; simp; rw [B1]; simp [hba]; exact m27
          have hM : ∃ gE, gE = cgM gD P σ N ∧ m_X5_turn_J39 (nI b) 0 gX = some (nI a, sI gE 20 0 0 0) := by
            refine ⟨_, rfl, ?_⟩
            have e3b : (3 : Int32) * nI b = nI (3 * b) := by rw [show (3 : Int32) = nI 3 from rfl, pk_mul]
            have e3a : (3 : Int32) * nI a = nI (3 * a) := by rw [show (3 : Int32) = nI 3 from rfl, pk_mul]
            have c3b := inb_m (show 3 * b < 72 by omega) (by omega)
            have q3b := nI_clamp (show 3 * b < 2 ^ 31 by omega)
            have c3b1 := inb_m (show 3 * b + 1 < 72 by omega) (by omega)
            have q3b1 := nI_clamp (show 3 * b + 1 < 2 ^ 31 by omega)
            have c3a := inb_m (show 3 * a < 72 by omega) (by omega)
            have q3a := nI_clamp (show 3 * a < 2 ^ 31 by omega)
            have c3a1 := inb_m (show 3 * a + 1 < 72 by omega) (by omega)
            have q3a1 := nI_clamp (show 3 * a + 1 < 2 ^ 31 by omega)
            have s1 : gB0.1 28 0 (3 * b + 1) = g1.1 28 0 (3 * b + 1) := (hlow _ (by omega)).1
            have s2 : (sI gB0 28 0 (3 * a) (g1.1 28 0 (3 * b + 1))).1 29 0 (3 * b + 1) = g1.1 29 0 (3 * b + 1) := (hlow _ (by omega)).2
            have s3 : (sI (sI gB0 28 0 (3 * a) (g1.1 28 0 (3 * b + 1))) 29 0 (3 * a) (g1.1 29 0 (3 * b + 1))).1 28 0 (3 * b) = g1.1 28 0 (3 * b) := by
              rw [gI, if_neg (by omega), gI, if_neg (by omega)]
              exact (hlow _ (by omega)).1
            have s4 : (sI (sI (sI gB0 28 0 (3 * a) (g1.1 28 0 (3 * b + 1))) 29 0 (3 * a) (g1.1 29 0 (3 * b + 1))) 28 0 (3 * a + 1) (g1.1 28 0 (3 * b))).1 29 0 (3 * b) = g1.1 29 0 (3 * b) := by
              rw [gI, if_neg (by omega), gI, if_neg (by omega), gI, if_neg (by omega)]
              exact (hlow _ (by omega)).2
            have c13 := inb_m F.r13 (by omega)
            have q13 := nI_clamp (show r < 2 ^ 31 by omega)
            by_cases hz : N = 0
            · have hzn : nI N = 0 := by rw [hz]; rfl
              obtain ⟨F0, hF0⟩ : ∃ F, FU = F + 1 := ⟨FU - 1, rfl⟩
              have hloop : ∀ y1 y2 y3 : Int32, m_X5_turn_L225 (nI b) (nI a) 0 y1 y2 y3 FU 0 gD = some gD := fun y1 y2 y3 => by
                rw [hF0, m_X5_turn_L225, if_pos (by decide)]
              have hcg : cgM gD P σ N = gD := by rw [hz, cgM_nil]
              rw [hcg]
              rw [hzn] at hNR y33
              simp only [m_X5_turn_J39, if_true, chk_t cb, qb, m26, hna, Option.bind_some, e3b, e3a, nI_1, chk_t c3b, q3b, chk_t c3b1, q3b1, chk_t c3a, q3a, chk_t c3a1, q3a1, lett, s1, s2, s3, s4, hgB, y30, chk_t c13, q13, y33, hNR, chk_t (inb_m hfull (by omega)), nI_clamp (show a < 2 ^ 31 by omega), hgD, m_X5_turn_J174, m_X5_turn_J191, m_X5_turn_J202, m_X5_turn_J220, hloop, m_yes]
            · obtain ⟨b1, b2, b3, p1, p2, p3⟩ := tri_bd hitri (by omega) f5
              have hzn : ¬ nI N = 0 := nI_ne0 (by omega) (by omega)
              have gl : ∀ e, e < rk → m_X5_lengthOf (nI b) (nI e) gD = some (lN (lenN (g.1 5 (b + 1) e) (g.1 6 (b + 1) e))) := fun e he => by
                have hx := X5_lengthOf (g := gD) (i := b) (d := e) hb24 (by omega)
                have k1 : gD.1 28 0 (3 * b + e) = g.1 5 (b + 1) e := by
                  rw [D1]
                  repeat rw [if_neg (by omega)]
                  rw [Y1]
                  repeat rw [if_neg (by omega)]
                  rw [(hlow _ (by omega)).1]
                  exact (lo2 e he).1
                have k2 : gD.1 29 0 (3 * b + e) = g.1 6 (b + 1) e := by
                  rw [D1]
                  repeat rw [if_neg (by omega)]
                  rw [Y1]
                  repeat rw [if_neg (by omega)]
                  rw [(hlow _ (by omega)).2]
                  exact (lo2 e he).2
                rw [k1, k2] at hx
                exact hx
              have g0 : m_X5_lengthOf (nI b) 0 gD = some (lN A) := by rw [← hAd]; exact gl 0 (by omega)
              have g1' : m_X5_lengthOf (nI b) 1 gD = some (lN B) := by rw [← hBd]; exact gl 1 (by omega)
              have hloop := X5_turn_L (a := a) (b := b) (r := r) (R := R) (A := A) (B := B) (D := D) (P := P) (N := N) (s := rs g r) hfull hb24 F.r13 (by omega) hitri f5 b1 b2 b3 (by omega) (by omega) N 0 FU gD (by omega) (FU_big (by omega)) ⟨v30, v32, v30a, v32a⟩
              rw [nl0, cpM_all tl, hσd] at hloop
              have hJ : m_X5_turn_J174 (nI b) (nI a) (nI N) (nI B) gD = some (nI a, sI (cgM gD P σ N) 20 0 0 0) := by
                unfold m_X5_turn_J174 m_X5_turn_J191 m_X5_turn_J202 m_X5_turn_J220
                rw [if_neg hzn]
                simp only [chk_t cb, qb, v27, if_neg hzn, g0, Option.bind_some, lN_i, lett]
                rcases hrk with rfl | rfl
                · rw [if_neg (by decide)] at hDd
                  rw [if_pos (by decide)]
                  subst hDd
                  rw [nl1] at hloop
                  rw [hloop]
                  rfl
                · rw [if_pos rfl] at hDd
                  have g2' : m_X5_lengthOf (nI b) 2 gD = some (lN D) := by rw [← hDd]; exact gl 2 (by omega)
                  rw [if_neg (by decide), g2']
                  simp only [Option.bind_some, lN_i]
                  rw [hloop]
                  rfl
              simp only [m_X5_turn_J39, if_true, chk_t cb, qb, m26, hna, Option.bind_some, e3b, e3a, nI_1, chk_t c3b, q3b, chk_t c3b1, q3b1, chk_t c3a, q3a, chk_t c3a1, q3a1, lett, s1, s2, s3, s4, hgB, y30, chk_t c13, q13, y33, hNR, chk_t (inb_m hfull (by omega)), nI_clamp (show a < 2 ^ 31 by omega), hgD, if_neg hzn, g1', lN_i, hJ]
          obtain ⟨gE, hgE, hMe⟩ := hM
          obtain ⟨pM, pM2⟩ := plM_eq (g1 := g1) (gB := gB) (gM := gE) (a := a) (R := R) (P := P) (N := N) (kd := nI kd) (rk := rk) (lo := sw01 (fun e => g1.1 28 0 (3 * b + e))) (hi := sw01 (fun e => g1.1 29 0 (3 * b + e))) (σ := σ) (fun c o j h1 h2 h3 h4 => by rw [B1, sm1.1 c o (by omega)]) (fun c hc => by
            rw [B2, X2, pX2]
            funext p
            rw [plX_2, if_neg (by omega)]) (fun q hq => (hσ2 q hq).1) (by rw [hgE, hgD])
          have E36 : ∀ c o, c ≠ 36 → gE.1 c o = gD.1 c o := fun c o z => by rw [hgE]; exact cgM_f z
          have E3 : gE.2.2 = g1.2.2 := by rw [hgE, cgM_3, ← hgD, gI1, arM_3, B2, X2, pX3]
          refine ⟨nI a, gX, sI gE 20 0 0 0, ca + 0, cb2 + 0, ?_, ?_, ?_, CB_of G ⟨by rw [gI1, E3], by rw [gI1, E3]⟩ (by omega) (by omega)⟩
          · have s16 : gS.1 16 b 0 = nI kd := by rw [S1 16 b (by decide)]; exact b16
            have e0 : gC.1 0 0 0 = nI (a + 1) := by
              rw [C13 0 0 (by decide), O1]
              repeat rw [if_neg (by omega)]
              rw [A1 0 0 0 (by decide)]
              simp
            have fl : m_X3_lengthOf (nI r) g = some (nI N) := by have := F.lX; rw [hNN] at this; exact this
            simp only [m_X4_turn, hA, Option.bind_some, wX, if_true, unw_y hb24, r4, if_pos (hge.mpr h2), h17, fl, er1, if_neg n10, eS, s16, hni, chk_t hfull, hsw, hOwn, hcs, e0, show nI (a + 1) - 1 = nI a from nI_pred a, m_done, hgX, addc_some]
          · simp only [m_X5_turn, m_X5_turn_J23, wM _ smg, Option.bind_some, if_true, chk_t cb, qb, m27, if_neg hne1, m25, if_neg (ne24 hfull), hMe]
          · have lowE : ∀ c o j, c < 20 → gE.1 c o j = gX.1 c o j := fun c o j hc => by
              rw [E36 c o (by omega), D1]
              repeat rw [if_neg (by omega)]
              rw [B1]
              repeat rw [if_neg (by omega)]
            have lonE : ∀ c, c < 2 → gE.2.1 c = gX.2.1 c := fun c hc => by
              rw [hgE]
              funext p
              rw [cgM_2, if_neg (by omega), ← hgD, gI1, arM_2, if_neg (by omega), B2]
            refine RI_copy (N := N) (kd := kd) (rk := rk) (d2 := d) (lo := sw01 (g1.1 5 (b + 1))) (hi := sw01 (g1.1 6 (b + 1))) (lo2 := sw01 (fun e => g1.1 28 0 (3 * b + e))) (hi2 := sw01 (fun e => g1.1 29 0 (3 * b + e))) (σ := σ) h1 C1 hn hfull f5 hkd ⟨by omega, hrk3⟩ ?_ ?_ hσ2 (by omega) ?_ ?_ ?_ ?_ ?_ ?_ ⟨hd.1, ?_, ?_⟩
            · rw [pr_sw hrk, ← itN_pr, itN_congr e5 e6, hrl]
            · intro e he
              have q0 := lo2 0 (by omega)
              have q1 := lo2 1 (by omega)
              have qe := lo2 e he
              rw [e5, e6]
              unfold sw01
              by_cases z0 : e = 0
              · rw [if_pos z0, if_pos z0, if_pos z0, if_pos z0]; exact q1
              · by_cases z1 : e = 1
                · rw [if_neg z0, if_neg z0, if_neg z0, if_neg z0, if_pos z1, if_pos z1, if_pos z1, if_pos z1]; exact q0
                · rw [if_neg z0, if_neg z0, if_neg z0, if_neg z0, if_neg z1, if_neg z1, if_neg z1, if_neg z1]; exact qe
            · intro c o j hc hc1 hc3 hc4
              rw [gI, if_neg (by omega), lowE c o j hc, X1, if_neg (by omega), pX c o j hc3 hc]
            · intro c o j h1 h2 h3 h4
              rw [gI, if_neg (by omega), pM c o j h1 h2 h3 h4]
            · intro p
              rw [gI1, pM2 2 (by omega), lonE 0 (by omega), X2, pX2]
              exact ⟨rfl, rfl⟩
            · rw [gI1, lonE 1 (by omega), pM2 3 (by omega), X2, pX2]
              refine ⟨funext fun p => ?_, funext fun p => ?_⟩
              · rw [plX_2, if_neg (by omega)]
              · rw [plM_2, if_neg (by omega)]
            · rw [gI1, E3]
            · rw [gI, if_neg (by omega), lowE 1 0 0 (by omega), X1, if_pos ⟨rfl, rfl, rfl⟩, gI, if_pos ⟨rfl, rfl, rfl⟩]
              exact ⟨rfl, rfl⟩
            · rw [gI, if_neg (by omega), lowE 4 0 0 (by omega), X1, if_neg (by omega), C13 4 0 (by decide), O1]
              repeat rw [if_neg (by omega)]
              rw [A1 4 0 0 (by decide)]
              repeat rw [if_neg (by omega)]
              exact d4
            · rw [gI, if_neg (by omega), E36 22 0 (by decide), D1]
              repeat rw [if_neg (by omega)]
              rw [B1]
              repeat rw [if_neg (by omega)]
              rw [sm1.1 22 0 (by omega)]
              exact d22
        · have hfa := a_full C.1.1 hfull
          subst hfa
          have e25 : (sI g 1 0 0 8).1 25 0 0 = nI 24 := C.2.1.2
          have e27 : (sI g 1 0 0 8).1 27 0 b = nI rk := r27
          refine ⟨0, sI g 1 0 0 8, sI (sI g 1 0 0 8) 20 0 0 8, 0 + 0, 0 + 0, ?_, ?_, RI_stop h 8, CB_0 h rfl⟩
          · simp only [m_X4_turn, hA, Option.bind_some, wX, if_true, unw_y hb24, r4, if_pos (hge.mpr h2), h17, F.lX, room_full C.2.1.1, addc_some, m_stop]
          · simp only [m_X5_turn, m_X5_turn_J23, m_X5_turn_J39, wM _ (SM_1 g 8), Option.bind_some, if_true, chk_t cb, qb, e27, if_neg hne1, e25, if_pos (show nI 24 = (24 : Int32) from rfl), lett, if_neg n80, m_no]
      · have h2n : ¬ (2 : Int32) ≤ nI rk := fun z => h2 (hge.mp z)
        have he1 := heq1.mpr (show rk = 1 by omega)
        have e27 : (sI g 1 0 0 9).1 27 0 b = nI rk := r27
        refine ⟨0, sI g 1 0 0 9, sI (sI g 1 0 0 9) 20 0 0 9, 0, 0, ?_, ?_, RI_stop h 9, CB_0 h rfl⟩
        · simp only [m_X4_turn, hA, Option.bind_some, wX, if_true, unw_y hb24, r4, if_neg h2n, m_stop]
        · simp only [m_X5_turn, m_X5_turn_J23, m_X5_turn_J39, wM _ (SM_1 g 9), Option.bind_some, if_true, chk_t cb, qb, e27, if_pos he1, lett, if_neg n90, m_no]
    · refine ⟨0, sI g 1 0 0 2, sI (sI g 1 0 0 2) 20 0 0 2, 0, 0, ?_, ?_, RI_stop h 2, CB_0 h rfl⟩
      · simp only [m_X4_turn, hA, Option.bind_some, (why_tab C hb (SM_r g)).1, if_pos h16, if_neg n20, m_stop]
      · simp only [m_X5_turn, m_X5_turn_J23, m_X5_turn_J39, (why_tab C hb (SM_1 g 2)).2, if_pos h16, Option.bind_some, if_neg n20, m_no]
