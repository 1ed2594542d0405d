/-! PURE: see. -/
theorem itN_of {g g2 : Gs} {t o d : Nat} (h : ∀ e, e < d → g2.1 5 t e = g.1 5 o e ∧ g2.1 6 t e = g.1 6 o e) : itN g2 t d = itN g o d := by
  rw [itN_pr, itN_pr]
  exact prN_congr d h
theorem ne0 {d : Nat} (h : d ≤ 3) : nI d = 0 ↔ d = 0 := nI_eq (b := 0) (by omega) (by omega)
theorem s_see : S_see RI := by
  intro n g x1 h hn
  obtain ⟨hcw, ⟨d, hd⟩, hk, a, R, P, S, bx, so, C⟩ := id h
  have ha := C.1
  have n70 : ¬ (7 : Int32) = 0 := by decide
  have n20 : ¬ (2 : Int32) = 0 := by decide
  have n90 : ¬ (9 : Int32) = 0 := by decide
  have n100 : ¬ (10 : Int32) = 0 := by decide
  have n80 : ¬ (8 : Int32) = 0 := by decide
  rcases arr_cases x1 C.1.1 with hx | ⟨b, hb, rfl⟩
  · refine ⟨0, sI g 1 0 0 7, sI (sI g 1 0 0 7) 20 0 0 7, 0, 0, ?_, ?_, RI_stop h 7, CB_0 h rfl⟩
    · simp only [m_X4_see, X4_arr_no C.2.1.1 hx, Option.bind_some, m_X4_whyNoRow, cas_n, if_neg n70, m_stop]
    · simp only [m_X5_see, m_X5_see_J20, m_X5_see_J45, m_X5_see_J61, why_no C hx (SM_1 g 7), Option.bind_some, if_neg n70, m_no]
  · have hA := X4_arr_yes C.2.1.1 C.1.1 hb
    have hb24 : b < 24 := by omega
    have cb := inb_m hb24 (by omega)
    have qb := nI_clamp (show b < 2 ^ 31 by omega)
    rcases arr_view C hb with ⟨kd, rk, r, hkd, h16, h26, hs, hr, h17, h30, hrl, hbx⟩ | ⟨h16, h26, hs, ht⟩
    · have hn4 : ¬ g.1 16 b 0 = 4 := by rw [h16]; exact n4 hkd
      have wX : m_X4_whyNoRow (some b) g = some 0 := by rw [(why_tab C hb (SM_r g)).1, if_neg hn4]
      have wM : ∀ gM, SM g gM → m_X5_wants (nI b) gM = some 0 := fun gM sm => by rw [(why_tab C hb sm).2, if_neg hn4]
      have F := row_f C (by omega) (SX_r g) (SM_r g) hr
      have fl := F.l5
      by_cases hd0 : d = 0
      · subst hd0
        refine ⟨0, sI g 1 0 0 9, sI (sI g 1 0 0 9) 20 0 0 9, 0, 0, ?_, ?_, RI_stop h 9, CB_0 h rfl⟩
        · simp only [m_X4_see, hA, Option.bind_some, wX, if_true, hd.2.1, if_pos (show nI 0 = 0 from rfl), m_stop]
        · have e22 : (sI g 1 0 0 9).1 22 0 0 = 0 := hd.2.2.1
          simp only [m_X5_see, m_X5_see_J20, m_X5_see_J45, m_X5_see_J61, wM _ (SM_1 g 9), Option.bind_some, if_true, e22, lett, if_neg n90, m_no]
      · have hdz : ¬ nI d = 0 := fun z => hd0 ((ne0 hd.1).mp z)
        have hit := X2_items (g := g) (o := 0) (rk := d) (by omega) hd.1 hd.2.1
        have hsi : ∀ gM, SM g gM → m_X5_shapeItems gM = some (nI (min 501 (itN g 0 d))) := fun gM sm => by
          rw [itN_pr]
          exact X5_shapeItems hd.1 (by rw [sm.1 22 0 (by omega)]; exact hd.2.2.1) (fun j hj => by rw [sm.1 23 0 (by omega), sm.1 24 0 (by omega)]; exact hd.2.2.2 j hj)
        have m30 : ∀ gM, SM g gM → gM.1 30 0 b = nI r ∧ gM.1 33 0 r = nI (rl g r) ∧ gM.1 22 0 0 = nI d ∧ gM.1 25 0 0 = nI a ∧ gM.1 26 0 b = nI kd := fun gM sm => ⟨by rw [sm.1 30 0 (by omega)]; exact h30, by rw [sm.1 33 0 (by omega)]; exact F.lM, by rw [sm.1 22 0 (by omega)]; exact hd.2.2.1, by rw [sm.1 25 0 (by omega)]; exact C.2.1.2, by rw [sm.1 26 0 (by omega)]; exact h26⟩
        have c13 := inb_m F.r13 (by omega)
        have q13 := nI_clamp (show r < 2 ^ 31 by omega)
        by_cases heq : itN g 0 d = rl g r
        · have hmin : nI (min 501 (itN g 0 d)) = nI (rl g r) := by rw [heq, Nat.min_eq_right (by omega)]
          by_cases hfull : a < 24
          · obtain ⟨g1, ca, cb2, er, G⟩ := room C hfull (x := 0) (y := 0) (by omega) (by omega)
            have er1 : m_X4_hasRoom 0 0 g = some (1, g1, ca, cb2) := er
            have C1 := Core_grw C G (by omega) (by omega)
            have h1 := RI_grw h C G (by omega) (by omega)
            have hc1 := C1.2.1
            have hc3 := C1.2.2.1
            have G6 := G.2.2.2.2.2.1
            have d4 : g1.1 4 0 0 = nI d := by rw [Grw_q G (by decide)]; exact hd.2.1
            have d22 : g1.1 22 0 0 = nI d := by rw [Grw_q G (by decide)]; exact hd.2.2.1
            have dl : ∀ j, j < 3 → g1.1 23 0 j = g1.1 5 0 j ∧ g1.1 24 0 j = g1.1 6 0 j := fun j hj => by
              rw [Grw_q G (by decide), Grw_q G (by decide), Grw_q G (by decide), Grw_q G (by decide)]
              exact hd.2.2.2 j hj
            have i16 : g1.1 16 b 0 = nI kd := by rw [Grw_q G (by decide)]; exact h16
            have i17 : g1.1 17 b 0 = nI r := by rw [Grw_q G (by decide)]; exact h17
            have i26 : g1.1 26 0 b = nI kd := by rw [Grw_q G (by decide)]; exact h26
            have i30 : g1.1 30 0 b = nI r := by rw [Grw_q G (by decide)]; exact h30
            have hni := nextIn (g := g1) (a := a) (o := 0) (rk := d) hc1.1 hfull (by omega) (by omega) hd.1 d4 (nI kd)
            generalize hgX : sI (sI (sI (niX g1 a (nI kd) 0 d) 17 a 0 (nI r)) 4 0 0 0) 1 0 0 0 = gX
            have X1 : ∀ c o j, gX.1 c o j = if c = 1 ∧ o = 0 ∧ j = 0 then 0 else if c = 4 ∧ o = 0 ∧ j = 0 then 0 else if c = 17 ∧ o = a ∧ j = 0 then nI r else if (c = 5 ∨ c = 6) ∧ o = a + 1 ∧ j < d then g1.1 c 0 j else if c = 4 ∧ o = a + 1 ∧ j = 0 then nI d else if c = 17 ∧ o = a ∧ j = 0 then -1 else if c = 16 ∧ o = a ∧ j = 0 then nI kd else if c = 0 ∧ o = 0 ∧ j = 0 then nI (a + 1) else g1.1 c o j := by
              intro c o j
              rw [← hgX, gI, gI, gI, niX_1 (by omega)]
            have X2 : gX.2 = g1.2 := by rw [← hgX]; rfl
            have sm1 : SM g1 gX := ⟨fun c o hc => by funext j; rw [X1]; repeat rw [if_neg (by omega)], by rw [X2], by rw [X2]⟩
            have smg : SM g gX := ⟨fun c o hc => (sm1.1 c o hc).trans (Grw_q G (by omega)), by rw [X2]; exact G.2.2.2.1 2 (by decide), by rw [X2]; exact G.2.2.2.1 3 (by decide)⟩
            obtain ⟨m1, m2, m3, m4, m5⟩ := m30 gX smg
            have hna := newArr0 (g := gX) (a := a) (lo := g1.1 5 0) (hi := g1.1 6 0) (rk := nI d) m4 hfull m3 (fun e he => by rw [sm1.1 23 0 (by omega), sm1.1 24 0 (by omega)]; exact dl e he) (nI kd)
            generalize hgA : naM gX a (nI kd) (nI d) (g1.1 5 0) (g1.1 6 0) = gA at hna
            have A1 : ∀ c o j, gA.1 c o j = if c = 25 ∧ o = 0 ∧ j = 0 then nI (a + 1) else if c = 29 ∧ o = 0 ∧ 3 * a ≤ j ∧ j < 3 * a + 3 then g1.1 6 0 (j - 3 * a) else if c = 28 ∧ o = 0 ∧ 3 * a ≤ j ∧ j < 3 * a + 3 then g1.1 5 0 (j - 3 * a) else if c = 27 ∧ o = 0 ∧ j = a then nI d else if c = 26 ∧ o = 0 ∧ j = a then nI kd else gX.1 c o j := by
              intro c o j
              rw [← hgA, naM_1]
            generalize hg2 : sI (sI (sI gA 30 0 a (nI r)) 22 0 0 0) 20 0 0 0 = g2
            have M1 : ∀ c o j, g2.1 c o j = if c = 20 ∧ o = 0 ∧ j = 0 then 0 else if c = 22 ∧ o = 0 ∧ j = 0 then 0 else if c = 30 ∧ o = 0 ∧ j = a then nI r else gA.1 c o j := by
              intro c o j
              rw [← hg2, gI, gI, gI]
            have M2 : g2.2 = g1.2 := by rw [← hg2, gI1, gI1, gI1, ← hgA, naM_2, X2]
            refine ⟨nI a, gX, g2, ca + 0, cb2 + 0, ?_, ?_, ?_, CB_of G ⟨by rw [M2], by rw [M2]⟩ (by omega) (by omega)⟩
            · have e17 : (niX g1 a (nI kd) 0 d).1 17 b 0 = nI r := by
                rw [niX_1 (by omega)]
                repeat rw [if_neg (by omega)]
                exact i17
              have e0 : (sI (sI (niX g1 a (nI kd) 0 d) 17 a 0 (nI r)) 4 0 0 0).1 0 0 0 = nI (a + 1) := by simp [gI, niX_1]
              simp only [m_X4_see, hA, Option.bind_some, wX, if_true, hd.2.1, if_neg hdz, hit, unw_y hb24, h17, F.lX, if_pos hmin, er1, if_neg n10, i16, hni, chk_t hfull, lett, e17, e0, show nI (a + 1) - 1 = nI a from nI_pred a, m_done, hgX, addc_some]
            · have e30 : gA.1 30 0 b = nI r := by
                rw [A1]
                repeat rw [if_neg (by omega)]
                exact m1
              simp only [m_X5_see, m_X5_see_J20, m_X5_see_J45, m_X5_see_J61, wM _ smg, Option.bind_some, if_true, m3, if_neg hdz, hsi _ smg, chk_t cb, qb, m1, chk_t c13, q13, m2, if_pos hmin, m4, if_neg (ne24 hfull), m5, hna, chk_t (inb_m hfull (by omega)), nI_clamp (show a < 2 ^ 31 by omega), lett, e30, m_yes, hg2]
            · have hsh : ∀ e, e < d → g2.1 5 (a + 1) e = g1.1 5 0 e ∧ g2.1 6 (a + 1) e = g1.1 6 0 e := fun e he => by
                refine ⟨?_, ?_⟩
                · simp [M1, A1, X1, he]
                · simp [M1, A1, X1, he]
              have hrl1 : rl g2 r = itN g2 (a + 1) d := by
                rw [itN_of hsh, itN_of (g := g) (g2 := g1) (o := 0) (fun e he => by rw [Grw_q G (by decide), Grw_q G (by decide)]; exact ⟨rfl, rfl⟩), heq]
                have : g2.1 15 0 r = g1.1 15 0 r := by simp [M1, A1, X1]
                simp only [rl, this, (G.2.1 r hr).2]
              have hbx1 : ∀ p, inRow g2 r p → bx p = decide (kd = 3) := fun p hp => by
                refine hbx p ?_
                have e1 : g2.1 15 0 r = g1.1 15 0 r := by simp [M1, A1, X1]
                have e2 : g2.1 14 0 r = g1.1 14 0 r := by simp [M1, A1, X1]
                simp only [inRow, rs, rl, e1, e2, (G.2.1 r hr).1, (G.2.1 r hr).2] at hp
                exact hp
              refine RI_new (R2 := R) (P2 := P) (S2 := S) (d2 := 0) (bx2 := bx) (so2 := so) h1 C1 hfull (by omega) (by omega) ?_ (fun p hp => by rw [M2]; exact ⟨rfl, rfl⟩) (by rw [M2]; exact ⟨rfl, rfl⟩) ?_ ?_ (fun i _ => by rw [M2]) (by omega) (fun _ _ => rfl) (fun _ _ => rfl) ?_ ⟨by omega, ?_, ?_⟩ (fun r h1 h2 => by omega) (fun p h1 h2 => by omega) ⟨⟨kd, d, by omega, ?_, ?_, ⟨by omega, hd.1, ?_, ?_, fun e he => ?_⟩, fun _ => ⟨r, hr, ?_, ?_, hrl1, hbx1⟩, fun z => by omega⟩, fun z => ?_⟩ (by rw [M2]; exact C1.2.2.2.2.2.2.2.2 a)
              · intro c o j ht
                unfold Tch at ht
                rw [M1, A1, X1]
                repeat rw [if_neg (by omega)]
              · simp [M1, A1, X1]
              · simp [M1, A1, X1, hc3]
              · simp [M1, A1, X1]
              · simp [M1, A1, X1, nl0]
              · simp [M1, nl0]
              · simp [M1, A1, X1]
              · simp [M1, A1]
              · simp [M1, A1, X1]
              · simp [M1, A1]
              · have := hd.1
                have q1 : 3 * a ≤ 3 * a + e ∧ 3 * a + e < 3 * a + 3 := by omega
                rw [(hsh e he).1, (hsh e he).2]
                simp [M1, A1, q1.2]
              · simp [M1, A1, X1]
              · simp [M1]
              · have : g2.1 16 a 0 = nI kd := by simp [M1, A1, X1]
                rw [this] at z
                exact absurd z (n4 hkd)
          · have hfa := a_full C.1.1 hfull
            subst hfa
            obtain ⟨m1, m2, m3, m4, m5⟩ := m30 _ (SM_1 g 8)
            refine ⟨0, sI g 1 0 0 8, sI (sI g 1 0 0 8) 20 0 0 8, 0, 0, ?_, ?_, RI_stop h 8, CB_0 h rfl⟩
            · simp only [m_X4_see, hA, Option.bind_some, wX, if_true, hd.2.1, if_neg hdz, hit, unw_y hb24, h17, F.lX, if_pos hmin, room_full C.2.1.1, m_stop, addc_some]
            · simp only [m_X5_see, m_X5_see_J20, m_X5_see_J45, m_X5_see_J61, wM _ (SM_1 g 8), Option.bind_some, if_true, m3, if_neg hdz, hsi _ (SM_1 g 8), chk_t cb, qb, m1, chk_t c13, q13, m2, if_pos hmin, m4, if_pos (show nI 24 = (24 : Int32) from rfl), lett, if_neg n80, m_no]
        · have hmin : ¬ nI (min 501 (itN g 0 d)) = nI (rl g r) := fun z => by
            have := (nI_eq (by omega) (by omega)).mp z
            omega
          obtain ⟨m1, m2, m3, m4, m5⟩ := m30 _ (SM_1 g 10)
          refine ⟨0, sI g 1 0 0 10, sI (sI g 1 0 0 10) 20 0 0 10, 0, 0, ?_, ?_, RI_stop h 10, CB_0 h rfl⟩
          · simp only [m_X4_see, hA, Option.bind_some, wX, if_true, hd.2.1, if_neg hdz, hit, unw_y hb24, h17, F.lX, if_neg hmin, m_stop]
          · simp only [m_X5_see, m_X5_see_J20, m_X5_see_J45, m_X5_see_J61, wM _ (SM_1 g 10), Option.bind_some, if_true, m3, if_neg hdz, hsi _ (SM_1 g 10), chk_t cb, qb, m1, chk_t c13, q13, m2, if_neg hmin, lett, if_neg n100, m_no]
    · refine ⟨0, sI g 1 0 0 2, sI (sI g 1 0 0 2) 20 0 0 2, 0, 0, ?_, ?_, RI_stop h 2, CB_0 h rfl⟩
      · simp only [m_X4_see, hA, Option.bind_some, (why_tab C hb (SM_r g)).1, if_pos h16, if_neg n20, m_stop]
      · simp only [m_X5_see, m_X5_see_J20, m_X5_see_J45, m_X5_see_J61, (why_tab C hb (SM_1 g 2)).2, if_pos h16, Option.bind_some, if_neg n20, m_no]
