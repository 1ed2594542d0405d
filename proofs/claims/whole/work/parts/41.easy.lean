/-! PURE: the easy steps. -/
theorem sF (g : Gs) (c o j : Nat) (v : Int32) (c1 o1 : Nat) : (sI g c o j v).1 c1 o1 = if c1 = c ∧ o1 = o then upd (g.1 c o) j v else g.1 c1 o1 := rfl
theorem sF1 (g : Gs) (c j : Nat) (v : Int64) (c1 : Nat) : (sL g c j v).2.1 c1 = if c1 = c then vp_updL (g.2.1 c) j v else g.2.1 c1 := rfl
theorem m_done (x : Int32) (g : Gs) : m_X4_done x g = some (x, sI g 1 0 0 0) := rfl
theorem m_stop (x : Int32) (g : Gs) : m_X4_stop x g = some (0, sI g 1 0 0 x) := rfl
theorem m_tell (x y : Int32) (g : Gs) : m_X4_tell x y g = some (y, sI g 1 0 0 x) := rfl
theorem m_stopB (x : Int32) (g : Gs) : m_X4_stopBeyond x g = some (0, sI (sI g 2 0 0 x) 1 0 0 3) := rfl
theorem m_no (x : Int32) (g : Gs) : m_X5_no x g = some (0, sI g 20 0 0 x) := rfl
theorem m_yes (x : Int32) (g : Gs) : m_X5_yes x g = some (x, sI g 20 0 0 0) := rfl
theorem m_noItem (x : Int32) (g : Gs) : m_X5_noItem x g = some (0, sI (sI g 21 0 0 x) 20 0 0 3) := rfl
theorem nl0 : nI 0 = 0 := rfl
theorem nl1 : nI 1 = 1 := rfl
theorem nl2 : nI 2 = 2 := rfl
theorem nl3 : nI 3 = 3 := rfl
theorem nl4 : nI 4 = 4 := rfl
theorem chk_t {β : Type} {c : Prop} [Decidable c] {k : Option β} (h : c) : chk c k = k := if_pos h
theorem chkT {β : Type} {k : Option β} : chk True k = k := rfl
theorem inb_n {n N : Nat} (h : n < N) (hN : N < 2 ^ 31) : inb (nI n) N := vp_in_nI h hN
theorem Shp_congr {d : Nat} {g g2 : Gs} (h : Shp d g) (h4 : g2.1 4 0 = g.1 4 0) (h5 : g2.1 5 0 = g.1 5 0) (h6 : g2.1 6 0 = g.1 6 0) (h22 : g2.1 22 0 = g.1 22 0) (h23 : g2.1 23 0 = g.1 23 0) (h24 : g2.1 24 0 = g.1 24 0) : Shp d g2 := by
  unfold Shp at *
  rw [h4, h5, h6, h22, h23, h24]
  exact h
theorem Lns_congr {k : Nat} {g g2 : Gs} (h : Lns k g) (h7 : g2.1 7 0 = g.1 7 0) (h8 : g2.1 8 0 = g.1 8 0) (h9 : g2.1 9 0 = g.1 9 0) (h10 : g2.1 10 0 = g.1 10 0) (h39 : g2.1 39 0 = g.1 39 0) (h40 : g2.1 40 0 = g.1 40 0) (h41 : g2.1 41 0 = g.1 41 0) (h42 : g2.1 42 0 = g.1 42 0) (l1 : g2.2.1 1 = g.2.1 1) (l3 : g2.2.1 3 = g.2.1 3) : Lns k g2 := by
  unfold Lns at *
  rw [h7, h8, h9, h10, h39, h40, h41, h42, l1, l3]
  exact h
/-- only code, which, sources, beyond are others -/
theorem RI_cw {n : Nat} {g g2 : Gs} (h : RI n g) (hc : ∀ c o, c ≠ 1 → c ≠ 2 → c ≠ 3 → c ≠ 20 → c ≠ 21 → c ≠ 44 → g2.1 c o = g.1 c o) (h2 : g2.2 = g.2) (hcw : Cw g2) : RI (n + 1) g2 := by
  obtain ⟨h1, ⟨d, hd⟩, ⟨k, hk⟩, a, R, P, S, bx, so, C⟩ := h
  have e : ∀ c o, c ≠ 1 ∧ c ≠ 2 ∧ c ≠ 3 ∧ c ≠ 20 ∧ c ≠ 21 ∧ c ≠ 44 → g2.1 c o = g.1 c o := fun c o q => hc c o q.1 q.2.1 q.2.2.1 q.2.2.2.1 q.2.2.2.2.1 q.2.2.2.2.2
  refine ⟨hcw, ⟨d, Shp_congr hd (e _ _ (by decide)) (e _ _ (by decide)) (e _ _ (by decide)) (e _ _ (by decide)) (e _ _ (by decide)) (e _ _ (by decide))⟩, ⟨k, Lns_congr hk (e _ _ (by decide)) (e _ _ (by decide)) (e _ _ (by decide)) (e _ _ (by decide)) (e _ _ (by decide)) (e _ _ (by decide)) (e _ _ (by decide)) (e _ _ (by decide)) (by rw [h2]) (by rw [h2])⟩, a, R, P, S, bx, so, Core_n (Core_congr C (fun c o hco => ?_) (by rw [h2]) (by rw [h2]) (by rw [h2]))⟩
  refine e c o ?_
  refine ⟨?_, ?_, ?_, ?_, ?_, ?_⟩ <;> (rintro rfl; simp [coreC] at hco)
/-- both stop with the same code -/
theorem RI_stop {n : Nat} {g : Gs} (h : RI n g) (x : Int32) : RI (n + 1) (sI (sI g 1 0 0 x) 20 0 0 x) := by
  refine RI_cw h (fun c o h1 _ _ h20 _ _ => ?_) rfl ?_
  · rw [sF, if_neg (fun q => h20 q.1), sF, if_neg (fun q => h1 q.1)]
  · simp [Cw, gI, h.1.2]
/-- both stop with code 3 at the same dimension -/
theorem RI_stopB {n : Nat} {g : Gs} (h : RI n g) (x : Int32) : RI (n + 1) (sI (sI (sI (sI g 2 0 0 x) 1 0 0 3) 21 0 0 x) 20 0 0 3) := by
  refine RI_cw h (fun c o h1 h2 _ h20 h21 _ => ?_) rfl ?_
  · rw [sF, if_neg (fun q => h20 q.1), sF, if_neg (fun q => h21 q.1), sF, if_neg (fun q => h1 q.1), sF, if_neg (fun q => h2 q.1)]
  · simp [Cw, gI]
theorem s_code : S_code RI := fun n g h hn => ⟨g.1 1 0 0, rfl, by rw [m_X5_code, h.1.1], RI_def n g h hn, CB_0 h rfl⟩
theorem s_which : S_which RI := fun n g h hn => ⟨g.1 2 0 0, rfl, by rw [m_X5_which, h.1.2], RI_def n g h hn, CB_0 h rfl⟩
theorem s_range : S_range RI := by
  intro n g x1 x2 h hn
  obtain ⟨hcw, ⟨d, hd⟩, ⟨k, hk⟩, a, R, P, S, bx, so, C⟩ := id h
  by_cases h3 : d = 3
  · subst h3
    refine ⟨0, sI g 1 0 0 8, sI (sI g 1 0 0 8) 20 0 0 8, ?_, ?_, RI_stop h 8, CB_0 h rfl⟩
    · rw [m_X4_range, hd.2.1, if_neg (by decide), m_stop]
      rfl
    · rw [m_X5_range, show (sI g 1 0 0 8).1 22 0 0 = nI 3 from hd.2.2.1, if_pos (by decide), m_no]
      rfl
  · have h2 : d < 3 := by have := hd.1; omega
    have e4 := hd.2.1
    have e22 := hd.2.2.1
    refine ⟨nI (d + 1), sI (sI (sI (sI g 5 0 d x1) 6 0 d x2) 4 0 0 (nI (d + 1))) 1 0 0 0, sI (sI (sI (sI (sI (sI (sI (sI g 5 0 d x1) 6 0 d x2) 4 0 0 (nI (d + 1))) 1 0 0 0) 23 0 d x1) 24 0 d x2) 22 0 0 (nI (d + 1))) 20 0 0 0, ?_, ?_, ⟨?_, ⟨d + 1, ?_⟩, ⟨k, ?_⟩, a, R, P, S, bx, so, ?_⟩, CB_0 h rfl⟩
    · have c1 : nI d < 3 := nI_lt (b := 3) h2 (by decide)
      have c2 : ¬ (3 : Int32) ≤ nI d := nI_ge (b := 3) h2 (by decide)
      have p1 : 0 ≤ nI d := nI_pos' (by omega)
      have q1 : (nI d).toNatClampNeg = d := nI_clamp (by omega)
      simp [m_X4_range, m_X2_add, m_X2_add_J38, lett, gI, e4, c1, c2, p1, q1, h2, chkT, m_done, nI_1]
    · have c1 : ¬ nI d = 3 := fun q => by rw [show (3 : Int32) = nI 3 from rfl, nI_eq (by omega) (by omega)] at q; omega
      have p1 : 0 ≤ nI d := nI_pos' (by omega)
      have q1 : (nI d).toNatClampNeg = d := nI_clamp (by omega)
      simp [m_X5_range, lett, gI, e22, c1, p1, q1, h2, chkT, m_yes, nI_1]
    · simp [Cw, gI, hcw.2]
    · refine ⟨by omega, by simp [gI], by simp [gI], fun j hj => ?_⟩
      simp [gI, hd.2.2.2 j hj]
    · exact Lns_congr hk (by simp [sF]) (by simp [sF]) (by simp [sF]) (by simp [sF]) (by simp [sF]) (by simp [sF]) (by simp [sF]) (by simp [sF]) rfl rfl
    · refine Core_n (Core_congr C (fun c o hco => ?_) rfl rfl rfl)
      simp [coreC] at hco
      simp [sF]
      grind
theorem s_shapeless : S_shapeless RI := by
  intro n g h hn
  obtain ⟨hcw, ⟨d, hd⟩, ⟨k, hk⟩, a, R, P, S, bx, so, C⟩ := id h
  refine ⟨nI d, sI (sI g 4 0 0 0) 1 0 0 0, sI (sI (sI (sI g 4 0 0 0) 1 0 0 0) 22 0 0 0) 20 0 0 0, ?_, ?_, ⟨?_, ⟨0, ?_⟩, ⟨k, ?_⟩, a, R, P, S, bx, so, ?_⟩, CB_0 h rfl⟩
  · rw [m_X4_shapeless, hd.2.1]
    rfl
  · rw [m_X5_shapeless, show (sI (sI g 4 0 0 0) 1 0 0 0).1 22 0 0 = nI d from hd.2.2.1]
    rfl
  · simp [Cw, gI, hcw.2]
  · refine ⟨by omega, by simp [gI, nl0], by simp [gI, nl0], fun j hj => ?_⟩
    simp [gI, hd.2.2.2 j hj]
  · exact Lns_congr hk (by simp [sF]) (by simp [sF]) (by simp [sF]) (by simp [sF]) (by simp [sF]) (by simp [sF]) (by simp [sF]) (by simp [sF]) rfl rfl
  · refine Core_n (Core_congr C (fun c o hco => ?_) rfl rfl rfl)
    simp [coreC] at hco
    simp [sF]
    grind
theorem s_pair : S_pair RI := by
  intro n g x1 x2 x3 y4 h hn
  obtain ⟨hcw, ⟨d, hd⟩, ⟨k, hk⟩, a, R, P, S, bx, so, C⟩ := id h
  by_cases h3 : k = 30
  · subst h3
    refine ⟨0, sI g 1 0 0 8, sI (sI g 1 0 0 8) 20 0 0 8, ?_, ?_, RI_stop h 8, CB_0 h rfl⟩
    · rw [m_X4_pair, hk.2.1, if_neg (by decide), m_stop]
      rfl
    · rw [m_X5_pair, show (sI g 1 0 0 8).1 39 0 0 = nI 30 from hk.2.2.1, if_pos (by decide), m_no]
      rfl
  · have h2 : k < 30 := by have := hk.1; omega
    have e7 := hk.2.1
    have e39 := hk.2.2.1
    refine ⟨nI (k + 1), sI (sI (sL (sI (sI (sI g 8 0 k x1) 9 0 k x2) 10 0 k x3) 1 k y4) 7 0 0 (nI (k + 1))) 1 0 0 0, sI (sI (sL (sI (sI (sI (sI (sI (sL (sI (sI (sI g 8 0 k x1) 9 0 k x2) 10 0 k x3) 1 k y4) 7 0 0 (nI (k + 1))) 1 0 0 0) 40 0 k x1) 41 0 k x2) 42 0 k x3) 3 k y4) 39 0 0 (nI (k + 1))) 20 0 0 0, ?_, ?_, ⟨?_, ⟨d, ?_⟩, ⟨k + 1, ?_⟩, a, R, P, S, bx, so, ?_⟩, CB_0 h rfl⟩
    · have c1 : nI k < 30 := nI_lt (b := 30) h2 (by decide)
      have c2 : ¬ (30 : Int32) ≤ nI k := nI_ge (b := 30) h2 (by decide)
      have p1 : 0 ≤ nI k := nI_pos' (by omega)
      have q1 : (nI k).toNatClampNeg = k := nI_clamp (by omega)
      simp [m_X4_pair, m_X0_add, m_X0_add_J60, lett, gI, gL1, e7, c1, c2, p1, q1, h2, chkT, m_done, nI_1]
    · have c1 : ¬ nI k = 30 := fun q => by rw [show (30 : Int32) = nI 30 from rfl, nI_eq (by omega) (by omega)] at q; omega
      have p1 : 0 ≤ nI k := nI_pos' (by omega)
      have q1 : (nI k).toNatClampNeg = k := nI_clamp (by omega)
      simp [m_X5_pair, lett, gI, gL1, e39, c1, p1, q1, h2, chkT, m_yes, nI_1]
    · simp [Cw, gI, gL1, hcw.2]
    · exact Shp_congr hd (by simp [sF, gL1]) (by simp [sF, gL1]) (by simp [sF, gL1]) (by simp [sF, gL1]) (by simp [sF, gL1]) (by simp [sF, gL1])
    · refine ⟨by omega, by simp [gI, gL1], by simp [gI, gL1], fun j hj => ?_⟩
      by_cases hjk : j = k
      · subst hjk
        simp [gI, gL1, gI1, gL]
      · have := hk.2.2.2 j (by omega)
        simp [gI, gL1, gI1, gL, hjk, this]
    · refine Core_n (Core_congr C (fun c o hco => ?_) (by simp [gI1, sF1]) (by simp [gI1, sF1]) rfl)
      simp [coreC] at hco
      simp [sF, gL1]
      grind
theorem s_clear : S_clear RI := by
  intro n g h hn
  obtain ⟨hcw, ⟨d, hd⟩, ⟨k, hk⟩, a, R, P, S, bx, so, C⟩ := id h
  have e0 := C.2.1.1
  have e25 := C.2.1.2
  refine ⟨nI a, sI (sI (sI (sI (sI (sI (sI g 0 0 0 0) 4 0 0 0) 7 0 0 0) 11 0 0 0) 12 0 0 0) 1 0 0 0) 2 0 0 (-1), sI (sI (sI (sI (sI (sI (sI (sI (sI (sI (sI (sI (sI (sI (sI g 0 0 0 0) 4 0 0 0) 7 0 0 0) 11 0 0 0) 12 0 0 0) 1 0 0 0) 2 0 0 (-1)) 25 0 0 0) 31 0 0 0) 34 0 0 0) 37 0 0 0) 39 0 0 0) 22 0 0 0) 20 0 0 0) 21 0 0 (-1), ?_, ?_, ⟨?_, ⟨0, ?_⟩, ⟨0, ?_⟩, 0, 0, 0, 0, bx, so, ?_⟩, CB_0 h rfl⟩
  · rw [m_X4_clear, e0]
    rfl
  · rw [m_X5_clear]
    have e : (sI (sI (sI (sI (sI (sI (sI g 0 0 0 0) 4 0 0 0) 7 0 0 0) 11 0 0 0) 12 0 0 0) 1 0 0 0) 2 0 0 (-1)).1 25 0 0 = nI a := e25
    rw [e]
    rfl
  · simp [Cw, gI]
  · refine ⟨by omega, by simp [gI, nl0], by simp [gI, nl0], fun j hj => ?_⟩
    simp [gI, hd.2.2.2 j hj]
  · exact ⟨by omega, by simp [gI, nl0], by simp [gI, nl0], fun j hj => absurd hj (by omega)⟩
  · obtain ⟨-, -, -, hG, -, -, -, -, hCap⟩ := C
    refine ⟨by omega, by simp [gI, nl0], by simp [gI, nl0], ?_, fun r hr => absurd hr (by omega), fun p hp => absurd hp (by omega), fun i hi => absurd hi (by omega), fun i j _ hj => absurd hj (by omega), hCap⟩
    simp only [gI1]
    omega
