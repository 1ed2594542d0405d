/-! PURE: cut. -/
theorem CtM_cg {g : Gs} {b rk t m : Nat} {sl lo hi : Nat → Int32} {σ : Nat → Nat} (h : CtM g b rk sl lo hi) : CtM (cgM g t σ m) b rk sl lo hi := by
  unfold CtM
  rw [cgM_f (by decide), cgM_f (by decide), cgM_f (by decide), cgM_f (by decide)]
  exact h
theorem cut_2 {a b r R P s rk N L1 L2 : Nat} {sl lo hi : Nat → Int32} (ha : a < 24) (hb : b < 24) (hr : r < 13000) (hR : R < 13000) (hrk : rk ≤ 3) (hpr : prN lo hi rk ≤ 500) (hsP : s + prN lo hi rk ≤ P) (hN : N ≤ 500) (hPN : P + N ≤ 100000) (h1 : 0 < L1) (h15 : L1 ≤ 500) (h2 : 0 < L2) (h25 : L2 ≤ 500) (hno : ∀ j, j < N → ctB sl lo hi rk L1 L2 j = none) : ∀ m q fu g, q + m = N → m < fu → CtM g b rk sl lo hi → g.1 30 0 b = nI r ∧ g.1 32 0 r = nI s ∧ g.1 30 0 a = nI R ∧ g.1 32 0 R = nI P → m_X5_cut_L247 (nI b) (nI N) (nI L1) (nI L2) (nI a) fu (nI q) g = some (cgM g (P + q) (fun z => s + ctP sl lo hi rk L1 L2 (q + z)) m) := by
  have z0 : (0 : Int32).toNatClampNeg = 0 := by decide
  have z1 : (1 : Int32).toNatClampNeg = 1 := by decide
  have z2 : (2 : Int32).toNatClampNeg = 2 := by decide
  have n1 : ¬ nI L1 = 0 := nI_ne0 h1 (by omega)
  have n2 : ¬ nI L2 = 0 := nI_ne0 h2 (by omega)
  intro m
  induction m with
  | zero =>
    intro q fu g hq hf hC hh
    obtain ⟨fu, rfl⟩ : ∃ f2, fu = f2 + 1 := ⟨fu - 1, by omega⟩
    rw [m_X5_cut_L247, if_pos (nI_le (by omega) (by omega)), cgM_nil]
  | succ m ih =>
    intro q fu g hq hf hC hh
    obtain ⟨fu, rfl⟩ : ∃ f2, fu = f2 + 1 := ⟨fu - 1, by omega⟩
    obtain ⟨k1, k2, k3, k4⟩ := id hh
    obtain ⟨v1, v2, v3, v4⟩ := ct_div (q := q) (by omega) h1 h15 h2 h25
    have hp := ct_place (q := q) (L1 := L1) (L2 := L2) hb hrk hC
    rw [hno q (by omega)] at hp
    have hlt := ct_lt (hno q (by omega))
    rw [m_X5_cut_L247, if_neg (nI_ge (by omega) (by omega))]
    simp only [chk_t (show inb (0 : Int32) 3 by decide), chk_t (show inb (1 : Int32) 3 by decide), chk_t (show inb (2 : Int32) 3 by decide), chk_t n1, chk_t n2, z0, z1, z2, hC.1 0 (by omega), hC.1 1 (by omega), hC.1 2 (by omega), v1, v2, pk_mul, v3, v4, m_X5_index, Option.bind_some, hp, chk_t (inb_m hb (by omega)), nI_clamp (show b < 2 ^ 31 by omega), k1, chk_t (inb_m hr (by omega)), nI_clamp (show r < 2 ^ 31 by omega), k2, chk_t (inb_m ha (by omega)), nI_clamp (show a < 2 ^ 31 by omega), k3, chk_t (inb_m hR (by omega)), nI_clamp (show R < 2 ^ 31 by omega), k4, nI_add, copyM (g := g) (show s + ctP sl lo hi rk L1 L2 q < 300000 by omega) (show P + q < 300000 by omega), lett_e, nI_1]
    rw [ih (q + 1) fu (cgM g (P + q) (fun _ => s + ctP sl lo hi rk L1 L2 q) 1) (by omega) (by omega) (CtM_cg hC) (by rw [cgM_f (by decide), cgM_f (by decide)]; exact hh), ← Nat.add_assoc, cgM_cons (ρ := fun z => s + ctP sl lo hi rk L1 L2 (q + z)) (fun z hz => by show s + ctP sl lo hi rk L1 L2 (q + z) = s + ctP sl lo hi rk L1 L2 q; rw [show q + z = q by omega]) (fun z hz => ⟨by show s + ctP sl lo hi rk L1 L2 (q + (1 + z)) = s + ctP sl lo hi rk L1 L2 (q + 1 + z); rw [Nat.add_assoc], by show s + ctP sl lo hi rk L1 L2 (q + 1 + z) < P + q; have := ct_lt (hno (q + 1 + z) (by omega)); omega⟩), Nat.add_comm 1 m]
theorem it_len {g : Gs} {d : Nat} (h1 : 1 ≤ d) (h3 : d ≤ 3) : itN g 0 d = LenE d (g.1 5 0) (g.1 6 0) 0 * LenE d (g.1 5 0) (g.1 6 0) 1 * LenE d (g.1 5 0) (g.1 6 0) 2 := by
  have : d = 1 ∨ d = 2 ∨ d = 3 := by omega
  rcases this with rfl | rfl | rfl
  · show 1 * lenN (g.1 5 0 0) (g.1 6 0 0) = _
    simp [LenE]
  · show 1 * lenN (g.1 5 0 0) (g.1 6 0 0) * lenN (g.1 5 0 1) (g.1 6 0 1) = _
    simp [LenE]
  · show 1 * lenN (g.1 5 0 0) (g.1 6 0 0) * lenN (g.1 5 0 1) (g.1 6 0 1) * lenN (g.1 5 0 2) (g.1 6 0 2) = _
    simp [LenE]
/-- the widths that both go by -/
def wE (g : Gs) (d N e : Nat) : Nat := if N = 0 then 1 else LenE d (g.1 5 0) (g.1 6 0) e
theorem wE_bd {g : Gs} {d N : Nat} (h1 : 1 ≤ d) (h3 : d ≤ 3) (hN : itN g 0 d = N) (hN5 : N ≤ 500) : 0 < wE g d N 1 ∧ wE g d N 1 ≤ 500 ∧ 0 < wE g d N 2 ∧ wE g d N 2 ≤ 500 := by
  unfold wE
  by_cases hz : N = 0
  · rw [if_pos hz, if_pos hz]; omega
  · rw [if_neg hz, if_neg hz]
    rw [it_len h1 h3] at hN
    obtain ⟨b1, b2, b3, p1, p2, p3⟩ := tri_bd hN.symm (by omega) hN5
    omega
theorem findCut {g : Gs} {b d rk r s N : Nat} (hb : b < 24) (h1 : 1 ≤ d) (hd : d ≤ 3) (hrk : rk ≤ 3) (h4 : g.1 4 0 0 = nI d) (k4 : g.1 4 (b + 1) 0 = nI rk) (h17 : g.1 17 b 0 = nI r) (hS : m_X3_startOf (nI r) g = some (nI s)) (hN : itN g 0 d = N) (hN5 : N ≤ 500) : m_X4_findCut b g = some (match bdF (ctB (g.1 5 0) (g.1 5 (b + 1)) (g.1 6 (b + 1)) rk (wE g d N 1) (wE g d N 2)) N 0 with | some (q, e) => (nI e, stF g (fun j => nI (s + ctP (g.1 5 0) (g.1 5 (b + 1)) (g.1 6 (b + 1)) rk (wE g d N 1) (wE g d N 2) j)) 0 q) | none => (-1, stF g (fun j => nI (s + ctP (g.1 5 0) (g.1 5 (b + 1)) (g.1 6 (b + 1)) rk (wE g d N 1) (wE g d N 2) j)) 0 N)) := by
  have hit := X2_items (g := g) (o := 0) (rk := d) (by omega) hd h4
  rw [hN, Nat.min_eq_right (by omega)] at hit
  by_cases hz : N = 0
  · have hzn : nI N = 0 := by rw [hz]; rfl
    simp only [m_X4_findCut, chk_t hb, hit, Option.bind_some, if_pos hzn]
    subst hz
    show _ = some (_, stF g _ 0 0)
    rw [stF_nil]
  · have hzn : ¬ nI N = 0 := nI_ne0 (by omega) (by omega)
    have hNl := it_len (g := g) h1 hd
    rw [hN] at hNl
    obtain ⟨b1, b2, b3, p1, p2, p3⟩ := tri_bd hNl (by omega) hN5
    have hC : CtH g b d rk (g.1 5 0) (g.1 6 0) (g.1 5 (b + 1)) (g.1 6 (b + 1)) := ⟨h4, rfl, rfl, k4, rfl, rfl⟩
    have hx := cut_x (b := b) (d := d) (rk := rk) (s := s) hb hd hrk rfl rfl rfl b3 b2 b1 (LenE d (g.1 5 0) (g.1 6 0) 0) 0 FU g 0 (by omega) (FU_big (by omega)) (by simp) (by rw [← Nat.mul_assoc]; omega) hC
    rw [← Nat.mul_assoc, ← hNl, nl0, Nat.zero_add] at hx
    have w1 : wE g d N 1 = LenE d (g.1 5 0) (g.1 6 0) 1 := if_neg hz
    have w2 : wE g d N 2 = LenE d (g.1 5 0) (g.1 6 0) 2 := if_neg hz
    rw [w1, w2]
    simp only [m_X4_findCut, chk_t hb, hit, Option.bind_some, if_neg hzn, h17, hS, lett_e, hx]
    cases bdF (ctB (g.1 5 0) (g.1 5 (b + 1)) (g.1 6 (b + 1)) rk (LenE d (g.1 5 0) (g.1 6 0) 1) (LenE d (g.1 5 0) (g.1 6 0) 2)) N 0 with
    | none => rfl
    | some re =>
      obtain ⟨q, e⟩ := re
      rfl
theorem J26 {g gM : Gs} {b d N : Nat} (h1 : 1 ≤ d) (hd : d ≤ 3) (sh : Shp d g) (sm : SM g gM) (hN : itN g 0 d = N) (hN5 : N ≤ 500) : m_X5_cut_J26 (nI b) 0 gM = m_X5_cut_J120 (nI b) (nI N) (nI (wE g d N 1)) (nI (wE g d N 2)) gM := by
  have m22 : gM.1 22 0 0 = nI d := by rw [sm.1 22 0 (by omega)]; exact sh.2.2.1
  have mlo : ∀ j, j < 3 → gM.1 23 0 j = g.1 5 0 j ∧ gM.1 24 0 j = g.1 6 0 j := fun j hj => by rw [sm.1 23 0 (by omega), sm.1 24 0 (by omega)]; exact sh.2.2.2 j hj
  have hsi : m_X5_shapeItems gM = some (nI N) := by
    rw [X5_shapeItems hd m22 mlo, ← itN_pr, hN, Nat.min_eq_right (by omega)]
  have le : nI N ≤ (500 : Int32) := nI_le (b := 500) (by omega) (by omega)
  by_cases hz : N = 0
  · have hzn : nI N = 0 := by rw [hz]; rfl
    have w1 : wE g d N 1 = 1 := if_pos hz
    have w2 : wE g d N 2 = 1 := if_pos hz
    rw [w1, w2]
    simp only [m_X5_cut_J26, m_X5_cut_J44, m_X5_cut_J66, m_X5_cut_J86, m_X5_cut_J100, hsi, Option.bind_some, if_true, if_pos le, if_pos hzn]
    rfl
  · have hzn : ¬ nI N = 0 := nI_ne0 (by omega) (by omega)
    have w1 : wE g d N 1 = LenE d (g.1 5 0) (g.1 6 0) 1 := if_neg hz
    have w2 : wE g d N 2 = LenE d (g.1 5 0) (g.1 6 0) 2 := if_neg hz
    have z1 : (1 : Int32).toNatClampNeg = 1 := by decide
    have z2 : (2 : Int32).toNatClampNeg = 2 := by decide
    have g2 : ((2 : Int32) ≤ nI d) ↔ 2 ≤ d := nI_leI (a := 2) (by omega) (by omega)
    have g3 : ((3 : Int32) ≤ nI d) ↔ 3 ≤ d := nI_leI (a := 3) (by omega) (by omega)
    have l1 : m_X5_length (gM.1 23 0 1) (gM.1 24 0 1) gM = some (lN (lenN (g.1 5 0 1) (g.1 6 0 1))) := by rw [X5_length, (mlo 1 (by omega)).1, (mlo 1 (by omega)).2]
    have l2 : m_X5_length (gM.1 23 0 2) (gM.1 24 0 2) gM = some (lN (lenN (g.1 5 0 2) (g.1 6 0 2))) := by rw [X5_length, (mlo 2 (by omega)).1, (mlo 2 (by omega)).2]
    rw [w1, w2]
    simp only [m_X5_cut_J26, m_X5_cut_J44, m_X5_cut_J66, m_X5_cut_J86, m_X5_cut_J100, hsi, Option.bind_some, if_true, if_pos le, if_neg hzn, m22, chk_t (show inb (1 : Int32) 3 by decide), chk_t (show inb (2 : Int32) 3 by decide), z1, z2, l1, l2, lN_i]
    have : d = 1 ∨ d = 2 ∨ d = 3 := by omega
    rcases this with rfl | rfl | rfl
    · rw [if_neg (by decide), if_neg (by decide)]
      rfl
    · rw [if_pos (by decide), if_neg (by decide)]
      rfl
    · rw [if_pos (by decide), if_pos (by decide)]
      rfl
theorem st_f {g : Gs} {f : Nat → Int32} {x y c o : Nat} (h : c ≠ 3) : (stF g f x y).1 c o = g.1 c o := by
  funext j
  rw [stF_1, if_neg (by omega)]
theorem Core_st {a R P S n : Nat} {bx : Nat → Bool} {so : Nat → Nat} {g : Gs} (C : Core a R P S bx so n g) (f : Nat → Int32) (x y : Nat) : Core a R P S bx so n (stF g f x y) := Core_congr C (fun c o hc => st_f (by simp [coreC] at hc; omega)) rfl rfl rfl
theorem RI_st {n : Nat} {g : Gs} (h : RI n g) (f : Nat → Int32) (x y : Nat) : RI n (stF g f x y) := by
  obtain ⟨cw, ⟨d, hd⟩, ⟨k, hk⟩, a, R, P, S, bx, so, C⟩ := h
  refine ⟨?_, ⟨d, Shp_congr hd (st_f (by decide)) (st_f (by decide)) (st_f (by decide)) (st_f (by decide)) (st_f (by decide)) (st_f (by decide))⟩, ⟨k, Lns_congr hk (st_f (by decide)) (st_f (by decide)) (st_f (by decide)) (st_f (by decide)) (st_f (by decide)) (st_f (by decide)) (st_f (by decide)) (st_f (by decide)) rfl rfl⟩, a, R, P, S, bx, so, Core_st C f x y⟩
  unfold Cw
  rw [st_f (by decide), st_f (by decide), st_f (by decide), st_f (by decide)]
  exact cw
theorem s_cut : S_cut RI := by
  intro n g x1 h hn
  obtain ⟨hcw, ⟨d, hd⟩, hk0, a, R, P, S, bx, so, C⟩ := id h
  have ha := C.1
  have n70 : ¬ (7 : Int32) = 0 := by decide
  have n20 : ¬ (2 : Int32) = 0 := by decide
  have n90 : ¬ (9 : Int32) = 0 := by decide
  have n50 : ¬ (5 : Int32) = 0 := by decide
  have hsi : ∀ gM, SM g gM → m_X5_shapeItems gM = some (nI (min 501 (itN g 0 d))) := fun gM sm => by
    rw [itN_pr]
    exact X5_shapeItems hd.1 (by rw [sm.1 22 0 (by omega)]; exact hd.2.2.1) (fun j hj => by rw [sm.1 23 0 (by omega), sm.1 24 0 (by omega)]; exact hd.2.2.2 j hj)
  rcases arr_cases x1 C.1.1 with hx | ⟨b, hb, rfl⟩
  · refine ⟨0, sI g 1 0 0 7, sI (sI g 1 0 0 7) 20 0 0 7, 0, 0, ?_, ?_, RI_stop h 7, CB_0 h rfl⟩
    · simp only [m_X4_cut, X4_arr_no C.2.1.1 hx, Option.bind_some, m_X4_whyNoRow, cas_n, if_neg n70, m_stop]
    · simp only [m_X5_cut, m_X5_cut_J26, m_X5_cut_J44, why_no C hx (SM_1 g 7), hsi _ (SM_1 g 7), Option.bind_some, if_neg n70, m_no]
  · have hA := X4_arr_yes C.2.1.1 C.1.1 hb
    have hb24 : b < 24 := by omega
    have cb := inb_m hb24 (by omega)
    have qb := nI_clamp (show b < 2 ^ 31 by omega)
    rcases arr_view C hb with ⟨kd, rk, r, hkd, h16, h26, hs, hr, h17, h30, hrl, hbx⟩ | ⟨h16, h26, hs, ht⟩
    · have hn4 : ¬ g.1 16 b 0 = 4 := by rw [h16]; exact n4 hkd
      have wX : m_X4_whyNoRow (some b) g = some 0 := by rw [(why_tab C hb (SM_r g)).1, if_neg hn4]
      have wM : ∀ gM, SM g gM → m_X5_wants (nI b) gM = some 0 := fun gM sm => by rw [(why_tab C hb sm).2, if_neg hn4]
      have r4 := hs.2.2.1
      have r27 := hs.2.2.2.1
      have hrk1 := hs.1
      have hrk3 := hs.2.1
      have F := row_f C (by omega) (SX_r g) (SM_r g) hr
      have f5 := F.l5
      have mrk : ∀ gM, SM g gM → gM.1 22 0 0 = nI d ∧ gM.1 27 0 b = nI rk := fun gM sm => ⟨by rw [sm.1 22 0 (by omega)]; exact hd.2.2.1, by rw [sm.1 27 0 (by omega)]; exact r27⟩
      by_cases hdr : d = rk
      · subst hdr
        have hit := X2_items (g := g) (o := 0) (rk := d) (by omega) hd.1 hd.2.1
        by_cases hbig : itN g 0 d ≤ 500
        · generalize hNN : itN g 0 d = N at hbig
          rw [hNN, Nat.min_eq_right (by omega)] at hit
          have le5 : nI N ≤ (500 : Int32) := nI_le (b := 500) (by omega) (by omega)
          have hfc := findCut (g := g) (b := b) (d := d) (rk := d) (r := r) (s := rs g r) (N := N) hb24 hrk1 hd.1 hd.1 hd.2.1 r4 h17 F.sX hNN hbig
          obtain ⟨w1, w2, w3, w4⟩ := wE_bd (g := g) hrk1 hd.1 hNN hbig
          have hJ := fun gM sm => J26 (g := g) (gM := gM) (b := b) (d := d) (N := N) hrk1 hd.1 hd sm hNN hbig
          generalize hL1 : wE g d N 1 = L1 at *
          generalize hL2 : wE g d N 2 = L2 at *
          have hpr : prN (g.1 5 (b + 1)) (g.1 6 (b + 1)) d = rl g r := by rw [← itN_pr, hrl]
          have wr := (C.2.2.2.2.1 r hr).2.2.2.1
          have ctm : ∀ gM, SM g gM → CtM gM b d (g.1 5 0) (g.1 5 (b + 1)) (g.1 6 (b + 1)) := fun gM sm => ⟨fun e he => by rw [sm.1 23 0 (by omega)]; exact (hd.2.2.2 e he).1, by rw [sm.1 27 0 (by omega)]; exact r27, fun e he => by rw [sm.1 28 0 (by omega), sm.1 29 0 (by omega)]; exact hs.2.2.2.2 e he⟩
          have c1 := fun gM (sm : SM g gM) => cut_1 (b := b) (rk := d) (N := N) (L1 := L1) (L2 := L2) hb24 hd.1 (by rw [hpr]; exact f5) hbig w1 w2 w3 w4 (ctm gM sm) N 0 FU (by omega) (FU_big (by omega))
          simp only [nl0] at c1
          cases hbd : bdF (ctB (g.1 5 0) (g.1 5 (b + 1)) (g.1 6 (b + 1)) d L1 L2) N 0 with
          | some qe =>
            obtain ⟨q, e⟩ := qe
            rw [hbd] at hfc
            have hbs := bdF_some N 0 q e hbd
            have he := fb_some d 0 e hbs.2.2
            have sm : ∀ f : Nat → Int32, SM g (sI (sI (stF g f 0 q) 2 0 0 (nI e)) 1 0 0 3) := fun f => SM_sI (SM_sI ⟨fun c o hc => st_f (by omega), rfl, rfl⟩ (by decide)) (by decide)
            generalize hff : (fun j => nI (rs g r + ctP (g.1 5 0) (g.1 5 (b + 1)) (g.1 6 (b + 1)) d L1 L2 j)) = f at hfc
            have c1g := c1 _ (sm f)
            rw [hbd] at c1g
            obtain ⟨m1, m2⟩ := mrk _ (sm f)
            refine ⟨0, sI (sI (stF g f 0 q) 2 0 0 (nI e)) 1 0 0 3, sI (sI (sI (sI (sI (stF g f 0 q) 2 0 0 (nI e)) 1 0 0 3) 44 0 0 (nI e)) 21 0 0 (nI e)) 20 0 0 3, 0, 0, ?_, ?_, ?_, CB_0 h rfl⟩
            · simp only [m_X4_cut, hA, Option.bind_some, wX, if_true, unw_y hb24, hd.2.1, r4, hit, if_pos le5, hfc, if_neg (nI_ne_m1 (show e < 2 ^ 31 by omega)), m_stopB]
            · simp only [m_X5_cut, wM _ (sm f), Option.bind_some, if_true, chk_t cb, qb, m1, m2, hJ _ (sm f), m_X5_cut_J120, lett_e, c1g, exi]
            · refine RI_cw h (fun c o h1 h2 h3 h20 h21 h44 => ?_) rfl ?_
              · rw [sF, if_neg (fun z => h20 z.1), sF, if_neg (fun z => h21 z.1), sF, if_neg (fun z => h44 z.1), sF, if_neg (fun z => h1 z.1), sF, if_neg (fun z => h2 z.1), st_f h3]
              · simp [Cw, gI]
          | none =>
            rw [hbd] at hfc
            have hno : ∀ j, j < N → ctB (g.1 5 0) (g.1 5 (b + 1)) (g.1 6 (b + 1)) d L1 L2 j = none := fun j hj => bdF_none N 0 hbd j (by omega) (by omega)
            generalize hff : (fun j => nI (rs g r + ctP (g.1 5 0) (g.1 5 (b + 1)) (g.1 6 (b + 1)) d L1 L2 j)) = f at hfc
            have Cs := Core_st C f 0 N
            have hs1 := RI_st h f 0 N
            have hσ : ∀ q, q < N → rs g r + ctP (g.1 5 0) (g.1 5 (b + 1)) (g.1 6 (b + 1)) d L1 L2 q < P ∧ bx (rs g r + ctP (g.1 5 0) (g.1 5 (b + 1)) (g.1 6 (b + 1)) d L1 L2 q) = decide (kd = 3) := fun q hq => by
              have := ct_lt (hno q hq)
              rw [hpr] at this
              exact ⟨by omega, hbx _ ⟨by omega, by omega⟩⟩
            have S3 : ∀ p, p < N → (stF g f 0 N).1 3 0 p = nI (rs g r + ctP (g.1 5 0) (g.1 5 (b + 1)) (g.1 6 (b + 1)) d L1 L2 p) := fun p hp => by
              rw [stF_1, if_pos (by omega), ← hff]
            generalize hgS : stF g f 0 N = gS at *
            have S1 : ∀ c o, c ≠ 3 → gS.1 c o = g.1 c o := fun c o z => by rw [← hgS]; exact st_f z
            have S2 : gS.2 = g.2 := by rw [← hgS]; rfl
            have hdS : Shp d gS := Shp_congr hd (S1 _ _ (by decide)) (S1 _ _ (by decide)) (S1 _ _ (by decide)) (S1 _ _ (by decide)) (S1 _ _ (by decide)) (S1 _ _ (by decide))
            by_cases hfull : a < 24
            · obtain ⟨g1, ca, cb2, er, G⟩ := room Cs hfull (x := 1) (y := N) (by omega) (by omega)
              have er1 : m_X4_hasRoom 1 (nI N) gS = some (1, g1, ca, cb2) := er
              have C1 := Core_grw Cs G (by omega) (by omega)
              have h1 := RI_grw hs1 Cs G (by omega) (by omega)
              have hc1 := C1.2.1
              have hc3 := C1.2.2.1
              have G6 := G.2.2.2.2.2.1
              obtain ⟨d4, d22, dl, dit⟩ := shapes (a := a) (S := S) (n := n) (bx := bx) (so := so) G hdS
              have gq : ∀ c o, c ≠ 3 ∧ c ≠ 13 ∧ c ≠ 14 ∧ c ≠ 15 → g1.1 c o = g.1 c o := fun c o z => (Grw_q G z.2).trans (S1 c o z.1)
              have dit2 : itN g1 0 d = N := by rw [dit, itN_congr (S1 5 0 (by decide)) (S1 6 0 (by decide)), hNN]
              have b16 : g1.1 16 b 0 = nI kd := by rw [gq 16 b (by decide)]; exact h16
              have hni := nextIn (g := g1) (a := a) (o := 0) (rk := d) hc1.1 hfull (by omega) (by omega) hd.1 d4 (nI kd)
              generalize hgA : niX g1 a (nI kd) 0 d = gA at hni
              have N1 : ∀ c o j, gA.1 c o j = if (c = 5 ∨ c = 6) ∧ o = a + 1 ∧ j < d then g1.1 c 0 j else if c = 4 ∧ o = a + 1 ∧ j = 0 then nI d else if c = 17 ∧ o = a ∧ j = 0 then -1 else if c = 16 ∧ o = a ∧ j = 0 then nI kd else if c = 0 ∧ o = 0 ∧ j = 0 then nI (a + 1) else g1.1 c o j := by
                intro c o j
                rw [← hgA, niX_1 (by omega)]
              have A2 : gA.2 = g1.2 := by rw [← hgA]; rfl
              have A1 : ∀ c o j, c ≠ 3 → c < 20 → gA.1 c o j = if c = 0 ∧ o = 0 ∧ j = 0 then nI (a + 1) else if c = 16 ∧ o = a ∧ j = 0 then nI kd else if c = 17 ∧ o = a ∧ j = 0 then -1 else if c = 4 ∧ o = a + 1 ∧ j = 0 then nI d else if c = 5 ∧ o = a + 1 ∧ j < d then g1.1 5 0 j else if c = 6 ∧ o = a + 1 ∧ j < d then g1.1 6 0 j else g1.1 c o j := by
                intro c o j _ _
                rw [N1]
                rcases (by omega : c = 0 ∨ c = 16 ∨ c = 17 ∨ c = 4 ∨ c = 5 ∨ c = 6 ∨ (c ≠ 0 ∧ c ≠ 16 ∧ c ≠ 17 ∧ c ≠ 4 ∧ c ≠ 5 ∧ c ≠ 6)) with rfl | rfl | rfl | rfl | rfl | rfl | hc
                · simp
                · simp
                · simp
                · simp
                · simp
                · simp
                · simp [hc]
              have itA : itN gA (a + 1) d = N := by
                rw [itN_of (g := g1) (o := 0) (fun e he => by simp [N1, he]), dit2]
              have hOwn := ownRow (g := gA) (a := a) (R := R) (P := P) (N := N) (rk := d) (kd := kd) hfull (by omega) hd.1 (by simp [N1]) (by simp [N1]) itA hbig (by simp [N1, hc3.1]) (by simp [N1, hc3.2.2.1]) (by rw [A2]; omega) (by rw [A2]; omega) (by rw [A2]; omega) (by rw [A2]; omega) (by omega) (by omega)
              generalize hf : (if kd = 3 then (0 : Int32) else 1) = fv at hOwn
              generalize hgO : sI (arX gA R P N fv) 17 a 0 (nI R) = gO at hOwn
              have O1 : ∀ c o j, gO.1 c o j = if c = 17 ∧ o = a ∧ j = 0 then nI R else if c = 11 ∧ o = 0 ∧ j = 0 then nI (P + N) else if c = 12 ∧ o = 0 ∧ j = 0 then nI (R + 1) else if c = 13 ∧ o = 0 ∧ P ≤ j ∧ j < P + N then fv else if c = 15 ∧ o = 0 ∧ j = R then nI N else if c = 14 ∧ o = 0 ∧ j = R then nI P else gA.1 c o j := by
                intro c o j
                rw [← hgO, gI, arX_1]
              have O2 : gO.2.2 = g1.2.2 := by rw [← hgO, gI1, arX_3, A2]
              have hcs := copySrc (a := a) (R := R) (P := P) (N := N) (src := fun q => rs g r + ctP (g.1 5 0) (g.1 5 (b + 1)) (g.1 6 (b + 1)) d L1 L2 q) (g := gO) hfull hbig (by omega) (fun p hp => (hσ p hp).1) (by simp [O1]) (by rw [O2]; omega) (by rw [O2]; omega) (by rw [O2]; omega) (by simp [O1]) (by simp [O1]) (fun p hp => by
                rw [O1]
                repeat rw [if_neg (by omega)]
                rw [N1]
                repeat rw [if_neg (by omega)]
                rw [Grw_q G (by decide), S3 p hp]) (by rw [O2]; omega) (by rw [O2]; omega)
              generalize hσd : (fun q => rs g r + ctP (g.1 5 0) (g.1 5 (b + 1)) (g.1 6 (b + 1)) d L1 L2 q) = σ at hcs
              have hσ2 : ∀ q, q < N → σ q < P ∧ bx (σ q) = decide (kd = 3) := fun q hq => by rw [← hσd]; exact hσ q hq
              generalize hgC : cgX gO P σ N = gC at hcs
              obtain ⟨pX, pX2, pX3⟩ := plX_eq (g1 := g1) (gA := gA) (gX := gC) (a := a) (R := R) (P := P) (N := N) (rk := d) (kd := nI kd) (f := fv) (lo := g1.1 5 0) (hi := g1.1 6 0) (σ := σ) A1 A2 (fun q hq => (hσ2 q hq).1) (by rw [← hgC, hgO])
              have C13 : ∀ c o, c ≠ 13 → gC.1 c o = gO.1 c o := fun c o z => by rw [← hgC]; exact cgX_f z
              generalize hgX : sI (sI gC 4 0 0 0) 1 0 0 0 = gX
              have X1 : ∀ c o j, gX.1 c o j = if c = 1 ∧ o = 0 ∧ j = 0 then 0 else if c = 4 ∧ o = 0 ∧ j = 0 then 0 else gC.1 c o j := by
                intro c o j
                rw [← hgX, gI, gI]
              have X2 : gX.2 = gC.2 := by rw [← hgX]; rfl
              have sm1 : SM g1 gX := ⟨fun c o hc => by
                funext j
                rw [X1, if_neg (by omega), if_neg (by omega), C13 c o (by omega), O1]
                repeat rw [if_neg (by omega)]
                rw [N1]
                repeat rw [if_neg (by omega)], by rw [X2, pX2]; funext p; rw [plX_2, if_neg (by omega)], by rw [X2, pX2]; funext p; rw [plX_2, if_neg (by omega)]⟩
              have smg : SM g gX := ⟨fun c o hc => (sm1.1 c o hc).trans (gq c o (by omega)), (sm1.2.1.trans (G.2.2.2.1 2 (by decide))).trans (by rw [S2]), (sm1.2.2.trans (G.2.2.2.1 3 (by decide))).trans (by rw [S2])⟩
              have m25 : gX.1 25 0 0 = nI a := by rw [sm1.1 25 0 (by omega)]; exact hc1.2
              have m26 : gX.1 26 0 b = nI kd := by rw [smg.1 26 0 (by omega)]; exact h26
              obtain ⟨m22, m27⟩ := mrk gX smg
              have c1g := c1 gX smg
              rw [hbd] at c1g
              have mlo : ∀ e, e < 3 → gX.1 23 0 e = g1.1 5 0 e ∧ gX.1 24 0 e = g1.1 6 0 e := fun e he => by rw [sm1.1 23 0 (by omega), sm1.1 24 0 (by omega)]; exact dl e he
              have hna := newArr0 (g := gX) (a := a) (lo := g1.1 5 0) (hi := g1.1 6 0) (rk := nI d) m25 hfull m22 mlo (nI kd)
              generalize hgB : naM gX a (nI kd) (nI d) (g1.1 5 0) (g1.1 6 0) = gB at hna
              have B1 : ∀ c o j, gB.1 c o j = if c = 25 ∧ o = 0 ∧ j = 0 then nI (a + 1) else if c = 29 ∧ o = 0 ∧ 3 * a ≤ j ∧ j < 3 * a + 3 then g1.1 6 0 (j - 3 * a) else if c = 28 ∧ o = 0 ∧ 3 * a ≤ j ∧ j < 3 * a + 3 then g1.1 5 0 (j - 3 * a) else if c = 27 ∧ o = 0 ∧ j = a then nI d else if c = 26 ∧ o = 0 ∧ j = a then nI kd else gX.1 c o j := by
                intro c o j
                rw [← hgB, naM_1]
              have B2 : gB.2 = gX.2 := by rw [← hgB]; rfl
              have hNR : m_X5_newRow (nI N) gB = some (nI R, arM gB R P N) := newRow_e (by rw [B1]; simp; rw [sm1.1 31 0 (by omega)]; exact hc3.2.1) (by rw [B1]; simp; rw [sm1.1 34 0 (by omega)]; exact hc3.2.2.2.1) (by omega) (by omega) (by omega)
              generalize hgD : sI (arM gB R P N) 30 0 a (nI R) = gD
              have D1 : ∀ c o j, gD.1 c o j = if c = 30 ∧ o = 0 ∧ j = a then nI R else if c = 31 ∧ o = 0 ∧ j = 0 then nI (R + 1) else if c = 34 ∧ o = 0 ∧ j = 0 then nI (P + N) else if c = 36 ∧ o = 0 ∧ P ≤ j ∧ j < P + N then 0 else if c = 33 ∧ o = 0 ∧ j = R then nI N else if c = 32 ∧ o = 0 ∧ j = R then nI P else gB.1 c o j := by
                intro c o j
                rw [← hgD, gI, arM_1]
              have hba : ¬ b = a := by omega
              have hrR : ¬ r = R := by omega
              have v30 : gD.1 30 0 b = nI r := by rw [D1]; simp [hba]; rw [B1]; simp; rw [smg.1 30 0 (by omega)]; exact h30
              have v30a : gD.1 30 0 a = nI R := by simp [D1]
              have v32 : gD.1 32 0 r = nI (rs g r) := by rw [D1]; simp [hrR]; rw [B1]; simp; rw [smg.1 32 0 (by omega)]; exact F.sM
              have v32a : gD.1 32 0 R = nI P := by simp [D1]
              have ctd : CtM gD b d (g.1 5 0) (g.1 5 (b + 1)) (g.1 6 (b + 1)) := by
                obtain ⟨t1, t2, t3⟩ := ctm gX smg
                refine ⟨fun e he => ?_, ?_, fun e he => ?_⟩
                · rw [D1]; simp; rw [B1]; simp; exact t1 e he
                · rw [D1]; simp; rw [B1]; simp [hba]; exact t2
                · have q1 : ¬ 3 * a ≤ 3 * b + e := by omega
                  rw [D1, D1]; simp; rw [B1, B1]; simp [q1]; exact t3 e he
              have hL5 := cut_2 (a := a) (b := b) (r := r) (R := R) (P := P) (s := rs g r) (rk := d) (N := N) (L1 := L1) (L2 := L2) hfull hb24 F.r13 (by omega) hd.1 (by rw [hpr]; exact f5) (by rw [hpr]; exact wr) hbig (by omega) w1 w2 w3 w4 hno N 0 FU gD (by omega) (FU_big (by omega)) ctd ⟨v30, v32, v30a, v32a⟩
              rw [nl0, Nat.add_zero] at hL5
              simp only [Nat.zero_add, hσd] at hL5
              generalize hgE : cgM gD P σ N = gE at hL5
              obtain ⟨pM, pM2⟩ := plM_eq (g1 := g1) (gB := gB) (gM := gE) (a := a) (R := R) (P := P) (N := N) (kd := nI kd) (rk := d) (lo := g1.1 5 0) (hi := g1.1 6 0) (σ := σ) (fun c o j h1 h2 h3 h4 => by rw [B1, sm1.1 c o (by omega)]) (fun c hc => by
                rw [B2, X2, pX2]
                funext p
                rw [plX_2, if_neg (by omega)]) (fun q hq => (hσ2 q hq).1) (by rw [← hgE, hgD])
              have E36 : ∀ c o, c ≠ 36 → gE.1 c o = gD.1 c o := fun c o z => by rw [← hgE]; exact cgM_f z
              have E3 : gE.2.2 = g1.2.2 := by rw [← hgE, cgM_3, ← hgD, gI1, arM_3, B2, X2, pX3]
              refine ⟨nI a, gX, sI (sI gE 22 0 0 0) 20 0 0 0, ca + 0, cb2 + 0, ?_, ?_, ?_, ?_⟩
              · have e0 : (sI gC 4 0 0 0).1 0 0 0 = nI (a + 1) := by
                  rw [gI, if_neg (by omega), C13 0 0 (by decide), O1]
                  repeat rw [if_neg (by omega)]
                  simp [N1]
                simp only [m_X4_cut, hA, Option.bind_some, wX, if_true, unw_y hb24, hd.2.1, r4, hit, if_pos le5, hfc, er1, if_neg n10, b16, hni, chk_t hfull, hOwn, hcs, lett_e, e0, show nI (a + 1) - 1 = nI a from nI_pred a, m_done, hgX, addc_some]
              · simp only [m_X5_cut, wM _ smg, Option.bind_some, if_true, chk_t cb, qb, m22, m27, hJ _ smg, m_X5_cut_J120, lett_e, c1g, exi, m25, if_neg (ne24 hfull), m26, hna, hNR, chk_t (inb_m hfull (by omega)), nI_clamp (show a < 2 ^ 31 by omega), hgD, hL5, m_yes]
              · have lowE : ∀ c o j, c < 20 → gE.1 c o j = gX.1 c o j := fun c o j hc => by
                  rw [E36 c o (by omega), D1]
                  repeat rw [if_neg (by omega)]
                  rw [B1]
                  repeat rw [if_neg (by omega)]
                have lonE : ∀ c, c < 2 → gE.2.1 c = gX.2.1 c := fun c hc => by
                  rw [← hgE]
                  funext p
                  rw [cgM_2, if_neg (by omega), ← hgD, gI1, arM_2, if_neg (by omega), B2]
                refine RI_copy (N := N) (kd := kd) (rk := d) (d2 := 0) (lo := g1.1 5 0) (hi := g1.1 6 0) (lo2 := g1.1 5 0) (hi2 := g1.1 6 0) (σ := σ) h1 C1 hn hfull hbig hkd ⟨hrk1, hd.1⟩ ?_ (fun e he => ⟨rfl, rfl⟩) hσ2 (by omega) ?_ ?_ ?_ ?_ ?_ ?_ ⟨by omega, ?_, ?_⟩
                · rw [← itN_pr, dit2]
                · intro c o j hc hc1 hc3 hc4
                  rw [gI, if_neg (by omega), gI, if_neg (by omega), lowE c o j hc, X1, if_neg (by omega), if_neg (by omega), pX c o j hc3 hc]
                · intro c o j h1 h2 h3 h4
                  rw [gI, if_neg (by omega), gI, if_neg (by omega), pM c o j h1 h2 h3 h4]
                · intro p
                  rw [gI1, gI1, pM2 2 (by omega), lonE 0 (by omega), X2, pX2]
                  exact ⟨rfl, rfl⟩
                · rw [gI1, gI1, lonE 1 (by omega), pM2 3 (by omega), X2, pX2]
                  refine ⟨funext fun p => ?_, funext fun p => ?_⟩
                  · rw [plX_2, if_neg (by omega)]
                  · rw [plM_2, if_neg (by omega)]
                · rw [gI1, gI1, E3]
                · rw [gI, if_neg (by omega), gI, if_neg (by omega), lowE 1 0 0 (by omega), X1, if_pos ⟨rfl, rfl, rfl⟩, gI, if_pos ⟨rfl, rfl, rfl⟩]
                  exact ⟨rfl, rfl⟩
                · rw [gI, if_neg (by omega), gI, if_neg (by omega), lowE 4 0 0 (by omega), X1, if_neg (by omega), if_pos ⟨rfl, rfl, rfl⟩]
                  rfl
                · rw [gI, if_neg (by omega), gI, if_pos ⟨rfl, rfl, rfl⟩]
                  rfl
              · have hcb : CB (ca + 0) (cb2 + 0) gS (sI (sI gE 22 0 0 0) 20 0 0 0) := CB_of G ⟨by rw [gI1, gI1, E3], by rw [gI1, gI1, E3]⟩ (by omega) (by omega)
                unfold CB at hcb ⊢
                rw [S2] at hcb
                exact hcb
            · have hfa := a_full C.1.1 hfull
              subst hfa
              have sm : SM g (sI gS 1 0 0 8) := SM_sI ⟨fun c o hc => S1 c o (by omega), by rw [S2], by rw [S2]⟩ (by decide)
              have e25 : (sI gS 1 0 0 8).1 25 0 0 = nI 24 := by rw [sm.1 25 0 (by omega)]; exact C.2.1.2
              obtain ⟨m22, m27⟩ := mrk _ sm
              have c1g := c1 _ sm
              rw [hbd] at c1g
              refine ⟨0, sI gS 1 0 0 8, sI (sI gS 1 0 0 8) 20 0 0 8, 0 + 0, 0 + 0, ?_, ?_, ?_, CB_0 h (by rw [gI1, gI1, S2])⟩
              · simp only [m_X4_cut, hA, Option.bind_some, wX, if_true, unw_y hb24, hd.2.1, r4, hit, if_pos le5, hfc, room_full Cs.2.1.1, addc_some, m_stop]
              · simp only [m_X5_cut, wM _ sm, Option.bind_some, if_true, chk_t cb, qb, m22, m27, hJ _ sm, m_X5_cut_J120, lett_e, c1g, exi, e25, if_pos (show nI 24 = (24 : Int32) from rfl), m_no]
              · refine RI_cw h (fun c o h1 h2 h3 h20 h21 h44 => ?_) (by rw [gI1, gI1, S2]) ?_
                · rw [sF, if_neg (fun z => h20 z.1), sF, if_neg (fun z => h1 z.1), S1 c o h3]
                · have := hcw.2
                  simp [Cw, gI, S1 21 0 (by decide), S1 2 0 (by decide), this]
        · have nle5 : ¬ nI (min 501 (itN g 0 d)) ≤ (500 : Int32) := nI_ge (a := 500) (by omega) (by omega)
          obtain ⟨m22, m27⟩ := mrk _ (SM_1 g 5)
          refine ⟨0, sI g 1 0 0 5, sI (sI g 1 0 0 5) 20 0 0 5, 0, 0, ?_, ?_, RI_stop h 5, CB_0 h rfl⟩
          · simp only [m_X4_cut, hA, Option.bind_some, wX, if_true, unw_y hb24, hd.2.1, r4, hit, if_neg nle5, m_stop]
          · simp only [m_X5_cut, m_X5_cut_J26, m_X5_cut_J44, wM _ (SM_1 g 5), Option.bind_some, if_true, chk_t cb, qb, m22, m27, hsi _ (SM_1 g 5), if_neg nle5, lett, if_neg n50, m_no]
      · have hne : ¬ nI d = nI rk := fun z => hdr ((nI_eq (by have := hd.1; omega) (by omega)).mp z)
        obtain ⟨m22, m27⟩ := mrk _ (SM_1 g 9)
        refine ⟨0, sI g 1 0 0 9, sI (sI g 1 0 0 9) 20 0 0 9, 0, 0, ?_, ?_, RI_stop h 9, CB_0 h rfl⟩
        · simp only [m_X4_cut, hA, Option.bind_some, wX, if_true, unw_y hb24, hd.2.1, r4, if_neg hne, m_stop]
        · simp only [m_X5_cut, m_X5_cut_J26, m_X5_cut_J44, wM _ (SM_1 g 9), Option.bind_some, if_true, chk_t cb, qb, m22, m27, if_neg hne, lett, hsi _ (SM_1 g 9), if_neg n90, m_no]
    · refine ⟨0, sI g 1 0 0 2, sI (sI g 1 0 0 2) 20 0 0 2, 0, 0, ?_, ?_, RI_stop h 2, CB_0 h rfl⟩
      · simp only [m_X4_cut, hA, Option.bind_some, (why_tab C hb (SM_r g)).1, if_pos h16, if_neg n20, m_stop]
      · simp only [m_X5_cut, m_X5_cut_J26, m_X5_cut_J44, (why_tab C hb (SM_1 g 2)).2, if_pos h16, hsi _ (SM_1 g 2), Option.bind_some, if_neg n20, m_no]
