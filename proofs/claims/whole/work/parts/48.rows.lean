/-! PURE: room, rows, items; ragged. -/
def Grw (R P R2 P2 : Nat) (g g2 : Gs) (ca cb : Nat) : Prop :=
  (∀ c o, c ≠ 13 → c ≠ 14 → c ≠ 15 → g2.1 c o = g.1 c o) ∧
  (∀ r, r < R → g2.1 14 0 r = g.1 14 0 r ∧ g2.1 15 0 r = g.1 15 0 r) ∧
  (∀ p, p < P → g2.1 13 0 p = g.1 13 0 p ∧ g2.2.1 0 p = g.2.1 0 p) ∧
  (∀ c, c ≠ 0 → g2.2.1 c = g.2.1 c) ∧
  (∀ k, k ≠ 9 → k ≠ 10 → k ≠ 11 → k ≠ 12 → g2.2.2 k = g.2.2 k) ∧
  (g2.2.2 12 = g2.2.2 11 ∧ g2.2.2 10 = g2.2.2 9 ∧ R2 ≤ g2.2.2 11 ∧ P2 ≤ g2.2.2 9 ∧ 32 ≤ g2.2.2 11 ∧ g2.2.2 11 ≤ 30000 ∧ 64 ≤ g2.2.2 9 ∧ g2.2.2 9 ≤ 150000) ∧
  (ca ≤ 4 ∧ cb + 4 * (g.2.2 9 + g.2.2 11) ≤ 4 * (g2.2.2 9 + g2.2.2 11))
theorem swI_1 (g : Gs) (c kd N c1 o1 : Nat) : (swI g c kd N).1 c1 o1 = if c1 = c ∧ o1 = 0 then va_cpy (g.1 c 0) (fun _ => 0) 0 0 (g.2.2 kd) else g.1 c1 o1 := rfl
theorem swI_2 (g : Gs) (c kd N : Nat) : (swI g c kd N).2.1 = g.2.1 := rfl
theorem swI_3 (g : Gs) (c kd N k : Nat) : (swI g c kd N).2.2 k = if k = kd then N else g.2.2 k := rfl
theorem cpy0 {α : Type} {f h : Nat → α} {n j : Nat} (hj : j < n) : va_cpy f h 0 0 n j = f j := by
  rw [pk_cpy_in (by omega) (by omega)]
  congr 1
  omega
theorem growRows {a R P S n : Nat} {bx : Nat → Bool} {so : Nat → Nat} {g : Gs} (C : Core a R P S bx so n g) {x : Nat} (hx : R + x ≤ 12512) : ∃ g2 ca cb, m_X3_growRows (nI (R + x)) g = some (g2, ca, cb) ∧ ca ≤ 2 ∧ (∀ c o, c ≠ 14 → c ≠ 15 → g2.1 c o = g.1 c o) ∧ (∀ r, r < R → g2.1 14 0 r = g.1 14 0 r ∧ g2.1 15 0 r = g.1 15 0 r) ∧ g2.2.1 = g.2.1 ∧ (∀ k, k ≠ 11 → k ≠ 12 → g2.2.2 k = g.2.2 k) ∧ g2.2.2 12 = g2.2.2 11 ∧ R + x ≤ g2.2.2 11 ∧ g.2.2 11 ≤ g2.2.2 11 ∧ g2.2.2 11 ≤ 30000 ∧ cb + 4 * g.2.2 11 ≤ 4 * g2.2.2 11 := by
  obtain ⟨-, -, -, ⟨k1, k2, k3, k4, k5, k6, k7, k8⟩, -⟩ := C
  unfold m_X3_growRows
  by_cases h : R + x ≤ g.2.2 11
  · rw [if_pos (nI_le h (by omega))]
    exact ⟨g, 0, 0, rfl, by omega, fun _ _ _ _ => rfl, fun _ _ => ⟨rfl, rfl⟩, rfl, fun _ _ _ => rfl, k1, h, by omega, by omega, by omega⟩
  · rw [if_neg (nI_ge (by omega) (by omega))]
    have hz : (if nI (R + x) < 2 * nI (g.2.2 11) then 2 * nI (g.2.2 11) else nI (R + x)) = nI (max (R + x) (2 * g.2.2 11)) := by
      rw [show (2 : Int32) = nI 2 from rfl, pk_mul]
      by_cases q : R + x < 2 * g.2.2 11
      · rw [if_pos (nI_lt q (by omega)), Nat.max_eq_right (by omega)]
      · rw [if_neg (nI_nlt (by omega) (by omega)), Nat.max_eq_left (by omega)]
    simp only [lett, hz]
    generalize hZ : max (R + x) (2 * g.2.2 11) = Z
    have z1 : R + x ≤ Z := by omega
    have z2 : 2 * g.2.2 11 ≤ Z := by omega
    have z3 : Z ≤ 30000 := by omega
    rw [nI_clamp (by omega), chk_t ⟨rfl, k1, by omega, by omega⟩]
    refine ⟨_, 2, Z + Z, rfl, by omega, fun c o h1 h2 => ?_, fun r hr => ?_, rfl, fun k h1 h2 => ?_, ?_, ?_, ?_, ?_, ?_⟩
    · rw [swI_1, if_neg (by omega), swI_1, if_neg (by omega)]
    · refine ⟨?_, ?_⟩
      · rw [swI_1, if_neg (by omega), swI_1, if_pos ⟨rfl, rfl⟩, cpy0 (by omega)]
      · rw [swI_1, if_pos ⟨rfl, rfl⟩, cpy0 (by rw [swI_3, if_neg (by omega)]; omega), swI_1, if_neg (by omega)]
    · rw [swI_3, if_neg h2, swI_3, if_neg h1]
    · simp [swI_3]
    · simp [swI_3]; omega
    · simp [swI_3]; omega
    · simp [swI_3]; omega
    · simp [swI_3]; omega
theorem growCells {g : Gs} {P y : Nat} (hy : P + y ≤ 63200) (k2 : g.2.2 10 = g.2.2 9) (k4 : P ≤ g.2.2 9) (k7 : 64 ≤ g.2.2 9) (k8 : g.2.2 9 ≤ 150000) (hf : ∀ p, p < P → g.1 13 0 p = 0 ∨ g.1 13 0 p = 1) : ∃ g2 ca cb, m_X3_growCells (nI (P + y)) g = some (g2, ca, cb) ∧ ca ≤ 2 ∧ (∀ c o, c ≠ 13 → g2.1 c o = g.1 c o) ∧ (∀ p, p < P → g2.1 13 0 p = g.1 13 0 p ∧ g2.2.1 0 p = g.2.1 0 p) ∧ (∀ c, c ≠ 0 → g2.2.1 c = g.2.1 c) ∧ (∀ k, k ≠ 9 → k ≠ 10 → g2.2.2 k = g.2.2 k) ∧ g2.2.2 10 = g2.2.2 9 ∧ P + y ≤ g2.2.2 9 ∧ g.2.2 9 ≤ g2.2.2 9 ∧ g2.2.2 9 ≤ 150000 ∧ cb + 4 * g.2.2 9 ≤ 4 * g2.2.2 9 := by
  unfold m_X3_growCells
  by_cases h : P + y ≤ g.2.2 9
  · rw [if_pos (nI_le h (by omega))]
    exact ⟨g, 0, 0, rfl, by omega, fun _ _ _ => rfl, fun _ _ => ⟨rfl, rfl⟩, fun _ _ => rfl, fun _ _ _ => rfl, k2, h, by omega, by omega, by omega⟩
  · rw [if_neg (nI_ge (by omega) (by omega))]
    have hz : (if nI (P + y) < 2 * nI (g.2.2 9) then 2 * nI (g.2.2 9) else nI (P + y)) = nI (max (P + y) (2 * g.2.2 9)) := by
      rw [show (2 : Int32) = nI 2 from rfl, pk_mul]
      by_cases q : P + y < 2 * g.2.2 9
      · rw [if_pos (nI_lt q (by omega)), Nat.max_eq_right (by omega)]
      · rw [if_neg (nI_nlt (by omega) (by omega)), Nat.max_eq_left (by omega)]
    simp only [lett, hz]
    generalize hZ : max (P + y) (2 * g.2.2 9) = Z
    have z1 : P + y ≤ Z := by omega
    have z2 : 2 * g.2.2 9 ≤ Z := by omega
    have z3 : Z ≤ 150000 := by omega
    rw [nI_clamp (show Z < 2 ^ 31 by omega), chk_t ⟨rfl, by omega, by omega, by omega⟩]
    have e10 : (swL g Z).2.2 10 = g.2.2 10 := by simp [swL, sN, sLA]
    refine ⟨_, 2, Z + Z, rfl, by omega, fun c o h1 => ?_, fun p hp => ?_, fun c hc => ?_, fun k h1 h2 => ?_, ?_, ?_, ?_, ?_, ?_⟩
    · show (if c = 13 ∧ o = 0 then _ else g.1 c o) = _
      rw [if_neg (by omega)]
    · refine ⟨?_, ?_⟩
      · show (va_cpy (nrZ (g.1 13 0)) (fun _ => 0) 0 0 ((swL g Z).2.2 10)) p = _
        rw [e10, cpy0 (by omega)]
        show vp_nar .boolean (g.1 13 0 p) = _
        rcases hf p hp with h5 | h5
        · rw [h5, nar0]
        · rw [h5, nar1]
      · show (va_cpy (g.2.1 0) (fun _ => 0) 0 0 (g.2.2 9)) p = _
        rw [cpy0 (by omega)]
    · show (if c = 0 then _ else g.2.1 c) = _
      rw [if_neg hc]
    · show (if k = 10 then Z else if k = 9 then Z else g.2.2 k) = _
      rw [if_neg h2, if_neg h1]
    · rfl
    · show P + y ≤ Z; omega
    · show g.2.2 9 ≤ Z; omega
    · show Z ≤ 150000; omega
    · show Z + Z + 4 * g.2.2 9 ≤ 4 * Z; omega
theorem addc_some {α : Type} (a b : Nat) (r : α) (g : Gs) (c d : Nat) : addc a b (some (r, g, c, d)) = some (r, g, a + c, b + d) := rfl
theorem reserve {a R P S n : Nat} {bx : Nat → Bool} {so : Nat → Nat} {g : Gs} (C : Core a R P S bx so n g) {x y : Nat} (hx : R + x ≤ 12512) (hy : P + y ≤ 63200) : ∃ g2 ca cb, m_X3_reserve (nI x) (nI y) g = some (1, g2, ca, cb) ∧ Grw R P (R + x) (P + y) g g2 ca cb := by
  obtain ⟨gr, ra, rb, e1, f1, f2, f3, f4, f5, f6, f7, f8, f9, f10⟩ := growRows C hx
  have hcl := C.2.2.2.2.2.1
  have hN := C.2.2.2.1
  obtain ⟨-, -, ⟨c12, -, c11, -, -⟩, ⟨k1, k2, k3, k4, k5, k6, k7, k8⟩, -⟩ := C
  have g11 : gr.1 11 0 0 = nI P := by rw [f2 11 0 (by decide) (by decide)]; exact c11
  have g9 : gr.2.2 9 = g.2.2 9 := f5 9 (by decide) (by decide)
  have g10 : gr.2.2 10 = g.2.2 10 := f5 10 (by decide) (by decide)
  obtain ⟨gc, da, db, e2, d1, d2, d3, d4, d5, d6, d7, d8, d9, d10⟩ := growCells (g := gr) (P := P) (y := y) hy (by omega) (by omega) (by omega) (by omega) (fun p hp => by rw [f2 13 0 (by decide) (by decide)]; exact (hcl p hp).2.1)
  have i11 : gc.2.2 11 = gr.2.2 11 := d5 11 (by decide) (by decide)
  have i12 : gc.2.2 12 = gr.2.2 12 := d5 12 (by decide) (by decide)
  refine ⟨gc, ra + (da + 0), rb + (db + 0), ?_, fun c o h1 h2 h3 => ?_, fun r hr => ?_, fun p hp => ?_, fun c hc => ?_, fun k h1 h2 h3 h4 => ?_, ?_, ?_⟩
  · unfold m_X3_reserve
    rw [c12, c11, show (12512 : Int32) = nI 12512 from rfl, show (63200 : Int32) = nI 63200 from rfl, pk_sub (by omega), pk_sub (by omega), if_neg (nI_nlt (by omega) (by omega)), if_pos (nI_le (by omega) (by omega)), nI_add, e1]
    simp only [Option.bind_some, g11, nI_add, e2]
    rfl
  · rw [d2 c o h1, f2 c o h2 h3]
  · rw [d2 14 0 (by decide), d2 15 0 (by decide)]
    exact f3 r hr
  · rw [(d3 p hp).1, (d3 p hp).2, f2 13 0 (by decide) (by decide), f4]
    exact ⟨rfl, rfl⟩
  · rw [d4 c hc, f4]
  · rw [d5 k h1 h2, f5 k h3 h4]
  · omega
  · omega
/-- the core, with more of everything -/
theorem Core_ext {a R P S n a2 R2 P2 S2 n2 : Nat} {bx bx2 : Nat → Bool} {so so2 : Nat → Nat} {g g2 : Gs} (C : Core a R P S bx so n g)
    (hb : a2 ≤ 24 ∧ R2 ≤ 500 * a2 + n2 ∧ P2 ≤ 500 * a2 + 100 * n2 ∧ S2 ≤ 500 * a2) (hm : a ≤ a2 ∧ a2 ≤ a + 1 ∧ R ≤ R2 ∧ P ≤ P2 ∧ S ≤ S2)
    (hc : g2.1 0 0 0 = nI a2 ∧ g2.1 25 0 0 = nI a2) (hk : g2.1 12 0 0 = nI R2 ∧ g2.1 31 0 0 = nI R2 ∧ g2.1 11 0 0 = nI P2 ∧ g2.1 34 0 0 = nI P2 ∧ g2.1 37 0 0 = nI S2)
    (hN : g2.2.2 12 = g2.2.2 11 ∧ g2.2.2 10 = g2.2.2 9 ∧ R2 ≤ g2.2.2 11 ∧ P2 ≤ g2.2.2 9 ∧ 32 ≤ g2.2.2 11 ∧ g2.2.2 11 ≤ 30000 ∧ 64 ≤ g2.2.2 9 ∧ g2.2.2 9 ≤ 150000)
    (fr : ∀ r, r < R → g2.1 14 0 r = g.1 14 0 r ∧ g2.1 15 0 r = g.1 15 0 r ∧ g2.1 32 0 r = g.1 32 0 r ∧ g2.1 33 0 r = g.1 33 0 r)
    (fp : ∀ p, p < P → g2.1 13 0 p = g.1 13 0 p ∧ g2.1 36 0 p = g.1 36 0 p ∧ g2.2.1 0 p = g.2.1 0 p ∧ g2.2.1 2 p = g.2.1 2 p ∧ bx2 p = bx p)
    (fa : ∀ i, i < a → g2.1 16 i 0 = g.1 16 i 0 ∧ g2.1 26 0 i = g.1 26 0 i ∧ g2.1 17 i 0 = g.1 17 i 0 ∧ g2.1 30 0 i = g.1 30 0 i ∧ g2.1 4 (i + 1) = g.1 4 (i + 1) ∧ g2.1 5 (i + 1) = g.1 5 (i + 1) ∧ g2.1 6 (i + 1) = g.1 6 (i + 1) ∧ g2.1 27 0 i = g.1 27 0 i ∧ (∀ d, d < 3 → g2.1 28 0 (3 * i + d) = g.1 28 0 (3 * i + d) ∧ g2.1 29 0 (3 * i + d) = g.1 29 0 (3 * i + d)) ∧ g2.1 18 i = g.1 18 i ∧ g2.2.2 (500 + i) = g.2.2 (500 + i) ∧ so2 i = so i)
    (fs : ∀ s, s < S → g2.1 38 0 s = g.1 38 0 s)
    (nr : ∀ r, R ≤ r → r < R2 → rwOk g2 P2 r) (np : ∀ p, P ≤ p → p < P2 → clOk g2 bx2 p) (na : ∀ i, a ≤ i → i < a2 → aOk g2 R2 S2 bx2 so2 i ∧ (g2.1 16 i 0 = 4 → S ≤ so2 i)) (hcap : ∀ i, g2.2.2 (500 + i) ≤ 500) : Core a2 R2 P2 S2 bx2 so2 n2 g2 := by
  obtain ⟨c1, c2, c3, c4, c5, c6, c7, c8⟩ := C
  have hrs : ∀ r, r < R → rs g2 r = rs g r ∧ rl g2 r = rl g r := fun r hr => by
    obtain ⟨e1, e2, -⟩ := fr r hr
    exact ⟨by simp only [rs, e1], by simp only [rl, e2]⟩
  have hin : ∀ r p, r < R → inRow g2 r p → inRow g r p ∧ bx2 p = bx p := fun r p hr h => by
    obtain ⟨e1, e2⟩ := hrs r hr
    unfold inRow at h ⊢
    rw [e1, e2] at h
    have := (c5 r hr).2.2.2.1
    exact ⟨h, (fp p (by omega)).2.2.2.2⟩
  have hrc : ∀ i, i < a → rcN g2 i = rcN g i := fun i hi => by
    obtain ⟨-, -, -, -, -, e5, e6, -⟩ := fa i hi
    simp only [rcN, e5, e6]
  refine ⟨hb, hc, hk, hN, fun r hr => ?_, fun p hp => ?_, fun i hi => ?_, fun i j hij hj h4i h4j => ?_, hcap⟩
  · by_cases q : r < R
    · obtain ⟨e1, e2, e3, e4⟩ := fr r q
      obtain ⟨w1, w2, w3, w4, w5, w6⟩ := c5 r q
      unfold rwOk
      rw [(hrs r q).1, (hrs r q).2, e1, e2, e3, e4]
      exact ⟨w1, w2, w3, by omega, w5, w6⟩
    · exact nr r (by omega) hr
  · by_cases q : p < P
    · obtain ⟨e1, e2, e3, e4, e5⟩ := fp p q
      unfold clOk
      rw [e1, e2, e3, e4, e5]
      exact c6 p q
    · exact np p (by omega) hp
  · by_cases q : i < a
    · obtain ⟨e16, e26, e17, e30, e4, e5, e6, e27, e28, e18, eN, eso⟩ := fa i q
      obtain ⟨k, rk, hk, hkX, hkM, hs, hp, ht⟩ := c7 i q
      have eit : ∀ d, itN g2 (i + 1) d = itN g (i + 1) d := fun d => itN_congr e5 e6 d
      refine ⟨k, rk, hk, e16.trans hkX, e26.trans hkM, ?_, fun z => ?_, fun z => ?_⟩
      · obtain ⟨s1, s2, s3, s4, s5⟩ := hs
        refine ⟨s1, s2, by rw [e4]; exact s3, by rw [e27]; exact s4, fun d hd => ?_⟩
        rw [(e28 d (by omega)).1, (e28 d (by omega)).2, e5, e6]
        exact s5 d hd
      · obtain ⟨r, hr, p1, p2, p3, p4⟩ := hp z
        refine ⟨r, by omega, by rw [e17]; exact p1, by rw [e30]; exact p2, by rw [(hrs r hr).2, eit]; exact p3, fun p hpp => ?_⟩
        obtain ⟨q1, q2⟩ := hin r p hr hpp
        rw [q2]
        exact p4 p q1
      · obtain ⟨hrk, t1, t2, t3, t4, t5, t6, t7⟩ := ht z
        refine ⟨hrk, by rw [e17]; exact t1, by rw [e30, eso]; exact t2, by rw [eso, hrc i q]; omega, by rw [hrc i q]; exact t4, by rw [hrc i q, eN]; exact t5, by rw [eit]; exact t6, fun r hr => ?_⟩
        rw [hrc i q] at hr
        obtain ⟨u1, u2⟩ := t7 r hr
        rw [eso, fs _ (by omega), e18]
        refine ⟨u1, ?_⟩
        rcases u2 with u2 | ⟨qq, hq, u3, u4⟩
        · exact Or.inl u2
        · refine Or.inr ⟨qq, by omega, u3, fun p hpp => ?_⟩
          obtain ⟨q1, q2⟩ := hin qq p hq hpp
          rw [q2]
          exact u4 p q1
    · exact (na i (by omega) hi).1
  · by_cases q : j < a
    · obtain ⟨e16, -, -, -, -, -, -, -, -, -, -, eso⟩ := fa j q
      obtain ⟨i16, -, -, -, -, -, -, -, -, -, -, iso⟩ := fa i (by omega)
      rw [eso, iso, hrc i (by omega)]
      exact c8.1 i j hij q (i16.symm.trans h4i) (e16.symm.trans h4j)
    · have := (na j (by omega) hj).2 h4j
      obtain ⟨i16, -, -, -, -, -, -, -, -, -, -, iso⟩ := fa i (by omega)
      rw [iso, hrc i (by omega)]
      obtain ⟨k, rk, hk, hkX, hkM, hs, hp, ht⟩ := c7 i (by omega)
      have hk4 : k = 4 := by
        rw [i16, hkX] at h4i
        exact (k4_iff hk (by omega) (show (4 : Int32) = nI 4 from rfl)).mp h4i
      have := (ht hk4).2.2.2.1
      omega
