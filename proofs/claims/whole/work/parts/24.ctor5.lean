set_option maxHeartbeats 4000000 in
set_option maxRecDepth 100000 in
/-- ArrayMaker's constructor -/
theorem k_X4_init {l : Launch} {D : va_G} {b0 : Nat} {cy : Cy} {ad : Nat → Nat} {ct : Nat → va_E} {a0 : Nat} (ha : ad 0 = a0) (hct : ct 0 = .inr (4, [.null, .null, .null, .null, .null, .int 0, .int 0, .int 0])) :
    CN l yX4_init cX4_init 2 { frames := 3, cells := 135, slots := 1168, locals := 52 } a0 EX4 D b0 cy (fun j => j = 0) (lvC 24) ad ct (fun ad1 ct1 => (∀ j, lvC 24 j → j ≠ 1 → ct1 j = cont cy ad1 ad1 g0 j) ∧ ct1 1 = .inl (cy.2.2.2, 24, .inr (.inr (.inr (.inr (arF ad1 24)))))) := by
  refine Met.ofW (cc := cX4_init) (maxL := 2) (ret := none) (by decide) rfl ?_
  intro p e s m args below meth c s₁ B hml hv
  obtain ⟨rfl, ⟨hb0, M⟩, hK, hE⟩ := hv
  have C0 : Cx p s m [Value.ref a0].toArray c cX4_init 2 RX4 D cy := ⟨B.exec, B.bytes, hml, findClass_of_methodNamed B.named, fun w hw => atoms_spec (ws := Cond.code yX4_init cX4_init 2 none :: wsL_law) B.pre w (List.mem_cons_of_mem _ hw), hK⟩
  have hr := B.returns
  have hlk := B.notSynchronized
  have hin : meth.name = "<init>" := (name_of_methodNamed B.named B.method).1
  have hS : va_S (fun q => b0 ≤ q) s.heap s.heap [] := va_S.rf
  have hl := lv_entry ([.ref a0]) (n := 2) (Nat.le_of_ble_eq_true rfl)
  rw [lg_entry_eq]
  generalize (lg_sl ([.ref a0]) ++ List.replicate (2 - (lg_sl ([.ref a0])).length) Slot.unset).toArray = ls at hl ⊢
  have hl : lv_has ls 2 [(0, .ref a0)] := hl
  obtain ⟨hx, hb, hml, hown, hts, hK⟩ := id C0
  refine lv_aload_n hx hb dX4_init_0 rfl (lv_at hl 0 rfl) ?_
  refine W.objInit hx hb hown (hts _ kw_1_10) (hts _ kw_1_11) (hts _ kw_1_12) rfl (by rw [hml]; exact hl.1) rfl dX4_init_1 (Nat.le_of_ble_eq_true rfl) (Nat.le_of_ble_eq_true rfl) ?_
  refine W.eq (g2 := F0 m 4 ls []) rfl ?_
  -- the shape
  refine lv_aload_n hx hb dX4_init_4 rfl (lv_at hl 0 rfl) ?_
  refine mn_new C0 M hS hb0 (kn := 100 + 0) (by decide) (ci := 2) rfl inlX2 tyX2 tyX2_ok kw_1_13 kw_1_14 kw_1_15 (fs := [.null, .null, .int 0]) (fun j hj => by rcases (show j = 0 ∨ j = 1 ∨ j = 2 by omega) with rfl | rfl | rfl <;> rfl) (Nat.le_of_ble_eq_true rfl) (Nat.le_of_ble_eq_true rfl) (c1 := 1) (s1 := 3) rfl rfl dX4_init_5 (fun q1 H M hS => ?_)
  refine lv_dup hx hb dX4_init_8 rfl ?_
  refine kIN C0 M hS hb0 (k_X2_init (o := 0) (a0 := q1) (Or.inr rfl) (not_lvA (by decide) (by decide)) (not_lvA (by decide) (by decide)) (va_up_self _ _ _) (va_up_self _ _ _)) (host := RX4) hE.1 Y_X2_init (fun _ _ _ _ h => h) (fun _ _ => trivial) ⟨Nat.le_of_ble_eq_true rfl, Nat.le_of_ble_eq_true rfl⟩ hl.1 (Nat.le_of_ble_eq_true rfl) dX4_init_9 (c1 := 3) (s1 := 9) rfl rfl ⟨Nat.le_of_ble_eq_true rfl, Nat.le_of_ble_eq_true rfl⟩ (fun ad1 ct1 H locs w1 hZ M hS => ?_)
  obtain ⟨z0, z100, z200, z300⟩ := hZ
  have hq1 : ad1 (100 + 0) = q1 := (w1 _ (Or.inr rfl)).trans (va_up_self _ _ _)
  have ha := (w1 0 (Or.inl rfl)).trans ((va_up_ne _ _ (by decide)).trans ha)
  have hct : ct1 0 = .inr (4, [.null, .null, .null, .null, .null, .int 0, .int 0, .int 0]) := (z0 0 (Or.inl rfl) (by decide)).trans ((va_up_ne _ _ (by decide)).trans hct)
  have M := mp_lv (lv2 := fun j => j = 0 ∨ j = 100 ∨ j = 200 ∨ j = 300) M (fun j hj => by
    rcases hj with rfl | rfl | rfl | rfl
    · exact Or.inl (Or.inl rfl)
    · exact Or.inl (Or.inr rfl)
    · exact Or.inr (Or.inl rfl)
    · exact Or.inr (Or.inr rfl))
  refine sp_F C0 hin M hS (k := 0) (Or.inl rfl) ha hct rfl inlX4 tyX4 tyX4_ok nmX4 0 (by decide) kw_1_16 rfl rfl rfl (fty := .object "ArrayMaker$Shape") (by decide +kernel) rfl rfl (Nat.le_of_ble_eq_true rfl) dX4_init_12 (fun ct2 H locs B D2 M hS => ?_)
  have z100 : ct2 100 = _ := (B 100 (by decide)).trans z100
  have z200 : ct2 200 = _ := (B 200 (by decide)).trans z200
  have z300 : ct2 300 = _ := (B 300 (by decide)).trans z300
  have hct : ct2 0 = .inr (4, [.ref q1, .null, .null, .null, .null, .int 0, .int 0, .int 0]) := D2
  clear B D2 z0
  -- the list
  refine lv_aload_n hx hb dX4_init_15 rfl (lv_at hl 0 rfl) ?_
  refine mn_new C0 M hS hb0 (kn := 3) (by decide) (ci := 0) rfl inlX0 tyX0 tyX0_ok kw_1_17 kw_1_18 kw_1_19 (fs := [.null, .null, .null, .null, .int 0]) (fun j hj => by rcases (show j = 0 ∨ j = 1 ∨ j = 2 ∨ j = 3 ∨ j = 4 by omega) with rfl | rfl | rfl | rfl | rfl <;> rfl) (Nat.le_of_ble_eq_true rfl) (Nat.le_of_ble_eq_true rfl) (c1 := 4) (s1 := 14) rfl rfl dX4_init_16 (fun q2 H M hS => ?_)
  refine lv_dup hx hb dX4_init_19 rfl ?_
  refine kIN C0 M hS hb0 (k_X0_init (a0 := q2) (Or.inr rfl) (not_lvA (by decide) (by decide)) (not_lvA (by decide) (by decide)) (not_lvA (by decide) (by decide)) (not_lvA (by decide) (by decide)) (va_up_self _ _ _) (va_up_self _ _ _)) (host := RX4) hE.2.1 Y_X0_init (fun _ _ _ _ h => h) (fun _ _ => trivial) ⟨Nat.le_of_ble_eq_true rfl, Nat.le_of_ble_eq_true rfl⟩ hl.1 (Nat.le_of_ble_eq_true rfl) dX4_init_20 (c1 := 8) (s1 := 134) rfl rfl ⟨Nat.le_of_ble_eq_true rfl, Nat.le_of_ble_eq_true rfl⟩ (fun ad3 ct3 H locs w3 hZ M hS => ?_)
  obtain ⟨z0, z3, z4, z5, z6, z7⟩ := hZ
  have hq2 : ad3 3 = q2 := (w3 _ (Or.inr rfl)).trans (va_up_self _ _ _)
  have e3 : ∀ j, (j = 0 ∨ j = 100 ∨ j = 200 ∨ j = 300) → ad3 j = ad1 j := fun j hj => (w3 j (Or.inl hj)).trans (va_up_ne _ _ (by omega))
  have f3 : ∀ j, (j = 0 ∨ j = 100 ∨ j = 200 ∨ j = 300) → ct3 j = ct2 j := fun j hj => (z0 j (Or.inl hj) (by omega)).trans (va_up_ne _ _ (by omega))
  have ha := (e3 0 (Or.inl rfl)).trans ha
  have hct := (f3 0 (Or.inl rfl)).trans hct
  have z100 := (f3 100 (by decide)).trans z100
  have z200 := (f3 200 (by decide)).trans z200
  have z300 := (f3 300 (by decide)).trans z300
  have M := mp_lv (lv2 := fun j => (j = 0 ∨ j = 100 ∨ j = 200 ∨ j = 300) ∨ j = 3 ∨ j = 4 ∨ j = 5 ∨ j = 6 ∨ j = 7) M (fun j hj => by
    rcases hj with h | h | h | h | h | h
    · exact Or.inl (Or.inl h)
    · exact Or.inl (Or.inr h)
    · exact Or.inr (Or.inl h)
    · exact Or.inr (Or.inr (Or.inl h))
    · exact Or.inr (Or.inr (Or.inr (Or.inl h)))
    · exact Or.inr (Or.inr (Or.inr (Or.inr h))))
  refine sp_F C0 hin M hS (k := 0) (Or.inl (Or.inl rfl)) ha hct rfl inlX4 tyX4 tyX4_ok nmX4 1 (by decide) kw_1_20 rfl rfl rfl (fty := .object "ArrayMaker$Lines") (by decide +kernel) rfl rfl (Nat.le_of_ble_eq_true rfl) dX4_init_23 (fun ct4 H locs B D2 M hS => ?_)
  have z100 := (B 100 (by decide)).trans z100
  have z200 := (B 200 (by decide)).trans z200
  have z300 := (B 300 (by decide)).trans z300
  have z3 := (B 3 (by decide)).trans z3
  have z4 := (B 4 (by decide)).trans z4
  have z5 := (B 5 (by decide)).trans z5
  have z6 := (B 6 (by decide)).trans z6
  have z7 := (B 7 (by decide)).trans z7
  have hct : ct4 0 = .inr (4, [.ref q1, .ref q2, .null, .null, .null, .int 0, .int 0, .int 0]) := D2
  clear B D2 z0 f3
  -- the store
  refine lv_aload_n hx hb dX4_init_26 rfl (lv_at hl 0 rfl) ?_
  refine mn_new C0 M hS hb0 (kn := 8) (by decide) (ci := 3) rfl inlX3 tyX3 tyX3_ok kw_1_21 kw_1_22 kw_1_23 (fs := [.null, .null, .null, .null, .int 0, .int 0]) (fun j hj => by rcases (show j = 0 ∨ j = 1 ∨ j = 2 ∨ j = 3 ∨ j = 4 ∨ j = 5 by omega) with rfl | rfl | rfl | rfl | rfl | rfl <;> rfl) (Nat.le_of_ble_eq_true rfl) (Nat.le_of_ble_eq_true rfl) (c1 := 9) (s1 := 140) rfl rfl dX4_init_27 (fun q3 H M hS => ?_)
  refine lv_dup hx hb dX4_init_30 rfl ?_
  refine kIN C0 M hS hb0 (k_X3_init (a0 := q3) (Or.inr rfl) (not_lvA (by decide) (by decide)) (not_lvA (by decide) (by decide)) (not_lvA (by decide) (by decide)) (not_lvA (by decide) (by decide)) (va_up_self _ _ _) (va_up_self _ _ _)) (host := RX4) hE.2.2.1 Y_X3_init (fun _ _ _ _ h => h) (fun _ _ => trivial) ⟨Nat.le_of_ble_eq_true rfl, Nat.le_of_ble_eq_true rfl⟩ hl.1 (Nat.le_of_ble_eq_true rfl) dX4_init_31 (c1 := 13) (s1 := 332) rfl rfl ⟨Nat.le_of_ble_eq_true rfl, Nat.le_of_ble_eq_true rfl⟩ (fun ad5 ct5 H locs w5 hZ M hS => ?_)
  obtain ⟨z0, z8, z9, z10, z11, z12⟩ := hZ
  have hq3 : ad5 8 = q3 := (w5 _ (Or.inr rfl)).trans (va_up_self _ _ _)
  have e5 : ∀ j, ((j = 0 ∨ j = 100 ∨ j = 200 ∨ j = 300) ∨ j = 3 ∨ j = 4 ∨ j = 5 ∨ j = 6 ∨ j = 7) → ad5 j = ad3 j := fun j hj => (w5 j (Or.inl hj)).trans (va_up_ne _ _ (by omega))
  have f5 : ∀ j, ((j = 0 ∨ j = 100 ∨ j = 200 ∨ j = 300) ∨ j = 3 ∨ j = 4 ∨ j = 5 ∨ j = 6 ∨ j = 7) → ct5 j = ct4 j := fun j hj => (z0 j (Or.inl hj) (by omega)).trans (va_up_ne _ _ (by omega))
  have ha := (e5 0 (by decide)).trans ha
  have hct := (f5 0 (by decide)).trans hct
  have z100 := (f5 100 (by decide)).trans z100
  have z200 := (f5 200 (by decide)).trans z200
  have z300 := (f5 300 (by decide)).trans z300
  have z3 := (f5 3 (by decide)).trans z3
  have z4 := (f5 4 (by decide)).trans z4
  have z5 := (f5 5 (by decide)).trans z5
  have z6 := (f5 6 (by decide)).trans z6
  have z7 := (f5 7 (by decide)).trans z7
  have M := mp_lv (lv2 := fun j => j = 0 ∨ j = 100 ∨ j = 200 ∨ j = 300 ∨ (3 ≤ j ∧ j ≤ 12)) M (fun j hj => by
    have h2 : (((j = 0 ∨ j = 100 ∨ j = 200 ∨ j = 300) ∨ j = 3 ∨ j = 4 ∨ j = 5 ∨ j = 6 ∨ j = 7) ∨ j = 8) ∨ j = 9 ∨ j = 10 ∨ j = 11 ∨ j = 12 := by omega
    exact h2)
  refine sp_F C0 hin M hS (k := 0) (Or.inl rfl) ha hct rfl inlX4 tyX4 tyX4_ok nmX4 2 (by decide) kw_2_0 rfl rfl rfl (fty := .object "ArrayMaker$Store") (by decide +kernel) rfl rfl (Nat.le_of_ble_eq_true rfl) dX4_init_34 (fun ct6 H locs B6 D2 M hS => ?_)
  have hct : ct6 0 = .inr (4, [.ref q1, .ref q2, .ref q3, .null, .null, .int 0, .int 0, .int 0]) := D2
  clear D2 z0 f5
  -- the arrays
  refine lv_aload_n hx hb dX4_init_37 rfl (lv_at hl 0 rfl) ?_
  refine lv_bipush (v := 24) hx hb dX4_init_38 (by decide) ?_
  refine mn_anew C0 M hS hb0 (kn := 1) (by decide) kw_2_1 hE.2.2.2.2.2 (N := 24) (by decide) (by decide) (by decide) (Nat.le_of_ble_eq_true rfl) (Nat.le_of_ble_eq_true rfl) (c1 := 14) (s1 := 356) rfl rfl dX4_init_40 (fun q4 H M hS => ?_)
  refine sp_F C0 hin M hS (k := 0) (Or.inl (Or.inl rfl)) ((va_up_ne _ _ (by decide)).trans ha) ((va_up_ne _ _ (by decide)).trans hct) rfl inlX4 tyX4 tyX4_ok nmX4 3 (by decide) kw_2_2 rfl rfl rfl (fty := .array (.object "ArrayMaker$MadeArray")) (by decide +kernel) rfl rfl (Nat.le_of_ble_eq_true rfl) dX4_init_43 (fun ct7 H locs B7 D2 M hS => ?_)
  have hct : ct7 0 = .inr (4, [.ref q1, .ref q2, .ref q3, .ref q4, .null, .int 0, .int 0, .int 0]) := D2
  have ha : (va_up ad5 1 q4) 0 = a0 := (va_up_ne _ _ (by decide)).trans ha
  -- the sources
  refine lv_aload_n hx hb dX4_init_46 rfl (lv_at hl 0 rfl) ?_
  refine lv_sipush (v := 500) hx hb dX4_init_47 (by decide) ?_
  refine sa_F C0 hin M hS hb0 (k := 0) (kn := 2) (Or.inl (Or.inl rfl)) (not_lvA (by decide) (by decide)) (by decide) ha hct rfl inlX4 tyX4 tyX4_ok nmX4 4 (by decide) kw_2_4 rfl rfl rfl (fty := .array .int) (by decide +kernel) (fun _ => rfl) (fun _ => rfl) (Nat.le_of_ble_eq_true rfl) (ty := .int) rfl kw_2_3 (cA := cy.1) 0 rfl (fun h => h) (N2 := 500) (a1 := (500, .inl (fun _ => 0))) (fun _ => rfl) (by decide) (by decide) (by decide) (Nat.le_of_ble_eq_true rfl) (Nat.le_of_ble_eq_true rfl) (c1 := 15) (s1 := 856) rfl rfl dX4_init_50 dX4_init_52 (fun ad8 ct8 H locs A8 B8 C8 D8 M hS => ?_)
  have ha := (A8 0 (by decide)).trans ha
  have hct : ct8 0 = .inr (4, [.ref q1, .ref q2, .ref q3, .ref q4, .ref (ad8 2), .int 0, .int 0, .int 0]) := D8
  refine lv_aload_n hx hb dX4_init_55 rfl (lv_at hl 0 rfl) ?_
  refine lv_iconst (v := 0) hx hb dX4_init_56 (by decide) ?_
  refine sp_I C0 M hS (k := 0) (Or.inl (Or.inl (Or.inl rfl))) ha hct rfl inlX4 tyX4 tyX4_ok nmX4 5 (by decide) kw_2_5 rfl rfl (by decide +kernel) (Nat.le_of_ble_eq_true rfl) dX4_init_57 (fun ct9 H locs B9 D9 M hS => ?_)
  refine lv_aload_n hx hb dX4_init_60 rfl (lv_at hl 0 rfl) ?_
  refine lv_iconst (v := 0) hx hb dX4_init_61 (by decide) ?_
  refine sp_I C0 M hS (k := 0) (Or.inl (Or.inl (Or.inl rfl))) ha D9 rfl inlX4 tyX4 tyX4_ok nmX4 6 (by decide) kw_2_6 rfl rfl (by decide +kernel) (Nat.le_of_ble_eq_true rfl) dX4_init_62 (fun ct10 H locs B10 D10 M hS => ?_)
  refine lv_aload_n hx hb dX4_init_65 rfl (lv_at hl 0 rfl) ?_
  refine lv_iconst (v := -1) hx hb dX4_init_66 (by decide) ?_
  refine sp_I C0 M hS (k := 0) (Or.inl (Or.inl (Or.inl rfl))) ha D10 rfl inlX4 tyX4 tyX4_ok nmX4 7 (by decide) kw_2_7 rfl rfl (by decide +kernel) (Nat.le_of_ble_eq_true rfl) dX4_init_67 (fun ct11 H locs B11 D11 M hS => ?_)
  have hct : ct11 0 = .inr (4, [.ref q1, .ref q2, .ref q3, .ref q4, .ref (ad8 2), .int 0, .int 0, .int (-1)]) := D11
  have hB : ∀ j, j ≠ 0 → j ≠ 1 → j ≠ 2 → ct11 j = ct5 j := fun j h0 h1 h2 => by rw [B11 j h0, B10 j h0, B9 j h0, B8 j h2 h0, B7 j h0, va_up_ne _ _ h1, B6 j h0]
  have hA5 : ∀ j, j ≠ 1 → j ≠ 2 → ad8 j = ad5 j := fun j h1 h2 => by rw [A8 j h2, va_up_ne _ _ h1]
  have hq4 : ad8 1 = q4 := by rw [A8 1 (by decide), va_up_self]
  have hq3 : ad8 8 = q3 := by rw [hA5 8 (by decide) (by decide), hq3]
  have hq2 : ad8 3 = q2 := by rw [hA5 3 (by decide) (by decide), e5 3 (by decide), hq2]
  have hq1 : ad8 100 = q1 := by rw [hA5 100 (by decide) (by decide), e5 100 (by decide), e3 100 (by decide)]; exact hq1
  have g3 : ∀ j, (j = 4 ∨ j = 5 ∨ j = 6 ∨ j = 7) → ad8 j = ad3 j := fun j hj => by rw [hA5 j (by omega) (by omega), e5 j (by omega)]
  have g1 : ∀ j, (j = 200 ∨ j = 300) → ad8 j = ad1 j := fun j hj => by rw [hA5 j (by omega) (by omega), e5 j (by omega), e3 j (by omega)]
  refine lv_iconst (v := 0) hx hb dX4_init_70 (by decide) ?_
  refine lv_istore_n (lv' := [(1, .int 0), (0, .ref a0)]) hx hb dX4_init_71 rfl hl (by decide) rfl (fun ls hl => ?_)
  have M := mp_lv (lv2 := lvC 0) M (fun j hj => by
    have h2 : ((j = 0 ∨ j = 100 ∨ j = 200 ∨ j = 300 ∨ (3 ≤ j ∧ j ≤ 12)) ∨ j = 1) ∨ j = 2 := by unfold lvC at hj; omega
    exact h2)
  refine w_X4_init_L72 C0 hE hb0 hr hlk (fun j hj => hj) (by assumption) 24 0 0 ad8 ct11 H locs ls (by decide) nI_0.symm hl M hS (fun j hj hj1 => ?_) ?_ ha
  · have hj2 : j = 0 ∨ j = 2 ∨ j = 3 ∨ j = 4 ∨ j = 5 ∨ j = 6 ∨ j = 7 ∨ j = 8 ∨ j = 9 ∨ j = 10 ∨ j = 11 ∨ j = 12 ∨ j = 100 ∨ j = 200 ∨ j = 300 := by unfold lvC at hj; omega
    rcases hj2 with rfl | rfl | rfl | rfl | rfl | rfl | rfl | rfl | rfl | rfl | rfl | rfl | rfl | rfl | rfl
    · rw [hct, ← hq1, ← hq2, ← hq3, ← hq4]
      rfl
    · rw [B11 2 (by decide), B10 2 (by decide), B9 2 (by decide), C8]
      rfl
    · rw [hB 3 (by decide) (by decide) (by decide), z3, ← g3 4 (by decide), ← g3 5 (by decide), ← g3 6 (by decide), ← g3 7 (by decide)]
      rfl
    · rw [hB 4 (by decide) (by decide) (by decide), z4]
      rfl
    · rw [hB 5 (by decide) (by decide) (by decide), z5]
      rfl
    · rw [hB 6 (by decide) (by decide) (by decide), z6]
      rfl
    · rw [hB 7 (by decide) (by decide) (by decide), z7]
      rfl
    · rw [hB 8 (by decide) (by decide) (by decide), z8, ← hA5 9 (by decide) (by decide), ← hA5 10 (by decide) (by decide), ← hA5 11 (by decide) (by decide), ← hA5 12 (by decide) (by decide)]
      rfl
    · rw [hB 9 (by decide) (by decide) (by decide), z9]
      rfl
    · rw [hB 10 (by decide) (by decide) (by decide), z10]
      rfl
    · rw [hB 11 (by decide) (by decide) (by decide), z11]
      rfl
    · rw [hB 12 (by decide) (by decide) (by decide), z12]
      rfl
    · have z100' : ct5 100 = .inr (2, [.ref (ad1 200), .ref (ad1 300), .int 0]) := z100
      rw [hB 100 (by decide) (by decide) (by decide), z100', ← g1 200 (by decide), ← g1 300 (by decide)]
      rfl
    · rw [hB 200 (by decide) (by decide) (by decide), z200]
      rfl
    · rw [hB 300 (by decide) (by decide) (by decide), z300]
      rfl
  · rw [B11 1 (by decide), B10 1 (by decide), B9 1 (by decide), B8 1 (by decide) (by decide), B7 1 (by decide), va_up_self]
    congr 7
theorem Y_X4_init : Yi yX4_init cX4_init 2 0 := ⟨⟨kw_1_9, kw_1_2, by decide +kernel, by decide +kernel, by decide +kernel⟩, rfl, kw_1_8⟩
