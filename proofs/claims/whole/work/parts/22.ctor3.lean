/-! Constructors. Printed by wip/gen/ctor.py. -/
set_option maxHeartbeats 4000000 in
set_option maxRecDepth 100000 in
theorem k_X2_init {l : Launch} {D : va_G} {b0 : Nat} {cy : Cy} {lv : Nat → Prop} {ad : Nat → Nat} {ct : Nat → va_E} {a0 : Nat} {o : Nat} (hk : lv (100 + o)) (hn1 : ¬ lv (200 + o)) (hn2 : ¬ lv (300 + o)) (ha : ad (100 + o) = a0) (hct : ct (100 + o) = .inr (2, [.null, .null, .int 0])) : CN l yX2_init cX2_init 1 { frames := 1, cells := 2, slots := 6, locals := 12 } a0 (fun _ => True) D b0 cy lv (fun j => lv j ∨ j = 200 + o ∨ j = 300 + o) ad ct (fun ad1 ct1 => (∀ j, lv j → j ≠ 100 + o → ct1 j = ct j) ∧ ct1 (100 + o) = .inr (2, [.ref (ad1 (200 + o)), .ref (ad1 (300 + o)), .int 0]) ∧ ct1 (200 + o) = .inl (cy.1, 3, .inl (fun _ => 0)) ∧ ct1 (300 + o) = .inl (cy.1, 3, .inl (fun _ => 0))) := by
  refine Met.ofW (cc := cX2_init) (maxL := 1) (ret := none) (by decide) rfl ?_
  intro p e s m args below meth c s₁ B hml hv
  obtain ⟨rfl, ⟨hb0, M⟩, hK, hE⟩ := hv
  have C0 : Cx p s m [Value.ref a0].toArray c cX2_init 1 RX2 D cy := ⟨B.exec, B.bytes, hml, findClass_of_methodNamed B.named, fun w hw => atoms_spec (ws := Cond.code yX2_init cX2_init 1 none :: wsL_law) B.pre w (List.mem_cons_of_mem _ hw), hK⟩
  have hr := B.returns
  have hlk := B.notSynchronized
  have hin : meth.name = "<init>" := (name_of_methodNamed B.named B.method).1
  have hS : va_S (fun q => b0 ≤ q) s.heap s.heap [] := va_S.rf
  have hl := lv_entry ([.ref a0]) (n := 1) (Nat.le_of_ble_eq_true rfl)
  rw [lg_entry_eq]
  generalize (lg_sl ([.ref a0]) ++ List.replicate (1 - (lg_sl ([.ref a0])).length) Slot.unset).toArray = ls at hl ⊢
  have hl : lv_has ls 1 [(0, .ref a0)] := hl
  obtain ⟨hx, hb, hml, hown, hts, hK⟩ := id C0
  refine lv_aload_n hx hb dX2_init_0 rfl (lv_at hl 0 rfl) ?_
  refine W.objInit hx hb hown (hts _ kw_2_12) (hts _ kw_1_11) (hts _ kw_1_12) rfl (by rw [hml]; exact hl.1) rfl dX2_init_1 (Nat.le_of_ble_eq_true rfl) (Nat.le_of_ble_eq_true rfl) ?_
  refine W.eq (g2 := F0 m 4 ls []) rfl ?_
  refine lv_aload_n hx hb dX2_init_4 rfl (lv_at hl 0 rfl) ?_
  refine lv_iconst (v := 3) hx hb dX2_init_5 (by decide) ?_
  refine sa_F C0 hin M hS hb0 (k := 100 + o) (kn := 200 + o) hk hn1 (by omega) ha hct rfl inlX2 tyX2 tyX2_ok nmX2 0 (by decide) kw_2_13 rfl rfl rfl (fty := .array .int) (by decide +kernel) (fun _ => rfl) (fun _ => rfl) (Nat.le_of_ble_eq_true rfl) (ty := .int) rfl kw_2_3 (cA := cy.1) 0 rfl (fun h => h) (N2 := 3) (a1 := (3, .inl (fun _ => 0))) (fun _ => rfl) (by decide) (by decide) (by decide) (Nat.le_of_ble_eq_true rfl) (Nat.le_of_ble_eq_true rfl) (c1 := 1) (s1 := 3) rfl rfl dX2_init_6 dX2_init_8 (fun ad1 ct1 H locs A1 B1 C1 D1 M hS => ?_)
  have ha := (A1 _ (by omega)).trans ha
  have hct : ct1 (100 + o) = .inr (2, [.ref (ad1 (200 + o)), .null, .int 0]) := D1
  refine lv_aload_n hx hb dX2_init_11 rfl (lv_at hl 0 rfl) ?_
  refine lv_iconst (v := 3) hx hb dX2_init_12 (by decide) ?_
  refine sa_F C0 hin M hS hb0 (k := 100 + o) (kn := 300 + o) (Or.inl hk) (not_lvA hn2 (by omega)) (by omega) ha hct rfl inlX2 tyX2 tyX2_ok nmX2 1 (by decide) kw_2_14 rfl rfl rfl (fty := .array .int) (by decide +kernel) (fun _ => rfl) (fun _ => rfl) (Nat.le_of_ble_eq_true rfl) (ty := .int) rfl kw_2_3 (cA := cy.1) 0 rfl (fun h => h) (N2 := 3) (a1 := (3, .inl (fun _ => 0))) (fun _ => rfl) (by decide) (by decide) (by decide) (Nat.le_of_ble_eq_true rfl) (Nat.le_of_ble_eq_true rfl) (c1 := 2) (s1 := 6) rfl rfl dX2_init_13 dX2_init_15 (fun ad2 ct2 H locs A2 B2 C2 D2 M hS => ?_)
  have ha := (A2 _ (by omega)).trans ha
  have hct : ct2 (100 + o) = .inr (2, [.ref (ad1 (200 + o)), .ref (ad2 (300 + o)), .int 0]) := D2
  have e1 : ad2 (200 + o) = ad1 (200 + o) := by rw [A2 _ (by omega)]
  refine rN_v C0 M hS (fun j hj => ?_) (fun j hj => by rw [A2 j (fun h => hn2 (h ▸ hj)), A1 j (fun h => hn1 (h ▸ hj))]) ?_ hr hlk (Nat.le_of_ble_eq_true rfl) (Nat.le_of_ble_eq_true rfl) dX2_init_18
  · rcases hj with hj | rfl | rfl
    · exact Or.inl (Or.inl (hj))
    · exact Or.inl (Or.inr rfl)
    · exact Or.inr rfl
  · exact ⟨(fun j hj hjk => by rw [B2 j (fun h => hn2 (h ▸ hj)) hjk, B1 j (fun h => hn1 (h ▸ hj)) hjk]), (by rw [hct, e1]), (by rw [B2 _ (by omega) (by omega), C1]), (by rw [C2])⟩
theorem Y_X2_init : Yi yX2_init cX2_init 1 0 := ⟨⟨kw_2_11, kw_1_15, by decide +kernel, by decide +kernel, by decide +kernel⟩, rfl, kw_2_10⟩
set_option maxHeartbeats 4000000 in
set_option maxRecDepth 100000 in
theorem k_X0_init {l : Launch} {D : va_G} {b0 : Nat} {cy : Cy} {lv : Nat → Prop} {ad : Nat → Nat} {ct : Nat → va_E} {a0 : Nat} (hk : lv 3) (hn1 : ¬ lv 4) (hn2 : ¬ lv 5) (hn3 : ¬ lv 6) (hn4 : ¬ lv 7) (ha : ad 3 = a0) (hct : ct 3 = .inr (0, [.null, .null, .null, .null, .int 0])) : CN l yX0_init cX0_init 1 { frames := 1, cells := 4, slots := 120, locals := 12 } a0 (fun _ => True) D b0 cy lv (fun j => lv j ∨ j = 4 ∨ j = 5 ∨ j = 6 ∨ j = 7) ad ct (fun ad1 ct1 => (∀ j, lv j → j ≠ 3 → ct1 j = ct j) ∧ ct1 3 = .inr (0, [.ref (ad1 4), .ref (ad1 5), .ref (ad1 6), .ref (ad1 7), .int 0]) ∧ ct1 4 = .inl (cy.1, 30, .inl (fun _ => 0)) ∧ ct1 5 = .inl (cy.1, 30, .inl (fun _ => 0)) ∧ ct1 6 = .inl (cy.1, 30, .inl (fun _ => 0)) ∧ ct1 7 = .inl (cy.2.1, 30, .inr (.inl (fun _ => 0)))) := by
  refine Met.ofW (cc := cX0_init) (maxL := 1) (ret := none) (by decide) rfl ?_
  intro p e s m args below meth c s₁ B hml hv
  obtain ⟨rfl, ⟨hb0, M⟩, hK, hE⟩ := hv
  have C0 : Cx p s m [Value.ref a0].toArray c cX0_init 1 RX0 D cy := ⟨B.exec, B.bytes, hml, findClass_of_methodNamed B.named, fun w hw => atoms_spec (ws := Cond.code yX0_init cX0_init 1 none :: wsL_law) B.pre w (List.mem_cons_of_mem _ hw), hK⟩
  have hr := B.returns
  have hlk := B.notSynchronized
  have hin : meth.name = "<init>" := (name_of_methodNamed B.named B.method).1
  have hS : va_S (fun q => b0 ≤ q) s.heap s.heap [] := va_S.rf
  have hl := lv_entry ([.ref a0]) (n := 1) (Nat.le_of_ble_eq_true rfl)
  rw [lg_entry_eq]
  generalize (lg_sl ([.ref a0]) ++ List.replicate (1 - (lg_sl ([.ref a0])).length) Slot.unset).toArray = ls at hl ⊢
  have hl : lv_has ls 1 [(0, .ref a0)] := hl
  obtain ⟨hx, hb, hml, hown, hts, hK⟩ := id C0
  refine lv_aload_n hx hb dX0_init_0 rfl (lv_at hl 0 rfl) ?_
  refine W.objInit hx hb hown (hts _ kw_2_17) (hts _ kw_1_11) (hts _ kw_1_12) rfl (by rw [hml]; exact hl.1) rfl dX0_init_1 (Nat.le_of_ble_eq_true rfl) (Nat.le_of_ble_eq_true rfl) ?_
  refine W.eq (g2 := F0 m 4 ls []) rfl ?_
  refine lv_aload_n hx hb dX0_init_4 rfl (lv_at hl 0 rfl) ?_
  refine lv_bipush (v := 30) hx hb dX0_init_5 (by decide) ?_
  refine sa_F C0 hin M hS hb0 (k := 3) (kn := 4) hk hn1 (by decide) ha hct rfl inlX0 tyX0 tyX0_ok nmX0 0 (by decide) kw_2_18 rfl rfl rfl (fty := .array .int) (by decide +kernel) (fun _ => rfl) (fun _ => rfl) (Nat.le_of_ble_eq_true rfl) (ty := .int) rfl kw_2_3 (cA := cy.1) 0 rfl (fun h => h) (N2 := 30) (a1 := (30, .inl (fun _ => 0))) (fun _ => rfl) (by decide) (by decide) (by decide) (Nat.le_of_ble_eq_true rfl) (Nat.le_of_ble_eq_true rfl) (c1 := 1) (s1 := 30) rfl rfl dX0_init_7 dX0_init_9 (fun ad1 ct1 H locs A1 B1 C1 D1 M hS => ?_)
  have ha := (A1 _ (by decide)).trans ha
  have hct : ct1 3 = .inr (0, [.ref (ad1 4), .null, .null, .null, .int 0]) := D1
  refine lv_aload_n hx hb dX0_init_12 rfl (lv_at hl 0 rfl) ?_
  refine lv_bipush (v := 30) hx hb dX0_init_13 (by decide) ?_
  refine sa_F C0 hin M hS hb0 (k := 3) (kn := 5) (Or.inl hk) (not_lvA hn2 (by decide)) (by decide) ha hct rfl inlX0 tyX0 tyX0_ok nmX0 1 (by decide) kw_2_19 rfl rfl rfl (fty := .array .int) (by decide +kernel) (fun _ => rfl) (fun _ => rfl) (Nat.le_of_ble_eq_true rfl) (ty := .int) rfl kw_2_3 (cA := cy.1) 0 rfl (fun h => h) (N2 := 30) (a1 := (30, .inl (fun _ => 0))) (fun _ => rfl) (by decide) (by decide) (by decide) (Nat.le_of_ble_eq_true rfl) (Nat.le_of_ble_eq_true rfl) (c1 := 2) (s1 := 60) rfl rfl dX0_init_15 dX0_init_17 (fun ad2 ct2 H locs A2 B2 C2 D2 M hS => ?_)
  have ha := (A2 _ (by decide)).trans ha
  have hct : ct2 3 = .inr (0, [.ref (ad1 4), .ref (ad2 5), .null, .null, .int 0]) := D2
  refine lv_aload_n hx hb dX0_init_20 rfl (lv_at hl 0 rfl) ?_
  refine lv_bipush (v := 30) hx hb dX0_init_21 (by decide) ?_
  refine sa_F C0 hin M hS hb0 (k := 3) (kn := 6) (Or.inl (Or.inl hk)) (not_lvA (not_lvA hn3 (by decide)) (by decide)) (by decide) ha hct rfl inlX0 tyX0 tyX0_ok nmX0 2 (by decide) kw_2_20 rfl rfl rfl (fty := .array .int) (by decide +kernel) (fun _ => rfl) (fun _ => rfl) (Nat.le_of_ble_eq_true rfl) (ty := .int) rfl kw_2_3 (cA := cy.1) 0 rfl (fun h => h) (N2 := 30) (a1 := (30, .inl (fun _ => 0))) (fun _ => rfl) (by decide) (by decide) (by decide) (Nat.le_of_ble_eq_true rfl) (Nat.le_of_ble_eq_true rfl) (c1 := 3) (s1 := 90) rfl rfl dX0_init_23 dX0_init_25 (fun ad3 ct3 H locs A3 B3 C3 D3 M hS => ?_)
  have ha := (A3 _ (by decide)).trans ha
  have hct : ct3 3 = .inr (0, [.ref (ad1 4), .ref (ad2 5), .ref (ad3 6), .null, .int 0]) := D3
  refine lv_aload_n hx hb dX0_init_28 rfl (lv_at hl 0 rfl) ?_
  refine lv_bipush (v := 30) hx hb dX0_init_29 (by decide) ?_
  refine sa_F C0 hin M hS hb0 (k := 3) (kn := 7) (Or.inl (Or.inl (Or.inl hk))) (not_lvA (not_lvA (not_lvA hn4 (by decide)) (by decide)) (by decide)) (by decide) ha hct rfl inlX0 tyX0 tyX0_ok nmX0 3 (by decide) kw_2_22 rfl rfl rfl (fty := .array .long) (by decide +kernel) (fun _ => rfl) (fun _ => rfl) (Nat.le_of_ble_eq_true rfl) (ty := .long) rfl kw_2_21 (cA := cy.2.1) 1 rfl (fun h => h) (N2 := 30) (a1 := (30, .inr (.inl (fun _ => 0)))) (fun _ => rfl) (by decide) (by decide) (by decide) (Nat.le_of_ble_eq_true rfl) (Nat.le_of_ble_eq_true rfl) (c1 := 4) (s1 := 120) rfl rfl dX0_init_31 dX0_init_33 (fun ad4 ct4 H locs A4 B4 C4 D4 M hS => ?_)
  have ha := (A4 _ (by decide)).trans ha
  have hct : ct4 3 = .inr (0, [.ref (ad1 4), .ref (ad2 5), .ref (ad3 6), .ref (ad4 7), .int 0]) := D4
  have e1 : ad4 4 = ad1 4 := by rw [A4 _ (by decide), A3 _ (by decide), A2 _ (by decide)]
  have e2 : ad4 5 = ad2 5 := by rw [A4 _ (by decide), A3 _ (by decide)]
  have e3 : ad4 6 = ad3 6 := by rw [A4 _ (by decide)]
  refine rN_v C0 M hS (fun j hj => ?_) (fun j hj => by rw [A4 j (fun h => hn4 (h ▸ hj)), A3 j (fun h => hn3 (h ▸ hj)), A2 j (fun h => hn2 (h ▸ hj)), A1 j (fun h => hn1 (h ▸ hj))]) ?_ hr hlk (Nat.le_of_ble_eq_true rfl) (Nat.le_of_ble_eq_true rfl) dX0_init_36
  · rcases hj with hj | rfl | rfl | rfl | rfl
    · exact Or.inl (Or.inl (Or.inl (Or.inl (hj))))
    · exact Or.inl (Or.inl (Or.inl (Or.inr rfl)))
    · exact Or.inl (Or.inl (Or.inr rfl))
    · exact Or.inl (Or.inr rfl)
    · exact Or.inr rfl
  · exact ⟨(fun j hj hjk => by rw [B4 j (fun h => hn4 (h ▸ hj)) hjk, B3 j (fun h => hn3 (h ▸ hj)) hjk, B2 j (fun h => hn2 (h ▸ hj)) hjk, B1 j (fun h => hn1 (h ▸ hj)) hjk]), (by rw [hct, e1, e2, e3]), (by rw [B4 _ (by decide) (by decide), B3 _ (by decide) (by decide), B2 _ (by decide) (by decide), C1]), (by rw [B4 _ (by decide) (by decide), B3 _ (by decide) (by decide), C2]), (by rw [B4 _ (by decide) (by decide), C3]), (by rw [C4])⟩
theorem Y_X0_init : Yi yX0_init cX0_init 1 0 := ⟨⟨kw_2_16, kw_1_19, by decide +kernel, by decide +kernel, by decide +kernel⟩, rfl, kw_2_15⟩
set_option maxHeartbeats 4000000 in
set_option maxRecDepth 100000 in
theorem k_X3_init {l : Launch} {D : va_G} {b0 : Nat} {cy : Cy} {lv : Nat → Prop} {ad : Nat → Nat} {ct : Nat → va_E} {a0 : Nat} (hk : lv 8) (hn1 : ¬ lv 9) (hn2 : ¬ lv 10) (hn3 : ¬ lv 11) (hn4 : ¬ lv 12) (ha : ad 8 = a0) (hct : ct 8 = .inr (3, [.null, .null, .null, .null, .int 0, .int 0])) : CN l yX3_init cX3_init 1 { frames := 1, cells := 4, slots := 192, locals := 12 } a0 (fun _ => True) D b0 cy lv (fun j => lv j ∨ j = 9 ∨ j = 10 ∨ j = 11 ∨ j = 12) ad ct (fun ad1 ct1 => (∀ j, lv j → j ≠ 8 → ct1 j = ct j) ∧ ct1 8 = .inr (3, [.ref (ad1 9), .ref (ad1 10), .ref (ad1 11), .ref (ad1 12), .int 0, .int 0]) ∧ ct1 9 = .inl (cy.2.1, 64, .inr (.inl (fun _ => 0))) ∧ ct1 10 = .inl (cy.2.2.1, 64, .inl (fun _ => 0)) ∧ ct1 11 = .inl (cy.1, 32, .inl (fun _ => 0)) ∧ ct1 12 = .inl (cy.1, 32, .inl (fun _ => 0))) := by
  refine Met.ofW (cc := cX3_init) (maxL := 1) (ret := none) (by decide) rfl ?_
  intro p e s m args below meth c s₁ B hml hv
  obtain ⟨rfl, ⟨hb0, M⟩, hK, hE⟩ := hv
  have C0 : Cx p s m [Value.ref a0].toArray c cX3_init 1 RX3 D cy := ⟨B.exec, B.bytes, hml, findClass_of_methodNamed B.named, fun w hw => atoms_spec (ws := Cond.code yX3_init cX3_init 1 none :: wsL_law) B.pre w (List.mem_cons_of_mem _ hw), hK⟩
  have hr := B.returns
  have hlk := B.notSynchronized
  have hin : meth.name = "<init>" := (name_of_methodNamed B.named B.method).1
  have hS : va_S (fun q => b0 ≤ q) s.heap s.heap [] := va_S.rf
  have hl := lv_entry ([.ref a0]) (n := 1) (Nat.le_of_ble_eq_true rfl)
  rw [lg_entry_eq]
  generalize (lg_sl ([.ref a0]) ++ List.replicate (1 - (lg_sl ([.ref a0])).length) Slot.unset).toArray = ls at hl ⊢
  have hl : lv_has ls 1 [(0, .ref a0)] := hl
  obtain ⟨hx, hb, hml, hown, hts, hK⟩ := id C0
  refine lv_aload_n hx hb dX3_init_0 rfl (lv_at hl 0 rfl) ?_
  refine W.objInit hx hb hown (hts _ kw_3_1) (hts _ kw_1_11) (hts _ kw_1_12) rfl (by rw [hml]; exact hl.1) rfl dX3_init_1 (Nat.le_of_ble_eq_true rfl) (Nat.le_of_ble_eq_true rfl) ?_
  refine W.eq (g2 := F0 m 4 ls []) rfl ?_
  refine lv_aload_n hx hb dX3_init_4 rfl (lv_at hl 0 rfl) ?_
  refine lv_bipush (v := 64) hx hb dX3_init_5 (by decide) ?_
  refine sa_N C0 M hS hb0 (k := 8) (kn := 9) hk hn1 (by decide) ha hct rfl inlX3 tyX3 tyX3_ok nmX3 0 (by decide) kw_3_2 rfl rfl (fty := .array .long) (by decide +kernel) (fun _ => rfl) (fun _ => rfl) (Nat.le_of_ble_eq_true rfl) (ty := .long) rfl kw_2_21 (cA := cy.2.1) 1 rfl (fun h => h) (N2 := 64) (a1 := (64, .inr (.inl (fun _ => 0)))) (fun _ => rfl) (by decide) (by decide) (by decide) (Nat.le_of_ble_eq_true rfl) (Nat.le_of_ble_eq_true rfl) (c1 := 1) (s1 := 64) rfl rfl dX3_init_7 dX3_init_9 (fun ad1 ct1 H locs A1 B1 C1 D1 M hS => ?_)
  have ha := (A1 _ (by decide)).trans ha
  have hct : ct1 8 = .inr (3, [.ref (ad1 9), .null, .null, .null, .int 0, .int 0]) := D1
  refine lv_aload_n hx hb dX3_init_12 rfl (lv_at hl 0 rfl) ?_
  refine lv_bipush (v := 64) hx hb dX3_init_13 (by decide) ?_
  refine sa_N C0 M hS hb0 (k := 8) (kn := 10) (Or.inl hk) (not_lvA hn2 (by decide)) (by decide) ha hct rfl inlX3 tyX3 tyX3_ok nmX3 1 (by decide) kw_3_4 rfl rfl (fty := .array .boolean) (by decide +kernel) (fun _ => rfl) (fun _ => rfl) (Nat.le_of_ble_eq_true rfl) (ty := .boolean) rfl kw_3_3 (cA := cy.2.2.1) 2 rfl (fun h => h) (N2 := 64) (a1 := (64, .inl (fun _ => 0))) (fun _ => rfl) (by decide) (by decide) (by decide) (Nat.le_of_ble_eq_true rfl) (Nat.le_of_ble_eq_true rfl) (c1 := 2) (s1 := 128) rfl rfl dX3_init_15 dX3_init_17 (fun ad2 ct2 H locs A2 B2 C2 D2 M hS => ?_)
  have ha := (A2 _ (by decide)).trans ha
  have hct : ct2 8 = .inr (3, [.ref (ad1 9), .ref (ad2 10), .null, .null, .int 0, .int 0]) := D2
  refine lv_aload_n hx hb dX3_init_20 rfl (lv_at hl 0 rfl) ?_
  refine lv_bipush (v := 32) hx hb dX3_init_21 (by decide) ?_
  refine sa_N C0 M hS hb0 (k := 8) (kn := 11) (Or.inl (Or.inl hk)) (not_lvA (not_lvA hn3 (by decide)) (by decide)) (by decide) ha hct rfl inlX3 tyX3 tyX3_ok nmX3 2 (by decide) kw_3_5 rfl rfl (fty := .array .int) (by decide +kernel) (fun _ => rfl) (fun _ => rfl) (Nat.le_of_ble_eq_true rfl) (ty := .int) rfl kw_2_3 (cA := cy.1) 0 rfl (fun h => h) (N2 := 32) (a1 := (32, .inl (fun _ => 0))) (fun _ => rfl) (by decide) (by decide) (by decide) (Nat.le_of_ble_eq_true rfl) (Nat.le_of_ble_eq_true rfl) (c1 := 3) (s1 := 160) rfl rfl dX3_init_23 dX3_init_25 (fun ad3 ct3 H locs A3 B3 C3 D3 M hS => ?_)
  have ha := (A3 _ (by decide)).trans ha
  have hct : ct3 8 = .inr (3, [.ref (ad1 9), .ref (ad2 10), .ref (ad3 11), .null, .int 0, .int 0]) := D3
  refine lv_aload_n hx hb dX3_init_28 rfl (lv_at hl 0 rfl) ?_
  refine lv_bipush (v := 32) hx hb dX3_init_29 (by decide) ?_
  refine sa_N C0 M hS hb0 (k := 8) (kn := 12) (Or.inl (Or.inl (Or.inl hk))) (not_lvA (not_lvA (not_lvA hn4 (by decide)) (by decide)) (by decide)) (by decide) ha hct rfl inlX3 tyX3 tyX3_ok nmX3 3 (by decide) kw_3_6 rfl rfl (fty := .array .int) (by decide +kernel) (fun _ => rfl) (fun _ => rfl) (Nat.le_of_ble_eq_true rfl) (ty := .int) rfl kw_2_3 (cA := cy.1) 0 rfl (fun h => h) (N2 := 32) (a1 := (32, .inl (fun _ => 0))) (fun _ => rfl) (by decide) (by decide) (by decide) (Nat.le_of_ble_eq_true rfl) (Nat.le_of_ble_eq_true rfl) (c1 := 4) (s1 := 192) rfl rfl dX3_init_31 dX3_init_33 (fun ad4 ct4 H locs A4 B4 C4 D4 M hS => ?_)
  have ha := (A4 _ (by decide)).trans ha
  have hct : ct4 8 = .inr (3, [.ref (ad1 9), .ref (ad2 10), .ref (ad3 11), .ref (ad4 12), .int 0, .int 0]) := D4
  have e1 : ad4 9 = ad1 9 := by rw [A4 _ (by decide), A3 _ (by decide), A2 _ (by decide)]
  have e2 : ad4 10 = ad2 10 := by rw [A4 _ (by decide), A3 _ (by decide)]
  have e3 : ad4 11 = ad3 11 := by rw [A4 _ (by decide)]
  refine rN_v C0 M hS (fun j hj => ?_) (fun j hj => by rw [A4 j (fun h => hn4 (h ▸ hj)), A3 j (fun h => hn3 (h ▸ hj)), A2 j (fun h => hn2 (h ▸ hj)), A1 j (fun h => hn1 (h ▸ hj))]) ?_ hr hlk (Nat.le_of_ble_eq_true rfl) (Nat.le_of_ble_eq_true rfl) dX3_init_36
  · rcases hj with hj | rfl | rfl | rfl | rfl
    · exact Or.inl (Or.inl (Or.inl (Or.inl (hj))))
    · exact Or.inl (Or.inl (Or.inl (Or.inr rfl)))
    · exact Or.inl (Or.inl (Or.inr rfl))
    · exact Or.inl (Or.inr rfl)
    · exact Or.inr rfl
  · exact ⟨(fun j hj hjk => by rw [B4 j (fun h => hn4 (h ▸ hj)) hjk, B3 j (fun h => hn3 (h ▸ hj)) hjk, B2 j (fun h => hn2 (h ▸ hj)) hjk, B1 j (fun h => hn1 (h ▸ hj)) hjk]), (by rw [hct, e1, e2, e3]), (by rw [B4 _ (by decide) (by decide), B3 _ (by decide) (by decide), B2 _ (by decide) (by decide), C1]), (by rw [B4 _ (by decide) (by decide), B3 _ (by decide) (by decide), C2]), (by rw [B4 _ (by decide) (by decide), C3]), (by rw [C4])⟩
theorem Y_X3_init : Yi yX3_init cX3_init 1 0 := ⟨⟨kw_3_0, kw_1_23, by decide +kernel, by decide +kernel, by decide +kernel⟩, rfl, kw_2_23⟩
set_option maxHeartbeats 4000000 in
set_option maxRecDepth 100000 in
theorem k_X5_init {l : Launch} {D : va_G} {b0 : Nat} {cy : Cy} {lv : Nat → Prop} {ad : Nat → Nat} {ct : Nat → va_E} {a0 : Nat} (hk : lv 13) (hn2 : ¬ lv 14) (hn3 : ¬ lv 15) (hn4 : ¬ lv 16) (hn5 : ¬ lv 17) (hn6 : ¬ lv 18) (hn7 : ¬ lv 19) (hn8 : ¬ lv 20) (hn9 : ¬ lv 21) (hn10 : ¬ lv 22) (hn11 : ¬ lv 23) (hn12 : ¬ lv 24) (hn13 : ¬ lv 25) (hn14 : ¬ lv 26) (hn15 : ¬ lv 27) (hn16 : ¬ lv 28) (hn17 : ¬ lv 29) (ha : ad 13 = a0) (hct : ct 13 = .inr (5, [.int 0, .int 0, .int 0, .null, .null, .int 0, .null, .null, .null, .null, .null, .int 0, .null, .null, .int 0, .null, .null, .int 0, .null, .int 0, .null, .null, .null, .null, .int 0])) : CN l yX5_init cX5_init 1 { frames := 1, cells := 16, slots := 638442, locals := 12 } a0 (fun _ => True) D b0 cy lv (fun j => lv j ∨ j = 14 ∨ j = 15 ∨ j = 16 ∨ j = 17 ∨ j = 18 ∨ j = 19 ∨ j = 20 ∨ j = 21 ∨ j = 22 ∨ j = 23 ∨ j = 24 ∨ j = 25 ∨ j = 26 ∨ j = 27 ∨ j = 28 ∨ j = 29) ad ct (fun ad1 ct1 => (∀ j, lv j → j ≠ 13 → ct1 j = ct j) ∧ ct1 13 = .inr (5, [.int 0, .int (-1), .int 0, .ref (ad1 14), .ref (ad1 15), .int 0, .ref (ad1 16), .ref (ad1 17), .ref (ad1 18), .ref (ad1 19), .ref (ad1 20), .int 0, .ref (ad1 21), .ref (ad1 22), .int 0, .ref (ad1 23), .ref (ad1 24), .int 0, .ref (ad1 25), .int 0, .ref (ad1 26), .ref (ad1 27), .ref (ad1 28), .ref (ad1 29), .int 0]) ∧ ct1 14 = .inl (cy.1, 3, .inl (fun _ => 0)) ∧ ct1 15 = .inl (cy.1, 3, .inl (fun _ => 0)) ∧ ct1 16 = .inl (cy.1, 24, .inl (fun _ => 0)) ∧ ct1 17 = .inl (cy.1, 24, .inl (fun _ => 0)) ∧ ct1 18 = .inl (cy.1, 72, .inl (fun _ => 0)) ∧ ct1 19 = .inl (cy.1, 72, .inl (fun _ => 0)) ∧ ct1 20 = .inl (cy.1, 24, .inl (fun _ => 0)) ∧ ct1 21 = .inl (cy.1, 13000, .inl (fun _ => 0)) ∧ ct1 22 = .inl (cy.1, 13000, .inl (fun _ => 0)) ∧ ct1 23 = .inl (cy.2.1, 300000, .inr (.inl (fun _ => 0))) ∧ ct1 24 = .inl (cy.2.2.1, 300000, .inl (fun _ => 0)) ∧ ct1 25 = .inl (cy.1, 12100, .inl (fun _ => 0)) ∧ ct1 26 = .inl (cy.1, 30, .inl (fun _ => 0)) ∧ ct1 27 = .inl (cy.1, 30, .inl (fun _ => 0)) ∧ ct1 28 = .inl (cy.1, 30, .inl (fun _ => 0)) ∧ ct1 29 = .inl (cy.2.1, 30, .inr (.inl (fun _ => 0)))) := by
  refine Met.ofW (cc := cX5_init) (maxL := 1) (ret := none) (by decide) rfl ?_
  intro p e s m args below meth c s₁ B hml hv
  obtain ⟨rfl, ⟨hb0, M⟩, hK, hE⟩ := hv
  have C0 : Cx p s m [Value.ref a0].toArray c cX5_init 1 RX5 D cy := ⟨B.exec, B.bytes, hml, findClass_of_methodNamed B.named, fun w hw => atoms_spec (ws := Cond.code yX5_init cX5_init 1 none :: wsL_law) B.pre w (List.mem_cons_of_mem _ hw), hK⟩
  have hr := B.returns
  have hlk := B.notSynchronized
  have hin : meth.name = "<init>" := (name_of_methodNamed B.named B.method).1
  have hS : va_S (fun q => b0 ≤ q) s.heap s.heap [] := va_S.rf
  have hl := lv_entry ([.ref a0]) (n := 1) (Nat.le_of_ble_eq_true rfl)
  rw [lg_entry_eq]
  generalize (lg_sl ([.ref a0]) ++ List.replicate (1 - (lg_sl ([.ref a0])).length) Slot.unset).toArray = ls at hl ⊢
  have hl : lv_has ls 1 [(0, .ref a0)] := hl
  obtain ⟨hx, hb, hml, hown, hts, hK⟩ := id C0
  refine lv_aload_n hx hb dX5_init_0 rfl (lv_at hl 0 rfl) ?_
  refine W.objInit hx hb hown (hts _ kw_3_17) (hts _ kw_1_11) (hts _ kw_1_12) rfl (by rw [hml]; exact hl.1) rfl dX5_init_1 (Nat.le_of_ble_eq_true rfl) (Nat.le_of_ble_eq_true rfl) ?_
  refine W.eq (g2 := F0 m 4 ls []) rfl ?_
  refine lv_aload_n hx hb dX5_init_4 rfl (lv_at hl 0 rfl) ?_
  refine lv_iconst (v := -1) hx hb dX5_init_5 (by decide) ?_
  refine sp_I C0 M hS (k := 13) hk ha hct rfl inlX5 tyX5 tyX5_ok nmX5 1 (by decide) kw_3_18 rfl rfl (by decide +kernel) (Nat.le_of_ble_eq_true rfl) dX5_init_6 (fun ct1 H locs B1 D1 M hS => ?_)
  have hct : ct1 13 = .inr (5, [.int 0, .int (-1), .int 0, .null, .null, .int 0, .null, .null, .null, .null, .null, .int 0, .null, .null, .int 0, .null, .null, .int 0, .null, .int 0, .null, .null, .null, .null, .int 0]) := D1
  refine lv_aload_n hx hb dX5_init_9 rfl (lv_at hl 0 rfl) ?_
  refine lv_iconst (v := 3) hx hb dX5_init_10 (by decide) ?_
  refine sa_F C0 hin M hS hb0 (k := 13) (kn := 14) hk hn2 (by decide) ha hct rfl inlX5 tyX5 tyX5_ok nmX5 3 (by decide) kw_3_19 rfl rfl rfl (fty := .array .int) (by decide +kernel) (fun _ => rfl) (fun _ => rfl) (Nat.le_of_ble_eq_true rfl) (ty := .int) rfl kw_2_3 (cA := cy.1) 0 rfl (fun h => h) (N2 := 3) (a1 := (3, .inl (fun _ => 0))) (fun _ => rfl) (by decide) (by decide) (by decide) (Nat.le_of_ble_eq_true rfl) (Nat.le_of_ble_eq_true rfl) (c1 := 1) (s1 := 3) rfl rfl dX5_init_11 dX5_init_13 (fun ad2 ct2 H locs A2 B2 C2 D2 M hS => ?_)
  have ha := (A2 _ (by decide)).trans ha
  have hct : ct2 13 = .inr (5, [.int 0, .int (-1), .int 0, .ref (ad2 14), .null, .int 0, .null, .null, .null, .null, .null, .int 0, .null, .null, .int 0, .null, .null, .int 0, .null, .int 0, .null, .null, .null, .null, .int 0]) := D2
  refine lv_aload_n hx hb dX5_init_16 rfl (lv_at hl 0 rfl) ?_
  refine lv_iconst (v := 3) hx hb dX5_init_17 (by decide) ?_
  refine sa_F C0 hin M hS hb0 (k := 13) (kn := 15) (Or.inl hk) (not_lvA hn3 (by decide)) (by decide) ha hct rfl inlX5 tyX5 tyX5_ok nmX5 4 (by decide) kw_3_20 rfl rfl rfl (fty := .array .int) (by decide +kernel) (fun _ => rfl) (fun _ => rfl) (Nat.le_of_ble_eq_true rfl) (ty := .int) rfl kw_2_3 (cA := cy.1) 0 rfl (fun h => h) (N2 := 3) (a1 := (3, .inl (fun _ => 0))) (fun _ => rfl) (by decide) (by decide) (by decide) (Nat.le_of_ble_eq_true rfl) (Nat.le_of_ble_eq_true rfl) (c1 := 2) (s1 := 6) rfl rfl dX5_init_18 dX5_init_20 (fun ad3 ct3 H locs A3 B3 C3 D3 M hS => ?_)
  have ha := (A3 _ (by decide)).trans ha
  have hct : ct3 13 = .inr (5, [.int 0, .int (-1), .int 0, .ref (ad2 14), .ref (ad3 15), .int 0, .null, .null, .null, .null, .null, .int 0, .null, .null, .int 0, .null, .null, .int 0, .null, .int 0, .null, .null, .null, .null, .int 0]) := D3
  refine lv_aload_n hx hb dX5_init_23 rfl (lv_at hl 0 rfl) ?_
  refine lv_bipush (v := 24) hx hb dX5_init_24 (by decide) ?_
  refine sa_F C0 hin M hS hb0 (k := 13) (kn := 16) (Or.inl (Or.inl hk)) (not_lvA (not_lvA hn4 (by decide)) (by decide)) (by decide) ha hct rfl inlX5 tyX5 tyX5_ok nmX5 6 (by decide) kw_3_21 rfl rfl rfl (fty := .array .int) (by decide +kernel) (fun _ => rfl) (fun _ => rfl) (Nat.le_of_ble_eq_true rfl) (ty := .int) rfl kw_2_3 (cA := cy.1) 0 rfl (fun h => h) (N2 := 24) (a1 := (24, .inl (fun _ => 0))) (fun _ => rfl) (by decide) (by decide) (by decide) (Nat.le_of_ble_eq_true rfl) (Nat.le_of_ble_eq_true rfl) (c1 := 3) (s1 := 30) rfl rfl dX5_init_26 dX5_init_28 (fun ad4 ct4 H locs A4 B4 C4 D4 M hS => ?_)
  have ha := (A4 _ (by decide)).trans ha
  have hct : ct4 13 = .inr (5, [.int 0, .int (-1), .int 0, .ref (ad2 14), .ref (ad3 15), .int 0, .ref (ad4 16), .null, .null, .null, .null, .int 0, .null, .null, .int 0, .null, .null, .int 0, .null, .int 0, .null, .null, .null, .null, .int 0]) := D4
  refine lv_aload_n hx hb dX5_init_31 rfl (lv_at hl 0 rfl) ?_
  refine lv_bipush (v := 24) hx hb dX5_init_32 (by decide) ?_
  refine sa_F C0 hin M hS hb0 (k := 13) (kn := 17) (Or.inl (Or.inl (Or.inl hk))) (not_lvA (not_lvA (not_lvA hn5 (by decide)) (by decide)) (by decide)) (by decide) ha hct rfl inlX5 tyX5 tyX5_ok nmX5 7 (by decide) kw_3_22 rfl rfl rfl (fty := .array .int) (by decide +kernel) (fun _ => rfl) (fun _ => rfl) (Nat.le_of_ble_eq_true rfl) (ty := .int) rfl kw_2_3 (cA := cy.1) 0 rfl (fun h => h) (N2 := 24) (a1 := (24, .inl (fun _ => 0))) (fun _ => rfl) (by decide) (by decide) (by decide) (Nat.le_of_ble_eq_true rfl) (Nat.le_of_ble_eq_true rfl) (c1 := 4) (s1 := 54) rfl rfl dX5_init_34 dX5_init_36 (fun ad5 ct5 H locs A5 B5 C5 D5 M hS => ?_)
  have ha := (A5 _ (by decide)).trans ha
  have hct : ct5 13 = .inr (5, [.int 0, .int (-1), .int 0, .ref (ad2 14), .ref (ad3 15), .int 0, .ref (ad4 16), .ref (ad5 17), .null, .null, .null, .int 0, .null, .null, .int 0, .null, .null, .int 0, .null, .int 0, .null, .null, .null, .null, .int 0]) := D5
  refine lv_aload_n hx hb dX5_init_39 rfl (lv_at hl 0 rfl) ?_
  refine lv_bipush (v := 72) hx hb dX5_init_40 (by decide) ?_
  refine sa_F C0 hin M hS hb0 (k := 13) (kn := 18) (Or.inl (Or.inl (Or.inl (Or.inl hk)))) (not_lvA (not_lvA (not_lvA (not_lvA hn6 (by decide)) (by decide)) (by decide)) (by decide)) (by decide) ha hct rfl inlX5 tyX5 tyX5_ok nmX5 8 (by decide) kw_3_23 rfl rfl rfl (fty := .array .int) (by decide +kernel) (fun _ => rfl) (fun _ => rfl) (Nat.le_of_ble_eq_true rfl) (ty := .int) rfl kw_2_3 (cA := cy.1) 0 rfl (fun h => h) (N2 := 72) (a1 := (72, .inl (fun _ => 0))) (fun _ => rfl) (by decide) (by decide) (by decide) (Nat.le_of_ble_eq_true rfl) (Nat.le_of_ble_eq_true rfl) (c1 := 5) (s1 := 126) rfl rfl dX5_init_42 dX5_init_44 (fun ad6 ct6 H locs A6 B6 C6 D6 M hS => ?_)
  have ha := (A6 _ (by decide)).trans ha
  have hct : ct6 13 = .inr (5, [.int 0, .int (-1), .int 0, .ref (ad2 14), .ref (ad3 15), .int 0, .ref (ad4 16), .ref (ad5 17), .ref (ad6 18), .null, .null, .int 0, .null, .null, .int 0, .null, .null, .int 0, .null, .int 0, .null, .null, .null, .null, .int 0]) := D6
  refine lv_aload_n hx hb dX5_init_47 rfl (lv_at hl 0 rfl) ?_
  refine lv_bipush (v := 72) hx hb dX5_init_48 (by decide) ?_
  refine sa_F C0 hin M hS hb0 (k := 13) (kn := 19) (Or.inl (Or.inl (Or.inl (Or.inl (Or.inl hk))))) (not_lvA (not_lvA (not_lvA (not_lvA (not_lvA hn7 (by decide)) (by decide)) (by decide)) (by decide)) (by decide)) (by decide) ha hct rfl inlX5 tyX5 tyX5_ok nmX5 9 (by decide) kw_4_0 rfl rfl rfl (fty := .array .int) (by decide +kernel) (fun _ => rfl) (fun _ => rfl) (Nat.le_of_ble_eq_true rfl) (ty := .int) rfl kw_2_3 (cA := cy.1) 0 rfl (fun h => h) (N2 := 72) (a1 := (72, .inl (fun _ => 0))) (fun _ => rfl) (by decide) (by decide) (by decide) (Nat.le_of_ble_eq_true rfl) (Nat.le_of_ble_eq_true rfl) (c1 := 6) (s1 := 198) rfl rfl dX5_init_50 dX5_init_52 (fun ad7 ct7 H locs A7 B7 C7 D7 M hS => ?_)
  have ha := (A7 _ (by decide)).trans ha
  have hct : ct7 13 = .inr (5, [.int 0, .int (-1), .int 0, .ref (ad2 14), .ref (ad3 15), .int 0, .ref (ad4 16), .ref (ad5 17), .ref (ad6 18), .ref (ad7 19), .null, .int 0, .null, .null, .int 0, .null, .null, .int 0, .null, .int 0, .null, .null, .null, .null, .int 0]) := D7
  refine lv_aload_n hx hb dX5_init_55 rfl (lv_at hl 0 rfl) ?_
  refine lv_bipush (v := 24) hx hb dX5_init_56 (by decide) ?_
  refine sa_F C0 hin M hS hb0 (k := 13) (kn := 20) (Or.inl (Or.inl (Or.inl (Or.inl (Or.inl (Or.inl hk)))))) (not_lvA (not_lvA (not_lvA (not_lvA (not_lvA (not_lvA hn8 (by decide)) (by decide)) (by decide)) (by decide)) (by decide)) (by decide)) (by decide) ha hct rfl inlX5 tyX5 tyX5_ok nmX5 10 (by decide) kw_4_1 rfl rfl rfl (fty := .array .int) (by decide +kernel) (fun _ => rfl) (fun _ => rfl) (Nat.le_of_ble_eq_true rfl) (ty := .int) rfl kw_2_3 (cA := cy.1) 0 rfl (fun h => h) (N2 := 24) (a1 := (24, .inl (fun _ => 0))) (fun _ => rfl) (by decide) (by decide) (by decide) (Nat.le_of_ble_eq_true rfl) (Nat.le_of_ble_eq_true rfl) (c1 := 7) (s1 := 222) rfl rfl dX5_init_58 dX5_init_60 (fun ad8 ct8 H locs A8 B8 C8 D8 M hS => ?_)
  have ha := (A8 _ (by decide)).trans ha
  have hct : ct8 13 = .inr (5, [.int 0, .int (-1), .int 0, .ref (ad2 14), .ref (ad3 15), .int 0, .ref (ad4 16), .ref (ad5 17), .ref (ad6 18), .ref (ad7 19), .ref (ad8 20), .int 0, .null, .null, .int 0, .null, .null, .int 0, .null, .int 0, .null, .null, .null, .null, .int 0]) := D8
  refine lv_aload_n hx hb dX5_init_63 rfl (lv_at hl 0 rfl) ?_
  refine lv_sipush (v := 13000) hx hb dX5_init_64 (by decide) ?_
  refine sa_F C0 hin M hS hb0 (k := 13) (kn := 21) (Or.inl (Or.inl (Or.inl (Or.inl (Or.inl (Or.inl (Or.inl hk))))))) (not_lvA (not_lvA (not_lvA (not_lvA (not_lvA (not_lvA (not_lvA hn9 (by decide)) (by decide)) (by decide)) (by decide)) (by decide)) (by decide)) (by decide)) (by decide) ha hct rfl inlX5 tyX5 tyX5_ok nmX5 12 (by decide) kw_4_2 rfl rfl rfl (fty := .array .int) (by decide +kernel) (fun _ => rfl) (fun _ => rfl) (Nat.le_of_ble_eq_true rfl) (ty := .int) rfl kw_2_3 (cA := cy.1) 0 rfl (fun h => h) (N2 := 13000) (a1 := (13000, .inl (fun _ => 0))) (fun _ => rfl) (by decide) (by decide) (by decide) (Nat.le_of_ble_eq_true rfl) (Nat.le_of_ble_eq_true rfl) (c1 := 8) (s1 := 13222) rfl rfl dX5_init_67 dX5_init_69 (fun ad9 ct9 H locs A9 B9 C9 D9 M hS => ?_)
  have ha := (A9 _ (by decide)).trans ha
  have hct : ct9 13 = .inr (5, [.int 0, .int (-1), .int 0, .ref (ad2 14), .ref (ad3 15), .int 0, .ref (ad4 16), .ref (ad5 17), .ref (ad6 18), .ref (ad7 19), .ref (ad8 20), .int 0, .ref (ad9 21), .null, .int 0, .null, .null, .int 0, .null, .int 0, .null, .null, .null, .null, .int 0]) := D9
  refine lv_aload_n hx hb dX5_init_72 rfl (lv_at hl 0 rfl) ?_
  refine lv_sipush (v := 13000) hx hb dX5_init_73 (by decide) ?_
  refine sa_F C0 hin M hS hb0 (k := 13) (kn := 22) (Or.inl (Or.inl (Or.inl (Or.inl (Or.inl (Or.inl (Or.inl (Or.inl hk)))))))) (not_lvA (not_lvA (not_lvA (not_lvA (not_lvA (not_lvA (not_lvA (not_lvA hn10 (by decide)) (by decide)) (by decide)) (by decide)) (by decide)) (by decide)) (by decide)) (by decide)) (by decide) ha hct rfl inlX5 tyX5 tyX5_ok nmX5 13 (by decide) kw_4_3 rfl rfl rfl (fty := .array .int) (by decide +kernel) (fun _ => rfl) (fun _ => rfl) (Nat.le_of_ble_eq_true rfl) (ty := .int) rfl kw_2_3 (cA := cy.1) 0 rfl (fun h => h) (N2 := 13000) (a1 := (13000, .inl (fun _ => 0))) (fun _ => rfl) (by decide) (by decide) (by decide) (Nat.le_of_ble_eq_true rfl) (Nat.le_of_ble_eq_true rfl) (c1 := 9) (s1 := 26222) rfl rfl dX5_init_76 dX5_init_78 (fun ad10 ct10 H locs A10 B10 C10 D10 M hS => ?_)
  have ha := (A10 _ (by decide)).trans ha
  have hct : ct10 13 = .inr (5, [.int 0, .int (-1), .int 0, .ref (ad2 14), .ref (ad3 15), .int 0, .ref (ad4 16), .ref (ad5 17), .ref (ad6 18), .ref (ad7 19), .ref (ad8 20), .int 0, .ref (ad9 21), .ref (ad10 22), .int 0, .null, .null, .int 0, .null, .int 0, .null, .null, .null, .null, .int 0]) := D10
  refine lv_aload_n hx hb dX5_init_81 rfl (lv_at hl 0 rfl) ?_
  refine lv_ldc (v := 300000) hx hb hown (hts _ kw_4_4) dX5_init_82 ?_
  refine sa_F C0 hin M hS hb0 (k := 13) (kn := 23) (Or.inl (Or.inl (Or.inl (Or.inl (Or.inl (Or.inl (Or.inl (Or.inl (Or.inl hk))))))))) (not_lvA (not_lvA (not_lvA (not_lvA (not_lvA (not_lvA (not_lvA (not_lvA (not_lvA hn11 (by decide)) (by decide)) (by decide)) (by decide)) (by decide)) (by decide)) (by decide)) (by decide)) (by decide)) (by decide) ha hct rfl inlX5 tyX5 tyX5_ok nmX5 15 (by decide) kw_4_5 rfl rfl rfl (fty := .array .long) (by decide +kernel) (fun _ => rfl) (fun _ => rfl) (Nat.le_of_ble_eq_true rfl) (ty := .long) rfl kw_2_21 (cA := cy.2.1) 1 rfl (fun h => h) (N2 := 300000) (a1 := (300000, .inr (.inl (fun _ => 0)))) (fun _ => rfl) (by decide) (by decide) (by decide) (Nat.le_of_ble_eq_true rfl) (Nat.le_of_ble_eq_true rfl) (c1 := 10) (s1 := 326222) rfl rfl dX5_init_84 dX5_init_86 (fun ad11 ct11 H locs A11 B11 C11 D11 M hS => ?_)
  have ha := (A11 _ (by decide)).trans ha
  have hct : ct11 13 = .inr (5, [.int 0, .int (-1), .int 0, .ref (ad2 14), .ref (ad3 15), .int 0, .ref (ad4 16), .ref (ad5 17), .ref (ad6 18), .ref (ad7 19), .ref (ad8 20), .int 0, .ref (ad9 21), .ref (ad10 22), .int 0, .ref (ad11 23), .null, .int 0, .null, .int 0, .null, .null, .null, .null, .int 0]) := D11
  refine lv_aload_n hx hb dX5_init_89 rfl (lv_at hl 0 rfl) ?_
  refine lv_ldc (v := 300000) hx hb hown (hts _ kw_4_4) dX5_init_90 ?_
  refine sa_F C0 hin M hS hb0 (k := 13) (kn := 24) (Or.inl (Or.inl (Or.inl (Or.inl (Or.inl (Or.inl (Or.inl (Or.inl (Or.inl (Or.inl hk)))))))))) (not_lvA (not_lvA (not_lvA (not_lvA (not_lvA (not_lvA (not_lvA (not_lvA (not_lvA (not_lvA hn12 (by decide)) (by decide)) (by decide)) (by decide)) (by decide)) (by decide)) (by decide)) (by decide)) (by decide)) (by decide)) (by decide) ha hct rfl inlX5 tyX5 tyX5_ok nmX5 16 (by decide) kw_4_6 rfl rfl rfl (fty := .array .boolean) (by decide +kernel) (fun _ => rfl) (fun _ => rfl) (Nat.le_of_ble_eq_true rfl) (ty := .boolean) rfl kw_3_3 (cA := cy.2.2.1) 2 rfl (fun h => h) (N2 := 300000) (a1 := (300000, .inl (fun _ => 0))) (fun _ => rfl) (by decide) (by decide) (by decide) (Nat.le_of_ble_eq_true rfl) (Nat.le_of_ble_eq_true rfl) (c1 := 11) (s1 := 626222) rfl rfl dX5_init_92 dX5_init_94 (fun ad12 ct12 H locs A12 B12 C12 D12 M hS => ?_)
  have ha := (A12 _ (by decide)).trans ha
  have hct : ct12 13 = .inr (5, [.int 0, .int (-1), .int 0, .ref (ad2 14), .ref (ad3 15), .int 0, .ref (ad4 16), .ref (ad5 17), .ref (ad6 18), .ref (ad7 19), .ref (ad8 20), .int 0, .ref (ad9 21), .ref (ad10 22), .int 0, .ref (ad11 23), .ref (ad12 24), .int 0, .null, .int 0, .null, .null, .null, .null, .int 0]) := D12
  refine lv_aload_n hx hb dX5_init_97 rfl (lv_at hl 0 rfl) ?_
  refine lv_sipush (v := 12100) hx hb dX5_init_98 (by decide) ?_
  refine sa_F C0 hin M hS hb0 (k := 13) (kn := 25) (Or.inl (Or.inl (Or.inl (Or.inl (Or.inl (Or.inl (Or.inl (Or.inl (Or.inl (Or.inl (Or.inl hk))))))))))) (not_lvA (not_lvA (not_lvA (not_lvA (not_lvA (not_lvA (not_lvA (not_lvA (not_lvA (not_lvA (not_lvA hn13 (by decide)) (by decide)) (by decide)) (by decide)) (by decide)) (by decide)) (by decide)) (by decide)) (by decide)) (by decide)) (by decide)) (by decide) ha hct rfl inlX5 tyX5 tyX5_ok nmX5 18 (by decide) kw_4_7 rfl rfl rfl (fty := .array .int) (by decide +kernel) (fun _ => rfl) (fun _ => rfl) (Nat.le_of_ble_eq_true rfl) (ty := .int) rfl kw_2_3 (cA := cy.1) 0 rfl (fun h => h) (N2 := 12100) (a1 := (12100, .inl (fun _ => 0))) (fun _ => rfl) (by decide) (by decide) (by decide) (Nat.le_of_ble_eq_true rfl) (Nat.le_of_ble_eq_true rfl) (c1 := 12) (s1 := 638322) rfl rfl dX5_init_101 dX5_init_103 (fun ad13 ct13 H locs A13 B13 C13 D13 M hS => ?_)
  have ha := (A13 _ (by decide)).trans ha
  have hct : ct13 13 = .inr (5, [.int 0, .int (-1), .int 0, .ref (ad2 14), .ref (ad3 15), .int 0, .ref (ad4 16), .ref (ad5 17), .ref (ad6 18), .ref (ad7 19), .ref (ad8 20), .int 0, .ref (ad9 21), .ref (ad10 22), .int 0, .ref (ad11 23), .ref (ad12 24), .int 0, .ref (ad13 25), .int 0, .null, .null, .null, .null, .int 0]) := D13
  refine lv_aload_n hx hb dX5_init_106 rfl (lv_at hl 0 rfl) ?_
  refine lv_bipush (v := 30) hx hb dX5_init_107 (by decide) ?_
  refine sa_F C0 hin M hS hb0 (k := 13) (kn := 26) (Or.inl (Or.inl (Or.inl (Or.inl (Or.inl (Or.inl (Or.inl (Or.inl (Or.inl (Or.inl (Or.inl (Or.inl hk)))))))))))) (not_lvA (not_lvA (not_lvA (not_lvA (not_lvA (not_lvA (not_lvA (not_lvA (not_lvA (not_lvA (not_lvA (not_lvA hn14 (by decide)) (by decide)) (by decide)) (by decide)) (by decide)) (by decide)) (by decide)) (by decide)) (by decide)) (by decide)) (by decide)) (by decide)) (by decide) ha hct rfl inlX5 tyX5 tyX5_ok nmX5 20 (by decide) kw_4_8 rfl rfl rfl (fty := .array .int) (by decide +kernel) (fun _ => rfl) (fun _ => rfl) (Nat.le_of_ble_eq_true rfl) (ty := .int) rfl kw_2_3 (cA := cy.1) 0 rfl (fun h => h) (N2 := 30) (a1 := (30, .inl (fun _ => 0))) (fun _ => rfl) (by decide) (by decide) (by decide) (Nat.le_of_ble_eq_true rfl) (Nat.le_of_ble_eq_true rfl) (c1 := 13) (s1 := 638352) rfl rfl dX5_init_109 dX5_init_111 (fun ad14 ct14 H locs A14 B14 C14 D14 M hS => ?_)
  have ha := (A14 _ (by decide)).trans ha
  have hct : ct14 13 = .inr (5, [.int 0, .int (-1), .int 0, .ref (ad2 14), .ref (ad3 15), .int 0, .ref (ad4 16), .ref (ad5 17), .ref (ad6 18), .ref (ad7 19), .ref (ad8 20), .int 0, .ref (ad9 21), .ref (ad10 22), .int 0, .ref (ad11 23), .ref (ad12 24), .int 0, .ref (ad13 25), .int 0, .ref (ad14 26), .null, .null, .null, .int 0]) := D14
  refine lv_aload_n hx hb dX5_init_114 rfl (lv_at hl 0 rfl) ?_
  refine lv_bipush (v := 30) hx hb dX5_init_115 (by decide) ?_
  refine sa_F C0 hin M hS hb0 (k := 13) (kn := 27) (Or.inl (Or.inl (Or.inl (Or.inl (Or.inl (Or.inl (Or.inl (Or.inl (Or.inl (Or.inl (Or.inl (Or.inl (Or.inl hk))))))))))))) (not_lvA (not_lvA (not_lvA (not_lvA (not_lvA (not_lvA (not_lvA (not_lvA (not_lvA (not_lvA (not_lvA (not_lvA (not_lvA hn15 (by decide)) (by decide)) (by decide)) (by decide)) (by decide)) (by decide)) (by decide)) (by decide)) (by decide)) (by decide)) (by decide)) (by decide)) (by decide)) (by decide) ha hct rfl inlX5 tyX5 tyX5_ok nmX5 21 (by decide) kw_4_9 rfl rfl rfl (fty := .array .int) (by decide +kernel) (fun _ => rfl) (fun _ => rfl) (Nat.le_of_ble_eq_true rfl) (ty := .int) rfl kw_2_3 (cA := cy.1) 0 rfl (fun h => h) (N2 := 30) (a1 := (30, .inl (fun _ => 0))) (fun _ => rfl) (by decide) (by decide) (by decide) (Nat.le_of_ble_eq_true rfl) (Nat.le_of_ble_eq_true rfl) (c1 := 14) (s1 := 638382) rfl rfl dX5_init_117 dX5_init_119 (fun ad15 ct15 H locs A15 B15 C15 D15 M hS => ?_)
  have ha := (A15 _ (by decide)).trans ha
  have hct : ct15 13 = .inr (5, [.int 0, .int (-1), .int 0, .ref (ad2 14), .ref (ad3 15), .int 0, .ref (ad4 16), .ref (ad5 17), .ref (ad6 18), .ref (ad7 19), .ref (ad8 20), .int 0, .ref (ad9 21), .ref (ad10 22), .int 0, .ref (ad11 23), .ref (ad12 24), .int 0, .ref (ad13 25), .int 0, .ref (ad14 26), .ref (ad15 27), .null, .null, .int 0]) := D15
  refine lv_aload_n hx hb dX5_init_122 rfl (lv_at hl 0 rfl) ?_
  refine lv_bipush (v := 30) hx hb dX5_init_123 (by decide) ?_
  refine sa_F C0 hin M hS hb0 (k := 13) (kn := 28) (Or.inl (Or.inl (Or.inl (Or.inl (Or.inl (Or.inl (Or.inl (Or.inl (Or.inl (Or.inl (Or.inl (Or.inl (Or.inl (Or.inl hk)))))))))))))) (not_lvA (not_lvA (not_lvA (not_lvA (not_lvA (not_lvA (not_lvA (not_lvA (not_lvA (not_lvA (not_lvA (not_lvA (not_lvA (not_lvA hn16 (by decide)) (by decide)) (by decide)) (by decide)) (by decide)) (by decide)) (by decide)) (by decide)) (by decide)) (by decide)) (by decide)) (by decide)) (by decide)) (by decide)) (by decide) ha hct rfl inlX5 tyX5 tyX5_ok nmX5 22 (by decide) kw_4_10 rfl rfl rfl (fty := .array .int) (by decide +kernel) (fun _ => rfl) (fun _ => rfl) (Nat.le_of_ble_eq_true rfl) (ty := .int) rfl kw_2_3 (cA := cy.1) 0 rfl (fun h => h) (N2 := 30) (a1 := (30, .inl (fun _ => 0))) (fun _ => rfl) (by decide) (by decide) (by decide) (Nat.le_of_ble_eq_true rfl) (Nat.le_of_ble_eq_true rfl) (c1 := 15) (s1 := 638412) rfl rfl dX5_init_125 dX5_init_127 (fun ad16 ct16 H locs A16 B16 C16 D16 M hS => ?_)
  have ha := (A16 _ (by decide)).trans ha
  have hct : ct16 13 = .inr (5, [.int 0, .int (-1), .int 0, .ref (ad2 14), .ref (ad3 15), .int 0, .ref (ad4 16), .ref (ad5 17), .ref (ad6 18), .ref (ad7 19), .ref (ad8 20), .int 0, .ref (ad9 21), .ref (ad10 22), .int 0, .ref (ad11 23), .ref (ad12 24), .int 0, .ref (ad13 25), .int 0, .ref (ad14 26), .ref (ad15 27), .ref (ad16 28), .null, .int 0]) := D16
  refine lv_aload_n hx hb dX5_init_130 rfl (lv_at hl 0 rfl) ?_
  refine lv_bipush (v := 30) hx hb dX5_init_131 (by decide) ?_
  refine sa_F C0 hin M hS hb0 (k := 13) (kn := 29) (Or.inl (Or.inl (Or.inl (Or.inl (Or.inl (Or.inl (Or.inl (Or.inl (Or.inl (Or.inl (Or.inl (Or.inl (Or.inl (Or.inl (Or.inl hk))))))))))))))) (not_lvA (not_lvA (not_lvA (not_lvA (not_lvA (not_lvA (not_lvA (not_lvA (not_lvA (not_lvA (not_lvA (not_lvA (not_lvA (not_lvA (not_lvA hn17 (by decide)) (by decide)) (by decide)) (by decide)) (by decide)) (by decide)) (by decide)) (by decide)) (by decide)) (by decide)) (by decide)) (by decide)) (by decide)) (by decide)) (by decide)) (by decide) ha hct rfl inlX5 tyX5 tyX5_ok nmX5 23 (by decide) kw_4_11 rfl rfl rfl (fty := .array .long) (by decide +kernel) (fun _ => rfl) (fun _ => rfl) (Nat.le_of_ble_eq_true rfl) (ty := .long) rfl kw_2_21 (cA := cy.2.1) 1 rfl (fun h => h) (N2 := 30) (a1 := (30, .inr (.inl (fun _ => 0)))) (fun _ => rfl) (by decide) (by decide) (by decide) (Nat.le_of_ble_eq_true rfl) (Nat.le_of_ble_eq_true rfl) (c1 := 16) (s1 := 638442) rfl rfl dX5_init_133 dX5_init_135 (fun ad17 ct17 H locs A17 B17 C17 D17 M hS => ?_)
  have ha := (A17 _ (by decide)).trans ha
  have hct : ct17 13 = .inr (5, [.int 0, .int (-1), .int 0, .ref (ad2 14), .ref (ad3 15), .int 0, .ref (ad4 16), .ref (ad5 17), .ref (ad6 18), .ref (ad7 19), .ref (ad8 20), .int 0, .ref (ad9 21), .ref (ad10 22), .int 0, .ref (ad11 23), .ref (ad12 24), .int 0, .ref (ad13 25), .int 0, .ref (ad14 26), .ref (ad15 27), .ref (ad16 28), .ref (ad17 29), .int 0]) := D17
  have e2 : ad17 14 = ad2 14 := by rw [A17 _ (by decide), A16 _ (by decide), A15 _ (by decide), A14 _ (by decide), A13 _ (by decide), A12 _ (by decide), A11 _ (by decide), A10 _ (by decide), A9 _ (by decide), A8 _ (by decide), A7 _ (by decide), A6 _ (by decide), A5 _ (by decide), A4 _ (by decide), A3 _ (by decide)]
  have e3 : ad17 15 = ad3 15 := by rw [A17 _ (by decide), A16 _ (by decide), A15 _ (by decide), A14 _ (by decide), A13 _ (by decide), A12 _ (by decide), A11 _ (by decide), A10 _ (by decide), A9 _ (by decide), A8 _ (by decide), A7 _ (by decide), A6 _ (by decide), A5 _ (by decide), A4 _ (by decide)]
  have e4 : ad17 16 = ad4 16 := by rw [A17 _ (by decide), A16 _ (by decide), A15 _ (by decide), A14 _ (by decide), A13 _ (by decide), A12 _ (by decide), A11 _ (by decide), A10 _ (by decide), A9 _ (by decide), A8 _ (by decide), A7 _ (by decide), A6 _ (by decide), A5 _ (by decide)]
  have e5 : ad17 17 = ad5 17 := by rw [A17 _ (by decide), A16 _ (by decide), A15 _ (by decide), A14 _ (by decide), A13 _ (by decide), A12 _ (by decide), A11 _ (by decide), A10 _ (by decide), A9 _ (by decide), A8 _ (by decide), A7 _ (by decide), A6 _ (by decide)]
  have e6 : ad17 18 = ad6 18 := by rw [A17 _ (by decide), A16 _ (by decide), A15 _ (by decide), A14 _ (by decide), A13 _ (by decide), A12 _ (by decide), A11 _ (by decide), A10 _ (by decide), A9 _ (by decide), A8 _ (by decide), A7 _ (by decide)]
  have e7 : ad17 19 = ad7 19 := by rw [A17 _ (by decide), A16 _ (by decide), A15 _ (by decide), A14 _ (by decide), A13 _ (by decide), A12 _ (by decide), A11 _ (by decide), A10 _ (by decide), A9 _ (by decide), A8 _ (by decide)]
  have e8 : ad17 20 = ad8 20 := by rw [A17 _ (by decide), A16 _ (by decide), A15 _ (by decide), A14 _ (by decide), A13 _ (by decide), A12 _ (by decide), A11 _ (by decide), A10 _ (by decide), A9 _ (by decide)]
  have e9 : ad17 21 = ad9 21 := by rw [A17 _ (by decide), A16 _ (by decide), A15 _ (by decide), A14 _ (by decide), A13 _ (by decide), A12 _ (by decide), A11 _ (by decide), A10 _ (by decide)]
  have e10 : ad17 22 = ad10 22 := by rw [A17 _ (by decide), A16 _ (by decide), A15 _ (by decide), A14 _ (by decide), A13 _ (by decide), A12 _ (by decide), A11 _ (by decide)]
  have e11 : ad17 23 = ad11 23 := by rw [A17 _ (by decide), A16 _ (by decide), A15 _ (by decide), A14 _ (by decide), A13 _ (by decide), A12 _ (by decide)]
  have e12 : ad17 24 = ad12 24 := by rw [A17 _ (by decide), A16 _ (by decide), A15 _ (by decide), A14 _ (by decide), A13 _ (by decide)]
  have e13 : ad17 25 = ad13 25 := by rw [A17 _ (by decide), A16 _ (by decide), A15 _ (by decide), A14 _ (by decide)]
  have e14 : ad17 26 = ad14 26 := by rw [A17 _ (by decide), A16 _ (by decide), A15 _ (by decide)]
  have e15 : ad17 27 = ad15 27 := by rw [A17 _ (by decide), A16 _ (by decide)]
  have e16 : ad17 28 = ad16 28 := by rw [A17 _ (by decide)]
  refine rN_v C0 M hS (fun j hj => ?_) (fun j hj => by rw [A17 j (fun h => hn17 (h ▸ hj)), A16 j (fun h => hn16 (h ▸ hj)), A15 j (fun h => hn15 (h ▸ hj)), A14 j (fun h => hn14 (h ▸ hj)), A13 j (fun h => hn13 (h ▸ hj)), A12 j (fun h => hn12 (h ▸ hj)), A11 j (fun h => hn11 (h ▸ hj)), A10 j (fun h => hn10 (h ▸ hj)), A9 j (fun h => hn9 (h ▸ hj)), A8 j (fun h => hn8 (h ▸ hj)), A7 j (fun h => hn7 (h ▸ hj)), A6 j (fun h => hn6 (h ▸ hj)), A5 j (fun h => hn5 (h ▸ hj)), A4 j (fun h => hn4 (h ▸ hj)), A3 j (fun h => hn3 (h ▸ hj)), A2 j (fun h => hn2 (h ▸ hj))]) ?_ hr hlk (Nat.le_of_ble_eq_true rfl) (Nat.le_of_ble_eq_true rfl) dX5_init_138
  · rcases hj with hj | rfl | rfl | rfl | rfl | rfl | rfl | rfl | rfl | rfl | rfl | rfl | rfl | rfl | rfl | rfl | rfl
    · exact Or.inl (Or.inl (Or.inl (Or.inl (Or.inl (Or.inl (Or.inl (Or.inl (Or.inl (Or.inl (Or.inl (Or.inl (Or.inl (Or.inl (Or.inl (Or.inl (hj))))))))))))))))
    · exact Or.inl (Or.inl (Or.inl (Or.inl (Or.inl (Or.inl (Or.inl (Or.inl (Or.inl (Or.inl (Or.inl (Or.inl (Or.inl (Or.inl (Or.inl (Or.inr rfl)))))))))))))))
    · exact Or.inl (Or.inl (Or.inl (Or.inl (Or.inl (Or.inl (Or.inl (Or.inl (Or.inl (Or.inl (Or.inl (Or.inl (Or.inl (Or.inl (Or.inr rfl))))))))))))))
    · exact Or.inl (Or.inl (Or.inl (Or.inl (Or.inl (Or.inl (Or.inl (Or.inl (Or.inl (Or.inl (Or.inl (Or.inl (Or.inl (Or.inr rfl)))))))))))))
    · exact Or.inl (Or.inl (Or.inl (Or.inl (Or.inl (Or.inl (Or.inl (Or.inl (Or.inl (Or.inl (Or.inl (Or.inl (Or.inr rfl))))))))))))
    · exact Or.inl (Or.inl (Or.inl (Or.inl (Or.inl (Or.inl (Or.inl (Or.inl (Or.inl (Or.inl (Or.inl (Or.inr rfl)))))))))))
    · exact Or.inl (Or.inl (Or.inl (Or.inl (Or.inl (Or.inl (Or.inl (Or.inl (Or.inl (Or.inl (Or.inr rfl))))))))))
    · exact Or.inl (Or.inl (Or.inl (Or.inl (Or.inl (Or.inl (Or.inl (Or.inl (Or.inl (Or.inr rfl)))))))))
    · exact Or.inl (Or.inl (Or.inl (Or.inl (Or.inl (Or.inl (Or.inl (Or.inl (Or.inr rfl))))))))
    · exact Or.inl (Or.inl (Or.inl (Or.inl (Or.inl (Or.inl (Or.inl (Or.inr rfl)))))))
    · exact Or.inl (Or.inl (Or.inl (Or.inl (Or.inl (Or.inl (Or.inr rfl))))))
    · exact Or.inl (Or.inl (Or.inl (Or.inl (Or.inl (Or.inr rfl)))))
    · exact Or.inl (Or.inl (Or.inl (Or.inl (Or.inr rfl))))
    · exact Or.inl (Or.inl (Or.inl (Or.inr rfl)))
    · exact Or.inl (Or.inl (Or.inr rfl))
    · exact Or.inl (Or.inr rfl)
    · exact Or.inr rfl
  · exact ⟨(fun j hj hjk => by rw [B17 j (fun h => hn17 (h ▸ hj)) hjk, B16 j (fun h => hn16 (h ▸ hj)) hjk, B15 j (fun h => hn15 (h ▸ hj)) hjk, B14 j (fun h => hn14 (h ▸ hj)) hjk, B13 j (fun h => hn13 (h ▸ hj)) hjk, B12 j (fun h => hn12 (h ▸ hj)) hjk, B11 j (fun h => hn11 (h ▸ hj)) hjk, B10 j (fun h => hn10 (h ▸ hj)) hjk, B9 j (fun h => hn9 (h ▸ hj)) hjk, B8 j (fun h => hn8 (h ▸ hj)) hjk, B7 j (fun h => hn7 (h ▸ hj)) hjk, B6 j (fun h => hn6 (h ▸ hj)) hjk, B5 j (fun h => hn5 (h ▸ hj)) hjk, B4 j (fun h => hn4 (h ▸ hj)) hjk, B3 j (fun h => hn3 (h ▸ hj)) hjk, B2 j (fun h => hn2 (h ▸ hj)) hjk, B1 j hjk]), (by rw [hct, e2, e3, e4, e5, e6, e7, e8, e9, e10, e11, e12, e13, e14, e15, e16]), (by rw [B17 _ (by decide) (by decide), B16 _ (by decide) (by decide), B15 _ (by decide) (by decide), B14 _ (by decide) (by decide), B13 _ (by decide) (by decide), B12 _ (by decide) (by decide), B11 _ (by decide) (by decide), B10 _ (by decide) (by decide), B9 _ (by decide) (by decide), B8 _ (by decide) (by decide), B7 _ (by decide) (by decide), B6 _ (by decide) (by decide), B5 _ (by decide) (by decide), B4 _ (by decide) (by decide), B3 _ (by decide) (by decide), C2]), (by rw [B17 _ (by decide) (by decide), B16 _ (by decide) (by decide), B15 _ (by decide) (by decide), B14 _ (by decide) (by decide), B13 _ (by decide) (by decide), B12 _ (by decide) (by decide), B11 _ (by decide) (by decide), B10 _ (by decide) (by decide), B9 _ (by decide) (by decide), B8 _ (by decide) (by decide), B7 _ (by decide) (by decide), B6 _ (by decide) (by decide), B5 _ (by decide) (by decide), B4 _ (by decide) (by decide), C3]), (by rw [B17 _ (by decide) (by decide), B16 _ (by decide) (by decide), B15 _ (by decide) (by decide), B14 _ (by decide) (by decide), B13 _ (by decide) (by decide), B12 _ (by decide) (by decide), B11 _ (by decide) (by decide), B10 _ (by decide) (by decide), B9 _ (by decide) (by decide), B8 _ (by decide) (by decide), B7 _ (by decide) (by decide), B6 _ (by decide) (by decide), B5 _ (by decide) (by decide), C4]), (by rw [B17 _ (by decide) (by decide), B16 _ (by decide) (by decide), B15 _ (by decide) (by decide), B14 _ (by decide) (by decide), B13 _ (by decide) (by decide), B12 _ (by decide) (by decide), B11 _ (by decide) (by decide), B10 _ (by decide) (by decide), B9 _ (by decide) (by decide), B8 _ (by decide) (by decide), B7 _ (by decide) (by decide), B6 _ (by decide) (by decide), C5]), (by rw [B17 _ (by decide) (by decide), B16 _ (by decide) (by decide), B15 _ (by decide) (by decide), B14 _ (by decide) (by decide), B13 _ (by decide) (by decide), B12 _ (by decide) (by decide), B11 _ (by decide) (by decide), B10 _ (by decide) (by decide), B9 _ (by decide) (by decide), B8 _ (by decide) (by decide), B7 _ (by decide) (by decide), C6]), (by rw [B17 _ (by decide) (by decide), B16 _ (by decide) (by decide), B15 _ (by decide) (by decide), B14 _ (by decide) (by decide), B13 _ (by decide) (by decide), B12 _ (by decide) (by decide), B11 _ (by decide) (by decide), B10 _ (by decide) (by decide), B9 _ (by decide) (by decide), B8 _ (by decide) (by decide), C7]), (by rw [B17 _ (by decide) (by decide), B16 _ (by decide) (by decide), B15 _ (by decide) (by decide), B14 _ (by decide) (by decide), B13 _ (by decide) (by decide), B12 _ (by decide) (by decide), B11 _ (by decide) (by decide), B10 _ (by decide) (by decide), B9 _ (by decide) (by decide), C8]), (by rw [B17 _ (by decide) (by decide), B16 _ (by decide) (by decide), B15 _ (by decide) (by decide), B14 _ (by decide) (by decide), B13 _ (by decide) (by decide), B12 _ (by decide) (by decide), B11 _ (by decide) (by decide), B10 _ (by decide) (by decide), C9]), (by rw [B17 _ (by decide) (by decide), B16 _ (by decide) (by decide), B15 _ (by decide) (by decide), B14 _ (by decide) (by decide), B13 _ (by decide) (by decide), B12 _ (by decide) (by decide), B11 _ (by decide) (by decide), C10]), (by rw [B17 _ (by decide) (by decide), B16 _ (by decide) (by decide), B15 _ (by decide) (by decide), B14 _ (by decide) (by decide), B13 _ (by decide) (by decide), B12 _ (by decide) (by decide), C11]), (by rw [B17 _ (by decide) (by decide), B16 _ (by decide) (by decide), B15 _ (by decide) (by decide), B14 _ (by decide) (by decide), B13 _ (by decide) (by decide), C12]), (by rw [B17 _ (by decide) (by decide), B16 _ (by decide) (by decide), B15 _ (by decide) (by decide), B14 _ (by decide) (by decide), C13]), (by rw [B17 _ (by decide) (by decide), B16 _ (by decide) (by decide), B15 _ (by decide) (by decide), C14]), (by rw [B17 _ (by decide) (by decide), B16 _ (by decide) (by decide), C15]), (by rw [B17 _ (by decide) (by decide), C16]), (by rw [C17])⟩
theorem Y_X5_init : Yi yX5_init cX5_init 1 0 := ⟨⟨kw_3_16, kw_1_5, by decide +kernel, by decide +kernel, by decide +kernel⟩, rfl, kw_3_15⟩
