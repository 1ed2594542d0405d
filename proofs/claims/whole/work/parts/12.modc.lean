section WALK
variable {p : Program} {l : Launch} {e : Env} {s : State} {m : MethodId} {args : Array Value} {below : List Frame} {meth : Method} {c : Code} {H : Heap} {locs : List Loc}
variable {ls : Array Slot} {D : va_G} {b0 : Nat} {cy : Cy} {sb db : Nat → Nat} {g : Gs}
-- X5_wantsRow
def m_X5_wantsRow_J58 (xs0 : Int32) (g : Gs) : Option (Int32) :=
  some xs0
def m_X5_wantsRow (x1 : Int32) (x2 : Int32) (g : Gs) : Option (Int32) :=
  (m_X5_isArray x1 g).bind fun x_2 => if x_2 = 0 then (m_X5_wantsRow_J58 (7 : Int32) g) else (chk (inb x1 24) (if (g.1 26 0 x1.toNatClampNeg) = (4 : Int32) then (chk (inb ((3 : Int32) * x1) 72) (chk (inb ((3 : Int32) * x1) 72) ((m_X5_within x2.toInt64 ((g.1 28 0 ((3 : Int32) * x1).toNatClampNeg).toInt64) ((g.1 29 0 ((3 : Int32) * x1).toNatClampNeg).toInt64) g).bind fun x_9 => if x_9 = 0 then (m_X5_wantsRow_J58 (3 : Int32) g) else (m_X5_wantsRow_J58 (0 : Int32) g)))) else (m_X5_wantsRow_J58 (2 : Int32) g)))
set_option maxHeartbeats 4000000 in
set_option maxRecDepth 100000 in
theorem w_X5_wantsRow_J58 {xs0 : Int32} (C0 : Cx p s m args c cX5_wantsRow 3 RX5 D cy) (hr : meth.sig.returnType = (some .int)) (hk : meth.locks = false) {res : Int32} (hl : lv_has ls 3 []) (M : Ws D b0 cy sb db g s H locs) (h : m_X5_wantsRow_J58 xs0 g = some res) : W p l e ({ frames := 2, cells := 0, slots := 0, locals := 46 } : Room) s m args below meth c H locs 0 0 (MQ below (QX (some (.int res)) D b0 cy sb db g) args s 0 0 (fun q => b0 ≤ q)) (F0 m 58 ls [.int xs0]) := by
  obtain ⟨hx, hb, hml, hown, hts, hK⟩ := id C0
  rw [m_X5_wantsRow_J58] at h
  obtain rfl := Option.some.inj h
  exact rt_i C0 M hr hk dX5_wantsRow_58
set_option maxHeartbeats 4000000 in
set_option maxRecDepth 100000 in
theorem w_X5_wantsRow {x1 : Int32} {x2 : Int32} (C0 : Cx p s m args c cX5_wantsRow 3 RX5 D cy) (hr : meth.sig.returnType = (some .int)) (hk : meth.locks = false) {res : Int32} (hl : lv_has ls 3 [(0, .ref (sb 13)), (1, .int x1), (2, .int x2)]) (M : Ws D b0 cy sb db g s H locs) (h : m_X5_wantsRow x1 x2 g = some res) : W p l e ({ frames := 2, cells := 0, slots := 0, locals := 46 } : Room) s m args below meth c H locs 0 0 (MQ below (QX (some (.int res)) D b0 cy sb db g) args s 0 0 (fun q => b0 ≤ q)) (F0 m 0 ls []) := by
  obtain ⟨hx, hb, hml, hown, hts, hK⟩ := id C0
  rw [m_X5_wantsRow] at h
  refine lv_aload_n hx hb dX5_wantsRow_0 rfl (lv_at hl 0 rfl) ?_
  refine lv_iload_n hx hb dX5_wantsRow_1 rfl (lv_at hl 1 rfl) ?_
  obtain ⟨x_2, hc_1, h⟩ := bnd_s h
  refine kV (As := [.int x1]) (rest := []) (stk := [.int x_2]) (val := (some (.int x_2))) (c1 := 0) (s1 := 0) C0 M (k_X5_isArray hc_1) kw_14_13 Y_X5_isArray (rv_X5 C0 M) ⟨Nat.le_of_ble_eq_true rfl, Nat.le_of_ble_eq_true rfl⟩ rfl hl.1 rfl (Nat.le_of_ble_eq_true rfl) dX5_wantsRow_2 rfl rfl ⟨Nat.le_refl _, Nat.le_refl _⟩ rfl (fun H locs M => ?_)
  refine lv_if_ne (tgt := 13) hx hb dX5_wantsRow_5 (by decide) (fun c_3 => ?_) (fun c_3 => ?_)
  · rw [if_neg c_3] at h
    refine lv_aload_n hx hb dX5_wantsRow_13 rfl (lv_at hl 0 rfl) ?_
    refine gf_RX5_20 C0 M dX5_wantsRow_14 ?_
    refine lv_iload_n hx hb dX5_wantsRow_17 rfl (lv_at hl 1 rfl) ?_
    obtain ⟨hi_4, h⟩ := chk_s h
    refine al_Mkinds C0 M hi_4 dX5_wantsRow_18 ?_
    refine lv_iconst (v := 4) hx hb dX5_wantsRow_19 (by decide) ?_
    refine lv_icmp_eq (tgt := 27) hx hb dX5_wantsRow_20 (by decide) (fun c_5 => ?_) (fun c_5 => ?_)
    · rw [if_pos c_5] at h
      refine lv_iload_n hx hb dX5_wantsRow_27 rfl (lv_at hl 2 rfl) ?_
      refine lv_i2l hx hb dX5_wantsRow_28 rfl ?_
      refine lv_aload_n hx hb dX5_wantsRow_29 rfl (lv_at hl 0 rfl) ?_
      refine gf_RX5_26 C0 M dX5_wantsRow_30 ?_
      refine lv_iconst (v := 3) hx hb dX5_wantsRow_33 (by decide) ?_
      refine lv_iload_n hx hb dX5_wantsRow_34 rfl (lv_at hl 1 rfl) ?_
      refine lv_imul hx hb dX5_wantsRow_35 ?_
      obtain ⟨hi_6, h⟩ := chk_s h
      refine al_Mlows C0 M hi_6 dX5_wantsRow_36 ?_
      refine lv_i2l hx hb dX5_wantsRow_37 rfl ?_
      refine lv_aload_n hx hb dX5_wantsRow_38 rfl (lv_at hl 0 rfl) ?_
      refine gf_RX5_29 C0 M dX5_wantsRow_39 ?_
      refine lv_iconst (v := 3) hx hb dX5_wantsRow_42 (by decide) ?_
      refine lv_iload_n hx hb dX5_wantsRow_43 rfl (lv_at hl 1 rfl) ?_
      refine lv_imul hx hb dX5_wantsRow_44 ?_
      obtain ⟨hi_7, h⟩ := chk_s h
      refine al_Mhighs C0 M hi_7 dX5_wantsRow_45 ?_
      refine lv_i2l hx hb dX5_wantsRow_46 rfl ?_
      obtain ⟨x_9, hc_8, h⟩ := bnd_s h
      refine kS (As := [.long x2.toInt64, .long ((g.1 28 0 ((3 : Int32) * x1).toNatClampNeg).toInt64), .long ((g.1 29 0 ((3 : Int32) * x1).toNatClampNeg).toInt64)]) (rest := []) (stk := [.int x_9]) (val := (some (.int x_9))) (c1 := 0) (s1 := 0) C0 M (k_X5_within hc_8) kw_11_22 Y_X5_within ⟨Nat.le_of_ble_eq_true rfl, Nat.le_of_ble_eq_true rfl⟩ rfl hl.1 rfl (Nat.le_of_ble_eq_true rfl) dX5_wantsRow_47 rfl rfl ⟨Nat.le_refl _, Nat.le_refl _⟩ rfl (fun H locs M => ?_)
      refine lv_if_eq (tgt := 57) hx hb dX5_wantsRow_50 (by decide) (fun c_10 => ?_) (fun c_10 => ?_)
      · rw [if_pos c_10] at h
        refine lv_iconst (v := 3) hx hb dX5_wantsRow_57 (by decide) ?_
        exact w_X5_wantsRow_J58 C0 hr hk (lv_sub hl [] rfl) M h
      · rw [if_neg c_10] at h
        refine lv_iconst (v := 0) hx hb dX5_wantsRow_53 (by decide) ?_
        refine lv_goto (tgt := 58) hx hb dX5_wantsRow_54 (by decide) ?_
        exact w_X5_wantsRow_J58 C0 hr hk (lv_sub hl [] rfl) M h
    · rw [if_neg c_5] at h
      refine lv_iconst (v := 2) hx hb dX5_wantsRow_23 (by decide) ?_
      refine lv_goto (tgt := 58) hx hb dX5_wantsRow_24 (by decide) ?_
      exact w_X5_wantsRow_J58 C0 hr hk (lv_sub hl [] rfl) M h
  · rw [if_pos c_3] at h
    refine lv_bipush (v := 7) hx hb dX5_wantsRow_8 (by decide) ?_
    refine lv_goto (tgt := 58) hx hb dX5_wantsRow_10 (by decide) ?_
    exact w_X5_wantsRow_J58 C0 hr hk (lv_sub hl [] rfl) M h
theorem k_X5_wantsRow {x1 : Int32} {x2 : Int32} {res : Int32} (h : m_X5_wantsRow x1 x2 g = some res) : CM l yX5_wantsRow cX5_wantsRow 3 (some .int) ({ frames := 2, cells := 0, slots := 0, locals := 46 } : Room) [.ref (sb 13), .int x1, .int x2] (some (.int res)) D b0 cy sb db g g := by
  refine Met.ofW (cc := cX5_wantsRow) (maxL := 3) (ret := (some .int)) (by decide) rfl ?_
  intro p e s m args below meth c s₁ B hml hv
  obtain ⟨rfl, hW, hK⟩ := hv
  have hl := lv_entry [.ref (sb 13), .int x1, .int x2] (n := 3) (Nat.le_of_ble_eq_true rfl)
  rw [lg_entry_eq]
  generalize (lg_sl [.ref (sb 13), .int x1, .int x2] ++ List.replicate (3 - (lg_sl [.ref (sb 13), .int x1, .int x2]).length) Slot.unset).toArray = ls at hl ⊢
  have hl : lv_has ls 3 [(0, .ref (sb 13)), (1, .int x1), (2, .int x2)] := hl
  exact w_X5_wantsRow ⟨B.exec, B.bytes, hml, findClass_of_methodNamed B.named, fun w hw => atoms_spec (ws := Cond.code yX5_wantsRow cX5_wantsRow 3 (some .int) :: wsL_law) B.pre w (List.mem_cons_of_mem _ hw), hK⟩ B.returns B.notSynchronized hl ⟨hW, va_S.rf⟩ h
theorem Y_X5_wantsRow : Yv yX5_wantsRow RX5 cX5_wantsRow 3 (some .int) 2 := ⟨⟨kw_19_22, kw_1_5, by decide +kernel, by decide +kernel, by decide +kernel⟩, kw_19_20, kw_19_21⟩
-- X5_slotOf
def m_X5_slotOf (x1 : Int32) (x2 : Int32) (g : Gs) : Option (Int32) :=
  chk (inb x1 24) (chk (inb ((3 : Int32) * x1) 72) (some (((g.1 30 0 x1.toNatClampNeg) + x2) - (g.1 28 0 ((3 : Int32) * x1).toNatClampNeg))))
set_option maxHeartbeats 4000000 in
set_option maxRecDepth 100000 in
theorem w_X5_slotOf {x1 : Int32} {x2 : Int32} (C0 : Cx p s m args c cX5_slotOf 3 RX5 D cy) (hr : meth.sig.returnType = (some .int)) (hk : meth.locks = false) {res : Int32} (hl : lv_has ls 3 [(0, .ref (sb 13)), (1, .int x1), (2, .int x2)]) (M : Ws D b0 cy sb db g s H locs) (h : m_X5_slotOf x1 x2 g = some res) : W p l e ({ frames := 0, cells := 0, slots := 0, locals := 0 } : Room) s m args below meth c H locs 0 0 (MQ below (QX (some (.int res)) D b0 cy sb db g) args s 0 0 (fun q => b0 ≤ q)) (F0 m 0 ls []) := by
  obtain ⟨hx, hb, hml, hown, hts, hK⟩ := id C0
  rw [m_X5_slotOf] at h
  refine lv_aload_n hx hb dX5_slotOf_0 rfl (lv_at hl 0 rfl) ?_
  refine gf_RX5_32 C0 M dX5_slotOf_1 ?_
  refine lv_iload_n hx hb dX5_slotOf_4 rfl (lv_at hl 1 rfl) ?_
  obtain ⟨hi_1, h⟩ := chk_s h
  refine al_MrowOf C0 M hi_1 dX5_slotOf_5 ?_
  refine lv_iload_n hx hb dX5_slotOf_6 rfl (lv_at hl 2 rfl) ?_
  refine lv_iadd hx hb dX5_slotOf_7 ?_
  refine lv_aload_n hx hb dX5_slotOf_8 rfl (lv_at hl 0 rfl) ?_
  refine gf_RX5_26 C0 M dX5_slotOf_9 ?_
  refine lv_iconst (v := 3) hx hb dX5_slotOf_12 (by decide) ?_
  refine lv_iload_n hx hb dX5_slotOf_13 rfl (lv_at hl 1 rfl) ?_
  refine lv_imul hx hb dX5_slotOf_14 ?_
  obtain ⟨hi_2, h⟩ := chk_s h
  refine al_Mlows C0 M hi_2 dX5_slotOf_15 ?_
  refine lv_isub hx hb dX5_slotOf_16 ?_
  obtain rfl := Option.some.inj h
  exact rt_i C0 M hr hk dX5_slotOf_17
theorem k_X5_slotOf {x1 : Int32} {x2 : Int32} {res : Int32} (h : m_X5_slotOf x1 x2 g = some res) : CM l yX5_slotOf cX5_slotOf 3 (some .int) ({ frames := 0, cells := 0, slots := 0, locals := 0 } : Room) [.ref (sb 13), .int x1, .int x2] (some (.int res)) D b0 cy sb db g g := by
  refine Met.ofW (cc := cX5_slotOf) (maxL := 3) (ret := (some .int)) (by decide) rfl ?_
  intro p e s m args below meth c s₁ B hml hv
  obtain ⟨rfl, hW, hK⟩ := hv
  have hl := lv_entry [.ref (sb 13), .int x1, .int x2] (n := 3) (Nat.le_of_ble_eq_true rfl)
  rw [lg_entry_eq]
  generalize (lg_sl [.ref (sb 13), .int x1, .int x2] ++ List.replicate (3 - (lg_sl [.ref (sb 13), .int x1, .int x2]).length) Slot.unset).toArray = ls at hl ⊢
  have hl : lv_has ls 3 [(0, .ref (sb 13)), (1, .int x1), (2, .int x2)] := hl
  exact w_X5_slotOf ⟨B.exec, B.bytes, hml, findClass_of_methodNamed B.named, fun w hw => atoms_spec (ws := Cond.code yX5_slotOf cX5_slotOf 3 (some .int) :: wsL_law) B.pre w (List.mem_cons_of_mem _ hw), hK⟩ B.returns B.notSynchronized hl ⟨hW, va_S.rf⟩ h
theorem Y_X5_slotOf : Yv yX5_slotOf RX5 cX5_slotOf 3 (some .int) 2 := ⟨⟨kw_20_2, kw_1_5, by decide +kernel, by decide +kernel, by decide +kernel⟩, kw_20_0, kw_20_1⟩
-- X5_ragged
def m_X5_ragged_J49 (x1 : Int32) (x2 : Int32) (x3 : Int32) (xs0 : Int32) (g : Gs) : Option (Int32 × Gs) :=
  if xs0 = 0 then ((m_X5_slotOf x1 x2 g).bind fun x_7 => (m_X5_newRow x3 g).bind fun (x_9, g_10) => chk (inb x_7 12100) (lett (sI g_10 38 0 x_7.toNatClampNeg x_9) fun g_12 => (m_X5_yes (1 : Int32) g_12).bind fun (x_15, g_16) => some (x_15, g_16))) else ((m_X5_no xs0 g).bind fun (x_18, g_19) => some (x_18, g_19))
def m_X5_ragged (x1 : Int32) (x2 : Int32) (x3 : Int32) (g : Gs) : Option (Int32 × Gs) :=
  (m_X5_wantsRow x1 x2 g).bind fun x_2 => if x_2 = (3 : Int32) then ((m_X5_noItem (0 : Int32) g).bind fun (x_23, g_24) => some (x_23, g_24)) else (if x_2 = 0 then (if 0 ≤ x3 then (if x3 ≤ (100 : Int32) then (m_X5_ragged_J49 x1 x2 x3 (0 : Int32) g) else (m_X5_ragged_J49 x1 x2 x3 (5 : Int32) g)) else (m_X5_ragged_J49 x1 x2 x3 (4 : Int32) g)) else (m_X5_ragged_J49 x1 x2 x3 x_2 g))
set_option maxHeartbeats 4000000 in
set_option maxRecDepth 100000 in
theorem w_X5_ragged_J49 {x1 : Int32} {x2 : Int32} {x3 : Int32} {xs0 : Int32} (C0 : Cx p s m args c cX5_ragged 5 RX5 D cy) (hr : meth.sig.returnType = (some .int)) (hk : meth.locks = false) {res : Int32 × Gs} (hl : lv_has ls 5 [(0, .ref (sb 13)), (1, .int x1), (2, .int x2), (3, .int x3)]) (M : Ws D b0 cy sb db g s H locs) (h : m_X5_ragged_J49 x1 x2 x3 xs0 g = some res) : W p l e ({ frames := 3, cells := 0, slots := 0, locals := 68 } : Room) s m args below meth c H locs 0 0 (MQ below (QX (some (.int res.1)) D b0 cy sb db res.2) args s 0 0 (fun q => b0 ≤ q)) (F0 m 49 ls [.int xs0]) := by
  obtain ⟨hx, hb, hml, hown, hts, hK⟩ := id C0
  rw [m_X5_ragged_J49] at h
  refine lv_istore (lv' := [(4, .int xs0), (0, .ref (sb 13)), (1, .int x1), (2, .int x2), (3, .int x3)]) hx hb dX5_ragged_49 hl (by decide) rfl (fun ls hl => ?_)
  refine lv_iload hx hb dX5_ragged_51 (lv_at hl 0 rfl) ?_
  refine lv_if_eq (tgt := 63) hx hb dX5_ragged_53 (by decide) (fun c_5 => ?_) (fun c_5 => ?_)
  · rw [if_pos c_5] at h
    refine lv_aload_n hx hb dX5_ragged_63 rfl (lv_at hl 1 rfl) ?_
    refine gf_RX5_50 C0 M dX5_ragged_64 ?_
    refine lv_aload_n hx hb dX5_ragged_67 rfl (lv_at hl 1 rfl) ?_
    refine lv_iload_n hx hb dX5_ragged_68 rfl (lv_at hl 2 rfl) ?_
    refine lv_iload_n hx hb dX5_ragged_69 rfl (lv_at hl 3 rfl) ?_
    obtain ⟨x_7, hc_6, h⟩ := bnd_s h
    refine kV (As := [.int x1, .int x2]) (rest := [.ref (sb 25)]) (stk := [.int x_7, .ref (sb 25)]) (val := (some (.int x_7))) (c1 := 0) (s1 := 0) C0 M (k_X5_slotOf hc_6) kw_19_23 Y_X5_slotOf (rv_X5 C0 M) ⟨Nat.le_of_ble_eq_true rfl, Nat.le_of_ble_eq_true rfl⟩ rfl hl.1 rfl (Nat.le_of_ble_eq_true rfl) dX5_ragged_70 rfl rfl ⟨Nat.le_refl _, Nat.le_refl _⟩ rfl (fun H locs M => ?_)
    refine lv_aload_n hx hb dX5_ragged_73 rfl (lv_at hl 1 rfl) ?_
    refine lv_iload_n hx hb dX5_ragged_74 rfl (lv_at hl 4 rfl) ?_
    obtain ⟨⟨x_9, g_10⟩, hc_8, h⟩ := bnd_s h
    try dsimp only at h
    refine kV (As := [.int x3]) (rest := [.int x_7, .ref (sb 25)]) (stk := [.int x_9, .int x_7, .ref (sb 25)]) (val := (some (.int x_9))) (c1 := 0) (s1 := 0) C0 M (k_X5_newRow hc_8) kw_12_22 Y_X5_newRow (rv_X5 C0 M) ⟨Nat.le_of_ble_eq_true rfl, Nat.le_of_ble_eq_true rfl⟩ rfl hl.1 rfl (Nat.le_of_ble_eq_true rfl) dX5_ragged_75 rfl rfl ⟨Nat.le_refl _, Nat.le_refl _⟩ rfl (fun H locs M => ?_)
    obtain ⟨hi_11, h⟩ := chk_s h
    obtain ⟨g_12, hg_13, h⟩ := lett_s h
    refine as_Mslot C0 M hi_11 hg_13 dX5_ragged_78 (fun H locs M => ?_)
    refine lv_aload_n hx hb dX5_ragged_79 rfl (lv_at hl 1 rfl) ?_
    refine lv_iconst (v := 1) hx hb dX5_ragged_80 (by decide) ?_
    obtain ⟨⟨x_15, g_16⟩, hc_14, h⟩ := bnd_s h
    try dsimp only at h
    refine kV (As := [.int (1 : Int32)]) (rest := []) (stk := [.int x_15]) (val := (some (.int x_15))) (c1 := 0) (s1 := 0) C0 M (k_X5_yes hc_14) kw_6_12 Y_X5_yes (rv_X5 C0 M) ⟨Nat.le_of_ble_eq_true rfl, Nat.le_of_ble_eq_true rfl⟩ rfl hl.1 rfl (Nat.le_of_ble_eq_true rfl) dX5_ragged_81 rfl rfl ⟨Nat.le_refl _, Nat.le_refl _⟩ rfl (fun H locs M => ?_)
    obtain rfl := Option.some.inj h
    exact rt_i C0 M hr hk dX5_ragged_84
  · rw [if_neg c_5] at h
    refine lv_aload_n hx hb dX5_ragged_56 rfl (lv_at hl 1 rfl) ?_
    refine lv_iload hx hb dX5_ragged_57 (lv_at hl 0 rfl) ?_
    obtain ⟨⟨x_18, g_19⟩, hc_17, h⟩ := bnd_s h
    try dsimp only at h
    refine kV (As := [.int xs0]) (rest := []) (stk := [.int x_18]) (val := (some (.int x_18))) (c1 := 0) (s1 := 0) C0 M (k_X5_no hc_17) kw_6_8 Y_X5_no (rv_X5 C0 M) ⟨Nat.le_of_ble_eq_true rfl, Nat.le_of_ble_eq_true rfl⟩ rfl hl.1 rfl (Nat.le_of_ble_eq_true rfl) dX5_ragged_59 rfl rfl ⟨Nat.le_refl _, Nat.le_refl _⟩ rfl (fun H locs M => ?_)
    obtain rfl := Option.some.inj h
    exact rt_i C0 M hr hk dX5_ragged_62
set_option maxHeartbeats 4000000 in
set_option maxRecDepth 100000 in
theorem w_X5_ragged {x1 : Int32} {x2 : Int32} {x3 : Int32} (C0 : Cx p s m args c cX5_ragged 5 RX5 D cy) (hr : meth.sig.returnType = (some .int)) (hk : meth.locks = false) {res : Int32 × Gs} (hl : lv_has ls 5 [(0, .ref (sb 13)), (1, .int x1), (2, .int x2), (3, .int x3)]) (M : Ws D b0 cy sb db g s H locs) (h : m_X5_ragged x1 x2 x3 g = some res) : W p l e ({ frames := 3, cells := 0, slots := 0, locals := 68 } : Room) s m args below meth c H locs 0 0 (MQ below (QX (some (.int res.1)) D b0 cy sb db res.2) args s 0 0 (fun q => b0 ≤ q)) (F0 m 0 ls []) := by
  obtain ⟨hx, hb, hml, hown, hts, hK⟩ := id C0
  rw [m_X5_ragged] at h
  refine lv_aload_n hx hb dX5_ragged_0 rfl (lv_at hl 0 rfl) ?_
  refine lv_iload_n hx hb dX5_ragged_1 rfl (lv_at hl 1 rfl) ?_
  refine lv_iload_n hx hb dX5_ragged_2 rfl (lv_at hl 2 rfl) ?_
  obtain ⟨x_2, hc_1, h⟩ := bnd_s h
  refine kV (As := [.int x1, .int x2]) (rest := []) (stk := [.int x_2]) (val := (some (.int x_2))) (c1 := 0) (s1 := 0) C0 M (k_X5_wantsRow hc_1) kw_19_19 Y_X5_wantsRow (rv_X5 C0 M) ⟨Nat.le_of_ble_eq_true rfl, Nat.le_of_ble_eq_true rfl⟩ rfl hl.1 rfl (Nat.le_of_ble_eq_true rfl) dX5_ragged_3 rfl rfl ⟨Nat.le_refl _, Nat.le_refl _⟩ rfl (fun H locs M => ?_)
  refine lv_istore (lv' := [(4, .int x_2), (0, .ref (sb 13)), (1, .int x1), (2, .int x2), (3, .int x3)]) hx hb dX5_ragged_6 hl (by decide) rfl (fun ls hl => ?_)
  refine lv_iload hx hb dX5_ragged_8 (lv_at hl 0 rfl) ?_
  refine lv_iconst (v := 3) hx hb dX5_ragged_10 (by decide) ?_
  refine lv_icmp_ne (tgt := 20) hx hb dX5_ragged_11 (by decide) (fun c_3 => ?_) (fun c_3 => ?_)
  · rw [if_neg c_3] at h
    refine lv_iload hx hb dX5_ragged_20 (lv_at hl 0 rfl) ?_
    refine lv_if_ne (tgt := 47) hx hb dX5_ragged_22 (by decide) (fun c_4 => ?_) (fun c_4 => ?_)
    · rw [if_neg c_4] at h
      refine lv_iload hx hb dX5_ragged_47 (lv_at hl 0 rfl) ?_
      exact w_X5_ragged_J49 C0 hr hk (lv_sub hl [1, 2, 3, 4] rfl) M h
    · rw [if_pos c_4] at h
      refine lv_iload_n hx hb dX5_ragged_25 rfl (lv_at hl 4 rfl) ?_
      refine lv_if_ge (tgt := 33) hx hb dX5_ragged_26 (by decide) (fun c_20 => ?_) (fun c_20 => ?_)
      · rw [if_pos c_20] at h
        refine lv_iload_n hx hb dX5_ragged_33 rfl (lv_at hl 4 rfl) ?_
        refine lv_bipush (v := 100) hx hb dX5_ragged_34 (by decide) ?_
        refine lv_icmp_le (tgt := 43) hx hb dX5_ragged_36 (by decide) (fun c_21 => ?_) (fun c_21 => ?_)
        · rw [if_pos c_21] at h
          refine lv_iconst (v := 0) hx hb dX5_ragged_43 (by decide) ?_
          refine lv_goto (tgt := 49) hx hb dX5_ragged_44 (by decide) ?_
          exact w_X5_ragged_J49 C0 hr hk (lv_sub hl [1, 2, 3, 4] rfl) M h
        · rw [if_neg c_21] at h
          refine lv_iconst (v := 5) hx hb dX5_ragged_39 (by decide) ?_
          refine lv_goto (tgt := 49) hx hb dX5_ragged_40 (by decide) ?_
          exact w_X5_ragged_J49 C0 hr hk (lv_sub hl [1, 2, 3, 4] rfl) M h
      · rw [if_neg c_20] at h
        refine lv_iconst (v := 4) hx hb dX5_ragged_29 (by decide) ?_
        refine lv_goto (tgt := 49) hx hb dX5_ragged_30 (by decide) ?_
        exact w_X5_ragged_J49 C0 hr hk (lv_sub hl [1, 2, 3, 4] rfl) M h
  · rw [if_pos c_3] at h
    refine lv_aload_n hx hb dX5_ragged_14 rfl (lv_at hl 1 rfl) ?_
    refine lv_iconst (v := 0) hx hb dX5_ragged_15 (by decide) ?_
    obtain ⟨⟨x_23, g_24⟩, hc_22, h⟩ := bnd_s h
    try dsimp only at h
    refine kV (As := [.int (0 : Int32)]) (rest := []) (stk := [.int x_23]) (val := (some (.int x_23))) (c1 := 0) (s1 := 0) C0 M (k_X5_noItem hc_22) kw_17_21 Y_X5_noItem (rv_X5 C0 M) ⟨Nat.le_of_ble_eq_true rfl, Nat.le_of_ble_eq_true rfl⟩ rfl hl.1 rfl (Nat.le_of_ble_eq_true rfl) dX5_ragged_16 rfl rfl ⟨Nat.le_refl _, Nat.le_refl _⟩ rfl (fun H locs M => ?_)
    obtain rfl := Option.some.inj h
    exact rt_i C0 M hr hk dX5_ragged_19
theorem k_X5_ragged {x1 : Int32} {x2 : Int32} {x3 : Int32} {res : Int32 × Gs} (h : m_X5_ragged x1 x2 x3 g = some res) : CM l yX5_ragged cX5_ragged 5 (some .int) ({ frames := 3, cells := 0, slots := 0, locals := 68 } : Room) [.ref (sb 13), .int x1, .int x2, .int x3] (some (.int res.1)) D b0 cy sb db g res.2 := by
  refine Met.ofW (cc := cX5_ragged) (maxL := 5) (ret := (some .int)) (by decide) rfl ?_
  intro p e s m args below meth c s₁ B hml hv
  obtain ⟨rfl, hW, hK⟩ := hv
  have hl := lv_entry [.ref (sb 13), .int x1, .int x2, .int x3] (n := 5) (Nat.le_of_ble_eq_true rfl)
  rw [lg_entry_eq]
  generalize (lg_sl [.ref (sb 13), .int x1, .int x2, .int x3] ++ List.replicate (5 - (lg_sl [.ref (sb 13), .int x1, .int x2, .int x3]).length) Slot.unset).toArray = ls at hl ⊢
  have hl : lv_has ls 5 [(0, .ref (sb 13)), (1, .int x1), (2, .int x2), (3, .int x3)] := hl
  exact w_X5_ragged ⟨B.exec, B.bytes, hml, findClass_of_methodNamed B.named, fun w hw => atoms_spec (ws := Cond.code yX5_ragged cX5_ragged 5 (some .int) :: wsL_law) B.pre w (List.mem_cons_of_mem _ hw), hK⟩ B.returns B.notSynchronized hl ⟨hW, va_S.rf⟩ h
theorem Y_X5_ragged : Yv yX5_ragged RX5 cX5_ragged 5 (some .int) 3 := ⟨⟨kw_19_18, kw_1_5, by decide +kernel, by decide +kernel, by decide +kernel⟩, kw_19_16, kw_19_17⟩
-- X5_without
def m_X5_without (x1 : Int32) (x2 : Int32) (g : Gs) : Option (Int32 × Gs) :=
  (m_X5_wantsRow x1 x2 g).bind fun x_2 => if x_2 = (3 : Int32) then ((m_X5_noItem (0 : Int32) g).bind fun (x_17, g_18) => some (x_17, g_18)) else (if x_2 = 0 then ((m_X5_slotOf x1 x2 g).bind fun x_6 => chk (inb x_6 12100) (lett (sI g 38 0 x_6.toNatClampNeg (-1 : Int32)) fun g_8 => (m_X5_yes (1 : Int32) g_8).bind fun (x_11, g_12) => some (x_11, g_12))) else ((m_X5_no x_2 g).bind fun (x_14, g_15) => some (x_14, g_15)))
set_option maxHeartbeats 4000000 in
set_option maxRecDepth 100000 in
theorem w_X5_without {x1 : Int32} {x2 : Int32} (C0 : Cx p s m args c cX5_without 4 RX5 D cy) (hr : meth.sig.returnType = (some .int)) (hk : meth.locks = false) {res : Int32 × Gs} (hl : lv_has ls 4 [(0, .ref (sb 13)), (1, .int x1), (2, .int x2)]) (M : Ws D b0 cy sb db g s H locs) (h : m_X5_without x1 x2 g = some res) : W p l e ({ frames := 3, cells := 0, slots := 0, locals := 68 } : Room) s m args below meth c H locs 0 0 (MQ below (QX (some (.int res.1)) D b0 cy sb db res.2) args s 0 0 (fun q => b0 ≤ q)) (F0 m 0 ls []) := by
  obtain ⟨hx, hb, hml, hown, hts, hK⟩ := id C0
  rw [m_X5_without] at h
  refine lv_aload_n hx hb dX5_without_0 rfl (lv_at hl 0 rfl) ?_
  refine lv_iload_n hx hb dX5_without_1 rfl (lv_at hl 1 rfl) ?_
  refine lv_iload_n hx hb dX5_without_2 rfl (lv_at hl 2 rfl) ?_
  obtain ⟨x_2, hc_1, h⟩ := bnd_s h
  refine kV (As := [.int x1, .int x2]) (rest := []) (stk := [.int x_2]) (val := (some (.int x_2))) (c1 := 0) (s1 := 0) C0 M (k_X5_wantsRow hc_1) kw_19_19 Y_X5_wantsRow (rv_X5 C0 M) ⟨Nat.le_of_ble_eq_true rfl, Nat.le_of_ble_eq_true rfl⟩ rfl hl.1 rfl (Nat.le_of_ble_eq_true rfl) dX5_without_3 rfl rfl ⟨Nat.le_refl _, Nat.le_refl _⟩ rfl (fun H locs M => ?_)
  refine lv_istore_n (lv' := [(3, .int x_2), (0, .ref (sb 13)), (1, .int x1), (2, .int x2)]) hx hb dX5_without_6 rfl hl (by decide) rfl (fun ls hl => ?_)
  refine lv_iload_n hx hb dX5_without_7 rfl (lv_at hl 0 rfl) ?_
  refine lv_iconst (v := 3) hx hb dX5_without_8 (by decide) ?_
  refine lv_icmp_ne (tgt := 18) hx hb dX5_without_9 (by decide) (fun c_3 => ?_) (fun c_3 => ?_)
  · rw [if_neg c_3] at h
    refine lv_iload_n hx hb dX5_without_18 rfl (lv_at hl 0 rfl) ?_
    refine lv_if_eq (tgt := 28) hx hb dX5_without_19 (by decide) (fun c_4 => ?_) (fun c_4 => ?_)
    · rw [if_pos c_4] at h
      refine lv_aload_n hx hb dX5_without_28 rfl (lv_at hl 1 rfl) ?_
      refine gf_RX5_50 C0 M dX5_without_29 ?_
      refine lv_aload_n hx hb dX5_without_32 rfl (lv_at hl 1 rfl) ?_
      refine lv_iload_n hx hb dX5_without_33 rfl (lv_at hl 2 rfl) ?_
      refine lv_iload_n hx hb dX5_without_34 rfl (lv_at hl 3 rfl) ?_
      obtain ⟨x_6, hc_5, h⟩ := bnd_s h
      refine kV (As := [.int x1, .int x2]) (rest := [.ref (sb 25)]) (stk := [.int x_6, .ref (sb 25)]) (val := (some (.int x_6))) (c1 := 0) (s1 := 0) C0 M (k_X5_slotOf hc_5) kw_19_23 Y_X5_slotOf (rv_X5 C0 M) ⟨Nat.le_of_ble_eq_true rfl, Nat.le_of_ble_eq_true rfl⟩ rfl hl.1 rfl (Nat.le_of_ble_eq_true rfl) dX5_without_35 rfl rfl ⟨Nat.le_refl _, Nat.le_refl _⟩ rfl (fun H locs M => ?_)
      refine lv_iconst (v := -1) hx hb dX5_without_38 (by decide) ?_
      obtain ⟨hi_7, h⟩ := chk_s h
      obtain ⟨g_8, hg_9, h⟩ := lett_s h
      refine as_Mslot C0 M hi_7 hg_9 dX5_without_39 (fun H locs M => ?_)
      refine lv_aload_n hx hb dX5_without_40 rfl (lv_at hl 1 rfl) ?_
      refine lv_iconst (v := 1) hx hb dX5_without_41 (by decide) ?_
      obtain ⟨⟨x_11, g_12⟩, hc_10, h⟩ := bnd_s h
      try dsimp only at h
      refine kV (As := [.int (1 : Int32)]) (rest := []) (stk := [.int x_11]) (val := (some (.int x_11))) (c1 := 0) (s1 := 0) C0 M (k_X5_yes hc_10) kw_6_12 Y_X5_yes (rv_X5 C0 M) ⟨Nat.le_of_ble_eq_true rfl, Nat.le_of_ble_eq_true rfl⟩ rfl hl.1 rfl (Nat.le_of_ble_eq_true rfl) dX5_without_42 rfl rfl ⟨Nat.le_refl _, Nat.le_refl _⟩ rfl (fun H locs M => ?_)
      obtain rfl := Option.some.inj h
      exact rt_i C0 M hr hk dX5_without_45
    · rw [if_neg c_4] at h
      refine lv_aload_n hx hb dX5_without_22 rfl (lv_at hl 1 rfl) ?_
      refine lv_iload_n hx hb dX5_without_23 rfl (lv_at hl 0 rfl) ?_
      obtain ⟨⟨x_14, g_15⟩, hc_13, h⟩ := bnd_s h
      try dsimp only at h
      refine kV (As := [.int x_2]) (rest := []) (stk := [.int x_14]) (val := (some (.int x_14))) (c1 := 0) (s1 := 0) C0 M (k_X5_no hc_13) kw_6_8 Y_X5_no (rv_X5 C0 M) ⟨Nat.le_of_ble_eq_true rfl, Nat.le_of_ble_eq_true rfl⟩ rfl hl.1 rfl (Nat.le_of_ble_eq_true rfl) dX5_without_24 rfl rfl ⟨Nat.le_refl _, Nat.le_refl _⟩ rfl (fun H locs M => ?_)
      obtain rfl := Option.some.inj h
      exact rt_i C0 M hr hk dX5_without_27
  · rw [if_pos c_3] at h
    refine lv_aload_n hx hb dX5_without_12 rfl (lv_at hl 1 rfl) ?_
    refine lv_iconst (v := 0) hx hb dX5_without_13 (by decide) ?_
    obtain ⟨⟨x_17, g_18⟩, hc_16, h⟩ := bnd_s h
    try dsimp only at h
    refine kV (As := [.int (0 : Int32)]) (rest := []) (stk := [.int x_17]) (val := (some (.int x_17))) (c1 := 0) (s1 := 0) C0 M (k_X5_noItem hc_16) kw_17_21 Y_X5_noItem (rv_X5 C0 M) ⟨Nat.le_of_ble_eq_true rfl, Nat.le_of_ble_eq_true rfl⟩ rfl hl.1 rfl (Nat.le_of_ble_eq_true rfl) dX5_without_14 rfl rfl ⟨Nat.le_refl _, Nat.le_refl _⟩ rfl (fun H locs M => ?_)
    obtain rfl := Option.some.inj h
    exact rt_i C0 M hr hk dX5_without_17
theorem k_X5_without {x1 : Int32} {x2 : Int32} {res : Int32 × Gs} (h : m_X5_without x1 x2 g = some res) : CM l yX5_without cX5_without 4 (some .int) ({ frames := 3, cells := 0, slots := 0, locals := 68 } : Room) [.ref (sb 13), .int x1, .int x2] (some (.int res.1)) D b0 cy sb db g res.2 := by
  refine Met.ofW (cc := cX5_without) (maxL := 4) (ret := (some .int)) (by decide) rfl ?_
  intro p e s m args below meth c s₁ B hml hv
  obtain ⟨rfl, hW, hK⟩ := hv
  have hl := lv_entry [.ref (sb 13), .int x1, .int x2] (n := 4) (Nat.le_of_ble_eq_true rfl)
  rw [lg_entry_eq]
  generalize (lg_sl [.ref (sb 13), .int x1, .int x2] ++ List.replicate (4 - (lg_sl [.ref (sb 13), .int x1, .int x2]).length) Slot.unset).toArray = ls at hl ⊢
  have hl : lv_has ls 4 [(0, .ref (sb 13)), (1, .int x1), (2, .int x2)] := hl
  exact w_X5_without ⟨B.exec, B.bytes, hml, findClass_of_methodNamed B.named, fun w hw => atoms_spec (ws := Cond.code yX5_without cX5_without 4 (some .int) :: wsL_law) B.pre w (List.mem_cons_of_mem _ hw), hK⟩ B.returns B.notSynchronized hl ⟨hW, va_S.rf⟩ h
theorem Y_X5_without : Yv yX5_without RX5 cX5_without 4 (some .int) 2 := ⟨⟨kw_20_10, kw_1_5, by decide +kernel, by decide +kernel, by decide +kernel⟩, kw_20_8, kw_20_9⟩
-- X5_tie
def m_X5_tie_J16  (g : Gs) : Option (Int32 × Gs) :=
  (m_X5_no (7 : Int32) g).bind fun (x_5, g_6) => some (x_5, g_6)
def m_X5_tie_J43  (g : Gs) : Option (Int32 × Gs) :=
  (m_X5_no (2 : Int32) g).bind fun (x_13, g_14) => some (x_13, g_14)
def m_X5_tie (x1 : Int32) (x2 : Int32) (x3 : Int32) (x4 : Int32) (g : Gs) : Option (Int32 × Gs) :=
  (m_X5_isArray x1 g).bind fun x_2 => if x_2 = 0 then (m_X5_tie_J16  g) else ((m_X5_isArray x3 g).bind fun x_8 => if x_8 = 0 then (m_X5_tie_J16  g) else (chk (inb x1 24) (if (g.1 26 0 x1.toNatClampNeg) = (4 : Int32) then (chk (inb x3 24) (if (g.1 26 0 x3.toNatClampNeg) = (4 : Int32) then ((m_X5_wantsRow x1 x2 g).bind fun x_18 => if x_18 = 0 then ((m_X5_wantsRow x3 x4 g).bind fun x_21 => if x_21 = 0 then ((m_X5_slotOf x1 x2 g).bind fun x_24 => (m_X5_slotOf x3 x4 g).bind fun x_26 => chk (inb x_26 12100) (chk (inb x_24 12100) (lett (sI g 38 0 x_24.toNatClampNeg (g.1 38 0 x_26.toNatClampNeg)) fun g_29 => (m_X5_yes (1 : Int32) g_29).bind fun (x_32, g_33) => some (x_32, g_33)))) else ((m_X5_noItem (1 : Int32) g).bind fun (x_35, g_36) => some (x_35, g_36))) else ((m_X5_noItem (0 : Int32) g).bind fun (x_38, g_39) => some (x_38, g_39))) else (m_X5_tie_J43  g))) else (m_X5_tie_J43  g))))
set_option maxHeartbeats 4000000 in
set_option maxRecDepth 100000 in
theorem w_X5_tie_J16  (C0 : Cx p s m args c cX5_tie 5 RX5 D cy) (hr : meth.sig.returnType = (some .int)) (hk : meth.locks = false) {res : Int32 × Gs} (hl : lv_has ls 5 [(0, .ref (sb 13))]) (M : Ws D b0 cy sb db g s H locs) (h : m_X5_tie_J16  g = some res) : W p l e ({ frames := 3, cells := 0, slots := 0, locals := 68 } : Room) s m args below meth c H locs 0 0 (MQ below (QX (some (.int res.1)) D b0 cy sb db res.2) args s 0 0 (fun q => b0 ≤ q)) (F0 m 16 ls []) := by
  obtain ⟨hx, hb, hml, hown, hts, hK⟩ := id C0
  rw [m_X5_tie_J16] at h
  refine lv_aload_n hx hb dX5_tie_16 rfl (lv_at hl 0 rfl) ?_
  refine lv_bipush (v := 7) hx hb dX5_tie_17 (by decide) ?_
  obtain ⟨⟨x_5, g_6⟩, hc_4, h⟩ := bnd_s h
  try dsimp only at h
  refine kV (As := [.int (7 : Int32)]) (rest := []) (stk := [.int x_5]) (val := (some (.int x_5))) (c1 := 0) (s1 := 0) C0 M (k_X5_no hc_4) kw_6_8 Y_X5_no (rv_X5 C0 M) ⟨Nat.le_of_ble_eq_true rfl, Nat.le_of_ble_eq_true rfl⟩ rfl hl.1 rfl (Nat.le_of_ble_eq_true rfl) dX5_tie_19 rfl rfl ⟨Nat.le_refl _, Nat.le_refl _⟩ rfl (fun H locs M => ?_)
  obtain rfl := Option.some.inj h
  exact rt_i C0 M hr hk dX5_tie_22
set_option maxHeartbeats 4000000 in
set_option maxRecDepth 100000 in
theorem w_X5_tie_J43  (C0 : Cx p s m args c cX5_tie 5 RX5 D cy) (hr : meth.sig.returnType = (some .int)) (hk : meth.locks = false) {res : Int32 × Gs} (hl : lv_has ls 5 [(0, .ref (sb 13))]) (M : Ws D b0 cy sb db g s H locs) (h : m_X5_tie_J43  g = some res) : W p l e ({ frames := 3, cells := 0, slots := 0, locals := 68 } : Room) s m args below meth c H locs 0 0 (MQ below (QX (some (.int res.1)) D b0 cy sb db res.2) args s 0 0 (fun q => b0 ≤ q)) (F0 m 43 ls []) := by
  obtain ⟨hx, hb, hml, hown, hts, hK⟩ := id C0
  rw [m_X5_tie_J43] at h
  refine lv_aload_n hx hb dX5_tie_43 rfl (lv_at hl 0 rfl) ?_
  refine lv_iconst (v := 2) hx hb dX5_tie_44 (by decide) ?_
  obtain ⟨⟨x_13, g_14⟩, hc_12, h⟩ := bnd_s h
  try dsimp only at h
  refine kV (As := [.int (2 : Int32)]) (rest := []) (stk := [.int x_13]) (val := (some (.int x_13))) (c1 := 0) (s1 := 0) C0 M (k_X5_no hc_12) kw_6_8 Y_X5_no (rv_X5 C0 M) ⟨Nat.le_of_ble_eq_true rfl, Nat.le_of_ble_eq_true rfl⟩ rfl hl.1 rfl (Nat.le_of_ble_eq_true rfl) dX5_tie_45 rfl rfl ⟨Nat.le_refl _, Nat.le_refl _⟩ rfl (fun H locs M => ?_)
  obtain rfl := Option.some.inj h
  exact rt_i C0 M hr hk dX5_tie_48
set_option maxHeartbeats 4000000 in
set_option maxRecDepth 100000 in
theorem w_X5_tie {x1 : Int32} {x2 : Int32} {x3 : Int32} {x4 : Int32} (C0 : Cx p s m args c cX5_tie 5 RX5 D cy) (hr : meth.sig.returnType = (some .int)) (hk : meth.locks = false) {res : Int32 × Gs} (hl : lv_has ls 5 [(0, .ref (sb 13)), (1, .int x1), (2, .int x2), (3, .int x3), (4, .int x4)]) (M : Ws D b0 cy sb db g s H locs) (h : m_X5_tie x1 x2 x3 x4 g = some res) : W p l e ({ frames := 3, cells := 0, slots := 0, locals := 68 } : Room) s m args below meth c H locs 0 0 (MQ below (QX (some (.int res.1)) D b0 cy sb db res.2) args s 0 0 (fun q => b0 ≤ q)) (F0 m 0 ls []) := by
  obtain ⟨hx, hb, hml, hown, hts, hK⟩ := id C0
  rw [m_X5_tie] at h
  refine lv_aload_n hx hb dX5_tie_0 rfl (lv_at hl 0 rfl) ?_
  refine lv_iload_n hx hb dX5_tie_1 rfl (lv_at hl 1 rfl) ?_
  obtain ⟨x_2, hc_1, h⟩ := bnd_s h
  refine kV (As := [.int x1]) (rest := []) (stk := [.int x_2]) (val := (some (.int x_2))) (c1 := 0) (s1 := 0) C0 M (k_X5_isArray hc_1) kw_14_13 Y_X5_isArray (rv_X5 C0 M) ⟨Nat.le_of_ble_eq_true rfl, Nat.le_of_ble_eq_true rfl⟩ rfl hl.1 rfl (Nat.le_of_ble_eq_true rfl) dX5_tie_2 rfl rfl ⟨Nat.le_refl _, Nat.le_refl _⟩ rfl (fun H locs M => ?_)
  refine lv_if_eq (tgt := 16) hx hb dX5_tie_5 (by decide) (fun c_3 => ?_) (fun c_3 => ?_)
  · rw [if_pos c_3] at h
    exact w_X5_tie_J16 C0 hr hk (lv_sub hl [0] rfl) M h
  · rw [if_neg c_3] at h
    refine lv_aload_n hx hb dX5_tie_8 rfl (lv_at hl 0 rfl) ?_
    refine lv_iload_n hx hb dX5_tie_9 rfl (lv_at hl 3 rfl) ?_
    obtain ⟨x_8, hc_7, h⟩ := bnd_s h
    refine kV (As := [.int x3]) (rest := []) (stk := [.int x_8]) (val := (some (.int x_8))) (c1 := 0) (s1 := 0) C0 M (k_X5_isArray hc_7) kw_14_13 Y_X5_isArray (rv_X5 C0 M) ⟨Nat.le_of_ble_eq_true rfl, Nat.le_of_ble_eq_true rfl⟩ rfl hl.1 rfl (Nat.le_of_ble_eq_true rfl) dX5_tie_10 rfl rfl ⟨Nat.le_refl _, Nat.le_refl _⟩ rfl (fun H locs M => ?_)
    refine lv_if_ne (tgt := 23) hx hb dX5_tie_13 (by decide) (fun c_9 => ?_) (fun c_9 => ?_)
    · rw [if_neg c_9] at h
      refine lv_aload_n hx hb dX5_tie_23 rfl (lv_at hl 0 rfl) ?_
      refine gf_RX5_20 C0 M dX5_tie_24 ?_
      refine lv_iload_n hx hb dX5_tie_27 rfl (lv_at hl 1 rfl) ?_
      obtain ⟨hi_10, h⟩ := chk_s h
      refine al_Mkinds C0 M hi_10 dX5_tie_28 ?_
      refine lv_iconst (v := 4) hx hb dX5_tie_29 (by decide) ?_
      refine lv_icmp_ne (tgt := 43) hx hb dX5_tie_30 (by decide) (fun c_11 => ?_) (fun c_11 => ?_)
      · rw [if_neg c_11] at h
        exact w_X5_tie_J43 C0 hr hk (lv_sub hl [0] rfl) M h
      · rw [if_pos c_11] at h
        refine lv_aload_n hx hb dX5_tie_33 rfl (lv_at hl 0 rfl) ?_
        refine gf_RX5_20 C0 M dX5_tie_34 ?_
        refine lv_iload_n hx hb dX5_tie_37 rfl (lv_at hl 3 rfl) ?_
        obtain ⟨hi_15, h⟩ := chk_s h
        refine al_Mkinds C0 M hi_15 dX5_tie_38 ?_
        refine lv_iconst (v := 4) hx hb dX5_tie_39 (by decide) ?_
        refine lv_icmp_eq (tgt := 49) hx hb dX5_tie_40 (by decide) (fun c_16 => ?_) (fun c_16 => ?_)
        · rw [if_pos c_16] at h
          refine lv_aload_n hx hb dX5_tie_49 rfl (lv_at hl 0 rfl) ?_
          refine lv_iload_n hx hb dX5_tie_50 rfl (lv_at hl 1 rfl) ?_
          refine lv_iload_n hx hb dX5_tie_51 rfl (lv_at hl 2 rfl) ?_
          obtain ⟨x_18, hc_17, h⟩ := bnd_s h
          refine kV (As := [.int x1, .int x2]) (rest := []) (stk := [.int x_18]) (val := (some (.int x_18))) (c1 := 0) (s1 := 0) C0 M (k_X5_wantsRow hc_17) kw_19_19 Y_X5_wantsRow (rv_X5 C0 M) ⟨Nat.le_of_ble_eq_true rfl, Nat.le_of_ble_eq_true rfl⟩ rfl hl.1 rfl (Nat.le_of_ble_eq_true rfl) dX5_tie_52 rfl rfl ⟨Nat.le_refl _, Nat.le_refl _⟩ rfl (fun H locs M => ?_)
          refine lv_if_eq (tgt := 64) hx hb dX5_tie_55 (by decide) (fun c_19 => ?_) (fun c_19 => ?_)
          · rw [if_pos c_19] at h
            refine lv_aload_n hx hb dX5_tie_64 rfl (lv_at hl 0 rfl) ?_
            refine lv_iload_n hx hb dX5_tie_65 rfl (lv_at hl 3 rfl) ?_
            refine lv_iload hx hb dX5_tie_66 (lv_at hl 4 rfl) ?_
            obtain ⟨x_21, hc_20, h⟩ := bnd_s h
            refine kV (As := [.int x3, .int x4]) (rest := []) (stk := [.int x_21]) (val := (some (.int x_21))) (c1 := 0) (s1 := 0) C0 M (k_X5_wantsRow hc_20) kw_19_19 Y_X5_wantsRow (rv_X5 C0 M) ⟨Nat.le_of_ble_eq_true rfl, Nat.le_of_ble_eq_true rfl⟩ rfl hl.1 rfl (Nat.le_of_ble_eq_true rfl) dX5_tie_68 rfl rfl ⟨Nat.le_refl _, Nat.le_refl _⟩ rfl (fun H locs M => ?_)
            refine lv_if_eq (tgt := 80) hx hb dX5_tie_71 (by decide) (fun c_22 => ?_) (fun c_22 => ?_)
            · rw [if_pos c_22] at h
              refine lv_aload_n hx hb dX5_tie_80 rfl (lv_at hl 0 rfl) ?_
              refine gf_RX5_50 C0 M dX5_tie_81 ?_
              refine lv_aload_n hx hb dX5_tie_84 rfl (lv_at hl 0 rfl) ?_
              refine lv_iload_n hx hb dX5_tie_85 rfl (lv_at hl 1 rfl) ?_
              refine lv_iload_n hx hb dX5_tie_86 rfl (lv_at hl 2 rfl) ?_
              obtain ⟨x_24, hc_23, h⟩ := bnd_s h
              refine kV (As := [.int x1, .int x2]) (rest := [.ref (sb 25)]) (stk := [.int x_24, .ref (sb 25)]) (val := (some (.int x_24))) (c1 := 0) (s1 := 0) C0 M (k_X5_slotOf hc_23) kw_19_23 Y_X5_slotOf (rv_X5 C0 M) ⟨Nat.le_of_ble_eq_true rfl, Nat.le_of_ble_eq_true rfl⟩ rfl hl.1 rfl (Nat.le_of_ble_eq_true rfl) dX5_tie_87 rfl rfl ⟨Nat.le_refl _, Nat.le_refl _⟩ rfl (fun H locs M => ?_)
              refine lv_aload_n hx hb dX5_tie_90 rfl (lv_at hl 0 rfl) ?_
              refine gf_RX5_50 C0 M dX5_tie_91 ?_
              refine lv_aload_n hx hb dX5_tie_94 rfl (lv_at hl 0 rfl) ?_
              refine lv_iload_n hx hb dX5_tie_95 rfl (lv_at hl 3 rfl) ?_
              refine lv_iload hx hb dX5_tie_96 (lv_at hl 4 rfl) ?_
              obtain ⟨x_26, hc_25, h⟩ := bnd_s h
              refine kV (As := [.int x3, .int x4]) (rest := [.ref (sb 25), .int x_24, .ref (sb 25)]) (stk := [.int x_26, .ref (sb 25), .int x_24, .ref (sb 25)]) (val := (some (.int x_26))) (c1 := 0) (s1 := 0) C0 M (k_X5_slotOf hc_25) kw_19_23 Y_X5_slotOf (rv_X5 C0 M) ⟨Nat.le_of_ble_eq_true rfl, Nat.le_of_ble_eq_true rfl⟩ rfl hl.1 rfl (Nat.le_of_ble_eq_true rfl) dX5_tie_98 rfl rfl ⟨Nat.le_refl _, Nat.le_refl _⟩ rfl (fun H locs M => ?_)
              obtain ⟨hi_27, h⟩ := chk_s h
              refine al_Mslot C0 M hi_27 dX5_tie_101 ?_
              obtain ⟨hi_28, h⟩ := chk_s h
              obtain ⟨g_29, hg_30, h⟩ := lett_s h
              refine as_Mslot C0 M hi_28 hg_30 dX5_tie_102 (fun H locs M => ?_)
              refine lv_aload_n hx hb dX5_tie_103 rfl (lv_at hl 0 rfl) ?_
              refine lv_iconst (v := 1) hx hb dX5_tie_104 (by decide) ?_
              obtain ⟨⟨x_32, g_33⟩, hc_31, h⟩ := bnd_s h
              try dsimp only at h
              refine kV (As := [.int (1 : Int32)]) (rest := []) (stk := [.int x_32]) (val := (some (.int x_32))) (c1 := 0) (s1 := 0) C0 M (k_X5_yes hc_31) kw_6_12 Y_X5_yes (rv_X5 C0 M) ⟨Nat.le_of_ble_eq_true rfl, Nat.le_of_ble_eq_true rfl⟩ rfl hl.1 rfl (Nat.le_of_ble_eq_true rfl) dX5_tie_105 rfl rfl ⟨Nat.le_refl _, Nat.le_refl _⟩ rfl (fun H locs M => ?_)
              obtain rfl := Option.some.inj h
              exact rt_i C0 M hr hk dX5_tie_108
            · rw [if_neg c_22] at h
              refine lv_aload_n hx hb dX5_tie_74 rfl (lv_at hl 0 rfl) ?_
              refine lv_iconst (v := 1) hx hb dX5_tie_75 (by decide) ?_
              obtain ⟨⟨x_35, g_36⟩, hc_34, h⟩ := bnd_s h
              try dsimp only at h
              refine kV (As := [.int (1 : Int32)]) (rest := []) (stk := [.int x_35]) (val := (some (.int x_35))) (c1 := 0) (s1 := 0) C0 M (k_X5_noItem hc_34) kw_17_21 Y_X5_noItem (rv_X5 C0 M) ⟨Nat.le_of_ble_eq_true rfl, Nat.le_of_ble_eq_true rfl⟩ rfl hl.1 rfl (Nat.le_of_ble_eq_true rfl) dX5_tie_76 rfl rfl ⟨Nat.le_refl _, Nat.le_refl _⟩ rfl (fun H locs M => ?_)
              obtain rfl := Option.some.inj h
              exact rt_i C0 M hr hk dX5_tie_79
          · rw [if_neg c_19] at h
            refine lv_aload_n hx hb dX5_tie_58 rfl (lv_at hl 0 rfl) ?_
            refine lv_iconst (v := 0) hx hb dX5_tie_59 (by decide) ?_
            obtain ⟨⟨x_38, g_39⟩, hc_37, h⟩ := bnd_s h
            try dsimp only at h
            refine kV (As := [.int (0 : Int32)]) (rest := []) (stk := [.int x_38]) (val := (some (.int x_38))) (c1 := 0) (s1 := 0) C0 M (k_X5_noItem hc_37) kw_17_21 Y_X5_noItem (rv_X5 C0 M) ⟨Nat.le_of_ble_eq_true rfl, Nat.le_of_ble_eq_true rfl⟩ rfl hl.1 rfl (Nat.le_of_ble_eq_true rfl) dX5_tie_60 rfl rfl ⟨Nat.le_refl _, Nat.le_refl _⟩ rfl (fun H locs M => ?_)
            obtain rfl := Option.some.inj h
            exact rt_i C0 M hr hk dX5_tie_63
        · rw [if_neg c_16] at h
          exact w_X5_tie_J43 C0 hr hk (lv_sub hl [0] rfl) M h
    · rw [if_pos c_9] at h
      exact w_X5_tie_J16 C0 hr hk (lv_sub hl [0] rfl) M h
theorem k_X5_tie {x1 : Int32} {x2 : Int32} {x3 : Int32} {x4 : Int32} {res : Int32 × Gs} (h : m_X5_tie x1 x2 x3 x4 g = some res) : CM l yX5_tie cX5_tie 5 (some .int) ({ frames := 3, cells := 0, slots := 0, locals := 68 } : Room) [.ref (sb 13), .int x1, .int x2, .int x3, .int x4] (some (.int res.1)) D b0 cy sb db g res.2 := by
  refine Met.ofW (cc := cX5_tie) (maxL := 5) (ret := (some .int)) (by decide) rfl ?_
  intro p e s m args below meth c s₁ B hml hv
  obtain ⟨rfl, hW, hK⟩ := hv
  have hl := lv_entry [.ref (sb 13), .int x1, .int x2, .int x3, .int x4] (n := 5) (Nat.le_of_ble_eq_true rfl)
  rw [lg_entry_eq]
  generalize (lg_sl [.ref (sb 13), .int x1, .int x2, .int x3, .int x4] ++ List.replicate (5 - (lg_sl [.ref (sb 13), .int x1, .int x2, .int x3, .int x4]).length) Slot.unset).toArray = ls at hl ⊢
  have hl : lv_has ls 5 [(0, .ref (sb 13)), (1, .int x1), (2, .int x2), (3, .int x3), (4, .int x4)] := hl
  exact w_X5_tie ⟨B.exec, B.bytes, hml, findClass_of_methodNamed B.named, fun w hw => atoms_spec (ws := Cond.code yX5_tie cX5_tie 5 (some .int) :: wsL_law) B.pre w (List.mem_cons_of_mem _ hw), hK⟩ B.returns B.notSynchronized hl ⟨hW, va_S.rf⟩ h
theorem Y_X5_tie : Yv yX5_tie RX5 cX5_tie 5 (some .int) 4 := ⟨⟨kw_20_18, kw_1_5, by decide +kernel, by decide +kernel, by decide +kernel⟩, kw_20_16, kw_20_17⟩
-- X5_find
def m_X5_find (x1 : Int32) (x2 : Int32) (x3 : Int32) (x4 : Int32) (g : Gs) : Option (Int32 × Gs) :=
  (m_X5_isArray x1 g).bind fun x_2 => if x_2 = 0 then (lett (sI g 20 0 0 (7 : Int32)) fun g_40 => some ((-1 : Int32), g_40)) else (chk (inb x1 24) (if (g.1 26 0 x1.toNatClampNeg) = (4 : Int32) then ((m_X5_wantsRow x1 x2 g).bind fun x_7 => if x_7 = 0 then ((m_X5_slotOf x1 x2 g).bind fun x_10 => chk (inb x_10 12100) (lett (g.1 38 0 x_10.toNatClampNeg) fun x_12 => if x_12 = (-1 : Int32) then (lett (sI g 20 0 0 (1 : Int32)) fun g_26 => some ((-1 : Int32), g_26)) else (chk (inb (((3 : Int32) * x1) + (1 : Int32)) 72) (lett (x3.toInt64 - (g.1 28 0 (((3 : Int32) * x1) + (1 : Int32)).toNatClampNeg).toInt64) fun y_16 => chk (inb x_12 13000) ((m_X5_within y_16 (0 : Int64) (((g.1 33 0 x_12.toNatClampNeg) - (1 : Int32)).toInt64) g).bind fun x_20 => if x_20 = 0 then ((m_X5_noItem (1 : Int32) g).bind fun (x_24, g_25) => some ((-1 : Int32), g_25)) else (chk (inb x_12 13000) (some (((g.1 32 0 x_12.toNatClampNeg) + y_16.toInt32), g)))))))) else ((m_X5_noItem (0 : Int32) g).bind fun (x_29, g_30) => some ((-1 : Int32), g_30))) else ((m_X5_placeOf x1 x2 x3 x4 g).bind fun (x_32, g_33) => if x_32 = (-1 : Int32) then ((m_X5_noItem (g_33.1 44 0 0) g_33).bind fun (x_38, g_39) => some ((-1 : Int32), g_39)) else (chk (inb x1 24) (chk (inb (g_33.1 30 0 x1.toNatClampNeg) 13000) (some (((g_33.1 32 0 (g_33.1 30 0 x1.toNatClampNeg).toNatClampNeg) + x_32), g_33)))))))
set_option maxHeartbeats 4000000 in
set_option maxRecDepth 100000 in
theorem w_X5_find {x1 : Int32} {x2 : Int32} {x3 : Int32} {x4 : Int32} (C0 : Cx p s m args c cX5_find 9 RX5 D cy) (hr : meth.sig.returnType = (some .int)) (hk : meth.locks = false) {res : Int32 × Gs} (hl : lv_has ls 9 [(0, .ref (sb 13)), (1, .int x1), (2, .int x2), (3, .int x3), (4, .int x4)]) (M : Ws D b0 cy sb db g s H locs) (h : m_X5_find x1 x2 x3 x4 g = some res) : W p l e ({ frames := 3, cells := 0, slots := 0, locals := 73 } : Room) s m args below meth c H locs 0 0 (MQ below (QX (some (.int res.1)) D b0 cy sb db res.2) args s 0 0 (fun q => b0 ≤ q)) (F0 m 0 ls []) := by
  obtain ⟨hx, hb, hml, hown, hts, hK⟩ := id C0
  rw [m_X5_find] at h
  refine lv_aload_n hx hb dX5_find_0 rfl (lv_at hl 0 rfl) ?_
  refine lv_iload_n hx hb dX5_find_1 rfl (lv_at hl 1 rfl) ?_
  obtain ⟨x_2, hc_1, h⟩ := bnd_s h
  refine kV (As := [.int x1]) (rest := []) (stk := [.int x_2]) (val := (some (.int x_2))) (c1 := 0) (s1 := 0) C0 M (k_X5_isArray hc_1) kw_14_13 Y_X5_isArray (rv_X5 C0 M) ⟨Nat.le_of_ble_eq_true rfl, Nat.le_of_ble_eq_true rfl⟩ rfl hl.1 rfl (Nat.le_of_ble_eq_true rfl) dX5_find_2 rfl rfl ⟨Nat.le_refl _, Nat.le_refl _⟩ rfl (fun H locs M => ?_)
  refine lv_if_ne (tgt := 16) hx hb dX5_find_5 (by decide) (fun c_3 => ?_) (fun c_3 => ?_)
  · rw [if_neg c_3] at h
    refine lv_aload_n hx hb dX5_find_16 rfl (lv_at hl 0 rfl) ?_
    refine gf_RX5_20 C0 M dX5_find_17 ?_
    refine lv_iload_n hx hb dX5_find_20 rfl (lv_at hl 1 rfl) ?_
    obtain ⟨hi_4, h⟩ := chk_s h
    refine al_Mkinds C0 M hi_4 dX5_find_21 ?_
    refine lv_iconst (v := 4) hx hb dX5_find_22 (by decide) ?_
    refine lv_icmp_eq (tgt := 70) hx hb dX5_find_23 (by decide) (fun c_5 => ?_) (fun c_5 => ?_)
    · rw [if_pos c_5] at h
      refine lv_aload_n hx hb dX5_find_70 rfl (lv_at hl 0 rfl) ?_
      refine lv_iload_n hx hb dX5_find_71 rfl (lv_at hl 1 rfl) ?_
      refine lv_iload_n hx hb dX5_find_72 rfl (lv_at hl 2 rfl) ?_
      obtain ⟨x_7, hc_6, h⟩ := bnd_s h
      refine kV (As := [.int x1, .int x2]) (rest := []) (stk := [.int x_7]) (val := (some (.int x_7))) (c1 := 0) (s1 := 0) C0 M (k_X5_wantsRow hc_6) kw_19_19 Y_X5_wantsRow (rv_X5 C0 M) ⟨Nat.le_of_ble_eq_true rfl, Nat.le_of_ble_eq_true rfl⟩ rfl hl.1 rfl (Nat.le_of_ble_eq_true rfl) dX5_find_73 rfl rfl ⟨Nat.le_refl _, Nat.le_refl _⟩ rfl (fun H locs M => ?_)
      refine lv_if_eq (tgt := 88) hx hb dX5_find_76 (by decide) (fun c_8 => ?_) (fun c_8 => ?_)
      · rw [if_pos c_8] at h
        refine lv_aload_n hx hb dX5_find_88 rfl (lv_at hl 0 rfl) ?_
        refine gf_RX5_50 C0 M dX5_find_89 ?_
        refine lv_aload_n hx hb dX5_find_92 rfl (lv_at hl 0 rfl) ?_
        refine lv_iload_n hx hb dX5_find_93 rfl (lv_at hl 1 rfl) ?_
        refine lv_iload_n hx hb dX5_find_94 rfl (lv_at hl 2 rfl) ?_
        obtain ⟨x_10, hc_9, h⟩ := bnd_s h
        refine kV (As := [.int x1, .int x2]) (rest := [.ref (sb 25)]) (stk := [.int x_10, .ref (sb 25)]) (val := (some (.int x_10))) (c1 := 0) (s1 := 0) C0 M (k_X5_slotOf hc_9) kw_19_23 Y_X5_slotOf (rv_X5 C0 M) ⟨Nat.le_of_ble_eq_true rfl, Nat.le_of_ble_eq_true rfl⟩ rfl hl.1 rfl (Nat.le_of_ble_eq_true rfl) dX5_find_95 rfl rfl ⟨Nat.le_refl _, Nat.le_refl _⟩ rfl (fun H locs M => ?_)
        obtain ⟨hi_11, h⟩ := chk_s h
        refine al_Mslot C0 M hi_11 dX5_find_98 ?_
        obtain ⟨x_12, hn_13, h⟩ := lett_s h
        refine nm_i hn_13 ?_
        refine lv_istore (lv' := [(5, .int x_12), (0, .ref (sb 13)), (1, .int x1), (2, .int x2), (3, .int x3), (4, .int x4)]) hx hb dX5_find_99 hl (by decide) rfl (fun ls hl => ?_)
        refine lv_iload hx hb dX5_find_101 (lv_at hl 0 rfl) ?_
        refine lv_iconst (v := -1) hx hb dX5_find_103 (by decide) ?_
        refine lv_icmp_ne (tgt := 114) hx hb dX5_find_104 (by decide) (fun c_14 => ?_) (fun c_14 => ?_)
        · rw [if_neg c_14] at h
          refine lv_iload_n hx hb dX5_find_114 rfl (lv_at hl 4 rfl) ?_
          refine lv_i2l hx hb dX5_find_115 rfl ?_
          refine lv_aload_n hx hb dX5_find_116 rfl (lv_at hl 1 rfl) ?_
          refine gf_RX5_26 C0 M dX5_find_117 ?_
          refine lv_iconst (v := 3) hx hb dX5_find_120 (by decide) ?_
          refine lv_iload_n hx hb dX5_find_121 rfl (lv_at hl 2 rfl) ?_
          refine lv_imul hx hb dX5_find_122 ?_
          refine lv_iconst (v := 1) hx hb dX5_find_123 (by decide) ?_
          refine lv_iadd hx hb dX5_find_124 ?_
          obtain ⟨hi_15, h⟩ := chk_s h
          refine al_Mlows C0 M hi_15 dX5_find_125 ?_
          refine lv_i2l hx hb dX5_find_126 rfl ?_
          refine lv_lsub hx hb dX5_find_127 ?_
          obtain ⟨y_16, hn_17, h⟩ := lett_s h
          refine nm_l hn_17 ?_
          refine lv_lstore (lv' := [(6, .long y_16), (5, .int x_12), (0, .ref (sb 13)), (1, .int x1), (2, .int x2), (3, .int x3), (4, .int x4)]) hx hb dX5_find_128 hl (by decide) rfl (fun ls hl => ?_)
          refine lv_lload hx hb dX5_find_130 (lv_at hl 0 rfl) ?_
          refine lv_lconst (v := 0) hx hb dX5_find_132 (by decide) ?_
          refine lv_aload_n hx hb dX5_find_133 rfl (lv_at hl 2 rfl) ?_
          refine gf_RX5_38 C0 M dX5_find_134 ?_
          refine lv_iload hx hb dX5_find_137 (lv_at hl 1 rfl) ?_
          obtain ⟨hi_18, h⟩ := chk_s h
          refine al_MrowSize C0 M hi_18 dX5_find_139 ?_
          refine lv_iconst (v := 1) hx hb dX5_find_140 (by decide) ?_
          refine lv_isub hx hb dX5_find_141 ?_
          refine lv_i2l hx hb dX5_find_142 rfl ?_
          obtain ⟨x_20, hc_19, h⟩ := bnd_s h
          refine kS (As := [.long y_16, .long (0 : Int64), .long (((g.1 33 0 x_12.toNatClampNeg) - (1 : Int32)).toInt64)]) (rest := []) (stk := [.int x_20]) (val := (some (.int x_20))) (c1 := 0) (s1 := 0) C0 M (k_X5_within hc_19) kw_11_22 Y_X5_within ⟨Nat.le_of_ble_eq_true rfl, Nat.le_of_ble_eq_true rfl⟩ rfl hl.1 rfl (Nat.le_of_ble_eq_true rfl) dX5_find_143 rfl rfl ⟨Nat.le_refl _, Nat.le_refl _⟩ rfl (fun H locs M => ?_)
          refine lv_if_ne (tgt := 158) hx hb dX5_find_146 (by decide) (fun c_21 => ?_) (fun c_21 => ?_)
          · rw [if_neg c_21] at h
            refine lv_aload_n hx hb dX5_find_158 rfl (lv_at hl 2 rfl) ?_
            refine gf_RX5_35 C0 M dX5_find_159 ?_
            refine lv_iload hx hb dX5_find_162 (lv_at hl 1 rfl) ?_
            obtain ⟨hi_22, h⟩ := chk_s h
            refine al_MrowAt C0 M hi_22 dX5_find_164 ?_
            refine lv_lload hx hb dX5_find_165 (lv_at hl 0 rfl) ?_
            refine lv_l2i hx hb dX5_find_167 rfl ?_
            refine lv_iadd hx hb dX5_find_168 ?_
            obtain rfl := Option.some.inj h
            exact rt_i C0 M hr hk dX5_find_169
          · rw [if_pos c_21] at h
            refine lv_aload_n hx hb dX5_find_149 rfl (lv_at hl 2 rfl) ?_
            refine lv_iconst (v := 1) hx hb dX5_find_150 (by decide) ?_
            obtain ⟨⟨x_24, g_25⟩, hc_23, h⟩ := bnd_s h
            try dsimp only at h
            refine kV (As := [.int (1 : Int32)]) (rest := []) (stk := [.int x_24]) (val := (some (.int x_24))) (c1 := 0) (s1 := 0) C0 M (k_X5_noItem hc_23) kw_17_21 Y_X5_noItem (rv_X5 C0 M) ⟨Nat.le_of_ble_eq_true rfl, Nat.le_of_ble_eq_true rfl⟩ rfl hl.1 rfl (Nat.le_of_ble_eq_true rfl) dX5_find_151 rfl rfl ⟨Nat.le_refl _, Nat.le_refl _⟩ rfl (fun H locs M => ?_)
            refine lv_istore (lv' := [(8, .int x_24), (6, .long y_16), (5, .int x_12), (0, .ref (sb 13)), (1, .int x1), (2, .int x2), (3, .int x3), (4, .int x4)]) hx hb dX5_find_154 hl (by decide) rfl (fun ls hl => ?_)
            refine lv_iconst (v := -1) hx hb dX5_find_156 (by decide) ?_
            obtain rfl := Option.some.inj h
            exact rt_i C0 M hr hk dX5_find_157
        · rw [if_pos c_14] at h
          refine lv_aload_n hx hb dX5_find_107 rfl (lv_at hl 1 rfl) ?_
          refine lv_iconst (v := 1) hx hb dX5_find_108 (by decide) ?_
          obtain ⟨g_26, hg_27, h⟩ := lett_s h
          refine pf_RX5_65 C0 M hg_27 dX5_find_109 (fun H locs M => ?_)
          refine lv_iconst (v := -1) hx hb dX5_find_112 (by decide) ?_
          obtain rfl := Option.some.inj h
          exact rt_i C0 M hr hk dX5_find_113
      · rw [if_neg c_8] at h
        refine lv_aload_n hx hb dX5_find_79 rfl (lv_at hl 0 rfl) ?_
        refine lv_iconst (v := 0) hx hb dX5_find_80 (by decide) ?_
        obtain ⟨⟨x_29, g_30⟩, hc_28, h⟩ := bnd_s h
        try dsimp only at h
        refine kV (As := [.int (0 : Int32)]) (rest := []) (stk := [.int x_29]) (val := (some (.int x_29))) (c1 := 0) (s1 := 0) C0 M (k_X5_noItem hc_28) kw_17_21 Y_X5_noItem (rv_X5 C0 M) ⟨Nat.le_of_ble_eq_true rfl, Nat.le_of_ble_eq_true rfl⟩ rfl hl.1 rfl (Nat.le_of_ble_eq_true rfl) dX5_find_81 rfl rfl ⟨Nat.le_refl _, Nat.le_refl _⟩ rfl (fun H locs M => ?_)
        refine lv_istore (lv' := [(5, .int x_29), (0, .ref (sb 13)), (1, .int x1), (2, .int x2), (3, .int x3), (4, .int x4)]) hx hb dX5_find_84 hl (by decide) rfl (fun ls hl => ?_)
        refine lv_iconst (v := -1) hx hb dX5_find_86 (by decide) ?_
        obtain rfl := Option.some.inj h
        exact rt_i C0 M hr hk dX5_find_87
    · rw [if_neg c_5] at h
      refine lv_aload_n hx hb dX5_find_26 rfl (lv_at hl 0 rfl) ?_
      refine lv_iload_n hx hb dX5_find_27 rfl (lv_at hl 1 rfl) ?_
      refine lv_iload_n hx hb dX5_find_28 rfl (lv_at hl 2 rfl) ?_
      refine lv_iload_n hx hb dX5_find_29 rfl (lv_at hl 3 rfl) ?_
      refine lv_iload hx hb dX5_find_30 (lv_at hl 4 rfl) ?_
      obtain ⟨⟨x_32, g_33⟩, hc_31, h⟩ := bnd_s h
      try dsimp only at h
      refine kV (As := [.int x1, .int x2, .int x3, .int x4]) (rest := []) (stk := [.int x_32]) (val := (some (.int x_32))) (c1 := 0) (s1 := 0) C0 M (k_X5_placeOf hc_31) kw_17_17 Y_X5_placeOf (rv_X5 C0 M) ⟨Nat.le_of_ble_eq_true rfl, Nat.le_of_ble_eq_true rfl⟩ rfl hl.1 rfl (Nat.le_of_ble_eq_true rfl) dX5_find_32 rfl rfl ⟨Nat.le_refl _, Nat.le_refl _⟩ rfl (fun H locs M => ?_)
      refine lv_istore (lv' := [(5, .int x_32), (0, .ref (sb 13)), (1, .int x1), (2, .int x2), (3, .int x3), (4, .int x4)]) hx hb dX5_find_35 hl (by decide) rfl (fun ls hl => ?_)
      refine lv_iload hx hb dX5_find_37 (lv_at hl 0 rfl) ?_
      refine lv_iconst (v := -1) hx hb dX5_find_39 (by decide) ?_
      refine lv_icmp_ne (tgt := 55) hx hb dX5_find_40 (by decide) (fun c_34 => ?_) (fun c_34 => ?_)
      · rw [if_neg c_34] at h
        refine lv_aload_n hx hb dX5_find_55 rfl (lv_at hl 1 rfl) ?_
        refine gf_RX5_35 C0 M dX5_find_56 ?_
        refine lv_aload_n hx hb dX5_find_59 rfl (lv_at hl 1 rfl) ?_
        refine gf_RX5_32 C0 M dX5_find_60 ?_
        refine lv_iload_n hx hb dX5_find_63 rfl (lv_at hl 2 rfl) ?_
        obtain ⟨hi_35, h⟩ := chk_s h
        refine al_MrowOf C0 M hi_35 dX5_find_64 ?_
        obtain ⟨hi_36, h⟩ := chk_s h
        refine al_MrowAt C0 M hi_36 dX5_find_65 ?_
        refine lv_iload hx hb dX5_find_66 (lv_at hl 0 rfl) ?_
        refine lv_iadd hx hb dX5_find_68 ?_
        obtain rfl := Option.some.inj h
        exact rt_i C0 M hr hk dX5_find_69
      · rw [if_pos c_34] at h
        refine lv_aload_n hx hb dX5_find_43 rfl (lv_at hl 1 rfl) ?_
        refine lv_aload_n hx hb dX5_find_44 rfl (lv_at hl 1 rfl) ?_
        refine gf_RX5_142 C0 M dX5_find_45 ?_
        obtain ⟨⟨x_38, g_39⟩, hc_37, h⟩ := bnd_s h
        try dsimp only at h
        refine kV (As := [.int (g_33.1 44 0 0)]) (rest := []) (stk := [.int x_38]) (val := (some (.int x_38))) (c1 := 0) (s1 := 0) C0 M (k_X5_noItem hc_37) kw_17_21 Y_X5_noItem (rv_X5 C0 M) ⟨Nat.le_of_ble_eq_true rfl, Nat.le_of_ble_eq_true rfl⟩ rfl hl.1 rfl (Nat.le_of_ble_eq_true rfl) dX5_find_48 rfl rfl ⟨Nat.le_refl _, Nat.le_refl _⟩ rfl (fun H locs M => ?_)
        refine lv_istore (lv' := [(6, .int x_38), (5, .int x_32), (0, .ref (sb 13)), (1, .int x1), (2, .int x2), (3, .int x3), (4, .int x4)]) hx hb dX5_find_51 hl (by decide) rfl (fun ls hl => ?_)
        refine lv_iconst (v := -1) hx hb dX5_find_53 (by decide) ?_
        obtain rfl := Option.some.inj h
        exact rt_i C0 M hr hk dX5_find_54
  · rw [if_pos c_3] at h
    refine lv_aload_n hx hb dX5_find_8 rfl (lv_at hl 0 rfl) ?_
    refine lv_bipush (v := 7) hx hb dX5_find_9 (by decide) ?_
    obtain ⟨g_40, hg_41, h⟩ := lett_s h
    refine pf_RX5_65 C0 M hg_41 dX5_find_11 (fun H locs M => ?_)
    refine lv_iconst (v := -1) hx hb dX5_find_14 (by decide) ?_
    obtain rfl := Option.some.inj h
    exact rt_i C0 M hr hk dX5_find_15
theorem k_X5_find {x1 : Int32} {x2 : Int32} {x3 : Int32} {x4 : Int32} {res : Int32 × Gs} (h : m_X5_find x1 x2 x3 x4 g = some res) : CM l yX5_find cX5_find 9 (some .int) ({ frames := 3, cells := 0, slots := 0, locals := 73 } : Room) [.ref (sb 13), .int x1, .int x2, .int x3, .int x4] (some (.int res.1)) D b0 cy sb db g res.2 := by
  refine Met.ofW (cc := cX5_find) (maxL := 9) (ret := (some .int)) (by decide) rfl ?_
  intro p e s m args below meth c s₁ B hml hv
  obtain ⟨rfl, hW, hK⟩ := hv
  have hl := lv_entry [.ref (sb 13), .int x1, .int x2, .int x3, .int x4] (n := 9) (Nat.le_of_ble_eq_true rfl)
  rw [lg_entry_eq]
  generalize (lg_sl [.ref (sb 13), .int x1, .int x2, .int x3, .int x4] ++ List.replicate (9 - (lg_sl [.ref (sb 13), .int x1, .int x2, .int x3, .int x4]).length) Slot.unset).toArray = ls at hl ⊢
  have hl : lv_has ls 9 [(0, .ref (sb 13)), (1, .int x1), (2, .int x2), (3, .int x3), (4, .int x4)] := hl
  exact w_X5_find ⟨B.exec, B.bytes, hml, findClass_of_methodNamed B.named, fun w hw => atoms_spec (ws := Cond.code yX5_find cX5_find 9 (some .int) :: wsL_law) B.pre w (List.mem_cons_of_mem _ hw), hK⟩ B.returns B.notSynchronized hl ⟨hW, va_S.rf⟩ h
theorem Y_X5_find : Yv yX5_find RX5 cX5_find 9 (some .int) 4 := ⟨⟨kw_21_16, kw_1_5, by decide +kernel, by decide +kernel, by decide +kernel⟩, kw_21_14, kw_21_15⟩
-- X5_get
def m_X5_get_J46 (x5 : Int32) (g : Gs) : Option (Int64 × Gs) :=
  lett (sI g 20 0 0 (0 : Int32)) fun g_7 => chk (inb x5 300000) (some ((g_7.2.1 2 x5.toNatClampNeg), g_7))
def m_X5_get (x1 : Int32) (x2 : Int32) (x3 : Int32) (x4 : Int32) (g : Gs) : Option (Int64 × Gs) :=
  (m_X5_find x1 x2 x3 x4 g).bind fun (x_2, g_3) => if x_2 = (-1 : Int32) then (some ((0 : Int64), g_3)) else (chk (inb x1 24) (if (g_3.1 26 0 x1.toNatClampNeg) = (3 : Int32) then (chk (inb x_2 300000) (if (g_3.1 36 0 x_2.toNatClampNeg) = 0 then ((m_X5_no (1 : Int32) g_3).bind fun (x_13, g_14) => some (x_13.toInt64, g_14)) else (m_X5_get_J46 x_2 g_3))) else (m_X5_get_J46 x_2 g_3)))
set_option maxHeartbeats 4000000 in
set_option maxRecDepth 100000 in
theorem w_X5_get_J46 {x5 : Int32} (C0 : Cx p s m args c cX5_get 6 RX5 D cy) (hr : meth.sig.returnType = (some .long)) (hk : meth.locks = false) {res : Int64 × Gs} (hl : lv_has ls 6 [(0, .ref (sb 13)), (5, .int x5)]) (M : Ws D b0 cy sb db g s H locs) (h : m_X5_get_J46 x5 g = some res) : W p l e ({ frames := 4, cells := 0, slots := 0, locals := 101 } : Room) s m args below meth c H locs 0 0 (MQ below (QX (some (.long res.1)) D b0 cy sb db res.2) args s 0 0 (fun q => b0 ≤ q)) (F0 m 46 ls []) := by
  obtain ⟨hx, hb, hml, hown, hts, hK⟩ := id C0
  rw [m_X5_get_J46] at h
  refine lv_aload_n hx hb dX5_get_46 rfl (lv_at hl 0 rfl) ?_
  refine lv_iconst (v := 0) hx hb dX5_get_47 (by decide) ?_
  obtain ⟨g_7, hg_8, h⟩ := lett_s h
  refine pf_RX5_65 C0 M hg_8 dX5_get_48 (fun H locs M => ?_)
  refine lv_aload_n hx hb dX5_get_51 rfl (lv_at hl 0 rfl) ?_
  refine gf_RX5_42 C0 M dX5_get_52 ?_
  refine lv_iload hx hb dX5_get_55 (lv_at hl 1 rfl) ?_
  obtain ⟨hi_9, h⟩ := chk_s h
  refine al_Mpool C0 M hi_9 dX5_get_57 ?_
  obtain rfl := Option.some.inj h
  exact rt_l C0 M hr hk dX5_get_58
set_option maxHeartbeats 4000000 in
set_option maxRecDepth 100000 in
theorem w_X5_get {x1 : Int32} {x2 : Int32} {x3 : Int32} {x4 : Int32} (C0 : Cx p s m args c cX5_get 6 RX5 D cy) (hr : meth.sig.returnType = (some .long)) (hk : meth.locks = false) {res : Int64 × Gs} (hl : lv_has ls 6 [(0, .ref (sb 13)), (1, .int x1), (2, .int x2), (3, .int x3), (4, .int x4)]) (M : Ws D b0 cy sb db g s H locs) (h : m_X5_get x1 x2 x3 x4 g = some res) : W p l e ({ frames := 4, cells := 0, slots := 0, locals := 101 } : Room) s m args below meth c H locs 0 0 (MQ below (QX (some (.long res.1)) D b0 cy sb db res.2) args s 0 0 (fun q => b0 ≤ q)) (F0 m 0 ls []) := by
  obtain ⟨hx, hb, hml, hown, hts, hK⟩ := id C0
  rw [m_X5_get] at h
  refine lv_aload_n hx hb dX5_get_0 rfl (lv_at hl 0 rfl) ?_
  refine lv_iload_n hx hb dX5_get_1 rfl (lv_at hl 1 rfl) ?_
  refine lv_iload_n hx hb dX5_get_2 rfl (lv_at hl 2 rfl) ?_
  refine lv_iload_n hx hb dX5_get_3 rfl (lv_at hl 3 rfl) ?_
  refine lv_iload hx hb dX5_get_4 (lv_at hl 4 rfl) ?_
  obtain ⟨⟨x_2, g_3⟩, hc_1, h⟩ := bnd_s h
  try dsimp only at h
  refine kV (As := [.int x1, .int x2, .int x3, .int x4]) (rest := []) (stk := [.int x_2]) (val := (some (.int x_2))) (c1 := 0) (s1 := 0) C0 M (k_X5_find hc_1) kw_21_13 Y_X5_find (rv_X5 C0 M) ⟨Nat.le_of_ble_eq_true rfl, Nat.le_of_ble_eq_true rfl⟩ rfl hl.1 rfl (Nat.le_of_ble_eq_true rfl) dX5_get_6 rfl rfl ⟨Nat.le_refl _, Nat.le_refl _⟩ rfl (fun H locs M => ?_)
  refine lv_istore (lv' := [(5, .int x_2), (0, .ref (sb 13)), (1, .int x1), (2, .int x2), (3, .int x3), (4, .int x4)]) hx hb dX5_get_9 hl (by decide) rfl (fun ls hl => ?_)
  refine lv_iload hx hb dX5_get_11 (lv_at hl 0 rfl) ?_
  refine lv_iconst (v := -1) hx hb dX5_get_13 (by decide) ?_
  refine lv_icmp_ne (tgt := 19) hx hb dX5_get_14 (by decide) (fun c_4 => ?_) (fun c_4 => ?_)
  · rw [if_neg c_4] at h
    refine lv_aload_n hx hb dX5_get_19 rfl (lv_at hl 1 rfl) ?_
    refine gf_RX5_20 C0 M dX5_get_20 ?_
    refine lv_iload_n hx hb dX5_get_23 rfl (lv_at hl 2 rfl) ?_
    obtain ⟨hi_5, h⟩ := chk_s h
    refine al_Mkinds C0 M hi_5 dX5_get_24 ?_
    refine lv_iconst (v := 3) hx hb dX5_get_25 (by decide) ?_
    refine lv_icmp_ne (tgt := 46) hx hb dX5_get_26 (by decide) (fun c_6 => ?_) (fun c_6 => ?_)
    · rw [if_neg c_6] at h
      exact w_X5_get_J46 C0 hr hk (lv_sub hl [1, 0] rfl) M h
    · rw [if_pos c_6] at h
      refine lv_aload_n hx hb dX5_get_29 rfl (lv_at hl 1 rfl) ?_
      refine gf_RX5_46 C0 M dX5_get_30 ?_
      refine lv_iload hx hb dX5_get_33 (lv_at hl 0 rfl) ?_
      obtain ⟨hi_10, h⟩ := chk_s h
      refine al_MhasBox C0 M hi_10 dX5_get_35 ?_
      refine lv_if_ne (tgt := 46) hx hb dX5_get_36 (by decide) (fun c_11 => ?_) (fun c_11 => ?_)
      · rw [if_neg c_11] at h
        exact w_X5_get_J46 C0 hr hk (lv_sub hl [1, 0] rfl) M h
      · rw [if_pos c_11] at h
        refine lv_aload_n hx hb dX5_get_39 rfl (lv_at hl 1 rfl) ?_
        refine lv_iconst (v := 1) hx hb dX5_get_40 (by decide) ?_
        obtain ⟨⟨x_13, g_14⟩, hc_12, h⟩ := bnd_s h
        try dsimp only at h
        refine kV (As := [.int (1 : Int32)]) (rest := []) (stk := [.int x_13]) (val := (some (.int x_13))) (c1 := 0) (s1 := 0) C0 M (k_X5_no hc_12) kw_6_8 Y_X5_no (rv_X5 C0 M) ⟨Nat.le_of_ble_eq_true rfl, Nat.le_of_ble_eq_true rfl⟩ rfl hl.1 rfl (Nat.le_of_ble_eq_true rfl) dX5_get_41 rfl rfl ⟨Nat.le_refl _, Nat.le_refl _⟩ rfl (fun H locs M => ?_)
        refine lv_i2l hx hb dX5_get_44 rfl ?_
        obtain rfl := Option.some.inj h
        exact rt_l C0 M hr hk dX5_get_45
  · rw [if_pos c_4] at h
    refine lv_lconst (v := 0) hx hb dX5_get_17 (by decide) ?_
    obtain rfl := Option.some.inj h
    exact rt_l C0 M hr hk dX5_get_18
theorem k_X5_get {x1 : Int32} {x2 : Int32} {x3 : Int32} {x4 : Int32} {res : Int64 × Gs} (h : m_X5_get x1 x2 x3 x4 g = some res) : CM l yX5_get cX5_get 6 (some .long) ({ frames := 4, cells := 0, slots := 0, locals := 101 } : Room) [.ref (sb 13), .int x1, .int x2, .int x3, .int x4] (some (.long res.1)) D b0 cy sb db g res.2 := by
  refine Met.ofW (cc := cX5_get) (maxL := 6) (ret := (some .long)) (by decide) rfl ?_
  intro p e s m args below meth c s₁ B hml hv
  obtain ⟨rfl, hW, hK⟩ := hv
  have hl := lv_entry [.ref (sb 13), .int x1, .int x2, .int x3, .int x4] (n := 6) (Nat.le_of_ble_eq_true rfl)
  rw [lg_entry_eq]
  generalize (lg_sl [.ref (sb 13), .int x1, .int x2, .int x3, .int x4] ++ List.replicate (6 - (lg_sl [.ref (sb 13), .int x1, .int x2, .int x3, .int x4]).length) Slot.unset).toArray = ls at hl ⊢
  have hl : lv_has ls 6 [(0, .ref (sb 13)), (1, .int x1), (2, .int x2), (3, .int x3), (4, .int x4)] := hl
  exact w_X5_get ⟨B.exec, B.bytes, hml, findClass_of_methodNamed B.named, fun w hw => atoms_spec (ws := Cond.code yX5_get cX5_get 6 (some .long) :: wsL_law) B.pre w (List.mem_cons_of_mem _ hw), hK⟩ B.returns B.notSynchronized hl ⟨hW, va_S.rf⟩ h
theorem Y_X5_get : Yv yX5_get RX5 cX5_get 6 (some .long) 4 := ⟨⟨kw_21_12, kw_1_5, by decide +kernel, by decide +kernel, by decide +kernel⟩, kw_21_10, kw_21_11⟩
-- X5_lay
def m_X5_lay_J26 (xs1 : Int32) (xs2 : Int32) (g : Gs) : Option (Gs) :=
  chk (inb xs1 300000) (lett (sI g 36 0 xs1.toNatClampNeg (vp_nar .boolean xs2)) fun g_8 => some g_8)
def m_X5_lay (x1 : Int32) (x2 : Int32) (y3 : Int64) (g : Gs) : Option (Gs) :=
  (m_X5_as x2 y3 g).bind fun y_2 => chk (inb x1 300000) (lett (sL g 2 x1.toNatClampNeg y_2) fun g_4 => if x2 = (3 : Int32) then (m_X5_lay_J26 x1 (1 : Int32) g_4) else (m_X5_lay_J26 x1 (0 : Int32) g_4))
set_option maxHeartbeats 4000000 in
set_option maxRecDepth 100000 in
theorem w_X5_lay_J26 {xs1 : Int32} {xs2 : Int32} (C0 : Cx p s m args c cX5_lay 5 RX5 D cy) (hr : meth.sig.returnType = none) (hk : meth.locks = false) {res : Gs} (hl : lv_has ls 5 []) (M : Ws D b0 cy sb db g s H locs) (h : m_X5_lay_J26 xs1 xs2 g = some res) : W p l e ({ frames := 1, cells := 0, slots := 0, locals := 24 } : Room) s m args below meth c H locs 0 0 (MQ below (QX none D b0 cy sb db res) args s 0 0 (fun q => b0 ≤ q)) (F0 m 26 ls [.int xs2, .int xs1, .ref (sb 24)]) := by
  obtain ⟨hx, hb, hml, hown, hts, hK⟩ := id C0
  rw [m_X5_lay_J26] at h
  obtain ⟨hi_7, h⟩ := chk_s h
  obtain ⟨g_8, hg_9, h⟩ := lett_s h
  refine as_MhasBox C0 M hi_7 hg_9 dX5_lay_26 (fun H locs M => ?_)
  obtain rfl := Option.some.inj h
  exact rt_v C0 M hr hk dX5_lay_27
set_option maxHeartbeats 4000000 in
set_option maxRecDepth 100000 in
theorem w_X5_lay {x1 : Int32} {x2 : Int32} {y3 : Int64} (C0 : Cx p s m args c cX5_lay 5 RX5 D cy) (hr : meth.sig.returnType = none) (hk : meth.locks = false) {res : Gs} (hl : lv_has ls 5 [(0, .ref (sb 13)), (1, .int x1), (2, .int x2), (3, .long y3)]) (M : Ws D b0 cy sb db g s H locs) (h : m_X5_lay x1 x2 y3 g = some res) : W p l e ({ frames := 1, cells := 0, slots := 0, locals := 24 } : Room) s m args below meth c H locs 0 0 (MQ below (QX none D b0 cy sb db res) args s 0 0 (fun q => b0 ≤ q)) (F0 m 0 ls []) := by
  obtain ⟨hx, hb, hml, hown, hts, hK⟩ := id C0
  rw [m_X5_lay] at h
  refine lv_aload_n hx hb dX5_lay_0 rfl (lv_at hl 0 rfl) ?_
  refine gf_RX5_42 C0 M dX5_lay_1 ?_
  refine lv_iload_n hx hb dX5_lay_4 rfl (lv_at hl 1 rfl) ?_
  refine lv_iload_n hx hb dX5_lay_5 rfl (lv_at hl 2 rfl) ?_
  refine lv_lload_n hx hb dX5_lay_6 rfl (lv_at hl 3 rfl) ?_
  obtain ⟨y_2, hc_1, h⟩ := bnd_s h
  refine kS (As := [.int x2, .long y3]) (rest := [.int x1, .ref (sb 23)]) (stk := [.long y_2, .int x1, .ref (sb 23)]) (val := (some (.long y_2))) (c1 := 0) (s1 := 0) C0 M (k_X5_as hc_1) kw_22_12 Y_X5_as ⟨Nat.le_of_ble_eq_true rfl, Nat.le_of_ble_eq_true rfl⟩ rfl hl.1 rfl (Nat.le_of_ble_eq_true rfl) dX5_lay_7 rfl rfl ⟨Nat.le_refl _, Nat.le_refl _⟩ rfl (fun H locs M => ?_)
  obtain ⟨hi_3, h⟩ := chk_s h
  obtain ⟨g_4, hg_5, h⟩ := lett_s h
  refine as_Mpool C0 M hi_3 hg_5 dX5_lay_10 (fun H locs M => ?_)
  refine lv_aload_n hx hb dX5_lay_11 rfl (lv_at hl 0 rfl) ?_
  refine gf_RX5_46 C0 M dX5_lay_12 ?_
  refine lv_iload_n hx hb dX5_lay_15 rfl (lv_at hl 1 rfl) ?_
  refine lv_iload_n hx hb dX5_lay_16 rfl (lv_at hl 2 rfl) ?_
  refine lv_iconst (v := 3) hx hb dX5_lay_17 (by decide) ?_
  refine lv_icmp_ne (tgt := 25) hx hb dX5_lay_18 (by decide) (fun c_6 => ?_) (fun c_6 => ?_)
  · rw [if_neg c_6] at h
    refine lv_iconst (v := 0) hx hb dX5_lay_25 (by decide) ?_
    exact w_X5_lay_J26 C0 hr hk (lv_sub hl [] rfl) M h
  · rw [if_pos c_6] at h
    refine lv_iconst (v := 1) hx hb dX5_lay_21 (by decide) ?_
    refine lv_goto (tgt := 26) hx hb dX5_lay_22 (by decide) ?_
    exact w_X5_lay_J26 C0 hr hk (lv_sub hl [] rfl) M h
theorem k_X5_lay {x1 : Int32} {x2 : Int32} {y3 : Int64} {res : Gs} (h : m_X5_lay x1 x2 y3 g = some res) : CM l yX5_lay cX5_lay 5 none ({ frames := 1, cells := 0, slots := 0, locals := 24 } : Room) [.ref (sb 13), .int x1, .int x2, .long y3] none D b0 cy sb db g res := by
  refine Met.ofW (cc := cX5_lay) (maxL := 5) (ret := none) (by decide) rfl ?_
  intro p e s m args below meth c s₁ B hml hv
  obtain ⟨rfl, hW, hK⟩ := hv
  have hl := lv_entry [.ref (sb 13), .int x1, .int x2, .long y3] (n := 5) (Nat.le_of_ble_eq_true rfl)
  rw [lg_entry_eq]
  generalize (lg_sl [.ref (sb 13), .int x1, .int x2, .long y3] ++ List.replicate (5 - (lg_sl [.ref (sb 13), .int x1, .int x2, .long y3]).length) Slot.unset).toArray = ls at hl ⊢
  have hl : lv_has ls 5 [(0, .ref (sb 13)), (1, .int x1), (2, .int x2), (3, .long y3)] := hl
  exact w_X5_lay ⟨B.exec, B.bytes, hml, findClass_of_methodNamed B.named, fun w hw => atoms_spec (ws := Cond.code yX5_lay cX5_lay 5 none :: wsL_law) B.pre w (List.mem_cons_of_mem _ hw), hK⟩ B.returns B.notSynchronized hl ⟨hW, va_S.rf⟩ h
theorem Y_X5_lay : Yv yX5_lay RX5 cX5_lay 5 none 3 := ⟨⟨kw_22_11, kw_1_5, by decide +kernel, by decide +kernel, by decide +kernel⟩, kw_22_9, kw_22_10⟩
-- X5_put
def m_X5_put (x1 : Int32) (x2 : Int32) (x3 : Int32) (x4 : Int32) (y5 : Int64) (g : Gs) : Option (Int32 × Gs) :=
  (m_X5_find x1 x2 x3 x4 g).bind fun (x_2, g_3) => if x_2 = (-1 : Int32) then (some ((0 : Int32), g_3)) else (chk (inb x1 24) ((m_X5_lay x_2 (g_3.1 26 0 x1.toNatClampNeg) y5 g_3).bind fun g_7 => (m_X5_yes (1 : Int32) g_7).bind fun (x_9, g_10) => some (x_9, g_10)))
set_option maxHeartbeats 4000000 in
set_option maxRecDepth 100000 in
theorem w_X5_put {x1 : Int32} {x2 : Int32} {x3 : Int32} {x4 : Int32} {y5 : Int64} (C0 : Cx p s m args c cX5_put 8 RX5 D cy) (hr : meth.sig.returnType = (some .int)) (hk : meth.locks = false) {res : Int32 × Gs} (hl : lv_has ls 8 [(0, .ref (sb 13)), (1, .int x1), (2, .int x2), (3, .int x3), (4, .int x4), (5, .long y5)]) (M : Ws D b0 cy sb db g s H locs) (h : m_X5_put x1 x2 x3 x4 y5 g = some res) : W p l e ({ frames := 4, cells := 0, slots := 0, locals := 101 } : Room) s m args below meth c H locs 0 0 (MQ below (QX (some (.int res.1)) D b0 cy sb db res.2) args s 0 0 (fun q => b0 ≤ q)) (F0 m 0 ls []) := by
  obtain ⟨hx, hb, hml, hown, hts, hK⟩ := id C0
  rw [m_X5_put] at h
  refine lv_aload_n hx hb dX5_put_0 rfl (lv_at hl 0 rfl) ?_
  refine lv_iload_n hx hb dX5_put_1 rfl (lv_at hl 1 rfl) ?_
  refine lv_iload_n hx hb dX5_put_2 rfl (lv_at hl 2 rfl) ?_
  refine lv_iload_n hx hb dX5_put_3 rfl (lv_at hl 3 rfl) ?_
  refine lv_iload hx hb dX5_put_4 (lv_at hl 4 rfl) ?_
  obtain ⟨⟨x_2, g_3⟩, hc_1, h⟩ := bnd_s h
  try dsimp only at h
  refine kV (As := [.int x1, .int x2, .int x3, .int x4]) (rest := []) (stk := [.int x_2]) (val := (some (.int x_2))) (c1 := 0) (s1 := 0) C0 M (k_X5_find hc_1) kw_21_13 Y_X5_find (rv_X5 C0 M) ⟨Nat.le_of_ble_eq_true rfl, Nat.le_of_ble_eq_true rfl⟩ rfl hl.1 rfl (Nat.le_of_ble_eq_true rfl) dX5_put_6 rfl rfl ⟨Nat.le_refl _, Nat.le_refl _⟩ rfl (fun H locs M => ?_)
  refine lv_istore (lv' := [(7, .int x_2), (0, .ref (sb 13)), (1, .int x1), (2, .int x2), (3, .int x3), (4, .int x4), (5, .long y5)]) hx hb dX5_put_9 hl (by decide) rfl (fun ls hl => ?_)
  refine lv_iload hx hb dX5_put_11 (lv_at hl 0 rfl) ?_
  refine lv_iconst (v := -1) hx hb dX5_put_13 (by decide) ?_
  refine lv_icmp_ne (tgt := 19) hx hb dX5_put_14 (by decide) (fun c_4 => ?_) (fun c_4 => ?_)
  · rw [if_neg c_4] at h
    refine lv_aload_n hx hb dX5_put_19 rfl (lv_at hl 1 rfl) ?_
    refine lv_iload hx hb dX5_put_20 (lv_at hl 0 rfl) ?_
    refine lv_aload_n hx hb dX5_put_22 rfl (lv_at hl 1 rfl) ?_
    refine gf_RX5_20 C0 M dX5_put_23 ?_
    refine lv_iload_n hx hb dX5_put_26 rfl (lv_at hl 2 rfl) ?_
    obtain ⟨hi_5, h⟩ := chk_s h
    refine al_Mkinds C0 M hi_5 dX5_put_27 ?_
    refine lv_lload hx hb dX5_put_28 (lv_at hl 6 rfl) ?_
    obtain ⟨g_7, hc_6, h⟩ := bnd_s h
    refine kV (As := [.int x_2, .int (g_3.1 26 0 x1.toNatClampNeg), .long y5]) (rest := []) (stk := []) (val := none) (c1 := 0) (s1 := 0) C0 M (k_X5_lay hc_6) kw_22_8 Y_X5_lay (rv_X5 C0 M) ⟨Nat.le_of_ble_eq_true rfl, Nat.le_of_ble_eq_true rfl⟩ rfl hl.1 rfl (Nat.le_of_ble_eq_true rfl) dX5_put_30 rfl rfl ⟨Nat.le_refl _, Nat.le_refl _⟩ rfl (fun H locs M => ?_)
    refine lv_aload_n hx hb dX5_put_33 rfl (lv_at hl 1 rfl) ?_
    refine lv_iconst (v := 1) hx hb dX5_put_34 (by decide) ?_
    obtain ⟨⟨x_9, g_10⟩, hc_8, h⟩ := bnd_s h
    try dsimp only at h
    refine kV (As := [.int (1 : Int32)]) (rest := []) (stk := [.int x_9]) (val := (some (.int x_9))) (c1 := 0) (s1 := 0) C0 M (k_X5_yes hc_8) kw_6_12 Y_X5_yes (rv_X5 C0 M) ⟨Nat.le_of_ble_eq_true rfl, Nat.le_of_ble_eq_true rfl⟩ rfl hl.1 rfl (Nat.le_of_ble_eq_true rfl) dX5_put_35 rfl rfl ⟨Nat.le_refl _, Nat.le_refl _⟩ rfl (fun H locs M => ?_)
    obtain rfl := Option.some.inj h
    exact rt_i C0 M hr hk dX5_put_38
  · rw [if_pos c_4] at h
    refine lv_iconst (v := 0) hx hb dX5_put_17 (by decide) ?_
    obtain rfl := Option.some.inj h
    exact rt_i C0 M hr hk dX5_put_18
theorem k_X5_put {x1 : Int32} {x2 : Int32} {x3 : Int32} {x4 : Int32} {y5 : Int64} {res : Int32 × Gs} (h : m_X5_put x1 x2 x3 x4 y5 g = some res) : CM l yX5_put cX5_put 8 (some .int) ({ frames := 4, cells := 0, slots := 0, locals := 101 } : Room) [.ref (sb 13), .int x1, .int x2, .int x3, .int x4, .long y5] (some (.int res.1)) D b0 cy sb db g res.2 := by
  refine Met.ofW (cc := cX5_put) (maxL := 8) (ret := (some .int)) (by decide) rfl ?_
  intro p e s m args below meth c s₁ B hml hv
  obtain ⟨rfl, hW, hK⟩ := hv
  have hl := lv_entry [.ref (sb 13), .int x1, .int x2, .int x3, .int x4, .long y5] (n := 8) (Nat.le_of_ble_eq_true rfl)
  rw [lg_entry_eq]
  generalize (lg_sl [.ref (sb 13), .int x1, .int x2, .int x3, .int x4, .long y5] ++ List.replicate (8 - (lg_sl [.ref (sb 13), .int x1, .int x2, .int x3, .int x4, .long y5]).length) Slot.unset).toArray = ls at hl ⊢
  have hl : lv_has ls 8 [(0, .ref (sb 13)), (1, .int x1), (2, .int x2), (3, .int x3), (4, .int x4), (5, .long y5)] := hl
  exact w_X5_put ⟨B.exec, B.bytes, hml, findClass_of_methodNamed B.named, fun w hw => atoms_spec (ws := Cond.code yX5_put cX5_put 8 (some .int) :: wsL_law) B.pre w (List.mem_cons_of_mem _ hw), hK⟩ B.returns B.notSynchronized hl ⟨hW, va_S.rf⟩ h
theorem Y_X5_put : Yv yX5_put RX5 cX5_put 8 (some .int) 5 := ⟨⟨kw_22_7, kw_1_5, by decide +kernel, by decide +kernel, by decide +kernel⟩, kw_22_5, kw_22_6⟩
-- X5_empty
def m_X5_empty (x1 : Int32) (x2 : Int32) (x3 : Int32) (x4 : Int32) (g : Gs) : Option (Int32 × Gs) :=
  (m_X5_isArray x1 g).bind fun x_2 => if x_2 = 0 then ((m_X5_no (7 : Int32) g).bind fun (x_23, g_24) => some (x_23, g_24)) else (chk (inb x1 24) (if (g.1 26 0 x1.toNatClampNeg) = (3 : Int32) then ((m_X5_find x1 x2 x3 x4 g).bind fun (x_7, g_8) => if x_7 = (-1 : Int32) then (some ((0 : Int32), g_8)) else (chk (inb x_7 300000) (lett (sL g_8 2 x_7.toNatClampNeg (0 : Int64)) fun g_11 => chk (inb x_7 300000) (lett (sI g_11 36 0 x_7.toNatClampNeg (vp_nar .boolean (0 : Int32))) fun g_14 => (m_X5_yes (1 : Int32) g_14).bind fun (x_17, g_18) => some (x_17, g_18))))) else ((m_X5_no (2 : Int32) g).bind fun (x_20, g_21) => some (x_20, g_21))))
set_option maxHeartbeats 4000000 in
set_option maxRecDepth 100000 in
theorem w_X5_empty {x1 : Int32} {x2 : Int32} {x3 : Int32} {x4 : Int32} (C0 : Cx p s m args c cX5_empty 6 RX5 D cy) (hr : meth.sig.returnType = (some .int)) (hk : meth.locks = false) {res : Int32 × Gs} (hl : lv_has ls 6 [(0, .ref (sb 13)), (1, .int x1), (2, .int x2), (3, .int x3), (4, .int x4)]) (M : Ws D b0 cy sb db g s H locs) (h : m_X5_empty x1 x2 x3 x4 g = some res) : W p l e ({ frames := 4, cells := 0, slots := 0, locals := 101 } : Room) s m args below meth c H locs 0 0 (MQ below (QX (some (.int res.1)) D b0 cy sb db res.2) args s 0 0 (fun q => b0 ≤ q)) (F0 m 0 ls []) := by
  obtain ⟨hx, hb, hml, hown, hts, hK⟩ := id C0
  rw [m_X5_empty] at h
  refine lv_aload_n hx hb dX5_empty_0 rfl (lv_at hl 0 rfl) ?_
  refine lv_iload_n hx hb dX5_empty_1 rfl (lv_at hl 1 rfl) ?_
  obtain ⟨x_2, hc_1, h⟩ := bnd_s h
  refine kV (As := [.int x1]) (rest := []) (stk := [.int x_2]) (val := (some (.int x_2))) (c1 := 0) (s1 := 0) C0 M (k_X5_isArray hc_1) kw_14_13 Y_X5_isArray (rv_X5 C0 M) ⟨Nat.le_of_ble_eq_true rfl, Nat.le_of_ble_eq_true rfl⟩ rfl hl.1 rfl (Nat.le_of_ble_eq_true rfl) dX5_empty_2 rfl rfl ⟨Nat.le_refl _, Nat.le_refl _⟩ rfl (fun H locs M => ?_)
  refine lv_if_ne (tgt := 15) hx hb dX5_empty_5 (by decide) (fun c_3 => ?_) (fun c_3 => ?_)
  · rw [if_neg c_3] at h
    refine lv_aload_n hx hb dX5_empty_15 rfl (lv_at hl 0 rfl) ?_
    refine gf_RX5_20 C0 M dX5_empty_16 ?_
    refine lv_iload_n hx hb dX5_empty_19 rfl (lv_at hl 1 rfl) ?_
    obtain ⟨hi_4, h⟩ := chk_s h
    refine al_Mkinds C0 M hi_4 dX5_empty_20 ?_
    refine lv_iconst (v := 3) hx hb dX5_empty_21 (by decide) ?_
    refine lv_icmp_eq (tgt := 31) hx hb dX5_empty_22 (by decide) (fun c_5 => ?_) (fun c_5 => ?_)
    · rw [if_pos c_5] at h
      refine lv_aload_n hx hb dX5_empty_31 rfl (lv_at hl 0 rfl) ?_
      refine lv_iload_n hx hb dX5_empty_32 rfl (lv_at hl 1 rfl) ?_
      refine lv_iload_n hx hb dX5_empty_33 rfl (lv_at hl 2 rfl) ?_
      refine lv_iload_n hx hb dX5_empty_34 rfl (lv_at hl 3 rfl) ?_
      refine lv_iload hx hb dX5_empty_35 (lv_at hl 4 rfl) ?_
      obtain ⟨⟨x_7, g_8⟩, hc_6, h⟩ := bnd_s h
      try dsimp only at h
      refine kV (As := [.int x1, .int x2, .int x3, .int x4]) (rest := []) (stk := [.int x_7]) (val := (some (.int x_7))) (c1 := 0) (s1 := 0) C0 M (k_X5_find hc_6) kw_21_13 Y_X5_find (rv_X5 C0 M) ⟨Nat.le_of_ble_eq_true rfl, Nat.le_of_ble_eq_true rfl⟩ rfl hl.1 rfl (Nat.le_of_ble_eq_true rfl) dX5_empty_37 rfl rfl ⟨Nat.le_refl _, Nat.le_refl _⟩ rfl (fun H locs M => ?_)
      refine lv_istore (lv' := [(5, .int x_7), (0, .ref (sb 13)), (1, .int x1), (2, .int x2), (3, .int x3), (4, .int x4)]) hx hb dX5_empty_40 hl (by decide) rfl (fun ls hl => ?_)
      refine lv_iload hx hb dX5_empty_42 (lv_at hl 0 rfl) ?_
      refine lv_iconst (v := -1) hx hb dX5_empty_44 (by decide) ?_
      refine lv_icmp_ne (tgt := 50) hx hb dX5_empty_45 (by decide) (fun c_9 => ?_) (fun c_9 => ?_)
      · rw [if_neg c_9] at h
        refine lv_aload_n hx hb dX5_empty_50 rfl (lv_at hl 1 rfl) ?_
        refine gf_RX5_42 C0 M dX5_empty_51 ?_
        refine lv_iload hx hb dX5_empty_54 (lv_at hl 0 rfl) ?_
        refine lv_lconst (v := 0) hx hb dX5_empty_56 (by decide) ?_
        obtain ⟨hi_10, h⟩ := chk_s h
        obtain ⟨g_11, hg_12, h⟩ := lett_s h
        refine as_Mpool C0 M hi_10 hg_12 dX5_empty_57 (fun H locs M => ?_)
        refine lv_aload_n hx hb dX5_empty_58 rfl (lv_at hl 1 rfl) ?_
        refine gf_RX5_46 C0 M dX5_empty_59 ?_
        refine lv_iload hx hb dX5_empty_62 (lv_at hl 0 rfl) ?_
        refine lv_iconst (v := 0) hx hb dX5_empty_64 (by decide) ?_
        obtain ⟨hi_13, h⟩ := chk_s h
        obtain ⟨g_14, hg_15, h⟩ := lett_s h
        refine as_MhasBox C0 M hi_13 hg_15 dX5_empty_65 (fun H locs M => ?_)
        refine lv_aload_n hx hb dX5_empty_66 rfl (lv_at hl 1 rfl) ?_
        refine lv_iconst (v := 1) hx hb dX5_empty_67 (by decide) ?_
        obtain ⟨⟨x_17, g_18⟩, hc_16, h⟩ := bnd_s h
        try dsimp only at h
        refine kV (As := [.int (1 : Int32)]) (rest := []) (stk := [.int x_17]) (val := (some (.int x_17))) (c1 := 0) (s1 := 0) C0 M (k_X5_yes hc_16) kw_6_12 Y_X5_yes (rv_X5 C0 M) ⟨Nat.le_of_ble_eq_true rfl, Nat.le_of_ble_eq_true rfl⟩ rfl hl.1 rfl (Nat.le_of_ble_eq_true rfl) dX5_empty_68 rfl rfl ⟨Nat.le_refl _, Nat.le_refl _⟩ rfl (fun H locs M => ?_)
        obtain rfl := Option.some.inj h
        exact rt_i C0 M hr hk dX5_empty_71
      · rw [if_pos c_9] at h
        refine lv_iconst (v := 0) hx hb dX5_empty_48 (by decide) ?_
        obtain rfl := Option.some.inj h
        exact rt_i C0 M hr hk dX5_empty_49
    · rw [if_neg c_5] at h
      refine lv_aload_n hx hb dX5_empty_25 rfl (lv_at hl 0 rfl) ?_
      refine lv_iconst (v := 2) hx hb dX5_empty_26 (by decide) ?_
      obtain ⟨⟨x_20, g_21⟩, hc_19, h⟩ := bnd_s h
      try dsimp only at h
      refine kV (As := [.int (2 : Int32)]) (rest := []) (stk := [.int x_20]) (val := (some (.int x_20))) (c1 := 0) (s1 := 0) C0 M (k_X5_no hc_19) kw_6_8 Y_X5_no (rv_X5 C0 M) ⟨Nat.le_of_ble_eq_true rfl, Nat.le_of_ble_eq_true rfl⟩ rfl hl.1 rfl (Nat.le_of_ble_eq_true rfl) dX5_empty_27 rfl rfl ⟨Nat.le_refl _, Nat.le_refl _⟩ rfl (fun H locs M => ?_)
      obtain rfl := Option.some.inj h
      exact rt_i C0 M hr hk dX5_empty_30
  · rw [if_pos c_3] at h
    refine lv_aload_n hx hb dX5_empty_8 rfl (lv_at hl 0 rfl) ?_
    refine lv_bipush (v := 7) hx hb dX5_empty_9 (by decide) ?_
    obtain ⟨⟨x_23, g_24⟩, hc_22, h⟩ := bnd_s h
    try dsimp only at h
    refine kV (As := [.int (7 : Int32)]) (rest := []) (stk := [.int x_23]) (val := (some (.int x_23))) (c1 := 0) (s1 := 0) C0 M (k_X5_no hc_22) kw_6_8 Y_X5_no (rv_X5 C0 M) ⟨Nat.le_of_ble_eq_true rfl, Nat.le_of_ble_eq_true rfl⟩ rfl hl.1 rfl (Nat.le_of_ble_eq_true rfl) dX5_empty_11 rfl rfl ⟨Nat.le_refl _, Nat.le_refl _⟩ rfl (fun H locs M => ?_)
    obtain rfl := Option.some.inj h
    exact rt_i C0 M hr hk dX5_empty_14
theorem k_X5_empty {x1 : Int32} {x2 : Int32} {x3 : Int32} {x4 : Int32} {res : Int32 × Gs} (h : m_X5_empty x1 x2 x3 x4 g = some res) : CM l yX5_empty cX5_empty 6 (some .int) ({ frames := 4, cells := 0, slots := 0, locals := 101 } : Room) [.ref (sb 13), .int x1, .int x2, .int x3, .int x4] (some (.int res.1)) D b0 cy sb db g res.2 := by
  refine Met.ofW (cc := cX5_empty) (maxL := 6) (ret := (some .int)) (by decide) rfl ?_
  intro p e s m args below meth c s₁ B hml hv
  obtain ⟨rfl, hW, hK⟩ := hv
  have hl := lv_entry [.ref (sb 13), .int x1, .int x2, .int x3, .int x4] (n := 6) (Nat.le_of_ble_eq_true rfl)
  rw [lg_entry_eq]
  generalize (lg_sl [.ref (sb 13), .int x1, .int x2, .int x3, .int x4] ++ List.replicate (6 - (lg_sl [.ref (sb 13), .int x1, .int x2, .int x3, .int x4]).length) Slot.unset).toArray = ls at hl ⊢
  have hl : lv_has ls 6 [(0, .ref (sb 13)), (1, .int x1), (2, .int x2), (3, .int x3), (4, .int x4)] := hl
  exact w_X5_empty ⟨B.exec, B.bytes, hml, findClass_of_methodNamed B.named, fun w hw => atoms_spec (ws := Cond.code yX5_empty cX5_empty 6 (some .int) :: wsL_law) B.pre w (List.mem_cons_of_mem _ hw), hK⟩ B.returns B.notSynchronized hl ⟨hW, va_S.rf⟩ h
theorem Y_X5_empty : Yv yX5_empty RX5 cX5_empty 6 (some .int) 4 := ⟨⟨kw_23_5, kw_1_5, by decide +kernel, by decide +kernel, by decide +kernel⟩, kw_23_3, kw_23_4⟩
-- X5_pair
def m_X5_pair (x1 : Int32) (x2 : Int32) (x3 : Int32) (y4 : Int64) (g : Gs) : Option (Int32 × Gs) :=
  if (g.1 39 0 0) = (30 : Int32) then ((m_X5_no (8 : Int32) g).bind fun (x_20, g_21) => some (x_20, g_21)) else (chk (inb (g.1 39 0 0) 30) (lett (sI g 40 0 (g.1 39 0 0).toNatClampNeg x1) fun g_3 => chk (inb (g_3.1 39 0 0) 30) (lett (sI g_3 41 0 (g_3.1 39 0 0).toNatClampNeg x2) fun g_6 => chk (inb (g_6.1 39 0 0) 30) (lett (sI g_6 42 0 (g_6.1 39 0 0).toNatClampNeg x3) fun g_9 => chk (inb (g_9.1 39 0 0) 30) (lett (sL g_9 3 (g_9.1 39 0 0).toNatClampNeg y4) fun g_12 => lett (sI g_12 39 0 0 ((g_12.1 39 0 0) + (1 : Int32))) fun g_14 => (m_X5_yes (g_14.1 39 0 0) g_14).bind fun (x_17, g_18) => some (x_17, g_18))))))
set_option maxHeartbeats 4000000 in
set_option maxRecDepth 100000 in
theorem w_X5_pair {x1 : Int32} {x2 : Int32} {x3 : Int32} {y4 : Int64} (C0 : Cx p s m args c cX5_pair 6 RX5 D cy) (hr : meth.sig.returnType = (some .int)) (hk : meth.locks = false) {res : Int32 × Gs} (hl : lv_has ls 6 [(0, .ref (sb 13)), (1, .int x1), (2, .int x2), (3, .int x3), (4, .long y4)]) (M : Ws D b0 cy sb db g s H locs) (h : m_X5_pair x1 x2 x3 y4 g = some res) : W p l e ({ frames := 1, cells := 0, slots := 0, locals := 21 } : Room) s m args below meth c H locs 0 0 (MQ below (QX (some (.int res.1)) D b0 cy sb db res.2) args s 0 0 (fun q => b0 ≤ q)) (F0 m 0 ls []) := by
  obtain ⟨hx, hb, hml, hown, hts, hK⟩ := id C0
  rw [m_X5_pair] at h
  refine lv_aload_n hx hb dX5_pair_0 rfl (lv_at hl 0 rfl) ?_
  refine gf_RX5_175 C0 M dX5_pair_1 ?_
  refine lv_bipush (v := 30) hx hb dX5_pair_4 (by decide) ?_
  refine lv_icmp_ne (tgt := 16) hx hb dX5_pair_6 (by decide) (fun c_1 => ?_) (fun c_1 => ?_)
  · rw [if_neg c_1] at h
    refine lv_aload_n hx hb dX5_pair_16 rfl (lv_at hl 0 rfl) ?_
    refine gf_RX5_53 C0 M dX5_pair_17 ?_
    refine lv_aload_n hx hb dX5_pair_20 rfl (lv_at hl 0 rfl) ?_
    refine gf_RX5_175 C0 M dX5_pair_21 ?_
    refine lv_iload_n hx hb dX5_pair_24 rfl (lv_at hl 1 rfl) ?_
    obtain ⟨hi_2, h⟩ := chk_s h
    obtain ⟨g_3, hg_4, h⟩ := lett_s h
    refine as_MlineI C0 M hi_2 hg_4 dX5_pair_25 (fun H locs M => ?_)
    refine lv_aload_n hx hb dX5_pair_26 rfl (lv_at hl 0 rfl) ?_
    refine gf_RX5_56 C0 M dX5_pair_27 ?_
    refine lv_aload_n hx hb dX5_pair_30 rfl (lv_at hl 0 rfl) ?_
    refine gf_RX5_175 C0 M dX5_pair_31 ?_
    refine lv_iload_n hx hb dX5_pair_34 rfl (lv_at hl 2 rfl) ?_
    obtain ⟨hi_5, h⟩ := chk_s h
    obtain ⟨g_6, hg_7, h⟩ := lett_s h
    refine as_MlineJ C0 M hi_5 hg_7 dX5_pair_35 (fun H locs M => ?_)
    refine lv_aload_n hx hb dX5_pair_36 rfl (lv_at hl 0 rfl) ?_
    refine gf_RX5_59 C0 M dX5_pair_37 ?_
    refine lv_aload_n hx hb dX5_pair_40 rfl (lv_at hl 0 rfl) ?_
    refine gf_RX5_175 C0 M dX5_pair_41 ?_
    refine lv_iload_n hx hb dX5_pair_44 rfl (lv_at hl 3 rfl) ?_
    obtain ⟨hi_8, h⟩ := chk_s h
    obtain ⟨g_9, hg_10, h⟩ := lett_s h
    refine as_MlineK C0 M hi_8 hg_10 dX5_pair_45 (fun H locs M => ?_)
    refine lv_aload_n hx hb dX5_pair_46 rfl (lv_at hl 0 rfl) ?_
    refine gf_RX5_62 C0 M dX5_pair_47 ?_
    refine lv_aload_n hx hb dX5_pair_50 rfl (lv_at hl 0 rfl) ?_
    refine gf_RX5_175 C0 M dX5_pair_51 ?_
    refine lv_lload hx hb dX5_pair_54 (lv_at hl 4 rfl) ?_
    obtain ⟨hi_11, h⟩ := chk_s h
    obtain ⟨g_12, hg_13, h⟩ := lett_s h
    refine as_MlineV C0 M hi_11 hg_13 dX5_pair_56 (fun H locs M => ?_)
    refine lv_aload_n hx hb dX5_pair_57 rfl (lv_at hl 0 rfl) ?_
    refine lv_dup hx hb dX5_pair_58 rfl ?_
    refine gf_RX5_175 C0 M dX5_pair_59 ?_
    refine lv_iconst (v := 1) hx hb dX5_pair_62 (by decide) ?_
    refine lv_iadd hx hb dX5_pair_63 ?_
    obtain ⟨g_14, hg_15, h⟩ := lett_s h
    refine pf_RX5_175 C0 M hg_15 dX5_pair_64 (fun H locs M => ?_)
    refine lv_aload_n hx hb dX5_pair_67 rfl (lv_at hl 0 rfl) ?_
    refine lv_aload_n hx hb dX5_pair_68 rfl (lv_at hl 0 rfl) ?_
    refine gf_RX5_175 C0 M dX5_pair_69 ?_
    obtain ⟨⟨x_17, g_18⟩, hc_16, h⟩ := bnd_s h
    try dsimp only at h
    refine kV (As := [.int (g_14.1 39 0 0)]) (rest := []) (stk := [.int x_17]) (val := (some (.int x_17))) (c1 := 0) (s1 := 0) C0 M (k_X5_yes hc_16) kw_6_12 Y_X5_yes (rv_X5 C0 M) ⟨Nat.le_of_ble_eq_true rfl, Nat.le_of_ble_eq_true rfl⟩ rfl hl.1 rfl (Nat.le_of_ble_eq_true rfl) dX5_pair_72 rfl rfl ⟨Nat.le_refl _, Nat.le_refl _⟩ rfl (fun H locs M => ?_)
    obtain rfl := Option.some.inj h
    exact rt_i C0 M hr hk dX5_pair_75
  · rw [if_pos c_1] at h
    refine lv_aload_n hx hb dX5_pair_9 rfl (lv_at hl 0 rfl) ?_
    refine lv_bipush (v := 8) hx hb dX5_pair_10 (by decide) ?_
    obtain ⟨⟨x_20, g_21⟩, hc_19, h⟩ := bnd_s h
    try dsimp only at h
    refine kV (As := [.int (8 : Int32)]) (rest := []) (stk := [.int x_20]) (val := (some (.int x_20))) (c1 := 0) (s1 := 0) C0 M (k_X5_no hc_19) kw_6_8 Y_X5_no (rv_X5 C0 M) ⟨Nat.le_of_ble_eq_true rfl, Nat.le_of_ble_eq_true rfl⟩ rfl hl.1 rfl (Nat.le_of_ble_eq_true rfl) dX5_pair_12 rfl rfl ⟨Nat.le_refl _, Nat.le_refl _⟩ rfl (fun H locs M => ?_)
    obtain rfl := Option.some.inj h
    exact rt_i C0 M hr hk dX5_pair_15
theorem k_X5_pair {x1 : Int32} {x2 : Int32} {x3 : Int32} {y4 : Int64} {res : Int32 × Gs} (h : m_X5_pair x1 x2 x3 y4 g = some res) : CM l yX5_pair cX5_pair 6 (some .int) ({ frames := 1, cells := 0, slots := 0, locals := 21 } : Room) [.ref (sb 13), .int x1, .int x2, .int x3, .long y4] (some (.int res.1)) D b0 cy sb db g res.2 := by
  refine Met.ofW (cc := cX5_pair) (maxL := 6) (ret := (some .int)) (by decide) rfl ?_
  intro p e s m args below meth c s₁ B hml hv
  obtain ⟨rfl, hW, hK⟩ := hv
  have hl := lv_entry [.ref (sb 13), .int x1, .int x2, .int x3, .long y4] (n := 6) (Nat.le_of_ble_eq_true rfl)
  rw [lg_entry_eq]
  generalize (lg_sl [.ref (sb 13), .int x1, .int x2, .int x3, .long y4] ++ List.replicate (6 - (lg_sl [.ref (sb 13), .int x1, .int x2, .int x3, .long y4]).length) Slot.unset).toArray = ls at hl ⊢
  have hl : lv_has ls 6 [(0, .ref (sb 13)), (1, .int x1), (2, .int x2), (3, .int x3), (4, .long y4)] := hl
  exact w_X5_pair ⟨B.exec, B.bytes, hml, findClass_of_methodNamed B.named, fun w hw => atoms_spec (ws := Cond.code yX5_pair cX5_pair 6 (some .int) :: wsL_law) B.pre w (List.mem_cons_of_mem _ hw), hK⟩ B.returns B.notSynchronized hl ⟨hW, va_S.rf⟩ h
theorem Y_X5_pair : Yv yX5_pair RX5 cX5_pair 6 (some .int) 4 := ⟨⟨kw_23_19, kw_1_5, by decide +kernel, by decide +kernel, by decide +kernel⟩, kw_23_17, kw_23_18⟩
-- X5_joins
def m_X5_joins_J171 (x1 : Int32) (x2 : Int32) (y8 : Int64) (g : Gs) : Option (Int32 × Gs) :=
  (m_X5_lay x1 x2 y8 g).bind fun g_12 => chk ((1 : Int32) &&& 1 = (1 : Int32)) (some ((1 : Int32), g_12))
def m_X5_joins_J169 (x1 : Int32) (x2 : Int32) (ys0 : Int64) (g : Gs) : Option (Int32 × Gs) :=
  m_X5_joins_J171 x1 x2 ys0 g
def m_X5_joins_J141 (x1 : Int32) (x2 : Int32) (ys0 : Int64) (g : Gs) : Option (Int32 × Gs) :=
  m_X5_joins_J171 x1 x2 ys0 g
def m_X5_joins_J110 (x1 : Int32) (x2 : Int32) (ys0 : Int64) (g : Gs) : Option (Int32 × Gs) :=
  m_X5_joins_J171 x1 x2 ys0 g
def m_X5_joins_J85 (x1 : Int32) (x2 : Int32) (ys0 : Int64) (g : Gs) : Option (Int32 × Gs) :=
  m_X5_joins_J171 x1 x2 ys0 g
def m_X5_joins_J46 (x1 : Int32) (x2 : Int32) (x3 : Int32) (y4 : Int64) (y6 : Int64) (g : Gs) : Option (Int32 × Gs) :=
  if x3 = (1 : Int32) then (lett (y6 + y4) fun y_20 => m_X5_joins_J171 x1 x2 y_20 g) else (if x3 = (2 : Int32) then (if (lg_cmp y6 y4) ≤ 0 then (m_X5_joins_J85 x1 x2 y4 g) else (m_X5_joins_J85 x1 x2 y6 g)) else (if x3 = (3 : Int32) then (if 0 ≤ (lg_cmp y6 y4) then (m_X5_joins_J110 x1 x2 y4 g) else (m_X5_joins_J110 x1 x2 y6 g)) else (if x3 = (4 : Int32) then (if (lg_cmp y4 (-1 : Int64)) = 0 then (m_X5_joins_J141 x1 x2 ((0 : Int64) - y6) g) else (chk (¬ y4 = 0) (m_X5_joins_J141 x1 x2 (y6 / y4) g))) else (if x3 = (5 : Int32) then (if (lg_cmp y4 (-1 : Int64)) = 0 then (m_X5_joins_J169 x1 x2 (0 : Int64) g) else (chk (¬ y4 = 0) (m_X5_joins_J169 x1 x2 (y6 - y6 / y4 * y4) g))) else (m_X5_joins_J171 x1 x2 y4 g)))))
def m_X5_joins_J24 (x1 : Int32) (x2 : Int32) (x3 : Int32) (y4 : Int64) (g : Gs) : Option (Int32 × Gs) :=
  chk (inb x1 300000) (lett (g.2.1 2 x1.toNatClampNeg) fun y_3 => if x3 ≤ (3 : Int32) then (m_X5_joins_J46 x1 x2 x3 y4 y_3 g) else (if (lg_cmp y4 (0 : Int64)) = 0 then (chk ((0 : Int32) &&& 1 = (0 : Int32)) (some ((0 : Int32), g))) else (m_X5_joins_J46 x1 x2 x3 y4 y_3 g)))
def m_X5_joins (x1 : Int32) (x2 : Int32) (x3 : Int32) (y4 : Int64) (g : Gs) : Option (Int32 × Gs) :=
  if x2 = (3 : Int32) then (chk (inb x1 300000) (if (g.1 36 0 x1.toNatClampNeg) = 0 then ((m_X5_lay x1 x2 y4 g).bind fun g_27 => chk ((1 : Int32) &&& 1 = (1 : Int32)) (some ((1 : Int32), g_27))) else (m_X5_joins_J24 x1 x2 x3 y4 g))) else (m_X5_joins_J24 x1 x2 x3 y4 g)
set_option maxHeartbeats 4000000 in
set_option maxRecDepth 100000 in
theorem w_X5_joins_J171 {x1 : Int32} {x2 : Int32} {y8 : Int64} (C0 : Cx p s m args c cX5_joins 10 RX5 D cy) (hr : meth.sig.returnType = (some .boolean)) (hk : meth.locks = false) {res : Int32 × Gs} (hl : lv_has ls 10 [(0, .ref (sb 13)), (1, .int x1), (2, .int x2), (8, .long y8)]) (M : Ws D b0 cy sb db g s H locs) (h : m_X5_joins_J171 x1 x2 y8 g = some res) : W p l e ({ frames := 2, cells := 0, slots := 0, locals := 48 } : Room) s m args below meth c H locs 0 0 (MQ below (QX (some (.int res.1)) D b0 cy sb db res.2) args s 0 0 (fun q => b0 ≤ q)) (F0 m 171 ls []) := by
  obtain ⟨hx, hb, hml, hown, hts, hK⟩ := id C0
  rw [m_X5_joins_J171] at h
  refine lv_aload_n hx hb dX5_joins_171 rfl (lv_at hl 0 rfl) ?_
  refine lv_iload_n hx hb dX5_joins_172 rfl (lv_at hl 1 rfl) ?_
  refine lv_iload_n hx hb dX5_joins_173 rfl (lv_at hl 2 rfl) ?_
  refine lv_lload hx hb dX5_joins_174 (lv_at hl 3 rfl) ?_
  obtain ⟨g_12, hc_11, h⟩ := bnd_s h
  refine kV (As := [.int x1, .int x2, .long y8]) (rest := []) (stk := []) (val := none) (c1 := 0) (s1 := 0) C0 M (k_X5_lay hc_11) kw_22_8 Y_X5_lay (rv_X5 C0 M) ⟨Nat.le_of_ble_eq_true rfl, Nat.le_of_ble_eq_true rfl⟩ rfl hl.1 rfl (Nat.le_of_ble_eq_true rfl) dX5_joins_176 rfl rfl ⟨Nat.le_refl _, Nat.le_refl _⟩ rfl (fun H locs M => ?_)
  refine lv_iconst (v := 1) hx hb dX5_joins_179 (by decide) ?_
  obtain ⟨hz_13, h⟩ := chk_s h
  obtain rfl := Option.some.inj h
  exact rt_z C0 M hr hk hz_13 dX5_joins_180
set_option maxHeartbeats 4000000 in
set_option maxRecDepth 100000 in
theorem w_X5_joins_J169 {x1 : Int32} {x2 : Int32} {ys0 : Int64} (C0 : Cx p s m args c cX5_joins 10 RX5 D cy) (hr : meth.sig.returnType = (some .boolean)) (hk : meth.locks = false) {res : Int32 × Gs} (hl : lv_has ls 10 [(0, .ref (sb 13)), (1, .int x1), (2, .int x2)]) (M : Ws D b0 cy sb db g s H locs) (h : m_X5_joins_J169 x1 x2 ys0 g = some res) : W p l e ({ frames := 2, cells := 0, slots := 0, locals := 48 } : Room) s m args below meth c H locs 0 0 (MQ below (QX (some (.int res.1)) D b0 cy sb db res.2) args s 0 0 (fun q => b0 ≤ q)) (F0 m 169 ls [.long ys0]) := by
  obtain ⟨hx, hb, hml, hown, hts, hK⟩ := id C0
  rw [m_X5_joins_J169] at h
  refine lv_lstore (lv' := [(8, .long ys0), (0, .ref (sb 13)), (1, .int x1), (2, .int x2)]) hx hb dX5_joins_169 hl (by decide) rfl (fun ls hl => ?_)
  exact w_X5_joins_J171 C0 hr hk (lv_sub hl [1, 2, 3, 0] rfl) M h
set_option maxHeartbeats 4000000 in
set_option maxRecDepth 100000 in
theorem w_X5_joins_J141 {x1 : Int32} {x2 : Int32} {ys0 : Int64} (C0 : Cx p s m args c cX5_joins 10 RX5 D cy) (hr : meth.sig.returnType = (some .boolean)) (hk : meth.locks = false) {res : Int32 × Gs} (hl : lv_has ls 10 [(0, .ref (sb 13)), (1, .int x1), (2, .int x2)]) (M : Ws D b0 cy sb db g s H locs) (h : m_X5_joins_J141 x1 x2 ys0 g = some res) : W p l e ({ frames := 2, cells := 0, slots := 0, locals := 48 } : Room) s m args below meth c H locs 0 0 (MQ below (QX (some (.int res.1)) D b0 cy sb db res.2) args s 0 0 (fun q => b0 ≤ q)) (F0 m 141 ls [.long ys0]) := by
  obtain ⟨hx, hb, hml, hown, hts, hK⟩ := id C0
  rw [m_X5_joins_J141] at h
  refine lv_lstore (lv' := [(8, .long ys0), (0, .ref (sb 13)), (1, .int x1), (2, .int x2)]) hx hb dX5_joins_141 hl (by decide) rfl (fun ls hl => ?_)
  refine lv_goto (tgt := 171) hx hb dX5_joins_143 (by decide) ?_
  exact w_X5_joins_J171 C0 hr hk (lv_sub hl [1, 2, 3, 0] rfl) M h
set_option maxHeartbeats 4000000 in
set_option maxRecDepth 100000 in
theorem w_X5_joins_J110 {x1 : Int32} {x2 : Int32} {ys0 : Int64} (C0 : Cx p s m args c cX5_joins 10 RX5 D cy) (hr : meth.sig.returnType = (some .boolean)) (hk : meth.locks = false) {res : Int32 × Gs} (hl : lv_has ls 10 [(0, .ref (sb 13)), (1, .int x1), (2, .int x2)]) (M : Ws D b0 cy sb db g s H locs) (h : m_X5_joins_J110 x1 x2 ys0 g = some res) : W p l e ({ frames := 2, cells := 0, slots := 0, locals := 48 } : Room) s m args below meth c H locs 0 0 (MQ below (QX (some (.int res.1)) D b0 cy sb db res.2) args s 0 0 (fun q => b0 ≤ q)) (F0 m 110 ls [.long ys0]) := by
  obtain ⟨hx, hb, hml, hown, hts, hK⟩ := id C0
  rw [m_X5_joins_J110] at h
  refine lv_lstore (lv' := [(8, .long ys0), (0, .ref (sb 13)), (1, .int x1), (2, .int x2)]) hx hb dX5_joins_110 hl (by decide) rfl (fun ls hl => ?_)
  refine lv_goto (tgt := 171) hx hb dX5_joins_112 (by decide) ?_
  exact w_X5_joins_J171 C0 hr hk (lv_sub hl [1, 2, 3, 0] rfl) M h
set_option maxHeartbeats 4000000 in
set_option maxRecDepth 100000 in
theorem w_X5_joins_J85 {x1 : Int32} {x2 : Int32} {ys0 : Int64} (C0 : Cx p s m args c cX5_joins 10 RX5 D cy) (hr : meth.sig.returnType = (some .boolean)) (hk : meth.locks = false) {res : Int32 × Gs} (hl : lv_has ls 10 [(0, .ref (sb 13)), (1, .int x1), (2, .int x2)]) (M : Ws D b0 cy sb db g s H locs) (h : m_X5_joins_J85 x1 x2 ys0 g = some res) : W p l e ({ frames := 2, cells := 0, slots := 0, locals := 48 } : Room) s m args below meth c H locs 0 0 (MQ below (QX (some (.int res.1)) D b0 cy sb db res.2) args s 0 0 (fun q => b0 ≤ q)) (F0 m 85 ls [.long ys0]) := by
  obtain ⟨hx, hb, hml, hown, hts, hK⟩ := id C0
  rw [m_X5_joins_J85] at h
  refine lv_lstore (lv' := [(8, .long ys0), (0, .ref (sb 13)), (1, .int x1), (2, .int x2)]) hx hb dX5_joins_85 hl (by decide) rfl (fun ls hl => ?_)
  refine lv_goto (tgt := 171) hx hb dX5_joins_87 (by decide) ?_
  exact w_X5_joins_J171 C0 hr hk (lv_sub hl [1, 2, 3, 0] rfl) M h
set_option maxHeartbeats 4000000 in
set_option maxRecDepth 100000 in
theorem w_X5_joins_J46 {x1 : Int32} {x2 : Int32} {x3 : Int32} {y4 : Int64} {y6 : Int64} (C0 : Cx p s m args c cX5_joins 10 RX5 D cy) (hr : meth.sig.returnType = (some .boolean)) (hk : meth.locks = false) {res : Int32 × Gs} (hl : lv_has ls 10 [(0, .ref (sb 13)), (1, .int x1), (2, .int x2), (3, .int x3), (4, .long y4), (6, .long y6)]) (M : Ws D b0 cy sb db g s H locs) (h : m_X5_joins_J46 x1 x2 x3 y4 y6 g = some res) : W p l e ({ frames := 2, cells := 0, slots := 0, locals := 48 } : Room) s m args below meth c H locs 0 0 (MQ below (QX (some (.int res.1)) D b0 cy sb db res.2) args s 0 0 (fun q => b0 ≤ q)) (F0 m 46 ls []) := by
  obtain ⟨hx, hb, hml, hown, hts, hK⟩ := id C0
  rw [m_X5_joins_J46] at h
  refine lv_lload hx hb dX5_joins_46 (lv_at hl 4 rfl) ?_
  refine lv_lstore (lv' := [(8, .long y4), (0, .ref (sb 13)), (1, .int x1), (2, .int x2), (3, .int x3), (4, .long y4), (6, .long y6)]) hx hb dX5_joins_48 hl (by decide) rfl (fun ls hl => ?_)
  refine lv_iload_n hx hb dX5_joins_50 rfl (lv_at hl 4 rfl) ?_
  refine lv_iconst (v := 1) hx hb dX5_joins_51 (by decide) ?_
  refine lv_icmp_ne (tgt := 65) hx hb dX5_joins_52 (by decide) (fun c_6 => ?_) (fun c_6 => ?_)
  · rw [if_neg c_6] at h
    refine lv_iload_n hx hb dX5_joins_65 rfl (lv_at hl 4 rfl) ?_
    refine lv_iconst (v := 2) hx hb dX5_joins_66 (by decide) ?_
    refine lv_icmp_ne (tgt := 90) hx hb dX5_joins_67 (by decide) (fun c_7 => ?_) (fun c_7 => ?_)
    · rw [if_neg c_7] at h
      refine lv_iload_n hx hb dX5_joins_90 rfl (lv_at hl 4 rfl) ?_
      refine lv_iconst (v := 3) hx hb dX5_joins_91 (by decide) ?_
      refine lv_icmp_ne (tgt := 115) hx hb dX5_joins_92 (by decide) (fun c_8 => ?_) (fun c_8 => ?_)
      · rw [if_neg c_8] at h
        refine lv_iload_n hx hb dX5_joins_115 rfl (lv_at hl 4 rfl) ?_
        refine lv_iconst (v := 4) hx hb dX5_joins_116 (by decide) ?_
        refine lv_icmp_ne (tgt := 146) hx hb dX5_joins_117 (by decide) (fun c_9 => ?_) (fun c_9 => ?_)
        · rw [if_neg c_9] at h
          refine lv_iload_n hx hb dX5_joins_146 rfl (lv_at hl 4 rfl) ?_
          refine lv_iconst (v := 5) hx hb dX5_joins_147 (by decide) ?_
          refine lv_icmp_ne (tgt := 171) hx hb dX5_joins_148 (by decide) (fun c_10 => ?_) (fun c_10 => ?_)
          · rw [if_neg c_10] at h
            exact w_X5_joins_J171 C0 hr hk (lv_sub hl [1, 2, 3, 0] rfl) M h
          · rw [if_pos c_10] at h
            refine lv_lload hx hb dX5_joins_151 (lv_at hl 5 rfl) ?_
            refine lv_ldc2 (v := -1) hx hb hown (hts _ kw_24_23) dX5_joins_153 ?_
            refine W.lcmp hx hb dX5_joins_156 ?_
            refine lv_if_ne (tgt := 164) hx hb dX5_joins_157 (by decide) (fun c_14 => ?_) (fun c_14 => ?_)
            · rw [if_neg c_14] at h
              refine lv_lload hx hb dX5_joins_164 (lv_at hl 6 rfl) ?_
              refine lv_lload hx hb dX5_joins_166 (lv_at hl 5 rfl) ?_
              obtain ⟨hd_15, h⟩ := chk_s h
              refine lv_lrem hx hb dX5_joins_168 hd_15 ?_
              exact w_X5_joins_J169 C0 hr hk (lv_sub hl [1, 2, 3] rfl) M h
            · rw [if_pos c_14] at h
              refine lv_lconst (v := 0) hx hb dX5_joins_160 (by decide) ?_
              refine lv_goto (tgt := 169) hx hb dX5_joins_161 (by decide) ?_
              exact w_X5_joins_J169 C0 hr hk (lv_sub hl [1, 2, 3] rfl) M h
        · rw [if_pos c_9] at h
          refine lv_lload hx hb dX5_joins_120 (lv_at hl 5 rfl) ?_
          refine lv_ldc2 (v := -1) hx hb hown (hts _ kw_24_23) dX5_joins_122 ?_
          refine W.lcmp hx hb dX5_joins_125 ?_
          refine lv_if_ne (tgt := 136) hx hb dX5_joins_126 (by decide) (fun c_16 => ?_) (fun c_16 => ?_)
          · rw [if_neg c_16] at h
            refine lv_lload hx hb dX5_joins_136 (lv_at hl 6 rfl) ?_
            refine lv_lload hx hb dX5_joins_138 (lv_at hl 5 rfl) ?_
            obtain ⟨hd_17, h⟩ := chk_s h
            refine lv_ldiv hx hb dX5_joins_140 hd_17 ?_
            exact w_X5_joins_J141 C0 hr hk (lv_sub hl [1, 2, 3] rfl) M h
          · rw [if_pos c_16] at h
            refine lv_lconst (v := 0) hx hb dX5_joins_129 (by decide) ?_
            refine lv_lload hx hb dX5_joins_130 (lv_at hl 6 rfl) ?_
            refine lv_lsub hx hb dX5_joins_132 ?_
            refine lv_goto (tgt := 141) hx hb dX5_joins_133 (by decide) ?_
            exact w_X5_joins_J141 C0 hr hk (lv_sub hl [1, 2, 3] rfl) M h
      · rw [if_pos c_8] at h
        refine lv_lload hx hb dX5_joins_95 (lv_at hl 6 rfl) ?_
        refine lv_lload hx hb dX5_joins_97 (lv_at hl 5 rfl) ?_
        refine W.lcmp hx hb dX5_joins_99 ?_
        refine lv_if_ge (tgt := 108) hx hb dX5_joins_100 (by decide) (fun c_18 => ?_) (fun c_18 => ?_)
        · rw [if_pos c_18] at h
          refine lv_lload hx hb dX5_joins_108 (lv_at hl 5 rfl) ?_
          exact w_X5_joins_J110 C0 hr hk (lv_sub hl [1, 2, 3] rfl) M h
        · rw [if_neg c_18] at h
          refine lv_lload hx hb dX5_joins_103 (lv_at hl 6 rfl) ?_
          refine lv_goto (tgt := 110) hx hb dX5_joins_105 (by decide) ?_
          exact w_X5_joins_J110 C0 hr hk (lv_sub hl [1, 2, 3] rfl) M h
    · rw [if_pos c_7] at h
      refine lv_lload hx hb dX5_joins_70 (lv_at hl 6 rfl) ?_
      refine lv_lload hx hb dX5_joins_72 (lv_at hl 5 rfl) ?_
      refine W.lcmp hx hb dX5_joins_74 ?_
      refine lv_if_le (tgt := 83) hx hb dX5_joins_75 (by decide) (fun c_19 => ?_) (fun c_19 => ?_)
      · rw [if_pos c_19] at h
        refine lv_lload hx hb dX5_joins_83 (lv_at hl 5 rfl) ?_
        exact w_X5_joins_J85 C0 hr hk (lv_sub hl [1, 2, 3] rfl) M h
      · rw [if_neg c_19] at h
        refine lv_lload hx hb dX5_joins_78 (lv_at hl 6 rfl) ?_
        refine lv_goto (tgt := 85) hx hb dX5_joins_80 (by decide) ?_
        exact w_X5_joins_J85 C0 hr hk (lv_sub hl [1, 2, 3] rfl) M h
  · rw [if_pos c_6] at h
    refine lv_lload hx hb dX5_joins_55 (lv_at hl 6 rfl) ?_
    refine lv_lload hx hb dX5_joins_57 (lv_at hl 5 rfl) ?_
    refine lv_ladd hx hb dX5_joins_59 ?_
    obtain ⟨y_20, hn_21, h⟩ := lett_s h
    refine nm_l hn_21 ?_
    refine lv_lstore (lv' := [(8, .long y_20), (0, .ref (sb 13)), (1, .int x1), (2, .int x2), (3, .int x3), (4, .long y4), (6, .long y6)]) hx hb dX5_joins_60 hl (by decide) rfl (fun ls hl => ?_)
    refine lv_goto (tgt := 171) hx hb dX5_joins_62 (by decide) ?_
    exact w_X5_joins_J171 C0 hr hk (lv_sub hl [1, 2, 3, 0] rfl) M h
set_option maxHeartbeats 4000000 in
set_option maxRecDepth 100000 in
theorem w_X5_joins_J24 {x1 : Int32} {x2 : Int32} {x3 : Int32} {y4 : Int64} (C0 : Cx p s m args c cX5_joins 10 RX5 D cy) (hr : meth.sig.returnType = (some .boolean)) (hk : meth.locks = false) {res : Int32 × Gs} (hl : lv_has ls 10 [(0, .ref (sb 13)), (1, .int x1), (2, .int x2), (3, .int x3), (4, .long y4)]) (M : Ws D b0 cy sb db g s H locs) (h : m_X5_joins_J24 x1 x2 x3 y4 g = some res) : W p l e ({ frames := 2, cells := 0, slots := 0, locals := 48 } : Room) s m args below meth c H locs 0 0 (MQ below (QX (some (.int res.1)) D b0 cy sb db res.2) args s 0 0 (fun q => b0 ≤ q)) (F0 m 24 ls []) := by
  obtain ⟨hx, hb, hml, hown, hts, hK⟩ := id C0
  rw [m_X5_joins_J24] at h
  refine lv_aload_n hx hb dX5_joins_24 rfl (lv_at hl 0 rfl) ?_
  refine gf_RX5_42 C0 M dX5_joins_25 ?_
  refine lv_iload_n hx hb dX5_joins_28 rfl (lv_at hl 1 rfl) ?_
  obtain ⟨hi_2, h⟩ := chk_s h
  refine al_Mpool C0 M hi_2 dX5_joins_29 ?_
  obtain ⟨y_3, hn_4, h⟩ := lett_s h
  refine nm_l hn_4 ?_
  refine lv_lstore (lv' := [(6, .long y_3), (0, .ref (sb 13)), (1, .int x1), (2, .int x2), (3, .int x3), (4, .long y4)]) hx hb dX5_joins_30 hl (by decide) rfl (fun ls hl => ?_)
  refine lv_iload_n hx hb dX5_joins_32 rfl (lv_at hl 4 rfl) ?_
  refine lv_iconst (v := 3) hx hb dX5_joins_33 (by decide) ?_
  refine lv_icmp_le (tgt := 46) hx hb dX5_joins_34 (by decide) (fun c_5 => ?_) (fun c_5 => ?_)
  · rw [if_pos c_5] at h
    exact w_X5_joins_J46 C0 hr hk (lv_sub hl [1, 2, 3, 4, 5, 0] rfl) M h
  · rw [if_neg c_5] at h
    refine lv_lload hx hb dX5_joins_37 (lv_at hl 5 rfl) ?_
    refine lv_lconst (v := 0) hx hb dX5_joins_39 (by decide) ?_
    refine W.lcmp hx hb dX5_joins_40 ?_
    refine lv_if_ne (tgt := 46) hx hb dX5_joins_41 (by decide) (fun c_22 => ?_) (fun c_22 => ?_)
    · rw [if_neg c_22] at h
      exact w_X5_joins_J46 C0 hr hk (lv_sub hl [1, 2, 3, 4, 5, 0] rfl) M h
    · rw [if_pos c_22] at h
      refine lv_iconst (v := 0) hx hb dX5_joins_44 (by decide) ?_
      obtain ⟨hz_23, h⟩ := chk_s h
      obtain rfl := Option.some.inj h
      exact rt_z C0 M hr hk hz_23 dX5_joins_45
set_option maxHeartbeats 4000000 in
set_option maxRecDepth 100000 in
theorem w_X5_joins {x1 : Int32} {x2 : Int32} {x3 : Int32} {y4 : Int64} (C0 : Cx p s m args c cX5_joins 10 RX5 D cy) (hr : meth.sig.returnType = (some .boolean)) (hk : meth.locks = false) {res : Int32 × Gs} (hl : lv_has ls 10 [(0, .ref (sb 13)), (1, .int x1), (2, .int x2), (3, .int x3), (4, .long y4)]) (M : Ws D b0 cy sb db g s H locs) (h : m_X5_joins x1 x2 x3 y4 g = some res) : W p l e ({ frames := 2, cells := 0, slots := 0, locals := 48 } : Room) s m args below meth c H locs 0 0 (MQ below (QX (some (.int res.1)) D b0 cy sb db res.2) args s 0 0 (fun q => b0 ≤ q)) (F0 m 0 ls []) := by
  obtain ⟨hx, hb, hml, hown, hts, hK⟩ := id C0
  rw [m_X5_joins] at h
  refine lv_iload_n hx hb dX5_joins_0 rfl (lv_at hl 2 rfl) ?_
  refine lv_iconst (v := 3) hx hb dX5_joins_1 (by decide) ?_
  refine lv_icmp_ne (tgt := 24) hx hb dX5_joins_2 (by decide) (fun c_1 => ?_) (fun c_1 => ?_)
  · rw [if_neg c_1] at h
    exact w_X5_joins_J24 C0 hr hk hl M h
  · rw [if_pos c_1] at h
    refine lv_aload_n hx hb dX5_joins_5 rfl (lv_at hl 0 rfl) ?_
    refine gf_RX5_46 C0 M dX5_joins_6 ?_
    refine lv_iload_n hx hb dX5_joins_9 rfl (lv_at hl 1 rfl) ?_
    obtain ⟨hi_24, h⟩ := chk_s h
    refine al_MhasBox C0 M hi_24 dX5_joins_10 ?_
    refine lv_if_ne (tgt := 24) hx hb dX5_joins_11 (by decide) (fun c_25 => ?_) (fun c_25 => ?_)
    · rw [if_neg c_25] at h
      exact w_X5_joins_J24 C0 hr hk hl M h
    · rw [if_pos c_25] at h
      refine lv_aload_n hx hb dX5_joins_14 rfl (lv_at hl 0 rfl) ?_
      refine lv_iload_n hx hb dX5_joins_15 rfl (lv_at hl 1 rfl) ?_
      refine lv_iload_n hx hb dX5_joins_16 rfl (lv_at hl 2 rfl) ?_
      refine lv_lload hx hb dX5_joins_17 (lv_at hl 4 rfl) ?_
      obtain ⟨g_27, hc_26, h⟩ := bnd_s h
      refine kV (As := [.int x1, .int x2, .long y4]) (rest := []) (stk := []) (val := none) (c1 := 0) (s1 := 0) C0 M (k_X5_lay hc_26) kw_22_8 Y_X5_lay (rv_X5 C0 M) ⟨Nat.le_of_ble_eq_true rfl, Nat.le_of_ble_eq_true rfl⟩ rfl hl.1 rfl (Nat.le_of_ble_eq_true rfl) dX5_joins_19 rfl rfl ⟨Nat.le_refl _, Nat.le_refl _⟩ rfl (fun H locs M => ?_)
      refine lv_iconst (v := 1) hx hb dX5_joins_22 (by decide) ?_
      obtain ⟨hz_28, h⟩ := chk_s h
      obtain rfl := Option.some.inj h
      exact rt_z C0 M hr hk hz_28 dX5_joins_23
theorem k_X5_joins {x1 : Int32} {x2 : Int32} {x3 : Int32} {y4 : Int64} {res : Int32 × Gs} (h : m_X5_joins x1 x2 x3 y4 g = some res) : CM l yX5_joins cX5_joins 10 (some .boolean) ({ frames := 2, cells := 0, slots := 0, locals := 48 } : Room) [.ref (sb 13), .int x1, .int x2, .int x3, .long y4] (some (.int res.1)) D b0 cy sb db g res.2 := by
  refine Met.ofW (cc := cX5_joins) (maxL := 10) (ret := (some .boolean)) (by decide) rfl ?_
  intro p e s m args below meth c s₁ B hml hv
  obtain ⟨rfl, hW, hK⟩ := hv
  have hl := lv_entry [.ref (sb 13), .int x1, .int x2, .int x3, .long y4] (n := 10) (Nat.le_of_ble_eq_true rfl)
  rw [lg_entry_eq]
  generalize (lg_sl [.ref (sb 13), .int x1, .int x2, .int x3, .long y4] ++ List.replicate (10 - (lg_sl [.ref (sb 13), .int x1, .int x2, .int x3, .long y4]).length) Slot.unset).toArray = ls at hl ⊢
  have hl : lv_has ls 10 [(0, .ref (sb 13)), (1, .int x1), (2, .int x2), (3, .int x3), (4, .long y4)] := hl
  exact w_X5_joins ⟨B.exec, B.bytes, hml, findClass_of_methodNamed B.named, fun w hw => atoms_spec (ws := Cond.code yX5_joins cX5_joins 10 (some .boolean) :: wsL_law) B.pre w (List.mem_cons_of_mem _ hw), hK⟩ B.returns B.notSynchronized hl ⟨hW, va_S.rf⟩ h
theorem Y_X5_joins : Yv yX5_joins RX5 cX5_joins 10 (some .boolean) 4 := ⟨⟨kw_24_22, kw_1_5, by decide +kernel, by decide +kernel, by decide +kernel⟩, kw_24_20, kw_24_21⟩
-- X5_gather
def m_X5_gather_L34 (x1 : Int32) (x2 : Int32) : Nat → Int32 → Gs → Option ((Int32 × Gs) ⊕ (Gs))
  | 0, _, _ => none
  | fu + 1, x4, g =>
  if (g.1 39 0 0) ≤ x4 then (some (.inr g)) else (chk (inb x4 30) (chk (inb x4 30) (chk (inb x4 30) ((m_X5_find x1 (g.1 40 0 x4.toNatClampNeg) (g.1 41 0 x4.toNatClampNeg) (g.1 42 0 x4.toNatClampNeg) g).bind fun (x_14, g_15) => if x_14 = (-1 : Int32) then (some (.inl (x4, g_15))) else (chk (inb x1 24) (chk (inb x4 30) ((m_X5_joins x_14 (g_15.1 26 0 x1.toNatClampNeg) x2 (g_15.2.1 3 x4.toNatClampNeg) g_15).bind fun (x_20, g_21) => if x_20 = 0 then (lett (sI g_21 20 0 0 (6 : Int32)) fun g_25 => some (.inl (x4, g_25))) else (lett (x4 + 1) fun x_23 => m_X5_gather_L34 x1 x2 fu x_23 g_21))))))))
def m_X5_gather (x1 : Int32) (x2 : Int32) (g : Gs) : Option (Int32 × Gs) :=
  (m_X5_within x2.toInt64 (0 : Int64) (5 : Int64) g).bind fun x_2 => if x_2 = 0 then (some ((-2000000001 : Int32), g)) else ((m_X5_wants x1 g).bind fun x_5 => if x_5 = 0 then (lett (0 : Int32) fun x_7 => (m_X5_gather_L34 x1 x2 FU x_7 g).bind fun q_35 => exi q_35 (fun r => some r) fun g_27 => lett (g_27.1 39 0 0) fun x_28 => lett (sI g_27 39 0 0 (0 : Int32)) fun g_30 => (m_X5_yes x_28 g_30).bind fun (x_33, g_34) => some (x_33, g_34)) else ((m_X5_no x_5 g).bind fun (x_38, g_39) => some (x_38, g_39)))
set_option maxHeartbeats 4000000 in
set_option maxRecDepth 100000 in
theorem w_X5_gather_L34 {x1 : Int32} {x2 : Int32} (C0 : Cx p s m args c cX5_gather 6 RX5 D cy) (hr : meth.sig.returnType = (some .int)) (hk : meth.locks = false) {res : Int32 × Gs} {q : (Int32 × Gs) ⊕ (Gs)} (hret : ∀ r, q = .inl r → r = res) (kk : ∀ (g : Gs) (H : Heap) (locs : List Loc) (ls : Array Slot), q = .inr g → lv_has ls 6 [(0, .ref (sb 13))] → Ws D b0 cy sb db g s H locs → W p l e ({ frames := 4, cells := 0, slots := 0, locals := 101 } : Room) s m args below meth c H locs 0 0 (MQ below (QX (some (.int res.1)) D b0 cy sb db res.2) args s 0 0 (fun q => b0 ≤ q)) (F0 m 118 ls [])) : ∀ (fu : Nat) (x4 : Int32) (g : Gs) (H : Heap) (locs : List Loc) (ls : Array Slot), lv_has ls 6 [(0, .ref (sb 13)), (1, .int x1), (2, .int x2), (4, .int x4)] → Ws D b0 cy sb db g s H locs → m_X5_gather_L34 x1 x2 fu x4 g = some q → W p l e ({ frames := 4, cells := 0, slots := 0, locals := 101 } : Room) s m args below meth c H locs 0 0 (MQ below (QX (some (.int res.1)) D b0 cy sb db res.2) args s 0 0 (fun q => b0 ≤ q)) (F0 m 34 ls []) := by
  obtain ⟨hx, hb, hml, hown, hts, hK⟩ := id C0
  intro fu
  induction fu with
  | zero =>
    intro x4 g H locs ls hl M h
    cases h
  | succ fu ih =>
    intro x4 g H locs ls hl M h
    rw [m_X5_gather_L34] at h
    refine lv_iload hx hb dX5_gather_34 (lv_at hl 3 rfl) ?_
    refine lv_aload_n hx hb dX5_gather_36 rfl (lv_at hl 0 rfl) ?_
    refine gf_RX5_175 C0 M dX5_gather_37 ?_
    refine lv_icmp_ge (tgt := 118) hx hb dX5_gather_40 (by decide) (fun c_9 => ?_) (fun c_9 => ?_)
    · rw [if_pos c_9] at h
      exact kk _ _ _ _ (Option.some.inj h).symm (lv_sub hl [0] rfl) M
    · rw [if_neg c_9] at h
      refine lv_aload_n hx hb dX5_gather_43 rfl (lv_at hl 0 rfl) ?_
      refine lv_iload_n hx hb dX5_gather_44 rfl (lv_at hl 1 rfl) ?_
      refine lv_aload_n hx hb dX5_gather_45 rfl (lv_at hl 0 rfl) ?_
      refine gf_RX5_53 C0 M dX5_gather_46 ?_
      refine lv_iload hx hb dX5_gather_49 (lv_at hl 3 rfl) ?_
      obtain ⟨hi_10, h⟩ := chk_s h
      refine al_MlineI C0 M hi_10 dX5_gather_51 ?_
      refine lv_aload_n hx hb dX5_gather_52 rfl (lv_at hl 0 rfl) ?_
      refine gf_RX5_56 C0 M dX5_gather_53 ?_
      refine lv_iload hx hb dX5_gather_56 (lv_at hl 3 rfl) ?_
      obtain ⟨hi_11, h⟩ := chk_s h
      refine al_MlineJ C0 M hi_11 dX5_gather_58 ?_
      refine lv_aload_n hx hb dX5_gather_59 rfl (lv_at hl 0 rfl) ?_
      refine gf_RX5_59 C0 M dX5_gather_60 ?_
      refine lv_iload hx hb dX5_gather_63 (lv_at hl 3 rfl) ?_
      obtain ⟨hi_12, h⟩ := chk_s h
      refine al_MlineK C0 M hi_12 dX5_gather_65 ?_
      obtain ⟨⟨x_14, g_15⟩, hc_13, h⟩ := bnd_s h
      try dsimp only at h
      refine kV (As := [.int x1, .int (g.1 40 0 x4.toNatClampNeg), .int (g.1 41 0 x4.toNatClampNeg), .int (g.1 42 0 x4.toNatClampNeg)]) (rest := []) (stk := [.int x_14]) (val := (some (.int x_14))) (c1 := 0) (s1 := 0) C0 M (k_X5_find hc_13) kw_21_13 Y_X5_find (rv_X5 C0 M) ⟨Nat.le_of_ble_eq_true rfl, Nat.le_of_ble_eq_true rfl⟩ rfl hl.1 rfl (Nat.le_of_ble_eq_true rfl) dX5_gather_66 rfl rfl ⟨Nat.le_refl _, Nat.le_refl _⟩ rfl (fun H locs M => ?_)
      refine lv_istore (lv' := [(5, .int x_14), (0, .ref (sb 13)), (1, .int x1), (2, .int x2), (4, .int x4)]) hx hb dX5_gather_69 hl (by decide) rfl (fun ls hl => ?_)
      refine lv_iload hx hb dX5_gather_71 (lv_at hl 0 rfl) ?_
      refine lv_iconst (v := -1) hx hb dX5_gather_73 (by decide) ?_
      refine lv_icmp_ne (tgt := 80) hx hb dX5_gather_74 (by decide) (fun c_16 => ?_) (fun c_16 => ?_)
      · rw [if_neg c_16] at h
        refine lv_aload_n hx hb dX5_gather_80 rfl (lv_at hl 1 rfl) ?_
        refine lv_iload hx hb dX5_gather_81 (lv_at hl 0 rfl) ?_
        refine lv_aload_n hx hb dX5_gather_83 rfl (lv_at hl 1 rfl) ?_
        refine gf_RX5_20 C0 M dX5_gather_84 ?_
        refine lv_iload_n hx hb dX5_gather_87 rfl (lv_at hl 2 rfl) ?_
        obtain ⟨hi_17, h⟩ := chk_s h
        refine al_Mkinds C0 M hi_17 dX5_gather_88 ?_
        refine lv_iload_n hx hb dX5_gather_89 rfl (lv_at hl 3 rfl) ?_
        refine lv_aload_n hx hb dX5_gather_90 rfl (lv_at hl 1 rfl) ?_
        refine gf_RX5_62 C0 M dX5_gather_91 ?_
        refine lv_iload hx hb dX5_gather_94 (lv_at hl 4 rfl) ?_
        obtain ⟨hi_18, h⟩ := chk_s h
        refine al_MlineV C0 M hi_18 dX5_gather_96 ?_
        obtain ⟨⟨x_20, g_21⟩, hc_19, h⟩ := bnd_s h
        try dsimp only at h
        refine kV (As := [.int x_14, .int (g_15.1 26 0 x1.toNatClampNeg), .int x2, .long (g_15.2.1 3 x4.toNatClampNeg)]) (rest := []) (stk := [.int x_20]) (val := (some (.int x_20))) (c1 := 0) (s1 := 0) C0 M (k_X5_joins hc_19) kw_24_19 Y_X5_joins (rv_X5 C0 M) ⟨Nat.le_of_ble_eq_true rfl, Nat.le_of_ble_eq_true rfl⟩ rfl hl.1 rfl (Nat.le_of_ble_eq_true rfl) dX5_gather_97 rfl rfl ⟨Nat.le_refl _, Nat.le_refl _⟩ rfl (fun H locs M => ?_)
        refine lv_if_ne (tgt := 112) hx hb dX5_gather_100 (by decide) (fun c_22 => ?_) (fun c_22 => ?_)
        · rw [if_neg c_22] at h
          obtain ⟨x_23, hn_24, h⟩ := lett_s h
          refine lv_iinc (v := x_23) (lv' := [(4, .int x_23), (5, .int x_14), (0, .ref (sb 13)), (1, .int x1), (2, .int x2)]) hx hb dX5_gather_112 hl (k := 4) rfl (by rw [hn_24]; rfl) (by decide) rfl (fun ls hl => ?_)
          refine lv_goto (tgt := 34) hx hb dX5_gather_115 (by decide) ?_
          exact ih _ _ _ _ _ (lv_sub hl [2, 3, 4, 0] rfl) M h
        · rw [if_pos c_22] at h
          refine lv_aload_n hx hb dX5_gather_103 rfl (lv_at hl 1 rfl) ?_
          refine lv_bipush (v := 6) hx hb dX5_gather_104 (by decide) ?_
          obtain ⟨g_25, hg_26, h⟩ := lett_s h
          refine pf_RX5_65 C0 M hg_26 dX5_gather_106 (fun H locs M => ?_)
          refine lv_iload hx hb dX5_gather_109 (lv_at hl 4 rfl) ?_
          obtain rfl := Option.some.inj h
          obtain rfl := hret _ rfl
          exact rt_i C0 M hr hk dX5_gather_111
      · rw [if_pos c_16] at h
        refine lv_iload hx hb dX5_gather_77 (lv_at hl 4 rfl) ?_
        obtain rfl := Option.some.inj h
        obtain rfl := hret _ rfl
        exact rt_i C0 M hr hk dX5_gather_79
set_option maxHeartbeats 4000000 in
set_option maxRecDepth 100000 in
theorem w_X5_gather {x1 : Int32} {x2 : Int32} (C0 : Cx p s m args c cX5_gather 6 RX5 D cy) (hr : meth.sig.returnType = (some .int)) (hk : meth.locks = false) {res : Int32 × Gs} (hl : lv_has ls 6 [(0, .ref (sb 13)), (1, .int x1), (2, .int x2)]) (M : Ws D b0 cy sb db g s H locs) (h : m_X5_gather x1 x2 g = some res) : W p l e ({ frames := 4, cells := 0, slots := 0, locals := 101 } : Room) s m args below meth c H locs 0 0 (MQ below (QX (some (.int res.1)) D b0 cy sb db res.2) args s 0 0 (fun q => b0 ≤ q)) (F0 m 0 ls []) := by
  obtain ⟨hx, hb, hml, hown, hts, hK⟩ := id C0
  rw [m_X5_gather] at h
  refine lv_iload_n hx hb dX5_gather_0 rfl (lv_at hl 2 rfl) ?_
  refine lv_i2l hx hb dX5_gather_1 rfl ?_
  refine lv_lconst (v := 0) hx hb dX5_gather_2 (by decide) ?_
  refine lv_ldc2 (v := 5) hx hb hown (hts _ kw_24_18) dX5_gather_3 ?_
  obtain ⟨x_2, hc_1, h⟩ := bnd_s h
  refine kS (As := [.long x2.toInt64, .long (0 : Int64), .long (5 : Int64)]) (rest := []) (stk := [.int x_2]) (val := (some (.int x_2))) (c1 := 0) (s1 := 0) C0 M (k_X5_within hc_1) kw_11_22 Y_X5_within ⟨Nat.le_of_ble_eq_true rfl, Nat.le_of_ble_eq_true rfl⟩ rfl hl.1 rfl (Nat.le_of_ble_eq_true rfl) dX5_gather_6 rfl rfl ⟨Nat.le_refl _, Nat.le_refl _⟩ rfl (fun H locs M => ?_)
  refine lv_if_ne (tgt := 15) hx hb dX5_gather_9 (by decide) (fun c_3 => ?_) (fun c_3 => ?_)
  · rw [if_neg c_3] at h
    refine lv_aload_n hx hb dX5_gather_15 rfl (lv_at hl 0 rfl) ?_
    refine lv_iload_n hx hb dX5_gather_16 rfl (lv_at hl 1 rfl) ?_
    obtain ⟨x_5, hc_4, h⟩ := bnd_s h
    refine kV (As := [.int x1]) (rest := []) (stk := [.int x_5]) (val := (some (.int x_5))) (c1 := 0) (s1 := 0) C0 M (k_X5_wants hc_4) kw_14_9 Y_X5_wants (rv_X5 C0 M) ⟨Nat.le_of_ble_eq_true rfl, Nat.le_of_ble_eq_true rfl⟩ rfl hl.1 rfl (Nat.le_of_ble_eq_true rfl) dX5_gather_17 rfl rfl ⟨Nat.le_refl _, Nat.le_refl _⟩ rfl (fun H locs M => ?_)
    refine lv_istore_n (lv' := [(3, .int x_5), (0, .ref (sb 13)), (1, .int x1), (2, .int x2)]) hx hb dX5_gather_20 rfl hl (by decide) rfl (fun ls hl => ?_)
    refine lv_iload_n hx hb dX5_gather_21 rfl (lv_at hl 0 rfl) ?_
    refine lv_if_eq (tgt := 31) hx hb dX5_gather_22 (by decide) (fun c_6 => ?_) (fun c_6 => ?_)
    · rw [if_pos c_6] at h
      refine lv_iconst (v := 0) hx hb dX5_gather_31 (by decide) ?_
      obtain ⟨x_7, hn_8, h⟩ := lett_s h
      refine nm_i hn_8 ?_
      refine lv_istore (lv' := [(4, .int x_7), (3, .int x_5), (0, .ref (sb 13)), (1, .int x1), (2, .int x2)]) hx hb dX5_gather_32 hl (by decide) rfl (fun ls hl => ?_)
      obtain ⟨q_35, hq_36, h⟩ := bnd_s h
      refine w_X5_gather_L34 C0 hr hk (q := q_35) (fun r hq => ?_) (fun g_27 H locs ls hq hl M => ?_) FU _ _ _ _ _ (lv_sub hl [2, 3, 4, 0] rfl) M hq_36
      · subst hq
        exact Option.some.inj h
      subst q_35
      try dsimp only [exi] at h
      refine lv_aload_n hx hb dX5_gather_118 rfl (lv_at hl 0 rfl) ?_
      refine gf_RX5_175 C0 M dX5_gather_119 ?_
      obtain ⟨x_28, hn_29, h⟩ := lett_s h
      refine nm_i hn_29 ?_
      refine lv_istore (lv' := [(4, .int x_28), (0, .ref (sb 13))]) hx hb dX5_gather_122 hl (by decide) rfl (fun ls hl => ?_)
      refine lv_aload_n hx hb dX5_gather_124 rfl (lv_at hl 1 rfl) ?_
      refine lv_iconst (v := 0) hx hb dX5_gather_125 (by decide) ?_
      obtain ⟨g_30, hg_31, h⟩ := lett_s h
      refine pf_RX5_175 C0 M hg_31 dX5_gather_126 (fun H locs M => ?_)
      refine lv_aload_n hx hb dX5_gather_129 rfl (lv_at hl 1 rfl) ?_
      refine lv_iload hx hb dX5_gather_130 (lv_at hl 0 rfl) ?_
      obtain ⟨⟨x_33, g_34⟩, hc_32, h⟩ := bnd_s h
      try dsimp only at h
      refine kV (As := [.int x_28]) (rest := []) (stk := [.int x_33]) (val := (some (.int x_33))) (c1 := 0) (s1 := 0) C0 M (k_X5_yes hc_32) kw_6_12 Y_X5_yes (rv_X5 C0 M) ⟨Nat.le_of_ble_eq_true rfl, Nat.le_of_ble_eq_true rfl⟩ rfl hl.1 rfl (Nat.le_of_ble_eq_true rfl) dX5_gather_132 rfl rfl ⟨Nat.le_refl _, Nat.le_refl _⟩ rfl (fun H locs M => ?_)
      obtain rfl := Option.some.inj h
      exact rt_i C0 M hr hk dX5_gather_135
    · rw [if_neg c_6] at h
      refine lv_aload_n hx hb dX5_gather_25 rfl (lv_at hl 1 rfl) ?_
      refine lv_iload_n hx hb dX5_gather_26 rfl (lv_at hl 0 rfl) ?_
      obtain ⟨⟨x_38, g_39⟩, hc_37, h⟩ := bnd_s h
      try dsimp only at h
      refine kV (As := [.int x_5]) (rest := []) (stk := [.int x_38]) (val := (some (.int x_38))) (c1 := 0) (s1 := 0) C0 M (k_X5_no hc_37) kw_6_8 Y_X5_no (rv_X5 C0 M) ⟨Nat.le_of_ble_eq_true rfl, Nat.le_of_ble_eq_true rfl⟩ rfl hl.1 rfl (Nat.le_of_ble_eq_true rfl) dX5_gather_27 rfl rfl ⟨Nat.le_refl _, Nat.le_refl _⟩ rfl (fun H locs M => ?_)
      obtain rfl := Option.some.inj h
      exact rt_i C0 M hr hk dX5_gather_30
  · rw [if_pos c_3] at h
    refine lv_ldc (v := -2000000001) hx hb hown (hts _ kw_11_19) dX5_gather_12 ?_
    obtain rfl := Option.some.inj h
    exact rt_i C0 M hr hk dX5_gather_14
theorem k_X5_gather {x1 : Int32} {x2 : Int32} {res : Int32 × Gs} (h : m_X5_gather x1 x2 g = some res) : CM l yX5_gather cX5_gather 6 (some .int) ({ frames := 4, cells := 0, slots := 0, locals := 101 } : Room) [.ref (sb 13), .int x1, .int x2] (some (.int res.1)) D b0 cy sb db g res.2 := by
  refine Met.ofW (cc := cX5_gather) (maxL := 6) (ret := (some .int)) (by decide) rfl ?_
  intro p e s m args below meth c s₁ B hml hv
  obtain ⟨rfl, hW, hK⟩ := hv
  have hl := lv_entry [.ref (sb 13), .int x1, .int x2] (n := 6) (Nat.le_of_ble_eq_true rfl)
  rw [lg_entry_eq]
  generalize (lg_sl [.ref (sb 13), .int x1, .int x2] ++ List.replicate (6 - (lg_sl [.ref (sb 13), .int x1, .int x2]).length) Slot.unset).toArray = ls at hl ⊢
  have hl : lv_has ls 6 [(0, .ref (sb 13)), (1, .int x1), (2, .int x2)] := hl
  exact w_X5_gather ⟨B.exec, B.bytes, hml, findClass_of_methodNamed B.named, fun w hw => atoms_spec (ws := Cond.code yX5_gather cX5_gather 6 (some .int) :: wsL_law) B.pre w (List.mem_cons_of_mem _ hw), hK⟩ B.returns B.notSynchronized hl ⟨hW, va_S.rf⟩ h
theorem Y_X5_gather : Yv yX5_gather RX5 cX5_gather 6 (some .int) 2 := ⟨⟨kw_24_17, kw_1_5, by decide +kernel, by decide +kernel, by decide +kernel⟩, kw_24_15, kw_24_16⟩
-- X5_join
def m_X5_join_J31  (g : Gs) : Option (Int32 × Gs) :=
  (m_X5_no (7 : Int32) g).bind fun (x_8, g_9) => some (x_8, g_9)
def m_X5_join_J63  (g : Gs) : Option (Int32 × Gs) :=
  (m_X5_no (2 : Int32) g).bind fun (x_17, g_18) => some (x_17, g_18)
def m_X5_join_L108 (x1 : Int32) (x2 : Int32) (x3 : Int32) (x4 : Int32) : Nat → Int32 → Gs → Option ((Int32 × Gs) ⊕ (Gs))
  | 0, _, _ => none
  | fu + 1, x5, g =>
  if x4 ≤ x5 then (some (.inr g)) else (chk (inb x1 24) (chk (inb (g.1 30 0 x1.toNatClampNeg) 13000) (lett ((g.1 32 0 (g.1 30 0 x1.toNatClampNeg).toNatClampNeg) + x5) fun x_33 => chk (inb x2 24) (chk (inb (g.1 30 0 x2.toNatClampNeg) 13000) (lett ((g.1 32 0 (g.1 30 0 x2.toNatClampNeg).toNatClampNeg) + x5) fun x_37 => chk (inb x2 24) (if (g.1 26 0 x2.toNatClampNeg) = (3 : Int32) then (chk (inb x_37 300000) (if (g.1 36 0 x_37.toNatClampNeg) = 0 then (lett (sI g 20 0 0 (1 : Int32)) fun g_63 => some (.inl (x5, g_63))) else (chk (inb x1 24) (chk (inb x_37 300000) ((m_X5_joins x_33 (g.1 26 0 x1.toNatClampNeg) x3 (g.2.1 2 x_37.toNatClampNeg) g).bind fun (x_56, g_57) => if x_56 = 0 then (lett (sI g_57 20 0 0 (6 : Int32)) fun g_61 => some (.inl (x5, g_61))) else (lett (x5 + 1) fun x_59 => m_X5_join_L108 x1 x2 x3 x4 fu x_59 g_57)))))) else (chk (inb x1 24) (chk (inb x_37 300000) ((m_X5_joins x_33 (g.1 26 0 x1.toNatClampNeg) x3 (g.2.1 2 x_37.toNatClampNeg) g).bind fun (x_44, g_45) => if x_44 = 0 then (lett (sI g_45 20 0 0 (6 : Int32)) fun g_49 => some (.inl (x5, g_49))) else (lett (x5 + 1) fun x_47 => m_X5_join_L108 x1 x2 x3 x4 fu x_47 g_45))))))))))
def m_X5_join (x1 : Int32) (x2 : Int32) (x3 : Int32) (g : Gs) : Option (Int32 × Gs) :=
  (m_X5_within x3.toInt64 (0 : Int64) (5 : Int64) g).bind fun x_2 => if x_2 = 0 then (some ((-2000000001 : Int32), g)) else ((m_X5_isArray x1 g).bind fun x_5 => if x_5 = 0 then (m_X5_join_J31  g) else ((m_X5_isArray x2 g).bind fun x_11 => if x_11 = 0 then (m_X5_join_J31  g) else (chk (inb x1 24) (chk (inb x2 24) (if (g.1 26 0 x1.toNatClampNeg) = (g.1 26 0 x2.toNatClampNeg) then (chk (inb x1 24) (if (g.1 26 0 x1.toNatClampNeg) = (4 : Int32) then (m_X5_join_J63  g) else (chk (inb x1 24) (chk (inb (g.1 30 0 x1.toNatClampNeg) 13000) (lett (g.1 33 0 (g.1 30 0 x1.toNatClampNeg).toNatClampNeg) fun x_23 => chk (inb x2 24) (chk (inb (g.1 30 0 x2.toNatClampNeg) 13000) (if x_23 = (g.1 33 0 (g.1 30 0 x2.toNatClampNeg).toNatClampNeg) then (lett (0 : Int32) fun x_28 => (m_X5_join_L108 x1 x2 x3 x_23 FU x_28 g).bind fun q_69 => exi q_69 (fun r => some r) fun g_65 => (m_X5_yes x_23 g_65).bind fun (x_67, g_68) => some (x_67, g_68)) else ((m_X5_no (10 : Int32) g).bind fun (x_72, g_73) => some (x_72, g_73))))))))) else (m_X5_join_J63  g))))))
set_option maxHeartbeats 4000000 in
set_option maxRecDepth 100000 in
theorem w_X5_join_J31  (C0 : Cx p s m args c cX5_join 8 RX5 D cy) (hr : meth.sig.returnType = (some .int)) (hk : meth.locks = false) {res : Int32 × Gs} (hl : lv_has ls 8 [(0, .ref (sb 13))]) (M : Ws D b0 cy sb db g s H locs) (h : m_X5_join_J31  g = some res) : W p l e ({ frames := 3, cells := 0, slots := 0, locals := 77 } : Room) s m args below meth c H locs 0 0 (MQ below (QX (some (.int res.1)) D b0 cy sb db res.2) args s 0 0 (fun q => b0 ≤ q)) (F0 m 31 ls []) := by
  obtain ⟨hx, hb, hml, hown, hts, hK⟩ := id C0
  rw [m_X5_join_J31] at h
  refine lv_aload_n hx hb dX5_join_31 rfl (lv_at hl 0 rfl) ?_
  refine lv_bipush (v := 7) hx hb dX5_join_32 (by decide) ?_
  obtain ⟨⟨x_8, g_9⟩, hc_7, h⟩ := bnd_s h
  try dsimp only at h
  refine kV (As := [.int (7 : Int32)]) (rest := []) (stk := [.int x_8]) (val := (some (.int x_8))) (c1 := 0) (s1 := 0) C0 M (k_X5_no hc_7) kw_6_8 Y_X5_no (rv_X5 C0 M) ⟨Nat.le_of_ble_eq_true rfl, Nat.le_of_ble_eq_true rfl⟩ rfl hl.1 rfl (Nat.le_of_ble_eq_true rfl) dX5_join_34 rfl rfl ⟨Nat.le_refl _, Nat.le_refl _⟩ rfl (fun H locs M => ?_)
  obtain rfl := Option.some.inj h
  exact rt_i C0 M hr hk dX5_join_37
set_option maxHeartbeats 4000000 in
set_option maxRecDepth 100000 in
theorem w_X5_join_J63  (C0 : Cx p s m args c cX5_join 8 RX5 D cy) (hr : meth.sig.returnType = (some .int)) (hk : meth.locks = false) {res : Int32 × Gs} (hl : lv_has ls 8 [(0, .ref (sb 13))]) (M : Ws D b0 cy sb db g s H locs) (h : m_X5_join_J63  g = some res) : W p l e ({ frames := 3, cells := 0, slots := 0, locals := 77 } : Room) s m args below meth c H locs 0 0 (MQ below (QX (some (.int res.1)) D b0 cy sb db res.2) args s 0 0 (fun q => b0 ≤ q)) (F0 m 63 ls []) := by
  obtain ⟨hx, hb, hml, hown, hts, hK⟩ := id C0
  rw [m_X5_join_J63] at h
  refine lv_aload_n hx hb dX5_join_63 rfl (lv_at hl 0 rfl) ?_
  refine lv_iconst (v := 2) hx hb dX5_join_64 (by decide) ?_
  obtain ⟨⟨x_17, g_18⟩, hc_16, h⟩ := bnd_s h
  try dsimp only at h
  refine kV (As := [.int (2 : Int32)]) (rest := []) (stk := [.int x_17]) (val := (some (.int x_17))) (c1 := 0) (s1 := 0) C0 M (k_X5_no hc_16) kw_6_8 Y_X5_no (rv_X5 C0 M) ⟨Nat.le_of_ble_eq_true rfl, Nat.le_of_ble_eq_true rfl⟩ rfl hl.1 rfl (Nat.le_of_ble_eq_true rfl) dX5_join_65 rfl rfl ⟨Nat.le_refl _, Nat.le_refl _⟩ rfl (fun H locs M => ?_)
  obtain rfl := Option.some.inj h
  exact rt_i C0 M hr hk dX5_join_68
set_option maxHeartbeats 4000000 in
set_option maxRecDepth 100000 in
theorem w_X5_join_L108 {x1 : Int32} {x2 : Int32} {x3 : Int32} {x4 : Int32} (C0 : Cx p s m args c cX5_join 8 RX5 D cy) (hr : meth.sig.returnType = (some .int)) (hk : meth.locks = false) {res : Int32 × Gs} {q : (Int32 × Gs) ⊕ (Gs)} (hret : ∀ r, q = .inl r → r = res) (kk : ∀ (g : Gs) (H : Heap) (locs : List Loc) (ls : Array Slot), q = .inr g → lv_has ls 8 [(0, .ref (sb 13)), (4, .int x4)] → Ws D b0 cy sb db g s H locs → W p l e ({ frames := 3, cells := 0, slots := 0, locals := 77 } : Room) s m args below meth c H locs 0 0 (MQ below (QX (some (.int res.1)) D b0 cy sb db res.2) args s 0 0 (fun q => b0 ≤ q)) (F0 m 213 ls [])) : ∀ (fu : Nat) (x5 : Int32) (g : Gs) (H : Heap) (locs : List Loc) (ls : Array Slot), lv_has ls 8 [(0, .ref (sb 13)), (1, .int x1), (2, .int x2), (3, .int x3), (4, .int x4), (5, .int x5)] → Ws D b0 cy sb db g s H locs → m_X5_join_L108 x1 x2 x3 x4 fu x5 g = some q → W p l e ({ frames := 3, cells := 0, slots := 0, locals := 77 } : Room) s m args below meth c H locs 0 0 (MQ below (QX (some (.int res.1)) D b0 cy sb db res.2) args s 0 0 (fun q => b0 ≤ q)) (F0 m 108 ls []) := by
  obtain ⟨hx, hb, hml, hown, hts, hK⟩ := id C0
  intro fu
  induction fu with
  | zero =>
    intro x5 g H locs ls hl M h
    cases h
  | succ fu ih =>
    intro x5 g H locs ls hl M h
    rw [m_X5_join_L108] at h
    refine lv_iload hx hb dX5_join_108 (lv_at hl 5 rfl) ?_
    refine lv_iload hx hb dX5_join_110 (lv_at hl 4 rfl) ?_
    refine lv_icmp_ge (tgt := 213) hx hb dX5_join_112 (by decide) (fun c_30 => ?_) (fun c_30 => ?_)
    · rw [if_pos c_30] at h
      exact kk _ _ _ _ (Option.some.inj h).symm (lv_sub hl [0, 4] rfl) M
    · rw [if_neg c_30] at h
      refine lv_aload_n hx hb dX5_join_115 rfl (lv_at hl 0 rfl) ?_
      refine gf_RX5_35 C0 M dX5_join_116 ?_
      refine lv_aload_n hx hb dX5_join_119 rfl (lv_at hl 0 rfl) ?_
      refine gf_RX5_32 C0 M dX5_join_120 ?_
      refine lv_iload_n hx hb dX5_join_123 rfl (lv_at hl 1 rfl) ?_
      obtain ⟨hi_31, h⟩ := chk_s h
      refine al_MrowOf C0 M hi_31 dX5_join_124 ?_
      obtain ⟨hi_32, h⟩ := chk_s h
      refine al_MrowAt C0 M hi_32 dX5_join_125 ?_
      refine lv_iload hx hb dX5_join_126 (lv_at hl 5 rfl) ?_
      refine lv_iadd hx hb dX5_join_128 ?_
      obtain ⟨x_33, hn_34, h⟩ := lett_s h
      refine nm_i hn_34 ?_
      refine lv_istore (lv' := [(6, .int x_33), (0, .ref (sb 13)), (1, .int x1), (2, .int x2), (3, .int x3), (4, .int x4), (5, .int x5)]) hx hb dX5_join_129 hl (by decide) rfl (fun ls hl => ?_)
      refine lv_aload_n hx hb dX5_join_131 rfl (lv_at hl 1 rfl) ?_
      refine gf_RX5_35 C0 M dX5_join_132 ?_
      refine lv_aload_n hx hb dX5_join_135 rfl (lv_at hl 1 rfl) ?_
      refine gf_RX5_32 C0 M dX5_join_136 ?_
      refine lv_iload_n hx hb dX5_join_139 rfl (lv_at hl 3 rfl) ?_
      obtain ⟨hi_35, h⟩ := chk_s h
      refine al_MrowOf C0 M hi_35 dX5_join_140 ?_
      obtain ⟨hi_36, h⟩ := chk_s h
      refine al_MrowAt C0 M hi_36 dX5_join_141 ?_
      refine lv_iload hx hb dX5_join_142 (lv_at hl 6 rfl) ?_
      refine lv_iadd hx hb dX5_join_144 ?_
      obtain ⟨x_37, hn_38, h⟩ := lett_s h
      refine nm_i hn_38 ?_
      refine lv_istore (lv' := [(7, .int x_37), (6, .int x_33), (0, .ref (sb 13)), (1, .int x1), (2, .int x2), (3, .int x3), (4, .int x4), (5, .int x5)]) hx hb dX5_join_145 hl (by decide) rfl (fun ls hl => ?_)
      refine lv_aload_n hx hb dX5_join_147 rfl (lv_at hl 2 rfl) ?_
      refine gf_RX5_20 C0 M dX5_join_148 ?_
      refine lv_iload_n hx hb dX5_join_151 rfl (lv_at hl 4 rfl) ?_
      obtain ⟨hi_39, h⟩ := chk_s h
      refine al_Mkinds C0 M hi_39 dX5_join_152 ?_
      refine lv_iconst (v := 3) hx hb dX5_join_153 (by decide) ?_
      refine lv_icmp_ne (tgt := 175) hx hb dX5_join_154 (by decide) (fun c_40 => ?_) (fun c_40 => ?_)
      · rw [if_neg c_40] at h
        refine lv_aload_n hx hb dX5_join_175 rfl (lv_at hl 2 rfl) ?_
        refine lv_iload hx hb dX5_join_176 (lv_at hl 1 rfl) ?_
        refine lv_aload_n hx hb dX5_join_178 rfl (lv_at hl 2 rfl) ?_
        refine gf_RX5_20 C0 M dX5_join_179 ?_
        refine lv_iload_n hx hb dX5_join_182 rfl (lv_at hl 3 rfl) ?_
        obtain ⟨hi_41, h⟩ := chk_s h
        refine al_Mkinds C0 M hi_41 dX5_join_183 ?_
        refine lv_iload_n hx hb dX5_join_184 rfl (lv_at hl 5 rfl) ?_
        refine lv_aload_n hx hb dX5_join_185 rfl (lv_at hl 2 rfl) ?_
        refine gf_RX5_42 C0 M dX5_join_186 ?_
        refine lv_iload hx hb dX5_join_189 (lv_at hl 0 rfl) ?_
        obtain ⟨hi_42, h⟩ := chk_s h
        refine al_Mpool C0 M hi_42 dX5_join_191 ?_
        obtain ⟨⟨x_44, g_45⟩, hc_43, h⟩ := bnd_s h
        try dsimp only at h
        refine kV (As := [.int x_33, .int (g.1 26 0 x1.toNatClampNeg), .int x3, .long (g.2.1 2 x_37.toNatClampNeg)]) (rest := []) (stk := [.int x_44]) (val := (some (.int x_44))) (c1 := 0) (s1 := 0) C0 M (k_X5_joins hc_43) kw_24_19 Y_X5_joins (rv_X5 C0 M) ⟨Nat.le_of_ble_eq_true rfl, Nat.le_of_ble_eq_true rfl⟩ rfl hl.1 rfl (Nat.le_of_ble_eq_true rfl) dX5_join_192 rfl rfl ⟨Nat.le_refl _, Nat.le_refl _⟩ rfl (fun H locs M => ?_)
        refine lv_if_ne (tgt := 207) hx hb dX5_join_195 (by decide) (fun c_46 => ?_) (fun c_46 => ?_)
        · rw [if_neg c_46] at h
          obtain ⟨x_47, hn_48, h⟩ := lett_s h
          refine lv_iinc (v := x_47) (lv' := [(5, .int x_47), (7, .int x_37), (6, .int x_33), (0, .ref (sb 13)), (1, .int x1), (2, .int x2), (3, .int x3), (4, .int x4)]) hx hb dX5_join_207 hl (k := 7) rfl (by rw [hn_48]; rfl) (by decide) rfl (fun ls hl => ?_)
          refine lv_goto (tgt := 108) hx hb dX5_join_210 (by decide) ?_
          exact ih _ _ _ _ _ (lv_sub hl [3, 4, 5, 6, 7, 0] rfl) M h
        · rw [if_pos c_46] at h
          refine lv_aload_n hx hb dX5_join_198 rfl (lv_at hl 2 rfl) ?_
          refine lv_bipush (v := 6) hx hb dX5_join_199 (by decide) ?_
          obtain ⟨g_49, hg_50, h⟩ := lett_s h
          refine pf_RX5_65 C0 M hg_50 dX5_join_201 (fun H locs M => ?_)
          refine lv_iload hx hb dX5_join_204 (lv_at hl 7 rfl) ?_
          obtain rfl := Option.some.inj h
          obtain rfl := hret _ rfl
          exact rt_i C0 M hr hk dX5_join_206
      · rw [if_pos c_40] at h
        refine lv_aload_n hx hb dX5_join_157 rfl (lv_at hl 2 rfl) ?_
        refine gf_RX5_46 C0 M dX5_join_158 ?_
        refine lv_iload hx hb dX5_join_161 (lv_at hl 0 rfl) ?_
        obtain ⟨hi_51, h⟩ := chk_s h
        refine al_MhasBox C0 M hi_51 dX5_join_163 ?_
        refine lv_if_ne (tgt := 175) hx hb dX5_join_164 (by decide) (fun c_52 => ?_) (fun c_52 => ?_)
        · rw [if_neg c_52] at h
          refine lv_aload_n hx hb dX5_join_175 rfl (lv_at hl 2 rfl) ?_
          refine lv_iload hx hb dX5_join_176 (lv_at hl 1 rfl) ?_
          refine lv_aload_n hx hb dX5_join_178 rfl (lv_at hl 2 rfl) ?_
          refine gf_RX5_20 C0 M dX5_join_179 ?_
          refine lv_iload_n hx hb dX5_join_182 rfl (lv_at hl 3 rfl) ?_
          obtain ⟨hi_53, h⟩ := chk_s h
          refine al_Mkinds C0 M hi_53 dX5_join_183 ?_
          refine lv_iload_n hx hb dX5_join_184 rfl (lv_at hl 5 rfl) ?_
          refine lv_aload_n hx hb dX5_join_185 rfl (lv_at hl 2 rfl) ?_
          refine gf_RX5_42 C0 M dX5_join_186 ?_
          refine lv_iload hx hb dX5_join_189 (lv_at hl 0 rfl) ?_
          obtain ⟨hi_54, h⟩ := chk_s h
          refine al_Mpool C0 M hi_54 dX5_join_191 ?_
          obtain ⟨⟨x_56, g_57⟩, hc_55, h⟩ := bnd_s h
          try dsimp only at h
          refine kV (As := [.int x_33, .int (g.1 26 0 x1.toNatClampNeg), .int x3, .long (g.2.1 2 x_37.toNatClampNeg)]) (rest := []) (stk := [.int x_56]) (val := (some (.int x_56))) (c1 := 0) (s1 := 0) C0 M (k_X5_joins hc_55) kw_24_19 Y_X5_joins (rv_X5 C0 M) ⟨Nat.le_of_ble_eq_true rfl, Nat.le_of_ble_eq_true rfl⟩ rfl hl.1 rfl (Nat.le_of_ble_eq_true rfl) dX5_join_192 rfl rfl ⟨Nat.le_refl _, Nat.le_refl _⟩ rfl (fun H locs M => ?_)
          refine lv_if_ne (tgt := 207) hx hb dX5_join_195 (by decide) (fun c_58 => ?_) (fun c_58 => ?_)
          · rw [if_neg c_58] at h
            obtain ⟨x_59, hn_60, h⟩ := lett_s h
            refine lv_iinc (v := x_59) (lv' := [(5, .int x_59), (7, .int x_37), (6, .int x_33), (0, .ref (sb 13)), (1, .int x1), (2, .int x2), (3, .int x3), (4, .int x4)]) hx hb dX5_join_207 hl (k := 7) rfl (by rw [hn_60]; rfl) (by decide) rfl (fun ls hl => ?_)
            refine lv_goto (tgt := 108) hx hb dX5_join_210 (by decide) ?_
            exact ih _ _ _ _ _ (lv_sub hl [3, 4, 5, 6, 7, 0] rfl) M h
          · rw [if_pos c_58] at h
            refine lv_aload_n hx hb dX5_join_198 rfl (lv_at hl 2 rfl) ?_
            refine lv_bipush (v := 6) hx hb dX5_join_199 (by decide) ?_
            obtain ⟨g_61, hg_62, h⟩ := lett_s h
            refine pf_RX5_65 C0 M hg_62 dX5_join_201 (fun H locs M => ?_)
            refine lv_iload hx hb dX5_join_204 (lv_at hl 7 rfl) ?_
            obtain rfl := Option.some.inj h
            obtain rfl := hret _ rfl
            exact rt_i C0 M hr hk dX5_join_206
        · rw [if_pos c_52] at h
          refine lv_aload_n hx hb dX5_join_167 rfl (lv_at hl 2 rfl) ?_
          refine lv_iconst (v := 1) hx hb dX5_join_168 (by decide) ?_
          obtain ⟨g_63, hg_64, h⟩ := lett_s h
          refine pf_RX5_65 C0 M hg_64 dX5_join_169 (fun H locs M => ?_)
          refine lv_iload hx hb dX5_join_172 (lv_at hl 7 rfl) ?_
          obtain rfl := Option.some.inj h
          obtain rfl := hret _ rfl
          exact rt_i C0 M hr hk dX5_join_174
set_option maxHeartbeats 4000000 in
set_option maxRecDepth 100000 in
theorem w_X5_join {x1 : Int32} {x2 : Int32} {x3 : Int32} (C0 : Cx p s m args c cX5_join 8 RX5 D cy) (hr : meth.sig.returnType = (some .int)) (hk : meth.locks = false) {res : Int32 × Gs} (hl : lv_has ls 8 [(0, .ref (sb 13)), (1, .int x1), (2, .int x2), (3, .int x3)]) (M : Ws D b0 cy sb db g s H locs) (h : m_X5_join x1 x2 x3 g = some res) : W p l e ({ frames := 3, cells := 0, slots := 0, locals := 77 } : Room) s m args below meth c H locs 0 0 (MQ below (QX (some (.int res.1)) D b0 cy sb db res.2) args s 0 0 (fun q => b0 ≤ q)) (F0 m 0 ls []) := by
  obtain ⟨hx, hb, hml, hown, hts, hK⟩ := id C0
  rw [m_X5_join] at h
  refine lv_iload_n hx hb dX5_join_0 rfl (lv_at hl 3 rfl) ?_
  refine lv_i2l hx hb dX5_join_1 rfl ?_
  refine lv_lconst (v := 0) hx hb dX5_join_2 (by decide) ?_
  refine lv_ldc2 (v := 5) hx hb hown (hts _ kw_24_18) dX5_join_3 ?_
  obtain ⟨x_2, hc_1, h⟩ := bnd_s h
  refine kS (As := [.long x3.toInt64, .long (0 : Int64), .long (5 : Int64)]) (rest := []) (stk := [.int x_2]) (val := (some (.int x_2))) (c1 := 0) (s1 := 0) C0 M (k_X5_within hc_1) kw_11_22 Y_X5_within ⟨Nat.le_of_ble_eq_true rfl, Nat.le_of_ble_eq_true rfl⟩ rfl hl.1 rfl (Nat.le_of_ble_eq_true rfl) dX5_join_6 rfl rfl ⟨Nat.le_refl _, Nat.le_refl _⟩ rfl (fun H locs M => ?_)
  refine lv_if_ne (tgt := 15) hx hb dX5_join_9 (by decide) (fun c_3 => ?_) (fun c_3 => ?_)
  · rw [if_neg c_3] at h
    refine lv_aload_n hx hb dX5_join_15 rfl (lv_at hl 0 rfl) ?_
    refine lv_iload_n hx hb dX5_join_16 rfl (lv_at hl 1 rfl) ?_
    obtain ⟨x_5, hc_4, h⟩ := bnd_s h
    refine kV (As := [.int x1]) (rest := []) (stk := [.int x_5]) (val := (some (.int x_5))) (c1 := 0) (s1 := 0) C0 M (k_X5_isArray hc_4) kw_14_13 Y_X5_isArray (rv_X5 C0 M) ⟨Nat.le_of_ble_eq_true rfl, Nat.le_of_ble_eq_true rfl⟩ rfl hl.1 rfl (Nat.le_of_ble_eq_true rfl) dX5_join_17 rfl rfl ⟨Nat.le_refl _, Nat.le_refl _⟩ rfl (fun H locs M => ?_)
    refine lv_if_eq (tgt := 31) hx hb dX5_join_20 (by decide) (fun c_6 => ?_) (fun c_6 => ?_)
    · rw [if_pos c_6] at h
      exact w_X5_join_J31 C0 hr hk (lv_sub hl [0] rfl) M h
    · rw [if_neg c_6] at h
      refine lv_aload_n hx hb dX5_join_23 rfl (lv_at hl 0 rfl) ?_
      refine lv_iload_n hx hb dX5_join_24 rfl (lv_at hl 2 rfl) ?_
      obtain ⟨x_11, hc_10, h⟩ := bnd_s h
      refine kV (As := [.int x2]) (rest := []) (stk := [.int x_11]) (val := (some (.int x_11))) (c1 := 0) (s1 := 0) C0 M (k_X5_isArray hc_10) kw_14_13 Y_X5_isArray (rv_X5 C0 M) ⟨Nat.le_of_ble_eq_true rfl, Nat.le_of_ble_eq_true rfl⟩ rfl hl.1 rfl (Nat.le_of_ble_eq_true rfl) dX5_join_25 rfl rfl ⟨Nat.le_refl _, Nat.le_refl _⟩ rfl (fun H locs M => ?_)
      refine lv_if_ne (tgt := 38) hx hb dX5_join_28 (by decide) (fun c_12 => ?_) (fun c_12 => ?_)
      · rw [if_neg c_12] at h
        refine lv_aload_n hx hb dX5_join_38 rfl (lv_at hl 0 rfl) ?_
        refine gf_RX5_20 C0 M dX5_join_39 ?_
        refine lv_iload_n hx hb dX5_join_42 rfl (lv_at hl 1 rfl) ?_
        obtain ⟨hi_13, h⟩ := chk_s h
        refine al_Mkinds C0 M hi_13 dX5_join_43 ?_
        refine lv_aload_n hx hb dX5_join_44 rfl (lv_at hl 0 rfl) ?_
        refine gf_RX5_20 C0 M dX5_join_45 ?_
        refine lv_iload_n hx hb dX5_join_48 rfl (lv_at hl 2 rfl) ?_
        obtain ⟨hi_14, h⟩ := chk_s h
        refine al_Mkinds C0 M hi_14 dX5_join_49 ?_
        refine lv_icmp_ne (tgt := 63) hx hb dX5_join_50 (by decide) (fun c_15 => ?_) (fun c_15 => ?_)
        · rw [if_neg c_15] at h
          exact w_X5_join_J63 C0 hr hk (lv_sub hl [0] rfl) M h
        · rw [if_pos c_15] at h
          refine lv_aload_n hx hb dX5_join_53 rfl (lv_at hl 0 rfl) ?_
          refine gf_RX5_20 C0 M dX5_join_54 ?_
          refine lv_iload_n hx hb dX5_join_57 rfl (lv_at hl 1 rfl) ?_
          obtain ⟨hi_19, h⟩ := chk_s h
          refine al_Mkinds C0 M hi_19 dX5_join_58 ?_
          refine lv_iconst (v := 4) hx hb dX5_join_59 (by decide) ?_
          refine lv_icmp_ne (tgt := 69) hx hb dX5_join_60 (by decide) (fun c_20 => ?_) (fun c_20 => ?_)
          · rw [if_neg c_20] at h
            refine lv_aload_n hx hb dX5_join_69 rfl (lv_at hl 0 rfl) ?_
            refine gf_RX5_38 C0 M dX5_join_70 ?_
            refine lv_aload_n hx hb dX5_join_73 rfl (lv_at hl 0 rfl) ?_
            refine gf_RX5_32 C0 M dX5_join_74 ?_
            refine lv_iload_n hx hb dX5_join_77 rfl (lv_at hl 1 rfl) ?_
            obtain ⟨hi_21, h⟩ := chk_s h
            refine al_MrowOf C0 M hi_21 dX5_join_78 ?_
            obtain ⟨hi_22, h⟩ := chk_s h
            refine al_MrowSize C0 M hi_22 dX5_join_79 ?_
            obtain ⟨x_23, hn_24, h⟩ := lett_s h
            refine nm_i hn_24 ?_
            refine lv_istore (lv' := [(4, .int x_23), (0, .ref (sb 13)), (1, .int x1), (2, .int x2), (3, .int x3)]) hx hb dX5_join_80 hl (by decide) rfl (fun ls hl => ?_)
            refine lv_iload hx hb dX5_join_82 (lv_at hl 0 rfl) ?_
            refine lv_aload_n hx hb dX5_join_84 rfl (lv_at hl 1 rfl) ?_
            refine gf_RX5_38 C0 M dX5_join_85 ?_
            refine lv_aload_n hx hb dX5_join_88 rfl (lv_at hl 1 rfl) ?_
            refine gf_RX5_32 C0 M dX5_join_89 ?_
            refine lv_iload_n hx hb dX5_join_92 rfl (lv_at hl 3 rfl) ?_
            obtain ⟨hi_25, h⟩ := chk_s h
            refine al_MrowOf C0 M hi_25 dX5_join_93 ?_
            obtain ⟨hi_26, h⟩ := chk_s h
            refine al_MrowSize C0 M hi_26 dX5_join_94 ?_
            refine lv_icmp_eq (tgt := 105) hx hb dX5_join_95 (by decide) (fun c_27 => ?_) (fun c_27 => ?_)
            · rw [if_pos c_27] at h
              refine lv_iconst (v := 0) hx hb dX5_join_105 (by decide) ?_
              obtain ⟨x_28, hn_29, h⟩ := lett_s h
              refine nm_i hn_29 ?_
              refine lv_istore (lv' := [(5, .int x_28), (4, .int x_23), (0, .ref (sb 13)), (1, .int x1), (2, .int x2), (3, .int x3)]) hx hb dX5_join_106 hl (by decide) rfl (fun ls hl => ?_)
              obtain ⟨q_69, hq_70, h⟩ := bnd_s h
              refine w_X5_join_L108 C0 hr hk (q := q_69) (fun r hq => ?_) (fun g_65 H locs ls hq hl M => ?_) FU _ _ _ _ _ (lv_sub hl [2, 3, 4, 5, 1, 0] rfl) M hq_70
              · subst hq
                exact Option.some.inj h
              subst q_69
              try dsimp only [exi] at h
              refine lv_aload_n hx hb dX5_join_213 rfl (lv_at hl 0 rfl) ?_
              refine lv_iload hx hb dX5_join_214 (lv_at hl 1 rfl) ?_
              obtain ⟨⟨x_67, g_68⟩, hc_66, h⟩ := bnd_s h
              try dsimp only at h
              refine kV (As := [.int x_23]) (rest := []) (stk := [.int x_67]) (val := (some (.int x_67))) (c1 := 0) (s1 := 0) C0 M (k_X5_yes hc_66) kw_6_12 Y_X5_yes (rv_X5 C0 M) ⟨Nat.le_of_ble_eq_true rfl, Nat.le_of_ble_eq_true rfl⟩ rfl hl.1 rfl (Nat.le_of_ble_eq_true rfl) dX5_join_216 rfl rfl ⟨Nat.le_refl _, Nat.le_refl _⟩ rfl (fun H locs M => ?_)
              obtain rfl := Option.some.inj h
              exact rt_i C0 M hr hk dX5_join_219
            · rw [if_neg c_27] at h
              refine lv_aload_n hx hb dX5_join_98 rfl (lv_at hl 1 rfl) ?_
              refine lv_bipush (v := 10) hx hb dX5_join_99 (by decide) ?_
              obtain ⟨⟨x_72, g_73⟩, hc_71, h⟩ := bnd_s h
              try dsimp only at h
              refine kV (As := [.int (10 : Int32)]) (rest := []) (stk := [.int x_72]) (val := (some (.int x_72))) (c1 := 0) (s1 := 0) C0 M (k_X5_no hc_71) kw_6_8 Y_X5_no (rv_X5 C0 M) ⟨Nat.le_of_ble_eq_true rfl, Nat.le_of_ble_eq_true rfl⟩ rfl hl.1 rfl (Nat.le_of_ble_eq_true rfl) dX5_join_101 rfl rfl ⟨Nat.le_refl _, Nat.le_refl _⟩ rfl (fun H locs M => ?_)
              obtain rfl := Option.some.inj h
              exact rt_i C0 M hr hk dX5_join_104
          · rw [if_pos c_20] at h
            exact w_X5_join_J63 C0 hr hk (lv_sub hl [0] rfl) M h
      · rw [if_pos c_12] at h
        exact w_X5_join_J31 C0 hr hk (lv_sub hl [0] rfl) M h
  · rw [if_pos c_3] at h
    refine lv_ldc (v := -2000000001) hx hb hown (hts _ kw_11_19) dX5_join_12 ?_
    obtain rfl := Option.some.inj h
    exact rt_i C0 M hr hk dX5_join_14
theorem k_X5_join {x1 : Int32} {x2 : Int32} {x3 : Int32} {res : Int32 × Gs} (h : m_X5_join x1 x2 x3 g = some res) : CM l yX5_join cX5_join 8 (some .int) ({ frames := 3, cells := 0, slots := 0, locals := 77 } : Room) [.ref (sb 13), .int x1, .int x2, .int x3] (some (.int res.1)) D b0 cy sb db g res.2 := by
  refine Met.ofW (cc := cX5_join) (maxL := 8) (ret := (some .int)) (by decide) rfl ?_
  intro p e s m args below meth c s₁ B hml hv
  obtain ⟨rfl, hW, hK⟩ := hv
  have hl := lv_entry [.ref (sb 13), .int x1, .int x2, .int x3] (n := 8) (Nat.le_of_ble_eq_true rfl)
  rw [lg_entry_eq]
  generalize (lg_sl [.ref (sb 13), .int x1, .int x2, .int x3] ++ List.replicate (8 - (lg_sl [.ref (sb 13), .int x1, .int x2, .int x3]).length) Slot.unset).toArray = ls at hl ⊢
  have hl : lv_has ls 8 [(0, .ref (sb 13)), (1, .int x1), (2, .int x2), (3, .int x3)] := hl
  exact w_X5_join ⟨B.exec, B.bytes, hml, findClass_of_methodNamed B.named, fun w hw => atoms_spec (ws := Cond.code yX5_join cX5_join 8 (some .int) :: wsL_law) B.pre w (List.mem_cons_of_mem _ hw), hK⟩ B.returns B.notSynchronized hl ⟨hW, va_S.rf⟩ h
theorem Y_X5_join : Yv yX5_join RX5 cX5_join 8 (some .int) 3 := ⟨⟨kw_25_11, kw_1_5, by decide +kernel, by decide +kernel, by decide +kernel⟩, kw_25_9, kw_25_10⟩
end WALK
