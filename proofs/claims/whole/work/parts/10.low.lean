section WALK
variable {p : Program} {l : Launch} {e : Env} {s : State} {m : MethodId} {args : Array Value} {below : List Frame} {meth : Method} {c : Code} {H : Heap} {locs : List Loc}
variable {ls : Array Slot} {D : va_G} {b0 : Nat} {cy : Cy} {sb db : Nat → Nat} {g : Gs}
-- X0_add
def m_X0_add_J60  (g : Gs) : Option (Gs) :=
  some g
def m_X0_add (x1 : Int32) (x2 : Int32) (x3 : Int32) (y4 : Int64) (g : Gs) : Option (Gs) :=
  if (30 : Int32) ≤ (g.1 7 0 0) then (m_X0_add_J60  g) else (chk (inb (g.1 7 0 0) 30) (lett (sI g 8 0 (g.1 7 0 0).toNatClampNeg x1) fun g_3 => chk (inb (g_3.1 7 0 0) 30) (lett (sI g_3 9 0 (g_3.1 7 0 0).toNatClampNeg x2) fun g_6 => chk (inb (g_6.1 7 0 0) 30) (lett (sI g_6 10 0 (g_6.1 7 0 0).toNatClampNeg x3) fun g_9 => chk (inb (g_9.1 7 0 0) 30) (lett (sL g_9 1 (g_9.1 7 0 0).toNatClampNeg y4) fun g_12 => lett (sI g_12 7 0 0 ((g_12.1 7 0 0) + (1 : Int32))) fun g_14 => m_X0_add_J60  g_14)))))
set_option maxHeartbeats 4000000 in
set_option maxRecDepth 100000 in
theorem w_X0_add_J60  (C0 : Cx p s m args c cX0_add 6 RX0 D cy) (hr : meth.sig.returnType = none) (hk : meth.locks = false) {res : Gs} (hl : lv_has ls 6 []) (M : Ws D b0 cy sb db g s H locs) (h : m_X0_add_J60  g = some res) : W p l e ({ frames := 0, cells := 0, slots := 0, locals := 0 } : Room) s m args below meth c H locs 0 0 (MQ below (QX none D b0 cy sb db res) args s 0 0 (fun q => b0 ≤ q)) (F0 m 60 ls []) := by
  obtain ⟨hx, hb, hml, hown, hts, hK⟩ := id C0
  rw [m_X0_add_J60] at h
  obtain rfl := Option.some.inj h
  exact rt_v C0 M hr hk dX0_add_60
set_option maxHeartbeats 4000000 in
set_option maxRecDepth 100000 in
theorem w_X0_add {x1 : Int32} {x2 : Int32} {x3 : Int32} {y4 : Int64} (C0 : Cx p s m args c cX0_add 6 RX0 D cy) (hr : meth.sig.returnType = none) (hk : meth.locks = false) {res : Gs} (hl : lv_has ls 6 [(0, .ref (sb 3)), (1, .int x1), (2, .int x2), (3, .int x3), (4, .long y4)]) (M : Ws D b0 cy sb db g s H locs) (h : m_X0_add x1 x2 x3 y4 g = some res) : W p l e ({ frames := 0, cells := 0, slots := 0, locals := 0 } : Room) s m args below meth c H locs 0 0 (MQ below (QX none D b0 cy sb db res) args s 0 0 (fun q => b0 ≤ q)) (F0 m 0 ls []) := by
  obtain ⟨hx, hb, hml, hown, hts, hK⟩ := id C0
  rw [m_X0_add] at h
  refine lv_aload_n hx hb dX0_add_0 rfl (lv_at hl 0 rfl) ?_
  refine gf_RX0_25 C0 M dX0_add_1 ?_
  refine lv_bipush (v := 30) hx hb dX0_add_4 (by decide) ?_
  refine lv_icmp_ge (tgt := 60) hx hb dX0_add_6 (by decide) (fun c_1 => ?_) (fun c_1 => ?_)
  · rw [if_pos c_1] at h
    exact w_X0_add_J60 C0 hr hk (lv_sub hl [] rfl) M h
  · rw [if_neg c_1] at h
    refine lv_aload_n hx hb dX0_add_9 rfl (lv_at hl 0 rfl) ?_
    refine gf_RX0_9 C0 M dX0_add_10 ?_
    refine lv_aload_n hx hb dX0_add_13 rfl (lv_at hl 0 rfl) ?_
    refine gf_RX0_25 C0 M dX0_add_14 ?_
    refine lv_iload_n hx hb dX0_add_17 rfl (lv_at hl 1 rfl) ?_
    obtain ⟨hi_2, h⟩ := chk_s h
    obtain ⟨g_3, hg_4, h⟩ := lett_s h
    refine as_LI C0 M hi_2 hg_4 dX0_add_18 (fun H locs M => ?_)
    refine lv_aload_n hx hb dX0_add_19 rfl (lv_at hl 0 rfl) ?_
    refine gf_RX0_15 C0 M dX0_add_20 ?_
    refine lv_aload_n hx hb dX0_add_23 rfl (lv_at hl 0 rfl) ?_
    refine gf_RX0_25 C0 M dX0_add_24 ?_
    refine lv_iload_n hx hb dX0_add_27 rfl (lv_at hl 2 rfl) ?_
    obtain ⟨hi_5, h⟩ := chk_s h
    obtain ⟨g_6, hg_7, h⟩ := lett_s h
    refine as_LJ C0 M hi_5 hg_7 dX0_add_28 (fun H locs M => ?_)
    refine lv_aload_n hx hb dX0_add_29 rfl (lv_at hl 0 rfl) ?_
    refine gf_RX0_18 C0 M dX0_add_30 ?_
    refine lv_aload_n hx hb dX0_add_33 rfl (lv_at hl 0 rfl) ?_
    refine gf_RX0_25 C0 M dX0_add_34 ?_
    refine lv_iload_n hx hb dX0_add_37 rfl (lv_at hl 3 rfl) ?_
    obtain ⟨hi_8, h⟩ := chk_s h
    obtain ⟨g_9, hg_10, h⟩ := lett_s h
    refine as_LK C0 M hi_8 hg_10 dX0_add_38 (fun H locs M => ?_)
    refine lv_aload_n hx hb dX0_add_39 rfl (lv_at hl 0 rfl) ?_
    refine gf_RX0_21 C0 M dX0_add_40 ?_
    refine lv_aload_n hx hb dX0_add_43 rfl (lv_at hl 0 rfl) ?_
    refine gf_RX0_25 C0 M dX0_add_44 ?_
    refine lv_lload hx hb dX0_add_47 (lv_at hl 4 rfl) ?_
    obtain ⟨hi_11, h⟩ := chk_s h
    obtain ⟨g_12, hg_13, h⟩ := lett_s h
    refine as_LV C0 M hi_11 hg_13 dX0_add_49 (fun H locs M => ?_)
    refine lv_aload_n hx hb dX0_add_50 rfl (lv_at hl 0 rfl) ?_
    refine lv_dup hx hb dX0_add_51 rfl ?_
    refine gf_RX0_25 C0 M dX0_add_52 ?_
    refine lv_iconst (v := 1) hx hb dX0_add_55 (by decide) ?_
    refine lv_iadd hx hb dX0_add_56 ?_
    obtain ⟨g_14, hg_15, h⟩ := lett_s h
    refine pf_RX0_25 C0 M hg_15 dX0_add_57 (fun H locs M => ?_)
    exact w_X0_add_J60 C0 hr hk (lv_sub hl [] rfl) M h
theorem k_X0_add {x1 : Int32} {x2 : Int32} {x3 : Int32} {y4 : Int64} {res : Gs} (h : m_X0_add x1 x2 x3 y4 g = some res) : CM l yX0_add cX0_add 6 none ({ frames := 0, cells := 0, slots := 0, locals := 0 } : Room) [.ref (sb 3), .int x1, .int x2, .int x3, .long y4] none D b0 cy sb db g res := by
  refine Met.ofW (cc := cX0_add) (maxL := 6) (ret := none) (by decide) rfl ?_
  intro p e s m args below meth c s₁ B hml hv
  obtain ⟨rfl, hW, hK⟩ := hv
  have hl := lv_entry [.ref (sb 3), .int x1, .int x2, .int x3, .long y4] (n := 6) (Nat.le_of_ble_eq_true rfl)
  rw [lg_entry_eq]
  generalize (lg_sl [.ref (sb 3), .int x1, .int x2, .int x3, .long y4] ++ List.replicate (6 - (lg_sl [.ref (sb 3), .int x1, .int x2, .int x3, .long y4]).length) Slot.unset).toArray = ls at hl ⊢
  have hl : lv_has ls 6 [(0, .ref (sb 3)), (1, .int x1), (2, .int x2), (3, .int x3), (4, .long y4)] := hl
  exact w_X0_add ⟨B.exec, B.bytes, hml, findClass_of_methodNamed B.named, fun w hw => atoms_spec (ws := Cond.code yX0_add cX0_add 6 none :: wsL_law) B.pre w (List.mem_cons_of_mem _ hw), hK⟩ B.returns B.notSynchronized hl ⟨hW, va_S.rf⟩ h
theorem Y_X0_add : Yv yX0_add RX0 cX0_add 6 none 4 := ⟨⟨kw_23_14, kw_1_19, by decide +kernel, by decide +kernel, by decide +kernel⟩, kw_23_12, kw_23_13⟩
-- X2_length
def m_X2_length (o0 : Nat) (x1 : Int32) (g : Gs) : Option (Int64) :=
  chk (o0 < 25) (if x1 < (g.1 4 o0 0) then (chk (inb x1 3) (chk (inb x1 3) (some (if (((g.1 6 o0 x1.toNatClampNeg).toInt64 - (g.1 5 o0 x1.toNatClampNeg).toInt64) + (1 : Int64)) < (0 : Int64) then (0 : Int64) else (((g.1 6 o0 x1.toNatClampNeg).toInt64 - (g.1 5 o0 x1.toNatClampNeg).toInt64) + (1 : Int64)))))) else (some (1 : Int64)))
set_option maxHeartbeats 4000000 in
set_option maxRecDepth 100000 in
theorem w_X2_length {o0 : Nat} {x1 : Int32} (C0 : Cx p s m args c cX2_length 2 RX2 D cy) (hr : meth.sig.returnType = (some .long)) (hk : meth.locks = false) {res : Int64} (hl : lv_has ls 2 [(0, .ref (sb (100 + o0))), (1, .int x1)]) (M : Ws D b0 cy sb db g s H locs) (h : m_X2_length o0 x1 g = some res) : W p l e ({ frames := 1, cells := 0, slots := 0, locals := 23 } : Room) s m args below meth c H locs 0 0 (MQ below (QX (some (.long res)) D b0 cy sb db g) args s 0 0 (fun q => b0 ≤ q)) (F0 m 0 ls []) := by
  obtain ⟨hx, hb, hml, hown, hts, hK⟩ := id C0
  rw [m_X2_length] at h
  obtain ⟨hB0, h⟩ := chk_s h
  refine lv_iload_n hx hb dX2_length_0 rfl (lv_at hl 1 rfl) ?_
  refine lv_aload_n hx hb dX2_length_1 rfl (lv_at hl 0 rfl) ?_
  refine gf_RX2_18 C0 M hB0 dX2_length_2 ?_
  refine lv_icmp_lt (tgt := 10) hx hb dX2_length_5 (by decide) (fun c_1 => ?_) (fun c_1 => ?_)
  · rw [if_pos c_1] at h
    refine lv_lconst (v := 0) hx hb dX2_length_10 (by decide) ?_
    refine lv_aload_n hx hb dX2_length_11 rfl (lv_at hl 0 rfl) ?_
    refine gf_RX2_15 C0 M hB0 dX2_length_12 ?_
    refine lv_iload_n hx hb dX2_length_15 rfl (lv_at hl 1 rfl) ?_
    obtain ⟨hi_2, h⟩ := chk_s h
    refine al_HIG C0 M hB0 hi_2 dX2_length_16 ?_
    refine lv_i2l hx hb dX2_length_17 rfl ?_
    refine lv_aload_n hx hb dX2_length_18 rfl (lv_at hl 0 rfl) ?_
    refine gf_RX2_9 C0 M hB0 dX2_length_19 ?_
    refine lv_iload_n hx hb dX2_length_22 rfl (lv_at hl 1 rfl) ?_
    obtain ⟨hi_3, h⟩ := chk_s h
    refine al_LOW C0 M hB0 hi_3 dX2_length_23 ?_
    refine lv_i2l hx hb dX2_length_24 rfl ?_
    refine lv_lsub hx hb dX2_length_25 ?_
    refine lv_lconst (v := 1) hx hb dX2_length_26 (by decide) ?_
    refine lv_ladd hx hb dX2_length_27 ?_
    refine va_mmax_long hx hb (hml.trans hl.1.symm) hown (hts _ kw_7_23) (hts _ kw_8_0) (hts _ kw_7_17) (hts _ kw_8_1) (Nat.le_of_ble_eq_true rfl) (Nat.le_of_ble_eq_true rfl) (Nat.zero_le _) (Nat.zero_le _) dX2_length_28 ?_
    obtain rfl := Option.some.inj h
    exact rt_l C0 M hr hk dX2_length_31
  · rw [if_neg c_1] at h
    refine lv_lconst (v := 1) hx hb dX2_length_8 (by decide) ?_
    obtain rfl := Option.some.inj h
    exact rt_l C0 M hr hk dX2_length_9
theorem k_X2_length {o0 : Nat} {x1 : Int32} {res : Int64} (h : m_X2_length o0 x1 g = some res) : CM l yX2_length cX2_length 2 (some .long) ({ frames := 1, cells := 0, slots := 0, locals := 23 } : Room) [.ref (sb (100 + o0)), .int x1] (some (.long res)) D b0 cy sb db g g := by
  refine Met.ofW (cc := cX2_length) (maxL := 2) (ret := (some .long)) (by decide) rfl ?_
  intro p e s m args below meth c s₁ B hml hv
  obtain ⟨rfl, hW, hK⟩ := hv
  have hl := lv_entry [.ref (sb (100 + o0)), .int x1] (n := 2) (Nat.le_of_ble_eq_true rfl)
  rw [lg_entry_eq]
  generalize (lg_sl [.ref (sb (100 + o0)), .int x1] ++ List.replicate (2 - (lg_sl [.ref (sb (100 + o0)), .int x1]).length) Slot.unset).toArray = ls at hl ⊢
  have hl : lv_has ls 2 [(0, .ref (sb (100 + o0))), (1, .int x1)] := hl
  exact w_X2_length ⟨B.exec, B.bytes, hml, findClass_of_methodNamed B.named, fun w hw => atoms_spec (ws := Cond.code yX2_length cX2_length 2 (some .long) :: wsL_law) B.pre w (List.mem_cons_of_mem _ hw), hK⟩ B.returns B.notSynchronized hl ⟨hW, va_S.rf⟩ h
theorem Y_X2_length : Yv yX2_length RX2 cX2_length 2 (some .long) 1 := ⟨⟨kw_7_22, kw_1_15, by decide +kernel, by decide +kernel, by decide +kernel⟩, kw_7_20, kw_7_21⟩
-- X1_rowCount
def m_X1_rowCount (n0 : Nat) (g : Gs) : Option (Int32) :=
  chk (n0 < 24) ((m_X2_length (n0 + 1) (0 : Int32) g).bind fun y_2 => some y_2.toInt32)
set_option maxHeartbeats 4000000 in
set_option maxRecDepth 100000 in
theorem w_X1_rowCount {n0 : Nat} (C0 : Cx p s m args c cX1_rowCount 1 RX1 D cy) (hr : meth.sig.returnType = (some .int)) (hk : meth.locks = false) {res : Int32} (hl : lv_has ls 1 [(0, .ref (sb (400 + n0)))]) (M : Ws D b0 cy sb db g s H locs) (h : m_X1_rowCount n0 g = some res) : W p l e ({ frames := 2, cells := 0, slots := 0, locals := 44 } : Room) s m args below meth c H locs 0 0 (MQ below (QX (some (.int res)) D b0 cy sb db g) args s 0 0 (fun q => b0 ≤ q)) (F0 m 0 ls []) := by
  obtain ⟨hx, hb, hml, hown, hts, hK⟩ := id C0
  rw [m_X1_rowCount] at h
  obtain ⟨hB0, h⟩ := chk_s h
  refine lv_aload_n hx hb dX1_rowCount_0 rfl (lv_at hl 0 rfl) ?_
  refine gf_RX1_12 C0 M hB0 dX1_rowCount_1 ?_
  refine lv_iconst (v := 0) hx hb dX1_rowCount_4 (by decide) ?_
  obtain ⟨y_2, hc_1, h⟩ := bnd_s h
  refine kV (As := [.int (0 : Int32)]) (rest := []) (stk := [.long y_2]) (val := (some (.long y_2))) (c1 := 0) (s1 := 0) C0 M (k_X2_length hc_1) kw_11_5 Y_X2_length (rv_X2 C0 M (Nat.succ_lt_succ hB0)) ⟨Nat.le_of_ble_eq_true rfl, Nat.le_of_ble_eq_true rfl⟩ rfl hl.1 rfl (Nat.le_of_ble_eq_true rfl) dX1_rowCount_5 rfl rfl ⟨Nat.le_refl _, Nat.le_refl _⟩ rfl (fun H locs M => ?_)
  refine lv_l2i hx hb dX1_rowCount_8 rfl ?_
  obtain rfl := Option.some.inj h
  exact rt_i C0 M hr hk dX1_rowCount_9
theorem k_X1_rowCount {n0 : Nat} {res : Int32} (h : m_X1_rowCount n0 g = some res) : CM l yX1_rowCount cX1_rowCount 1 (some .int) ({ frames := 2, cells := 0, slots := 0, locals := 44 } : Room) [.ref (sb (400 + n0))] (some (.int res)) D b0 cy sb db g g := by
  refine Met.ofW (cc := cX1_rowCount) (maxL := 1) (ret := (some .int)) (by decide) rfl ?_
  intro p e s m args below meth c s₁ B hml hv
  obtain ⟨rfl, hW, hK⟩ := hv
  have hl := lv_entry [.ref (sb (400 + n0))] (n := 1) (Nat.le_of_ble_eq_true rfl)
  rw [lg_entry_eq]
  generalize (lg_sl [.ref (sb (400 + n0))] ++ List.replicate (1 - (lg_sl [.ref (sb (400 + n0))]).length) Slot.unset).toArray = ls at hl ⊢
  have hl : lv_has ls 1 [(0, .ref (sb (400 + n0)))] := hl
  exact w_X1_rowCount ⟨B.exec, B.bytes, hml, findClass_of_methodNamed B.named, fun w hw => atoms_spec (ws := Cond.code yX1_rowCount cX1_rowCount 1 (some .int) :: wsL_law) B.pre w (List.mem_cons_of_mem _ hw), hK⟩ B.returns B.notSynchronized hl ⟨hW, va_S.rf⟩ h
theorem Y_X1_rowCount : Yv yX1_rowCount RX1 cX1_rowCount 1 (some .int) 0 := ⟨⟨kw_11_4, kw_2_9, by decide +kernel, by decide +kernel, by decide +kernel⟩, kw_11_2, kw_11_3⟩
-- X2_add
def m_X2_add_J38  (g : Gs) : Option (Gs) :=
  some g
def m_X2_add (o0 : Nat) (x1 : Int32) (x2 : Int32) (g : Gs) : Option (Gs) :=
  chk (o0 < 25) (if (3 : Int32) ≤ (g.1 4 o0 0) then (m_X2_add_J38  g) else (chk (inb (g.1 4 o0 0) 3) (lett (sI g 5 o0 (g.1 4 o0 0).toNatClampNeg x1) fun g_3 => chk (inb (g_3.1 4 o0 0) 3) (lett (sI g_3 6 o0 (g_3.1 4 o0 0).toNatClampNeg x2) fun g_6 => lett (sI g_6 4 o0 0 ((g_6.1 4 o0 0) + (1 : Int32))) fun g_8 => m_X2_add_J38  g_8))))
set_option maxHeartbeats 4000000 in
set_option maxRecDepth 100000 in
theorem w_X2_add_J38  (C0 : Cx p s m args c cX2_add 3 RX2 D cy) (hr : meth.sig.returnType = none) (hk : meth.locks = false) {res : Gs} (hl : lv_has ls 3 []) (M : Ws D b0 cy sb db g s H locs) (h : m_X2_add_J38  g = some res) : W p l e ({ frames := 0, cells := 0, slots := 0, locals := 0 } : Room) s m args below meth c H locs 0 0 (MQ below (QX none D b0 cy sb db res) args s 0 0 (fun q => b0 ≤ q)) (F0 m 38 ls []) := by
  obtain ⟨hx, hb, hml, hown, hts, hK⟩ := id C0
  rw [m_X2_add_J38] at h
  obtain rfl := Option.some.inj h
  exact rt_v C0 M hr hk dX2_add_38
set_option maxHeartbeats 4000000 in
set_option maxRecDepth 100000 in
theorem w_X2_add {o0 : Nat} {x1 : Int32} {x2 : Int32} (C0 : Cx p s m args c cX2_add 3 RX2 D cy) (hr : meth.sig.returnType = none) (hk : meth.locks = false) {res : Gs} (hl : lv_has ls 3 [(0, .ref (sb (100 + o0))), (1, .int x1), (2, .int x2)]) (M : Ws D b0 cy sb db g s H locs) (h : m_X2_add o0 x1 x2 g = some res) : W p l e ({ frames := 0, cells := 0, slots := 0, locals := 0 } : Room) s m args below meth c H locs 0 0 (MQ below (QX none D b0 cy sb db res) args s 0 0 (fun q => b0 ≤ q)) (F0 m 0 ls []) := by
  obtain ⟨hx, hb, hml, hown, hts, hK⟩ := id C0
  rw [m_X2_add] at h
  obtain ⟨hB0, h⟩ := chk_s h
  refine lv_aload_n hx hb dX2_add_0 rfl (lv_at hl 0 rfl) ?_
  refine gf_RX2_18 C0 M hB0 dX2_add_1 ?_
  refine lv_iconst (v := 3) hx hb dX2_add_4 (by decide) ?_
  refine lv_icmp_ge (tgt := 38) hx hb dX2_add_5 (by decide) (fun c_1 => ?_) (fun c_1 => ?_)
  · rw [if_pos c_1] at h
    exact w_X2_add_J38 C0 hr hk (lv_sub hl [] rfl) M h
  · rw [if_neg c_1] at h
    refine lv_aload_n hx hb dX2_add_8 rfl (lv_at hl 0 rfl) ?_
    refine gf_RX2_9 C0 M hB0 dX2_add_9 ?_
    refine lv_aload_n hx hb dX2_add_12 rfl (lv_at hl 0 rfl) ?_
    refine gf_RX2_18 C0 M hB0 dX2_add_13 ?_
    refine lv_iload_n hx hb dX2_add_16 rfl (lv_at hl 1 rfl) ?_
    obtain ⟨hi_2, h⟩ := chk_s h
    obtain ⟨g_3, hg_4, h⟩ := lett_s h
    refine as_LOW C0 M hB0 hi_2 hg_4 dX2_add_17 (fun H locs M => ?_)
    refine lv_aload_n hx hb dX2_add_18 rfl (lv_at hl 0 rfl) ?_
    refine gf_RX2_15 C0 M hB0 dX2_add_19 ?_
    refine lv_aload_n hx hb dX2_add_22 rfl (lv_at hl 0 rfl) ?_
    refine gf_RX2_18 C0 M hB0 dX2_add_23 ?_
    refine lv_iload_n hx hb dX2_add_26 rfl (lv_at hl 2 rfl) ?_
    obtain ⟨hi_5, h⟩ := chk_s h
    obtain ⟨g_6, hg_7, h⟩ := lett_s h
    refine as_HIG C0 M hB0 hi_5 hg_7 dX2_add_27 (fun H locs M => ?_)
    refine lv_aload_n hx hb dX2_add_28 rfl (lv_at hl 0 rfl) ?_
    refine lv_dup hx hb dX2_add_29 rfl ?_
    refine gf_RX2_18 C0 M hB0 dX2_add_30 ?_
    refine lv_iconst (v := 1) hx hb dX2_add_33 (by decide) ?_
    refine lv_iadd hx hb dX2_add_34 ?_
    obtain ⟨g_8, hg_9, h⟩ := lett_s h
    refine pf_RX2_18 C0 M hB0 hg_9 dX2_add_35 (fun H locs M => ?_)
    exact w_X2_add_J38 C0 hr hk (lv_sub hl [] rfl) M h
theorem k_X2_add {o0 : Nat} {x1 : Int32} {x2 : Int32} {res : Gs} (h : m_X2_add o0 x1 x2 g = some res) : CM l yX2_add cX2_add 3 none ({ frames := 0, cells := 0, slots := 0, locals := 0 } : Room) [.ref (sb (100 + o0)), .int x1, .int x2] none D b0 cy sb db g res := by
  refine Met.ofW (cc := cX2_add) (maxL := 3) (ret := none) (by decide) rfl ?_
  intro p e s m args below meth c s₁ B hml hv
  obtain ⟨rfl, hW, hK⟩ := hv
  have hl := lv_entry [.ref (sb (100 + o0)), .int x1, .int x2] (n := 3) (Nat.le_of_ble_eq_true rfl)
  rw [lg_entry_eq]
  generalize (lg_sl [.ref (sb (100 + o0)), .int x1, .int x2] ++ List.replicate (3 - (lg_sl [.ref (sb (100 + o0)), .int x1, .int x2]).length) Slot.unset).toArray = ls at hl ⊢
  have hl : lv_has ls 3 [(0, .ref (sb (100 + o0))), (1, .int x1), (2, .int x2)] := hl
  exact w_X2_add ⟨B.exec, B.bytes, hml, findClass_of_methodNamed B.named, fun w hw => atoms_spec (ws := Cond.code yX2_add cX2_add 3 none :: wsL_law) B.pre w (List.mem_cons_of_mem _ hw), hK⟩ B.returns B.notSynchronized hl ⟨hW, va_S.rf⟩ h
theorem Y_X2_add : Yv yX2_add RX2 cX2_add 3 none 2 := ⟨⟨kw_5_21, kw_1_15, by decide +kernel, by decide +kernel, by decide +kernel⟩, kw_5_19, kw_5_20⟩
-- X2_addAll
def m_X2_addAll_L2 (o0 : Nat) (o1 : Nat) : Nat → Int32 → Gs → Option (Gs)
  | 0, _, _ => none
  | fu + 1, x2, g =>
  if (g.1 4 o1 0) ≤ x2 then (some g) else (chk (inb x2 3) (chk (inb x2 3) ((m_X2_add o0 (g.1 5 o1 x2.toNatClampNeg) (g.1 6 o1 x2.toNatClampNeg) g).bind fun g_7 => lett (x2 + 1) fun x_8 => m_X2_addAll_L2 o0 o1 fu x_8 g_7)))
def m_X2_addAll (o0 : Nat) (o1 : Nat) (g : Gs) : Option (Gs) :=
  chk (o0 < 25) (chk (o1 < 25) (lett (0 : Int32) fun x_1 => (m_X2_addAll_L2 o0 o1 FU x_1 g).bind fun g_10 => some g_10))
set_option maxHeartbeats 4000000 in
set_option maxRecDepth 100000 in
theorem w_X2_addAll_L2 {o0 : Nat} {o1 : Nat} (hB0 : o0 < 25) (hB1 : o1 < 25) (C0 : Cx p s m args c cX2_addAll 3 RX2 D cy) (hr : meth.sig.returnType = none) (hk : meth.locks = false) {res : Gs} {q : Gs} (kk : ∀ (g : Gs) (H : Heap) (locs : List Loc) (ls : Array Slot), q = g → lv_has ls 3 [] → Ws D b0 cy sb db g s H locs → W p l e ({ frames := 1, cells := 0, slots := 0, locals := 22 } : Room) s m args below meth c H locs 0 0 (MQ below (QX none D b0 cy sb db res) args s 0 0 (fun q => b0 ≤ q)) (F0 m 32 ls [])) : ∀ (fu : Nat) (x2 : Int32) (g : Gs) (H : Heap) (locs : List Loc) (ls : Array Slot), lv_has ls 3 [(0, .ref (sb (100 + o0))), (1, .ref (sb (100 + o1))), (2, .int x2)] → Ws D b0 cy sb db g s H locs → m_X2_addAll_L2 o0 o1 fu x2 g = some q → W p l e ({ frames := 1, cells := 0, slots := 0, locals := 22 } : Room) s m args below meth c H locs 0 0 (MQ below (QX none D b0 cy sb db res) args s 0 0 (fun q => b0 ≤ q)) (F0 m 2 ls []) := by
  obtain ⟨hx, hb, hml, hown, hts, hK⟩ := id C0
  intro fu
  induction fu with
  | zero =>
    intro x2 g H locs ls hl M h
    cases h
  | succ fu ih =>
    intro x2 g H locs ls hl M h
    rw [m_X2_addAll_L2] at h
    refine lv_iload_n hx hb dX2_addAll_2 rfl (lv_at hl 2 rfl) ?_
    refine lv_aload_n hx hb dX2_addAll_3 rfl (lv_at hl 1 rfl) ?_
    refine gf_RX2_18 C0 M hB1 dX2_addAll_4 ?_
    refine lv_icmp_ge (tgt := 32) hx hb dX2_addAll_7 (by decide) (fun c_3 => ?_) (fun c_3 => ?_)
    · rw [if_pos c_3] at h
      exact kk _ _ _ _ (Option.some.inj h).symm (lv_sub hl [] rfl) M
    · rw [if_neg c_3] at h
      refine lv_aload_n hx hb dX2_addAll_10 rfl (lv_at hl 0 rfl) ?_
      refine lv_aload_n hx hb dX2_addAll_11 rfl (lv_at hl 1 rfl) ?_
      refine gf_RX2_9 C0 M hB1 dX2_addAll_12 ?_
      refine lv_iload_n hx hb dX2_addAll_15 rfl (lv_at hl 2 rfl) ?_
      obtain ⟨hi_4, h⟩ := chk_s h
      refine al_LOW C0 M hB1 hi_4 dX2_addAll_16 ?_
      refine lv_aload_n hx hb dX2_addAll_17 rfl (lv_at hl 1 rfl) ?_
      refine gf_RX2_15 C0 M hB1 dX2_addAll_18 ?_
      refine lv_iload_n hx hb dX2_addAll_21 rfl (lv_at hl 2 rfl) ?_
      obtain ⟨hi_5, h⟩ := chk_s h
      refine al_HIG C0 M hB1 hi_5 dX2_addAll_22 ?_
      obtain ⟨g_7, hc_6, h⟩ := bnd_s h
      refine kV (As := [.int (g.1 5 o1 x2.toNatClampNeg), .int (g.1 6 o1 x2.toNatClampNeg)]) (rest := []) (stk := []) (val := none) (c1 := 0) (s1 := 0) C0 M (k_X2_add hc_6) kw_10_19 Y_X2_add (rv_X2 C0 M hB0) ⟨Nat.le_of_ble_eq_true rfl, Nat.le_of_ble_eq_true rfl⟩ rfl hl.1 rfl (Nat.le_of_ble_eq_true rfl) dX2_addAll_23 rfl rfl ⟨Nat.le_refl _, Nat.le_refl _⟩ rfl (fun H locs M => ?_)
      obtain ⟨x_8, hn_9, h⟩ := lett_s h
      refine lv_iinc (v := x_8) (lv' := [(2, .int x_8), (0, .ref (sb (100 + o0))), (1, .ref (sb (100 + o1)))]) hx hb dX2_addAll_26 hl (k := 2) rfl (by rw [hn_9]; rfl) (by decide) rfl (fun ls hl => ?_)
      refine lv_goto (tgt := 2) hx hb dX2_addAll_29 (by decide) ?_
      exact ih _ _ _ _ _ (lv_sub hl [1, 2, 0] rfl) M h
set_option maxHeartbeats 4000000 in
set_option maxRecDepth 100000 in
theorem w_X2_addAll {o0 : Nat} {o1 : Nat} (C0 : Cx p s m args c cX2_addAll 3 RX2 D cy) (hr : meth.sig.returnType = none) (hk : meth.locks = false) {res : Gs} (hl : lv_has ls 3 [(0, .ref (sb (100 + o0))), (1, .ref (sb (100 + o1)))]) (M : Ws D b0 cy sb db g s H locs) (h : m_X2_addAll o0 o1 g = some res) : W p l e ({ frames := 1, cells := 0, slots := 0, locals := 22 } : Room) s m args below meth c H locs 0 0 (MQ below (QX none D b0 cy sb db res) args s 0 0 (fun q => b0 ≤ q)) (F0 m 0 ls []) := by
  obtain ⟨hx, hb, hml, hown, hts, hK⟩ := id C0
  rw [m_X2_addAll] at h
  obtain ⟨hB0, h⟩ := chk_s h
  obtain ⟨hB1, h⟩ := chk_s h
  refine lv_iconst (v := 0) hx hb dX2_addAll_0 (by decide) ?_
  obtain ⟨x_1, hn_2, h⟩ := lett_s h
  refine nm_i hn_2 ?_
  refine lv_istore_n (lv' := [(2, .int x_1), (0, .ref (sb (100 + o0))), (1, .ref (sb (100 + o1)))]) hx hb dX2_addAll_1 rfl hl (by decide) rfl (fun ls hl => ?_)
  obtain ⟨q_11, hq_12, h⟩ := bnd_s h
  refine w_X2_addAll_L2 hB0 hB1 C0 hr hk (q := q_11) (fun g_10 H locs ls hq hl M => ?_) FU _ _ _ _ _ (lv_sub hl [1, 2, 0] rfl) M hq_12
  subst q_11
  try dsimp only at h
  obtain rfl := Option.some.inj h
  exact rt_v C0 M hr hk dX2_addAll_32
theorem k_X2_addAll {o0 : Nat} {o1 : Nat} {res : Gs} (h : m_X2_addAll o0 o1 g = some res) : CM l yX2_addAll cX2_addAll 3 none ({ frames := 1, cells := 0, slots := 0, locals := 22 } : Room) [.ref (sb (100 + o0)), .ref (sb (100 + o1))] none D b0 cy sb db g res := by
  refine Met.ofW (cc := cX2_addAll) (maxL := 3) (ret := none) (by decide) rfl ?_
  intro p e s m args below meth c s₁ B hml hv
  obtain ⟨rfl, hW, hK⟩ := hv
  have hl := lv_entry [.ref (sb (100 + o0)), .ref (sb (100 + o1))] (n := 3) (Nat.le_of_ble_eq_true rfl)
  rw [lg_entry_eq]
  generalize (lg_sl [.ref (sb (100 + o0)), .ref (sb (100 + o1))] ++ List.replicate (3 - (lg_sl [.ref (sb (100 + o0)), .ref (sb (100 + o1))]).length) Slot.unset).toArray = ls at hl ⊢
  have hl : lv_has ls 3 [(0, .ref (sb (100 + o0))), (1, .ref (sb (100 + o1)))] := hl
  exact w_X2_addAll ⟨B.exec, B.bytes, hml, findClass_of_methodNamed B.named, fun w hw => atoms_spec (ws := Cond.code yX2_addAll cX2_addAll 3 none :: wsL_law) B.pre w (List.mem_cons_of_mem _ hw), hK⟩ B.returns B.notSynchronized hl ⟨hW, va_S.rf⟩ h
theorem Y_X2_addAll : Yv yX2_addAll RX2 cX2_addAll 3 none 1 := ⟨⟨kw_10_18, kw_1_15, by decide +kernel, by decide +kernel, by decide +kernel⟩, kw_10_16, kw_10_17⟩
-- X2_swapFirstTwo
def m_X2_swapFirstTwo (o0 : Nat) (g : Gs) : Option (Gs) :=
  chk (o0 < 25) (chk (inb (0 : Int32) 3) (lett (g.1 5 o0 (0 : Int32).toNatClampNeg) fun x_2 => chk (inb (0 : Int32) 3) (lett (g.1 6 o0 (0 : Int32).toNatClampNeg) fun x_5 => chk (inb (1 : Int32) 3) (chk (inb (0 : Int32) 3) (lett (sI g 5 o0 (0 : Int32).toNatClampNeg (g.1 5 o0 (1 : Int32).toNatClampNeg)) fun g_9 => chk (inb (1 : Int32) 3) (chk (inb (0 : Int32) 3) (lett (sI g_9 6 o0 (0 : Int32).toNatClampNeg (g_9.1 6 o0 (1 : Int32).toNatClampNeg)) fun g_13 => chk (inb (1 : Int32) 3) (lett (sI g_13 5 o0 (1 : Int32).toNatClampNeg x_2) fun g_16 => chk (inb (1 : Int32) 3) (lett (sI g_16 6 o0 (1 : Int32).toNatClampNeg x_5) fun g_19 => some g_19)))))))))
set_option maxHeartbeats 4000000 in
set_option maxRecDepth 100000 in
theorem w_X2_swapFirstTwo {o0 : Nat} (C0 : Cx p s m args c cX2_swapFirstTwo 3 RX2 D cy) (hr : meth.sig.returnType = none) (hk : meth.locks = false) {res : Gs} (hl : lv_has ls 3 [(0, .ref (sb (100 + o0)))]) (M : Ws D b0 cy sb db g s H locs) (h : m_X2_swapFirstTwo o0 g = some res) : W p l e ({ frames := 0, cells := 0, slots := 0, locals := 0 } : Room) s m args below meth c H locs 0 0 (MQ below (QX none D b0 cy sb db res) args s 0 0 (fun q => b0 ≤ q)) (F0 m 0 ls []) := by
  obtain ⟨hx, hb, hml, hown, hts, hK⟩ := id C0
  rw [m_X2_swapFirstTwo] at h
  obtain ⟨hB0, h⟩ := chk_s h
  refine lv_aload_n hx hb dX2_swapFirstTwo_0 rfl (lv_at hl 0 rfl) ?_
  refine gf_RX2_9 C0 M hB0 dX2_swapFirstTwo_1 ?_
  refine lv_iconst (v := 0) hx hb dX2_swapFirstTwo_4 (by decide) ?_
  obtain ⟨hi_1, h⟩ := chk_s h
  refine al_LOW C0 M hB0 hi_1 dX2_swapFirstTwo_5 ?_
  obtain ⟨x_2, hn_3, h⟩ := lett_s h
  refine nm_i hn_3 ?_
  refine lv_istore_n (lv' := [(1, .int x_2), (0, .ref (sb (100 + o0)))]) hx hb dX2_swapFirstTwo_6 rfl hl (by decide) rfl (fun ls hl => ?_)
  refine lv_aload_n hx hb dX2_swapFirstTwo_7 rfl (lv_at hl 1 rfl) ?_
  refine gf_RX2_15 C0 M hB0 dX2_swapFirstTwo_8 ?_
  refine lv_iconst (v := 0) hx hb dX2_swapFirstTwo_11 (by decide) ?_
  obtain ⟨hi_4, h⟩ := chk_s h
  refine al_HIG C0 M hB0 hi_4 dX2_swapFirstTwo_12 ?_
  obtain ⟨x_5, hn_6, h⟩ := lett_s h
  refine nm_i hn_6 ?_
  refine lv_istore_n (lv' := [(2, .int x_5), (1, .int x_2), (0, .ref (sb (100 + o0)))]) hx hb dX2_swapFirstTwo_13 rfl hl (by decide) rfl (fun ls hl => ?_)
  refine lv_aload_n hx hb dX2_swapFirstTwo_14 rfl (lv_at hl 2 rfl) ?_
  refine gf_RX2_9 C0 M hB0 dX2_swapFirstTwo_15 ?_
  refine lv_iconst (v := 0) hx hb dX2_swapFirstTwo_18 (by decide) ?_
  refine lv_aload_n hx hb dX2_swapFirstTwo_19 rfl (lv_at hl 2 rfl) ?_
  refine gf_RX2_9 C0 M hB0 dX2_swapFirstTwo_20 ?_
  refine lv_iconst (v := 1) hx hb dX2_swapFirstTwo_23 (by decide) ?_
  obtain ⟨hi_7, h⟩ := chk_s h
  refine al_LOW C0 M hB0 hi_7 dX2_swapFirstTwo_24 ?_
  obtain ⟨hi_8, h⟩ := chk_s h
  obtain ⟨g_9, hg_10, h⟩ := lett_s h
  refine as_LOW C0 M hB0 hi_8 hg_10 dX2_swapFirstTwo_25 (fun H locs M => ?_)
  refine lv_aload_n hx hb dX2_swapFirstTwo_26 rfl (lv_at hl 2 rfl) ?_
  refine gf_RX2_15 C0 M hB0 dX2_swapFirstTwo_27 ?_
  refine lv_iconst (v := 0) hx hb dX2_swapFirstTwo_30 (by decide) ?_
  refine lv_aload_n hx hb dX2_swapFirstTwo_31 rfl (lv_at hl 2 rfl) ?_
  refine gf_RX2_15 C0 M hB0 dX2_swapFirstTwo_32 ?_
  refine lv_iconst (v := 1) hx hb dX2_swapFirstTwo_35 (by decide) ?_
  obtain ⟨hi_11, h⟩ := chk_s h
  refine al_HIG C0 M hB0 hi_11 dX2_swapFirstTwo_36 ?_
  obtain ⟨hi_12, h⟩ := chk_s h
  obtain ⟨g_13, hg_14, h⟩ := lett_s h
  refine as_HIG C0 M hB0 hi_12 hg_14 dX2_swapFirstTwo_37 (fun H locs M => ?_)
  refine lv_aload_n hx hb dX2_swapFirstTwo_38 rfl (lv_at hl 2 rfl) ?_
  refine gf_RX2_9 C0 M hB0 dX2_swapFirstTwo_39 ?_
  refine lv_iconst (v := 1) hx hb dX2_swapFirstTwo_42 (by decide) ?_
  refine lv_iload_n hx hb dX2_swapFirstTwo_43 rfl (lv_at hl 1 rfl) ?_
  obtain ⟨hi_15, h⟩ := chk_s h
  obtain ⟨g_16, hg_17, h⟩ := lett_s h
  refine as_LOW C0 M hB0 hi_15 hg_17 dX2_swapFirstTwo_44 (fun H locs M => ?_)
  refine lv_aload_n hx hb dX2_swapFirstTwo_45 rfl (lv_at hl 2 rfl) ?_
  refine gf_RX2_15 C0 M hB0 dX2_swapFirstTwo_46 ?_
  refine lv_iconst (v := 1) hx hb dX2_swapFirstTwo_49 (by decide) ?_
  refine lv_iload_n hx hb dX2_swapFirstTwo_50 rfl (lv_at hl 0 rfl) ?_
  obtain ⟨hi_18, h⟩ := chk_s h
  obtain ⟨g_19, hg_20, h⟩ := lett_s h
  refine as_HIG C0 M hB0 hi_18 hg_20 dX2_swapFirstTwo_51 (fun H locs M => ?_)
  obtain rfl := Option.some.inj h
  exact rt_v C0 M hr hk dX2_swapFirstTwo_52
theorem k_X2_swapFirstTwo {o0 : Nat} {res : Gs} (h : m_X2_swapFirstTwo o0 g = some res) : CM l yX2_swapFirstTwo cX2_swapFirstTwo 3 none ({ frames := 0, cells := 0, slots := 0, locals := 0 } : Room) [.ref (sb (100 + o0))] none D b0 cy sb db g res := by
  refine Met.ofW (cc := cX2_swapFirstTwo) (maxL := 3) (ret := none) (by decide) rfl ?_
  intro p e s m args below meth c s₁ B hml hv
  obtain ⟨rfl, hW, hK⟩ := hv
  have hl := lv_entry [.ref (sb (100 + o0))] (n := 3) (Nat.le_of_ble_eq_true rfl)
  rw [lg_entry_eq]
  generalize (lg_sl [.ref (sb (100 + o0))] ++ List.replicate (3 - (lg_sl [.ref (sb (100 + o0))]).length) Slot.unset).toArray = ls at hl ⊢
  have hl : lv_has ls 3 [(0, .ref (sb (100 + o0)))] := hl
  exact w_X2_swapFirstTwo ⟨B.exec, B.bytes, hml, findClass_of_methodNamed B.named, fun w hw => atoms_spec (ws := Cond.code yX2_swapFirstTwo cX2_swapFirstTwo 3 none :: wsL_law) B.pre w (List.mem_cons_of_mem _ hw), hK⟩ B.returns B.notSynchronized hl ⟨hW, va_S.rf⟩ h
theorem Y_X2_swapFirstTwo : Yv yX2_swapFirstTwo RX2 cX2_swapFirstTwo 3 none 0 := ⟨⟨kw_15_8, kw_1_15, by decide +kernel, by decide +kernel, by decide +kernel⟩, kw_15_6, kw_15_7⟩
-- X2_items
def m_X2_items_L4 (o0 : Nat) (g : Gs) : Nat → Int64 → Int32 → Option (Int64)
  | 0, _, _ => none
  | fu + 1, y1, x3 =>
  if (g.1 4 o0 0) ≤ x3 then (some y1) else ((m_X2_length o0 x3 g).bind fun y_7 => lett ((if (501 : Int64) < y1 then (501 : Int64) else y1) * y_7) fun y_8 => lett (x3 + 1) fun x_10 => m_X2_items_L4 o0 g fu y_8 x_10)
def m_X2_items (o0 : Nat) (g : Gs) : Option (Int32) :=
  chk (o0 < 25) (lett (1 : Int64) fun y_1 => lett (0 : Int32) fun x_3 => (m_X2_items_L4 o0 g FU y_1 x_3).bind fun y_12 => some ((if (501 : Int64) < y_12 then (501 : Int64) else y_12).toInt32))
set_option maxHeartbeats 4000000 in
set_option maxRecDepth 100000 in
theorem w_X2_items_L4 {o0 : Nat} (hB0 : o0 < 25) (C0 : Cx p s m args c cX2_items 4 RX2 D cy) (hr : meth.sig.returnType = (some .int)) (hk : meth.locks = false) {res : Int32} {q : Int64} (kk : ∀ (y1 : Int64) (H : Heap) (locs : List Loc) (ls : Array Slot), q = y1 → lv_has ls 4 [(1, .long y1)] → Ws D b0 cy sb db g s H locs → W p l e ({ frames := 2, cells := 0, slots := 0, locals := 44 } : Room) s m args below meth c H locs 0 0 (MQ below (QX (some (.int res)) D b0 cy sb db g) args s 0 0 (fun q => b0 ≤ q)) (F0 m 32 ls [])) : ∀ (fu : Nat) (y1 : Int64) (x3 : Int32) (H : Heap) (locs : List Loc) (ls : Array Slot), lv_has ls 4 [(0, .ref (sb (100 + o0))), (1, .long y1), (3, .int x3)] → Ws D b0 cy sb db g s H locs → m_X2_items_L4 o0 g fu y1 x3 = some q → W p l e ({ frames := 2, cells := 0, slots := 0, locals := 44 } : Room) s m args below meth c H locs 0 0 (MQ below (QX (some (.int res)) D b0 cy sb db g) args s 0 0 (fun q => b0 ≤ q)) (F0 m 4 ls []) := by
  obtain ⟨hx, hb, hml, hown, hts, hK⟩ := id C0
  intro fu
  induction fu with
  | zero =>
    intro y1 x3 H locs ls hl M h
    cases h
  | succ fu ih =>
    intro y1 x3 H locs ls hl M h
    rw [m_X2_items_L4] at h
    refine lv_iload_n hx hb dX2_items_4 rfl (lv_at hl 2 rfl) ?_
    refine lv_aload_n hx hb dX2_items_5 rfl (lv_at hl 0 rfl) ?_
    refine gf_RX2_18 C0 M hB0 dX2_items_6 ?_
    refine lv_icmp_ge (tgt := 32) hx hb dX2_items_9 (by decide) (fun c_5 => ?_) (fun c_5 => ?_)
    · rw [if_pos c_5] at h
      exact kk _ _ _ _ (Option.some.inj h).symm (lv_sub hl [1] rfl) M
    · rw [if_neg c_5] at h
      refine lv_lload_n hx hb dX2_items_12 rfl (lv_at hl 1 rfl) ?_
      refine lv_ldc2 (v := 501) hx hb hown (hts _ kw_7_14) dX2_items_13 ?_
      refine va_mmin_long hx hb (hml.trans hl.1.symm) hown (hts _ kw_7_15) (hts _ kw_7_16) (hts _ kw_7_17) (hts _ kw_7_18) (Nat.le_of_ble_eq_true rfl) (Nat.le_of_ble_eq_true rfl) (Nat.zero_le _) (Nat.zero_le _) dX2_items_16 ?_
      refine lv_aload_n hx hb dX2_items_19 rfl (lv_at hl 0 rfl) ?_
      refine lv_iload_n hx hb dX2_items_20 rfl (lv_at hl 2 rfl) ?_
      obtain ⟨y_7, hc_6, h⟩ := bnd_s h
      refine kV (As := [.int x3]) (rest := [.long (if (501 : Int64) < y1 then (501 : Int64) else y1)]) (stk := [.long y_7, .long (if (501 : Int64) < y1 then (501 : Int64) else y1)]) (val := (some (.long y_7))) (c1 := 0) (s1 := 0) C0 M (k_X2_length hc_6) kw_7_19 Y_X2_length (rv_X2 C0 M hB0) ⟨Nat.le_of_ble_eq_true rfl, Nat.le_of_ble_eq_true rfl⟩ rfl hl.1 rfl (Nat.le_of_ble_eq_true rfl) dX2_items_21 rfl rfl ⟨Nat.le_refl _, Nat.le_refl _⟩ rfl (fun H locs M => ?_)
      refine lv_lmul hx hb dX2_items_24 ?_
      obtain ⟨y_8, hn_9, h⟩ := lett_s h
      refine nm_l hn_9 ?_
      refine lv_lstore_n (lv' := [(1, .long y_8), (0, .ref (sb (100 + o0))), (3, .int x3)]) hx hb dX2_items_25 rfl hl (by decide) rfl (fun ls hl => ?_)
      obtain ⟨x_10, hn_11, h⟩ := lett_s h
      refine lv_iinc (v := x_10) (lv' := [(3, .int x_10), (1, .long y_8), (0, .ref (sb (100 + o0)))]) hx hb dX2_items_26 hl (k := 2) rfl (by rw [hn_11]; rfl) (by decide) rfl (fun ls hl => ?_)
      refine lv_goto (tgt := 4) hx hb dX2_items_29 (by decide) ?_
      exact ih _ _ _ _ _ (lv_sub hl [2, 1, 0] rfl) M h
set_option maxHeartbeats 4000000 in
set_option maxRecDepth 100000 in
theorem w_X2_items {o0 : Nat} (C0 : Cx p s m args c cX2_items 4 RX2 D cy) (hr : meth.sig.returnType = (some .int)) (hk : meth.locks = false) {res : Int32} (hl : lv_has ls 4 [(0, .ref (sb (100 + o0)))]) (M : Ws D b0 cy sb db g s H locs) (h : m_X2_items o0 g = some res) : W p l e ({ frames := 2, cells := 0, slots := 0, locals := 44 } : Room) s m args below meth c H locs 0 0 (MQ below (QX (some (.int res)) D b0 cy sb db g) args s 0 0 (fun q => b0 ≤ q)) (F0 m 0 ls []) := by
  obtain ⟨hx, hb, hml, hown, hts, hK⟩ := id C0
  rw [m_X2_items] at h
  obtain ⟨hB0, h⟩ := chk_s h
  refine lv_lconst (v := 1) hx hb dX2_items_0 (by decide) ?_
  obtain ⟨y_1, hn_2, h⟩ := lett_s h
  refine nm_l hn_2 ?_
  refine lv_lstore_n (lv' := [(1, .long y_1), (0, .ref (sb (100 + o0)))]) hx hb dX2_items_1 rfl hl (by decide) rfl (fun ls hl => ?_)
  refine lv_iconst (v := 0) hx hb dX2_items_2 (by decide) ?_
  obtain ⟨x_3, hn_4, h⟩ := lett_s h
  refine nm_i hn_4 ?_
  refine lv_istore_n (lv' := [(3, .int x_3), (1, .long y_1), (0, .ref (sb (100 + o0)))]) hx hb dX2_items_3 rfl hl (by decide) rfl (fun ls hl => ?_)
  obtain ⟨q_13, hq_14, h⟩ := bnd_s h
  refine w_X2_items_L4 hB0 C0 hr hk (q := q_13) (fun y_12 H locs ls hq hl M => ?_) FU _ _ _ _ _ (lv_sub hl [2, 1, 0] rfl) M hq_14
  subst q_13
  try dsimp only at h
  refine lv_lload_n hx hb dX2_items_32 rfl (lv_at hl 0 rfl) ?_
  refine lv_ldc2 (v := 501) hx hb hown (hts _ kw_7_14) dX2_items_33 ?_
  refine va_mmin_long hx hb (hml.trans hl.1.symm) hown (hts _ kw_7_15) (hts _ kw_7_16) (hts _ kw_7_17) (hts _ kw_7_18) (Nat.le_of_ble_eq_true rfl) (Nat.le_of_ble_eq_true rfl) (Nat.zero_le _) (Nat.zero_le _) dX2_items_36 ?_
  refine lv_l2i hx hb dX2_items_39 rfl ?_
  obtain rfl := Option.some.inj h
  exact rt_i C0 M hr hk dX2_items_40
theorem k_X2_items {o0 : Nat} {res : Int32} (h : m_X2_items o0 g = some res) : CM l yX2_items cX2_items 4 (some .int) ({ frames := 2, cells := 0, slots := 0, locals := 44 } : Room) [.ref (sb (100 + o0))] (some (.int res)) D b0 cy sb db g g := by
  refine Met.ofW (cc := cX2_items) (maxL := 4) (ret := (some .int)) (by decide) rfl ?_
  intro p e s m args below meth c s₁ B hml hv
  obtain ⟨rfl, hW, hK⟩ := hv
  have hl := lv_entry [.ref (sb (100 + o0))] (n := 4) (Nat.le_of_ble_eq_true rfl)
  rw [lg_entry_eq]
  generalize (lg_sl [.ref (sb (100 + o0))] ++ List.replicate (4 - (lg_sl [.ref (sb (100 + o0))]).length) Slot.unset).toArray = ls at hl ⊢
  have hl : lv_has ls 4 [(0, .ref (sb (100 + o0)))] := hl
  exact w_X2_items ⟨B.exec, B.bytes, hml, findClass_of_methodNamed B.named, fun w hw => atoms_spec (ws := Cond.code yX2_items cX2_items 4 (some .int) :: wsL_law) B.pre w (List.mem_cons_of_mem _ hw), hK⟩ B.returns B.notSynchronized hl ⟨hW, va_S.rf⟩ h
theorem Y_X2_items : Yv yX2_items RX2 cX2_items 4 (some .int) 0 := ⟨⟨kw_7_13, kw_1_15, by decide +kernel, by decide +kernel, by decide +kernel⟩, kw_7_11, kw_7_12⟩
-- X2_holds
def m_X2_holds_J25 (xs0 : Int32) (g : Gs) : Option (Int32) :=
  chk (xs0 &&& 1 = xs0) (some xs0)
def m_X2_holds_J24  (g : Gs) : Option (Int32) :=
  m_X2_holds_J25 (0 : Int32) g
def m_X2_holds (o0 : Nat) (x1 : Int32) (x2 : Int32) (g : Gs) : Option (Int32) :=
  chk (o0 < 25) (chk (inb x1 3) (if x2 < (g.1 5 o0 x1.toNatClampNeg) then (m_X2_holds_J24  g) else (chk (inb x1 3) (if (g.1 6 o0 x1.toNatClampNeg) < x2 then (m_X2_holds_J24  g) else (m_X2_holds_J25 (1 : Int32) g)))))
set_option maxHeartbeats 4000000 in
set_option maxRecDepth 100000 in
theorem w_X2_holds_J25 {xs0 : Int32} (C0 : Cx p s m args c cX2_holds 3 RX2 D cy) (hr : meth.sig.returnType = (some .boolean)) (hk : meth.locks = false) {res : Int32} (hl : lv_has ls 3 []) (M : Ws D b0 cy sb db g s H locs) (h : m_X2_holds_J25 xs0 g = some res) : W p l e ({ frames := 0, cells := 0, slots := 0, locals := 0 } : Room) s m args below meth c H locs 0 0 (MQ below (QX (some (.int res)) D b0 cy sb db g) args s 0 0 (fun q => b0 ≤ q)) (F0 m 25 ls [.int xs0]) := by
  obtain ⟨hx, hb, hml, hown, hts, hK⟩ := id C0
  rw [m_X2_holds_J25] at h
  obtain ⟨hz_3, h⟩ := chk_s h
  obtain rfl := Option.some.inj h
  exact rt_z C0 M hr hk hz_3 dX2_holds_25
set_option maxHeartbeats 4000000 in
set_option maxRecDepth 100000 in
theorem w_X2_holds_J24  (C0 : Cx p s m args c cX2_holds 3 RX2 D cy) (hr : meth.sig.returnType = (some .boolean)) (hk : meth.locks = false) {res : Int32} (hl : lv_has ls 3 []) (M : Ws D b0 cy sb db g s H locs) (h : m_X2_holds_J24  g = some res) : W p l e ({ frames := 0, cells := 0, slots := 0, locals := 0 } : Room) s m args below meth c H locs 0 0 (MQ below (QX (some (.int res)) D b0 cy sb db g) args s 0 0 (fun q => b0 ≤ q)) (F0 m 24 ls []) := by
  obtain ⟨hx, hb, hml, hown, hts, hK⟩ := id C0
  rw [m_X2_holds_J24] at h
  refine lv_iconst (v := 0) hx hb dX2_holds_24 (by decide) ?_
  exact w_X2_holds_J25 C0 hr hk hl M h
set_option maxHeartbeats 4000000 in
set_option maxRecDepth 100000 in
theorem w_X2_holds {o0 : Nat} {x1 : Int32} {x2 : Int32} (C0 : Cx p s m args c cX2_holds 3 RX2 D cy) (hr : meth.sig.returnType = (some .boolean)) (hk : meth.locks = false) {res : Int32} (hl : lv_has ls 3 [(0, .ref (sb (100 + o0))), (1, .int x1), (2, .int x2)]) (M : Ws D b0 cy sb db g s H locs) (h : m_X2_holds o0 x1 x2 g = some res) : W p l e ({ frames := 0, cells := 0, slots := 0, locals := 0 } : Room) s m args below meth c H locs 0 0 (MQ below (QX (some (.int res)) D b0 cy sb db g) args s 0 0 (fun q => b0 ≤ q)) (F0 m 0 ls []) := by
  obtain ⟨hx, hb, hml, hown, hts, hK⟩ := id C0
  rw [m_X2_holds] at h
  obtain ⟨hB0, h⟩ := chk_s h
  refine lv_aload_n hx hb dX2_holds_0 rfl (lv_at hl 0 rfl) ?_
  refine gf_RX2_9 C0 M hB0 dX2_holds_1 ?_
  refine lv_iload_n hx hb dX2_holds_4 rfl (lv_at hl 1 rfl) ?_
  obtain ⟨hi_1, h⟩ := chk_s h
  refine al_LOW C0 M hB0 hi_1 dX2_holds_5 ?_
  refine lv_iload_n hx hb dX2_holds_6 rfl (lv_at hl 2 rfl) ?_
  refine lv_icmp_gt (tgt := 24) hx hb dX2_holds_7 (by decide) (fun c_2 => ?_) (fun c_2 => ?_)
  · rw [if_pos c_2] at h
    exact w_X2_holds_J24 C0 hr hk (lv_sub hl [] rfl) M h
  · rw [if_neg c_2] at h
    refine lv_iload_n hx hb dX2_holds_10 rfl (lv_at hl 2 rfl) ?_
    refine lv_aload_n hx hb dX2_holds_11 rfl (lv_at hl 0 rfl) ?_
    refine gf_RX2_15 C0 M hB0 dX2_holds_12 ?_
    refine lv_iload_n hx hb dX2_holds_15 rfl (lv_at hl 1 rfl) ?_
    obtain ⟨hi_4, h⟩ := chk_s h
    refine al_HIG C0 M hB0 hi_4 dX2_holds_16 ?_
    refine lv_icmp_gt (tgt := 24) hx hb dX2_holds_17 (by decide) (fun c_5 => ?_) (fun c_5 => ?_)
    · rw [if_pos c_5] at h
      exact w_X2_holds_J24 C0 hr hk (lv_sub hl [] rfl) M h
    · rw [if_neg c_5] at h
      refine lv_iconst (v := 1) hx hb dX2_holds_20 (by decide) ?_
      refine lv_goto (tgt := 25) hx hb dX2_holds_21 (by decide) ?_
      exact w_X2_holds_J25 C0 hr hk (lv_sub hl [] rfl) M h
theorem k_X2_holds {o0 : Nat} {x1 : Int32} {x2 : Int32} {res : Int32} (h : m_X2_holds o0 x1 x2 g = some res) : CM l yX2_holds cX2_holds 3 (some .boolean) ({ frames := 0, cells := 0, slots := 0, locals := 0 } : Room) [.ref (sb (100 + o0)), .int x1, .int x2] (some (.int res)) D b0 cy sb db g g := by
  refine Met.ofW (cc := cX2_holds) (maxL := 3) (ret := (some .boolean)) (by decide) rfl ?_
  intro p e s m args below meth c s₁ B hml hv
  obtain ⟨rfl, hW, hK⟩ := hv
  have hl := lv_entry [.ref (sb (100 + o0)), .int x1, .int x2] (n := 3) (Nat.le_of_ble_eq_true rfl)
  rw [lg_entry_eq]
  generalize (lg_sl [.ref (sb (100 + o0)), .int x1, .int x2] ++ List.replicate (3 - (lg_sl [.ref (sb (100 + o0)), .int x1, .int x2]).length) Slot.unset).toArray = ls at hl ⊢
  have hl : lv_has ls 3 [(0, .ref (sb (100 + o0))), (1, .int x1), (2, .int x2)] := hl
  exact w_X2_holds ⟨B.exec, B.bytes, hml, findClass_of_methodNamed B.named, fun w hw => atoms_spec (ws := Cond.code yX2_holds cX2_holds 3 (some .boolean) :: wsL_law) B.pre w (List.mem_cons_of_mem _ hw), hK⟩ B.returns B.notSynchronized hl ⟨hW, va_S.rf⟩ h
theorem Y_X2_holds : Yv yX2_holds RX2 cX2_holds 3 (some .boolean) 2 := ⟨⟨kw_16_20, kw_1_15, by decide +kernel, by decide +kernel, by decide +kernel⟩, kw_16_18, kw_16_19⟩
-- X2_offset
def m_X2_offset (o0 : Nat) (x1 : Int32) (x2 : Int32) (g : Gs) : Option (Int32) :=
  chk (o0 < 25) (chk (inb x1 3) (some (x2 - (g.1 5 o0 x1.toNatClampNeg))))
set_option maxHeartbeats 4000000 in
set_option maxRecDepth 100000 in
theorem w_X2_offset {o0 : Nat} {x1 : Int32} {x2 : Int32} (C0 : Cx p s m args c cX2_offset 3 RX2 D cy) (hr : meth.sig.returnType = (some .int)) (hk : meth.locks = false) {res : Int32} (hl : lv_has ls 3 [(0, .ref (sb (100 + o0))), (1, .int x1), (2, .int x2)]) (M : Ws D b0 cy sb db g s H locs) (h : m_X2_offset o0 x1 x2 g = some res) : W p l e ({ frames := 0, cells := 0, slots := 0, locals := 0 } : Room) s m args below meth c H locs 0 0 (MQ below (QX (some (.int res)) D b0 cy sb db g) args s 0 0 (fun q => b0 ≤ q)) (F0 m 0 ls []) := by
  obtain ⟨hx, hb, hml, hown, hts, hK⟩ := id C0
  rw [m_X2_offset] at h
  obtain ⟨hB0, h⟩ := chk_s h
  refine lv_iload_n hx hb dX2_offset_0 rfl (lv_at hl 2 rfl) ?_
  refine lv_aload_n hx hb dX2_offset_1 rfl (lv_at hl 0 rfl) ?_
  refine gf_RX2_9 C0 M hB0 dX2_offset_2 ?_
  refine lv_iload_n hx hb dX2_offset_5 rfl (lv_at hl 1 rfl) ?_
  obtain ⟨hi_1, h⟩ := chk_s h
  refine al_LOW C0 M hB0 hi_1 dX2_offset_6 ?_
  refine lv_isub hx hb dX2_offset_7 ?_
  obtain rfl := Option.some.inj h
  exact rt_i C0 M hr hk dX2_offset_8
theorem k_X2_offset {o0 : Nat} {x1 : Int32} {x2 : Int32} {res : Int32} (h : m_X2_offset o0 x1 x2 g = some res) : CM l yX2_offset cX2_offset 3 (some .int) ({ frames := 0, cells := 0, slots := 0, locals := 0 } : Room) [.ref (sb (100 + o0)), .int x1, .int x2] (some (.int res)) D b0 cy sb db g g := by
  refine Met.ofW (cc := cX2_offset) (maxL := 3) (ret := (some .int)) (by decide) rfl ?_
  intro p e s m args below meth c s₁ B hml hv
  obtain ⟨rfl, hW, hK⟩ := hv
  have hl := lv_entry [.ref (sb (100 + o0)), .int x1, .int x2] (n := 3) (Nat.le_of_ble_eq_true rfl)
  rw [lg_entry_eq]
  generalize (lg_sl [.ref (sb (100 + o0)), .int x1, .int x2] ++ List.replicate (3 - (lg_sl [.ref (sb (100 + o0)), .int x1, .int x2]).length) Slot.unset).toArray = ls at hl ⊢
  have hl : lv_has ls 3 [(0, .ref (sb (100 + o0))), (1, .int x1), (2, .int x2)] := hl
  exact w_X2_offset ⟨B.exec, B.bytes, hml, findClass_of_methodNamed B.named, fun w hw => atoms_spec (ws := Cond.code yX2_offset cX2_offset 3 (some .int) :: wsL_law) B.pre w (List.mem_cons_of_mem _ hw), hK⟩ B.returns B.notSynchronized hl ⟨hW, va_S.rf⟩ h
theorem Y_X2_offset : Yv yX2_offset RX2 cX2_offset 3 (some .int) 2 := ⟨⟨kw_17_4, kw_1_15, by decide +kernel, by decide +kernel, by decide +kernel⟩, kw_17_2, kw_17_3⟩
-- X2_indexOf
def m_X2_indexOf_J16 (xs0 : Int32) (g : Gs) : Option (Int32) :=
  some xs0
def m_X2_indexOf (x0 : Int32) (x1 : Int32) (x2 : Int32) (x3 : Int32) (g : Gs) : Option (Int32) :=
  if x0 = 0 then (some x1) else (if x0 = (1 : Int32) then (m_X2_indexOf_J16 x2 g) else (m_X2_indexOf_J16 x3 g))
set_option maxHeartbeats 4000000 in
set_option maxRecDepth 100000 in
theorem w_X2_indexOf_J16 {xs0 : Int32} (C0 : Cx p s m args c cX2_indexOf 4 RX2 D cy) (hr : meth.sig.returnType = (some .int)) (hk : meth.locks = false) {res : Int32} (hl : lv_has ls 4 []) (M : Ws D b0 cy sb db g s H locs) (h : m_X2_indexOf_J16 xs0 g = some res) : W p l e ({ frames := 0, cells := 0, slots := 0, locals := 0 } : Room) s m args below meth c H locs 0 0 (MQ below (QX (some (.int res)) D b0 cy sb db g) args s 0 0 (fun q => b0 ≤ q)) (F0 m 16 ls [.int xs0]) := by
  obtain ⟨hx, hb, hml, hown, hts, hK⟩ := id C0
  rw [m_X2_indexOf_J16] at h
  obtain rfl := Option.some.inj h
  exact rt_i C0 M hr hk dX2_indexOf_16
set_option maxHeartbeats 4000000 in
set_option maxRecDepth 100000 in
theorem w_X2_indexOf {x0 : Int32} {x1 : Int32} {x2 : Int32} {x3 : Int32} (C0 : Cx p s m args c cX2_indexOf 4 RX2 D cy) (hr : meth.sig.returnType = (some .int)) (hk : meth.locks = false) {res : Int32} (hl : lv_has ls 4 [(0, .int x0), (1, .int x1), (2, .int x2), (3, .int x3)]) (M : Ws D b0 cy sb db g s H locs) (h : m_X2_indexOf x0 x1 x2 x3 g = some res) : W p l e ({ frames := 0, cells := 0, slots := 0, locals := 0 } : Room) s m args below meth c H locs 0 0 (MQ below (QX (some (.int res)) D b0 cy sb db g) args s 0 0 (fun q => b0 ≤ q)) (F0 m 0 ls []) := by
  obtain ⟨hx, hb, hml, hown, hts, hK⟩ := id C0
  rw [m_X2_indexOf] at h
  refine lv_iload_n hx hb dX2_indexOf_0 rfl (lv_at hl 0 rfl) ?_
  refine lv_if_ne (tgt := 6) hx hb dX2_indexOf_1 (by decide) (fun c_1 => ?_) (fun c_1 => ?_)
  · rw [if_neg c_1] at h
    refine lv_iload_n hx hb dX2_indexOf_6 rfl (lv_at hl 0 rfl) ?_
    refine lv_iconst (v := 1) hx hb dX2_indexOf_7 (by decide) ?_
    refine lv_icmp_ne (tgt := 15) hx hb dX2_indexOf_8 (by decide) (fun c_2 => ?_) (fun c_2 => ?_)
    · rw [if_neg c_2] at h
      refine lv_iload_n hx hb dX2_indexOf_15 rfl (lv_at hl 3 rfl) ?_
      exact w_X2_indexOf_J16 C0 hr hk (lv_sub hl [] rfl) M h
    · rw [if_pos c_2] at h
      refine lv_iload_n hx hb dX2_indexOf_11 rfl (lv_at hl 2 rfl) ?_
      refine lv_goto (tgt := 16) hx hb dX2_indexOf_12 (by decide) ?_
      exact w_X2_indexOf_J16 C0 hr hk (lv_sub hl [] rfl) M h
  · rw [if_pos c_1] at h
    refine lv_iload_n hx hb dX2_indexOf_4 rfl (lv_at hl 1 rfl) ?_
    obtain rfl := Option.some.inj h
    exact rt_i C0 M hr hk dX2_indexOf_5
theorem k_X2_indexOf {x0 : Int32} {x1 : Int32} {x2 : Int32} {x3 : Int32} {res : Int32} (h : m_X2_indexOf x0 x1 x2 x3 g = some res) : CM l yX2_indexOf cX2_indexOf 4 (some .int) ({ frames := 0, cells := 0, slots := 0, locals := 0 } : Room) [.int x0, .int x1, .int x2, .int x3] (some (.int res)) D b0 cy sb db g g := by
  refine Met.ofW (cc := cX2_indexOf) (maxL := 4) (ret := (some .int)) (by decide) rfl ?_
  intro p e s m args below meth c s₁ B hml hv
  obtain ⟨rfl, hW, hK⟩ := hv
  have hl := lv_entry [.int x0, .int x1, .int x2, .int x3] (n := 4) (Nat.le_of_ble_eq_true rfl)
  rw [lg_entry_eq]
  generalize (lg_sl [.int x0, .int x1, .int x2, .int x3] ++ List.replicate (4 - (lg_sl [.int x0, .int x1, .int x2, .int x3]).length) Slot.unset).toArray = ls at hl ⊢
  have hl : lv_has ls 4 [(0, .int x0), (1, .int x1), (2, .int x2), (3, .int x3)] := hl
  exact w_X2_indexOf ⟨B.exec, B.bytes, hml, findClass_of_methodNamed B.named, fun w hw => atoms_spec (ws := Cond.code yX2_indexOf cX2_indexOf 4 (some .int) :: wsL_law) B.pre w (List.mem_cons_of_mem _ hw), hK⟩ B.returns B.notSynchronized hl ⟨hW, va_S.rf⟩ h
theorem Y_X2_indexOf : Ys yX2_indexOf cX2_indexOf 4 (some .int) 4 := ⟨⟨kw_16_16, kw_1_15, by decide +kernel, by decide +kernel, by decide +kernel⟩, kw_16_15⟩
-- X2_firstBeyond
def m_X2_firstBeyond_L3 (o0 : Nat) (x1 : Int32) (x2 : Int32) (x3 : Int32) (g : Gs) : Nat → Int32 → Option ((Int32) ⊕ (Unit))
  | 0, _ => none
  | fu + 1, x4 =>
  if (g.1 4 o0 0) ≤ x4 then (some (.inr ())) else ((m_X2_indexOf x4 x1 x2 x3 g).bind fun x_5 => (m_X2_holds o0 x4 x_5 g).bind fun x_7 => if x_7 = 0 then (some (.inl x4)) else (lett (x4 + 1) fun x_9 => m_X2_firstBeyond_L3 o0 x1 x2 x3 g fu x_9))
def m_X2_firstBeyond (o0 : Nat) (x1 : Int32) (x2 : Int32) (x3 : Int32) (g : Gs) : Option (Int32) :=
  chk (o0 < 25) (lett (0 : Int32) fun x_1 => (m_X2_firstBeyond_L3 o0 x1 x2 x3 g FU x_1).bind fun q_11 => exi q_11 (fun r => some r) fun _ => some (-1 : Int32))
set_option maxHeartbeats 4000000 in
set_option maxRecDepth 100000 in
theorem w_X2_firstBeyond_L3 {o0 : Nat} {x1 : Int32} {x2 : Int32} {x3 : Int32} (hB0 : o0 < 25) (C0 : Cx p s m args c cX2_firstBeyond 5 RX2 D cy) (hr : meth.sig.returnType = (some .int)) (hk : meth.locks = false) {res : Int32} {q : (Int32) ⊕ (Unit)} (hret : ∀ r, q = .inl r → r = res) (kk : ∀  (H : Heap) (locs : List Loc) (ls : Array Slot), q = .inr () → lv_has ls 5 [] → Ws D b0 cy sb db g s H locs → W p l e ({ frames := 1, cells := 0, slots := 0, locals := 23 } : Room) s m args below meth c H locs 0 0 (MQ below (QX (some (.int res)) D b0 cy sb db g) args s 0 0 (fun q => b0 ≤ q)) (F0 m 38 ls [])) : ∀ (fu : Nat) (x4 : Int32) (H : Heap) (locs : List Loc) (ls : Array Slot), lv_has ls 5 [(0, .ref (sb (100 + o0))), (1, .int x1), (2, .int x2), (3, .int x3), (4, .int x4)] → Ws D b0 cy sb db g s H locs → m_X2_firstBeyond_L3 o0 x1 x2 x3 g fu x4 = some q → W p l e ({ frames := 1, cells := 0, slots := 0, locals := 23 } : Room) s m args below meth c H locs 0 0 (MQ below (QX (some (.int res)) D b0 cy sb db g) args s 0 0 (fun q => b0 ≤ q)) (F0 m 3 ls []) := by
  obtain ⟨hx, hb, hml, hown, hts, hK⟩ := id C0
  intro fu
  induction fu with
  | zero =>
    intro x4 H locs ls hl M h
    cases h
  | succ fu ih =>
    intro x4 H locs ls hl M h
    rw [m_X2_firstBeyond_L3] at h
    refine lv_iload hx hb dX2_firstBeyond_3 (lv_at hl 4 rfl) ?_
    refine lv_aload_n hx hb dX2_firstBeyond_5 rfl (lv_at hl 0 rfl) ?_
    refine gf_RX2_18 C0 M hB0 dX2_firstBeyond_6 ?_
    refine lv_icmp_ge (tgt := 38) hx hb dX2_firstBeyond_9 (by decide) (fun c_3 => ?_) (fun c_3 => ?_)
    · rw [if_pos c_3] at h
      exact kk _ _ _ (Option.some.inj h).symm (lv_sub hl [] rfl) M
    · rw [if_neg c_3] at h
      refine lv_aload_n hx hb dX2_firstBeyond_12 rfl (lv_at hl 0 rfl) ?_
      refine lv_iload hx hb dX2_firstBeyond_13 (lv_at hl 4 rfl) ?_
      refine lv_iload hx hb dX2_firstBeyond_15 (lv_at hl 4 rfl) ?_
      refine lv_iload_n hx hb dX2_firstBeyond_17 rfl (lv_at hl 1 rfl) ?_
      refine lv_iload_n hx hb dX2_firstBeyond_18 rfl (lv_at hl 2 rfl) ?_
      refine lv_iload_n hx hb dX2_firstBeyond_19 rfl (lv_at hl 3 rfl) ?_
      obtain ⟨x_5, hc_4, h⟩ := bnd_s h
      refine kS (As := [.int x4, .int x1, .int x2, .int x3]) (rest := [.int x4, .ref (sb (100 + o0))]) (stk := [.int x_5, .int x4, .ref (sb (100 + o0))]) (val := (some (.int x_5))) (c1 := 0) (s1 := 0) C0 M (k_X2_indexOf hc_4) kw_16_14 Y_X2_indexOf ⟨Nat.le_of_ble_eq_true rfl, Nat.le_of_ble_eq_true rfl⟩ rfl hl.1 rfl (Nat.le_of_ble_eq_true rfl) dX2_firstBeyond_20 rfl rfl ⟨Nat.le_refl _, Nat.le_refl _⟩ rfl (fun H locs M => ?_)
      obtain ⟨x_7, hc_6, h⟩ := bnd_s h
      refine kV (As := [.int x4, .int x_5]) (rest := []) (stk := [.int x_7]) (val := (some (.int x_7))) (c1 := 0) (s1 := 0) C0 M (k_X2_holds hc_6) kw_16_17 Y_X2_holds (rv_X2 C0 M hB0) ⟨Nat.le_of_ble_eq_true rfl, Nat.le_of_ble_eq_true rfl⟩ rfl hl.1 rfl (Nat.le_of_ble_eq_true rfl) dX2_firstBeyond_23 rfl rfl ⟨Nat.le_refl _, Nat.le_refl _⟩ rfl (fun H locs M => ?_)
      refine lv_if_ne (tgt := 32) hx hb dX2_firstBeyond_26 (by decide) (fun c_8 => ?_) (fun c_8 => ?_)
      · rw [if_neg c_8] at h
        obtain ⟨x_9, hn_10, h⟩ := lett_s h
        refine lv_iinc (v := x_9) (lv' := [(4, .int x_9), (0, .ref (sb (100 + o0))), (1, .int x1), (2, .int x2), (3, .int x3)]) hx hb dX2_firstBeyond_32 hl (k := 4) rfl (by rw [hn_10]; rfl) (by decide) rfl (fun ls hl => ?_)
        refine lv_goto (tgt := 3) hx hb dX2_firstBeyond_35 (by decide) ?_
        exact ih _ _ _ _ (lv_sub hl [1, 2, 3, 4, 0] rfl) M h
      · rw [if_pos c_8] at h
        refine lv_iload hx hb dX2_firstBeyond_29 (lv_at hl 4 rfl) ?_
        obtain rfl := Option.some.inj h
        obtain rfl := hret _ rfl
        exact rt_i C0 M hr hk dX2_firstBeyond_31
set_option maxHeartbeats 4000000 in
set_option maxRecDepth 100000 in
theorem w_X2_firstBeyond {o0 : Nat} {x1 : Int32} {x2 : Int32} {x3 : Int32} (C0 : Cx p s m args c cX2_firstBeyond 5 RX2 D cy) (hr : meth.sig.returnType = (some .int)) (hk : meth.locks = false) {res : Int32} (hl : lv_has ls 5 [(0, .ref (sb (100 + o0))), (1, .int x1), (2, .int x2), (3, .int x3)]) (M : Ws D b0 cy sb db g s H locs) (h : m_X2_firstBeyond o0 x1 x2 x3 g = some res) : W p l e ({ frames := 1, cells := 0, slots := 0, locals := 23 } : Room) s m args below meth c H locs 0 0 (MQ below (QX (some (.int res)) D b0 cy sb db g) args s 0 0 (fun q => b0 ≤ q)) (F0 m 0 ls []) := by
  obtain ⟨hx, hb, hml, hown, hts, hK⟩ := id C0
  rw [m_X2_firstBeyond] at h
  obtain ⟨hB0, h⟩ := chk_s h
  refine lv_iconst (v := 0) hx hb dX2_firstBeyond_0 (by decide) ?_
  obtain ⟨x_1, hn_2, h⟩ := lett_s h
  refine nm_i hn_2 ?_
  refine lv_istore (lv' := [(4, .int x_1), (0, .ref (sb (100 + o0))), (1, .int x1), (2, .int x2), (3, .int x3)]) hx hb dX2_firstBeyond_1 hl (by decide) rfl (fun ls hl => ?_)
  obtain ⟨q_11, hq_12, h⟩ := bnd_s h
  refine w_X2_firstBeyond_L3 hB0 C0 hr hk (q := q_11) (fun r hq => ?_) (fun  H locs ls hq hl M => ?_) FU _ _ _ _ (lv_sub hl [1, 2, 3, 4, 0] rfl) M hq_12
  · subst hq
    exact Option.some.inj h
  subst q_11
  try dsimp only [exi] at h
  refine lv_iconst (v := -1) hx hb dX2_firstBeyond_38 (by decide) ?_
  obtain rfl := Option.some.inj h
  exact rt_i C0 M hr hk dX2_firstBeyond_39
theorem k_X2_firstBeyond {o0 : Nat} {x1 : Int32} {x2 : Int32} {x3 : Int32} {res : Int32} (h : m_X2_firstBeyond o0 x1 x2 x3 g = some res) : CM l yX2_firstBeyond cX2_firstBeyond 5 (some .int) ({ frames := 1, cells := 0, slots := 0, locals := 23 } : Room) [.ref (sb (100 + o0)), .int x1, .int x2, .int x3] (some (.int res)) D b0 cy sb db g g := by
  refine Met.ofW (cc := cX2_firstBeyond) (maxL := 5) (ret := (some .int)) (by decide) rfl ?_
  intro p e s m args below meth c s₁ B hml hv
  obtain ⟨rfl, hW, hK⟩ := hv
  have hl := lv_entry [.ref (sb (100 + o0)), .int x1, .int x2, .int x3] (n := 5) (Nat.le_of_ble_eq_true rfl)
  rw [lg_entry_eq]
  generalize (lg_sl [.ref (sb (100 + o0)), .int x1, .int x2, .int x3] ++ List.replicate (5 - (lg_sl [.ref (sb (100 + o0)), .int x1, .int x2, .int x3]).length) Slot.unset).toArray = ls at hl ⊢
  have hl : lv_has ls 5 [(0, .ref (sb (100 + o0))), (1, .int x1), (2, .int x2), (3, .int x3)] := hl
  exact w_X2_firstBeyond ⟨B.exec, B.bytes, hml, findClass_of_methodNamed B.named, fun w hw => atoms_spec (ws := Cond.code yX2_firstBeyond cX2_firstBeyond 5 (some .int) :: wsL_law) B.pre w (List.mem_cons_of_mem _ hw), hK⟩ B.returns B.notSynchronized hl ⟨hW, va_S.rf⟩ h
theorem Y_X2_firstBeyond : Yv yX2_firstBeyond RX2 cX2_firstBeyond 5 (some .int) 3 := ⟨⟨kw_16_13, kw_1_15, by decide +kernel, by decide +kernel, by decide +kernel⟩, kw_16_11, kw_16_12⟩
-- X2_place
def m_X2_place_L6 (o0 : Nat) (x1 : Int32) (x2 : Int32) (x3 : Int32) (g : Gs) : Nat → Int32 → Int32 → Option (Int32)
  | 0, _, _ => none
  | fu + 1, x4, x5 =>
  if (g.1 4 o0 0) ≤ x5 then (some x4) else ((m_X2_length o0 x5 g).bind fun y_7 => (m_X2_indexOf x5 x1 x2 x3 g).bind fun x_9 => (m_X2_offset o0 x5 x_9 g).bind fun x_11 => lett ((x4 * y_7.toInt32) + x_11) fun x_12 => lett (x5 + 1) fun x_14 => m_X2_place_L6 o0 x1 x2 x3 g fu x_12 x_14)
def m_X2_place (o0 : Nat) (x1 : Int32) (x2 : Int32) (x3 : Int32) (g : Gs) : Option (Int32) :=
  chk (o0 < 25) (lett (0 : Int32) fun x_1 => lett (0 : Int32) fun x_3 => (m_X2_place_L6 o0 x1 x2 x3 g FU x_1 x_3).bind fun x_16 => some x_16)
set_option maxHeartbeats 4000000 in
set_option maxRecDepth 100000 in
theorem w_X2_place_L6 {o0 : Nat} {x1 : Int32} {x2 : Int32} {x3 : Int32} (hB0 : o0 < 25) (C0 : Cx p s m args c cX2_place 6 RX2 D cy) (hr : meth.sig.returnType = (some .int)) (hk : meth.locks = false) {res : Int32} {q : Int32} (kk : ∀ (x4 : Int32) (H : Heap) (locs : List Loc) (ls : Array Slot), q = x4 → lv_has ls 6 [(4, .int x4)] → Ws D b0 cy sb db g s H locs → W p l e ({ frames := 2, cells := 0, slots := 0, locals := 44 } : Room) s m args below meth c H locs 0 0 (MQ below (QX (some (.int res)) D b0 cy sb db g) args s 0 0 (fun q => b0 ≤ q)) (F0 m 48 ls [])) : ∀ (fu : Nat) (x4 : Int32) (x5 : Int32) (H : Heap) (locs : List Loc) (ls : Array Slot), lv_has ls 6 [(0, .ref (sb (100 + o0))), (1, .int x1), (2, .int x2), (3, .int x3), (4, .int x4), (5, .int x5)] → Ws D b0 cy sb db g s H locs → m_X2_place_L6 o0 x1 x2 x3 g fu x4 x5 = some q → W p l e ({ frames := 2, cells := 0, slots := 0, locals := 44 } : Room) s m args below meth c H locs 0 0 (MQ below (QX (some (.int res)) D b0 cy sb db g) args s 0 0 (fun q => b0 ≤ q)) (F0 m 6 ls []) := by
  obtain ⟨hx, hb, hml, hown, hts, hK⟩ := id C0
  intro fu
  induction fu with
  | zero =>
    intro x4 x5 H locs ls hl M h
    cases h
  | succ fu ih =>
    intro x4 x5 H locs ls hl M h
    rw [m_X2_place_L6] at h
    refine lv_iload hx hb dX2_place_6 (lv_at hl 5 rfl) ?_
    refine lv_aload_n hx hb dX2_place_8 rfl (lv_at hl 0 rfl) ?_
    refine gf_RX2_18 C0 M hB0 dX2_place_9 ?_
    refine lv_icmp_ge (tgt := 48) hx hb dX2_place_12 (by decide) (fun c_5 => ?_) (fun c_5 => ?_)
    · rw [if_pos c_5] at h
      exact kk _ _ _ _ (Option.some.inj h).symm (lv_sub hl [4] rfl) M
    · rw [if_neg c_5] at h
      refine lv_iload hx hb dX2_place_15 (lv_at hl 4 rfl) ?_
      refine lv_aload_n hx hb dX2_place_17 rfl (lv_at hl 0 rfl) ?_
      refine lv_iload hx hb dX2_place_18 (lv_at hl 5 rfl) ?_
      obtain ⟨y_7, hc_6, h⟩ := bnd_s h
      refine kV (As := [.int x5]) (rest := [.int x4]) (stk := [.long y_7, .int x4]) (val := (some (.long y_7))) (c1 := 0) (s1 := 0) C0 M (k_X2_length hc_6) kw_7_19 Y_X2_length (rv_X2 C0 M hB0) ⟨Nat.le_of_ble_eq_true rfl, Nat.le_of_ble_eq_true rfl⟩ rfl hl.1 rfl (Nat.le_of_ble_eq_true rfl) dX2_place_20 rfl rfl ⟨Nat.le_refl _, Nat.le_refl _⟩ rfl (fun H locs M => ?_)
      refine lv_l2i hx hb dX2_place_23 rfl ?_
      refine lv_imul hx hb dX2_place_24 ?_
      refine lv_aload_n hx hb dX2_place_25 rfl (lv_at hl 0 rfl) ?_
      refine lv_iload hx hb dX2_place_26 (lv_at hl 5 rfl) ?_
      refine lv_iload hx hb dX2_place_28 (lv_at hl 5 rfl) ?_
      refine lv_iload_n hx hb dX2_place_30 rfl (lv_at hl 1 rfl) ?_
      refine lv_iload_n hx hb dX2_place_31 rfl (lv_at hl 2 rfl) ?_
      refine lv_iload_n hx hb dX2_place_32 rfl (lv_at hl 3 rfl) ?_
      obtain ⟨x_9, hc_8, h⟩ := bnd_s h
      refine kS (As := [.int x5, .int x1, .int x2, .int x3]) (rest := [.int x5, .ref (sb (100 + o0)), .int (x4 * y_7.toInt32)]) (stk := [.int x_9, .int x5, .ref (sb (100 + o0)), .int (x4 * y_7.toInt32)]) (val := (some (.int x_9))) (c1 := 0) (s1 := 0) C0 M (k_X2_indexOf hc_8) kw_16_14 Y_X2_indexOf ⟨Nat.le_of_ble_eq_true rfl, Nat.le_of_ble_eq_true rfl⟩ rfl hl.1 rfl (Nat.le_of_ble_eq_true rfl) dX2_place_33 rfl rfl ⟨Nat.le_refl _, Nat.le_refl _⟩ rfl (fun H locs M => ?_)
      obtain ⟨x_11, hc_10, h⟩ := bnd_s h
      refine kV (As := [.int x5, .int x_9]) (rest := [.int (x4 * y_7.toInt32)]) (stk := [.int x_11, .int (x4 * y_7.toInt32)]) (val := (some (.int x_11))) (c1 := 0) (s1 := 0) C0 M (k_X2_offset hc_10) kw_17_1 Y_X2_offset (rv_X2 C0 M hB0) ⟨Nat.le_of_ble_eq_true rfl, Nat.le_of_ble_eq_true rfl⟩ rfl hl.1 rfl (Nat.le_of_ble_eq_true rfl) dX2_place_36 rfl rfl ⟨Nat.le_refl _, Nat.le_refl _⟩ rfl (fun H locs M => ?_)
      refine lv_iadd hx hb dX2_place_39 ?_
      obtain ⟨x_12, hn_13, h⟩ := lett_s h
      refine nm_i hn_13 ?_
      refine lv_istore (lv' := [(4, .int x_12), (0, .ref (sb (100 + o0))), (1, .int x1), (2, .int x2), (3, .int x3), (5, .int x5)]) hx hb dX2_place_40 hl (by decide) rfl (fun ls hl => ?_)
      obtain ⟨x_14, hn_15, h⟩ := lett_s h
      refine lv_iinc (v := x_14) (lv' := [(5, .int x_14), (4, .int x_12), (0, .ref (sb (100 + o0))), (1, .int x1), (2, .int x2), (3, .int x3)]) hx hb dX2_place_42 hl (k := 5) rfl (by rw [hn_15]; rfl) (by decide) rfl (fun ls hl => ?_)
      refine lv_goto (tgt := 6) hx hb dX2_place_45 (by decide) ?_
      exact ih _ _ _ _ _ (lv_sub hl [2, 3, 4, 5, 1, 0] rfl) M h
set_option maxHeartbeats 4000000 in
set_option maxRecDepth 100000 in
theorem w_X2_place {o0 : Nat} {x1 : Int32} {x2 : Int32} {x3 : Int32} (C0 : Cx p s m args c cX2_place 6 RX2 D cy) (hr : meth.sig.returnType = (some .int)) (hk : meth.locks = false) {res : Int32} (hl : lv_has ls 6 [(0, .ref (sb (100 + o0))), (1, .int x1), (2, .int x2), (3, .int x3)]) (M : Ws D b0 cy sb db g s H locs) (h : m_X2_place o0 x1 x2 x3 g = some res) : W p l e ({ frames := 2, cells := 0, slots := 0, locals := 44 } : Room) s m args below meth c H locs 0 0 (MQ below (QX (some (.int res)) D b0 cy sb db g) args s 0 0 (fun q => b0 ≤ q)) (F0 m 0 ls []) := by
  obtain ⟨hx, hb, hml, hown, hts, hK⟩ := id C0
  rw [m_X2_place] at h
  obtain ⟨hB0, h⟩ := chk_s h
  refine lv_iconst (v := 0) hx hb dX2_place_0 (by decide) ?_
  obtain ⟨x_1, hn_2, h⟩ := lett_s h
  refine nm_i hn_2 ?_
  refine lv_istore (lv' := [(4, .int x_1), (0, .ref (sb (100 + o0))), (1, .int x1), (2, .int x2), (3, .int x3)]) hx hb dX2_place_1 hl (by decide) rfl (fun ls hl => ?_)
  refine lv_iconst (v := 0) hx hb dX2_place_3 (by decide) ?_
  obtain ⟨x_3, hn_4, h⟩ := lett_s h
  refine nm_i hn_4 ?_
  refine lv_istore (lv' := [(5, .int x_3), (4, .int x_1), (0, .ref (sb (100 + o0))), (1, .int x1), (2, .int x2), (3, .int x3)]) hx hb dX2_place_4 hl (by decide) rfl (fun ls hl => ?_)
  obtain ⟨q_17, hq_18, h⟩ := bnd_s h
  refine w_X2_place_L6 hB0 C0 hr hk (q := q_17) (fun x_16 H locs ls hq hl M => ?_) FU _ _ _ _ _ (lv_sub hl [2, 3, 4, 5, 1, 0] rfl) M hq_18
  subst q_17
  try dsimp only at h
  refine lv_iload hx hb dX2_place_48 (lv_at hl 0 rfl) ?_
  obtain rfl := Option.some.inj h
  exact rt_i C0 M hr hk dX2_place_50
theorem k_X2_place {o0 : Nat} {x1 : Int32} {x2 : Int32} {x3 : Int32} {res : Int32} (h : m_X2_place o0 x1 x2 x3 g = some res) : CM l yX2_place cX2_place 6 (some .int) ({ frames := 2, cells := 0, slots := 0, locals := 44 } : Room) [.ref (sb (100 + o0)), .int x1, .int x2, .int x3] (some (.int res)) D b0 cy sb db g g := by
  refine Met.ofW (cc := cX2_place) (maxL := 6) (ret := (some .int)) (by decide) rfl ?_
  intro p e s m args below meth c s₁ B hml hv
  obtain ⟨rfl, hW, hK⟩ := hv
  have hl := lv_entry [.ref (sb (100 + o0)), .int x1, .int x2, .int x3] (n := 6) (Nat.le_of_ble_eq_true rfl)
  rw [lg_entry_eq]
  generalize (lg_sl [.ref (sb (100 + o0)), .int x1, .int x2, .int x3] ++ List.replicate (6 - (lg_sl [.ref (sb (100 + o0)), .int x1, .int x2, .int x3]).length) Slot.unset).toArray = ls at hl ⊢
  have hl : lv_has ls 6 [(0, .ref (sb (100 + o0))), (1, .int x1), (2, .int x2), (3, .int x3)] := hl
  exact w_X2_place ⟨B.exec, B.bytes, hml, findClass_of_methodNamed B.named, fun w hw => atoms_spec (ws := Cond.code yX2_place cX2_place 6 (some .int) :: wsL_law) B.pre w (List.mem_cons_of_mem _ hw), hK⟩ B.returns B.notSynchronized hl ⟨hW, va_S.rf⟩ h
theorem Y_X2_place : Yv yX2_place RX2 cX2_place 6 (some .int) 3 := ⟨⟨kw_17_0, kw_1_15, by decide +kernel, by decide +kernel, by decide +kernel⟩, kw_16_22, kw_16_23⟩
-- X3_addRow
def m_X3_addRow_L28 (x1 : Int32) (x2 : Int32) (x3 : Int32) : Nat → Int32 → Gs → Option (Gs)
  | 0, _, _ => none
  | fu + 1, x4, g =>
  if ((g.1 11 0 0) + x1) ≤ x4 then (some g) else (chk (inb x4 (g.2.2 9)) (lett (sL g 0 x4.toNatClampNeg (0 : Int64)) fun g_13 => chk (inb x4 (g_13.2.2 10)) (lett (sI g_13 13 0 x4.toNatClampNeg (vp_nar .boolean x2)) fun g_16 => lett (x4 + 1) fun x_18 => m_X3_addRow_L28 x1 x2 x3 fu x_18 g_16)))
def m_X3_addRow (x1 : Int32) (x2 : Int32) (g : Gs) : Option (Int32 × Gs) :=
  lett (g.1 12 0 0) fun x_1 => chk (inb x_1 (g.2.2 11)) (lett (sI g 14 0 x_1.toNatClampNeg (g.1 11 0 0)) fun g_4 => chk (inb x_1 (g_4.2.2 12)) (lett (sI g_4 15 0 x_1.toNatClampNeg x1) fun g_7 => lett (g_7.1 11 0 0) fun x_9 => (m_X3_addRow_L28 x1 x2 x_1 FU x_9 g_7).bind fun g_20 => lett (sI g_20 12 0 0 ((g_20.1 12 0 0) + (1 : Int32))) fun g_21 => lett (sI g_21 11 0 0 ((g_21.1 11 0 0) + x1)) fun g_23 => some (x_1, g_23)))
set_option maxHeartbeats 4000000 in
set_option maxRecDepth 100000 in
theorem w_X3_addRow_L28 {x1 : Int32} {x2 : Int32} {x3 : Int32} (C0 : Cx p s m args c cX3_addRow 5 RX3 D cy) (hr : meth.sig.returnType = (some .int)) (hk : meth.locks = false) {res : Int32 × Gs} {q : Gs} (kk : ∀ (g : Gs) (H : Heap) (locs : List Loc) (ls : Array Slot), q = g → lv_has ls 5 [(0, .ref (sb 8)), (1, .int x1), (3, .int x3)] → Ws D b0 cy sb db g s H locs → W p l e ({ frames := 0, cells := 0, slots := 0, locals := 0 } : Room) s m args below meth c H locs 0 0 (MQ below (QX (some (.int res.1)) D b0 cy sb db res.2) args s 0 0 (fun q => b0 ≤ q)) (F0 m 61 ls [])) : ∀ (fu : Nat) (x4 : Int32) (g : Gs) (H : Heap) (locs : List Loc) (ls : Array Slot), lv_has ls 5 [(0, .ref (sb 8)), (1, .int x1), (2, .int x2), (3, .int x3), (4, .int x4)] → Ws D b0 cy sb db g s H locs → m_X3_addRow_L28 x1 x2 x3 fu x4 g = some q → W p l e ({ frames := 0, cells := 0, slots := 0, locals := 0 } : Room) s m args below meth c H locs 0 0 (MQ below (QX (some (.int res.1)) D b0 cy sb db res.2) args s 0 0 (fun q => b0 ≤ q)) (F0 m 28 ls []) := by
  obtain ⟨hx, hb, hml, hown, hts, hK⟩ := id C0
  intro fu
  induction fu with
  | zero =>
    intro x4 g H locs ls hl M h
    cases h
  | succ fu ih =>
    intro x4 g H locs ls hl M h
    rw [m_X3_addRow_L28] at h
    refine lv_iload hx hb dX3_addRow_28 (lv_at hl 4 rfl) ?_
    refine lv_aload_n hx hb dX3_addRow_30 rfl (lv_at hl 0 rfl) ?_
    refine gf_RX3_31 C0 M dX3_addRow_31 ?_
    refine lv_iload_n hx hb dX3_addRow_34 rfl (lv_at hl 1 rfl) ?_
    refine lv_iadd hx hb dX3_addRow_35 ?_
    refine lv_icmp_ge (tgt := 61) hx hb dX3_addRow_36 (by decide) (fun c_11 => ?_) (fun c_11 => ?_)
    · rw [if_pos c_11] at h
      exact kk _ _ _ _ (Option.some.inj h).symm (lv_sub hl [0, 1, 3] rfl) M
    · rw [if_neg c_11] at h
      refine lv_aload_n hx hb dX3_addRow_39 rfl (lv_at hl 0 rfl) ?_
      refine gf_RX3_9 C0 M dX3_addRow_40 ?_
      refine lv_iload hx hb dX3_addRow_43 (lv_at hl 4 rfl) ?_
      refine lv_lconst (v := 0) hx hb dX3_addRow_45 (by decide) ?_
      obtain ⟨hi_12, h⟩ := chk_s h
      obtain ⟨g_13, hg_14, h⟩ := lett_s h
      refine as_NUM C0 M hi_12 hg_14 dX3_addRow_46 (fun H locs M => ?_)
      refine lv_aload_n hx hb dX3_addRow_47 rfl (lv_at hl 0 rfl) ?_
      refine gf_RX3_15 C0 M dX3_addRow_48 ?_
      refine lv_iload hx hb dX3_addRow_51 (lv_at hl 4 rfl) ?_
      refine lv_iload_n hx hb dX3_addRow_53 rfl (lv_at hl 2 rfl) ?_
      obtain ⟨hi_15, h⟩ := chk_s h
      obtain ⟨g_16, hg_17, h⟩ := lett_s h
      refine as_FIL C0 M hi_15 hg_17 dX3_addRow_54 (fun H locs M => ?_)
      obtain ⟨x_18, hn_19, h⟩ := lett_s h
      refine lv_iinc (v := x_18) (lv' := [(4, .int x_18), (0, .ref (sb 8)), (1, .int x1), (2, .int x2), (3, .int x3)]) hx hb dX3_addRow_55 hl (k := 4) rfl (by rw [hn_19]; rfl) (by decide) rfl (fun ls hl => ?_)
      refine lv_goto (tgt := 28) hx hb dX3_addRow_58 (by decide) ?_
      exact ih _ _ _ _ _ (lv_sub hl [1, 2, 3, 4, 0] rfl) M h
set_option maxHeartbeats 4000000 in
set_option maxRecDepth 100000 in
theorem w_X3_addRow {x1 : Int32} {x2 : Int32} (C0 : Cx p s m args c cX3_addRow 5 RX3 D cy) (hr : meth.sig.returnType = (some .int)) (hk : meth.locks = false) {res : Int32 × Gs} (hl : lv_has ls 5 [(0, .ref (sb 8)), (1, .int x1), (2, .int x2)]) (M : Ws D b0 cy sb db g s H locs) (h : m_X3_addRow x1 x2 g = some res) : W p l e ({ frames := 0, cells := 0, slots := 0, locals := 0 } : Room) s m args below meth c H locs 0 0 (MQ below (QX (some (.int res.1)) D b0 cy sb db res.2) args s 0 0 (fun q => b0 ≤ q)) (F0 m 0 ls []) := by
  obtain ⟨hx, hb, hml, hown, hts, hK⟩ := id C0
  rw [m_X3_addRow] at h
  refine lv_aload_n hx hb dX3_addRow_0 rfl (lv_at hl 0 rfl) ?_
  refine gf_RX3_26 C0 M dX3_addRow_1 ?_
  obtain ⟨x_1, hn_2, h⟩ := lett_s h
  refine nm_i hn_2 ?_
  refine lv_istore_n (lv' := [(3, .int x_1), (0, .ref (sb 8)), (1, .int x1), (2, .int x2)]) hx hb dX3_addRow_4 rfl hl (by decide) rfl (fun ls hl => ?_)
  refine lv_aload_n hx hb dX3_addRow_5 rfl (lv_at hl 1 rfl) ?_
  refine gf_RX3_19 C0 M dX3_addRow_6 ?_
  refine lv_iload_n hx hb dX3_addRow_9 rfl (lv_at hl 0 rfl) ?_
  refine lv_aload_n hx hb dX3_addRow_10 rfl (lv_at hl 1 rfl) ?_
  refine gf_RX3_31 C0 M dX3_addRow_11 ?_
  obtain ⟨hi_3, h⟩ := chk_s h
  obtain ⟨g_4, hg_5, h⟩ := lett_s h
  refine as_STA C0 M hi_3 hg_5 dX3_addRow_14 (fun H locs M => ?_)
  refine lv_aload_n hx hb dX3_addRow_15 rfl (lv_at hl 1 rfl) ?_
  refine gf_RX3_23 C0 M dX3_addRow_16 ?_
  refine lv_iload_n hx hb dX3_addRow_19 rfl (lv_at hl 0 rfl) ?_
  refine lv_iload_n hx hb dX3_addRow_20 rfl (lv_at hl 2 rfl) ?_
  obtain ⟨hi_6, h⟩ := chk_s h
  obtain ⟨g_7, hg_8, h⟩ := lett_s h
  refine as_LEN C0 M hi_6 hg_8 dX3_addRow_21 (fun H locs M => ?_)
  refine lv_aload_n hx hb dX3_addRow_22 rfl (lv_at hl 1 rfl) ?_
  refine gf_RX3_31 C0 M dX3_addRow_23 ?_
  obtain ⟨x_9, hn_10, h⟩ := lett_s h
  refine nm_i hn_10 ?_
  refine lv_istore (lv' := [(4, .int x_9), (3, .int x_1), (0, .ref (sb 8)), (1, .int x1), (2, .int x2)]) hx hb dX3_addRow_26 hl (by decide) rfl (fun ls hl => ?_)
  obtain ⟨q_25, hq_26, h⟩ := bnd_s h
  refine w_X3_addRow_L28 C0 hr hk (q := q_25) (fun g_20 H locs ls hq hl M => ?_) FU _ _ _ _ _ (lv_sub hl [2, 3, 4, 1, 0] rfl) M hq_26
  subst q_25
  try dsimp only at h
  refine lv_aload_n hx hb dX3_addRow_61 rfl (lv_at hl 0 rfl) ?_
  refine lv_dup hx hb dX3_addRow_62 rfl ?_
  refine gf_RX3_26 C0 M dX3_addRow_63 ?_
  refine lv_iconst (v := 1) hx hb dX3_addRow_66 (by decide) ?_
  refine lv_iadd hx hb dX3_addRow_67 ?_
  obtain ⟨g_21, hg_22, h⟩ := lett_s h
  refine pf_RX3_26 C0 M hg_22 dX3_addRow_68 (fun H locs M => ?_)
  refine lv_aload_n hx hb dX3_addRow_71 rfl (lv_at hl 0 rfl) ?_
  refine lv_dup hx hb dX3_addRow_72 rfl ?_
  refine gf_RX3_31 C0 M dX3_addRow_73 ?_
  refine lv_iload_n hx hb dX3_addRow_76 rfl (lv_at hl 1 rfl) ?_
  refine lv_iadd hx hb dX3_addRow_77 ?_
  obtain ⟨g_23, hg_24, h⟩ := lett_s h
  refine pf_RX3_31 C0 M hg_24 dX3_addRow_78 (fun H locs M => ?_)
  refine lv_iload_n hx hb dX3_addRow_81 rfl (lv_at hl 2 rfl) ?_
  obtain rfl := Option.some.inj h
  exact rt_i C0 M hr hk dX3_addRow_82
theorem k_X3_addRow {x1 : Int32} {x2 : Int32} {res : Int32 × Gs} (h : m_X3_addRow x1 x2 g = some res) : CM l yX3_addRow cX3_addRow 5 (some .int) ({ frames := 0, cells := 0, slots := 0, locals := 0 } : Room) [.ref (sb 8), .int x1, .int x2] (some (.int res.1)) D b0 cy sb db g res.2 := by
  refine Met.ofW (cc := cX3_addRow) (maxL := 5) (ret := (some .int)) (by decide) rfl ?_
  intro p e s m args below meth c s₁ B hml hv
  obtain ⟨rfl, hW, hK⟩ := hv
  have hl := lv_entry [.ref (sb 8), .int x1, .int x2] (n := 5) (Nat.le_of_ble_eq_true rfl)
  rw [lg_entry_eq]
  generalize (lg_sl [.ref (sb 8), .int x1, .int x2] ++ List.replicate (5 - (lg_sl [.ref (sb 8), .int x1, .int x2]).length) Slot.unset).toArray = ls at hl ⊢
  have hl : lv_has ls 5 [(0, .ref (sb 8)), (1, .int x1), (2, .int x2)] := hl
  exact w_X3_addRow ⟨B.exec, B.bytes, hml, findClass_of_methodNamed B.named, fun w hw => atoms_spec (ws := Cond.code yX3_addRow cX3_addRow 5 (some .int) :: wsL_law) B.pre w (List.mem_cons_of_mem _ hw), hK⟩ B.returns B.notSynchronized hl ⟨hW, va_S.rf⟩ h
theorem Y_X3_addRow : Yv yX3_addRow RX3 cX3_addRow 5 (some .int) 2 := ⟨⟨kw_11_9, kw_1_23, by decide +kernel, by decide +kernel, by decide +kernel⟩, kw_11_7, kw_11_8⟩
-- X3_forget
def m_X3_forget  (g : Gs) : Option (Gs) :=
  lett (sI g 11 0 0 (0 : Int32)) fun g_1 => lett (sI g_1 12 0 0 (0 : Int32)) fun g_3 => some g_3
set_option maxHeartbeats 4000000 in
set_option maxRecDepth 100000 in
theorem w_X3_forget  (C0 : Cx p s m args c cX3_forget 1 RX3 D cy) (hr : meth.sig.returnType = none) (hk : meth.locks = false) {res : Gs} (hl : lv_has ls 1 [(0, .ref (sb 8))]) (M : Ws D b0 cy sb db g s H locs) (h : m_X3_forget  g = some res) : W p l e ({ frames := 0, cells := 0, slots := 0, locals := 0 } : Room) s m args below meth c H locs 0 0 (MQ below (QX none D b0 cy sb db res) args s 0 0 (fun q => b0 ≤ q)) (F0 m 0 ls []) := by
  obtain ⟨hx, hb, hml, hown, hts, hK⟩ := id C0
  rw [m_X3_forget] at h
  refine lv_aload_n hx hb dX3_forget_0 rfl (lv_at hl 0 rfl) ?_
  refine lv_iconst (v := 0) hx hb dX3_forget_1 (by decide) ?_
  obtain ⟨g_1, hg_2, h⟩ := lett_s h
  refine pf_RX3_31 C0 M hg_2 dX3_forget_2 (fun H locs M => ?_)
  refine lv_aload_n hx hb dX3_forget_5 rfl (lv_at hl 0 rfl) ?_
  refine lv_iconst (v := 0) hx hb dX3_forget_6 (by decide) ?_
  obtain ⟨g_3, hg_4, h⟩ := lett_s h
  refine pf_RX3_26 C0 M hg_4 dX3_forget_7 (fun H locs M => ?_)
  obtain rfl := Option.some.inj h
  exact rt_v C0 M hr hk dX3_forget_10
theorem k_X3_forget  {res : Gs} (h : m_X3_forget  g = some res) : CM l yX3_forget cX3_forget 1 none ({ frames := 0, cells := 0, slots := 0, locals := 0 } : Room) [.ref (sb 8)] none D b0 cy sb db g res := by
  refine Met.ofW (cc := cX3_forget) (maxL := 1) (ret := none) (by decide) rfl ?_
  intro p e s m args below meth c s₁ B hml hv
  obtain ⟨rfl, hW, hK⟩ := hv
  have hl := lv_entry [.ref (sb 8)] (n := 1) (Nat.le_of_ble_eq_true rfl)
  rw [lg_entry_eq]
  generalize (lg_sl [.ref (sb 8)] ++ List.replicate (1 - (lg_sl [.ref (sb 8)]).length) Slot.unset).toArray = ls at hl ⊢
  have hl : lv_has ls 1 [(0, .ref (sb 8))] := hl
  exact w_X3_forget ⟨B.exec, B.bytes, hml, findClass_of_methodNamed B.named, fun w hw => atoms_spec (ws := Cond.code yX3_forget cX3_forget 1 none :: wsL_law) B.pre w (List.mem_cons_of_mem _ hw), hK⟩ B.returns B.notSynchronized hl ⟨hW, va_S.rf⟩ h
theorem Y_X3_forget : Yv yX3_forget RX3 cX3_forget 1 none 0 := ⟨⟨kw_28_19, kw_1_23, by decide +kernel, by decide +kernel, by decide +kernel⟩, kw_28_17, kw_28_18⟩
-- X3_startOf
def m_X3_startOf_J15 (xs0 : Int32) (g : Gs) : Option (Int32) :=
  some xs0
def m_X3_startOf (x1 : Int32) (g : Gs) : Option (Int32) :=
  if x1 = (-1 : Int32) then (m_X3_startOf_J15 (0 : Int32) g) else (chk (inb x1 (g.2.2 11)) (m_X3_startOf_J15 (g.1 14 0 x1.toNatClampNeg) g))
set_option maxHeartbeats 4000000 in
set_option maxRecDepth 100000 in
theorem w_X3_startOf_J15 {xs0 : Int32} (C0 : Cx p s m args c cX3_startOf 2 RX3 D cy) (hr : meth.sig.returnType = (some .int)) (hk : meth.locks = false) {res : Int32} (hl : lv_has ls 2 []) (M : Ws D b0 cy sb db g s H locs) (h : m_X3_startOf_J15 xs0 g = some res) : W p l e ({ frames := 0, cells := 0, slots := 0, locals := 0 } : Room) s m args below meth c H locs 0 0 (MQ below (QX (some (.int res)) D b0 cy sb db g) args s 0 0 (fun q => b0 ≤ q)) (F0 m 15 ls [.int xs0]) := by
  obtain ⟨hx, hb, hml, hown, hts, hK⟩ := id C0
  rw [m_X3_startOf_J15] at h
  obtain rfl := Option.some.inj h
  exact rt_i C0 M hr hk dX3_startOf_15
set_option maxHeartbeats 4000000 in
set_option maxRecDepth 100000 in
theorem w_X3_startOf {x1 : Int32} (C0 : Cx p s m args c cX3_startOf 2 RX3 D cy) (hr : meth.sig.returnType = (some .int)) (hk : meth.locks = false) {res : Int32} (hl : lv_has ls 2 [(0, .ref (sb 8)), (1, .int x1)]) (M : Ws D b0 cy sb db g s H locs) (h : m_X3_startOf x1 g = some res) : W p l e ({ frames := 0, cells := 0, slots := 0, locals := 0 } : Room) s m args below meth c H locs 0 0 (MQ below (QX (some (.int res)) D b0 cy sb db g) args s 0 0 (fun q => b0 ≤ q)) (F0 m 0 ls []) := by
  obtain ⟨hx, hb, hml, hown, hts, hK⟩ := id C0
  rw [m_X3_startOf] at h
  refine lv_iload_n hx hb dX3_startOf_0 rfl (lv_at hl 1 rfl) ?_
  refine lv_iconst (v := -1) hx hb dX3_startOf_1 (by decide) ?_
  refine lv_icmp_ne (tgt := 9) hx hb dX3_startOf_2 (by decide) (fun c_1 => ?_) (fun c_1 => ?_)
  · rw [if_neg c_1] at h
    refine lv_aload_n hx hb dX3_startOf_9 rfl (lv_at hl 0 rfl) ?_
    refine gf_RX3_19 C0 M dX3_startOf_10 ?_
    refine lv_iload_n hx hb dX3_startOf_13 rfl (lv_at hl 1 rfl) ?_
    obtain ⟨hi_2, h⟩ := chk_s h
    refine al_STA C0 M hi_2 dX3_startOf_14 ?_
    exact w_X3_startOf_J15 C0 hr hk (lv_sub hl [] rfl) M h
  · rw [if_pos c_1] at h
    refine lv_iconst (v := 0) hx hb dX3_startOf_5 (by decide) ?_
    refine lv_goto (tgt := 15) hx hb dX3_startOf_6 (by decide) ?_
    exact w_X3_startOf_J15 C0 hr hk (lv_sub hl [] rfl) M h
theorem k_X3_startOf {x1 : Int32} {res : Int32} (h : m_X3_startOf x1 g = some res) : CM l yX3_startOf cX3_startOf 2 (some .int) ({ frames := 0, cells := 0, slots := 0, locals := 0 } : Room) [.ref (sb 8), .int x1] (some (.int res)) D b0 cy sb db g g := by
  refine Met.ofW (cc := cX3_startOf) (maxL := 2) (ret := (some .int)) (by decide) rfl ?_
  intro p e s m args below meth c s₁ B hml hv
  obtain ⟨rfl, hW, hK⟩ := hv
  have hl := lv_entry [.ref (sb 8), .int x1] (n := 2) (Nat.le_of_ble_eq_true rfl)
  rw [lg_entry_eq]
  generalize (lg_sl [.ref (sb 8), .int x1] ++ List.replicate (2 - (lg_sl [.ref (sb 8), .int x1]).length) Slot.unset).toArray = ls at hl ⊢
  have hl : lv_has ls 2 [(0, .ref (sb 8)), (1, .int x1)] := hl
  exact w_X3_startOf ⟨B.exec, B.bytes, hml, findClass_of_methodNamed B.named, fun w hw => atoms_spec (ws := Cond.code yX3_startOf cX3_startOf 2 (some .int) :: wsL_law) B.pre w (List.mem_cons_of_mem _ hw), hK⟩ B.returns B.notSynchronized hl ⟨hW, va_S.rf⟩ h
theorem Y_X3_startOf : Yv yX3_startOf RX3 cX3_startOf 2 (some .int) 1 := ⟨⟨kw_15_4, kw_1_23, by decide +kernel, by decide +kernel, by decide +kernel⟩, kw_15_2, kw_15_3⟩
-- X3_lengthOf
def m_X3_lengthOf_J15 (xs0 : Int32) (g : Gs) : Option (Int32) :=
  some xs0
def m_X3_lengthOf (x1 : Int32) (g : Gs) : Option (Int32) :=
  if x1 = (-1 : Int32) then (m_X3_lengthOf_J15 (0 : Int32) g) else (chk (inb x1 (g.2.2 12)) (m_X3_lengthOf_J15 (g.1 15 0 x1.toNatClampNeg) g))
set_option maxHeartbeats 4000000 in
set_option maxRecDepth 100000 in
theorem w_X3_lengthOf_J15 {xs0 : Int32} (C0 : Cx p s m args c cX3_lengthOf 2 RX3 D cy) (hr : meth.sig.returnType = (some .int)) (hk : meth.locks = false) {res : Int32} (hl : lv_has ls 2 []) (M : Ws D b0 cy sb db g s H locs) (h : m_X3_lengthOf_J15 xs0 g = some res) : W p l e ({ frames := 0, cells := 0, slots := 0, locals := 0 } : Room) s m args below meth c H locs 0 0 (MQ below (QX (some (.int res)) D b0 cy sb db g) args s 0 0 (fun q => b0 ≤ q)) (F0 m 15 ls [.int xs0]) := by
  obtain ⟨hx, hb, hml, hown, hts, hK⟩ := id C0
  rw [m_X3_lengthOf_J15] at h
  obtain rfl := Option.some.inj h
  exact rt_i C0 M hr hk dX3_lengthOf_15
set_option maxHeartbeats 4000000 in
set_option maxRecDepth 100000 in
theorem w_X3_lengthOf {x1 : Int32} (C0 : Cx p s m args c cX3_lengthOf 2 RX3 D cy) (hr : meth.sig.returnType = (some .int)) (hk : meth.locks = false) {res : Int32} (hl : lv_has ls 2 [(0, .ref (sb 8)), (1, .int x1)]) (M : Ws D b0 cy sb db g s H locs) (h : m_X3_lengthOf x1 g = some res) : W p l e ({ frames := 0, cells := 0, slots := 0, locals := 0 } : Room) s m args below meth c H locs 0 0 (MQ below (QX (some (.int res)) D b0 cy sb db g) args s 0 0 (fun q => b0 ≤ q)) (F0 m 0 ls []) := by
  obtain ⟨hx, hb, hml, hown, hts, hK⟩ := id C0
  rw [m_X3_lengthOf] at h
  refine lv_iload_n hx hb dX3_lengthOf_0 rfl (lv_at hl 1 rfl) ?_
  refine lv_iconst (v := -1) hx hb dX3_lengthOf_1 (by decide) ?_
  refine lv_icmp_ne (tgt := 9) hx hb dX3_lengthOf_2 (by decide) (fun c_1 => ?_) (fun c_1 => ?_)
  · rw [if_neg c_1] at h
    refine lv_aload_n hx hb dX3_lengthOf_9 rfl (lv_at hl 0 rfl) ?_
    refine gf_RX3_23 C0 M dX3_lengthOf_10 ?_
    refine lv_iload_n hx hb dX3_lengthOf_13 rfl (lv_at hl 1 rfl) ?_
    obtain ⟨hi_2, h⟩ := chk_s h
    refine al_LEN C0 M hi_2 dX3_lengthOf_14 ?_
    exact w_X3_lengthOf_J15 C0 hr hk (lv_sub hl [] rfl) M h
  · rw [if_pos c_1] at h
    refine lv_iconst (v := 0) hx hb dX3_lengthOf_5 (by decide) ?_
    refine lv_goto (tgt := 15) hx hb dX3_lengthOf_6 (by decide) ?_
    exact w_X3_lengthOf_J15 C0 hr hk (lv_sub hl [] rfl) M h
theorem k_X3_lengthOf {x1 : Int32} {res : Int32} (h : m_X3_lengthOf x1 g = some res) : CM l yX3_lengthOf cX3_lengthOf 2 (some .int) ({ frames := 0, cells := 0, slots := 0, locals := 0 } : Room) [.ref (sb 8), .int x1] (some (.int res)) D b0 cy sb db g g := by
  refine Met.ofW (cc := cX3_lengthOf) (maxL := 2) (ret := (some .int)) (by decide) rfl ?_
  intro p e s m args below meth c s₁ B hml hv
  obtain ⟨rfl, hW, hK⟩ := hv
  have hl := lv_entry [.ref (sb 8), .int x1] (n := 2) (Nat.le_of_ble_eq_true rfl)
  rw [lg_entry_eq]
  generalize (lg_sl [.ref (sb 8), .int x1] ++ List.replicate (2 - (lg_sl [.ref (sb 8), .int x1]).length) Slot.unset).toArray = ls at hl ⊢
  have hl : lv_has ls 2 [(0, .ref (sb 8)), (1, .int x1)] := hl
  exact w_X3_lengthOf ⟨B.exec, B.bytes, hml, findClass_of_methodNamed B.named, fun w hw => atoms_spec (ws := Cond.code yX3_lengthOf cX3_lengthOf 2 (some .int) :: wsL_law) B.pre w (List.mem_cons_of_mem _ hw), hK⟩ B.returns B.notSynchronized hl ⟨hW, va_S.rf⟩ h
theorem Y_X3_lengthOf : Yv yX3_lengthOf RX3 cX3_lengthOf 2 (some .int) 1 := ⟨⟨kw_14_4, kw_1_23, by decide +kernel, by decide +kernel, by decide +kernel⟩, kw_14_2, kw_14_3⟩
-- X3_fill
def m_X3_fill (x1 : Int32) (y2 : Int64) (g : Gs) : Option (Gs) :=
  chk (inb x1 (g.2.2 9)) (lett (sL g 0 x1.toNatClampNeg y2) fun g_2 => chk (inb x1 (g_2.2.2 10)) (lett (sI g_2 13 0 x1.toNatClampNeg (vp_nar .boolean (1 : Int32))) fun g_5 => some g_5))
set_option maxHeartbeats 4000000 in
set_option maxRecDepth 100000 in
theorem w_X3_fill {x1 : Int32} {y2 : Int64} (C0 : Cx p s m args c cX3_fill 4 RX3 D cy) (hr : meth.sig.returnType = none) (hk : meth.locks = false) {res : Gs} (hl : lv_has ls 4 [(0, .ref (sb 8)), (1, .int x1), (2, .long y2)]) (M : Ws D b0 cy sb db g s H locs) (h : m_X3_fill x1 y2 g = some res) : W p l e ({ frames := 0, cells := 0, slots := 0, locals := 0 } : Room) s m args below meth c H locs 0 0 (MQ below (QX none D b0 cy sb db res) args s 0 0 (fun q => b0 ≤ q)) (F0 m 0 ls []) := by
  obtain ⟨hx, hb, hml, hown, hts, hK⟩ := id C0
  rw [m_X3_fill] at h
  refine lv_aload_n hx hb dX3_fill_0 rfl (lv_at hl 0 rfl) ?_
  refine gf_RX3_9 C0 M dX3_fill_1 ?_
  refine lv_iload_n hx hb dX3_fill_4 rfl (lv_at hl 1 rfl) ?_
  refine lv_lload_n hx hb dX3_fill_5 rfl (lv_at hl 2 rfl) ?_
  obtain ⟨hi_1, h⟩ := chk_s h
  obtain ⟨g_2, hg_3, h⟩ := lett_s h
  refine as_NUM C0 M hi_1 hg_3 dX3_fill_6 (fun H locs M => ?_)
  refine lv_aload_n hx hb dX3_fill_7 rfl (lv_at hl 0 rfl) ?_
  refine gf_RX3_15 C0 M dX3_fill_8 ?_
  refine lv_iload_n hx hb dX3_fill_11 rfl (lv_at hl 1 rfl) ?_
  refine lv_iconst (v := 1) hx hb dX3_fill_12 (by decide) ?_
  obtain ⟨hi_4, h⟩ := chk_s h
  obtain ⟨g_5, hg_6, h⟩ := lett_s h
  refine as_FIL C0 M hi_4 hg_6 dX3_fill_13 (fun H locs M => ?_)
  obtain rfl := Option.some.inj h
  exact rt_v C0 M hr hk dX3_fill_14
theorem k_X3_fill {x1 : Int32} {y2 : Int64} {res : Gs} (h : m_X3_fill x1 y2 g = some res) : CM l yX3_fill cX3_fill 4 none ({ frames := 0, cells := 0, slots := 0, locals := 0 } : Room) [.ref (sb 8), .int x1, .long y2] none D b0 cy sb db g res := by
  refine Met.ofW (cc := cX3_fill) (maxL := 4) (ret := none) (by decide) rfl ?_
  intro p e s m args below meth c s₁ B hml hv
  obtain ⟨rfl, hW, hK⟩ := hv
  have hl := lv_entry [.ref (sb 8), .int x1, .long y2] (n := 4) (Nat.le_of_ble_eq_true rfl)
  rw [lg_entry_eq]
  generalize (lg_sl [.ref (sb 8), .int x1, .long y2] ++ List.replicate (4 - (lg_sl [.ref (sb 8), .int x1, .long y2]).length) Slot.unset).toArray = ls at hl ⊢
  have hl : lv_has ls 4 [(0, .ref (sb 8)), (1, .int x1), (2, .long y2)] := hl
  exact w_X3_fill ⟨B.exec, B.bytes, hml, findClass_of_methodNamed B.named, fun w hw => atoms_spec (ws := Cond.code yX3_fill cX3_fill 4 none :: wsL_law) B.pre w (List.mem_cons_of_mem _ hw), hK⟩ B.returns B.notSynchronized hl ⟨hW, va_S.rf⟩ h
theorem Y_X3_fill : Yv yX3_fill RX3 cX3_fill 4 none 2 := ⟨⟨kw_22_3, kw_1_23, by decide +kernel, by decide +kernel, by decide +kernel⟩, kw_22_1, kw_22_2⟩
-- X3_drain
def m_X3_drain (x1 : Int32) (g : Gs) : Option (Gs) :=
  chk (inb x1 (g.2.2 9)) (lett (sL g 0 x1.toNatClampNeg (0 : Int64)) fun g_2 => chk (inb x1 (g_2.2.2 10)) (lett (sI g_2 13 0 x1.toNatClampNeg (vp_nar .boolean (0 : Int32))) fun g_5 => some g_5))
set_option maxHeartbeats 4000000 in
set_option maxRecDepth 100000 in
theorem w_X3_drain {x1 : Int32} (C0 : Cx p s m args c cX3_drain 2 RX3 D cy) (hr : meth.sig.returnType = none) (hk : meth.locks = false) {res : Gs} (hl : lv_has ls 2 [(0, .ref (sb 8)), (1, .int x1)]) (M : Ws D b0 cy sb db g s H locs) (h : m_X3_drain x1 g = some res) : W p l e ({ frames := 0, cells := 0, slots := 0, locals := 0 } : Room) s m args below meth c H locs 0 0 (MQ below (QX none D b0 cy sb db res) args s 0 0 (fun q => b0 ≤ q)) (F0 m 0 ls []) := by
  obtain ⟨hx, hb, hml, hown, hts, hK⟩ := id C0
  rw [m_X3_drain] at h
  refine lv_aload_n hx hb dX3_drain_0 rfl (lv_at hl 0 rfl) ?_
  refine gf_RX3_9 C0 M dX3_drain_1 ?_
  refine lv_iload_n hx hb dX3_drain_4 rfl (lv_at hl 1 rfl) ?_
  refine lv_lconst (v := 0) hx hb dX3_drain_5 (by decide) ?_
  obtain ⟨hi_1, h⟩ := chk_s h
  obtain ⟨g_2, hg_3, h⟩ := lett_s h
  refine as_NUM C0 M hi_1 hg_3 dX3_drain_6 (fun H locs M => ?_)
  refine lv_aload_n hx hb dX3_drain_7 rfl (lv_at hl 0 rfl) ?_
  refine gf_RX3_15 C0 M dX3_drain_8 ?_
  refine lv_iload_n hx hb dX3_drain_11 rfl (lv_at hl 1 rfl) ?_
  refine lv_iconst (v := 0) hx hb dX3_drain_12 (by decide) ?_
  obtain ⟨hi_4, h⟩ := chk_s h
  obtain ⟨g_5, hg_6, h⟩ := lett_s h
  refine as_FIL C0 M hi_4 hg_6 dX3_drain_13 (fun H locs M => ?_)
  obtain rfl := Option.some.inj h
  exact rt_v C0 M hr hk dX3_drain_14
theorem k_X3_drain {x1 : Int32} {res : Gs} (h : m_X3_drain x1 g = some res) : CM l yX3_drain cX3_drain 2 none ({ frames := 0, cells := 0, slots := 0, locals := 0 } : Room) [.ref (sb 8), .int x1] none D b0 cy sb db g res := by
  refine Met.ofW (cc := cX3_drain) (maxL := 2) (ret := none) (by decide) rfl ?_
  intro p e s m args below meth c s₁ B hml hv
  obtain ⟨rfl, hW, hK⟩ := hv
  have hl := lv_entry [.ref (sb 8), .int x1] (n := 2) (Nat.le_of_ble_eq_true rfl)
  rw [lg_entry_eq]
  generalize (lg_sl [.ref (sb 8), .int x1] ++ List.replicate (2 - (lg_sl [.ref (sb 8), .int x1]).length) Slot.unset).toArray = ls at hl ⊢
  have hl : lv_has ls 2 [(0, .ref (sb 8)), (1, .int x1)] := hl
  exact w_X3_drain ⟨B.exec, B.bytes, hml, findClass_of_methodNamed B.named, fun w hw => atoms_spec (ws := Cond.code yX3_drain cX3_drain 2 none :: wsL_law) B.pre w (List.mem_cons_of_mem _ hw), hK⟩ B.returns B.notSynchronized hl ⟨hW, va_S.rf⟩ h
theorem Y_X3_drain : Yv yX3_drain RX3 cX3_drain 2 none 1 := ⟨⟨kw_23_1, kw_1_23, by decide +kernel, by decide +kernel, by decide +kernel⟩, kw_22_23, kw_23_0⟩
-- X3_copyCells
def m_X3_copyCells_L3 (x1 : Int32) (x2 : Int32) (x3 : Int32) : Nat → Int32 → Gs → Option (Gs)
  | 0, _, _ => none
  | fu + 1, x4, g =>
  if x3 ≤ x4 then (some g) else (chk (inb (x1 + x4) (g.2.2 9)) (chk (inb (x2 + x4) (g.2.2 9)) (lett (sL g 0 (x2 + x4).toNatClampNeg (g.2.1 0 (x1 + x4).toNatClampNeg)) fun g_6 => chk (inb (x1 + x4) (g_6.2.2 10)) (chk (inb (x2 + x4) (g_6.2.2 10)) (lett (sI g_6 13 0 (x2 + x4).toNatClampNeg (vp_nar .boolean (g_6.1 13 0 (x1 + x4).toNatClampNeg))) fun g_10 => lett (x4 + 1) fun x_12 => m_X3_copyCells_L3 x1 x2 x3 fu x_12 g_10)))))
def m_X3_copyCells (x1 : Int32) (x2 : Int32) (x3 : Int32) (g : Gs) : Option (Gs) :=
  lett (0 : Int32) fun x_1 => (m_X3_copyCells_L3 x1 x2 x3 FU x_1 g).bind fun g_14 => some g_14
set_option maxHeartbeats 4000000 in
set_option maxRecDepth 100000 in
theorem w_X3_copyCells_L3 {x1 : Int32} {x2 : Int32} {x3 : Int32} (C0 : Cx p s m args c cX3_copyCells 5 RX3 D cy) (hr : meth.sig.returnType = none) (hk : meth.locks = false) {res : Gs} {q : Gs} (kk : ∀ (g : Gs) (H : Heap) (locs : List Loc) (ls : Array Slot), q = g → lv_has ls 5 [] → Ws D b0 cy sb db g s H locs → W p l e ({ frames := 0, cells := 0, slots := 0, locals := 0 } : Room) s m args below meth c H locs 0 0 (MQ below (QX none D b0 cy sb db res) args s 0 0 (fun q => b0 ≤ q)) (F0 m 51 ls [])) : ∀ (fu : Nat) (x4 : Int32) (g : Gs) (H : Heap) (locs : List Loc) (ls : Array Slot), lv_has ls 5 [(0, .ref (sb 8)), (1, .int x1), (2, .int x2), (3, .int x3), (4, .int x4)] → Ws D b0 cy sb db g s H locs → m_X3_copyCells_L3 x1 x2 x3 fu x4 g = some q → W p l e ({ frames := 0, cells := 0, slots := 0, locals := 0 } : Room) s m args below meth c H locs 0 0 (MQ below (QX none D b0 cy sb db res) args s 0 0 (fun q => b0 ≤ q)) (F0 m 3 ls []) := by
  obtain ⟨hx, hb, hml, hown, hts, hK⟩ := id C0
  intro fu
  induction fu with
  | zero =>
    intro x4 g H locs ls hl M h
    cases h
  | succ fu ih =>
    intro x4 g H locs ls hl M h
    rw [m_X3_copyCells_L3] at h
    refine lv_iload hx hb dX3_copyCells_3 (lv_at hl 4 rfl) ?_
    refine lv_iload_n hx hb dX3_copyCells_5 rfl (lv_at hl 3 rfl) ?_
    refine lv_icmp_ge (tgt := 51) hx hb dX3_copyCells_6 (by decide) (fun c_3 => ?_) (fun c_3 => ?_)
    · rw [if_pos c_3] at h
      exact kk _ _ _ _ (Option.some.inj h).symm (lv_sub hl [] rfl) M
    · rw [if_neg c_3] at h
      refine lv_aload_n hx hb dX3_copyCells_9 rfl (lv_at hl 0 rfl) ?_
      refine gf_RX3_9 C0 M dX3_copyCells_10 ?_
      refine lv_iload_n hx hb dX3_copyCells_13 rfl (lv_at hl 2 rfl) ?_
      refine lv_iload hx hb dX3_copyCells_14 (lv_at hl 4 rfl) ?_
      refine lv_iadd hx hb dX3_copyCells_16 ?_
      refine lv_aload_n hx hb dX3_copyCells_17 rfl (lv_at hl 0 rfl) ?_
      refine gf_RX3_9 C0 M dX3_copyCells_18 ?_
      refine lv_iload_n hx hb dX3_copyCells_21 rfl (lv_at hl 1 rfl) ?_
      refine lv_iload hx hb dX3_copyCells_22 (lv_at hl 4 rfl) ?_
      refine lv_iadd hx hb dX3_copyCells_24 ?_
      obtain ⟨hi_4, h⟩ := chk_s h
      refine al_NUM C0 M hi_4 dX3_copyCells_25 ?_
      obtain ⟨hi_5, h⟩ := chk_s h
      obtain ⟨g_6, hg_7, h⟩ := lett_s h
      refine as_NUM C0 M hi_5 hg_7 dX3_copyCells_26 (fun H locs M => ?_)
      refine lv_aload_n hx hb dX3_copyCells_27 rfl (lv_at hl 0 rfl) ?_
      refine gf_RX3_15 C0 M dX3_copyCells_28 ?_
      refine lv_iload_n hx hb dX3_copyCells_31 rfl (lv_at hl 2 rfl) ?_
      refine lv_iload hx hb dX3_copyCells_32 (lv_at hl 4 rfl) ?_
      refine lv_iadd hx hb dX3_copyCells_34 ?_
      refine lv_aload_n hx hb dX3_copyCells_35 rfl (lv_at hl 0 rfl) ?_
      refine gf_RX3_15 C0 M dX3_copyCells_36 ?_
      refine lv_iload_n hx hb dX3_copyCells_39 rfl (lv_at hl 1 rfl) ?_
      refine lv_iload hx hb dX3_copyCells_40 (lv_at hl 4 rfl) ?_
      refine lv_iadd hx hb dX3_copyCells_42 ?_
      obtain ⟨hi_8, h⟩ := chk_s h
      refine al_FIL C0 M hi_8 dX3_copyCells_43 ?_
      obtain ⟨hi_9, h⟩ := chk_s h
      obtain ⟨g_10, hg_11, h⟩ := lett_s h
      refine as_FIL C0 M hi_9 hg_11 dX3_copyCells_44 (fun H locs M => ?_)
      obtain ⟨x_12, hn_13, h⟩ := lett_s h
      refine lv_iinc (v := x_12) (lv' := [(4, .int x_12), (0, .ref (sb 8)), (1, .int x1), (2, .int x2), (3, .int x3)]) hx hb dX3_copyCells_45 hl (k := 4) rfl (by rw [hn_13]; rfl) (by decide) rfl (fun ls hl => ?_)
      refine lv_goto (tgt := 3) hx hb dX3_copyCells_48 (by decide) ?_
      exact ih _ _ _ _ _ (lv_sub hl [1, 2, 3, 4, 0] rfl) M h
set_option maxHeartbeats 4000000 in
set_option maxRecDepth 100000 in
theorem w_X3_copyCells {x1 : Int32} {x2 : Int32} {x3 : Int32} (C0 : Cx p s m args c cX3_copyCells 5 RX3 D cy) (hr : meth.sig.returnType = none) (hk : meth.locks = false) {res : Gs} (hl : lv_has ls 5 [(0, .ref (sb 8)), (1, .int x1), (2, .int x2), (3, .int x3)]) (M : Ws D b0 cy sb db g s H locs) (h : m_X3_copyCells x1 x2 x3 g = some res) : W p l e ({ frames := 0, cells := 0, slots := 0, locals := 0 } : Room) s m args below meth c H locs 0 0 (MQ below (QX none D b0 cy sb db res) args s 0 0 (fun q => b0 ≤ q)) (F0 m 0 ls []) := by
  obtain ⟨hx, hb, hml, hown, hts, hK⟩ := id C0
  rw [m_X3_copyCells] at h
  refine lv_iconst (v := 0) hx hb dX3_copyCells_0 (by decide) ?_
  obtain ⟨x_1, hn_2, h⟩ := lett_s h
  refine nm_i hn_2 ?_
  refine lv_istore (lv' := [(4, .int x_1), (0, .ref (sb 8)), (1, .int x1), (2, .int x2), (3, .int x3)]) hx hb dX3_copyCells_1 hl (by decide) rfl (fun ls hl => ?_)
  obtain ⟨q_15, hq_16, h⟩ := bnd_s h
  refine w_X3_copyCells_L3 C0 hr hk (q := q_15) (fun g_14 H locs ls hq hl M => ?_) FU _ _ _ _ _ (lv_sub hl [1, 2, 3, 4, 0] rfl) M hq_16
  subst q_15
  try dsimp only at h
  obtain rfl := Option.some.inj h
  exact rt_v C0 M hr hk dX3_copyCells_51
theorem k_X3_copyCells {x1 : Int32} {x2 : Int32} {x3 : Int32} {res : Gs} (h : m_X3_copyCells x1 x2 x3 g = some res) : CM l yX3_copyCells cX3_copyCells 5 none ({ frames := 0, cells := 0, slots := 0, locals := 0 } : Room) [.ref (sb 8), .int x1, .int x2, .int x3] none D b0 cy sb db g res := by
  refine Met.ofW (cc := cX3_copyCells) (maxL := 5) (ret := none) (by decide) rfl ?_
  intro p e s m args below meth c s₁ B hml hv
  obtain ⟨rfl, hW, hK⟩ := hv
  have hl := lv_entry [.ref (sb 8), .int x1, .int x2, .int x3] (n := 5) (Nat.le_of_ble_eq_true rfl)
  rw [lg_entry_eq]
  generalize (lg_sl [.ref (sb 8), .int x1, .int x2, .int x3] ++ List.replicate (5 - (lg_sl [.ref (sb 8), .int x1, .int x2, .int x3]).length) Slot.unset).toArray = ls at hl ⊢
  have hl : lv_has ls 5 [(0, .ref (sb 8)), (1, .int x1), (2, .int x2), (3, .int x3)] := hl
  exact w_X3_copyCells ⟨B.exec, B.bytes, hml, findClass_of_methodNamed B.named, fun w hw => atoms_spec (ws := Cond.code yX3_copyCells cX3_copyCells 5 none :: wsL_law) B.pre w (List.mem_cons_of_mem _ hw), hK⟩ B.returns B.notSynchronized hl ⟨hW, va_S.rf⟩ h
theorem Y_X3_copyCells : Yv yX3_copyCells RX3 cX3_copyCells 5 none 3 := ⟨⟨kw_15_16, kw_1_23, by decide +kernel, by decide +kernel, by decide +kernel⟩, kw_15_14, kw_15_15⟩
-- X3_totalOf
def m_X3_totalOf_L5 (x1 : Int32) (g : Gs) : Nat → Int64 → Int32 → Option (Int64)
  | 0, _, _ => none
  | fu + 1, y2, x4 =>
  (m_X3_lengthOf x1 g).bind fun x_6 => if x_6 ≤ x4 then (some y2) else ((m_X3_startOf x1 g).bind fun x_9 => chk (inb (x_9 + x4) (g.2.2 9)) (lett (y2 + (g.2.1 0 (x_9 + x4).toNatClampNeg)) fun y_11 => lett (x4 + 1) fun x_13 => m_X3_totalOf_L5 x1 g fu y_11 x_13))
def m_X3_totalOf (x1 : Int32) (g : Gs) : Option (Int64) :=
  lett (0 : Int64) fun y_1 => lett (0 : Int32) fun x_3 => (m_X3_totalOf_L5 x1 g FU y_1 x_3).bind fun y_15 => some y_15
set_option maxHeartbeats 4000000 in
set_option maxRecDepth 100000 in
theorem w_X3_totalOf_L5 {x1 : Int32} (C0 : Cx p s m args c cX3_totalOf 5 RX3 D cy) (hr : meth.sig.returnType = (some .long)) (hk : meth.locks = false) {res : Int64} {q : Int64} (kk : ∀ (y2 : Int64) (H : Heap) (locs : List Loc) (ls : Array Slot), q = y2 → lv_has ls 5 [(2, .long y2)] → Ws D b0 cy sb db g s H locs → W p l e ({ frames := 1, cells := 0, slots := 0, locals := 21 } : Room) s m args below meth c H locs 0 0 (MQ below (QX (some (.long res)) D b0 cy sb db g) args s 0 0 (fun q => b0 ≤ q)) (F0 m 37 ls [])) : ∀ (fu : Nat) (y2 : Int64) (x4 : Int32) (H : Heap) (locs : List Loc) (ls : Array Slot), lv_has ls 5 [(0, .ref (sb 8)), (1, .int x1), (2, .long y2), (4, .int x4)] → Ws D b0 cy sb db g s H locs → m_X3_totalOf_L5 x1 g fu y2 x4 = some q → W p l e ({ frames := 1, cells := 0, slots := 0, locals := 21 } : Room) s m args below meth c H locs 0 0 (MQ below (QX (some (.long res)) D b0 cy sb db g) args s 0 0 (fun q => b0 ≤ q)) (F0 m 5 ls []) := by
  obtain ⟨hx, hb, hml, hown, hts, hK⟩ := id C0
  intro fu
  induction fu with
  | zero =>
    intro y2 x4 H locs ls hl M h
    cases h
  | succ fu ih =>
    intro y2 x4 H locs ls hl M h
    rw [m_X3_totalOf_L5] at h
    refine lv_iload hx hb dX3_totalOf_5 (lv_at hl 3 rfl) ?_
    refine lv_aload_n hx hb dX3_totalOf_7 rfl (lv_at hl 0 rfl) ?_
    refine lv_iload_n hx hb dX3_totalOf_8 rfl (lv_at hl 1 rfl) ?_
    obtain ⟨x_6, hc_5, h⟩ := bnd_s h
    refine kV (As := [.int x1]) (rest := [.int x4]) (stk := [.int x_6, .int x4]) (val := (some (.int x_6))) (c1 := 0) (s1 := 0) C0 M (k_X3_lengthOf hc_5) kw_25_20 Y_X3_lengthOf (rv_X3 C0 M) ⟨Nat.le_of_ble_eq_true rfl, Nat.le_of_ble_eq_true rfl⟩ rfl hl.1 rfl (Nat.le_of_ble_eq_true rfl) dX3_totalOf_9 rfl rfl ⟨Nat.le_refl _, Nat.le_refl _⟩ rfl (fun H locs M => ?_)
    refine lv_icmp_ge (tgt := 37) hx hb dX3_totalOf_12 (by decide) (fun c_7 => ?_) (fun c_7 => ?_)
    · rw [if_pos c_7] at h
      exact kk _ _ _ _ (Option.some.inj h).symm (lv_sub hl [2] rfl) M
    · rw [if_neg c_7] at h
      refine lv_lload_n hx hb dX3_totalOf_15 rfl (lv_at hl 2 rfl) ?_
      refine lv_aload_n hx hb dX3_totalOf_16 rfl (lv_at hl 0 rfl) ?_
      refine gf_RX3_9 C0 M dX3_totalOf_17 ?_
      refine lv_aload_n hx hb dX3_totalOf_20 rfl (lv_at hl 0 rfl) ?_
      refine lv_iload_n hx hb dX3_totalOf_21 rfl (lv_at hl 1 rfl) ?_
      obtain ⟨x_9, hc_8, h⟩ := bnd_s h
      refine kV (As := [.int x1]) (rest := [.ref (db 9), .long y2]) (stk := [.int x_9, .ref (db 9), .long y2]) (val := (some (.int x_9))) (c1 := 0) (s1 := 0) C0 M (k_X3_startOf hc_8) kw_25_21 Y_X3_startOf (rv_X3 C0 M) ⟨Nat.le_of_ble_eq_true rfl, Nat.le_of_ble_eq_true rfl⟩ rfl hl.1 rfl (Nat.le_of_ble_eq_true rfl) dX3_totalOf_22 rfl rfl ⟨Nat.le_refl _, Nat.le_refl _⟩ rfl (fun H locs M => ?_)
      refine lv_iload hx hb dX3_totalOf_25 (lv_at hl 3 rfl) ?_
      refine lv_iadd hx hb dX3_totalOf_27 ?_
      obtain ⟨hi_10, h⟩ := chk_s h
      refine al_NUM C0 M hi_10 dX3_totalOf_28 ?_
      refine lv_ladd hx hb dX3_totalOf_29 ?_
      obtain ⟨y_11, hn_12, h⟩ := lett_s h
      refine nm_l hn_12 ?_
      refine lv_lstore_n (lv' := [(2, .long y_11), (0, .ref (sb 8)), (1, .int x1), (4, .int x4)]) hx hb dX3_totalOf_30 rfl hl (by decide) rfl (fun ls hl => ?_)
      obtain ⟨x_13, hn_14, h⟩ := lett_s h
      refine lv_iinc (v := x_13) (lv' := [(4, .int x_13), (2, .long y_11), (0, .ref (sb 8)), (1, .int x1)]) hx hb dX3_totalOf_31 hl (k := 3) rfl (by rw [hn_14]; rfl) (by decide) rfl (fun ls hl => ?_)
      refine lv_goto (tgt := 5) hx hb dX3_totalOf_34 (by decide) ?_
      exact ih _ _ _ _ _ (lv_sub hl [2, 3, 1, 0] rfl) M h
set_option maxHeartbeats 4000000 in
set_option maxRecDepth 100000 in
theorem w_X3_totalOf {x1 : Int32} (C0 : Cx p s m args c cX3_totalOf 5 RX3 D cy) (hr : meth.sig.returnType = (some .long)) (hk : meth.locks = false) {res : Int64} (hl : lv_has ls 5 [(0, .ref (sb 8)), (1, .int x1)]) (M : Ws D b0 cy sb db g s H locs) (h : m_X3_totalOf x1 g = some res) : W p l e ({ frames := 1, cells := 0, slots := 0, locals := 21 } : Room) s m args below meth c H locs 0 0 (MQ below (QX (some (.long res)) D b0 cy sb db g) args s 0 0 (fun q => b0 ≤ q)) (F0 m 0 ls []) := by
  obtain ⟨hx, hb, hml, hown, hts, hK⟩ := id C0
  rw [m_X3_totalOf] at h
  refine lv_lconst (v := 0) hx hb dX3_totalOf_0 (by decide) ?_
  obtain ⟨y_1, hn_2, h⟩ := lett_s h
  refine nm_l hn_2 ?_
  refine lv_lstore_n (lv' := [(2, .long y_1), (0, .ref (sb 8)), (1, .int x1)]) hx hb dX3_totalOf_1 rfl hl (by decide) rfl (fun ls hl => ?_)
  refine lv_iconst (v := 0) hx hb dX3_totalOf_2 (by decide) ?_
  obtain ⟨x_3, hn_4, h⟩ := lett_s h
  refine nm_i hn_4 ?_
  refine lv_istore (lv' := [(4, .int x_3), (2, .long y_1), (0, .ref (sb 8)), (1, .int x1)]) hx hb dX3_totalOf_3 hl (by decide) rfl (fun ls hl => ?_)
  obtain ⟨q_16, hq_17, h⟩ := bnd_s h
  refine w_X3_totalOf_L5 C0 hr hk (q := q_16) (fun y_15 H locs ls hq hl M => ?_) FU _ _ _ _ _ (lv_sub hl [2, 3, 1, 0] rfl) M hq_17
  subst q_16
  try dsimp only at h
  refine lv_lload_n hx hb dX3_totalOf_37 rfl (lv_at hl 0 rfl) ?_
  obtain rfl := Option.some.inj h
  exact rt_l C0 M hr hk dX3_totalOf_38
theorem k_X3_totalOf {x1 : Int32} {res : Int64} (h : m_X3_totalOf x1 g = some res) : CM l yX3_totalOf cX3_totalOf 5 (some .long) ({ frames := 1, cells := 0, slots := 0, locals := 21 } : Room) [.ref (sb 8), .int x1] (some (.long res)) D b0 cy sb db g g := by
  refine Met.ofW (cc := cX3_totalOf) (maxL := 5) (ret := (some .long)) (by decide) rfl ?_
  intro p e s m args below meth c s₁ B hml hv
  obtain ⟨rfl, hW, hK⟩ := hv
  have hl := lv_entry [.ref (sb 8), .int x1] (n := 5) (Nat.le_of_ble_eq_true rfl)
  rw [lg_entry_eq]
  generalize (lg_sl [.ref (sb 8), .int x1] ++ List.replicate (5 - (lg_sl [.ref (sb 8), .int x1]).length) Slot.unset).toArray = ls at hl ⊢
  have hl : lv_has ls 5 [(0, .ref (sb 8)), (1, .int x1)] := hl
  exact w_X3_totalOf ⟨B.exec, B.bytes, hml, findClass_of_methodNamed B.named, fun w hw => atoms_spec (ws := Cond.code yX3_totalOf cX3_totalOf 5 (some .long) :: wsL_law) B.pre w (List.mem_cons_of_mem _ hw), hK⟩ B.returns B.notSynchronized hl ⟨hW, va_S.rf⟩ h
theorem Y_X3_totalOf : Yv yX3_totalOf RX3 cX3_totalOf 5 (some .long) 1 := ⟨⟨kw_25_19, kw_1_23, by decide +kernel, by decide +kernel, by decide +kernel⟩, kw_25_17, kw_25_18⟩
-- J13_compare_74951
def m_J13_compare_74951_J21 (xs0 : Int32) (g : Gs) : Option (Int32) :=
  some xs0
def m_J13_compare_74951 (y0 : Int64) (y2 : Int64) (g : Gs) : Option (Int32) :=
  if 0 ≤ (lg_cmp y0 y2) then (if (lg_cmp y0 y2) = 0 then (m_J13_compare_74951_J21 (0 : Int32) g) else (m_J13_compare_74951_J21 (1 : Int32) g)) else (m_J13_compare_74951_J21 (-1 : Int32) g)
set_option maxHeartbeats 4000000 in
set_option maxRecDepth 100000 in
theorem w_J13_compare_74951_J21 {xs0 : Int32} (C0 : Cx p s m args c cJ13_compare_74951 4 RJ13 D cy) (hr : meth.sig.returnType = (some .int)) (hk : meth.locks = false) {res : Int32} (hl : lv_has ls 4 []) (M : Ws D b0 cy sb db g s H locs) (h : m_J13_compare_74951_J21 xs0 g = some res) : W p l e ({ frames := 0, cells := 0, slots := 0, locals := 0 } : Room) s m args below meth c H locs 0 0 (MQ below (QX (some (.int res)) D b0 cy sb db g) args s 0 0 (fun q => b0 ≤ q)) (F0 m 21 ls [.int xs0]) := by
  obtain ⟨hx, hb, hml, hown, hts, hK⟩ := id C0
  rw [m_J13_compare_74951_J21] at h
  obtain rfl := Option.some.inj h
  exact rt_i C0 M hr hk dJ13_compare_74951_21
set_option maxHeartbeats 4000000 in
set_option maxRecDepth 100000 in
theorem w_J13_compare_74951 {y0 : Int64} {y2 : Int64} (C0 : Cx p s m args c cJ13_compare_74951 4 RJ13 D cy) (hr : meth.sig.returnType = (some .int)) (hk : meth.locks = false) {res : Int32} (hl : lv_has ls 4 [(0, .long y0), (2, .long y2)]) (M : Ws D b0 cy sb db g s H locs) (h : m_J13_compare_74951 y0 y2 g = some res) : W p l e ({ frames := 0, cells := 0, slots := 0, locals := 0 } : Room) s m args below meth c H locs 0 0 (MQ below (QX (some (.int res)) D b0 cy sb db g) args s 0 0 (fun q => b0 ≤ q)) (F0 m 0 ls []) := by
  obtain ⟨hx, hb, hml, hown, hts, hK⟩ := id C0
  rw [m_J13_compare_74951] at h
  refine lv_lload_n hx hb dJ13_compare_74951_0 rfl (lv_at hl 0 rfl) ?_
  refine lv_lload_n hx hb dJ13_compare_74951_1 rfl (lv_at hl 1 rfl) ?_
  refine W.lcmp hx hb dJ13_compare_74951_2 ?_
  refine lv_if_ge (tgt := 10) hx hb dJ13_compare_74951_3 (by decide) (fun c_1 => ?_) (fun c_1 => ?_)
  · rw [if_pos c_1] at h
    refine lv_lload_n hx hb dJ13_compare_74951_10 rfl (lv_at hl 0 rfl) ?_
    refine lv_lload_n hx hb dJ13_compare_74951_11 rfl (lv_at hl 1 rfl) ?_
    refine W.lcmp hx hb dJ13_compare_74951_12 ?_
    refine lv_if_ne (tgt := 20) hx hb dJ13_compare_74951_13 (by decide) (fun c_2 => ?_) (fun c_2 => ?_)
    · rw [if_neg c_2] at h
      refine lv_iconst (v := 1) hx hb dJ13_compare_74951_20 (by decide) ?_
      exact w_J13_compare_74951_J21 C0 hr hk (lv_sub hl [] rfl) M h
    · rw [if_pos c_2] at h
      refine lv_iconst (v := 0) hx hb dJ13_compare_74951_16 (by decide) ?_
      refine lv_goto (tgt := 21) hx hb dJ13_compare_74951_17 (by decide) ?_
      exact w_J13_compare_74951_J21 C0 hr hk (lv_sub hl [] rfl) M h
  · rw [if_neg c_1] at h
    refine lv_iconst (v := -1) hx hb dJ13_compare_74951_6 (by decide) ?_
    refine lv_goto (tgt := 21) hx hb dJ13_compare_74951_7 (by decide) ?_
    exact w_J13_compare_74951_J21 C0 hr hk (lv_sub hl [] rfl) M h
theorem k_J13_compare_74951 {y0 : Int64} {y2 : Int64} {res : Int32} (h : m_J13_compare_74951 y0 y2 g = some res) : CM l yJ13_compare_74951 cJ13_compare_74951 4 (some .int) ({ frames := 0, cells := 0, slots := 0, locals := 0 } : Room) [.long y0, .long y2] (some (.int res)) D b0 cy sb db g g := by
  refine Met.ofW (cc := cJ13_compare_74951) (maxL := 4) (ret := (some .int)) (by decide) rfl ?_
  intro p e s m args below meth c s₁ B hml hv
  obtain ⟨rfl, hW, hK⟩ := hv
  have hl := lv_entry [.long y0, .long y2] (n := 4) (Nat.le_of_ble_eq_true rfl)
  rw [lg_entry_eq]
  generalize (lg_sl [.long y0, .long y2] ++ List.replicate (4 - (lg_sl [.long y0, .long y2]).length) Slot.unset).toArray = ls at hl ⊢
  have hl : lv_has ls 4 [(0, .long y0), (2, .long y2)] := hl
  exact w_J13_compare_74951 ⟨B.exec, B.bytes, hml, findClass_of_methodNamed B.named, fun w hw => atoms_spec (ws := Cond.code yJ13_compare_74951 cJ13_compare_74951 4 (some .int) :: wsL_law) B.pre w (List.mem_cons_of_mem _ hw), hK⟩ B.returns B.notSynchronized hl ⟨hW, va_S.rf⟩ h
theorem Y_J13_compare_74951 : Ys yJ13_compare_74951 cJ13_compare_74951 4 (some .int) 2 := ⟨⟨kw_28_3, kw_28_2, by decide +kernel, by decide +kernel, by decide +kernel⟩, kw_28_1⟩
-- J6_compare_7cf53
def m_J6_compare_7cf53_J19 (xs0 : Int32) (g : Gs) : Option (Int32) :=
  some xs0
def m_J6_compare_7cf53 (x0 : Int32) (x1 : Int32) (g : Gs) : Option (Int32) :=
  if x1 ≤ x0 then (if x0 = x1 then (m_J6_compare_7cf53_J19 (0 : Int32) g) else (m_J6_compare_7cf53_J19 (1 : Int32) g)) else (m_J6_compare_7cf53_J19 (-1 : Int32) g)
set_option maxHeartbeats 4000000 in
set_option maxRecDepth 100000 in
theorem w_J6_compare_7cf53_J19 {xs0 : Int32} (C0 : Cx p s m args c cJ6_compare_7cf53 2 RJ6 D cy) (hr : meth.sig.returnType = (some .int)) (hk : meth.locks = false) {res : Int32} (hl : lv_has ls 2 []) (M : Ws D b0 cy sb db g s H locs) (h : m_J6_compare_7cf53_J19 xs0 g = some res) : W p l e ({ frames := 0, cells := 0, slots := 0, locals := 0 } : Room) s m args below meth c H locs 0 0 (MQ below (QX (some (.int res)) D b0 cy sb db g) args s 0 0 (fun q => b0 ≤ q)) (F0 m 19 ls [.int xs0]) := by
  obtain ⟨hx, hb, hml, hown, hts, hK⟩ := id C0
  rw [m_J6_compare_7cf53_J19] at h
  obtain rfl := Option.some.inj h
  exact rt_i C0 M hr hk dJ6_compare_7cf53_19
set_option maxHeartbeats 4000000 in
set_option maxRecDepth 100000 in
theorem w_J6_compare_7cf53 {x0 : Int32} {x1 : Int32} (C0 : Cx p s m args c cJ6_compare_7cf53 2 RJ6 D cy) (hr : meth.sig.returnType = (some .int)) (hk : meth.locks = false) {res : Int32} (hl : lv_has ls 2 [(0, .int x0), (1, .int x1)]) (M : Ws D b0 cy sb db g s H locs) (h : m_J6_compare_7cf53 x0 x1 g = some res) : W p l e ({ frames := 0, cells := 0, slots := 0, locals := 0 } : Room) s m args below meth c H locs 0 0 (MQ below (QX (some (.int res)) D b0 cy sb db g) args s 0 0 (fun q => b0 ≤ q)) (F0 m 0 ls []) := by
  obtain ⟨hx, hb, hml, hown, hts, hK⟩ := id C0
  rw [m_J6_compare_7cf53] at h
  refine lv_iload_n hx hb dJ6_compare_7cf53_0 rfl (lv_at hl 0 rfl) ?_
  refine lv_iload_n hx hb dJ6_compare_7cf53_1 rfl (lv_at hl 1 rfl) ?_
  refine lv_icmp_ge (tgt := 9) hx hb dJ6_compare_7cf53_2 (by decide) (fun c_1 => ?_) (fun c_1 => ?_)
  · rw [if_pos c_1] at h
    refine lv_iload_n hx hb dJ6_compare_7cf53_9 rfl (lv_at hl 0 rfl) ?_
    refine lv_iload_n hx hb dJ6_compare_7cf53_10 rfl (lv_at hl 1 rfl) ?_
    refine lv_icmp_ne (tgt := 18) hx hb dJ6_compare_7cf53_11 (by decide) (fun c_2 => ?_) (fun c_2 => ?_)
    · rw [if_neg c_2] at h
      refine lv_iconst (v := 1) hx hb dJ6_compare_7cf53_18 (by decide) ?_
      exact w_J6_compare_7cf53_J19 C0 hr hk (lv_sub hl [] rfl) M h
    · rw [if_pos c_2] at h
      refine lv_iconst (v := 0) hx hb dJ6_compare_7cf53_14 (by decide) ?_
      refine lv_goto (tgt := 19) hx hb dJ6_compare_7cf53_15 (by decide) ?_
      exact w_J6_compare_7cf53_J19 C0 hr hk (lv_sub hl [] rfl) M h
  · rw [if_neg c_1] at h
    refine lv_iconst (v := -1) hx hb dJ6_compare_7cf53_5 (by decide) ?_
    refine lv_goto (tgt := 19) hx hb dJ6_compare_7cf53_6 (by decide) ?_
    exact w_J6_compare_7cf53_J19 C0 hr hk (lv_sub hl [] rfl) M h
theorem k_J6_compare_7cf53 {x0 : Int32} {x1 : Int32} {res : Int32} (h : m_J6_compare_7cf53 x0 x1 g = some res) : CM l yJ6_compare_7cf53 cJ6_compare_7cf53 2 (some .int) ({ frames := 0, cells := 0, slots := 0, locals := 0 } : Room) [.int x0, .int x1] (some (.int res)) D b0 cy sb db g g := by
  refine Met.ofW (cc := cJ6_compare_7cf53) (maxL := 2) (ret := (some .int)) (by decide) rfl ?_
  intro p e s m args below meth c s₁ B hml hv
  obtain ⟨rfl, hW, hK⟩ := hv
  have hl := lv_entry [.int x0, .int x1] (n := 2) (Nat.le_of_ble_eq_true rfl)
  rw [lg_entry_eq]
  generalize (lg_sl [.int x0, .int x1] ++ List.replicate (2 - (lg_sl [.int x0, .int x1]).length) Slot.unset).toArray = ls at hl ⊢
  have hl : lv_has ls 2 [(0, .int x0), (1, .int x1)] := hl
  exact w_J6_compare_7cf53 ⟨B.exec, B.bytes, hml, findClass_of_methodNamed B.named, fun w hw => atoms_spec (ws := Cond.code yJ6_compare_7cf53 cJ6_compare_7cf53 2 (some .int) :: wsL_law) B.pre w (List.mem_cons_of_mem _ hw), hK⟩ B.returns B.notSynchronized hl ⟨hW, va_S.rf⟩ h
theorem Y_J6_compare_7cf53 : Ys yJ6_compare_7cf53 cJ6_compare_7cf53 2 (some .int) 2 := ⟨⟨kw_28_7, kw_28_6, by decide +kernel, by decide +kernel, by decide +kernel⟩, kw_28_5⟩
-- X3_orderOf
def m_X3_orderOf_L17 (x1 : Int32) (x2 : Int32) (x3 : Int32) (g : Gs) : Nat → Int32 → Option ((Int32) ⊕ (Unit))
  | 0, _ => none
  | fu + 1, x4 =>
  if x3 ≤ x4 then (some (.inr ())) else ((m_X3_startOf x1 g).bind fun x_11 => chk (inb (x_11 + x4) (g.2.2 9)) ((m_X3_startOf x2 g).bind fun x_14 => chk (inb (x_14 + x4) (g.2.2 9)) ((m_J13_compare_74951 (g.2.1 0 (x_11 + x4).toNatClampNeg) (g.2.1 0 (x_14 + x4).toNatClampNeg) g).bind fun x_17 => if x_17 = 0 then (lett (x4 + 1) fun x_19 => m_X3_orderOf_L17 x1 x2 x3 g fu x_19) else (some (.inl x_17)))))
def m_X3_orderOf (x1 : Int32) (x2 : Int32) (g : Gs) : Option (Int32) :=
  (m_X3_lengthOf x1 g).bind fun x_2 => (m_X3_lengthOf x2 g).bind fun x_4 => lett (if x_4 < x_2 then x_4 else x_2) fun x_5 => lett (0 : Int32) fun x_7 => (m_X3_orderOf_L17 x1 x2 x_5 g FU x_7).bind fun q_27 => exi q_27 (fun r => some r) fun _ => (m_X3_lengthOf x1 g).bind fun x_22 => (m_X3_lengthOf x2 g).bind fun x_24 => (m_J6_compare_7cf53 x_22 x_24 g).bind fun x_26 => some x_26
set_option maxHeartbeats 4000000 in
set_option maxRecDepth 100000 in
theorem w_X3_orderOf_L17 {x1 : Int32} {x2 : Int32} {x3 : Int32} (C0 : Cx p s m args c cX3_orderOf 6 RX3 D cy) (hr : meth.sig.returnType = (some .int)) (hk : meth.locks = false) {res : Int32} {q : (Int32) ⊕ (Unit)} (hret : ∀ r, q = .inl r → r = res) (kk : ∀  (H : Heap) (locs : List Loc) (ls : Array Slot), q = .inr () → lv_has ls 6 [(0, .ref (sb 8)), (1, .int x1), (2, .int x2)] → Ws D b0 cy sb db g s H locs → W p l e ({ frames := 1, cells := 0, slots := 0, locals := 23 } : Room) s m args below meth c H locs 0 0 (MQ below (QX (some (.int res)) D b0 cy sb db g) args s 0 0 (fun q => b0 ≤ q)) (F0 m 68 ls [])) : ∀ (fu : Nat) (x4 : Int32) (H : Heap) (locs : List Loc) (ls : Array Slot), lv_has ls 6 [(0, .ref (sb 8)), (1, .int x1), (2, .int x2), (3, .int x3), (4, .int x4)] → Ws D b0 cy sb db g s H locs → m_X3_orderOf_L17 x1 x2 x3 g fu x4 = some q → W p l e ({ frames := 1, cells := 0, slots := 0, locals := 23 } : Room) s m args below meth c H locs 0 0 (MQ below (QX (some (.int res)) D b0 cy sb db g) args s 0 0 (fun q => b0 ≤ q)) (F0 m 17 ls []) := by
  obtain ⟨hx, hb, hml, hown, hts, hK⟩ := id C0
  intro fu
  induction fu with
  | zero =>
    intro x4 H locs ls hl M h
    cases h
  | succ fu ih =>
    intro x4 H locs ls hl M h
    rw [m_X3_orderOf_L17] at h
    refine lv_iload hx hb dX3_orderOf_17 (lv_at hl 4 rfl) ?_
    refine lv_iload_n hx hb dX3_orderOf_19 rfl (lv_at hl 3 rfl) ?_
    refine lv_icmp_ge (tgt := 68) hx hb dX3_orderOf_20 (by decide) (fun c_9 => ?_) (fun c_9 => ?_)
    · rw [if_pos c_9] at h
      exact kk _ _ _ (Option.some.inj h).symm (lv_sub hl [0, 1, 2] rfl) M
    · rw [if_neg c_9] at h
      refine lv_aload_n hx hb dX3_orderOf_23 rfl (lv_at hl 0 rfl) ?_
      refine gf_RX3_9 C0 M dX3_orderOf_24 ?_
      refine lv_aload_n hx hb dX3_orderOf_27 rfl (lv_at hl 0 rfl) ?_
      refine lv_iload_n hx hb dX3_orderOf_28 rfl (lv_at hl 1 rfl) ?_
      obtain ⟨x_11, hc_10, h⟩ := bnd_s h
      refine kV (As := [.int x1]) (rest := [.ref (db 9)]) (stk := [.int x_11, .ref (db 9)]) (val := (some (.int x_11))) (c1 := 0) (s1 := 0) C0 M (k_X3_startOf hc_10) kw_25_21 Y_X3_startOf (rv_X3 C0 M) ⟨Nat.le_of_ble_eq_true rfl, Nat.le_of_ble_eq_true rfl⟩ rfl hl.1 rfl (Nat.le_of_ble_eq_true rfl) dX3_orderOf_29 rfl rfl ⟨Nat.le_refl _, Nat.le_refl _⟩ rfl (fun H locs M => ?_)
      refine lv_iload hx hb dX3_orderOf_32 (lv_at hl 4 rfl) ?_
      refine lv_iadd hx hb dX3_orderOf_34 ?_
      obtain ⟨hi_12, h⟩ := chk_s h
      refine al_NUM C0 M hi_12 dX3_orderOf_35 ?_
      refine lv_aload_n hx hb dX3_orderOf_36 rfl (lv_at hl 0 rfl) ?_
      refine gf_RX3_9 C0 M dX3_orderOf_37 ?_
      refine lv_aload_n hx hb dX3_orderOf_40 rfl (lv_at hl 0 rfl) ?_
      refine lv_iload_n hx hb dX3_orderOf_41 rfl (lv_at hl 2 rfl) ?_
      obtain ⟨x_14, hc_13, h⟩ := bnd_s h
      refine kV (As := [.int x2]) (rest := [.ref (db 9), .long (g.2.1 0 (x_11 + x4).toNatClampNeg)]) (stk := [.int x_14, .ref (db 9), .long (g.2.1 0 (x_11 + x4).toNatClampNeg)]) (val := (some (.int x_14))) (c1 := 0) (s1 := 0) C0 M (k_X3_startOf hc_13) kw_25_21 Y_X3_startOf (rv_X3 C0 M) ⟨Nat.le_of_ble_eq_true rfl, Nat.le_of_ble_eq_true rfl⟩ rfl hl.1 rfl (Nat.le_of_ble_eq_true rfl) dX3_orderOf_42 rfl rfl ⟨Nat.le_refl _, Nat.le_refl _⟩ rfl (fun H locs M => ?_)
      refine lv_iload hx hb dX3_orderOf_45 (lv_at hl 4 rfl) ?_
      refine lv_iadd hx hb dX3_orderOf_47 ?_
      obtain ⟨hi_15, h⟩ := chk_s h
      refine al_NUM C0 M hi_15 dX3_orderOf_48 ?_
      obtain ⟨x_17, hc_16, h⟩ := bnd_s h
      refine kS (As := [.long (g.2.1 0 (x_11 + x4).toNatClampNeg), .long (g.2.1 0 (x_14 + x4).toNatClampNeg)]) (rest := []) (stk := [.int x_17]) (val := (some (.int x_17))) (c1 := 0) (s1 := 0) C0 M (k_J13_compare_74951 hc_16) kw_28_0 Y_J13_compare_74951 ⟨Nat.le_of_ble_eq_true rfl, Nat.le_of_ble_eq_true rfl⟩ rfl hl.1 rfl (Nat.le_of_ble_eq_true rfl) dX3_orderOf_49 rfl rfl ⟨Nat.le_refl _, Nat.le_refl _⟩ rfl (fun H locs M => ?_)
      refine lv_istore (lv' := [(5, .int x_17), (0, .ref (sb 8)), (1, .int x1), (2, .int x2), (3, .int x3), (4, .int x4)]) hx hb dX3_orderOf_52 hl (by decide) rfl (fun ls hl => ?_)
      refine lv_iload hx hb dX3_orderOf_54 (lv_at hl 0 rfl) ?_
      refine lv_if_eq (tgt := 62) hx hb dX3_orderOf_56 (by decide) (fun c_18 => ?_) (fun c_18 => ?_)
      · rw [if_pos c_18] at h
        obtain ⟨x_19, hn_20, h⟩ := lett_s h
        refine lv_iinc (v := x_19) (lv' := [(4, .int x_19), (5, .int x_17), (0, .ref (sb 8)), (1, .int x1), (2, .int x2), (3, .int x3)]) hx hb dX3_orderOf_62 hl (k := 5) rfl (by rw [hn_20]; rfl) (by decide) rfl (fun ls hl => ?_)
        refine lv_goto (tgt := 17) hx hb dX3_orderOf_65 (by decide) ?_
        exact ih _ _ _ _ (lv_sub hl [2, 3, 4, 5, 0] rfl) M h
      · rw [if_neg c_18] at h
        refine lv_iload hx hb dX3_orderOf_59 (lv_at hl 0 rfl) ?_
        obtain rfl := Option.some.inj h
        obtain rfl := hret _ rfl
        exact rt_i C0 M hr hk dX3_orderOf_61
set_option maxHeartbeats 4000000 in
set_option maxRecDepth 100000 in
theorem w_X3_orderOf {x1 : Int32} {x2 : Int32} (C0 : Cx p s m args c cX3_orderOf 6 RX3 D cy) (hr : meth.sig.returnType = (some .int)) (hk : meth.locks = false) {res : Int32} (hl : lv_has ls 6 [(0, .ref (sb 8)), (1, .int x1), (2, .int x2)]) (M : Ws D b0 cy sb db g s H locs) (h : m_X3_orderOf x1 x2 g = some res) : W p l e ({ frames := 1, cells := 0, slots := 0, locals := 23 } : Room) s m args below meth c H locs 0 0 (MQ below (QX (some (.int res)) D b0 cy sb db g) args s 0 0 (fun q => b0 ≤ q)) (F0 m 0 ls []) := by
  obtain ⟨hx, hb, hml, hown, hts, hK⟩ := id C0
  rw [m_X3_orderOf] at h
  refine lv_aload_n hx hb dX3_orderOf_0 rfl (lv_at hl 0 rfl) ?_
  refine lv_iload_n hx hb dX3_orderOf_1 rfl (lv_at hl 1 rfl) ?_
  obtain ⟨x_2, hc_1, h⟩ := bnd_s h
  refine kV (As := [.int x1]) (rest := []) (stk := [.int x_2]) (val := (some (.int x_2))) (c1 := 0) (s1 := 0) C0 M (k_X3_lengthOf hc_1) kw_25_20 Y_X3_lengthOf (rv_X3 C0 M) ⟨Nat.le_of_ble_eq_true rfl, Nat.le_of_ble_eq_true rfl⟩ rfl hl.1 rfl (Nat.le_of_ble_eq_true rfl) dX3_orderOf_2 rfl rfl ⟨Nat.le_refl _, Nat.le_refl _⟩ rfl (fun H locs M => ?_)
  refine lv_aload_n hx hb dX3_orderOf_5 rfl (lv_at hl 0 rfl) ?_
  refine lv_iload_n hx hb dX3_orderOf_6 rfl (lv_at hl 2 rfl) ?_
  obtain ⟨x_4, hc_3, h⟩ := bnd_s h
  refine kV (As := [.int x2]) (rest := [.int x_2]) (stk := [.int x_4, .int x_2]) (val := (some (.int x_4))) (c1 := 0) (s1 := 0) C0 M (k_X3_lengthOf hc_3) kw_25_20 Y_X3_lengthOf (rv_X3 C0 M) ⟨Nat.le_of_ble_eq_true rfl, Nat.le_of_ble_eq_true rfl⟩ rfl hl.1 rfl (Nat.le_of_ble_eq_true rfl) dX3_orderOf_7 rfl rfl ⟨Nat.le_refl _, Nat.le_refl _⟩ rfl (fun H locs M => ?_)
  refine va_mmin hx hb (hml.trans hl.1.symm) hown (hts _ kw_27_23) (hts _ kw_9_8) (hts _ kw_7_17) (hts _ kw_9_9) (Nat.le_of_ble_eq_true rfl) (Nat.le_of_ble_eq_true rfl) (Nat.zero_le _) (Nat.zero_le _) dX3_orderOf_10 ?_
  obtain ⟨x_5, hn_6, h⟩ := lett_s h
  refine nm_i hn_6 ?_
  refine lv_istore_n (lv' := [(3, .int x_5), (0, .ref (sb 8)), (1, .int x1), (2, .int x2)]) hx hb dX3_orderOf_13 rfl hl (by decide) rfl (fun ls hl => ?_)
  refine lv_iconst (v := 0) hx hb dX3_orderOf_14 (by decide) ?_
  obtain ⟨x_7, hn_8, h⟩ := lett_s h
  refine nm_i hn_8 ?_
  refine lv_istore (lv' := [(4, .int x_7), (3, .int x_5), (0, .ref (sb 8)), (1, .int x1), (2, .int x2)]) hx hb dX3_orderOf_15 hl (by decide) rfl (fun ls hl => ?_)
  obtain ⟨q_27, hq_28, h⟩ := bnd_s h
  refine w_X3_orderOf_L17 C0 hr hk (q := q_27) (fun r hq => ?_) (fun  H locs ls hq hl M => ?_) FU _ _ _ _ (lv_sub hl [2, 3, 4, 1, 0] rfl) M hq_28
  · subst hq
    exact Option.some.inj h
  subst q_27
  try dsimp only [exi] at h
  refine lv_aload_n hx hb dX3_orderOf_68 rfl (lv_at hl 0 rfl) ?_
  refine lv_iload_n hx hb dX3_orderOf_69 rfl (lv_at hl 1 rfl) ?_
  obtain ⟨x_22, hc_21, h⟩ := bnd_s h
  refine kV (As := [.int x1]) (rest := []) (stk := [.int x_22]) (val := (some (.int x_22))) (c1 := 0) (s1 := 0) C0 M (k_X3_lengthOf hc_21) kw_25_20 Y_X3_lengthOf (rv_X3 C0 M) ⟨Nat.le_of_ble_eq_true rfl, Nat.le_of_ble_eq_true rfl⟩ rfl hl.1 rfl (Nat.le_of_ble_eq_true rfl) dX3_orderOf_70 rfl rfl ⟨Nat.le_refl _, Nat.le_refl _⟩ rfl (fun H locs M => ?_)
  refine lv_aload_n hx hb dX3_orderOf_73 rfl (lv_at hl 0 rfl) ?_
  refine lv_iload_n hx hb dX3_orderOf_74 rfl (lv_at hl 2 rfl) ?_
  obtain ⟨x_24, hc_23, h⟩ := bnd_s h
  refine kV (As := [.int x2]) (rest := [.int x_22]) (stk := [.int x_24, .int x_22]) (val := (some (.int x_24))) (c1 := 0) (s1 := 0) C0 M (k_X3_lengthOf hc_23) kw_25_20 Y_X3_lengthOf (rv_X3 C0 M) ⟨Nat.le_of_ble_eq_true rfl, Nat.le_of_ble_eq_true rfl⟩ rfl hl.1 rfl (Nat.le_of_ble_eq_true rfl) dX3_orderOf_75 rfl rfl ⟨Nat.le_refl _, Nat.le_refl _⟩ rfl (fun H locs M => ?_)
  obtain ⟨x_26, hc_25, h⟩ := bnd_s h
  refine kS (As := [.int x_22, .int x_24]) (rest := []) (stk := [.int x_26]) (val := (some (.int x_26))) (c1 := 0) (s1 := 0) C0 M (k_J6_compare_7cf53 hc_25) kw_28_4 Y_J6_compare_7cf53 ⟨Nat.le_of_ble_eq_true rfl, Nat.le_of_ble_eq_true rfl⟩ rfl hl.1 rfl (Nat.le_of_ble_eq_true rfl) dX3_orderOf_78 rfl rfl ⟨Nat.le_refl _, Nat.le_refl _⟩ rfl (fun H locs M => ?_)
  obtain rfl := Option.some.inj h
  exact rt_i C0 M hr hk dX3_orderOf_81
theorem k_X3_orderOf {x1 : Int32} {x2 : Int32} {res : Int32} (h : m_X3_orderOf x1 x2 g = some res) : CM l yX3_orderOf cX3_orderOf 6 (some .int) ({ frames := 1, cells := 0, slots := 0, locals := 23 } : Room) [.ref (sb 8), .int x1, .int x2] (some (.int res)) D b0 cy sb db g g := by
  refine Met.ofW (cc := cX3_orderOf) (maxL := 6) (ret := (some .int)) (by decide) rfl ?_
  intro p e s m args below meth c s₁ B hml hv
  obtain ⟨rfl, hW, hK⟩ := hv
  have hl := lv_entry [.ref (sb 8), .int x1, .int x2] (n := 6) (Nat.le_of_ble_eq_true rfl)
  rw [lg_entry_eq]
  generalize (lg_sl [.ref (sb 8), .int x1, .int x2] ++ List.replicate (6 - (lg_sl [.ref (sb 8), .int x1, .int x2]).length) Slot.unset).toArray = ls at hl ⊢
  have hl : lv_has ls 6 [(0, .ref (sb 8)), (1, .int x1), (2, .int x2)] := hl
  exact w_X3_orderOf ⟨B.exec, B.bytes, hml, findClass_of_methodNamed B.named, fun w hw => atoms_spec (ws := Cond.code yX3_orderOf cX3_orderOf 6 (some .int) :: wsL_law) B.pre w (List.mem_cons_of_mem _ hw), hK⟩ B.returns B.notSynchronized hl ⟨hW, va_S.rf⟩ h
theorem Y_X3_orderOf : Yv yX3_orderOf RX3 cX3_orderOf 6 (some .int) 2 := ⟨⟨kw_27_22, kw_1_23, by decide +kernel, by decide +kernel, by decide +kernel⟩, kw_27_20, kw_27_21⟩
end WALK
