section WALK
variable {p : Program} {l : Launch} {e : Env} {s : State} {m : MethodId} {args : Array Value} {below : List Frame} {meth : Method} {c : Code} {H : Heap} {locs : List Loc}
variable {ls : Array Slot} {D : va_G} {b0 : Nat} {cy : Cy} {sb db : Nat → Nat} {g : Gs}
-- X5_within
def m_X5_within_J18 (xs0 : Int32) (g : Gs) : Option (Int32) :=
  chk (xs0 &&& 1 = xs0) (some xs0)
def m_X5_within_J17  (g : Gs) : Option (Int32) :=
  m_X5_within_J18 (0 : Int32) g
def m_X5_within (y0 : Int64) (y2 : Int64) (y4 : Int64) (g : Gs) : Option (Int32) :=
  if (lg_cmp y0 y2) < 0 then (m_X5_within_J17  g) else (if 0 < (lg_cmp y0 y4) then (m_X5_within_J17  g) else (m_X5_within_J18 (1 : Int32) g))
set_option maxHeartbeats 4000000 in
set_option maxRecDepth 100000 in
theorem w_X5_within_J18 {xs0 : Int32} (C0 : Cx p s m args c cX5_within 6 RX5 D cy) (hr : meth.sig.returnType = (some .boolean)) (hk : meth.locks = false) {res : Int32} (hl : lv_has ls 6 []) (M : Ws D b0 cy sb db g s H locs) (h : m_X5_within_J18 xs0 g = some res) : W p l e ({ frames := 0, cells := 0, slots := 0, locals := 0 } : Room) s m args below meth c H locs 0 0 (MQ below (QX (some (.int res)) D b0 cy sb db g) args s 0 0 (fun q => b0 ≤ q)) (F0 m 18 ls [.int xs0]) := by
  obtain ⟨hx, hb, hml, hown, hts, hK⟩ := id C0
  rw [m_X5_within_J18] at h
  obtain ⟨hz_2, h⟩ := chk_s h
  obtain rfl := Option.some.inj h
  exact rt_z C0 M hr hk hz_2 dX5_within_18
set_option maxHeartbeats 4000000 in
set_option maxRecDepth 100000 in
theorem w_X5_within_J17  (C0 : Cx p s m args c cX5_within 6 RX5 D cy) (hr : meth.sig.returnType = (some .boolean)) (hk : meth.locks = false) {res : Int32} (hl : lv_has ls 6 []) (M : Ws D b0 cy sb db g s H locs) (h : m_X5_within_J17  g = some res) : W p l e ({ frames := 0, cells := 0, slots := 0, locals := 0 } : Room) s m args below meth c H locs 0 0 (MQ below (QX (some (.int res)) D b0 cy sb db g) args s 0 0 (fun q => b0 ≤ q)) (F0 m 17 ls []) := by
  obtain ⟨hx, hb, hml, hown, hts, hK⟩ := id C0
  rw [m_X5_within_J17] at h
  refine lv_iconst (v := 0) hx hb dX5_within_17 (by decide) ?_
  exact w_X5_within_J18 C0 hr hk hl M h
set_option maxHeartbeats 4000000 in
set_option maxRecDepth 100000 in
theorem w_X5_within {y0 : Int64} {y2 : Int64} {y4 : Int64} (C0 : Cx p s m args c cX5_within 6 RX5 D cy) (hr : meth.sig.returnType = (some .boolean)) (hk : meth.locks = false) {res : Int32} (hl : lv_has ls 6 [(0, .long y0), (2, .long y2), (4, .long y4)]) (M : Ws D b0 cy sb db g s H locs) (h : m_X5_within y0 y2 y4 g = some res) : W p l e ({ frames := 0, cells := 0, slots := 0, locals := 0 } : Room) s m args below meth c H locs 0 0 (MQ below (QX (some (.int res)) D b0 cy sb db g) args s 0 0 (fun q => b0 ≤ q)) (F0 m 0 ls []) := by
  obtain ⟨hx, hb, hml, hown, hts, hK⟩ := id C0
  rw [m_X5_within] at h
  refine lv_lload_n hx hb dX5_within_0 rfl (lv_at hl 0 rfl) ?_
  refine lv_lload_n hx hb dX5_within_1 rfl (lv_at hl 1 rfl) ?_
  refine W.lcmp hx hb dX5_within_2 ?_
  refine lv_if_lt (tgt := 17) hx hb dX5_within_3 (by decide) (fun c_1 => ?_) (fun c_1 => ?_)
  · rw [if_pos c_1] at h
    exact w_X5_within_J17 C0 hr hk (lv_sub hl [] rfl) M h
  · rw [if_neg c_1] at h
    refine lv_lload_n hx hb dX5_within_6 rfl (lv_at hl 0 rfl) ?_
    refine lv_lload hx hb dX5_within_7 (lv_at hl 2 rfl) ?_
    refine W.lcmp hx hb dX5_within_9 ?_
    refine lv_if_gt (tgt := 17) hx hb dX5_within_10 (by decide) (fun c_3 => ?_) (fun c_3 => ?_)
    · rw [if_pos c_3] at h
      exact w_X5_within_J17 C0 hr hk (lv_sub hl [] rfl) M h
    · rw [if_neg c_3] at h
      refine lv_iconst (v := 1) hx hb dX5_within_13 (by decide) ?_
      refine lv_goto (tgt := 18) hx hb dX5_within_14 (by decide) ?_
      exact w_X5_within_J18 C0 hr hk (lv_sub hl [] rfl) M h
theorem k_X5_within {y0 : Int64} {y2 : Int64} {y4 : Int64} {res : Int32} (h : m_X5_within y0 y2 y4 g = some res) : CM l yX5_within cX5_within 6 (some .boolean) ({ frames := 0, cells := 0, slots := 0, locals := 0 } : Room) [.long y0, .long y2, .long y4] (some (.int res)) D b0 cy sb db g g := by
  refine Met.ofW (cc := cX5_within) (maxL := 6) (ret := (some .boolean)) (by decide) rfl ?_
  intro p e s m args below meth c s₁ B hml hv
  obtain ⟨rfl, hW, hK⟩ := hv
  have hl := lv_entry [.long y0, .long y2, .long y4] (n := 6) (Nat.le_of_ble_eq_true rfl)
  rw [lg_entry_eq]
  generalize (lg_sl [.long y0, .long y2, .long y4] ++ List.replicate (6 - (lg_sl [.long y0, .long y2, .long y4]).length) Slot.unset).toArray = ls at hl ⊢
  have hl : lv_has ls 6 [(0, .long y0), (2, .long y2), (4, .long y4)] := hl
  exact w_X5_within ⟨B.exec, B.bytes, hml, findClass_of_methodNamed B.named, fun w hw => atoms_spec (ws := Cond.code yX5_within cX5_within 6 (some .boolean) :: wsL_law) B.pre w (List.mem_cons_of_mem _ hw), hK⟩ B.returns B.notSynchronized hl ⟨hW, va_S.rf⟩ h
theorem Y_X5_within : Ys yX5_within cX5_within 6 (some .boolean) 3 := ⟨⟨kw_12_0, kw_1_5, by decide +kernel, by decide +kernel, by decide +kernel⟩, kw_11_23⟩
-- X5_code
def m_X5_code  (g : Gs) : Option (Int32) :=
  some (g.1 20 0 0)
set_option maxHeartbeats 4000000 in
set_option maxRecDepth 100000 in
theorem w_X5_code  (C0 : Cx p s m args c cX5_code 1 RX5 D cy) (hr : meth.sig.returnType = (some .int)) (hk : meth.locks = false) {res : Int32} (hl : lv_has ls 1 [(0, .ref (sb 13))]) (M : Ws D b0 cy sb db g s H locs) (h : m_X5_code  g = some res) : W p l e ({ frames := 0, cells := 0, slots := 0, locals := 0 } : Room) s m args below meth c H locs 0 0 (MQ below (QX (some (.int res)) D b0 cy sb db g) args s 0 0 (fun q => b0 ≤ q)) (F0 m 0 ls []) := by
  obtain ⟨hx, hb, hml, hown, hts, hK⟩ := id C0
  rw [m_X5_code] at h
  refine lv_aload_n hx hb dX5_code_0 rfl (lv_at hl 0 rfl) ?_
  refine gf_RX5_65 C0 M dX5_code_1 ?_
  obtain rfl := Option.some.inj h
  exact rt_i C0 M hr hk dX5_code_4
theorem k_X5_code  {res : Int32} (h : m_X5_code  g = some res) : CM l yX5_code cX5_code 1 (some .int) ({ frames := 0, cells := 0, slots := 0, locals := 0 } : Room) [.ref (sb 13)] (some (.int res)) D b0 cy sb db g g := by
  refine Met.ofW (cc := cX5_code) (maxL := 1) (ret := (some .int)) (by decide) rfl ?_
  intro p e s m args below meth c s₁ B hml hv
  obtain ⟨rfl, hW, hK⟩ := hv
  have hl := lv_entry [.ref (sb 13)] (n := 1) (Nat.le_of_ble_eq_true rfl)
  rw [lg_entry_eq]
  generalize (lg_sl [.ref (sb 13)] ++ List.replicate (1 - (lg_sl [.ref (sb 13)]).length) Slot.unset).toArray = ls at hl ⊢
  have hl : lv_has ls 1 [(0, .ref (sb 13))] := hl
  exact w_X5_code ⟨B.exec, B.bytes, hml, findClass_of_methodNamed B.named, fun w hw => atoms_spec (ws := Cond.code yX5_code cX5_code 1 (some .int) :: wsL_law) B.pre w (List.mem_cons_of_mem _ hw), hK⟩ B.returns B.notSynchronized hl ⟨hW, va_S.rf⟩ h
theorem Y_X5_code : Yv yX5_code RX5 cX5_code 1 (some .int) 0 := ⟨⟨kw_4_19, kw_1_5, by decide +kernel, by decide +kernel, by decide +kernel⟩, kw_4_17, kw_4_18⟩
-- X5_which
def m_X5_which  (g : Gs) : Option (Int32) :=
  some (g.1 21 0 0)
set_option maxHeartbeats 4000000 in
set_option maxRecDepth 100000 in
theorem w_X5_which  (C0 : Cx p s m args c cX5_which 1 RX5 D cy) (hr : meth.sig.returnType = (some .int)) (hk : meth.locks = false) {res : Int32} (hl : lv_has ls 1 [(0, .ref (sb 13))]) (M : Ws D b0 cy sb db g s H locs) (h : m_X5_which  g = some res) : W p l e ({ frames := 0, cells := 0, slots := 0, locals := 0 } : Room) s m args below meth c H locs 0 0 (MQ below (QX (some (.int res)) D b0 cy sb db g) args s 0 0 (fun q => b0 ≤ q)) (F0 m 0 ls []) := by
  obtain ⟨hx, hb, hml, hown, hts, hK⟩ := id C0
  rw [m_X5_which] at h
  refine lv_aload_n hx hb dX5_which_0 rfl (lv_at hl 0 rfl) ?_
  refine gf_RX5_9 C0 M dX5_which_1 ?_
  obtain rfl := Option.some.inj h
  exact rt_i C0 M hr hk dX5_which_4
theorem k_X5_which  {res : Int32} (h : m_X5_which  g = some res) : CM l yX5_which cX5_which 1 (some .int) ({ frames := 0, cells := 0, slots := 0, locals := 0 } : Room) [.ref (sb 13)] (some (.int res)) D b0 cy sb db g g := by
  refine Met.ofW (cc := cX5_which) (maxL := 1) (ret := (some .int)) (by decide) rfl ?_
  intro p e s m args below meth c s₁ B hml hv
  obtain ⟨rfl, hW, hK⟩ := hv
  have hl := lv_entry [.ref (sb 13)] (n := 1) (Nat.le_of_ble_eq_true rfl)
  rw [lg_entry_eq]
  generalize (lg_sl [.ref (sb 13)] ++ List.replicate (1 - (lg_sl [.ref (sb 13)]).length) Slot.unset).toArray = ls at hl ⊢
  have hl : lv_has ls 1 [(0, .ref (sb 13))] := hl
  exact w_X5_which ⟨B.exec, B.bytes, hml, findClass_of_methodNamed B.named, fun w hw => atoms_spec (ws := Cond.code yX5_which cX5_which 1 (some .int) :: wsL_law) B.pre w (List.mem_cons_of_mem _ hw), hK⟩ B.returns B.notSynchronized hl ⟨hW, va_S.rf⟩ h
theorem Y_X5_which : Yv yX5_which RX5 cX5_which 1 (some .int) 0 := ⟨⟨kw_5_4, kw_1_5, by decide +kernel, by decide +kernel, by decide +kernel⟩, kw_5_2, kw_5_3⟩
-- X5_no
def m_X5_no (x1 : Int32) (g : Gs) : Option (Int32 × Gs) :=
  lett (sI g 20 0 0 x1) fun g_1 => some ((0 : Int32), g_1)
set_option maxHeartbeats 4000000 in
set_option maxRecDepth 100000 in
theorem w_X5_no {x1 : Int32} (C0 : Cx p s m args c cX5_no 2 RX5 D cy) (hr : meth.sig.returnType = (some .int)) (hk : meth.locks = false) {res : Int32 × Gs} (hl : lv_has ls 2 [(0, .ref (sb 13)), (1, .int x1)]) (M : Ws D b0 cy sb db g s H locs) (h : m_X5_no x1 g = some res) : W p l e ({ frames := 0, cells := 0, slots := 0, locals := 0 } : Room) s m args below meth c H locs 0 0 (MQ below (QX (some (.int res.1)) D b0 cy sb db res.2) args s 0 0 (fun q => b0 ≤ q)) (F0 m 0 ls []) := by
  obtain ⟨hx, hb, hml, hown, hts, hK⟩ := id C0
  rw [m_X5_no] at h
  refine lv_aload_n hx hb dX5_no_0 rfl (lv_at hl 0 rfl) ?_
  refine lv_iload_n hx hb dX5_no_1 rfl (lv_at hl 1 rfl) ?_
  obtain ⟨g_1, hg_2, h⟩ := lett_s h
  refine pf_RX5_65 C0 M hg_2 dX5_no_2 (fun H locs M => ?_)
  refine lv_iconst (v := 0) hx hb dX5_no_5 (by decide) ?_
  obtain rfl := Option.some.inj h
  exact rt_i C0 M hr hk dX5_no_6
theorem k_X5_no {x1 : Int32} {res : Int32 × Gs} (h : m_X5_no x1 g = some res) : CM l yX5_no cX5_no 2 (some .int) ({ frames := 0, cells := 0, slots := 0, locals := 0 } : Room) [.ref (sb 13), .int x1] (some (.int res.1)) D b0 cy sb db g res.2 := by
  refine Met.ofW (cc := cX5_no) (maxL := 2) (ret := (some .int)) (by decide) rfl ?_
  intro p e s m args below meth c s₁ B hml hv
  obtain ⟨rfl, hW, hK⟩ := hv
  have hl := lv_entry [.ref (sb 13), .int x1] (n := 2) (Nat.le_of_ble_eq_true rfl)
  rw [lg_entry_eq]
  generalize (lg_sl [.ref (sb 13), .int x1] ++ List.replicate (2 - (lg_sl [.ref (sb 13), .int x1]).length) Slot.unset).toArray = ls at hl ⊢
  have hl : lv_has ls 2 [(0, .ref (sb 13)), (1, .int x1)] := hl
  exact w_X5_no ⟨B.exec, B.bytes, hml, findClass_of_methodNamed B.named, fun w hw => atoms_spec (ws := Cond.code yX5_no cX5_no 2 (some .int) :: wsL_law) B.pre w (List.mem_cons_of_mem _ hw), hK⟩ B.returns B.notSynchronized hl ⟨hW, va_S.rf⟩ h
theorem Y_X5_no : Yv yX5_no RX5 cX5_no 2 (some .int) 1 := ⟨⟨kw_6_11, kw_1_5, by decide +kernel, by decide +kernel, by decide +kernel⟩, kw_6_9, kw_6_10⟩
-- X5_noItem
def m_X5_noItem (x1 : Int32) (g : Gs) : Option (Int32 × Gs) :=
  lett (sI g 21 0 0 x1) fun g_1 => (m_X5_no (3 : Int32) g_1).bind fun (x_4, g_5) => some (x_4, g_5)
set_option maxHeartbeats 4000000 in
set_option maxRecDepth 100000 in
theorem w_X5_noItem {x1 : Int32} (C0 : Cx p s m args c cX5_noItem 2 RX5 D cy) (hr : meth.sig.returnType = (some .int)) (hk : meth.locks = false) {res : Int32 × Gs} (hl : lv_has ls 2 [(0, .ref (sb 13)), (1, .int x1)]) (M : Ws D b0 cy sb db g s H locs) (h : m_X5_noItem x1 g = some res) : W p l e ({ frames := 1, cells := 0, slots := 0, locals := 21 } : Room) s m args below meth c H locs 0 0 (MQ below (QX (some (.int res.1)) D b0 cy sb db res.2) args s 0 0 (fun q => b0 ≤ q)) (F0 m 0 ls []) := by
  obtain ⟨hx, hb, hml, hown, hts, hK⟩ := id C0
  rw [m_X5_noItem] at h
  refine lv_aload_n hx hb dX5_noItem_0 rfl (lv_at hl 0 rfl) ?_
  refine lv_iload_n hx hb dX5_noItem_1 rfl (lv_at hl 1 rfl) ?_
  obtain ⟨g_1, hg_2, h⟩ := lett_s h
  refine pf_RX5_9 C0 M hg_2 dX5_noItem_2 (fun H locs M => ?_)
  refine lv_aload_n hx hb dX5_noItem_5 rfl (lv_at hl 0 rfl) ?_
  refine lv_iconst (v := 3) hx hb dX5_noItem_6 (by decide) ?_
  obtain ⟨⟨x_4, g_5⟩, hc_3, h⟩ := bnd_s h
  try dsimp only at h
  refine kV (As := [.int (3 : Int32)]) (rest := []) (stk := [.int x_4]) (val := (some (.int x_4))) (c1 := 0) (s1 := 0) C0 M (k_X5_no hc_3) kw_6_8 Y_X5_no (rv_X5 C0 M) ⟨Nat.le_of_ble_eq_true rfl, Nat.le_of_ble_eq_true rfl⟩ rfl hl.1 rfl (Nat.le_of_ble_eq_true rfl) dX5_noItem_7 rfl rfl ⟨Nat.le_refl _, Nat.le_refl _⟩ rfl (fun H locs M => ?_)
  obtain rfl := Option.some.inj h
  exact rt_i C0 M hr hk dX5_noItem_10
theorem k_X5_noItem {x1 : Int32} {res : Int32 × Gs} (h : m_X5_noItem x1 g = some res) : CM l yX5_noItem cX5_noItem 2 (some .int) ({ frames := 1, cells := 0, slots := 0, locals := 21 } : Room) [.ref (sb 13), .int x1] (some (.int res.1)) D b0 cy sb db g res.2 := by
  refine Met.ofW (cc := cX5_noItem) (maxL := 2) (ret := (some .int)) (by decide) rfl ?_
  intro p e s m args below meth c s₁ B hml hv
  obtain ⟨rfl, hW, hK⟩ := hv
  have hl := lv_entry [.ref (sb 13), .int x1] (n := 2) (Nat.le_of_ble_eq_true rfl)
  rw [lg_entry_eq]
  generalize (lg_sl [.ref (sb 13), .int x1] ++ List.replicate (2 - (lg_sl [.ref (sb 13), .int x1]).length) Slot.unset).toArray = ls at hl ⊢
  have hl : lv_has ls 2 [(0, .ref (sb 13)), (1, .int x1)] := hl
  exact w_X5_noItem ⟨B.exec, B.bytes, hml, findClass_of_methodNamed B.named, fun w hw => atoms_spec (ws := Cond.code yX5_noItem cX5_noItem 2 (some .int) :: wsL_law) B.pre w (List.mem_cons_of_mem _ hw), hK⟩ B.returns B.notSynchronized hl ⟨hW, va_S.rf⟩ h
theorem Y_X5_noItem : Yv yX5_noItem RX5 cX5_noItem 2 (some .int) 1 := ⟨⟨kw_18_0, kw_1_5, by decide +kernel, by decide +kernel, by decide +kernel⟩, kw_17_22, kw_17_23⟩
-- X5_yes
def m_X5_yes (x1 : Int32) (g : Gs) : Option (Int32 × Gs) :=
  lett (sI g 20 0 0 (0 : Int32)) fun g_1 => some (x1, g_1)
set_option maxHeartbeats 4000000 in
set_option maxRecDepth 100000 in
theorem w_X5_yes {x1 : Int32} (C0 : Cx p s m args c cX5_yes 2 RX5 D cy) (hr : meth.sig.returnType = (some .int)) (hk : meth.locks = false) {res : Int32 × Gs} (hl : lv_has ls 2 [(0, .ref (sb 13)), (1, .int x1)]) (M : Ws D b0 cy sb db g s H locs) (h : m_X5_yes x1 g = some res) : W p l e ({ frames := 0, cells := 0, slots := 0, locals := 0 } : Room) s m args below meth c H locs 0 0 (MQ below (QX (some (.int res.1)) D b0 cy sb db res.2) args s 0 0 (fun q => b0 ≤ q)) (F0 m 0 ls []) := by
  obtain ⟨hx, hb, hml, hown, hts, hK⟩ := id C0
  rw [m_X5_yes] at h
  refine lv_aload_n hx hb dX5_yes_0 rfl (lv_at hl 0 rfl) ?_
  refine lv_iconst (v := 0) hx hb dX5_yes_1 (by decide) ?_
  obtain ⟨g_1, hg_2, h⟩ := lett_s h
  refine pf_RX5_65 C0 M hg_2 dX5_yes_2 (fun H locs M => ?_)
  refine lv_iload_n hx hb dX5_yes_5 rfl (lv_at hl 1 rfl) ?_
  obtain rfl := Option.some.inj h
  exact rt_i C0 M hr hk dX5_yes_6
theorem k_X5_yes {x1 : Int32} {res : Int32 × Gs} (h : m_X5_yes x1 g = some res) : CM l yX5_yes cX5_yes 2 (some .int) ({ frames := 0, cells := 0, slots := 0, locals := 0 } : Room) [.ref (sb 13), .int x1] (some (.int res.1)) D b0 cy sb db g res.2 := by
  refine Met.ofW (cc := cX5_yes) (maxL := 2) (ret := (some .int)) (by decide) rfl ?_
  intro p e s m args below meth c s₁ B hml hv
  obtain ⟨rfl, hW, hK⟩ := hv
  have hl := lv_entry [.ref (sb 13), .int x1] (n := 2) (Nat.le_of_ble_eq_true rfl)
  rw [lg_entry_eq]
  generalize (lg_sl [.ref (sb 13), .int x1] ++ List.replicate (2 - (lg_sl [.ref (sb 13), .int x1]).length) Slot.unset).toArray = ls at hl ⊢
  have hl : lv_has ls 2 [(0, .ref (sb 13)), (1, .int x1)] := hl
  exact w_X5_yes ⟨B.exec, B.bytes, hml, findClass_of_methodNamed B.named, fun w hw => atoms_spec (ws := Cond.code yX5_yes cX5_yes 2 (some .int) :: wsL_law) B.pre w (List.mem_cons_of_mem _ hw), hK⟩ B.returns B.notSynchronized hl ⟨hW, va_S.rf⟩ h
theorem Y_X5_yes : Yv yX5_yes RX5 cX5_yes 2 (some .int) 1 := ⟨⟨kw_6_15, kw_1_5, by decide +kernel, by decide +kernel, by decide +kernel⟩, kw_6_13, kw_6_14⟩
-- X5_range
def m_X5_range (x1 : Int32) (x2 : Int32) (g : Gs) : Option (Int32 × Gs) :=
  if (g.1 22 0 0) = (3 : Int32) then ((m_X5_no (8 : Int32) g).bind fun (x_14, g_15) => some (x_14, g_15)) else (chk (inb (g.1 22 0 0) 3) (lett (sI g 23 0 (g.1 22 0 0).toNatClampNeg x1) fun g_3 => chk (inb (g_3.1 22 0 0) 3) (lett (sI g_3 24 0 (g_3.1 22 0 0).toNatClampNeg x2) fun g_6 => lett (sI g_6 22 0 0 ((g_6.1 22 0 0) + (1 : Int32))) fun g_8 => (m_X5_yes (g_8.1 22 0 0) g_8).bind fun (x_11, g_12) => some (x_11, g_12))))
set_option maxHeartbeats 4000000 in
set_option maxRecDepth 100000 in
theorem w_X5_range {x1 : Int32} {x2 : Int32} (C0 : Cx p s m args c cX5_range 3 RX5 D cy) (hr : meth.sig.returnType = (some .int)) (hk : meth.locks = false) {res : Int32 × Gs} (hl : lv_has ls 3 [(0, .ref (sb 13)), (1, .int x1), (2, .int x2)]) (M : Ws D b0 cy sb db g s H locs) (h : m_X5_range x1 x2 g = some res) : W p l e ({ frames := 1, cells := 0, slots := 0, locals := 21 } : Room) s m args below meth c H locs 0 0 (MQ below (QX (some (.int res.1)) D b0 cy sb db res.2) args s 0 0 (fun q => b0 ≤ q)) (F0 m 0 ls []) := by
  obtain ⟨hx, hb, hml, hown, hts, hK⟩ := id C0
  rw [m_X5_range] at h
  refine lv_aload_n hx hb dX5_range_0 rfl (lv_at hl 0 rfl) ?_
  refine gf_RX5_72 C0 M dX5_range_1 ?_
  refine lv_iconst (v := 3) hx hb dX5_range_4 (by decide) ?_
  refine lv_icmp_ne (tgt := 15) hx hb dX5_range_5 (by decide) (fun c_1 => ?_) (fun c_1 => ?_)
  · rw [if_neg c_1] at h
    refine lv_aload_n hx hb dX5_range_15 rfl (lv_at hl 0 rfl) ?_
    refine gf_RX5_13 C0 M dX5_range_16 ?_
    refine lv_aload_n hx hb dX5_range_19 rfl (lv_at hl 0 rfl) ?_
    refine gf_RX5_72 C0 M dX5_range_20 ?_
    refine lv_iload_n hx hb dX5_range_23 rfl (lv_at hl 1 rfl) ?_
    obtain ⟨hi_2, h⟩ := chk_s h
    obtain ⟨g_3, hg_4, h⟩ := lett_s h
    refine as_Mlow C0 M hi_2 hg_4 dX5_range_24 (fun H locs M => ?_)
    refine lv_aload_n hx hb dX5_range_25 rfl (lv_at hl 0 rfl) ?_
    refine gf_RX5_17 C0 M dX5_range_26 ?_
    refine lv_aload_n hx hb dX5_range_29 rfl (lv_at hl 0 rfl) ?_
    refine gf_RX5_72 C0 M dX5_range_30 ?_
    refine lv_iload_n hx hb dX5_range_33 rfl (lv_at hl 2 rfl) ?_
    obtain ⟨hi_5, h⟩ := chk_s h
    obtain ⟨g_6, hg_7, h⟩ := lett_s h
    refine as_Mhigh C0 M hi_5 hg_7 dX5_range_34 (fun H locs M => ?_)
    refine lv_aload_n hx hb dX5_range_35 rfl (lv_at hl 0 rfl) ?_
    refine lv_dup hx hb dX5_range_36 rfl ?_
    refine gf_RX5_72 C0 M dX5_range_37 ?_
    refine lv_iconst (v := 1) hx hb dX5_range_40 (by decide) ?_
    refine lv_iadd hx hb dX5_range_41 ?_
    obtain ⟨g_8, hg_9, h⟩ := lett_s h
    refine pf_RX5_72 C0 M hg_9 dX5_range_42 (fun H locs M => ?_)
    refine lv_aload_n hx hb dX5_range_45 rfl (lv_at hl 0 rfl) ?_
    refine lv_aload_n hx hb dX5_range_46 rfl (lv_at hl 0 rfl) ?_
    refine gf_RX5_72 C0 M dX5_range_47 ?_
    obtain ⟨⟨x_11, g_12⟩, hc_10, h⟩ := bnd_s h
    try dsimp only at h
    refine kV (As := [.int (g_8.1 22 0 0)]) (rest := []) (stk := [.int x_11]) (val := (some (.int x_11))) (c1 := 0) (s1 := 0) C0 M (k_X5_yes hc_10) kw_6_12 Y_X5_yes (rv_X5 C0 M) ⟨Nat.le_of_ble_eq_true rfl, Nat.le_of_ble_eq_true rfl⟩ rfl hl.1 rfl (Nat.le_of_ble_eq_true rfl) dX5_range_50 rfl rfl ⟨Nat.le_refl _, Nat.le_refl _⟩ rfl (fun H locs M => ?_)
    obtain rfl := Option.some.inj h
    exact rt_i C0 M hr hk dX5_range_53
  · rw [if_pos c_1] at h
    refine lv_aload_n hx hb dX5_range_8 rfl (lv_at hl 0 rfl) ?_
    refine lv_bipush (v := 8) hx hb dX5_range_9 (by decide) ?_
    obtain ⟨⟨x_14, g_15⟩, hc_13, h⟩ := bnd_s h
    try dsimp only at h
    refine kV (As := [.int (8 : Int32)]) (rest := []) (stk := [.int x_14]) (val := (some (.int x_14))) (c1 := 0) (s1 := 0) C0 M (k_X5_no hc_13) kw_6_8 Y_X5_no (rv_X5 C0 M) ⟨Nat.le_of_ble_eq_true rfl, Nat.le_of_ble_eq_true rfl⟩ rfl hl.1 rfl (Nat.le_of_ble_eq_true rfl) dX5_range_11 rfl rfl ⟨Nat.le_refl _, Nat.le_refl _⟩ rfl (fun H locs M => ?_)
    obtain rfl := Option.some.inj h
    exact rt_i C0 M hr hk dX5_range_14
theorem k_X5_range {x1 : Int32} {x2 : Int32} {res : Int32 × Gs} (h : m_X5_range x1 x2 g = some res) : CM l yX5_range cX5_range 3 (some .int) ({ frames := 1, cells := 0, slots := 0, locals := 21 } : Room) [.ref (sb 13), .int x1, .int x2] (some (.int res.1)) D b0 cy sb db g res.2 := by
  refine Met.ofW (cc := cX5_range) (maxL := 3) (ret := (some .int)) (by decide) rfl ?_
  intro p e s m args below meth c s₁ B hml hv
  obtain ⟨rfl, hW, hK⟩ := hv
  have hl := lv_entry [.ref (sb 13), .int x1, .int x2] (n := 3) (Nat.le_of_ble_eq_true rfl)
  rw [lg_entry_eq]
  generalize (lg_sl [.ref (sb 13), .int x1, .int x2] ++ List.replicate (3 - (lg_sl [.ref (sb 13), .int x1, .int x2]).length) Slot.unset).toArray = ls at hl ⊢
  have hl : lv_has ls 3 [(0, .ref (sb 13)), (1, .int x1), (2, .int x2)] := hl
  exact w_X5_range ⟨B.exec, B.bytes, hml, findClass_of_methodNamed B.named, fun w hw => atoms_spec (ws := Cond.code yX5_range cX5_range 3 (some .int) :: wsL_law) B.pre w (List.mem_cons_of_mem _ hw), hK⟩ B.returns B.notSynchronized hl ⟨hW, va_S.rf⟩ h
theorem Y_X5_range : Yv yX5_range RX5 cX5_range 3 (some .int) 2 := ⟨⟨kw_6_6, kw_1_5, by decide +kernel, by decide +kernel, by decide +kernel⟩, kw_6_4, kw_6_5⟩
-- X5_shapeless
def m_X5_shapeless  (g : Gs) : Option (Int32 × Gs) :=
  lett (g.1 22 0 0) fun x_1 => lett (sI g 22 0 0 (0 : Int32)) fun g_3 => (m_X5_yes x_1 g_3).bind fun (x_6, g_7) => some (x_6, g_7)
set_option maxHeartbeats 4000000 in
set_option maxRecDepth 100000 in
theorem w_X5_shapeless  (C0 : Cx p s m args c cX5_shapeless 2 RX5 D cy) (hr : meth.sig.returnType = (some .int)) (hk : meth.locks = false) {res : Int32 × Gs} (hl : lv_has ls 2 [(0, .ref (sb 13))]) (M : Ws D b0 cy sb db g s H locs) (h : m_X5_shapeless  g = some res) : W p l e ({ frames := 1, cells := 0, slots := 0, locals := 21 } : Room) s m args below meth c H locs 0 0 (MQ below (QX (some (.int res.1)) D b0 cy sb db res.2) args s 0 0 (fun q => b0 ≤ q)) (F0 m 0 ls []) := by
  obtain ⟨hx, hb, hml, hown, hts, hK⟩ := id C0
  rw [m_X5_shapeless] at h
  refine lv_aload_n hx hb dX5_shapeless_0 rfl (lv_at hl 0 rfl) ?_
  refine gf_RX5_72 C0 M dX5_shapeless_1 ?_
  obtain ⟨x_1, hn_2, h⟩ := lett_s h
  refine nm_i hn_2 ?_
  refine lv_istore_n (lv' := [(1, .int x_1), (0, .ref (sb 13))]) hx hb dX5_shapeless_4 rfl hl (by decide) rfl (fun ls hl => ?_)
  refine lv_aload_n hx hb dX5_shapeless_5 rfl (lv_at hl 1 rfl) ?_
  refine lv_iconst (v := 0) hx hb dX5_shapeless_6 (by decide) ?_
  obtain ⟨g_3, hg_4, h⟩ := lett_s h
  refine pf_RX5_72 C0 M hg_4 dX5_shapeless_7 (fun H locs M => ?_)
  refine lv_aload_n hx hb dX5_shapeless_10 rfl (lv_at hl 1 rfl) ?_
  refine lv_iload_n hx hb dX5_shapeless_11 rfl (lv_at hl 0 rfl) ?_
  obtain ⟨⟨x_6, g_7⟩, hc_5, h⟩ := bnd_s h
  try dsimp only at h
  refine kV (As := [.int x_1]) (rest := []) (stk := [.int x_6]) (val := (some (.int x_6))) (c1 := 0) (s1 := 0) C0 M (k_X5_yes hc_5) kw_6_12 Y_X5_yes (rv_X5 C0 M) ⟨Nat.le_of_ble_eq_true rfl, Nat.le_of_ble_eq_true rfl⟩ rfl hl.1 rfl (Nat.le_of_ble_eq_true rfl) dX5_shapeless_12 rfl rfl ⟨Nat.le_refl _, Nat.le_refl _⟩ rfl (fun H locs M => ?_)
  obtain rfl := Option.some.inj h
  exact rt_i C0 M hr hk dX5_shapeless_15
theorem k_X5_shapeless  {res : Int32 × Gs} (h : m_X5_shapeless  g = some res) : CM l yX5_shapeless cX5_shapeless 2 (some .int) ({ frames := 1, cells := 0, slots := 0, locals := 21 } : Room) [.ref (sb 13)] (some (.int res.1)) D b0 cy sb db g res.2 := by
  refine Met.ofW (cc := cX5_shapeless) (maxL := 2) (ret := (some .int)) (by decide) rfl ?_
  intro p e s m args below meth c s₁ B hml hv
  obtain ⟨rfl, hW, hK⟩ := hv
  have hl := lv_entry [.ref (sb 13)] (n := 2) (Nat.le_of_ble_eq_true rfl)
  rw [lg_entry_eq]
  generalize (lg_sl [.ref (sb 13)] ++ List.replicate (2 - (lg_sl [.ref (sb 13)]).length) Slot.unset).toArray = ls at hl ⊢
  have hl : lv_has ls 2 [(0, .ref (sb 13))] := hl
  exact w_X5_shapeless ⟨B.exec, B.bytes, hml, findClass_of_methodNamed B.named, fun w hw => atoms_spec (ws := Cond.code yX5_shapeless cX5_shapeless 2 (some .int) :: wsL_law) B.pre w (List.mem_cons_of_mem _ hw), hK⟩ B.returns B.notSynchronized hl ⟨hW, va_S.rf⟩ h
theorem Y_X5_shapeless : Yv yX5_shapeless RX5 cX5_shapeless 2 (some .int) 0 := ⟨⟨kw_6_23, kw_1_5, by decide +kernel, by decide +kernel, by decide +kernel⟩, kw_6_21, kw_6_22⟩
-- X5_length
def m_X5_length_J19 (ys0 : Int64) (g : Gs) : Option (Int64) :=
  some ys0
def m_X5_length (x0 : Int32) (x1 : Int32) (g : Gs) : Option (Int64) :=
  lett ((x1.toInt64 - x0.toInt64) + (1 : Int64)) fun y_1 => if 0 ≤ (lg_cmp y_1 (0 : Int64)) then (m_X5_length_J19 y_1 g) else (m_X5_length_J19 (0 : Int64) g)
set_option maxHeartbeats 4000000 in
set_option maxRecDepth 100000 in
theorem w_X5_length_J19 {ys0 : Int64} (C0 : Cx p s m args c cX5_length 4 RX5 D cy) (hr : meth.sig.returnType = (some .long)) (hk : meth.locks = false) {res : Int64} (hl : lv_has ls 4 []) (M : Ws D b0 cy sb db g s H locs) (h : m_X5_length_J19 ys0 g = some res) : W p l e ({ frames := 0, cells := 0, slots := 0, locals := 0 } : Room) s m args below meth c H locs 0 0 (MQ below (QX (some (.long res)) D b0 cy sb db g) args s 0 0 (fun q => b0 ≤ q)) (F0 m 19 ls [.long ys0]) := by
  obtain ⟨hx, hb, hml, hown, hts, hK⟩ := id C0
  rw [m_X5_length_J19] at h
  obtain rfl := Option.some.inj h
  exact rt_l C0 M hr hk dX5_length_19
set_option maxHeartbeats 4000000 in
set_option maxRecDepth 100000 in
theorem w_X5_length {x0 : Int32} {x1 : Int32} (C0 : Cx p s m args c cX5_length 4 RX5 D cy) (hr : meth.sig.returnType = (some .long)) (hk : meth.locks = false) {res : Int64} (hl : lv_has ls 4 [(0, .int x0), (1, .int x1)]) (M : Ws D b0 cy sb db g s H locs) (h : m_X5_length x0 x1 g = some res) : W p l e ({ frames := 0, cells := 0, slots := 0, locals := 0 } : Room) s m args below meth c H locs 0 0 (MQ below (QX (some (.long res)) D b0 cy sb db g) args s 0 0 (fun q => b0 ≤ q)) (F0 m 0 ls []) := by
  obtain ⟨hx, hb, hml, hown, hts, hK⟩ := id C0
  rw [m_X5_length] at h
  refine lv_iload_n hx hb dX5_length_0 rfl (lv_at hl 1 rfl) ?_
  refine lv_i2l hx hb dX5_length_1 rfl ?_
  refine lv_iload_n hx hb dX5_length_2 rfl (lv_at hl 0 rfl) ?_
  refine lv_i2l hx hb dX5_length_3 rfl ?_
  refine lv_lsub hx hb dX5_length_4 ?_
  refine lv_lconst (v := 1) hx hb dX5_length_5 (by decide) ?_
  refine lv_ladd hx hb dX5_length_6 ?_
  obtain ⟨y_1, hn_2, h⟩ := lett_s h
  refine nm_l hn_2 ?_
  refine lv_lstore_n (lv' := [(2, .long y_1), (0, .int x0), (1, .int x1)]) hx hb dX5_length_7 rfl hl (by decide) rfl (fun ls hl => ?_)
  refine lv_lload_n hx hb dX5_length_8 rfl (lv_at hl 0 rfl) ?_
  refine lv_lconst (v := 0) hx hb dX5_length_9 (by decide) ?_
  refine W.lcmp hx hb dX5_length_10 ?_
  refine lv_if_ge (tgt := 18) hx hb dX5_length_11 (by decide) (fun c_3 => ?_) (fun c_3 => ?_)
  · rw [if_pos c_3] at h
    refine lv_lload_n hx hb dX5_length_18 rfl (lv_at hl 0 rfl) ?_
    exact w_X5_length_J19 C0 hr hk (lv_sub hl [] rfl) M h
  · rw [if_neg c_3] at h
    refine lv_lconst (v := 0) hx hb dX5_length_14 (by decide) ?_
    refine lv_goto (tgt := 19) hx hb dX5_length_15 (by decide) ?_
    exact w_X5_length_J19 C0 hr hk (lv_sub hl [] rfl) M h
theorem k_X5_length {x0 : Int32} {x1 : Int32} {res : Int64} (h : m_X5_length x0 x1 g = some res) : CM l yX5_length cX5_length 4 (some .long) ({ frames := 0, cells := 0, slots := 0, locals := 0 } : Room) [.int x0, .int x1] (some (.long res)) D b0 cy sb db g g := by
  refine Met.ofW (cc := cX5_length) (maxL := 4) (ret := (some .long)) (by decide) rfl ?_
  intro p e s m args below meth c s₁ B hml hv
  obtain ⟨rfl, hW, hK⟩ := hv
  have hl := lv_entry [.int x0, .int x1] (n := 4) (Nat.le_of_ble_eq_true rfl)
  rw [lg_entry_eq]
  generalize (lg_sl [.int x0, .int x1] ++ List.replicate (4 - (lg_sl [.int x0, .int x1]).length) Slot.unset).toArray = ls at hl ⊢
  have hl : lv_has ls 4 [(0, .int x0), (1, .int x1)] := hl
  exact w_X5_length ⟨B.exec, B.bytes, hml, findClass_of_methodNamed B.named, fun w hw => atoms_spec (ws := Cond.code yX5_length cX5_length 4 (some .long) :: wsL_law) B.pre w (List.mem_cons_of_mem _ hw), hK⟩ B.returns B.notSynchronized hl ⟨hW, va_S.rf⟩ h
theorem Y_X5_length : Ys yX5_length cX5_length 4 (some .long) 2 := ⟨⟨kw_12_8, kw_1_5, by decide +kernel, by decide +kernel, by decide +kernel⟩, kw_12_7⟩
-- X5_shapeItems
def m_X5_shapeItems_L7 (g : Gs) : Nat → Int32 → Int64 → Int32 → Option (Int32 × Int64)
  | 0, _, _, _ => none
  | fu + 1, x1, y2, x4 =>
  if (g.1 22 0 0) ≤ x4 then (some (x1, y2)) else (chk (inb x4 3) (chk (inb x4 3) ((m_X5_length (g.1 23 0 x4.toNatClampNeg) (g.1 24 0 x4.toNatClampNeg) g).bind fun y_11 => if x1 = 0 then (if (lg_cmp y_11 (0 : Int64)) = 0 then (lett (1 : Int32) fun x_36 => lett (y2 * y_11) fun y_38 => if (lg_cmp y_38 (500 : Int64)) ≤ 0 then (lett (x4 + 1) fun x_41 => m_X5_shapeItems_L7 g fu x_36 y_38 x_41) else (lett (501 : Int64) fun y_43 => lett (x4 + 1) fun x_45 => m_X5_shapeItems_L7 g fu x_36 y_43 x_45)) else (lett (0 : Int32) fun x_25 => lett (y2 * y_11) fun y_27 => if (lg_cmp y_27 (500 : Int64)) ≤ 0 then (lett (x4 + 1) fun x_30 => m_X5_shapeItems_L7 g fu x_25 y_27 x_30) else (lett (501 : Int64) fun y_32 => lett (x4 + 1) fun x_34 => m_X5_shapeItems_L7 g fu x_25 y_32 x_34))) else (lett (1 : Int32) fun x_13 => lett (y2 * y_11) fun y_15 => if (lg_cmp y_15 (500 : Int64)) ≤ 0 then (lett (x4 + 1) fun x_18 => m_X5_shapeItems_L7 g fu x_13 y_15 x_18) else (lett (501 : Int64) fun y_20 => lett (x4 + 1) fun x_22 => m_X5_shapeItems_L7 g fu x_13 y_20 x_22)))))
def m_X5_shapeItems_J89 (xs0 : Int32) (g : Gs) : Option (Int32) :=
  some xs0
def m_X5_shapeItems  (g : Gs) : Option (Int32) :=
  lett (0 : Int32) fun x_1 => lett (1 : Int64) fun y_3 => lett (0 : Int32) fun x_5 => (m_X5_shapeItems_L7 g FU x_1 y_3 x_5).bind fun (x_47, y_48) => if x_47 = 0 then (m_X5_shapeItems_J89 y_48.toInt32 g) else (m_X5_shapeItems_J89 (0 : Int32) g)
set_option maxHeartbeats 4000000 in
set_option maxRecDepth 100000 in
theorem w_X5_shapeItems_L7  (C0 : Cx p s m args c cX5_shapeItems 7 RX5 D cy) (hr : meth.sig.returnType = (some .int)) (hk : meth.locks = false) {res : Int32} {q : Int32 × Int64} (kk : ∀ (x1 : Int32) (y2 : Int64) (H : Heap) (locs : List Loc) (ls : Array Slot), q = (x1, y2) → lv_has ls 7 [(1, .int x1), (2, .long y2)] → Ws D b0 cy sb db g s H locs → W p l e ({ frames := 1, cells := 0, slots := 0, locals := 23 } : Room) s m args below meth c H locs 0 0 (MQ below (QX (some (.int res)) D b0 cy sb db g) args s 0 0 (fun q => b0 ≤ q)) (F0 m 79 ls [])) : ∀ (fu : Nat) (x1 : Int32) (y2 : Int64) (x4 : Int32) (H : Heap) (locs : List Loc) (ls : Array Slot), lv_has ls 7 [(0, .ref (sb 13)), (1, .int x1), (2, .long y2), (4, .int x4)] → Ws D b0 cy sb db g s H locs → m_X5_shapeItems_L7 g fu x1 y2 x4 = some q → W p l e ({ frames := 1, cells := 0, slots := 0, locals := 23 } : Room) s m args below meth c H locs 0 0 (MQ below (QX (some (.int res)) D b0 cy sb db g) args s 0 0 (fun q => b0 ≤ q)) (F0 m 7 ls []) := by
  obtain ⟨hx, hb, hml, hown, hts, hK⟩ := id C0
  intro fu
  induction fu with
  | zero =>
    intro x1 y2 x4 H locs ls hl M h
    cases h
  | succ fu ih =>
    intro x1 y2 x4 H locs ls hl M h
    rw [m_X5_shapeItems_L7] at h
    refine lv_iload hx hb dX5_shapeItems_7 (lv_at hl 3 rfl) ?_
    refine lv_aload_n hx hb dX5_shapeItems_9 rfl (lv_at hl 0 rfl) ?_
    refine gf_RX5_72 C0 M dX5_shapeItems_10 ?_
    refine lv_icmp_ge (tgt := 79) hx hb dX5_shapeItems_13 (by decide) (fun c_7 => ?_) (fun c_7 => ?_)
    · rw [if_pos c_7] at h
      exact kk _ _ _ _ _ (Option.some.inj h).symm (lv_sub hl [1, 2] rfl) M
    · rw [if_neg c_7] at h
      refine lv_aload_n hx hb dX5_shapeItems_16 rfl (lv_at hl 0 rfl) ?_
      refine gf_RX5_13 C0 M dX5_shapeItems_17 ?_
      refine lv_iload hx hb dX5_shapeItems_20 (lv_at hl 3 rfl) ?_
      obtain ⟨hi_8, h⟩ := chk_s h
      refine al_Mlow C0 M hi_8 dX5_shapeItems_22 ?_
      refine lv_aload_n hx hb dX5_shapeItems_23 rfl (lv_at hl 0 rfl) ?_
      refine gf_RX5_17 C0 M dX5_shapeItems_24 ?_
      refine lv_iload hx hb dX5_shapeItems_27 (lv_at hl 3 rfl) ?_
      obtain ⟨hi_9, h⟩ := chk_s h
      refine al_Mhigh C0 M hi_9 dX5_shapeItems_29 ?_
      obtain ⟨y_11, hc_10, h⟩ := bnd_s h
      refine kS (As := [.int (g.1 23 0 x4.toNatClampNeg), .int (g.1 24 0 x4.toNatClampNeg)]) (rest := []) (stk := [.long y_11]) (val := (some (.long y_11))) (c1 := 0) (s1 := 0) C0 M (k_X5_length hc_10) kw_12_6 Y_X5_length ⟨Nat.le_of_ble_eq_true rfl, Nat.le_of_ble_eq_true rfl⟩ rfl hl.1 rfl (Nat.le_of_ble_eq_true rfl) dX5_shapeItems_30 rfl rfl ⟨Nat.le_refl _, Nat.le_refl _⟩ rfl (fun H locs M => ?_)
      refine lv_lstore (lv' := [(5, .long y_11), (0, .ref (sb 13)), (1, .int x1), (2, .long y2), (4, .int x4)]) hx hb dX5_shapeItems_33 hl (by decide) rfl (fun ls hl => ?_)
      refine lv_iload_n hx hb dX5_shapeItems_35 rfl (lv_at hl 2 rfl) ?_
      refine lv_if_ne (tgt := 46) hx hb dX5_shapeItems_36 (by decide) (fun c_12 => ?_) (fun c_12 => ?_)
      · rw [if_neg c_12] at h
        refine lv_iconst (v := 1) hx hb dX5_shapeItems_46 (by decide) ?_
        refine lv_goto (tgt := 51) hx hb dX5_shapeItems_47 (by decide) ?_
        obtain ⟨x_13, hn_14, h⟩ := lett_s h
        refine nm_i hn_14 ?_
        refine lv_istore_n (lv' := [(1, .int x_13), (5, .long y_11), (0, .ref (sb 13)), (2, .long y2), (4, .int x4)]) hx hb dX5_shapeItems_51 rfl hl (by decide) rfl (fun ls hl => ?_)
        refine lv_lload_n hx hb dX5_shapeItems_52 rfl (lv_at hl 3 rfl) ?_
        refine lv_lload hx hb dX5_shapeItems_53 (lv_at hl 1 rfl) ?_
        refine lv_lmul hx hb dX5_shapeItems_55 ?_
        obtain ⟨y_15, hn_16, h⟩ := lett_s h
        refine nm_l hn_16 ?_
        refine lv_lstore_n (lv' := [(2, .long y_15), (1, .int x_13), (5, .long y_11), (0, .ref (sb 13)), (4, .int x4)]) hx hb dX5_shapeItems_56 rfl hl (by decide) rfl (fun ls hl => ?_)
        refine lv_lload_n hx hb dX5_shapeItems_57 rfl (lv_at hl 0 rfl) ?_
        refine lv_ldc2 (v := 500) hx hb hown (hts _ kw_11_20) dX5_shapeItems_58 ?_
        refine W.lcmp hx hb dX5_shapeItems_61 ?_
        refine lv_if_le (tgt := 71) hx hb dX5_shapeItems_62 (by decide) (fun c_17 => ?_) (fun c_17 => ?_)
        · rw [if_pos c_17] at h
          refine lv_lload_n hx hb dX5_shapeItems_71 rfl (lv_at hl 0 rfl) ?_
          refine lv_lstore_n (lv' := [(2, .long y_15), (1, .int x_13), (5, .long y_11), (0, .ref (sb 13)), (4, .int x4)]) hx hb dX5_shapeItems_72 rfl hl (by decide) rfl (fun ls hl => ?_)
          obtain ⟨x_18, hn_19, h⟩ := lett_s h
          refine lv_iinc (v := x_18) (lv' := [(4, .int x_18), (2, .long y_15), (1, .int x_13), (5, .long y_11), (0, .ref (sb 13))]) hx hb dX5_shapeItems_73 hl (k := 4) rfl (by rw [hn_19]; rfl) (by decide) rfl (fun ls hl => ?_)
          refine lv_goto (tgt := 7) hx hb dX5_shapeItems_76 (by decide) ?_
          exact ih _ _ _ _ _ _ (lv_sub hl [4, 2, 1, 0] rfl) M h
        · rw [if_neg c_17] at h
          refine lv_ldc2 (v := 501) hx hb hown (hts _ kw_12_5) dX5_shapeItems_65 ?_
          refine lv_goto (tgt := 72) hx hb dX5_shapeItems_68 (by decide) ?_
          obtain ⟨y_20, hn_21, h⟩ := lett_s h
          refine nm_l hn_21 ?_
          refine lv_lstore_n (lv' := [(2, .long y_20), (1, .int x_13), (5, .long y_11), (0, .ref (sb 13)), (4, .int x4)]) hx hb dX5_shapeItems_72 rfl hl (by decide) rfl (fun ls hl => ?_)
          obtain ⟨x_22, hn_23, h⟩ := lett_s h
          refine lv_iinc (v := x_22) (lv' := [(4, .int x_22), (2, .long y_20), (1, .int x_13), (5, .long y_11), (0, .ref (sb 13))]) hx hb dX5_shapeItems_73 hl (k := 4) rfl (by rw [hn_23]; rfl) (by decide) rfl (fun ls hl => ?_)
          refine lv_goto (tgt := 7) hx hb dX5_shapeItems_76 (by decide) ?_
          exact ih _ _ _ _ _ _ (lv_sub hl [4, 2, 1, 0] rfl) M h
      · rw [if_pos c_12] at h
        refine lv_lload hx hb dX5_shapeItems_39 (lv_at hl 0 rfl) ?_
        refine lv_lconst (v := 0) hx hb dX5_shapeItems_41 (by decide) ?_
        refine W.lcmp hx hb dX5_shapeItems_42 ?_
        refine lv_if_ne (tgt := 50) hx hb dX5_shapeItems_43 (by decide) (fun c_24 => ?_) (fun c_24 => ?_)
        · rw [if_neg c_24] at h
          refine lv_iconst (v := 0) hx hb dX5_shapeItems_50 (by decide) ?_
          obtain ⟨x_25, hn_26, h⟩ := lett_s h
          refine nm_i hn_26 ?_
          refine lv_istore_n (lv' := [(1, .int x_25), (5, .long y_11), (0, .ref (sb 13)), (2, .long y2), (4, .int x4)]) hx hb dX5_shapeItems_51 rfl hl (by decide) rfl (fun ls hl => ?_)
          refine lv_lload_n hx hb dX5_shapeItems_52 rfl (lv_at hl 3 rfl) ?_
          refine lv_lload hx hb dX5_shapeItems_53 (lv_at hl 1 rfl) ?_
          refine lv_lmul hx hb dX5_shapeItems_55 ?_
          obtain ⟨y_27, hn_28, h⟩ := lett_s h
          refine nm_l hn_28 ?_
          refine lv_lstore_n (lv' := [(2, .long y_27), (1, .int x_25), (5, .long y_11), (0, .ref (sb 13)), (4, .int x4)]) hx hb dX5_shapeItems_56 rfl hl (by decide) rfl (fun ls hl => ?_)
          refine lv_lload_n hx hb dX5_shapeItems_57 rfl (lv_at hl 0 rfl) ?_
          refine lv_ldc2 (v := 500) hx hb hown (hts _ kw_11_20) dX5_shapeItems_58 ?_
          refine W.lcmp hx hb dX5_shapeItems_61 ?_
          refine lv_if_le (tgt := 71) hx hb dX5_shapeItems_62 (by decide) (fun c_29 => ?_) (fun c_29 => ?_)
          · rw [if_pos c_29] at h
            refine lv_lload_n hx hb dX5_shapeItems_71 rfl (lv_at hl 0 rfl) ?_
            refine lv_lstore_n (lv' := [(2, .long y_27), (1, .int x_25), (5, .long y_11), (0, .ref (sb 13)), (4, .int x4)]) hx hb dX5_shapeItems_72 rfl hl (by decide) rfl (fun ls hl => ?_)
            obtain ⟨x_30, hn_31, h⟩ := lett_s h
            refine lv_iinc (v := x_30) (lv' := [(4, .int x_30), (2, .long y_27), (1, .int x_25), (5, .long y_11), (0, .ref (sb 13))]) hx hb dX5_shapeItems_73 hl (k := 4) rfl (by rw [hn_31]; rfl) (by decide) rfl (fun ls hl => ?_)
            refine lv_goto (tgt := 7) hx hb dX5_shapeItems_76 (by decide) ?_
            exact ih _ _ _ _ _ _ (lv_sub hl [4, 2, 1, 0] rfl) M h
          · rw [if_neg c_29] at h
            refine lv_ldc2 (v := 501) hx hb hown (hts _ kw_12_5) dX5_shapeItems_65 ?_
            refine lv_goto (tgt := 72) hx hb dX5_shapeItems_68 (by decide) ?_
            obtain ⟨y_32, hn_33, h⟩ := lett_s h
            refine nm_l hn_33 ?_
            refine lv_lstore_n (lv' := [(2, .long y_32), (1, .int x_25), (5, .long y_11), (0, .ref (sb 13)), (4, .int x4)]) hx hb dX5_shapeItems_72 rfl hl (by decide) rfl (fun ls hl => ?_)
            obtain ⟨x_34, hn_35, h⟩ := lett_s h
            refine lv_iinc (v := x_34) (lv' := [(4, .int x_34), (2, .long y_32), (1, .int x_25), (5, .long y_11), (0, .ref (sb 13))]) hx hb dX5_shapeItems_73 hl (k := 4) rfl (by rw [hn_35]; rfl) (by decide) rfl (fun ls hl => ?_)
            refine lv_goto (tgt := 7) hx hb dX5_shapeItems_76 (by decide) ?_
            exact ih _ _ _ _ _ _ (lv_sub hl [4, 2, 1, 0] rfl) M h
        · rw [if_pos c_24] at h
          refine lv_iconst (v := 1) hx hb dX5_shapeItems_46 (by decide) ?_
          refine lv_goto (tgt := 51) hx hb dX5_shapeItems_47 (by decide) ?_
          obtain ⟨x_36, hn_37, h⟩ := lett_s h
          refine nm_i hn_37 ?_
          refine lv_istore_n (lv' := [(1, .int x_36), (5, .long y_11), (0, .ref (sb 13)), (2, .long y2), (4, .int x4)]) hx hb dX5_shapeItems_51 rfl hl (by decide) rfl (fun ls hl => ?_)
          refine lv_lload_n hx hb dX5_shapeItems_52 rfl (lv_at hl 3 rfl) ?_
          refine lv_lload hx hb dX5_shapeItems_53 (lv_at hl 1 rfl) ?_
          refine lv_lmul hx hb dX5_shapeItems_55 ?_
          obtain ⟨y_38, hn_39, h⟩ := lett_s h
          refine nm_l hn_39 ?_
          refine lv_lstore_n (lv' := [(2, .long y_38), (1, .int x_36), (5, .long y_11), (0, .ref (sb 13)), (4, .int x4)]) hx hb dX5_shapeItems_56 rfl hl (by decide) rfl (fun ls hl => ?_)
          refine lv_lload_n hx hb dX5_shapeItems_57 rfl (lv_at hl 0 rfl) ?_
          refine lv_ldc2 (v := 500) hx hb hown (hts _ kw_11_20) dX5_shapeItems_58 ?_
          refine W.lcmp hx hb dX5_shapeItems_61 ?_
          refine lv_if_le (tgt := 71) hx hb dX5_shapeItems_62 (by decide) (fun c_40 => ?_) (fun c_40 => ?_)
          · rw [if_pos c_40] at h
            refine lv_lload_n hx hb dX5_shapeItems_71 rfl (lv_at hl 0 rfl) ?_
            refine lv_lstore_n (lv' := [(2, .long y_38), (1, .int x_36), (5, .long y_11), (0, .ref (sb 13)), (4, .int x4)]) hx hb dX5_shapeItems_72 rfl hl (by decide) rfl (fun ls hl => ?_)
            obtain ⟨x_41, hn_42, h⟩ := lett_s h
            refine lv_iinc (v := x_41) (lv' := [(4, .int x_41), (2, .long y_38), (1, .int x_36), (5, .long y_11), (0, .ref (sb 13))]) hx hb dX5_shapeItems_73 hl (k := 4) rfl (by rw [hn_42]; rfl) (by decide) rfl (fun ls hl => ?_)
            refine lv_goto (tgt := 7) hx hb dX5_shapeItems_76 (by decide) ?_
            exact ih _ _ _ _ _ _ (lv_sub hl [4, 2, 1, 0] rfl) M h
          · rw [if_neg c_40] at h
            refine lv_ldc2 (v := 501) hx hb hown (hts _ kw_12_5) dX5_shapeItems_65 ?_
            refine lv_goto (tgt := 72) hx hb dX5_shapeItems_68 (by decide) ?_
            obtain ⟨y_43, hn_44, h⟩ := lett_s h
            refine nm_l hn_44 ?_
            refine lv_lstore_n (lv' := [(2, .long y_43), (1, .int x_36), (5, .long y_11), (0, .ref (sb 13)), (4, .int x4)]) hx hb dX5_shapeItems_72 rfl hl (by decide) rfl (fun ls hl => ?_)
            obtain ⟨x_45, hn_46, h⟩ := lett_s h
            refine lv_iinc (v := x_45) (lv' := [(4, .int x_45), (2, .long y_43), (1, .int x_36), (5, .long y_11), (0, .ref (sb 13))]) hx hb dX5_shapeItems_73 hl (k := 4) rfl (by rw [hn_46]; rfl) (by decide) rfl (fun ls hl => ?_)
            refine lv_goto (tgt := 7) hx hb dX5_shapeItems_76 (by decide) ?_
            exact ih _ _ _ _ _ _ (lv_sub hl [4, 2, 1, 0] rfl) M h
set_option maxHeartbeats 4000000 in
set_option maxRecDepth 100000 in
theorem w_X5_shapeItems_J89 {xs0 : Int32} (C0 : Cx p s m args c cX5_shapeItems 7 RX5 D cy) (hr : meth.sig.returnType = (some .int)) (hk : meth.locks = false) {res : Int32} (hl : lv_has ls 7 []) (M : Ws D b0 cy sb db g s H locs) (h : m_X5_shapeItems_J89 xs0 g = some res) : W p l e ({ frames := 1, cells := 0, slots := 0, locals := 23 } : Room) s m args below meth c H locs 0 0 (MQ below (QX (some (.int res)) D b0 cy sb db g) args s 0 0 (fun q => b0 ≤ q)) (F0 m 89 ls [.int xs0]) := by
  obtain ⟨hx, hb, hml, hown, hts, hK⟩ := id C0
  rw [m_X5_shapeItems_J89] at h
  obtain rfl := Option.some.inj h
  exact rt_i C0 M hr hk dX5_shapeItems_89
set_option maxHeartbeats 4000000 in
set_option maxRecDepth 100000 in
theorem w_X5_shapeItems  (C0 : Cx p s m args c cX5_shapeItems 7 RX5 D cy) (hr : meth.sig.returnType = (some .int)) (hk : meth.locks = false) {res : Int32} (hl : lv_has ls 7 [(0, .ref (sb 13))]) (M : Ws D b0 cy sb db g s H locs) (h : m_X5_shapeItems  g = some res) : W p l e ({ frames := 1, cells := 0, slots := 0, locals := 23 } : Room) s m args below meth c H locs 0 0 (MQ below (QX (some (.int res)) D b0 cy sb db g) args s 0 0 (fun q => b0 ≤ q)) (F0 m 0 ls []) := by
  obtain ⟨hx, hb, hml, hown, hts, hK⟩ := id C0
  rw [m_X5_shapeItems] at h
  refine lv_iconst (v := 0) hx hb dX5_shapeItems_0 (by decide) ?_
  obtain ⟨x_1, hn_2, h⟩ := lett_s h
  refine nm_i hn_2 ?_
  refine lv_istore_n (lv' := [(1, .int x_1), (0, .ref (sb 13))]) hx hb dX5_shapeItems_1 rfl hl (by decide) rfl (fun ls hl => ?_)
  refine lv_lconst (v := 1) hx hb dX5_shapeItems_2 (by decide) ?_
  obtain ⟨y_3, hn_4, h⟩ := lett_s h
  refine nm_l hn_4 ?_
  refine lv_lstore_n (lv' := [(2, .long y_3), (1, .int x_1), (0, .ref (sb 13))]) hx hb dX5_shapeItems_3 rfl hl (by decide) rfl (fun ls hl => ?_)
  refine lv_iconst (v := 0) hx hb dX5_shapeItems_4 (by decide) ?_
  obtain ⟨x_5, hn_6, h⟩ := lett_s h
  refine nm_i hn_6 ?_
  refine lv_istore (lv' := [(4, .int x_5), (2, .long y_3), (1, .int x_1), (0, .ref (sb 13))]) hx hb dX5_shapeItems_5 hl (by decide) rfl (fun ls hl => ?_)
  obtain ⟨q_50, hq_51, h⟩ := bnd_s h
  refine w_X5_shapeItems_L7 C0 hr hk (q := q_50) (fun x_47 y_48 H locs ls hq hl M => ?_) FU _ _ _ _ _ _ (lv_sub hl [3, 2, 1, 0] rfl) M hq_51
  subst q_50
  try dsimp only at h
  refine lv_iload_n hx hb dX5_shapeItems_79 rfl (lv_at hl 0 rfl) ?_
  refine lv_if_eq (tgt := 87) hx hb dX5_shapeItems_80 (by decide) (fun c_49 => ?_) (fun c_49 => ?_)
  · rw [if_pos c_49] at h
    refine lv_lload_n hx hb dX5_shapeItems_87 rfl (lv_at hl 1 rfl) ?_
    refine lv_l2i hx hb dX5_shapeItems_88 rfl ?_
    exact w_X5_shapeItems_J89 C0 hr hk (lv_sub hl [] rfl) M h
  · rw [if_neg c_49] at h
    refine lv_iconst (v := 0) hx hb dX5_shapeItems_83 (by decide) ?_
    refine lv_goto (tgt := 89) hx hb dX5_shapeItems_84 (by decide) ?_
    exact w_X5_shapeItems_J89 C0 hr hk (lv_sub hl [] rfl) M h
theorem k_X5_shapeItems  {res : Int32} (h : m_X5_shapeItems  g = some res) : CM l yX5_shapeItems cX5_shapeItems 7 (some .int) ({ frames := 1, cells := 0, slots := 0, locals := 23 } : Room) [.ref (sb 13)] (some (.int res)) D b0 cy sb db g g := by
  refine Met.ofW (cc := cX5_shapeItems) (maxL := 7) (ret := (some .int)) (by decide) rfl ?_
  intro p e s m args below meth c s₁ B hml hv
  obtain ⟨rfl, hW, hK⟩ := hv
  have hl := lv_entry [.ref (sb 13)] (n := 7) (Nat.le_of_ble_eq_true rfl)
  rw [lg_entry_eq]
  generalize (lg_sl [.ref (sb 13)] ++ List.replicate (7 - (lg_sl [.ref (sb 13)]).length) Slot.unset).toArray = ls at hl ⊢
  have hl : lv_has ls 7 [(0, .ref (sb 13))] := hl
  exact w_X5_shapeItems ⟨B.exec, B.bytes, hml, findClass_of_methodNamed B.named, fun w hw => atoms_spec (ws := Cond.code yX5_shapeItems cX5_shapeItems 7 (some .int) :: wsL_law) B.pre w (List.mem_cons_of_mem _ hw), hK⟩ B.returns B.notSynchronized hl ⟨hW, va_S.rf⟩ h
theorem Y_X5_shapeItems : Yv yX5_shapeItems RX5 cX5_shapeItems 7 (some .int) 0 := ⟨⟨kw_12_4, kw_1_5, by decide +kernel, by decide +kernel, by decide +kernel⟩, kw_12_2, kw_12_3⟩
-- X5_lengthOf
def m_X5_lengthOf (x1 : Int32) (x2 : Int32) (g : Gs) : Option (Int64) :=
  chk (inb (((3 : Int32) * x1) + x2) 72) (chk (inb (((3 : Int32) * x1) + x2) 72) ((m_X5_length (g.1 28 0 (((3 : Int32) * x1) + x2).toNatClampNeg) (g.1 29 0 (((3 : Int32) * x1) + x2).toNatClampNeg) g).bind fun y_4 => some y_4))
set_option maxHeartbeats 4000000 in
set_option maxRecDepth 100000 in
theorem w_X5_lengthOf {x1 : Int32} {x2 : Int32} (C0 : Cx p s m args c cX5_lengthOf 3 RX5 D cy) (hr : meth.sig.returnType = (some .long)) (hk : meth.locks = false) {res : Int64} (hl : lv_has ls 3 [(0, .ref (sb 13)), (1, .int x1), (2, .int x2)]) (M : Ws D b0 cy sb db g s H locs) (h : m_X5_lengthOf x1 x2 g = some res) : W p l e ({ frames := 1, cells := 0, slots := 0, locals := 23 } : Room) s m args below meth c H locs 0 0 (MQ below (QX (some (.long res)) D b0 cy sb db g) args s 0 0 (fun q => b0 ≤ q)) (F0 m 0 ls []) := by
  obtain ⟨hx, hb, hml, hown, hts, hK⟩ := id C0
  rw [m_X5_lengthOf] at h
  refine lv_aload_n hx hb dX5_lengthOf_0 rfl (lv_at hl 0 rfl) ?_
  refine gf_RX5_26 C0 M dX5_lengthOf_1 ?_
  refine lv_iconst (v := 3) hx hb dX5_lengthOf_4 (by decide) ?_
  refine lv_iload_n hx hb dX5_lengthOf_5 rfl (lv_at hl 1 rfl) ?_
  refine lv_imul hx hb dX5_lengthOf_6 ?_
  refine lv_iload_n hx hb dX5_lengthOf_7 rfl (lv_at hl 2 rfl) ?_
  refine lv_iadd hx hb dX5_lengthOf_8 ?_
  obtain ⟨hi_1, h⟩ := chk_s h
  refine al_Mlows C0 M hi_1 dX5_lengthOf_9 ?_
  refine lv_aload_n hx hb dX5_lengthOf_10 rfl (lv_at hl 0 rfl) ?_
  refine gf_RX5_29 C0 M dX5_lengthOf_11 ?_
  refine lv_iconst (v := 3) hx hb dX5_lengthOf_14 (by decide) ?_
  refine lv_iload_n hx hb dX5_lengthOf_15 rfl (lv_at hl 1 rfl) ?_
  refine lv_imul hx hb dX5_lengthOf_16 ?_
  refine lv_iload_n hx hb dX5_lengthOf_17 rfl (lv_at hl 2 rfl) ?_
  refine lv_iadd hx hb dX5_lengthOf_18 ?_
  obtain ⟨hi_2, h⟩ := chk_s h
  refine al_Mhighs C0 M hi_2 dX5_lengthOf_19 ?_
  obtain ⟨y_4, hc_3, h⟩ := bnd_s h
  refine kS (As := [.int (g.1 28 0 (((3 : Int32) * x1) + x2).toNatClampNeg), .int (g.1 29 0 (((3 : Int32) * x1) + x2).toNatClampNeg)]) (rest := []) (stk := [.long y_4]) (val := (some (.long y_4))) (c1 := 0) (s1 := 0) C0 M (k_X5_length hc_3) kw_12_6 Y_X5_length ⟨Nat.le_of_ble_eq_true rfl, Nat.le_of_ble_eq_true rfl⟩ rfl hl.1 rfl (Nat.le_of_ble_eq_true rfl) dX5_lengthOf_20 rfl rfl ⟨Nat.le_refl _, Nat.le_refl _⟩ rfl (fun H locs M => ?_)
  obtain rfl := Option.some.inj h
  exact rt_l C0 M hr hk dX5_lengthOf_23
theorem k_X5_lengthOf {x1 : Int32} {x2 : Int32} {res : Int64} (h : m_X5_lengthOf x1 x2 g = some res) : CM l yX5_lengthOf cX5_lengthOf 3 (some .long) ({ frames := 1, cells := 0, slots := 0, locals := 23 } : Room) [.ref (sb 13), .int x1, .int x2] (some (.long res)) D b0 cy sb db g g := by
  refine Met.ofW (cc := cX5_lengthOf) (maxL := 3) (ret := (some .long)) (by decide) rfl ?_
  intro p e s m args below meth c s₁ B hml hv
  obtain ⟨rfl, hW, hK⟩ := hv
  have hl := lv_entry [.ref (sb 13), .int x1, .int x2] (n := 3) (Nat.le_of_ble_eq_true rfl)
  rw [lg_entry_eq]
  generalize (lg_sl [.ref (sb 13), .int x1, .int x2] ++ List.replicate (3 - (lg_sl [.ref (sb 13), .int x1, .int x2]).length) Slot.unset).toArray = ls at hl ⊢
  have hl : lv_has ls 3 [(0, .ref (sb 13)), (1, .int x1), (2, .int x2)] := hl
  exact w_X5_lengthOf ⟨B.exec, B.bytes, hml, findClass_of_methodNamed B.named, fun w hw => atoms_spec (ws := Cond.code yX5_lengthOf cX5_lengthOf 3 (some .long) :: wsL_law) B.pre w (List.mem_cons_of_mem _ hw), hK⟩ B.returns B.notSynchronized hl ⟨hW, va_S.rf⟩ h
theorem Y_X5_lengthOf : Yv yX5_lengthOf RX5 cX5_lengthOf 3 (some .long) 2 := ⟨⟨kw_12_21, kw_1_5, by decide +kernel, by decide +kernel, by decide +kernel⟩, kw_12_19, kw_12_20⟩
-- X5_newRow
def m_X5_newRow_L25 (x1 : Int32) : Nat → Int32 → Gs → Option (Gs)
  | 0, _, _ => none
  | fu + 1, x2, g =>
  if x1 ≤ x2 then (some g) else (chk (inb ((g.1 34 0 0) + x2) 300000) (lett (sL g 2 ((g.1 34 0 0) + x2).toNatClampNeg (0 : Int64)) fun g_11 => chk (inb ((g_11.1 34 0 0) + x2) 300000) (lett (sI g_11 36 0 ((g_11.1 34 0 0) + x2).toNatClampNeg (vp_nar .boolean (0 : Int32))) fun g_14 => lett (x2 + 1) fun x_16 => m_X5_newRow_L25 x1 fu x_16 g_14)))
def m_X5_newRow (x1 : Int32) (g : Gs) : Option (Int32 × Gs) :=
  chk (inb (g.1 31 0 0) 13000) (lett (sI g 32 0 (g.1 31 0 0).toNatClampNeg (g.1 34 0 0)) fun g_2 => chk (inb (g_2.1 31 0 0) 13000) (lett (sI g_2 33 0 (g_2.1 31 0 0).toNatClampNeg x1) fun g_5 => lett (0 : Int32) fun x_7 => (m_X5_newRow_L25 x1 FU x_7 g_5).bind fun g_18 => lett (sI g_18 34 0 0 ((g_18.1 34 0 0) + x1)) fun g_19 => lett (sI g_19 31 0 0 ((g_19.1 31 0 0) + (1 : Int32))) fun g_21 => some (((g_21.1 31 0 0) - (1 : Int32)), g_21)))
set_option maxHeartbeats 4000000 in
set_option maxRecDepth 100000 in
theorem w_X5_newRow_L25 {x1 : Int32} (C0 : Cx p s m args c cX5_newRow 3 RX5 D cy) (hr : meth.sig.returnType = (some .int)) (hk : meth.locks = false) {res : Int32 × Gs} {q : Gs} (kk : ∀ (g : Gs) (H : Heap) (locs : List Loc) (ls : Array Slot), q = g → lv_has ls 3 [(0, .ref (sb 13)), (1, .int x1)] → Ws D b0 cy sb db g s H locs → W p l e ({ frames := 0, cells := 0, slots := 0, locals := 0 } : Room) s m args below meth c H locs 0 0 (MQ below (QX (some (.int res.1)) D b0 cy sb db res.2) args s 0 0 (fun q => b0 ≤ q)) (F0 m 60 ls [])) : ∀ (fu : Nat) (x2 : Int32) (g : Gs) (H : Heap) (locs : List Loc) (ls : Array Slot), lv_has ls 3 [(0, .ref (sb 13)), (1, .int x1), (2, .int x2)] → Ws D b0 cy sb db g s H locs → m_X5_newRow_L25 x1 fu x2 g = some q → W p l e ({ frames := 0, cells := 0, slots := 0, locals := 0 } : Room) s m args below meth c H locs 0 0 (MQ below (QX (some (.int res.1)) D b0 cy sb db res.2) args s 0 0 (fun q => b0 ≤ q)) (F0 m 25 ls []) := by
  obtain ⟨hx, hb, hml, hown, hts, hK⟩ := id C0
  intro fu
  induction fu with
  | zero =>
    intro x2 g H locs ls hl M h
    cases h
  | succ fu ih =>
    intro x2 g H locs ls hl M h
    rw [m_X5_newRow_L25] at h
    refine lv_iload_n hx hb dX5_newRow_25 rfl (lv_at hl 2 rfl) ?_
    refine lv_iload_n hx hb dX5_newRow_26 rfl (lv_at hl 1 rfl) ?_
    refine lv_icmp_ge (tgt := 60) hx hb dX5_newRow_27 (by decide) (fun c_9 => ?_) (fun c_9 => ?_)
    · rw [if_pos c_9] at h
      exact kk _ _ _ _ (Option.some.inj h).symm (lv_sub hl [0, 1] rfl) M
    · rw [if_neg c_9] at h
      refine lv_aload_n hx hb dX5_newRow_30 rfl (lv_at hl 0 rfl) ?_
      refine gf_RX5_42 C0 M dX5_newRow_31 ?_
      refine lv_aload_n hx hb dX5_newRow_34 rfl (lv_at hl 0 rfl) ?_
      refine gf_RX5_89 C0 M dX5_newRow_35 ?_
      refine lv_iload_n hx hb dX5_newRow_38 rfl (lv_at hl 2 rfl) ?_
      refine lv_iadd hx hb dX5_newRow_39 ?_
      refine lv_lconst (v := 0) hx hb dX5_newRow_40 (by decide) ?_
      obtain ⟨hi_10, h⟩ := chk_s h
      obtain ⟨g_11, hg_12, h⟩ := lett_s h
      refine as_Mpool C0 M hi_10 hg_12 dX5_newRow_41 (fun H locs M => ?_)
      refine lv_aload_n hx hb dX5_newRow_42 rfl (lv_at hl 0 rfl) ?_
      refine gf_RX5_46 C0 M dX5_newRow_43 ?_
      refine lv_aload_n hx hb dX5_newRow_46 rfl (lv_at hl 0 rfl) ?_
      refine gf_RX5_89 C0 M dX5_newRow_47 ?_
      refine lv_iload_n hx hb dX5_newRow_50 rfl (lv_at hl 2 rfl) ?_
      refine lv_iadd hx hb dX5_newRow_51 ?_
      refine lv_iconst (v := 0) hx hb dX5_newRow_52 (by decide) ?_
      obtain ⟨hi_13, h⟩ := chk_s h
      obtain ⟨g_14, hg_15, h⟩ := lett_s h
      refine as_MhasBox C0 M hi_13 hg_15 dX5_newRow_53 (fun H locs M => ?_)
      obtain ⟨x_16, hn_17, h⟩ := lett_s h
      refine lv_iinc (v := x_16) (lv' := [(2, .int x_16), (0, .ref (sb 13)), (1, .int x1)]) hx hb dX5_newRow_54 hl (k := 2) rfl (by rw [hn_17]; rfl) (by decide) rfl (fun ls hl => ?_)
      refine lv_goto (tgt := 25) hx hb dX5_newRow_57 (by decide) ?_
      exact ih _ _ _ _ _ (lv_sub hl [1, 2, 0] rfl) M h
set_option maxHeartbeats 4000000 in
set_option maxRecDepth 100000 in
theorem w_X5_newRow {x1 : Int32} (C0 : Cx p s m args c cX5_newRow 3 RX5 D cy) (hr : meth.sig.returnType = (some .int)) (hk : meth.locks = false) {res : Int32 × Gs} (hl : lv_has ls 3 [(0, .ref (sb 13)), (1, .int x1)]) (M : Ws D b0 cy sb db g s H locs) (h : m_X5_newRow x1 g = some res) : W p l e ({ frames := 0, cells := 0, slots := 0, locals := 0 } : Room) s m args below meth c H locs 0 0 (MQ below (QX (some (.int res.1)) D b0 cy sb db res.2) args s 0 0 (fun q => b0 ≤ q)) (F0 m 0 ls []) := by
  obtain ⟨hx, hb, hml, hown, hts, hK⟩ := id C0
  rw [m_X5_newRow] at h
  refine lv_aload_n hx hb dX5_newRow_0 rfl (lv_at hl 0 rfl) ?_
  refine gf_RX5_35 C0 M dX5_newRow_1 ?_
  refine lv_aload_n hx hb dX5_newRow_4 rfl (lv_at hl 0 rfl) ?_
  refine gf_RX5_86 C0 M dX5_newRow_5 ?_
  refine lv_aload_n hx hb dX5_newRow_8 rfl (lv_at hl 0 rfl) ?_
  refine gf_RX5_89 C0 M dX5_newRow_9 ?_
  obtain ⟨hi_1, h⟩ := chk_s h
  obtain ⟨g_2, hg_3, h⟩ := lett_s h
  refine as_MrowAt C0 M hi_1 hg_3 dX5_newRow_12 (fun H locs M => ?_)
  refine lv_aload_n hx hb dX5_newRow_13 rfl (lv_at hl 0 rfl) ?_
  refine gf_RX5_38 C0 M dX5_newRow_14 ?_
  refine lv_aload_n hx hb dX5_newRow_17 rfl (lv_at hl 0 rfl) ?_
  refine gf_RX5_86 C0 M dX5_newRow_18 ?_
  refine lv_iload_n hx hb dX5_newRow_21 rfl (lv_at hl 1 rfl) ?_
  obtain ⟨hi_4, h⟩ := chk_s h
  obtain ⟨g_5, hg_6, h⟩ := lett_s h
  refine as_MrowSize C0 M hi_4 hg_6 dX5_newRow_22 (fun H locs M => ?_)
  refine lv_iconst (v := 0) hx hb dX5_newRow_23 (by decide) ?_
  obtain ⟨x_7, hn_8, h⟩ := lett_s h
  refine nm_i hn_8 ?_
  refine lv_istore_n (lv' := [(2, .int x_7), (0, .ref (sb 13)), (1, .int x1)]) hx hb dX5_newRow_24 rfl hl (by decide) rfl (fun ls hl => ?_)
  obtain ⟨q_23, hq_24, h⟩ := bnd_s h
  refine w_X5_newRow_L25 C0 hr hk (q := q_23) (fun g_18 H locs ls hq hl M => ?_) FU _ _ _ _ _ (lv_sub hl [1, 2, 0] rfl) M hq_24
  subst q_23
  try dsimp only at h
  refine lv_aload_n hx hb dX5_newRow_60 rfl (lv_at hl 0 rfl) ?_
  refine lv_dup hx hb dX5_newRow_61 rfl ?_
  refine gf_RX5_89 C0 M dX5_newRow_62 ?_
  refine lv_iload_n hx hb dX5_newRow_65 rfl (lv_at hl 1 rfl) ?_
  refine lv_iadd hx hb dX5_newRow_66 ?_
  obtain ⟨g_19, hg_20, h⟩ := lett_s h
  refine pf_RX5_89 C0 M hg_20 dX5_newRow_67 (fun H locs M => ?_)
  refine lv_aload_n hx hb dX5_newRow_70 rfl (lv_at hl 0 rfl) ?_
  refine lv_dup hx hb dX5_newRow_71 rfl ?_
  refine gf_RX5_86 C0 M dX5_newRow_72 ?_
  refine lv_iconst (v := 1) hx hb dX5_newRow_75 (by decide) ?_
  refine lv_iadd hx hb dX5_newRow_76 ?_
  obtain ⟨g_21, hg_22, h⟩ := lett_s h
  refine pf_RX5_86 C0 M hg_22 dX5_newRow_77 (fun H locs M => ?_)
  refine lv_aload_n hx hb dX5_newRow_80 rfl (lv_at hl 0 rfl) ?_
  refine gf_RX5_86 C0 M dX5_newRow_81 ?_
  refine lv_iconst (v := 1) hx hb dX5_newRow_84 (by decide) ?_
  refine lv_isub hx hb dX5_newRow_85 ?_
  obtain rfl := Option.some.inj h
  exact rt_i C0 M hr hk dX5_newRow_86
theorem k_X5_newRow {x1 : Int32} {res : Int32 × Gs} (h : m_X5_newRow x1 g = some res) : CM l yX5_newRow cX5_newRow 3 (some .int) ({ frames := 0, cells := 0, slots := 0, locals := 0 } : Room) [.ref (sb 13), .int x1] (some (.int res.1)) D b0 cy sb db g res.2 := by
  refine Met.ofW (cc := cX5_newRow) (maxL := 3) (ret := (some .int)) (by decide) rfl ?_
  intro p e s m args below meth c s₁ B hml hv
  obtain ⟨rfl, hW, hK⟩ := hv
  have hl := lv_entry [.ref (sb 13), .int x1] (n := 3) (Nat.le_of_ble_eq_true rfl)
  rw [lg_entry_eq]
  generalize (lg_sl [.ref (sb 13), .int x1] ++ List.replicate (3 - (lg_sl [.ref (sb 13), .int x1]).length) Slot.unset).toArray = ls at hl ⊢
  have hl : lv_has ls 3 [(0, .ref (sb 13)), (1, .int x1)] := hl
  exact w_X5_newRow ⟨B.exec, B.bytes, hml, findClass_of_methodNamed B.named, fun w hw => atoms_spec (ws := Cond.code yX5_newRow cX5_newRow 3 (some .int) :: wsL_law) B.pre w (List.mem_cons_of_mem _ hw), hK⟩ B.returns B.notSynchronized hl ⟨hW, va_S.rf⟩ h
theorem Y_X5_newRow : Yv yX5_newRow RX5 cX5_newRow 3 (some .int) 1 := ⟨⟨kw_13_1, kw_1_5, by decide +kernel, by decide +kernel, by decide +kernel⟩, kw_12_23, kw_13_0⟩
-- X5_as
def m_X5_as_J45 (ys0 : Int64) (g : Gs) : Option (Int64) :=
  some ys0
def m_X5_as_J38 (y1 : Int64) (g : Gs) : Option (Int64) :=
  m_X5_as_J45 y1.toInt32.toInt64 g
def m_X5_as_J27 (ys0 : Int64) (g : Gs) : Option (Int64) :=
  some ys0
def m_X5_as (x0 : Int32) (y1 : Int64) (g : Gs) : Option (Int64) :=
  if x0 = 0 then (lett (y1 &&& (255 : Int64)) fun y_4 => if (lg_cmp y_4 (127 : Int64)) ≤ 0 then (m_X5_as_J27 y_4 g) else (m_X5_as_J27 (y_4 - (256 : Int64)) g)) else (if x0 = (1 : Int32) then (m_X5_as_J38 y1 g) else (if x0 = (4 : Int32) then (m_X5_as_J38 y1 g) else (m_X5_as_J45 y1 g)))
set_option maxHeartbeats 4000000 in
set_option maxRecDepth 100000 in
theorem w_X5_as_J45 {ys0 : Int64} (C0 : Cx p s m args c cX5_as 5 RX5 D cy) (hr : meth.sig.returnType = (some .long)) (hk : meth.locks = false) {res : Int64} (hl : lv_has ls 5 []) (M : Ws D b0 cy sb db g s H locs) (h : m_X5_as_J45 ys0 g = some res) : W p l e ({ frames := 0, cells := 0, slots := 0, locals := 0 } : Room) s m args below meth c H locs 0 0 (MQ below (QX (some (.long res)) D b0 cy sb db g) args s 0 0 (fun q => b0 ≤ q)) (F0 m 45 ls [.long ys0]) := by
  obtain ⟨hx, hb, hml, hown, hts, hK⟩ := id C0
  rw [m_X5_as_J45] at h
  obtain rfl := Option.some.inj h
  exact rt_l C0 M hr hk dX5_as_45
set_option maxHeartbeats 4000000 in
set_option maxRecDepth 100000 in
theorem w_X5_as_J38 {y1 : Int64} (C0 : Cx p s m args c cX5_as 5 RX5 D cy) (hr : meth.sig.returnType = (some .long)) (hk : meth.locks = false) {res : Int64} (hl : lv_has ls 5 [(1, .long y1)]) (M : Ws D b0 cy sb db g s H locs) (h : m_X5_as_J38 y1 g = some res) : W p l e ({ frames := 0, cells := 0, slots := 0, locals := 0 } : Room) s m args below meth c H locs 0 0 (MQ below (QX (some (.long res)) D b0 cy sb db g) args s 0 0 (fun q => b0 ≤ q)) (F0 m 38 ls []) := by
  obtain ⟨hx, hb, hml, hown, hts, hK⟩ := id C0
  rw [m_X5_as_J38] at h
  refine lv_lload_n hx hb dX5_as_38 rfl (lv_at hl 0 rfl) ?_
  refine lv_l2i hx hb dX5_as_39 rfl ?_
  refine lv_i2l hx hb dX5_as_40 rfl ?_
  refine lv_goto (tgt := 45) hx hb dX5_as_41 (by decide) ?_
  exact w_X5_as_J45 C0 hr hk (lv_sub hl [] rfl) M h
set_option maxHeartbeats 4000000 in
set_option maxRecDepth 100000 in
theorem w_X5_as_J27 {ys0 : Int64} (C0 : Cx p s m args c cX5_as 5 RX5 D cy) (hr : meth.sig.returnType = (some .long)) (hk : meth.locks = false) {res : Int64} (hl : lv_has ls 5 []) (M : Ws D b0 cy sb db g s H locs) (h : m_X5_as_J27 ys0 g = some res) : W p l e ({ frames := 0, cells := 0, slots := 0, locals := 0 } : Room) s m args below meth c H locs 0 0 (MQ below (QX (some (.long res)) D b0 cy sb db g) args s 0 0 (fun q => b0 ≤ q)) (F0 m 27 ls [.long ys0]) := by
  obtain ⟨hx, hb, hml, hown, hts, hK⟩ := id C0
  rw [m_X5_as_J27] at h
  obtain rfl := Option.some.inj h
  exact rt_l C0 M hr hk dX5_as_27
set_option maxHeartbeats 4000000 in
set_option maxRecDepth 100000 in
theorem w_X5_as {x0 : Int32} {y1 : Int64} (C0 : Cx p s m args c cX5_as 5 RX5 D cy) (hr : meth.sig.returnType = (some .long)) (hk : meth.locks = false) {res : Int64} (hl : lv_has ls 5 [(0, .int x0), (1, .long y1)]) (M : Ws D b0 cy sb db g s H locs) (h : m_X5_as x0 y1 g = some res) : W p l e ({ frames := 0, cells := 0, slots := 0, locals := 0 } : Room) s m args below meth c H locs 0 0 (MQ below (QX (some (.long res)) D b0 cy sb db g) args s 0 0 (fun q => b0 ≤ q)) (F0 m 0 ls []) := by
  obtain ⟨hx, hb, hml, hown, hts, hK⟩ := id C0
  rw [m_X5_as] at h
  refine lv_iload_n hx hb dX5_as_0 rfl (lv_at hl 0 rfl) ?_
  refine lv_if_ne (tgt := 28) hx hb dX5_as_1 (by decide) (fun c_1 => ?_) (fun c_1 => ?_)
  · rw [if_neg c_1] at h
    refine lv_iload_n hx hb dX5_as_28 rfl (lv_at hl 0 rfl) ?_
    refine lv_iconst (v := 1) hx hb dX5_as_29 (by decide) ?_
    refine lv_icmp_eq (tgt := 38) hx hb dX5_as_30 (by decide) (fun c_2 => ?_) (fun c_2 => ?_)
    · rw [if_pos c_2] at h
      exact w_X5_as_J38 C0 hr hk (lv_sub hl [1] rfl) M h
    · rw [if_neg c_2] at h
      refine lv_iload_n hx hb dX5_as_33 rfl (lv_at hl 0 rfl) ?_
      refine lv_iconst (v := 4) hx hb dX5_as_34 (by decide) ?_
      refine lv_icmp_ne (tgt := 44) hx hb dX5_as_35 (by decide) (fun c_3 => ?_) (fun c_3 => ?_)
      · rw [if_neg c_3] at h
        refine lv_lload_n hx hb dX5_as_44 rfl (lv_at hl 1 rfl) ?_
        exact w_X5_as_J45 C0 hr hk (lv_sub hl [] rfl) M h
      · rw [if_pos c_3] at h
        exact w_X5_as_J38 C0 hr hk (lv_sub hl [1] rfl) M h
  · rw [if_pos c_1] at h
    refine lv_lload_n hx hb dX5_as_4 rfl (lv_at hl 1 rfl) ?_
    refine lv_ldc2 (v := 255) hx hb hown (hts _ kw_22_15) dX5_as_5 ?_
    refine lv_land hx hb dX5_as_8 ?_
    obtain ⟨y_4, hn_5, h⟩ := lett_s h
    refine nm_l hn_5 ?_
    refine lv_lstore_n (lv' := [(3, .long y_4), (0, .int x0), (1, .long y1)]) hx hb dX5_as_9 rfl hl (by decide) rfl (fun ls hl => ?_)
    refine lv_lload_n hx hb dX5_as_10 rfl (lv_at hl 0 rfl) ?_
    refine lv_ldc2 (v := 127) hx hb hown (hts _ kw_22_16) dX5_as_11 ?_
    refine W.lcmp hx hb dX5_as_14 ?_
    refine lv_if_le (tgt := 26) hx hb dX5_as_15 (by decide) (fun c_6 => ?_) (fun c_6 => ?_)
    · rw [if_pos c_6] at h
      refine lv_lload_n hx hb dX5_as_26 rfl (lv_at hl 0 rfl) ?_
      exact w_X5_as_J27 C0 hr hk (lv_sub hl [] rfl) M h
    · rw [if_neg c_6] at h
      refine lv_lload_n hx hb dX5_as_18 rfl (lv_at hl 0 rfl) ?_
      refine lv_ldc2 (v := 256) hx hb hown (hts _ kw_22_17) dX5_as_19 ?_
      refine lv_lsub hx hb dX5_as_22 ?_
      refine lv_goto (tgt := 27) hx hb dX5_as_23 (by decide) ?_
      exact w_X5_as_J27 C0 hr hk (lv_sub hl [] rfl) M h
theorem k_X5_as {x0 : Int32} {y1 : Int64} {res : Int64} (h : m_X5_as x0 y1 g = some res) : CM l yX5_as cX5_as 5 (some .long) ({ frames := 0, cells := 0, slots := 0, locals := 0 } : Room) [.int x0, .long y1] (some (.long res)) D b0 cy sb db g g := by
  refine Met.ofW (cc := cX5_as) (maxL := 5) (ret := (some .long)) (by decide) rfl ?_
  intro p e s m args below meth c s₁ B hml hv
  obtain ⟨rfl, hW, hK⟩ := hv
  have hl := lv_entry [.int x0, .long y1] (n := 5) (Nat.le_of_ble_eq_true rfl)
  rw [lg_entry_eq]
  generalize (lg_sl [.int x0, .long y1] ++ List.replicate (5 - (lg_sl [.int x0, .long y1]).length) Slot.unset).toArray = ls at hl ⊢
  have hl : lv_has ls 5 [(0, .int x0), (1, .long y1)] := hl
  exact w_X5_as ⟨B.exec, B.bytes, hml, findClass_of_methodNamed B.named, fun w hw => atoms_spec (ws := Cond.code yX5_as cX5_as 5 (some .long) :: wsL_law) B.pre w (List.mem_cons_of_mem _ hw), hK⟩ B.returns B.notSynchronized hl ⟨hW, va_S.rf⟩ h
theorem Y_X5_as : Ys yX5_as cX5_as 5 (some .long) 2 := ⟨⟨kw_22_14, kw_1_5, by decide +kernel, by decide +kernel, by decide +kernel⟩, kw_22_13⟩
-- X5_isArray
def m_X5_isArray (x1 : Int32) (g : Gs) : Option (Int32) :=
  (m_X5_within x1.toInt64 (0 : Int64) (((g.1 25 0 0) - (1 : Int32)).toInt64) g).bind fun x_2 => chk (x_2 &&& 1 = x_2) (some x_2)
set_option maxHeartbeats 4000000 in
set_option maxRecDepth 100000 in
theorem w_X5_isArray {x1 : Int32} (C0 : Cx p s m args c cX5_isArray 2 RX5 D cy) (hr : meth.sig.returnType = (some .boolean)) (hk : meth.locks = false) {res : Int32} (hl : lv_has ls 2 [(0, .ref (sb 13)), (1, .int x1)]) (M : Ws D b0 cy sb db g s H locs) (h : m_X5_isArray x1 g = some res) : W p l e ({ frames := 1, cells := 0, slots := 0, locals := 25 } : Room) s m args below meth c H locs 0 0 (MQ below (QX (some (.int res)) D b0 cy sb db g) args s 0 0 (fun q => b0 ≤ q)) (F0 m 0 ls []) := by
  obtain ⟨hx, hb, hml, hown, hts, hK⟩ := id C0
  rw [m_X5_isArray] at h
  refine lv_iload_n hx hb dX5_isArray_0 rfl (lv_at hl 1 rfl) ?_
  refine lv_i2l hx hb dX5_isArray_1 rfl ?_
  refine lv_lconst (v := 0) hx hb dX5_isArray_2 (by decide) ?_
  refine lv_aload_n hx hb dX5_isArray_3 rfl (lv_at hl 0 rfl) ?_
  refine gf_RX5_98 C0 M dX5_isArray_4 ?_
  refine lv_iconst (v := 1) hx hb dX5_isArray_7 (by decide) ?_
  refine lv_isub hx hb dX5_isArray_8 ?_
  refine lv_i2l hx hb dX5_isArray_9 rfl ?_
  obtain ⟨x_2, hc_1, h⟩ := bnd_s h
  refine kS (As := [.long x1.toInt64, .long (0 : Int64), .long (((g.1 25 0 0) - (1 : Int32)).toInt64)]) (rest := []) (stk := [.int x_2]) (val := (some (.int x_2))) (c1 := 0) (s1 := 0) C0 M (k_X5_within hc_1) kw_11_22 Y_X5_within ⟨Nat.le_of_ble_eq_true rfl, Nat.le_of_ble_eq_true rfl⟩ rfl hl.1 rfl (Nat.le_of_ble_eq_true rfl) dX5_isArray_10 rfl rfl ⟨Nat.le_refl _, Nat.le_refl _⟩ rfl (fun H locs M => ?_)
  obtain ⟨hz_3, h⟩ := chk_s h
  obtain rfl := Option.some.inj h
  exact rt_z C0 M hr hk hz_3 dX5_isArray_13
theorem k_X5_isArray {x1 : Int32} {res : Int32} (h : m_X5_isArray x1 g = some res) : CM l yX5_isArray cX5_isArray 2 (some .boolean) ({ frames := 1, cells := 0, slots := 0, locals := 25 } : Room) [.ref (sb 13), .int x1] (some (.int res)) D b0 cy sb db g g := by
  refine Met.ofW (cc := cX5_isArray) (maxL := 2) (ret := (some .boolean)) (by decide) rfl ?_
  intro p e s m args below meth c s₁ B hml hv
  obtain ⟨rfl, hW, hK⟩ := hv
  have hl := lv_entry [.ref (sb 13), .int x1] (n := 2) (Nat.le_of_ble_eq_true rfl)
  rw [lg_entry_eq]
  generalize (lg_sl [.ref (sb 13), .int x1] ++ List.replicate (2 - (lg_sl [.ref (sb 13), .int x1]).length) Slot.unset).toArray = ls at hl ⊢
  have hl : lv_has ls 2 [(0, .ref (sb 13)), (1, .int x1)] := hl
  exact w_X5_isArray ⟨B.exec, B.bytes, hml, findClass_of_methodNamed B.named, fun w hw => atoms_spec (ws := Cond.code yX5_isArray cX5_isArray 2 (some .boolean) :: wsL_law) B.pre w (List.mem_cons_of_mem _ hw), hK⟩ B.returns B.notSynchronized hl ⟨hW, va_S.rf⟩ h
theorem Y_X5_isArray : Yv yX5_isArray RX5 cX5_isArray 2 (some .boolean) 1 := ⟨⟨kw_14_16, kw_1_5, by decide +kernel, by decide +kernel, by decide +kernel⟩, kw_14_14, kw_14_15⟩
end WALK
