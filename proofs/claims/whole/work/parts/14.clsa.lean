section WALK
variable {p : Program} {l : Launch} {e : Env} {s : State} {m : MethodId} {args : Array Value} {below : List Frame} {meth : Method} {c : Code} {H : Heap} {locs : List Loc}
variable {ls : Array Slot} {D : va_G} {b0 : Nat} {cy : Cy} {sb db : Nat → Nat} {g : Gs}
-- X4_code
def m_X4_code  (g : Gs) : Option (Int32) :=
  some (g.1 1 0 0)
set_option maxHeartbeats 4000000 in
set_option maxRecDepth 100000 in
theorem w_X4_code  (C0 : Cx p s m args c cX4_code 1 RX4 D cy) (hr : meth.sig.returnType = (some .int)) (hk : meth.locks = false) {res : Int32} (hl : lv_has ls 1 [(0, .ref (sb 0))]) (M : Ws D b0 cy sb db g s H locs) (h : m_X4_code  g = some res) : W p l e ({ frames := 0, cells := 0, slots := 0, locals := 0 } : Room) s m args below meth c H locs 0 0 (MQ below (QX (some (.int res)) D b0 cy sb db g) args s 0 0 (fun q => b0 ≤ q)) (F0 m 0 ls []) := by
  obtain ⟨hx, hb, hml, hown, hts, hK⟩ := id C0
  rw [m_X4_code] at h
  refine lv_aload_n hx hb dX4_code_0 rfl (lv_at hl 0 rfl) ?_
  refine gf_RX4_44 C0 M dX4_code_1 ?_
  obtain rfl := Option.some.inj h
  exact rt_i C0 M hr hk dX4_code_4
theorem k_X4_code  {res : Int32} (h : m_X4_code  g = some res) : CM l yX4_code cX4_code 1 (some .int) ({ frames := 0, cells := 0, slots := 0, locals := 0 } : Room) [.ref (sb 0)] (some (.int res)) D b0 cy sb db g g := by
  refine Met.ofW (cc := cX4_code) (maxL := 1) (ret := (some .int)) (by decide) rfl ?_
  intro p e s m args below meth c s₁ B hml hv
  obtain ⟨rfl, hW, hK⟩ := hv
  have hl := lv_entry [.ref (sb 0)] (n := 1) (Nat.le_of_ble_eq_true rfl)
  rw [lg_entry_eq]
  generalize (lg_sl [.ref (sb 0)] ++ List.replicate (1 - (lg_sl [.ref (sb 0)]).length) Slot.unset).toArray = ls at hl ⊢
  have hl : lv_has ls 1 [(0, .ref (sb 0))] := hl
  exact w_X4_code ⟨B.exec, B.bytes, hml, findClass_of_methodNamed B.named, fun w hw => atoms_spec (ws := Cond.code yX4_code cX4_code 1 (some .int) :: wsL_law) B.pre w (List.mem_cons_of_mem _ hw), hK⟩ B.returns B.notSynchronized hl ⟨hW, va_S.rf⟩ h
theorem Y_X4_code : Yv yX4_code RX4 cX4_code 1 (some .int) 0 := ⟨⟨kw_4_15, kw_1_2, by decide +kernel, by decide +kernel, by decide +kernel⟩, kw_4_13, kw_4_14⟩
-- X4_which
def m_X4_which  (g : Gs) : Option (Int32) :=
  some (g.1 2 0 0)
set_option maxHeartbeats 4000000 in
set_option maxRecDepth 100000 in
theorem w_X4_which  (C0 : Cx p s m args c cX4_which 1 RX4 D cy) (hr : meth.sig.returnType = (some .int)) (hk : meth.locks = false) {res : Int32} (hl : lv_has ls 1 [(0, .ref (sb 0))]) (M : Ws D b0 cy sb db g s H locs) (h : m_X4_which  g = some res) : W p l e ({ frames := 0, cells := 0, slots := 0, locals := 0 } : Room) s m args below meth c H locs 0 0 (MQ below (QX (some (.int res)) D b0 cy sb db g) args s 0 0 (fun q => b0 ≤ q)) (F0 m 0 ls []) := by
  obtain ⟨hx, hb, hml, hown, hts, hK⟩ := id C0
  rw [m_X4_which] at h
  refine lv_aload_n hx hb dX4_which_0 rfl (lv_at hl 0 rfl) ?_
  refine gf_RX4_47 C0 M dX4_which_1 ?_
  obtain rfl := Option.some.inj h
  exact rt_i C0 M hr hk dX4_which_4
theorem k_X4_which  {res : Int32} (h : m_X4_which  g = some res) : CM l yX4_which cX4_which 1 (some .int) ({ frames := 0, cells := 0, slots := 0, locals := 0 } : Room) [.ref (sb 0)] (some (.int res)) D b0 cy sb db g g := by
  refine Met.ofW (cc := cX4_which) (maxL := 1) (ret := (some .int)) (by decide) rfl ?_
  intro p e s m args below meth c s₁ B hml hv
  obtain ⟨rfl, hW, hK⟩ := hv
  have hl := lv_entry [.ref (sb 0)] (n := 1) (Nat.le_of_ble_eq_true rfl)
  rw [lg_entry_eq]
  generalize (lg_sl [.ref (sb 0)] ++ List.replicate (1 - (lg_sl [.ref (sb 0)]).length) Slot.unset).toArray = ls at hl ⊢
  have hl : lv_has ls 1 [(0, .ref (sb 0))] := hl
  exact w_X4_which ⟨B.exec, B.bytes, hml, findClass_of_methodNamed B.named, fun w hw => atoms_spec (ws := Cond.code yX4_which cX4_which 1 (some .int) :: wsL_law) B.pre w (List.mem_cons_of_mem _ hw), hK⟩ B.returns B.notSynchronized hl ⟨hW, va_S.rf⟩ h
theorem Y_X4_which : Yv yX4_which RX4 cX4_which 1 (some .int) 0 := ⟨⟨kw_5_0, kw_1_2, by decide +kernel, by decide +kernel, by decide +kernel⟩, kw_4_22, kw_4_23⟩
-- X4_tell
def m_X4_tell (x1 : Int32) (x2 : Int32) (g : Gs) : Option (Int32 × Gs) :=
  lett (sI g 1 0 0 x1) fun g_1 => some (x2, g_1)
set_option maxHeartbeats 4000000 in
set_option maxRecDepth 100000 in
theorem w_X4_tell {x1 : Int32} {x2 : Int32} (C0 : Cx p s m args c cX4_tell 3 RX4 D cy) (hr : meth.sig.returnType = (some .int)) (hk : meth.locks = false) {res : Int32 × Gs} (hl : lv_has ls 3 [(0, .ref (sb 0)), (1, .int x1), (2, .int x2)]) (M : Ws D b0 cy sb db g s H locs) (h : m_X4_tell x1 x2 g = some res) : W p l e ({ frames := 0, cells := 0, slots := 0, locals := 0 } : Room) s m args below meth c H locs 0 0 (MQ below (QX (some (.int res.1)) D b0 cy sb db res.2) args s 0 0 (fun q => b0 ≤ q)) (F0 m 0 ls []) := by
  obtain ⟨hx, hb, hml, hown, hts, hK⟩ := id C0
  rw [m_X4_tell] at h
  refine lv_aload_n hx hb dX4_tell_0 rfl (lv_at hl 0 rfl) ?_
  refine lv_iload_n hx hb dX4_tell_1 rfl (lv_at hl 1 rfl) ?_
  obtain ⟨g_1, hg_2, h⟩ := lett_s h
  refine pf_RX4_44 C0 M hg_2 dX4_tell_2 (fun H locs M => ?_)
  refine lv_iload_n hx hb dX4_tell_5 rfl (lv_at hl 2 rfl) ?_
  obtain rfl := Option.some.inj h
  exact rt_i C0 M hr hk dX4_tell_6
theorem k_X4_tell {x1 : Int32} {x2 : Int32} {res : Int32 × Gs} (h : m_X4_tell x1 x2 g = some res) : CM l yX4_tell cX4_tell 3 (some .int) ({ frames := 0, cells := 0, slots := 0, locals := 0 } : Room) [.ref (sb 0), .int x1, .int x2] (some (.int res.1)) D b0 cy sb db g res.2 := by
  refine Met.ofW (cc := cX4_tell) (maxL := 3) (ret := (some .int)) (by decide) rfl ?_
  intro p e s m args below meth c s₁ B hml hv
  obtain ⟨rfl, hW, hK⟩ := hv
  have hl := lv_entry [.ref (sb 0), .int x1, .int x2] (n := 3) (Nat.le_of_ble_eq_true rfl)
  rw [lg_entry_eq]
  generalize (lg_sl [.ref (sb 0), .int x1, .int x2] ++ List.replicate (3 - (lg_sl [.ref (sb 0), .int x1, .int x2]).length) Slot.unset).toArray = ls at hl ⊢
  have hl : lv_has ls 3 [(0, .ref (sb 0)), (1, .int x1), (2, .int x2)] := hl
  exact w_X4_tell ⟨B.exec, B.bytes, hml, findClass_of_methodNamed B.named, fun w hw => atoms_spec (ws := Cond.code yX4_tell cX4_tell 3 (some .int) :: wsL_law) B.pre w (List.mem_cons_of_mem _ hw), hK⟩ B.returns B.notSynchronized hl ⟨hW, va_S.rf⟩ h
theorem Y_X4_tell : Yv yX4_tell RX4 cX4_tell 3 (some .int) 2 := ⟨⟨kw_5_17, kw_1_2, by decide +kernel, by decide +kernel, by decide +kernel⟩, kw_5_15, kw_5_16⟩
-- X4_stop
def m_X4_stop (x1 : Int32) (g : Gs) : Option (Int32 × Gs) :=
  (m_X4_tell x1 (0 : Int32) g).bind fun (x_2, g_3) => some (x_2, g_3)
set_option maxHeartbeats 4000000 in
set_option maxRecDepth 100000 in
theorem w_X4_stop {x1 : Int32} (C0 : Cx p s m args c cX4_stop 2 RX4 D cy) (hr : meth.sig.returnType = (some .int)) (hk : meth.locks = false) {res : Int32 × Gs} (hl : lv_has ls 2 [(0, .ref (sb 0)), (1, .int x1)]) (M : Ws D b0 cy sb db g s H locs) (h : m_X4_stop x1 g = some res) : W p l e ({ frames := 1, cells := 0, slots := 0, locals := 22 } : Room) s m args below meth c H locs 0 0 (MQ below (QX (some (.int res.1)) D b0 cy sb db res.2) args s 0 0 (fun q => b0 ≤ q)) (F0 m 0 ls []) := by
  obtain ⟨hx, hb, hml, hown, hts, hK⟩ := id C0
  rw [m_X4_stop] at h
  refine lv_aload_n hx hb dX4_stop_0 rfl (lv_at hl 0 rfl) ?_
  refine lv_iload_n hx hb dX4_stop_1 rfl (lv_at hl 1 rfl) ?_
  refine lv_iconst (v := 0) hx hb dX4_stop_2 (by decide) ?_
  obtain ⟨⟨x_2, g_3⟩, hc_1, h⟩ := bnd_s h
  try dsimp only at h
  refine kV (As := [.int x1, .int (0 : Int32)]) (rest := []) (stk := [.int x_2]) (val := (some (.int x_2))) (c1 := 0) (s1 := 0) C0 M (k_X4_tell hc_1) kw_5_14 Y_X4_tell (rv_X4 C0 M) ⟨Nat.le_of_ble_eq_true rfl, Nat.le_of_ble_eq_true rfl⟩ rfl hl.1 rfl (Nat.le_of_ble_eq_true rfl) dX4_stop_3 rfl rfl ⟨Nat.le_refl _, Nat.le_refl _⟩ rfl (fun H locs M => ?_)
  obtain rfl := Option.some.inj h
  exact rt_i C0 M hr hk dX4_stop_6
theorem k_X4_stop {x1 : Int32} {res : Int32 × Gs} (h : m_X4_stop x1 g = some res) : CM l yX4_stop cX4_stop 2 (some .int) ({ frames := 1, cells := 0, slots := 0, locals := 22 } : Room) [.ref (sb 0), .int x1] (some (.int res.1)) D b0 cy sb db g res.2 := by
  refine Met.ofW (cc := cX4_stop) (maxL := 2) (ret := (some .int)) (by decide) rfl ?_
  intro p e s m args below meth c s₁ B hml hv
  obtain ⟨rfl, hW, hK⟩ := hv
  have hl := lv_entry [.ref (sb 0), .int x1] (n := 2) (Nat.le_of_ble_eq_true rfl)
  rw [lg_entry_eq]
  generalize (lg_sl [.ref (sb 0), .int x1] ++ List.replicate (2 - (lg_sl [.ref (sb 0), .int x1]).length) Slot.unset).toArray = ls at hl ⊢
  have hl : lv_has ls 2 [(0, .ref (sb 0)), (1, .int x1)] := hl
  exact w_X4_stop ⟨B.exec, B.bytes, hml, findClass_of_methodNamed B.named, fun w hw => atoms_spec (ws := Cond.code yX4_stop cX4_stop 2 (some .int) :: wsL_law) B.pre w (List.mem_cons_of_mem _ hw), hK⟩ B.returns B.notSynchronized hl ⟨hW, va_S.rf⟩ h
theorem Y_X4_stop : Yv yX4_stop RX4 cX4_stop 2 (some .int) 1 := ⟨⟨kw_5_13, kw_1_2, by decide +kernel, by decide +kernel, by decide +kernel⟩, kw_5_11, kw_5_12⟩
-- X4_done
def m_X4_done (x1 : Int32) (g : Gs) : Option (Int32 × Gs) :=
  (m_X4_tell (0 : Int32) x1 g).bind fun (x_2, g_3) => some (x_2, g_3)
set_option maxHeartbeats 4000000 in
set_option maxRecDepth 100000 in
theorem w_X4_done {x1 : Int32} (C0 : Cx p s m args c cX4_done 2 RX4 D cy) (hr : meth.sig.returnType = (some .int)) (hk : meth.locks = false) {res : Int32 × Gs} (hl : lv_has ls 2 [(0, .ref (sb 0)), (1, .int x1)]) (M : Ws D b0 cy sb db g s H locs) (h : m_X4_done x1 g = some res) : W p l e ({ frames := 1, cells := 0, slots := 0, locals := 22 } : Room) s m args below meth c H locs 0 0 (MQ below (QX (some (.int res.1)) D b0 cy sb db res.2) args s 0 0 (fun q => b0 ≤ q)) (F0 m 0 ls []) := by
  obtain ⟨hx, hb, hml, hown, hts, hK⟩ := id C0
  rw [m_X4_done] at h
  refine lv_aload_n hx hb dX4_done_0 rfl (lv_at hl 0 rfl) ?_
  refine lv_iconst (v := 0) hx hb dX4_done_1 (by decide) ?_
  refine lv_iload_n hx hb dX4_done_2 rfl (lv_at hl 1 rfl) ?_
  obtain ⟨⟨x_2, g_3⟩, hc_1, h⟩ := bnd_s h
  try dsimp only at h
  refine kV (As := [.int (0 : Int32), .int x1]) (rest := []) (stk := [.int x_2]) (val := (some (.int x_2))) (c1 := 0) (s1 := 0) C0 M (k_X4_tell hc_1) kw_5_14 Y_X4_tell (rv_X4 C0 M) ⟨Nat.le_of_ble_eq_true rfl, Nat.le_of_ble_eq_true rfl⟩ rfl hl.1 rfl (Nat.le_of_ble_eq_true rfl) dX4_done_3 rfl rfl ⟨Nat.le_refl _, Nat.le_refl _⟩ rfl (fun H locs M => ?_)
  obtain rfl := Option.some.inj h
  exact rt_i C0 M hr hk dX4_done_6
theorem k_X4_done {x1 : Int32} {res : Int32 × Gs} (h : m_X4_done x1 g = some res) : CM l yX4_done cX4_done 2 (some .int) ({ frames := 1, cells := 0, slots := 0, locals := 22 } : Room) [.ref (sb 0), .int x1] (some (.int res.1)) D b0 cy sb db g res.2 := by
  refine Met.ofW (cc := cX4_done) (maxL := 2) (ret := (some .int)) (by decide) rfl ?_
  intro p e s m args below meth c s₁ B hml hv
  obtain ⟨rfl, hW, hK⟩ := hv
  have hl := lv_entry [.ref (sb 0), .int x1] (n := 2) (Nat.le_of_ble_eq_true rfl)
  rw [lg_entry_eq]
  generalize (lg_sl [.ref (sb 0), .int x1] ++ List.replicate (2 - (lg_sl [.ref (sb 0), .int x1]).length) Slot.unset).toArray = ls at hl ⊢
  have hl : lv_has ls 2 [(0, .ref (sb 0)), (1, .int x1)] := hl
  exact w_X4_done ⟨B.exec, B.bytes, hml, findClass_of_methodNamed B.named, fun w hw => atoms_spec (ws := Cond.code yX4_done cX4_done 2 (some .int) :: wsL_law) B.pre w (List.mem_cons_of_mem _ hw), hK⟩ B.returns B.notSynchronized hl ⟨hW, va_S.rf⟩ h
theorem Y_X4_done : Yv yX4_done RX4 cX4_done 2 (some .int) 1 := ⟨⟨kw_6_2, kw_1_2, by decide +kernel, by decide +kernel, by decide +kernel⟩, kw_6_0, kw_6_1⟩
-- X4_range
def m_X4_range (x1 : Int32) (x2 : Int32) (g : Gs) : Option (Int32 × Gs) :=
  if (g.1 4 0 0) < (3 : Int32) then ((m_X2_add 0 x1 x2 g).bind fun g_3 => (m_X4_done (g_3.1 4 0 0) g_3).bind fun (x_5, g_6) => some (x_5, g_6)) else ((m_X4_stop (8 : Int32) g).bind fun (x_8, g_9) => some (x_8, g_9))
set_option maxHeartbeats 4000000 in
set_option maxRecDepth 100000 in
theorem w_X4_range {x1 : Int32} {x2 : Int32} (C0 : Cx p s m args c cX4_range 3 RX4 D cy) (hr : meth.sig.returnType = (some .int)) (hk : meth.locks = false) {res : Int32 × Gs} (hl : lv_has ls 3 [(0, .ref (sb 0)), (1, .int x1), (2, .int x2)]) (M : Ws D b0 cy sb db g s H locs) (h : m_X4_range x1 x2 g = some res) : W p l e ({ frames := 2, cells := 0, slots := 0, locals := 43 } : Room) s m args below meth c H locs 0 0 (MQ below (QX (some (.int res.1)) D b0 cy sb db res.2) args s 0 0 (fun q => b0 ≤ q)) (F0 m 0 ls []) := by
  obtain ⟨hx, hb, hml, hown, hts, hK⟩ := id C0
  rw [m_X4_range] at h
  refine lv_aload_n hx hb dX4_range_0 rfl (lv_at hl 0 rfl) ?_
  refine gf_RX4_12 C0 M dX4_range_1 ?_
  refine gf_RX4_51 C0 M (by decide) dX4_range_4 ?_
  refine lv_iconst (v := 3) hx hb dX4_range_7 (by decide) ?_
  refine lv_icmp_lt (tgt := 18) hx hb dX4_range_8 (by decide) (fun c_1 => ?_) (fun c_1 => ?_)
  · rw [if_pos c_1] at h
    refine lv_aload_n hx hb dX4_range_18 rfl (lv_at hl 0 rfl) ?_
    refine gf_RX4_12 C0 M dX4_range_19 ?_
    refine lv_iload_n hx hb dX4_range_22 rfl (lv_at hl 1 rfl) ?_
    refine lv_iload_n hx hb dX4_range_23 rfl (lv_at hl 2 rfl) ?_
    obtain ⟨g_3, hc_2, h⟩ := bnd_s h
    refine kV (As := [.int x1, .int x2]) (rest := []) (stk := []) (val := none) (c1 := 0) (s1 := 0) C0 M (k_X2_add hc_2) kw_5_18 Y_X2_add (rv_X2 C0 M (by decide)) ⟨Nat.le_of_ble_eq_true rfl, Nat.le_of_ble_eq_true rfl⟩ rfl hl.1 rfl (Nat.le_of_ble_eq_true rfl) dX4_range_24 rfl rfl ⟨Nat.le_refl _, Nat.le_refl _⟩ rfl (fun H locs M => ?_)
    refine lv_aload_n hx hb dX4_range_27 rfl (lv_at hl 0 rfl) ?_
    refine lv_aload_n hx hb dX4_range_28 rfl (lv_at hl 0 rfl) ?_
    refine gf_RX4_12 C0 M dX4_range_29 ?_
    refine gf_RX4_51 C0 M (by decide) dX4_range_32 ?_
    obtain ⟨⟨x_5, g_6⟩, hc_4, h⟩ := bnd_s h
    try dsimp only at h
    refine kV (As := [.int (g_3.1 4 0 0)]) (rest := []) (stk := [.int x_5]) (val := (some (.int x_5))) (c1 := 0) (s1 := 0) C0 M (k_X4_done hc_4) kw_5_23 Y_X4_done (rv_X4 C0 M) ⟨Nat.le_of_ble_eq_true rfl, Nat.le_of_ble_eq_true rfl⟩ rfl hl.1 rfl (Nat.le_of_ble_eq_true rfl) dX4_range_35 rfl rfl ⟨Nat.le_refl _, Nat.le_refl _⟩ rfl (fun H locs M => ?_)
    obtain rfl := Option.some.inj h
    exact rt_i C0 M hr hk dX4_range_38
  · rw [if_neg c_1] at h
    refine lv_aload_n hx hb dX4_range_11 rfl (lv_at hl 0 rfl) ?_
    refine lv_bipush (v := 8) hx hb dX4_range_12 (by decide) ?_
    obtain ⟨⟨x_8, g_9⟩, hc_7, h⟩ := bnd_s h
    try dsimp only at h
    refine kV (As := [.int (8 : Int32)]) (rest := []) (stk := [.int x_8]) (val := (some (.int x_8))) (c1 := 0) (s1 := 0) C0 M (k_X4_stop hc_7) kw_5_10 Y_X4_stop (rv_X4 C0 M) ⟨Nat.le_of_ble_eq_true rfl, Nat.le_of_ble_eq_true rfl⟩ rfl hl.1 rfl (Nat.le_of_ble_eq_true rfl) dX4_range_14 rfl rfl ⟨Nat.le_refl _, Nat.le_refl _⟩ rfl (fun H locs M => ?_)
    obtain rfl := Option.some.inj h
    exact rt_i C0 M hr hk dX4_range_17
theorem k_X4_range {x1 : Int32} {x2 : Int32} {res : Int32 × Gs} (h : m_X4_range x1 x2 g = some res) : CM l yX4_range cX4_range 3 (some .int) ({ frames := 2, cells := 0, slots := 0, locals := 43 } : Room) [.ref (sb 0), .int x1, .int x2] (some (.int res.1)) D b0 cy sb db g res.2 := by
  refine Met.ofW (cc := cX4_range) (maxL := 3) (ret := (some .int)) (by decide) rfl ?_
  intro p e s m args below meth c s₁ B hml hv
  obtain ⟨rfl, hW, hK⟩ := hv
  have hl := lv_entry [.ref (sb 0), .int x1, .int x2] (n := 3) (Nat.le_of_ble_eq_true rfl)
  rw [lg_entry_eq]
  generalize (lg_sl [.ref (sb 0), .int x1, .int x2] ++ List.replicate (3 - (lg_sl [.ref (sb 0), .int x1, .int x2]).length) Slot.unset).toArray = ls at hl ⊢
  have hl : lv_has ls 3 [(0, .ref (sb 0)), (1, .int x1), (2, .int x2)] := hl
  exact w_X4_range ⟨B.exec, B.bytes, hml, findClass_of_methodNamed B.named, fun w hw => atoms_spec (ws := Cond.code yX4_range cX4_range 3 (some .int) :: wsL_law) B.pre w (List.mem_cons_of_mem _ hw), hK⟩ B.returns B.notSynchronized hl ⟨hW, va_S.rf⟩ h
theorem Y_X4_range : Yv yX4_range RX4 cX4_range 3 (some .int) 2 := ⟨⟨kw_5_8, kw_1_2, by decide +kernel, by decide +kernel, by decide +kernel⟩, kw_5_6, kw_5_7⟩
-- X4_shapeless
def m_X4_shapeless  (g : Gs) : Option (Int32 × Gs) :=
  lett (g.1 4 0 0) fun x_1 => lett (sI g 4 0 0 (0 : Int32)) fun g_3 => (m_X4_done x_1 g_3).bind fun (x_6, g_7) => some (x_6, g_7)
set_option maxHeartbeats 4000000 in
set_option maxRecDepth 100000 in
theorem w_X4_shapeless  (C0 : Cx p s m args c cX4_shapeless 2 RX4 D cy) (hr : meth.sig.returnType = (some .int)) (hk : meth.locks = false) {res : Int32 × Gs} (hl : lv_has ls 2 [(0, .ref (sb 0))]) (M : Ws D b0 cy sb db g s H locs) (h : m_X4_shapeless  g = some res) : W p l e ({ frames := 2, cells := 0, slots := 0, locals := 43 } : Room) s m args below meth c H locs 0 0 (MQ below (QX (some (.int res.1)) D b0 cy sb db res.2) args s 0 0 (fun q => b0 ≤ q)) (F0 m 0 ls []) := by
  obtain ⟨hx, hb, hml, hown, hts, hK⟩ := id C0
  rw [m_X4_shapeless] at h
  refine lv_aload_n hx hb dX4_shapeless_0 rfl (lv_at hl 0 rfl) ?_
  refine gf_RX4_12 C0 M dX4_shapeless_1 ?_
  refine gf_RX4_51 C0 M (by decide) dX4_shapeless_4 ?_
  obtain ⟨x_1, hn_2, h⟩ := lett_s h
  refine nm_i hn_2 ?_
  refine lv_istore_n (lv' := [(1, .int x_1), (0, .ref (sb 0))]) hx hb dX4_shapeless_7 rfl hl (by decide) rfl (fun ls hl => ?_)
  refine lv_aload_n hx hb dX4_shapeless_8 rfl (lv_at hl 1 rfl) ?_
  refine gf_RX4_12 C0 M dX4_shapeless_9 ?_
  refine lv_iconst (v := 0) hx hb dX4_shapeless_12 (by decide) ?_
  obtain ⟨g_3, hg_4, h⟩ := lett_s h
  refine pf_RX4_51 C0 M (by decide) hg_4 dX4_shapeless_13 (fun H locs M => ?_)
  refine lv_aload_n hx hb dX4_shapeless_16 rfl (lv_at hl 1 rfl) ?_
  refine lv_iload_n hx hb dX4_shapeless_17 rfl (lv_at hl 0 rfl) ?_
  obtain ⟨⟨x_6, g_7⟩, hc_5, h⟩ := bnd_s h
  try dsimp only at h
  refine kV (As := [.int x_1]) (rest := []) (stk := [.int x_6]) (val := (some (.int x_6))) (c1 := 0) (s1 := 0) C0 M (k_X4_done hc_5) kw_5_23 Y_X4_done (rv_X4 C0 M) ⟨Nat.le_of_ble_eq_true rfl, Nat.le_of_ble_eq_true rfl⟩ rfl hl.1 rfl (Nat.le_of_ble_eq_true rfl) dX4_shapeless_18 rfl rfl ⟨Nat.le_refl _, Nat.le_refl _⟩ rfl (fun H locs M => ?_)
  obtain rfl := Option.some.inj h
  exact rt_i C0 M hr hk dX4_shapeless_21
theorem k_X4_shapeless  {res : Int32 × Gs} (h : m_X4_shapeless  g = some res) : CM l yX4_shapeless cX4_shapeless 2 (some .int) ({ frames := 2, cells := 0, slots := 0, locals := 43 } : Room) [.ref (sb 0)] (some (.int res.1)) D b0 cy sb db g res.2 := by
  refine Met.ofW (cc := cX4_shapeless) (maxL := 2) (ret := (some .int)) (by decide) rfl ?_
  intro p e s m args below meth c s₁ B hml hv
  obtain ⟨rfl, hW, hK⟩ := hv
  have hl := lv_entry [.ref (sb 0)] (n := 2) (Nat.le_of_ble_eq_true rfl)
  rw [lg_entry_eq]
  generalize (lg_sl [.ref (sb 0)] ++ List.replicate (2 - (lg_sl [.ref (sb 0)]).length) Slot.unset).toArray = ls at hl ⊢
  have hl : lv_has ls 2 [(0, .ref (sb 0))] := hl
  exact w_X4_shapeless ⟨B.exec, B.bytes, hml, findClass_of_methodNamed B.named, fun w hw => atoms_spec (ws := Cond.code yX4_shapeless cX4_shapeless 2 (some .int) :: wsL_law) B.pre w (List.mem_cons_of_mem _ hw), hK⟩ B.returns B.notSynchronized hl ⟨hW, va_S.rf⟩ h
theorem Y_X4_shapeless : Yv yX4_shapeless RX4 cX4_shapeless 2 (some .int) 0 := ⟨⟨kw_6_19, kw_1_2, by decide +kernel, by decide +kernel, by decide +kernel⟩, kw_6_17, kw_6_18⟩
-- X4_nextArray
def m_X4_nextArray (x1 : Int32) (g : Gs) : Option (Nat × Gs) :=
  chk (inb (g.1 0 0 0) 24) (lett (sI g 0 0 0 ((g.1 0 0 0) + (1 : Int32))) fun g_3 => lett (sI g_3 16 ((g.1 0 0 0).toNatClampNeg) 0 x1) fun g_5 => lett (sI g_5 17 ((g.1 0 0 0).toNatClampNeg) 0 (-1 : Int32)) fun g_7 => lett (sI g_7 4 (((g.1 0 0 0).toNatClampNeg) + 1) 0 (0 : Int32)) fun g_9 => some ((g.1 0 0 0).toNatClampNeg, g_9))
set_option maxHeartbeats 4000000 in
set_option maxRecDepth 100000 in
theorem w_X4_nextArray {x1 : Int32} (C0 : Cx p s m args c cX4_nextArray 3 RX4 D cy) (hr : meth.sig.returnType = (some (.object "ArrayMaker$MadeArray"))) (hk : meth.locks = false) {res : Nat × Gs} (hl : lv_has ls 3 [(0, .ref (sb 0)), (1, .int x1)]) (M : Ws D b0 cy sb db g s H locs) (h : m_X4_nextArray x1 g = some res) : W p l e ({ frames := 0, cells := 0, slots := 0, locals := 0 } : Room) s m args below meth c H locs 0 0 (MQ below (QX (some (.ref (sb (400 + res.1)))) D b0 cy sb db res.2) args s 0 0 (fun q => b0 ≤ q)) (F0 m 0 ls []) := by
  obtain ⟨hx, hb, hml, hown, hts, hK⟩ := id C0
  rw [m_X4_nextArray] at h
  refine lv_aload_n hx hb dX4_nextArray_0 rfl (lv_at hl 0 rfl) ?_
  refine gf_RX4_32 C0 M dX4_nextArray_1 ?_
  refine lv_aload_n hx hb dX4_nextArray_4 rfl (lv_at hl 0 rfl) ?_
  refine gf_RX4_40 C0 M dX4_nextArray_5 ?_
  obtain ⟨hi_1, h⟩ := chk_s h
  have hB_2 : (g.1 0 0 0).toNatClampNeg < 24 := Nat.not_le.mp fun q => hi_1 (Or.inr q)
  refine al_ARRS C0 M hi_1 dX4_nextArray_8 ?_
  refine lv_astore_n (lv' := [(2, .ref (sb (400 + ((g.1 0 0 0).toNatClampNeg)))), (0, .ref (sb 0)), (1, .int x1)]) hx hb dX4_nextArray_9 rfl hl (by decide) rfl (fun ls hl => ?_)
  refine lv_aload_n hx hb dX4_nextArray_10 rfl (lv_at hl 1 rfl) ?_
  refine lv_dup hx hb dX4_nextArray_11 rfl ?_
  refine gf_RX4_40 C0 M dX4_nextArray_12 ?_
  refine lv_iconst (v := 1) hx hb dX4_nextArray_15 (by decide) ?_
  refine lv_iadd hx hb dX4_nextArray_16 ?_
  obtain ⟨g_3, hg_4, h⟩ := lett_s h
  refine pf_RX4_40 C0 M hg_4 dX4_nextArray_17 (fun H locs M => ?_)
  refine lv_aload_n hx hb dX4_nextArray_20 rfl (lv_at hl 0 rfl) ?_
  refine lv_iload_n hx hb dX4_nextArray_21 rfl (lv_at hl 2 rfl) ?_
  obtain ⟨g_5, hg_6, h⟩ := lett_s h
  refine pf_RX4_106 C0 M hB_2 hg_6 dX4_nextArray_22 (fun H locs M => ?_)
  refine lv_aload_n hx hb dX4_nextArray_25 rfl (lv_at hl 0 rfl) ?_
  refine lv_iconst (v := -1) hx hb dX4_nextArray_26 (by decide) ?_
  obtain ⟨g_7, hg_8, h⟩ := lett_s h
  refine pf_RX4_100 C0 M hB_2 hg_8 dX4_nextArray_27 (fun H locs M => ?_)
  refine lv_aload_n hx hb dX4_nextArray_30 rfl (lv_at hl 0 rfl) ?_
  refine gf_RX4_88 C0 M hB_2 dX4_nextArray_31 ?_
  refine lv_iconst (v := 0) hx hb dX4_nextArray_34 (by decide) ?_
  obtain ⟨g_9, hg_10, h⟩ := lett_s h
  refine pf_RX4_51 C0 M (Nat.succ_lt_succ hB_2) hg_10 dX4_nextArray_35 (fun H locs M => ?_)
  refine lv_aload_n hx hb dX4_nextArray_38 rfl (lv_at hl 0 rfl) ?_
  obtain rfl := Option.some.inj h
  exact rt_a (o := some ((g.1 0 0 0).toNatClampNeg)) C0 M hr hk dX4_nextArray_39
theorem k_X4_nextArray {x1 : Int32} {res : Nat × Gs} (h : m_X4_nextArray x1 g = some res) : CM l yX4_nextArray cX4_nextArray 3 (some (.object "ArrayMaker$MadeArray")) ({ frames := 0, cells := 0, slots := 0, locals := 0 } : Room) [.ref (sb 0), .int x1] (some (.ref (sb (400 + res.1)))) D b0 cy sb db g res.2 := by
  refine Met.ofW (cc := cX4_nextArray) (maxL := 3) (ret := (some (.object "ArrayMaker$MadeArray"))) (by decide) rfl ?_
  intro p e s m args below meth c s₁ B hml hv
  obtain ⟨rfl, hW, hK⟩ := hv
  have hl := lv_entry [.ref (sb 0), .int x1] (n := 3) (Nat.le_of_ble_eq_true rfl)
  rw [lg_entry_eq]
  generalize (lg_sl [.ref (sb 0), .int x1] ++ List.replicate (3 - (lg_sl [.ref (sb 0), .int x1]).length) Slot.unset).toArray = ls at hl ⊢
  have hl : lv_has ls 3 [(0, .ref (sb 0)), (1, .int x1)] := hl
  exact w_X4_nextArray ⟨B.exec, B.bytes, hml, findClass_of_methodNamed B.named, fun w hw => atoms_spec (ws := Cond.code yX4_nextArray cX4_nextArray 3 (some (.object "ArrayMaker$MadeArray")) :: wsL_law) B.pre w (List.mem_cons_of_mem _ hw), hK⟩ B.returns B.notSynchronized hl ⟨hW, va_S.rf⟩ h
theorem Y_X4_nextArray : Yv yX4_nextArray RX4 cX4_nextArray 3 (some (.object "ArrayMaker$MadeArray")) 1 := ⟨⟨kw_10_12, kw_1_2, by decide +kernel, by decide +kernel, by decide +kernel⟩, kw_10_10, kw_10_11⟩
-- X4_nextArrayIn
def m_X4_nextArrayIn (o1 : Nat) (x2 : Int32) (g : Gs) : Option (Nat × Gs) :=
  chk (o1 < 25) ((m_X4_nextArray x2 g).bind fun (n_2, g_3) => chk (n_2 < 24) ((m_X2_addAll (n_2 + 1) o1 g_3).bind fun g_6 => some (n_2, g_6)))
set_option maxHeartbeats 4000000 in
set_option maxRecDepth 100000 in
theorem w_X4_nextArrayIn {o1 : Nat} {x2 : Int32} (C0 : Cx p s m args c cX4_nextArrayIn 4 RX4 D cy) (hr : meth.sig.returnType = (some (.object "ArrayMaker$MadeArray"))) (hk : meth.locks = false) {res : Nat × Gs} (hl : lv_has ls 4 [(0, .ref (sb 0)), (1, .ref (sb (100 + o1))), (2, .int x2)]) (M : Ws D b0 cy sb db g s H locs) (h : m_X4_nextArrayIn o1 x2 g = some res) : W p l e ({ frames := 2, cells := 0, slots := 0, locals := 44 } : Room) s m args below meth c H locs 0 0 (MQ below (QX (some (.ref (sb (400 + res.1)))) D b0 cy sb db res.2) args s 0 0 (fun q => b0 ≤ q)) (F0 m 0 ls []) := by
  obtain ⟨hx, hb, hml, hown, hts, hK⟩ := id C0
  rw [m_X4_nextArrayIn] at h
  obtain ⟨hB1, h⟩ := chk_s h
  refine lv_aload_n hx hb dX4_nextArrayIn_0 rfl (lv_at hl 0 rfl) ?_
  refine lv_iload_n hx hb dX4_nextArrayIn_1 rfl (lv_at hl 2 rfl) ?_
  obtain ⟨⟨n_2, g_3⟩, hc_1, h⟩ := bnd_s h
  try dsimp only at h
  obtain ⟨hB_4, h⟩ := chk_s h
  refine kV (As := [.int x2]) (rest := []) (stk := [.ref (sb (400 + n_2))]) (val := (some (.ref (sb (400 + n_2))))) (c1 := 0) (s1 := 0) C0 M (k_X4_nextArray hc_1) kw_10_9 Y_X4_nextArray (rv_X4 C0 M) ⟨Nat.le_of_ble_eq_true rfl, Nat.le_of_ble_eq_true rfl⟩ rfl hl.1 rfl (Nat.le_of_ble_eq_true rfl) dX4_nextArrayIn_2 rfl rfl ⟨Nat.le_refl _, Nat.le_refl _⟩ rfl (fun H locs M => ?_)
  refine lv_astore_n (lv' := [(3, .ref (sb (400 + n_2))), (0, .ref (sb 0)), (1, .ref (sb (100 + o1))), (2, .int x2)]) hx hb dX4_nextArrayIn_5 rfl hl (by decide) rfl (fun ls hl => ?_)
  refine lv_aload_n hx hb dX4_nextArrayIn_6 rfl (lv_at hl 0 rfl) ?_
  refine gf_RX4_88 C0 M hB_4 dX4_nextArrayIn_7 ?_
  refine lv_aload_n hx hb dX4_nextArrayIn_10 rfl (lv_at hl 2 rfl) ?_
  obtain ⟨g_6, hc_5, h⟩ := bnd_s h
  refine kV (As := [.ref (sb (100 + o1))]) (rest := []) (stk := []) (val := none) (c1 := 0) (s1 := 0) C0 M (k_X2_addAll hc_5) kw_10_15 Y_X2_addAll (rv_X2 C0 M (Nat.succ_lt_succ hB_4)) ⟨Nat.le_of_ble_eq_true rfl, Nat.le_of_ble_eq_true rfl⟩ rfl hl.1 rfl (Nat.le_of_ble_eq_true rfl) dX4_nextArrayIn_11 rfl rfl ⟨Nat.le_refl _, Nat.le_refl _⟩ rfl (fun H locs M => ?_)
  refine lv_aload_n hx hb dX4_nextArrayIn_14 rfl (lv_at hl 0 rfl) ?_
  obtain rfl := Option.some.inj h
  exact rt_a (o := some n_2) C0 M hr hk dX4_nextArrayIn_15
theorem k_X4_nextArrayIn {o1 : Nat} {x2 : Int32} {res : Nat × Gs} (h : m_X4_nextArrayIn o1 x2 g = some res) : CM l yX4_nextArrayIn cX4_nextArrayIn 4 (some (.object "ArrayMaker$MadeArray")) ({ frames := 2, cells := 0, slots := 0, locals := 44 } : Room) [.ref (sb 0), .ref (sb (100 + o1)), .int x2] (some (.ref (sb (400 + res.1)))) D b0 cy sb db g res.2 := by
  refine Met.ofW (cc := cX4_nextArrayIn) (maxL := 4) (ret := (some (.object "ArrayMaker$MadeArray"))) (by decide) rfl ?_
  intro p e s m args below meth c s₁ B hml hv
  obtain ⟨rfl, hW, hK⟩ := hv
  have hl := lv_entry [.ref (sb 0), .ref (sb (100 + o1)), .int x2] (n := 4) (Nat.le_of_ble_eq_true rfl)
  rw [lg_entry_eq]
  generalize (lg_sl [.ref (sb 0), .ref (sb (100 + o1)), .int x2] ++ List.replicate (4 - (lg_sl [.ref (sb 0), .ref (sb (100 + o1)), .int x2]).length) Slot.unset).toArray = ls at hl ⊢
  have hl : lv_has ls 4 [(0, .ref (sb 0)), (1, .ref (sb (100 + o1))), (2, .int x2)] := hl
  exact w_X4_nextArrayIn ⟨B.exec, B.bytes, hml, findClass_of_methodNamed B.named, fun w hw => atoms_spec (ws := Cond.code yX4_nextArrayIn cX4_nextArrayIn 4 (some (.object "ArrayMaker$MadeArray")) :: wsL_law) B.pre w (List.mem_cons_of_mem _ hw), hK⟩ B.returns B.notSynchronized hl ⟨hW, va_S.rf⟩ h
theorem Y_X4_nextArrayIn : Yv yX4_nextArrayIn RX4 cX4_nextArrayIn 4 (some (.object "ArrayMaker$MadeArray")) 2 := ⟨⟨kw_10_7, kw_1_2, by decide +kernel, by decide +kernel, by decide +kernel⟩, kw_10_5, kw_10_6⟩
-- X4_addOwnRow
def m_X4_addOwnRow_J25 (ns0 : Nat) (xs2 : Int32) (xs3 : Int32) (g : Gs) : Option (Gs) :=
  (m_X3_addRow xs2 xs3 g).bind fun (x_5, g_6) => lett (sI g_6 17 ns0 0 x_5) fun g_7 => some g_7
def m_X4_addOwnRow (n1 : Nat) (g : Gs) : Option (Gs) :=
  chk (n1 < 24) ((m_X2_items (n1 + 1) g).bind fun x_2 => if (g.1 16 n1 0) = (3 : Int32) then (m_X4_addOwnRow_J25 n1 x_2 (0 : Int32) g) else (m_X4_addOwnRow_J25 n1 x_2 (1 : Int32) g))
set_option maxHeartbeats 4000000 in
set_option maxRecDepth 100000 in
theorem w_X4_addOwnRow_J25 {ns0 : Nat} {xs2 : Int32} {xs3 : Int32} (hBs0 : ns0 < 24) (C0 : Cx p s m args c cX4_addOwnRow 2 RX4 D cy) (hr : meth.sig.returnType = none) (hk : meth.locks = false) {res : Gs} (hl : lv_has ls 2 []) (M : Ws D b0 cy sb db g s H locs) (h : m_X4_addOwnRow_J25 ns0 xs2 xs3 g = some res) : W p l e ({ frames := 3, cells := 0, slots := 0, locals := 67 } : Room) s m args below meth c H locs 0 0 (MQ below (QX none D b0 cy sb db res) args s 0 0 (fun q => b0 ≤ q)) (F0 m 25 ls [.int xs3, .int xs2, .ref (sb 8), .ref (sb (400 + ns0))]) := by
  obtain ⟨hx, hb, hml, hown, hts, hK⟩ := id C0
  rw [m_X4_addOwnRow_J25] at h
  obtain ⟨⟨x_5, g_6⟩, hc_4, h⟩ := bnd_s h
  try dsimp only at h
  refine kV (As := [.int xs2, .int xs3]) (rest := [.ref (sb (400 + ns0))]) (stk := [.int x_5, .ref (sb (400 + ns0))]) (val := (some (.int x_5))) (c1 := 0) (s1 := 0) C0 M (k_X3_addRow hc_4) kw_11_6 Y_X3_addRow (rv_X3 C0 M) ⟨Nat.le_of_ble_eq_true rfl, Nat.le_of_ble_eq_true rfl⟩ rfl hl.1 rfl (Nat.le_of_ble_eq_true rfl) dX4_addOwnRow_25 rfl rfl ⟨Nat.le_refl _, Nat.le_refl _⟩ rfl (fun H locs M => ?_)
  obtain ⟨g_7, hg_8, h⟩ := lett_s h
  refine pf_RX4_100 C0 M hBs0 hg_8 dX4_addOwnRow_28 (fun H locs M => ?_)
  obtain rfl := Option.some.inj h
  exact rt_v C0 M hr hk dX4_addOwnRow_31
set_option maxHeartbeats 4000000 in
set_option maxRecDepth 100000 in
theorem w_X4_addOwnRow {n1 : Nat} (C0 : Cx p s m args c cX4_addOwnRow 2 RX4 D cy) (hr : meth.sig.returnType = none) (hk : meth.locks = false) {res : Gs} (hl : lv_has ls 2 [(0, .ref (sb 0)), (1, .ref (sb (400 + n1)))]) (M : Ws D b0 cy sb db g s H locs) (h : m_X4_addOwnRow n1 g = some res) : W p l e ({ frames := 3, cells := 0, slots := 0, locals := 67 } : Room) s m args below meth c H locs 0 0 (MQ below (QX none D b0 cy sb db res) args s 0 0 (fun q => b0 ≤ q)) (F0 m 0 ls []) := by
  obtain ⟨hx, hb, hml, hown, hts, hK⟩ := id C0
  rw [m_X4_addOwnRow] at h
  obtain ⟨hB1, h⟩ := chk_s h
  refine lv_aload_n hx hb dX4_addOwnRow_0 rfl (lv_at hl 1 rfl) ?_
  refine lv_aload_n hx hb dX4_addOwnRow_1 rfl (lv_at hl 0 rfl) ?_
  refine gf_RX4_26 C0 M dX4_addOwnRow_2 ?_
  refine lv_aload_n hx hb dX4_addOwnRow_5 rfl (lv_at hl 1 rfl) ?_
  refine gf_RX4_88 C0 M hB1 dX4_addOwnRow_6 ?_
  obtain ⟨x_2, hc_1, h⟩ := bnd_s h
  refine kV (As := []) (rest := [.ref (sb 8), .ref (sb (400 + n1))]) (stk := [.int x_2, .ref (sb 8), .ref (sb (400 + n1))]) (val := (some (.int x_2))) (c1 := 0) (s1 := 0) C0 M (k_X2_items hc_1) kw_7_10 Y_X2_items (rv_X2 C0 M (Nat.succ_lt_succ hB1)) ⟨Nat.le_of_ble_eq_true rfl, Nat.le_of_ble_eq_true rfl⟩ rfl hl.1 rfl (Nat.le_of_ble_eq_true rfl) dX4_addOwnRow_9 rfl rfl ⟨Nat.le_refl _, Nat.le_refl _⟩ rfl (fun H locs M => ?_)
  refine lv_aload_n hx hb dX4_addOwnRow_12 rfl (lv_at hl 1 rfl) ?_
  refine gf_RX4_106 C0 M hB1 dX4_addOwnRow_13 ?_
  refine lv_iconst (v := 3) hx hb dX4_addOwnRow_16 (by decide) ?_
  refine lv_icmp_eq (tgt := 24) hx hb dX4_addOwnRow_17 (by decide) (fun c_3 => ?_) (fun c_3 => ?_)
  · rw [if_pos c_3] at h
    refine lv_iconst (v := 0) hx hb dX4_addOwnRow_24 (by decide) ?_
    exact w_X4_addOwnRow_J25 hB1 C0 hr hk (lv_sub hl [] rfl) M h
  · rw [if_neg c_3] at h
    refine lv_iconst (v := 1) hx hb dX4_addOwnRow_20 (by decide) ?_
    refine lv_goto (tgt := 25) hx hb dX4_addOwnRow_21 (by decide) ?_
    exact w_X4_addOwnRow_J25 hB1 C0 hr hk (lv_sub hl [] rfl) M h
theorem k_X4_addOwnRow {n1 : Nat} {res : Gs} (h : m_X4_addOwnRow n1 g = some res) : CM l yX4_addOwnRow cX4_addOwnRow 2 none ({ frames := 3, cells := 0, slots := 0, locals := 67 } : Room) [.ref (sb 0), .ref (sb (400 + n1))] none D b0 cy sb db g res := by
  refine Met.ofW (cc := cX4_addOwnRow) (maxL := 2) (ret := none) (by decide) rfl ?_
  intro p e s m args below meth c s₁ B hml hv
  obtain ⟨rfl, hW, hK⟩ := hv
  have hl := lv_entry [.ref (sb 0), .ref (sb (400 + n1))] (n := 2) (Nat.le_of_ble_eq_true rfl)
  rw [lg_entry_eq]
  generalize (lg_sl [.ref (sb 0), .ref (sb (400 + n1))] ++ List.replicate (2 - (lg_sl [.ref (sb 0), .ref (sb (400 + n1))]).length) Slot.unset).toArray = ls at hl ⊢
  have hl : lv_has ls 2 [(0, .ref (sb 0)), (1, .ref (sb (400 + n1)))] := hl
  exact w_X4_addOwnRow ⟨B.exec, B.bytes, hml, findClass_of_methodNamed B.named, fun w hw => atoms_spec (ws := Cond.code yX4_addOwnRow cX4_addOwnRow 2 none :: wsL_law) B.pre w (List.mem_cons_of_mem _ hw), hK⟩ B.returns B.notSynchronized hl ⟨hW, va_S.rf⟩ h
theorem Y_X4_addOwnRow : Yv yX4_addOwnRow RX4 cX4_addOwnRow 2 none 1 := ⟨⟨kw_11_13, kw_1_2, by decide +kernel, by decide +kernel, by decide +kernel⟩, kw_11_11, kw_11_12⟩
-- X4_arrayOf
def m_X4_arrayOf_J22 (os0 : Option Nat) (g : Gs) : Option (Option Nat) :=
  some os0
def m_X4_arrayOf_J21  (g : Gs) : Option (Option Nat) :=
  m_X4_arrayOf_J22 none g
def m_X4_arrayOf (x1 : Int32) (g : Gs) : Option (Option Nat) :=
  if x1 < 0 then (m_X4_arrayOf_J21  g) else (if (g.1 0 0 0) ≤ x1 then (m_X4_arrayOf_J21  g) else (chk (inb x1 24) (m_X4_arrayOf_J22 (some x1.toNatClampNeg) g)))
set_option maxHeartbeats 4000000 in
set_option maxRecDepth 100000 in
theorem w_X4_arrayOf_J22 {os0 : Option Nat} (C0 : Cx p s m args c cX4_arrayOf 2 RX4 D cy) (hr : meth.sig.returnType = (some (.object "ArrayMaker$MadeArray"))) (hk : meth.locks = false) {res : Option Nat} (hl : lv_has ls 2 []) (M : Ws D b0 cy sb db g s H locs) (h : m_X4_arrayOf_J22 os0 g = some res) : W p l e ({ frames := 0, cells := 0, slots := 0, locals := 0 } : Room) s m args below meth c H locs 0 0 (MQ below (QX (some (rfA sb res)) D b0 cy sb db g) args s 0 0 (fun q => b0 ≤ q)) (F0 m 22 ls [rfA sb os0]) := by
  obtain ⟨hx, hb, hml, hown, hts, hK⟩ := id C0
  rw [m_X4_arrayOf_J22] at h
  obtain rfl := Option.some.inj h
  exact rt_a (o := os0) C0 M hr hk dX4_arrayOf_22
set_option maxHeartbeats 4000000 in
set_option maxRecDepth 100000 in
theorem w_X4_arrayOf_J21  (C0 : Cx p s m args c cX4_arrayOf 2 RX4 D cy) (hr : meth.sig.returnType = (some (.object "ArrayMaker$MadeArray"))) (hk : meth.locks = false) {res : Option Nat} (hl : lv_has ls 2 []) (M : Ws D b0 cy sb db g s H locs) (h : m_X4_arrayOf_J21  g = some res) : W p l e ({ frames := 0, cells := 0, slots := 0, locals := 0 } : Room) s m args below meth c H locs 0 0 (MQ below (QX (some (rfA sb res)) D b0 cy sb db g) args s 0 0 (fun q => b0 ≤ q)) (F0 m 21 ls []) := by
  obtain ⟨hx, hb, hml, hown, hts, hK⟩ := id C0
  rw [m_X4_arrayOf_J21] at h
  refine lv_null hx hb dX4_arrayOf_21 ?_
  exact w_X4_arrayOf_J22 C0 hr hk hl M h
set_option maxHeartbeats 4000000 in
set_option maxRecDepth 100000 in
theorem w_X4_arrayOf {x1 : Int32} (C0 : Cx p s m args c cX4_arrayOf 2 RX4 D cy) (hr : meth.sig.returnType = (some (.object "ArrayMaker$MadeArray"))) (hk : meth.locks = false) {res : Option Nat} (hl : lv_has ls 2 [(0, .ref (sb 0)), (1, .int x1)]) (M : Ws D b0 cy sb db g s H locs) (h : m_X4_arrayOf x1 g = some res) : W p l e ({ frames := 0, cells := 0, slots := 0, locals := 0 } : Room) s m args below meth c H locs 0 0 (MQ below (QX (some (rfA sb res)) D b0 cy sb db g) args s 0 0 (fun q => b0 ≤ q)) (F0 m 0 ls []) := by
  obtain ⟨hx, hb, hml, hown, hts, hK⟩ := id C0
  rw [m_X4_arrayOf] at h
  refine lv_iload_n hx hb dX4_arrayOf_0 rfl (lv_at hl 1 rfl) ?_
  refine lv_if_lt (tgt := 21) hx hb dX4_arrayOf_1 (by decide) (fun c_1 => ?_) (fun c_1 => ?_)
  · rw [if_pos c_1] at h
    exact w_X4_arrayOf_J21 C0 hr hk (lv_sub hl [] rfl) M h
  · rw [if_neg c_1] at h
    refine lv_iload_n hx hb dX4_arrayOf_4 rfl (lv_at hl 1 rfl) ?_
    refine lv_aload_n hx hb dX4_arrayOf_5 rfl (lv_at hl 0 rfl) ?_
    refine gf_RX4_40 C0 M dX4_arrayOf_6 ?_
    refine lv_icmp_ge (tgt := 21) hx hb dX4_arrayOf_9 (by decide) (fun c_2 => ?_) (fun c_2 => ?_)
    · rw [if_pos c_2] at h
      exact w_X4_arrayOf_J21 C0 hr hk (lv_sub hl [] rfl) M h
    · rw [if_neg c_2] at h
      refine lv_aload_n hx hb dX4_arrayOf_12 rfl (lv_at hl 0 rfl) ?_
      refine gf_RX4_32 C0 M dX4_arrayOf_13 ?_
      refine lv_iload_n hx hb dX4_arrayOf_16 rfl (lv_at hl 1 rfl) ?_
      obtain ⟨hi_3, h⟩ := chk_s h
      have hB_4 : x1.toNatClampNeg < 24 := Nat.not_le.mp fun q => hi_3 (Or.inr q)
      refine al_ARRS C0 M hi_3 dX4_arrayOf_17 ?_
      refine lv_goto (tgt := 22) hx hb dX4_arrayOf_18 (by decide) ?_
      exact w_X4_arrayOf_J22 C0 hr hk (lv_sub hl [] rfl) M h
theorem k_X4_arrayOf {x1 : Int32} {res : Option Nat} (h : m_X4_arrayOf x1 g = some res) : CM l yX4_arrayOf cX4_arrayOf 2 (some (.object "ArrayMaker$MadeArray")) ({ frames := 0, cells := 0, slots := 0, locals := 0 } : Room) [.ref (sb 0), .int x1] (some (rfA sb res)) D b0 cy sb db g g := by
  refine Met.ofW (cc := cX4_arrayOf) (maxL := 2) (ret := (some (.object "ArrayMaker$MadeArray"))) (by decide) rfl ?_
  intro p e s m args below meth c s₁ B hml hv
  obtain ⟨rfl, hW, hK⟩ := hv
  have hl := lv_entry [.ref (sb 0), .int x1] (n := 2) (Nat.le_of_ble_eq_true rfl)
  rw [lg_entry_eq]
  generalize (lg_sl [.ref (sb 0), .int x1] ++ List.replicate (2 - (lg_sl [.ref (sb 0), .int x1]).length) Slot.unset).toArray = ls at hl ⊢
  have hl : lv_has ls 2 [(0, .ref (sb 0)), (1, .int x1)] := hl
  exact w_X4_arrayOf ⟨B.exec, B.bytes, hml, findClass_of_methodNamed B.named, fun w hw => atoms_spec (ws := Cond.code yX4_arrayOf cX4_arrayOf 2 (some (.object "ArrayMaker$MadeArray")) :: wsL_law) B.pre w (List.mem_cons_of_mem _ hw), hK⟩ B.returns B.notSynchronized hl ⟨hW, va_S.rf⟩ h
theorem Y_X4_arrayOf : Yv yX4_arrayOf RX4 cX4_arrayOf 2 (some (.object "ArrayMaker$MadeArray")) 1 := ⟨⟨kw_13_20, kw_1_2, by decide +kernel, by decide +kernel, by decide +kernel⟩, kw_13_18, kw_13_19⟩
-- X4_whyNoRow
def m_X4_whyNoRow_J20 (xs0 : Int32) (g : Gs) : Option (Int32) :=
  some xs0
def m_X4_whyNoRow (o1 : Option Nat) (g : Gs) : Option (Int32) :=
  cas o1 (some (7 : Int32)) fun n_1 => if (g.1 16 n_1 0) = (4 : Int32) then (m_X4_whyNoRow_J20 (2 : Int32) g) else (m_X4_whyNoRow_J20 (0 : Int32) g)
set_option maxHeartbeats 4000000 in
set_option maxRecDepth 100000 in
theorem w_X4_whyNoRow_J20 {xs0 : Int32} (C0 : Cx p s m args c cX4_whyNoRow 2 RX4 D cy) (hr : meth.sig.returnType = (some .int)) (hk : meth.locks = false) {res : Int32} (hl : lv_has ls 2 []) (M : Ws D b0 cy sb db g s H locs) (h : m_X4_whyNoRow_J20 xs0 g = some res) : W p l e ({ frames := 0, cells := 0, slots := 0, locals := 0 } : Room) s m args below meth c H locs 0 0 (MQ below (QX (some (.int res)) D b0 cy sb db g) args s 0 0 (fun q => b0 ≤ q)) (F0 m 20 ls [.int xs0]) := by
  obtain ⟨hx, hb, hml, hown, hts, hK⟩ := id C0
  rw [m_X4_whyNoRow_J20] at h
  obtain rfl := Option.some.inj h
  exact rt_i C0 M hr hk dX4_whyNoRow_20
set_option maxHeartbeats 4000000 in
set_option maxRecDepth 100000 in
theorem w_X4_whyNoRow {o1 : Option Nat} (C0 : Cx p s m args c cX4_whyNoRow 2 RX4 D cy) (hr : meth.sig.returnType = (some .int)) (hk : meth.locks = false) {res : Int32} (hl : lv_has ls 2 [(0, .ref (sb 0)), (1, rfA sb o1)]) (M : Ws D b0 cy sb db g s H locs) (h : m_X4_whyNoRow o1 g = some res) : W p l e ({ frames := 0, cells := 0, slots := 0, locals := 0 } : Room) s m args below meth c H locs 0 0 (MQ below (QX (some (.int res)) D b0 cy sb db g) args s 0 0 (fun q => b0 ≤ q)) (F0 m 0 ls []) := by
  obtain ⟨hx, hb, hml, hown, hts, hK⟩ := id C0
  rw [m_X4_whyNoRow] at h
  refine lq_aload_n hx hb o1 dX4_whyNoRow_0 rfl (lv_at hl 1 rfl) ?_
  cases o1 with
  | none =>
    try dsimp only [cas] at h
    refine lv_ifnonnullN hx hb dX4_whyNoRow_1 ?_
    refine lv_bipush (v := 7) hx hb dX4_whyNoRow_4 (by decide) ?_
    obtain rfl := Option.some.inj h
    exact rt_i C0 M hr hk dX4_whyNoRow_6
  | some n_1 =>
    obtain ⟨hB_2, h⟩ := chk_s (show chk _ _ = _ from h)
    try dsimp only at h
    have hl : lv_has ls 2 [(0, .ref (sb 0)), (1, .ref (sb (400 + n_1)))] := hl
    refine lv_ifnonnull (tgt := 7) hx hb dX4_whyNoRow_1 (by decide) ?_
    refine lv_aload_n hx hb dX4_whyNoRow_7 rfl (lv_at hl 1 rfl) ?_
    refine gf_RX4_106 C0 M hB_2 dX4_whyNoRow_8 ?_
    refine lv_iconst (v := 4) hx hb dX4_whyNoRow_11 (by decide) ?_
    refine lv_icmp_ne (tgt := 19) hx hb dX4_whyNoRow_12 (by decide) (fun c_3 => ?_) (fun c_3 => ?_)
    · rw [if_neg c_3] at h
      refine lv_iconst (v := 0) hx hb dX4_whyNoRow_19 (by decide) ?_
      exact w_X4_whyNoRow_J20 C0 hr hk (lv_sub hl [] rfl) M h
    · rw [if_pos c_3] at h
      refine lv_iconst (v := 2) hx hb dX4_whyNoRow_15 (by decide) ?_
      refine lv_goto (tgt := 20) hx hb dX4_whyNoRow_16 (by decide) ?_
      exact w_X4_whyNoRow_J20 C0 hr hk (lv_sub hl [] rfl) M h
theorem k_X4_whyNoRow {o1 : Option Nat} {res : Int32} (h : m_X4_whyNoRow o1 g = some res) : CM l yX4_whyNoRow cX4_whyNoRow 2 (some .int) ({ frames := 0, cells := 0, slots := 0, locals := 0 } : Room) [.ref (sb 0), rfA sb o1] (some (.int res)) D b0 cy sb db g g := by
  refine Met.ofW (cc := cX4_whyNoRow) (maxL := 2) (ret := (some .int)) (by decide) rfl ?_
  intro p e s m args below meth c s₁ B hml hv
  obtain ⟨rfl, hW, hK⟩ := hv
  cases o1 with
  | none =>
    have hl := lv_entry [.ref (sb 0), rfA sb none] (n := 2) (Nat.le_of_ble_eq_true rfl)
    rw [lg_entry_eq]
    generalize (lg_sl [.ref (sb 0), rfA sb none] ++ List.replicate (2 - (lg_sl [.ref (sb 0), rfA sb none]).length) Slot.unset).toArray = ls at hl ⊢
    have hl : lv_has ls 2 [(0, .ref (sb 0)), (1, rfA sb none)] := hl
    exact w_X4_whyNoRow ⟨B.exec, B.bytes, hml, findClass_of_methodNamed B.named, fun w hw => atoms_spec (ws := Cond.code yX4_whyNoRow cX4_whyNoRow 2 (some .int) :: wsL_law) B.pre w (List.mem_cons_of_mem _ hw), hK⟩ B.returns B.notSynchronized hl ⟨hW, va_S.rf⟩ h
  | some no1 =>
    have hl := lv_entry [.ref (sb 0), rfA sb (some no1)] (n := 2) (Nat.le_of_ble_eq_true rfl)
    rw [lg_entry_eq]
    generalize (lg_sl [.ref (sb 0), rfA sb (some no1)] ++ List.replicate (2 - (lg_sl [.ref (sb 0), rfA sb (some no1)]).length) Slot.unset).toArray = ls at hl ⊢
    have hl : lv_has ls 2 [(0, .ref (sb 0)), (1, rfA sb (some no1))] := hl
    exact w_X4_whyNoRow ⟨B.exec, B.bytes, hml, findClass_of_methodNamed B.named, fun w hw => atoms_spec (ws := Cond.code yX4_whyNoRow cX4_whyNoRow 2 (some .int) :: wsL_law) B.pre w (List.mem_cons_of_mem _ hw), hK⟩ B.returns B.notSynchronized hl ⟨hW, va_S.rf⟩ h
theorem Y_X4_whyNoRow : Yv yX4_whyNoRow RX4 cX4_whyNoRow 2 (some .int) 1 := ⟨⟨kw_14_0, kw_1_2, by decide +kernel, by decide +kernel, by decide +kernel⟩, kw_13_22, kw_13_23⟩
-- X4_findTurned
def m_X4_findTurned_L83 (x2 : Int32) (x3 : Int32) (x4 : Int32) (x5 : Int32) (x7 : Int32) (x8 : Int32) : Nat → Int32 → Int32 → Gs → Option (Int32 × Gs)
  | 0, _, _, _ => none
  | fu + 1, x6, x9, g =>
  if x4 ≤ x9 then (some (x6, g)) else (chk (inb x6 500) (lett (sI g 3 0 x6.toNatClampNeg ((x5 + (((x8 * x3) + x7) * x4)) + x9)) fun g_30 => lett (x6 + 1) fun x_32 => lett (x9 + 1) fun x_34 => m_X4_findTurned_L83 x2 x3 x4 x5 x7 x8 fu x_32 x_34 g_30))
def m_X4_findTurned_L74 (x2 : Int32) (x3 : Int32) (x4 : Int32) (x5 : Int32) (x7 : Int32) : Nat → Int32 → Int32 → Gs → Option (Int32 × Gs)
  | 0, _, _, _ => none
  | fu + 1, x6, x8, g =>
  if x2 ≤ x8 then (some (x6, g)) else (lett (0 : Int32) fun x_26 => (m_X4_findTurned_L83 x2 x3 x4 x5 x7 x8 FU x6 x_26 g).bind fun (x_36, g_37) => lett (x8 + 1) fun x_38 => m_X4_findTurned_L74 x2 x3 x4 x5 x7 fu x_36 x_38 g_37)
def m_X4_findTurned_L65 (x2 : Int32) (x3 : Int32) (x4 : Int32) (x5 : Int32) : Nat → Int32 → Int32 → Gs → Option (Gs)
  | 0, _, _, _ => none
  | fu + 1, x6, x7, g =>
  if x3 ≤ x7 then (some g) else (lett (0 : Int32) fun x_23 => (m_X4_findTurned_L74 x2 x3 x4 x5 x7 FU x6 x_23 g).bind fun (x_42, g_43) => lett (x7 + 1) fun x_44 => m_X4_findTurned_L65 x2 x3 x4 x5 fu x_42 x_44 g_43)
def m_X4_findTurned (n1 : Nat) (g : Gs) : Option (Gs) :=
  chk (n1 < 24) ((m_X3_lengthOf (g.1 17 n1 0) g).bind fun x_2 => if x_2 = 0 then (some g) else ((m_X2_length (n1 + 1) (0 : Int32) g).bind fun y_5 => lett y_5.toInt32 fun x_6 => (m_X2_length (n1 + 1) (1 : Int32) g).bind fun y_9 => lett y_9.toInt32 fun x_10 => (m_X2_length (n1 + 1) (2 : Int32) g).bind fun y_13 => lett y_13.toInt32 fun x_14 => (m_X3_startOf (g.1 17 n1 0) g).bind fun x_17 => lett (0 : Int32) fun x_18 => lett (0 : Int32) fun x_20 => (m_X4_findTurned_L65 x_6 x_10 x_14 x_17 FU x_18 x_20 g).bind fun g_48 => some g_48))
set_option maxHeartbeats 4000000 in
set_option maxRecDepth 100000 in
theorem w_X4_findTurned_L83 {x2 : Int32} {x3 : Int32} {x4 : Int32} {x5 : Int32} {x7 : Int32} {x8 : Int32} (C0 : Cx p s m args c cX4_findTurned 10 RX4 D cy) (hr : meth.sig.returnType = none) (hk : meth.locks = false) {res : Gs} {q : Int32 × Gs} (kk : ∀ (x6 : Int32) (g : Gs) (H : Heap) (locs : List Loc) (ls : Array Slot), q = (x6, g) → lv_has ls 10 [(0, .ref (sb 0)), (2, .int x2), (3, .int x3), (4, .int x4), (5, .int x5), (6, .int x6), (7, .int x7), (8, .int x8)] → Ws D b0 cy sb db g s H locs → W p l e ({ frames := 2, cells := 0, slots := 0, locals := 44 } : Room) s m args below meth c H locs 0 0 (MQ below (QX none D b0 cy sb db res) args s 0 0 (fun q => b0 ≤ q)) (F0 m 122 ls [])) : ∀ (fu : Nat) (x6 : Int32) (x9 : Int32) (g : Gs) (H : Heap) (locs : List Loc) (ls : Array Slot), lv_has ls 10 [(0, .ref (sb 0)), (2, .int x2), (3, .int x3), (4, .int x4), (5, .int x5), (6, .int x6), (7, .int x7), (8, .int x8), (9, .int x9)] → Ws D b0 cy sb db g s H locs → m_X4_findTurned_L83 x2 x3 x4 x5 x7 x8 fu x6 x9 g = some q → W p l e ({ frames := 2, cells := 0, slots := 0, locals := 44 } : Room) s m args below meth c H locs 0 0 (MQ below (QX none D b0 cy sb db res) args s 0 0 (fun q => b0 ≤ q)) (F0 m 83 ls []) := by
  obtain ⟨hx, hb, hml, hown, hts, hK⟩ := id C0
  intro fu
  induction fu with
  | zero =>
    intro x6 x9 g H locs ls hl M h
    cases h
  | succ fu ih =>
    intro x6 x9 g H locs ls hl M h
    rw [m_X4_findTurned_L83] at h
    refine lv_iload hx hb dX4_findTurned_83 (lv_at hl 8 rfl) ?_
    refine lv_iload hx hb dX4_findTurned_85 (lv_at hl 3 rfl) ?_
    refine lv_icmp_ge (tgt := 122) hx hb dX4_findTurned_87 (by decide) (fun c_28 => ?_) (fun c_28 => ?_)
    · rw [if_pos c_28] at h
      exact kk _ _ _ _ _ (Option.some.inj h).symm (lv_sub hl [0, 1, 2, 3, 4, 5, 6, 7] rfl) M
    · rw [if_neg c_28] at h
      refine lv_aload_n hx hb dX4_findTurned_90 rfl (lv_at hl 0 rfl) ?_
      refine gf_RX4_36 C0 M dX4_findTurned_91 ?_
      refine lv_iload hx hb dX4_findTurned_94 (lv_at hl 5 rfl) ?_
      refine lv_iload hx hb dX4_findTurned_96 (lv_at hl 4 rfl) ?_
      refine lv_iload hx hb dX4_findTurned_98 (lv_at hl 7 rfl) ?_
      refine lv_iload_n hx hb dX4_findTurned_100 rfl (lv_at hl 2 rfl) ?_
      refine lv_imul hx hb dX4_findTurned_101 ?_
      refine lv_iload hx hb dX4_findTurned_102 (lv_at hl 6 rfl) ?_
      refine lv_iadd hx hb dX4_findTurned_104 ?_
      refine lv_iload hx hb dX4_findTurned_105 (lv_at hl 3 rfl) ?_
      refine lv_imul hx hb dX4_findTurned_107 ?_
      refine lv_iadd hx hb dX4_findTurned_108 ?_
      refine lv_iload hx hb dX4_findTurned_109 (lv_at hl 8 rfl) ?_
      refine lv_iadd hx hb dX4_findTurned_111 ?_
      obtain ⟨hi_29, h⟩ := chk_s h
      obtain ⟨g_30, hg_31, h⟩ := lett_s h
      refine as_SRC C0 M hi_29 hg_31 dX4_findTurned_112 (fun H locs M => ?_)
      obtain ⟨x_32, hn_33, h⟩ := lett_s h
      refine lv_iinc (v := x_32) (lv' := [(6, .int x_32), (0, .ref (sb 0)), (2, .int x2), (3, .int x3), (4, .int x4), (5, .int x5), (7, .int x7), (8, .int x8), (9, .int x9)]) hx hb dX4_findTurned_113 hl (k := 5) rfl (by rw [hn_33]; rfl) (by decide) rfl (fun ls hl => ?_)
      obtain ⟨x_34, hn_35, h⟩ := lett_s h
      refine lv_iinc (v := x_34) (lv' := [(9, .int x_34), (6, .int x_32), (0, .ref (sb 0)), (2, .int x2), (3, .int x3), (4, .int x4), (5, .int x5), (7, .int x7), (8, .int x8)]) hx hb dX4_findTurned_116 hl (k := 8) rfl (by rw [hn_35]; rfl) (by decide) rfl (fun ls hl => ?_)
      refine lv_goto (tgt := 83) hx hb dX4_findTurned_119 (by decide) ?_
      exact ih _ _ _ _ _ _ (lv_sub hl [2, 3, 4, 5, 6, 1, 7, 8, 0] rfl) M h
set_option maxHeartbeats 4000000 in
set_option maxRecDepth 100000 in
theorem w_X4_findTurned_L74 {x2 : Int32} {x3 : Int32} {x4 : Int32} {x5 : Int32} {x7 : Int32} (C0 : Cx p s m args c cX4_findTurned 10 RX4 D cy) (hr : meth.sig.returnType = none) (hk : meth.locks = false) {res : Gs} {q : Int32 × Gs} (kk : ∀ (x6 : Int32) (g : Gs) (H : Heap) (locs : List Loc) (ls : Array Slot), q = (x6, g) → lv_has ls 10 [(0, .ref (sb 0)), (2, .int x2), (3, .int x3), (4, .int x4), (5, .int x5), (6, .int x6), (7, .int x7)] → Ws D b0 cy sb db g s H locs → W p l e ({ frames := 2, cells := 0, slots := 0, locals := 44 } : Room) s m args below meth c H locs 0 0 (MQ below (QX none D b0 cy sb db res) args s 0 0 (fun q => b0 ≤ q)) (F0 m 128 ls [])) : ∀ (fu : Nat) (x6 : Int32) (x8 : Int32) (g : Gs) (H : Heap) (locs : List Loc) (ls : Array Slot), lv_has ls 10 [(0, .ref (sb 0)), (2, .int x2), (3, .int x3), (4, .int x4), (5, .int x5), (6, .int x6), (7, .int x7), (8, .int x8)] → Ws D b0 cy sb db g s H locs → m_X4_findTurned_L74 x2 x3 x4 x5 x7 fu x6 x8 g = some q → W p l e ({ frames := 2, cells := 0, slots := 0, locals := 44 } : Room) s m args below meth c H locs 0 0 (MQ below (QX none D b0 cy sb db res) args s 0 0 (fun q => b0 ≤ q)) (F0 m 74 ls []) := by
  obtain ⟨hx, hb, hml, hown, hts, hK⟩ := id C0
  intro fu
  induction fu with
  | zero =>
    intro x6 x8 g H locs ls hl M h
    cases h
  | succ fu ih =>
    intro x6 x8 g H locs ls hl M h
    rw [m_X4_findTurned_L74] at h
    refine lv_iload hx hb dX4_findTurned_74 (lv_at hl 7 rfl) ?_
    refine lv_iload_n hx hb dX4_findTurned_76 rfl (lv_at hl 1 rfl) ?_
    refine lv_icmp_ge (tgt := 128) hx hb dX4_findTurned_77 (by decide) (fun c_25 => ?_) (fun c_25 => ?_)
    · rw [if_pos c_25] at h
      exact kk _ _ _ _ _ (Option.some.inj h).symm (lv_sub hl [0, 1, 2, 3, 4, 5, 6] rfl) M
    · rw [if_neg c_25] at h
      refine lv_iconst (v := 0) hx hb dX4_findTurned_80 (by decide) ?_
      obtain ⟨x_26, hn_27, h⟩ := lett_s h
      refine nm_i hn_27 ?_
      refine lv_istore (lv' := [(9, .int x_26), (0, .ref (sb 0)), (2, .int x2), (3, .int x3), (4, .int x4), (5, .int x5), (6, .int x6), (7, .int x7), (8, .int x8)]) hx hb dX4_findTurned_81 hl (by decide) rfl (fun ls hl => ?_)
      obtain ⟨q_40, hq_41, h⟩ := bnd_s h
      refine w_X4_findTurned_L83 C0 hr hk (q := q_40) (fun x_36 g_37 H locs ls hq hl M => ?_) FU _ _ _ _ _ _ (lv_sub hl [1, 2, 3, 4, 5, 6, 7, 8, 0] rfl) M hq_41
      subst q_40
      try dsimp only at h
      obtain ⟨x_38, hn_39, h⟩ := lett_s h
      refine lv_iinc (v := x_38) (lv' := [(8, .int x_38), (0, .ref (sb 0)), (2, .int x2), (3, .int x3), (4, .int x4), (5, .int x5), (6, .int x_36), (7, .int x7)]) hx hb dX4_findTurned_122 hl (k := 7) rfl (by rw [hn_39]; rfl) (by decide) rfl (fun ls hl => ?_)
      refine lv_goto (tgt := 74) hx hb dX4_findTurned_125 (by decide) ?_
      exact ih _ _ _ _ _ _ (lv_sub hl [1, 2, 3, 4, 5, 6, 7, 0] rfl) M h
set_option maxHeartbeats 4000000 in
set_option maxRecDepth 100000 in
theorem w_X4_findTurned_L65 {x2 : Int32} {x3 : Int32} {x4 : Int32} {x5 : Int32} (C0 : Cx p s m args c cX4_findTurned 10 RX4 D cy) (hr : meth.sig.returnType = none) (hk : meth.locks = false) {res : Gs} {q : Gs} (kk : ∀ (g : Gs) (H : Heap) (locs : List Loc) (ls : Array Slot), q = g → lv_has ls 10 [] → Ws D b0 cy sb db g s H locs → W p l e ({ frames := 2, cells := 0, slots := 0, locals := 44 } : Room) s m args below meth c H locs 0 0 (MQ below (QX none D b0 cy sb db res) args s 0 0 (fun q => b0 ≤ q)) (F0 m 134 ls [])) : ∀ (fu : Nat) (x6 : Int32) (x7 : Int32) (g : Gs) (H : Heap) (locs : List Loc) (ls : Array Slot), lv_has ls 10 [(0, .ref (sb 0)), (2, .int x2), (3, .int x3), (4, .int x4), (5, .int x5), (6, .int x6), (7, .int x7)] → Ws D b0 cy sb db g s H locs → m_X4_findTurned_L65 x2 x3 x4 x5 fu x6 x7 g = some q → W p l e ({ frames := 2, cells := 0, slots := 0, locals := 44 } : Room) s m args below meth c H locs 0 0 (MQ below (QX none D b0 cy sb db res) args s 0 0 (fun q => b0 ≤ q)) (F0 m 65 ls []) := by
  obtain ⟨hx, hb, hml, hown, hts, hK⟩ := id C0
  intro fu
  induction fu with
  | zero =>
    intro x6 x7 g H locs ls hl M h
    cases h
  | succ fu ih =>
    intro x6 x7 g H locs ls hl M h
    rw [m_X4_findTurned_L65] at h
    refine lv_iload hx hb dX4_findTurned_65 (lv_at hl 6 rfl) ?_
    refine lv_iload_n hx hb dX4_findTurned_67 rfl (lv_at hl 2 rfl) ?_
    refine lv_icmp_ge (tgt := 134) hx hb dX4_findTurned_68 (by decide) (fun c_22 => ?_) (fun c_22 => ?_)
    · rw [if_pos c_22] at h
      exact kk _ _ _ _ (Option.some.inj h).symm (lv_sub hl [] rfl) M
    · rw [if_neg c_22] at h
      refine lv_iconst (v := 0) hx hb dX4_findTurned_71 (by decide) ?_
      obtain ⟨x_23, hn_24, h⟩ := lett_s h
      refine nm_i hn_24 ?_
      refine lv_istore (lv' := [(8, .int x_23), (0, .ref (sb 0)), (2, .int x2), (3, .int x3), (4, .int x4), (5, .int x5), (6, .int x6), (7, .int x7)]) hx hb dX4_findTurned_72 hl (by decide) rfl (fun ls hl => ?_)
      obtain ⟨q_46, hq_47, h⟩ := bnd_s h
      refine w_X4_findTurned_L74 C0 hr hk (q := q_46) (fun x_42 g_43 H locs ls hq hl M => ?_) FU _ _ _ _ _ _ (lv_sub hl [1, 2, 3, 4, 5, 6, 7, 0] rfl) M hq_47
      subst q_46
      try dsimp only at h
      obtain ⟨x_44, hn_45, h⟩ := lett_s h
      refine lv_iinc (v := x_44) (lv' := [(7, .int x_44), (0, .ref (sb 0)), (2, .int x2), (3, .int x3), (4, .int x4), (5, .int x5), (6, .int x_42)]) hx hb dX4_findTurned_128 hl (k := 6) rfl (by rw [hn_45]; rfl) (by decide) rfl (fun ls hl => ?_)
      refine lv_goto (tgt := 65) hx hb dX4_findTurned_131 (by decide) ?_
      exact ih _ _ _ _ _ _ (lv_sub hl [1, 2, 3, 4, 5, 6, 0] rfl) M h
set_option maxHeartbeats 4000000 in
set_option maxRecDepth 100000 in
theorem w_X4_findTurned {n1 : Nat} (C0 : Cx p s m args c cX4_findTurned 10 RX4 D cy) (hr : meth.sig.returnType = none) (hk : meth.locks = false) {res : Gs} (hl : lv_has ls 10 [(0, .ref (sb 0)), (1, .ref (sb (400 + n1)))]) (M : Ws D b0 cy sb db g s H locs) (h : m_X4_findTurned n1 g = some res) : W p l e ({ frames := 2, cells := 0, slots := 0, locals := 44 } : Room) s m args below meth c H locs 0 0 (MQ below (QX none D b0 cy sb db res) args s 0 0 (fun q => b0 ≤ q)) (F0 m 0 ls []) := by
  obtain ⟨hx, hb, hml, hown, hts, hK⟩ := id C0
  rw [m_X4_findTurned] at h
  obtain ⟨hB1, h⟩ := chk_s h
  refine lv_aload_n hx hb dX4_findTurned_0 rfl (lv_at hl 0 rfl) ?_
  refine gf_RX4_26 C0 M dX4_findTurned_1 ?_
  refine lv_aload_n hx hb dX4_findTurned_4 rfl (lv_at hl 1 rfl) ?_
  refine gf_RX4_100 C0 M hB1 dX4_findTurned_5 ?_
  obtain ⟨x_2, hc_1, h⟩ := bnd_s h
  refine kV (As := [.int (g.1 17 n1 0)]) (rest := []) (stk := [.int x_2]) (val := (some (.int x_2))) (c1 := 0) (s1 := 0) C0 M (k_X3_lengthOf hc_1) kw_14_1 Y_X3_lengthOf (rv_X3 C0 M) ⟨Nat.le_of_ble_eq_true rfl, Nat.le_of_ble_eq_true rfl⟩ rfl hl.1 rfl (Nat.le_of_ble_eq_true rfl) dX4_findTurned_8 rfl rfl ⟨Nat.le_refl _, Nat.le_refl _⟩ rfl (fun H locs M => ?_)
  refine lv_if_ne (tgt := 15) hx hb dX4_findTurned_11 (by decide) (fun c_3 => ?_) (fun c_3 => ?_)
  · rw [if_neg c_3] at h
    refine lv_aload_n hx hb dX4_findTurned_15 rfl (lv_at hl 1 rfl) ?_
    refine gf_RX4_88 C0 M hB1 dX4_findTurned_16 ?_
    refine lv_iconst (v := 0) hx hb dX4_findTurned_19 (by decide) ?_
    obtain ⟨y_5, hc_4, h⟩ := bnd_s h
    refine kV (As := [.int (0 : Int32)]) (rest := []) (stk := [.long y_5]) (val := (some (.long y_5))) (c1 := 0) (s1 := 0) C0 M (k_X2_length hc_4) kw_8_2 Y_X2_length (rv_X2 C0 M (Nat.succ_lt_succ hB1)) ⟨Nat.le_of_ble_eq_true rfl, Nat.le_of_ble_eq_true rfl⟩ rfl hl.1 rfl (Nat.le_of_ble_eq_true rfl) dX4_findTurned_20 rfl rfl ⟨Nat.le_refl _, Nat.le_refl _⟩ rfl (fun H locs M => ?_)
    refine lv_l2i hx hb dX4_findTurned_23 rfl ?_
    obtain ⟨x_6, hn_7, h⟩ := lett_s h
    refine nm_i hn_7 ?_
    refine lv_istore_n (lv' := [(2, .int x_6), (0, .ref (sb 0)), (1, .ref (sb (400 + n1)))]) hx hb dX4_findTurned_24 rfl hl (by decide) rfl (fun ls hl => ?_)
    refine lv_aload_n hx hb dX4_findTurned_25 rfl (lv_at hl 2 rfl) ?_
    refine gf_RX4_88 C0 M hB1 dX4_findTurned_26 ?_
    refine lv_iconst (v := 1) hx hb dX4_findTurned_29 (by decide) ?_
    obtain ⟨y_9, hc_8, h⟩ := bnd_s h
    refine kV (As := [.int (1 : Int32)]) (rest := []) (stk := [.long y_9]) (val := (some (.long y_9))) (c1 := 0) (s1 := 0) C0 M (k_X2_length hc_8) kw_8_2 Y_X2_length (rv_X2 C0 M (Nat.succ_lt_succ hB1)) ⟨Nat.le_of_ble_eq_true rfl, Nat.le_of_ble_eq_true rfl⟩ rfl hl.1 rfl (Nat.le_of_ble_eq_true rfl) dX4_findTurned_30 rfl rfl ⟨Nat.le_refl _, Nat.le_refl _⟩ rfl (fun H locs M => ?_)
    refine lv_l2i hx hb dX4_findTurned_33 rfl ?_
    obtain ⟨x_10, hn_11, h⟩ := lett_s h
    refine nm_i hn_11 ?_
    refine lv_istore_n (lv' := [(3, .int x_10), (2, .int x_6), (0, .ref (sb 0)), (1, .ref (sb (400 + n1)))]) hx hb dX4_findTurned_34 rfl hl (by decide) rfl (fun ls hl => ?_)
    refine lv_aload_n hx hb dX4_findTurned_35 rfl (lv_at hl 3 rfl) ?_
    refine gf_RX4_88 C0 M hB1 dX4_findTurned_36 ?_
    refine lv_iconst (v := 2) hx hb dX4_findTurned_39 (by decide) ?_
    obtain ⟨y_13, hc_12, h⟩ := bnd_s h
    refine kV (As := [.int (2 : Int32)]) (rest := []) (stk := [.long y_13]) (val := (some (.long y_13))) (c1 := 0) (s1 := 0) C0 M (k_X2_length hc_12) kw_8_2 Y_X2_length (rv_X2 C0 M (Nat.succ_lt_succ hB1)) ⟨Nat.le_of_ble_eq_true rfl, Nat.le_of_ble_eq_true rfl⟩ rfl hl.1 rfl (Nat.le_of_ble_eq_true rfl) dX4_findTurned_40 rfl rfl ⟨Nat.le_refl _, Nat.le_refl _⟩ rfl (fun H locs M => ?_)
    refine lv_l2i hx hb dX4_findTurned_43 rfl ?_
    obtain ⟨x_14, hn_15, h⟩ := lett_s h
    refine nm_i hn_15 ?_
    refine lv_istore (lv' := [(4, .int x_14), (3, .int x_10), (2, .int x_6), (0, .ref (sb 0)), (1, .ref (sb (400 + n1)))]) hx hb dX4_findTurned_44 hl (by decide) rfl (fun ls hl => ?_)
    refine lv_aload_n hx hb dX4_findTurned_46 rfl (lv_at hl 3 rfl) ?_
    refine gf_RX4_26 C0 M dX4_findTurned_47 ?_
    refine lv_aload_n hx hb dX4_findTurned_50 rfl (lv_at hl 4 rfl) ?_
    refine gf_RX4_100 C0 M hB1 dX4_findTurned_51 ?_
    obtain ⟨x_17, hc_16, h⟩ := bnd_s h
    refine kV (As := [.int (g.1 17 n1 0)]) (rest := []) (stk := [.int x_17]) (val := (some (.int x_17))) (c1 := 0) (s1 := 0) C0 M (k_X3_startOf hc_16) kw_15_1 Y_X3_startOf (rv_X3 C0 M) ⟨Nat.le_of_ble_eq_true rfl, Nat.le_of_ble_eq_true rfl⟩ rfl hl.1 rfl (Nat.le_of_ble_eq_true rfl) dX4_findTurned_54 rfl rfl ⟨Nat.le_refl _, Nat.le_refl _⟩ rfl (fun H locs M => ?_)
    refine lv_istore (lv' := [(5, .int x_17), (4, .int x_14), (3, .int x_10), (2, .int x_6), (0, .ref (sb 0)), (1, .ref (sb (400 + n1)))]) hx hb dX4_findTurned_57 hl (by decide) rfl (fun ls hl => ?_)
    refine lv_iconst (v := 0) hx hb dX4_findTurned_59 (by decide) ?_
    obtain ⟨x_18, hn_19, h⟩ := lett_s h
    refine nm_i hn_19 ?_
    refine lv_istore (lv' := [(6, .int x_18), (5, .int x_17), (4, .int x_14), (3, .int x_10), (2, .int x_6), (0, .ref (sb 0)), (1, .ref (sb (400 + n1)))]) hx hb dX4_findTurned_60 hl (by decide) rfl (fun ls hl => ?_)
    refine lv_iconst (v := 0) hx hb dX4_findTurned_62 (by decide) ?_
    obtain ⟨x_20, hn_21, h⟩ := lett_s h
    refine nm_i hn_21 ?_
    refine lv_istore (lv' := [(7, .int x_20), (6, .int x_18), (5, .int x_17), (4, .int x_14), (3, .int x_10), (2, .int x_6), (0, .ref (sb 0)), (1, .ref (sb (400 + n1)))]) hx hb dX4_findTurned_63 hl (by decide) rfl (fun ls hl => ?_)
    obtain ⟨q_49, hq_50, h⟩ := bnd_s h
    refine w_X4_findTurned_L65 C0 hr hk (q := q_49) (fun g_48 H locs ls hq hl M => ?_) FU _ _ _ _ _ _ (lv_sub hl [6, 5, 4, 3, 2, 1, 0] rfl) M hq_50
    subst q_49
    try dsimp only at h
    obtain rfl := Option.some.inj h
    exact rt_v C0 M hr hk dX4_findTurned_134
  · rw [if_pos c_3] at h
    obtain rfl := Option.some.inj h
    exact rt_v C0 M hr hk dX4_findTurned_14
theorem k_X4_findTurned {n1 : Nat} {res : Gs} (h : m_X4_findTurned n1 g = some res) : CM l yX4_findTurned cX4_findTurned 10 none ({ frames := 2, cells := 0, slots := 0, locals := 44 } : Room) [.ref (sb 0), .ref (sb (400 + n1))] none D b0 cy sb db g res := by
  refine Met.ofW (cc := cX4_findTurned) (maxL := 10) (ret := none) (by decide) rfl ?_
  intro p e s m args below meth c s₁ B hml hv
  obtain ⟨rfl, hW, hK⟩ := hv
  have hl := lv_entry [.ref (sb 0), .ref (sb (400 + n1))] (n := 10) (Nat.le_of_ble_eq_true rfl)
  rw [lg_entry_eq]
  generalize (lg_sl [.ref (sb 0), .ref (sb (400 + n1))] ++ List.replicate (10 - (lg_sl [.ref (sb 0), .ref (sb (400 + n1))]).length) Slot.unset).toArray = ls at hl ⊢
  have hl : lv_has ls 10 [(0, .ref (sb 0)), (1, .ref (sb (400 + n1)))] := hl
  exact w_X4_findTurned ⟨B.exec, B.bytes, hml, findClass_of_methodNamed B.named, fun w hw => atoms_spec (ws := Cond.code yX4_findTurned cX4_findTurned 10 none :: wsL_law) B.pre w (List.mem_cons_of_mem _ hw), hK⟩ B.returns B.notSynchronized hl ⟨hW, va_S.rf⟩ h
theorem Y_X4_findTurned : Yv yX4_findTurned RX4 cX4_findTurned 10 none 1 := ⟨⟨kw_15_0, kw_1_2, by decide +kernel, by decide +kernel, by decide +kernel⟩, kw_14_22, kw_14_23⟩
-- X4_copySources
def m_X4_copySources_L14 (n1 : Nat) (x2 : Int32) : Nat → Int32 → Gs → Option (Gs)
  | 0, _, _ => none
  | fu + 1, x3, g =>
  (m_X3_lengthOf (g.1 17 n1 0) g).bind fun x_6 => if x_6 ≤ x3 then (some g) else (chk (inb x3 500) ((m_X3_copyCells (g.1 3 0 x3.toNatClampNeg) (x2 + x3) (1 : Int32) g).bind fun g_10 => lett (x3 + 1) fun x_11 => m_X4_copySources_L14 n1 x2 fu x_11 g_10))
def m_X4_copySources (n1 : Nat) (g : Gs) : Option (Gs) :=
  chk (n1 < 24) ((m_X3_startOf (g.1 17 n1 0) g).bind fun x_2 => lett (0 : Int32) fun x_3 => (m_X4_copySources_L14 n1 x_2 FU x_3 g).bind fun g_13 => some g_13)
set_option maxHeartbeats 4000000 in
set_option maxRecDepth 100000 in
theorem w_X4_copySources_L14 {n1 : Nat} {x2 : Int32} (hB1 : n1 < 24) (C0 : Cx p s m args c cX4_copySources 4 RX4 D cy) (hr : meth.sig.returnType = none) (hk : meth.locks = false) {res : Gs} {q : Gs} (kk : ∀ (g : Gs) (H : Heap) (locs : List Loc) (ls : Array Slot), q = g → lv_has ls 4 [] → Ws D b0 cy sb db g s H locs → W p l e ({ frames := 1, cells := 0, slots := 0, locals := 24 } : Room) s m args below meth c H locs 0 0 (MQ below (QX none D b0 cy sb db res) args s 0 0 (fun q => b0 ≤ q)) (F0 m 52 ls [])) : ∀ (fu : Nat) (x3 : Int32) (g : Gs) (H : Heap) (locs : List Loc) (ls : Array Slot), lv_has ls 4 [(0, .ref (sb 0)), (1, .ref (sb (400 + n1))), (2, .int x2), (3, .int x3)] → Ws D b0 cy sb db g s H locs → m_X4_copySources_L14 n1 x2 fu x3 g = some q → W p l e ({ frames := 1, cells := 0, slots := 0, locals := 24 } : Room) s m args below meth c H locs 0 0 (MQ below (QX none D b0 cy sb db res) args s 0 0 (fun q => b0 ≤ q)) (F0 m 14 ls []) := by
  obtain ⟨hx, hb, hml, hown, hts, hK⟩ := id C0
  intro fu
  induction fu with
  | zero =>
    intro x3 g H locs ls hl M h
    cases h
  | succ fu ih =>
    intro x3 g H locs ls hl M h
    rw [m_X4_copySources_L14] at h
    refine lv_iload_n hx hb dX4_copySources_14 rfl (lv_at hl 3 rfl) ?_
    refine lv_aload_n hx hb dX4_copySources_15 rfl (lv_at hl 0 rfl) ?_
    refine gf_RX4_26 C0 M dX4_copySources_16 ?_
    refine lv_aload_n hx hb dX4_copySources_19 rfl (lv_at hl 1 rfl) ?_
    refine gf_RX4_100 C0 M hB1 dX4_copySources_20 ?_
    obtain ⟨x_6, hc_5, h⟩ := bnd_s h
    refine kV (As := [.int (g.1 17 n1 0)]) (rest := [.int x3]) (stk := [.int x_6, .int x3]) (val := (some (.int x_6))) (c1 := 0) (s1 := 0) C0 M (k_X3_lengthOf hc_5) kw_14_1 Y_X3_lengthOf (rv_X3 C0 M) ⟨Nat.le_of_ble_eq_true rfl, Nat.le_of_ble_eq_true rfl⟩ rfl hl.1 rfl (Nat.le_of_ble_eq_true rfl) dX4_copySources_23 rfl rfl ⟨Nat.le_refl _, Nat.le_refl _⟩ rfl (fun H locs M => ?_)
    refine lv_icmp_ge (tgt := 52) hx hb dX4_copySources_26 (by decide) (fun c_7 => ?_) (fun c_7 => ?_)
    · rw [if_pos c_7] at h
      exact kk _ _ _ _ (Option.some.inj h).symm (lv_sub hl [] rfl) M
    · rw [if_neg c_7] at h
      refine lv_aload_n hx hb dX4_copySources_29 rfl (lv_at hl 0 rfl) ?_
      refine gf_RX4_26 C0 M dX4_copySources_30 ?_
      refine lv_aload_n hx hb dX4_copySources_33 rfl (lv_at hl 0 rfl) ?_
      refine gf_RX4_36 C0 M dX4_copySources_34 ?_
      refine lv_iload_n hx hb dX4_copySources_37 rfl (lv_at hl 3 rfl) ?_
      obtain ⟨hi_8, h⟩ := chk_s h
      refine al_SRC C0 M hi_8 dX4_copySources_38 ?_
      refine lv_iload_n hx hb dX4_copySources_39 rfl (lv_at hl 2 rfl) ?_
      refine lv_iload_n hx hb dX4_copySources_40 rfl (lv_at hl 3 rfl) ?_
      refine lv_iadd hx hb dX4_copySources_41 ?_
      refine lv_iconst (v := 1) hx hb dX4_copySources_42 (by decide) ?_
      obtain ⟨g_10, hc_9, h⟩ := bnd_s h
      refine kV (As := [.int (g.1 3 0 x3.toNatClampNeg), .int (x2 + x3), .int (1 : Int32)]) (rest := []) (stk := []) (val := none) (c1 := 0) (s1 := 0) C0 M (k_X3_copyCells hc_9) kw_15_13 Y_X3_copyCells (rv_X3 C0 M) ⟨Nat.le_of_ble_eq_true rfl, Nat.le_of_ble_eq_true rfl⟩ rfl hl.1 rfl (Nat.le_of_ble_eq_true rfl) dX4_copySources_43 rfl rfl ⟨Nat.le_refl _, Nat.le_refl _⟩ rfl (fun H locs M => ?_)
      obtain ⟨x_11, hn_12, h⟩ := lett_s h
      refine lv_iinc (v := x_11) (lv' := [(3, .int x_11), (0, .ref (sb 0)), (1, .ref (sb (400 + n1))), (2, .int x2)]) hx hb dX4_copySources_46 hl (k := 3) rfl (by rw [hn_12]; rfl) (by decide) rfl (fun ls hl => ?_)
      refine lv_goto (tgt := 14) hx hb dX4_copySources_49 (by decide) ?_
      exact ih _ _ _ _ _ (lv_sub hl [1, 2, 3, 0] rfl) M h
set_option maxHeartbeats 4000000 in
set_option maxRecDepth 100000 in
theorem w_X4_copySources {n1 : Nat} (C0 : Cx p s m args c cX4_copySources 4 RX4 D cy) (hr : meth.sig.returnType = none) (hk : meth.locks = false) {res : Gs} (hl : lv_has ls 4 [(0, .ref (sb 0)), (1, .ref (sb (400 + n1)))]) (M : Ws D b0 cy sb db g s H locs) (h : m_X4_copySources n1 g = some res) : W p l e ({ frames := 1, cells := 0, slots := 0, locals := 24 } : Room) s m args below meth c H locs 0 0 (MQ below (QX none D b0 cy sb db res) args s 0 0 (fun q => b0 ≤ q)) (F0 m 0 ls []) := by
  obtain ⟨hx, hb, hml, hown, hts, hK⟩ := id C0
  rw [m_X4_copySources] at h
  obtain ⟨hB1, h⟩ := chk_s h
  refine lv_aload_n hx hb dX4_copySources_0 rfl (lv_at hl 0 rfl) ?_
  refine gf_RX4_26 C0 M dX4_copySources_1 ?_
  refine lv_aload_n hx hb dX4_copySources_4 rfl (lv_at hl 1 rfl) ?_
  refine gf_RX4_100 C0 M hB1 dX4_copySources_5 ?_
  obtain ⟨x_2, hc_1, h⟩ := bnd_s h
  refine kV (As := [.int (g.1 17 n1 0)]) (rest := []) (stk := [.int x_2]) (val := (some (.int x_2))) (c1 := 0) (s1 := 0) C0 M (k_X3_startOf hc_1) kw_15_1 Y_X3_startOf (rv_X3 C0 M) ⟨Nat.le_of_ble_eq_true rfl, Nat.le_of_ble_eq_true rfl⟩ rfl hl.1 rfl (Nat.le_of_ble_eq_true rfl) dX4_copySources_8 rfl rfl ⟨Nat.le_refl _, Nat.le_refl _⟩ rfl (fun H locs M => ?_)
  refine lv_istore_n (lv' := [(2, .int x_2), (0, .ref (sb 0)), (1, .ref (sb (400 + n1)))]) hx hb dX4_copySources_11 rfl hl (by decide) rfl (fun ls hl => ?_)
  refine lv_iconst (v := 0) hx hb dX4_copySources_12 (by decide) ?_
  obtain ⟨x_3, hn_4, h⟩ := lett_s h
  refine nm_i hn_4 ?_
  refine lv_istore_n (lv' := [(3, .int x_3), (2, .int x_2), (0, .ref (sb 0)), (1, .ref (sb (400 + n1)))]) hx hb dX4_copySources_13 rfl hl (by decide) rfl (fun ls hl => ?_)
  obtain ⟨q_14, hq_15, h⟩ := bnd_s h
  refine w_X4_copySources_L14 hB1 C0 hr hk (q := q_14) (fun g_13 H locs ls hq hl M => ?_) FU _ _ _ _ _ (lv_sub hl [2, 3, 1, 0] rfl) M hq_15
  subst q_14
  try dsimp only at h
  obtain rfl := Option.some.inj h
  exact rt_v C0 M hr hk dX4_copySources_52
theorem k_X4_copySources {n1 : Nat} {res : Gs} (h : m_X4_copySources n1 g = some res) : CM l yX4_copySources cX4_copySources 4 none ({ frames := 1, cells := 0, slots := 0, locals := 24 } : Room) [.ref (sb 0), .ref (sb (400 + n1))] none D b0 cy sb db g res := by
  refine Met.ofW (cc := cX4_copySources) (maxL := 4) (ret := none) (by decide) rfl ?_
  intro p e s m args below meth c s₁ B hml hv
  obtain ⟨rfl, hW, hK⟩ := hv
  have hl := lv_entry [.ref (sb 0), .ref (sb (400 + n1))] (n := 4) (Nat.le_of_ble_eq_true rfl)
  rw [lg_entry_eq]
  generalize (lg_sl [.ref (sb 0), .ref (sb (400 + n1))] ++ List.replicate (4 - (lg_sl [.ref (sb 0), .ref (sb (400 + n1))]).length) Slot.unset).toArray = ls at hl ⊢
  have hl : lv_has ls 4 [(0, .ref (sb 0)), (1, .ref (sb (400 + n1)))] := hl
  exact w_X4_copySources ⟨B.exec, B.bytes, hml, findClass_of_methodNamed B.named, fun w hw => atoms_spec (ws := Cond.code yX4_copySources cX4_copySources 4 none :: wsL_law) B.pre w (List.mem_cons_of_mem _ hw), hK⟩ B.returns B.notSynchronized hl ⟨hW, va_S.rf⟩ h
theorem Y_X4_copySources : Yv yX4_copySources RX4 cX4_copySources 4 none 1 := ⟨⟨kw_15_12, kw_1_2, by decide +kernel, by decide +kernel, by decide +kernel⟩, kw_15_10, kw_15_11⟩
end WALK
