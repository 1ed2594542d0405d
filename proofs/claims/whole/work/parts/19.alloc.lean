section WALK
variable {p : Program} {l : Launch} {e : Env} {s : State} {m : MethodId} {args : Array Value} {below : List Frame} {meth : Method} {c : Code} {H : Heap} {locs : List Loc}
variable {ls : Array Slot} {D : va_G} {b0 : Nat} {cy : Cy} {sb db : Nat → Nat} {g : Gs}
-- X3_reserve
def m_X3_reserve_J23  (g : Gs) : Option (Int32 × Gs × Nat × Nat) :=
  chk ((0 : Int32) &&& 1 = (0 : Int32)) (some ((0 : Int32), g, 0, 0))
def m_X3_reserve (x1 : Int32) (x2 : Int32) (g : Gs) : Option (Int32 × Gs × Nat × Nat) :=
  if ((12512 : Int32) - (g.1 12 0 0)) < x1 then (m_X3_reserve_J23  g) else (if x2 ≤ ((63200 : Int32) - (g.1 11 0 0)) then ((m_X3_growRows ((g.1 12 0 0) + x1) g).bind fun (g_5, a_6, b_7) => addc a_6 b_7 ((m_X3_growCells ((g_5.1 11 0 0) + x2) g_5).bind fun (g_10, a_11, b_12) => addc a_11 b_12 (chk ((1 : Int32) &&& 1 = (1 : Int32)) (some ((1 : Int32), g_10, 0, 0))))) else (m_X3_reserve_J23  g))
set_option maxHeartbeats 4000000 in
set_option maxRecDepth 100000 in
theorem w_X3_reserve_J23  (C0 : Cx p s m args c cX3_reserve 3 RX3 D cy) (hr : meth.sig.returnType = (some .boolean)) (hk : meth.locks = false) {res : Int32 × Gs × Nat × Nat} {mc ms cells slots : Nat} (hcs : cells + res.2.2.1 ≤ mc ∧ slots + res.2.2.2 ≤ ms) (hl : lv_has ls 3 []) (M : Ws D b0 cy sb db g s H locs) (h : m_X3_reserve_J23  g = some res) : W p l e ({ frames := 3, cells := mc, slots := ms, locals := 84 } : Room) s m args below meth c H locs cells slots (MQ below (QY (some (.int res.1)) D b0 cy sb res.2.1) args s mc ms (fun q => b0 ≤ q)) (F0 m 23 ls []) := by
  obtain ⟨hx, hb, hml, hown, hts, hK⟩ := id C0
  rw [m_X3_reserve_J23] at h
  refine lv_iconst (v := 0) hx hb dX3_reserve_23 (by decide) ?_
  obtain ⟨hz_2, h⟩ := chk_s h
  obtain rfl := Option.some.inj h
  exact rA_z C0 M hr hk (Nat.le_trans (Nat.le_add_right _ _) hcs.1) (Nat.le_trans (Nat.le_add_right _ _) hcs.2) hz_2 dX3_reserve_24
set_option maxHeartbeats 4000000 in
set_option maxRecDepth 100000 in
theorem w_X3_reserve {x1 : Int32} {x2 : Int32} (C0 : Cx p s m args c cX3_reserve 3 RX3 D cy) (hr : meth.sig.returnType = (some .boolean)) (hk : meth.locks = false) {res : Int32 × Gs × Nat × Nat} {mc ms cells slots : Nat} (hcs : cells + res.2.2.1 ≤ mc ∧ slots + res.2.2.2 ≤ ms) (hl : lv_has ls 3 [(0, .ref (sb 8)), (1, .int x1), (2, .int x2)]) (M : Ws D b0 cy sb db g s H locs) (h : m_X3_reserve x1 x2 g = some res) : W p l e ({ frames := 3, cells := mc, slots := ms, locals := 84 } : Room) s m args below meth c H locs cells slots (MQ below (QY (some (.int res.1)) D b0 cy sb res.2.1) args s mc ms (fun q => b0 ≤ q)) (F0 m 0 ls []) := by
  obtain ⟨hx, hb, hml, hown, hts, hK⟩ := id C0
  rw [m_X3_reserve] at h
  refine lv_iload_n hx hb dX3_reserve_0 rfl (lv_at hl 1 rfl) ?_
  refine lv_sipush (v := 12512) hx hb dX3_reserve_1 (by decide) ?_
  refine lv_aload_n hx hb dX3_reserve_4 rfl (lv_at hl 0 rfl) ?_
  refine gf_RX3_26 C0 M dX3_reserve_5 ?_
  refine lv_isub hx hb dX3_reserve_8 ?_
  refine lv_icmp_gt (tgt := 23) hx hb dX3_reserve_9 (by decide) (fun c_1 => ?_) (fun c_1 => ?_)
  · rw [if_pos c_1] at h
    exact w_X3_reserve_J23 C0 hr hk (res := res) hcs (lv_sub hl [] rfl) M h
  · rw [if_neg c_1] at h
    refine lv_iload_n hx hb dX3_reserve_12 rfl (lv_at hl 2 rfl) ?_
    refine lv_ldc (v := 63200) hx hb hown (hts _ kw_8_12) dX3_reserve_13 ?_
    refine lv_aload_n hx hb dX3_reserve_15 rfl (lv_at hl 0 rfl) ?_
    refine gf_RX3_31 C0 M dX3_reserve_16 ?_
    refine lv_isub hx hb dX3_reserve_19 ?_
    refine lv_icmp_le (tgt := 25) hx hb dX3_reserve_20 (by decide) (fun c_3 => ?_) (fun c_3 => ?_)
    · rw [if_pos c_3] at h
      refine lv_aload_n hx hb dX3_reserve_25 rfl (lv_at hl 0 rfl) ?_
      refine lv_aload_n hx hb dX3_reserve_26 rfl (lv_at hl 0 rfl) ?_
      refine gf_RX3_26 C0 M dX3_reserve_27 ?_
      refine lv_iload_n hx hb dX3_reserve_30 rfl (lv_at hl 1 rfl) ?_
      refine lv_iadd hx hb dX3_reserve_31 ?_
      obtain ⟨⟨g_5, a_6, b_7⟩, hc_4, h⟩ := bnd_s h
      try dsimp only at h
      obtain ⟨q_8, hnew, hres⟩ := addc_s h
      clear h
      subst hres
      have h := hnew
      clear hnew
      have hcs : (cells + a_6) + q_8.2.2.1 ≤ mc ∧ (slots + b_7) + q_8.2.2.2 ≤ ms := ⟨by have h9 := hcs.1; dsimp only at h9; omega, by have h9 := hcs.2; dsimp only at h9; omega⟩
      refine kVA (As := [.int ((g.1 12 0 0) + x1)]) (rest := []) (stk := []) (val := none) (c1 := (cells + a_6)) (s1 := (slots + b_7)) C0 M (k_X3_growRows hc_4) kw_8_14 Y_X3_growRows (rv_X3 C0 M) ⟨Nat.le_of_ble_eq_true rfl, Nat.le_of_ble_eq_true rfl⟩ rfl hl.1 rfl (Nat.le_of_ble_eq_true rfl) dX3_reserve_32 rfl rfl ⟨(Nat.le_trans (Nat.le_add_right _ _) hcs.1), (Nat.le_trans (Nat.le_add_right _ _) hcs.2)⟩ rfl (fun db H locs M => ?_)
      refine lv_aload_n hx hb dX3_reserve_35 rfl (lv_at hl 0 rfl) ?_
      refine lv_aload_n hx hb dX3_reserve_36 rfl (lv_at hl 0 rfl) ?_
      refine gf_RX3_31 C0 M dX3_reserve_37 ?_
      refine lv_iload_n hx hb dX3_reserve_40 rfl (lv_at hl 2 rfl) ?_
      refine lv_iadd hx hb dX3_reserve_41 ?_
      obtain ⟨⟨g_10, a_11, b_12⟩, hc_9, h⟩ := bnd_s h
      try dsimp only at h
      obtain ⟨q_13, hnew, hres⟩ := addc_s h
      clear h
      subst hres
      have h := hnew
      clear hnew
      have hcs : ((cells + a_6) + a_11) + q_13.2.2.1 ≤ mc ∧ ((slots + b_7) + b_12) + q_13.2.2.2 ≤ ms := ⟨by have h9 := hcs.1; dsimp only at h9; omega, by have h9 := hcs.2; dsimp only at h9; omega⟩
      refine kVA (As := [.int ((g_5.1 11 0 0) + x2)]) (rest := []) (stk := []) (val := none) (c1 := ((cells + a_6) + a_11)) (s1 := ((slots + b_7) + b_12)) C0 M (k_X3_growCells hc_9) kw_9_14 Y_X3_growCells (rv_X3 C0 M) ⟨Nat.le_of_ble_eq_true rfl, Nat.le_of_ble_eq_true rfl⟩ rfl hl.1 rfl (Nat.le_of_ble_eq_true rfl) dX3_reserve_42 rfl rfl ⟨(Nat.le_trans (Nat.le_add_right _ _) hcs.1), (Nat.le_trans (Nat.le_add_right _ _) hcs.2)⟩ rfl (fun db H locs M => ?_)
      refine lv_iconst (v := 1) hx hb dX3_reserve_45 (by decide) ?_
      obtain ⟨hz_14, h⟩ := chk_s h
      obtain rfl := Option.some.inj h
      exact rA_z C0 M hr hk (Nat.le_trans (Nat.le_add_right _ _) hcs.1) (Nat.le_trans (Nat.le_add_right _ _) hcs.2) hz_14 dX3_reserve_46
    · rw [if_neg c_3] at h
      exact w_X3_reserve_J23 C0 hr hk (res := res) hcs (lv_sub hl [] rfl) M h
theorem k_X3_reserve {x1 : Int32} {x2 : Int32} {res : Int32 × Gs × Nat × Nat} (h : m_X3_reserve x1 x2 g = some res) : CA l yX3_reserve cX3_reserve 3 (some .boolean) ({ frames := 3, cells := res.2.2.1, slots := res.2.2.2, locals := 84 } : Room) [.ref (sb 8), .int x1, .int x2] (some (.int res.1)) D b0 cy sb db g res.2.1 := by
  refine Met.ofW (cc := cX3_reserve) (maxL := 3) (ret := (some .boolean)) (by decide) rfl ?_
  intro p e s m args below meth c s₁ B hml hv
  obtain ⟨rfl, hW, hK⟩ := hv
  have hl := lv_entry [.ref (sb 8), .int x1, .int x2] (n := 3) (Nat.le_of_ble_eq_true rfl)
  rw [lg_entry_eq]
  generalize (lg_sl [.ref (sb 8), .int x1, .int x2] ++ List.replicate (3 - (lg_sl [.ref (sb 8), .int x1, .int x2]).length) Slot.unset).toArray = ls at hl ⊢
  have hl : lv_has ls 3 [(0, .ref (sb 8)), (1, .int x1), (2, .int x2)] := hl
  exact w_X3_reserve ⟨B.exec, B.bytes, hml, findClass_of_methodNamed B.named, fun w hw => atoms_spec (ws := Cond.code yX3_reserve cX3_reserve 3 (some .boolean) :: wsL_law) B.pre w (List.mem_cons_of_mem _ hw), hK⟩ B.returns B.notSynchronized ⟨Nat.le_of_eq (Nat.zero_add _), Nat.le_of_eq (Nat.zero_add _)⟩ hl ⟨hW, va_S.rf⟩ h
theorem Y_X3_reserve : Yv yX3_reserve RX3 cX3_reserve 3 (some .boolean) 2 := ⟨⟨kw_8_10, kw_1_23, by decide +kernel, by decide +kernel, by decide +kernel⟩, kw_8_8, kw_8_9⟩
-- X4_hasRoom
def m_X4_hasRoom_J26 (xs0 : Int32) (g : Gs) : Option (Int32 × Gs × Nat × Nat) :=
  chk (xs0 &&& 1 = xs0) (some (xs0, g, 0, 0))
def m_X4_hasRoom_J25  (g : Gs) : Option (Int32 × Gs × Nat × Nat) :=
  m_X4_hasRoom_J26 (0 : Int32) g
def m_X4_hasRoom (x1 : Int32) (x2 : Int32) (g : Gs) : Option (Int32 × Gs × Nat × Nat) :=
  if (24 : Int32) ≤ (g.1 0 0 0) then (m_X4_hasRoom_J25  g) else ((m_X3_reserve x1 x2 g).bind fun (x_4, g_5, a_6, b_7) => addc a_6 b_7 (if x_4 = 0 then (m_X4_hasRoom_J25  g_5) else (m_X4_hasRoom_J26 (1 : Int32) g_5)))
set_option maxHeartbeats 4000000 in
set_option maxRecDepth 100000 in
theorem w_X4_hasRoom_J26 {xs0 : Int32} (C0 : Cx p s m args c cX4_hasRoom 3 RX4 D cy) (hr : meth.sig.returnType = (some .boolean)) (hk : meth.locks = false) {res : Int32 × Gs × Nat × Nat} {mc ms cells slots : Nat} (hcs : cells + res.2.2.1 ≤ mc ∧ slots + res.2.2.2 ≤ ms) (hl : lv_has ls 3 []) (M : Ws D b0 cy sb db g s H locs) (h : m_X4_hasRoom_J26 xs0 g = some res) : W p l e ({ frames := 4, cells := mc, slots := ms, locals := 106 } : Room) s m args below meth c H locs cells slots (MQ below (QY (some (.int res.1)) D b0 cy sb res.2.1) args s mc ms (fun q => b0 ≤ q)) (F0 m 26 ls [.int xs0]) := by
  obtain ⟨hx, hb, hml, hown, hts, hK⟩ := id C0
  rw [m_X4_hasRoom_J26] at h
  obtain ⟨hz_2, h⟩ := chk_s h
  obtain rfl := Option.some.inj h
  exact rA_z C0 M hr hk (Nat.le_trans (Nat.le_add_right _ _) hcs.1) (Nat.le_trans (Nat.le_add_right _ _) hcs.2) hz_2 dX4_hasRoom_26
set_option maxHeartbeats 4000000 in
set_option maxRecDepth 100000 in
theorem w_X4_hasRoom_J25  (C0 : Cx p s m args c cX4_hasRoom 3 RX4 D cy) (hr : meth.sig.returnType = (some .boolean)) (hk : meth.locks = false) {res : Int32 × Gs × Nat × Nat} {mc ms cells slots : Nat} (hcs : cells + res.2.2.1 ≤ mc ∧ slots + res.2.2.2 ≤ ms) (hl : lv_has ls 3 []) (M : Ws D b0 cy sb db g s H locs) (h : m_X4_hasRoom_J25  g = some res) : W p l e ({ frames := 4, cells := mc, slots := ms, locals := 106 } : Room) s m args below meth c H locs cells slots (MQ below (QY (some (.int res.1)) D b0 cy sb res.2.1) args s mc ms (fun q => b0 ≤ q)) (F0 m 25 ls []) := by
  obtain ⟨hx, hb, hml, hown, hts, hK⟩ := id C0
  rw [m_X4_hasRoom_J25] at h
  refine lv_iconst (v := 0) hx hb dX4_hasRoom_25 (by decide) ?_
  exact w_X4_hasRoom_J26 C0 hr hk (res := res) hcs hl M h
set_option maxHeartbeats 4000000 in
set_option maxRecDepth 100000 in
theorem w_X4_hasRoom {x1 : Int32} {x2 : Int32} (C0 : Cx p s m args c cX4_hasRoom 3 RX4 D cy) (hr : meth.sig.returnType = (some .boolean)) (hk : meth.locks = false) {res : Int32 × Gs × Nat × Nat} {mc ms cells slots : Nat} (hcs : cells + res.2.2.1 ≤ mc ∧ slots + res.2.2.2 ≤ ms) (hl : lv_has ls 3 [(0, .ref (sb 0)), (1, .int x1), (2, .int x2)]) (M : Ws D b0 cy sb db g s H locs) (h : m_X4_hasRoom x1 x2 g = some res) : W p l e ({ frames := 4, cells := mc, slots := ms, locals := 106 } : Room) s m args below meth c H locs cells slots (MQ below (QY (some (.int res.1)) D b0 cy sb res.2.1) args s mc ms (fun q => b0 ≤ q)) (F0 m 0 ls []) := by
  obtain ⟨hx, hb, hml, hown, hts, hK⟩ := id C0
  rw [m_X4_hasRoom] at h
  refine lv_aload_n hx hb dX4_hasRoom_0 rfl (lv_at hl 0 rfl) ?_
  refine gf_RX4_40 C0 M dX4_hasRoom_1 ?_
  refine lv_bipush (v := 24) hx hb dX4_hasRoom_4 (by decide) ?_
  refine lv_icmp_ge (tgt := 25) hx hb dX4_hasRoom_6 (by decide) (fun c_1 => ?_) (fun c_1 => ?_)
  · rw [if_pos c_1] at h
    exact w_X4_hasRoom_J25 C0 hr hk (res := res) hcs (lv_sub hl [] rfl) M h
  · rw [if_neg c_1] at h
    refine lv_aload_n hx hb dX4_hasRoom_9 rfl (lv_at hl 0 rfl) ?_
    refine gf_RX4_26 C0 M dX4_hasRoom_10 ?_
    refine lv_iload_n hx hb dX4_hasRoom_13 rfl (lv_at hl 1 rfl) ?_
    refine lv_iload_n hx hb dX4_hasRoom_14 rfl (lv_at hl 2 rfl) ?_
    obtain ⟨⟨x_4, g_5, a_6, b_7⟩, hc_3, h⟩ := bnd_s h
    try dsimp only at h
    obtain ⟨q_8, hnew, hres⟩ := addc_s h
    clear h
    subst hres
    have h := hnew
    clear hnew
    have hcs : (cells + a_6) + q_8.2.2.1 ≤ mc ∧ (slots + b_7) + q_8.2.2.2 ≤ ms := ⟨by have h9 := hcs.1; dsimp only at h9; omega, by have h9 := hcs.2; dsimp only at h9; omega⟩
    refine kVA (As := [.int x1, .int x2]) (rest := []) (stk := [.int x_4]) (val := (some (.int x_4))) (c1 := (cells + a_6)) (s1 := (slots + b_7)) C0 M (k_X3_reserve hc_3) kw_8_7 Y_X3_reserve (rv_X3 C0 M) ⟨Nat.le_of_ble_eq_true rfl, Nat.le_of_ble_eq_true rfl⟩ rfl hl.1 rfl (Nat.le_of_ble_eq_true rfl) dX4_hasRoom_15 rfl rfl ⟨(Nat.le_trans (Nat.le_add_right _ _) hcs.1), (Nat.le_trans (Nat.le_add_right _ _) hcs.2)⟩ rfl (fun db H locs M => ?_)
    refine lv_if_eq (tgt := 25) hx hb dX4_hasRoom_18 (by decide) (fun c_9 => ?_) (fun c_9 => ?_)
    · rw [if_pos c_9] at h
      exact w_X4_hasRoom_J25 C0 hr hk (res := q_8) hcs (lv_sub hl [] rfl) M h
    · rw [if_neg c_9] at h
      refine lv_iconst (v := 1) hx hb dX4_hasRoom_21 (by decide) ?_
      refine lv_goto (tgt := 26) hx hb dX4_hasRoom_22 (by decide) ?_
      exact w_X4_hasRoom_J26 C0 hr hk (res := q_8) hcs (lv_sub hl [] rfl) M h
theorem k_X4_hasRoom {x1 : Int32} {x2 : Int32} {res : Int32 × Gs × Nat × Nat} (h : m_X4_hasRoom x1 x2 g = some res) : CA l yX4_hasRoom cX4_hasRoom 3 (some .boolean) ({ frames := 4, cells := res.2.2.1, slots := res.2.2.2, locals := 106 } : Room) [.ref (sb 0), .int x1, .int x2] (some (.int res.1)) D b0 cy sb db g res.2.1 := by
  refine Met.ofW (cc := cX4_hasRoom) (maxL := 3) (ret := (some .boolean)) (by decide) rfl ?_
  intro p e s m args below meth c s₁ B hml hv
  obtain ⟨rfl, hW, hK⟩ := hv
  have hl := lv_entry [.ref (sb 0), .int x1, .int x2] (n := 3) (Nat.le_of_ble_eq_true rfl)
  rw [lg_entry_eq]
  generalize (lg_sl [.ref (sb 0), .int x1, .int x2] ++ List.replicate (3 - (lg_sl [.ref (sb 0), .int x1, .int x2]).length) Slot.unset).toArray = ls at hl ⊢
  have hl : lv_has ls 3 [(0, .ref (sb 0)), (1, .int x1), (2, .int x2)] := hl
  exact w_X4_hasRoom ⟨B.exec, B.bytes, hml, findClass_of_methodNamed B.named, fun w hw => atoms_spec (ws := Cond.code yX4_hasRoom cX4_hasRoom 3 (some .boolean) :: wsL_law) B.pre w (List.mem_cons_of_mem _ hw), hK⟩ B.returns B.notSynchronized ⟨Nat.le_of_eq (Nat.zero_add _), Nat.le_of_eq (Nat.zero_add _)⟩ hl ⟨hW, va_S.rf⟩ h
theorem Y_X4_hasRoom : Yv yX4_hasRoom RX4 cX4_hasRoom 3 (some .boolean) 2 := ⟨⟨kw_8_6, kw_1_2, by decide +kernel, by decide +kernel, by decide +kernel⟩, kw_8_4, kw_8_5⟩
-- X4_whyNotMade
def m_X4_whyNotMade_J26  (g : Gs) : Option (Int32 × Gs × Nat × Nat) :=
  some ((9 : Int32), g, 0, 0)
def m_X4_whyNotMade_J64  (g : Gs) : Option (Int32 × Gs × Nat × Nat) :=
  some ((5 : Int32), g, 0, 0)
def m_X4_whyNotMade_J100 (xs0 : Int32) (g : Gs) : Option (Int32 × Gs × Nat × Nat) :=
  some (xs0, g, 0, 0)
def m_X4_whyNotMade_J84 (x2 : Int32) (xs0 : Int32) (g : Gs) : Option (Int32 × Gs × Nat × Nat) :=
  (m_X4_hasRoom xs0 x2 g).bind fun (x_9, g_10, a_11, b_12) => addc a_11 b_12 (if x_9 = 0 then (m_X4_whyNotMade_J100 (8 : Int32) g_10) else (m_X4_whyNotMade_J100 (0 : Int32) g_10))
def m_X4_whyNotMade_J66 (x1 : Int32) (x2 : Int32) (g : Gs) : Option (Int32 × Gs × Nat × Nat) :=
  if x1 = (4 : Int32) then ((m_X2_length 0 (0 : Int32) g).bind fun y_16 => m_X4_whyNotMade_J84 x2 y_16.toInt32 g) else (m_X4_whyNotMade_J84 x2 (1 : Int32) g)
def m_X4_whyNotMade_J29 (x1 : Int32) (g : Gs) : Option (Int32 × Gs × Nat × Nat) :=
  (m_X2_items 0 g).bind fun x_4 => if (500 : Int32) < x_4 then (m_X4_whyNotMade_J64  g) else (if x1 = (4 : Int32) then ((m_X2_length 0 (0 : Int32) g).bind fun y_18 => if (lg_cmp y_18 (500 : Int64)) ≤ 0 then (m_X4_whyNotMade_J66 x1 x_4 g) else (m_X4_whyNotMade_J64  g)) else (m_X4_whyNotMade_J66 x1 x_4 g))
def m_X4_whyNotMade (x1 : Int32) (g : Gs) : Option (Int32 × Gs × Nat × Nat) :=
  if (g.1 4 0 0) = 0 then (m_X4_whyNotMade_J26  g) else (if x1 = (4 : Int32) then (if (g.1 4 0 0) = (2 : Int32) then (m_X4_whyNotMade_J29 x1 g) else (m_X4_whyNotMade_J26  g)) else (m_X4_whyNotMade_J29 x1 g))
set_option maxHeartbeats 4000000 in
set_option maxRecDepth 100000 in
theorem w_X4_whyNotMade_J26  (C0 : Cx p s m args c cX4_whyNotMade 4 RX4 D cy) (hr : meth.sig.returnType = (some .int)) (hk : meth.locks = false) {res : Int32 × Gs × Nat × Nat} {mc ms cells slots : Nat} (hcs : cells + res.2.2.1 ≤ mc ∧ slots + res.2.2.2 ≤ ms) (hl : lv_has ls 4 []) (M : Ws D b0 cy sb db g s H locs) (h : m_X4_whyNotMade_J26  g = some res) : W p l e ({ frames := 5, cells := mc, slots := ms, locals := 128 } : Room) s m args below meth c H locs cells slots (MQ below (QY (some (.int res.1)) D b0 cy sb res.2.1) args s mc ms (fun q => b0 ≤ q)) (F0 m 26 ls []) := by
  obtain ⟨hx, hb, hml, hown, hts, hK⟩ := id C0
  rw [m_X4_whyNotMade_J26] at h
  refine lv_bipush (v := 9) hx hb dX4_whyNotMade_26 (by decide) ?_
  obtain rfl := Option.some.inj h
  exact rA_i C0 M hr hk (Nat.le_trans (Nat.le_add_right _ _) hcs.1) (Nat.le_trans (Nat.le_add_right _ _) hcs.2) dX4_whyNotMade_28
set_option maxHeartbeats 4000000 in
set_option maxRecDepth 100000 in
theorem w_X4_whyNotMade_J64  (C0 : Cx p s m args c cX4_whyNotMade 4 RX4 D cy) (hr : meth.sig.returnType = (some .int)) (hk : meth.locks = false) {res : Int32 × Gs × Nat × Nat} {mc ms cells slots : Nat} (hcs : cells + res.2.2.1 ≤ mc ∧ slots + res.2.2.2 ≤ ms) (hl : lv_has ls 4 []) (M : Ws D b0 cy sb db g s H locs) (h : m_X4_whyNotMade_J64  g = some res) : W p l e ({ frames := 5, cells := mc, slots := ms, locals := 128 } : Room) s m args below meth c H locs cells slots (MQ below (QY (some (.int res.1)) D b0 cy sb res.2.1) args s mc ms (fun q => b0 ≤ q)) (F0 m 64 ls []) := by
  obtain ⟨hx, hb, hml, hown, hts, hK⟩ := id C0
  rw [m_X4_whyNotMade_J64] at h
  refine lv_iconst (v := 5) hx hb dX4_whyNotMade_64 (by decide) ?_
  obtain rfl := Option.some.inj h
  exact rA_i C0 M hr hk (Nat.le_trans (Nat.le_add_right _ _) hcs.1) (Nat.le_trans (Nat.le_add_right _ _) hcs.2) dX4_whyNotMade_65
set_option maxHeartbeats 4000000 in
set_option maxRecDepth 100000 in
theorem w_X4_whyNotMade_J100 {xs0 : Int32} (C0 : Cx p s m args c cX4_whyNotMade 4 RX4 D cy) (hr : meth.sig.returnType = (some .int)) (hk : meth.locks = false) {res : Int32 × Gs × Nat × Nat} {mc ms cells slots : Nat} (hcs : cells + res.2.2.1 ≤ mc ∧ slots + res.2.2.2 ≤ ms) (hl : lv_has ls 4 []) (M : Ws D b0 cy sb db g s H locs) (h : m_X4_whyNotMade_J100 xs0 g = some res) : W p l e ({ frames := 5, cells := mc, slots := ms, locals := 128 } : Room) s m args below meth c H locs cells slots (MQ below (QY (some (.int res.1)) D b0 cy sb res.2.1) args s mc ms (fun q => b0 ≤ q)) (F0 m 100 ls [.int xs0]) := by
  obtain ⟨hx, hb, hml, hown, hts, hK⟩ := id C0
  rw [m_X4_whyNotMade_J100] at h
  obtain rfl := Option.some.inj h
  exact rA_i C0 M hr hk (Nat.le_trans (Nat.le_add_right _ _) hcs.1) (Nat.le_trans (Nat.le_add_right _ _) hcs.2) dX4_whyNotMade_100
set_option maxHeartbeats 4000000 in
set_option maxRecDepth 100000 in
theorem w_X4_whyNotMade_J84 {x2 : Int32} {xs0 : Int32} (C0 : Cx p s m args c cX4_whyNotMade 4 RX4 D cy) (hr : meth.sig.returnType = (some .int)) (hk : meth.locks = false) {res : Int32 × Gs × Nat × Nat} {mc ms cells slots : Nat} (hcs : cells + res.2.2.1 ≤ mc ∧ slots + res.2.2.2 ≤ ms) (hl : lv_has ls 4 [(0, .ref (sb 0)), (2, .int x2)]) (M : Ws D b0 cy sb db g s H locs) (h : m_X4_whyNotMade_J84 x2 xs0 g = some res) : W p l e ({ frames := 5, cells := mc, slots := ms, locals := 128 } : Room) s m args below meth c H locs cells slots (MQ below (QY (some (.int res.1)) D b0 cy sb res.2.1) args s mc ms (fun q => b0 ≤ q)) (F0 m 84 ls [.int xs0]) := by
  obtain ⟨hx, hb, hml, hown, hts, hK⟩ := id C0
  rw [m_X4_whyNotMade_J84] at h
  refine lv_istore_n (lv' := [(3, .int xs0), (0, .ref (sb 0)), (2, .int x2)]) hx hb dX4_whyNotMade_84 rfl hl (by decide) rfl (fun ls hl => ?_)
  refine lv_aload_n hx hb dX4_whyNotMade_85 rfl (lv_at hl 1 rfl) ?_
  refine lv_iload_n hx hb dX4_whyNotMade_86 rfl (lv_at hl 0 rfl) ?_
  refine lv_iload_n hx hb dX4_whyNotMade_87 rfl (lv_at hl 2 rfl) ?_
  obtain ⟨⟨x_9, g_10, a_11, b_12⟩, hc_8, h⟩ := bnd_s h
  try dsimp only at h
  obtain ⟨q_13, hnew, hres⟩ := addc_s h
  clear h
  subst hres
  have h := hnew
  clear hnew
  have hcs : (cells + a_11) + q_13.2.2.1 ≤ mc ∧ (slots + b_12) + q_13.2.2.2 ≤ ms := ⟨by have h9 := hcs.1; dsimp only at h9; omega, by have h9 := hcs.2; dsimp only at h9; omega⟩
  refine kVA (As := [.int xs0, .int x2]) (rest := []) (stk := [.int x_9]) (val := (some (.int x_9))) (c1 := (cells + a_11)) (s1 := (slots + b_12)) C0 M (k_X4_hasRoom hc_8) kw_8_3 Y_X4_hasRoom (rv_X4 C0 M) ⟨Nat.le_of_ble_eq_true rfl, Nat.le_of_ble_eq_true rfl⟩ rfl hl.1 rfl (Nat.le_of_ble_eq_true rfl) dX4_whyNotMade_88 rfl rfl ⟨(Nat.le_trans (Nat.le_add_right _ _) hcs.1), (Nat.le_trans (Nat.le_add_right _ _) hcs.2)⟩ rfl (fun db H locs M => ?_)
  refine lv_if_eq (tgt := 98) hx hb dX4_whyNotMade_91 (by decide) (fun c_14 => ?_) (fun c_14 => ?_)
  · rw [if_pos c_14] at h
    refine lv_bipush (v := 8) hx hb dX4_whyNotMade_98 (by decide) ?_
    exact w_X4_whyNotMade_J100 C0 hr hk (res := q_13) hcs (lv_sub hl [] rfl) M h
  · rw [if_neg c_14] at h
    refine lv_iconst (v := 0) hx hb dX4_whyNotMade_94 (by decide) ?_
    refine lv_goto (tgt := 100) hx hb dX4_whyNotMade_95 (by decide) ?_
    exact w_X4_whyNotMade_J100 C0 hr hk (res := q_13) hcs (lv_sub hl [] rfl) M h
set_option maxHeartbeats 4000000 in
set_option maxRecDepth 100000 in
theorem w_X4_whyNotMade_J66 {x1 : Int32} {x2 : Int32} (C0 : Cx p s m args c cX4_whyNotMade 4 RX4 D cy) (hr : meth.sig.returnType = (some .int)) (hk : meth.locks = false) {res : Int32 × Gs × Nat × Nat} {mc ms cells slots : Nat} (hcs : cells + res.2.2.1 ≤ mc ∧ slots + res.2.2.2 ≤ ms) (hl : lv_has ls 4 [(0, .ref (sb 0)), (1, .int x1), (2, .int x2)]) (M : Ws D b0 cy sb db g s H locs) (h : m_X4_whyNotMade_J66 x1 x2 g = some res) : W p l e ({ frames := 5, cells := mc, slots := ms, locals := 128 } : Room) s m args below meth c H locs cells slots (MQ below (QY (some (.int res.1)) D b0 cy sb res.2.1) args s mc ms (fun q => b0 ≤ q)) (F0 m 66 ls []) := by
  obtain ⟨hx, hb, hml, hown, hts, hK⟩ := id C0
  rw [m_X4_whyNotMade_J66] at h
  refine lv_iload_n hx hb dX4_whyNotMade_66 rfl (lv_at hl 1 rfl) ?_
  refine lv_iconst (v := 4) hx hb dX4_whyNotMade_67 (by decide) ?_
  refine lv_icmp_ne (tgt := 83) hx hb dX4_whyNotMade_68 (by decide) (fun c_7 => ?_) (fun c_7 => ?_)
  · rw [if_neg c_7] at h
    refine lv_iconst (v := 1) hx hb dX4_whyNotMade_83 (by decide) ?_
    exact w_X4_whyNotMade_J84 C0 hr hk (res := res) hcs (lv_sub hl [0, 2] rfl) M h
  · rw [if_pos c_7] at h
    refine lv_aload_n hx hb dX4_whyNotMade_71 rfl (lv_at hl 0 rfl) ?_
    refine gf_RX4_12 C0 M dX4_whyNotMade_72 ?_
    refine lv_iconst (v := 0) hx hb dX4_whyNotMade_75 (by decide) ?_
    obtain ⟨y_16, hc_15, h⟩ := bnd_s h
    refine kV (As := [.int (0 : Int32)]) (rest := []) (stk := [.long y_16]) (val := (some (.long y_16))) (c1 := cells) (s1 := slots) C0 M (k_X2_length hc_15) kw_8_2 Y_X2_length (rv_X2 C0 M (by decide)) ⟨Nat.le_of_ble_eq_true rfl, Nat.le_of_ble_eq_true rfl⟩ rfl hl.1 rfl (Nat.le_of_ble_eq_true rfl) dX4_whyNotMade_76 rfl rfl ⟨(Nat.le_trans (Nat.le_add_right _ _) hcs.1), (Nat.le_trans (Nat.le_add_right _ _) hcs.2)⟩ rfl (fun H locs M => ?_)
    refine lv_l2i hx hb dX4_whyNotMade_79 rfl ?_
    refine lv_goto (tgt := 84) hx hb dX4_whyNotMade_80 (by decide) ?_
    exact w_X4_whyNotMade_J84 C0 hr hk (res := res) hcs (lv_sub hl [0, 2] rfl) M h
set_option maxHeartbeats 4000000 in
set_option maxRecDepth 100000 in
theorem w_X4_whyNotMade_J29 {x1 : Int32} (C0 : Cx p s m args c cX4_whyNotMade 4 RX4 D cy) (hr : meth.sig.returnType = (some .int)) (hk : meth.locks = false) {res : Int32 × Gs × Nat × Nat} {mc ms cells slots : Nat} (hcs : cells + res.2.2.1 ≤ mc ∧ slots + res.2.2.2 ≤ ms) (hl : lv_has ls 4 [(0, .ref (sb 0)), (1, .int x1)]) (M : Ws D b0 cy sb db g s H locs) (h : m_X4_whyNotMade_J29 x1 g = some res) : W p l e ({ frames := 5, cells := mc, slots := ms, locals := 128 } : Room) s m args below meth c H locs cells slots (MQ below (QY (some (.int res.1)) D b0 cy sb res.2.1) args s mc ms (fun q => b0 ≤ q)) (F0 m 29 ls []) := by
  obtain ⟨hx, hb, hml, hown, hts, hK⟩ := id C0
  rw [m_X4_whyNotMade_J29] at h
  refine lv_aload_n hx hb dX4_whyNotMade_29 rfl (lv_at hl 0 rfl) ?_
  refine gf_RX4_12 C0 M dX4_whyNotMade_30 ?_
  obtain ⟨x_4, hc_3, h⟩ := bnd_s h
  refine kV (As := []) (rest := []) (stk := [.int x_4]) (val := (some (.int x_4))) (c1 := cells) (s1 := slots) C0 M (k_X2_items hc_3) kw_7_10 Y_X2_items (rv_X2 C0 M (by decide)) ⟨Nat.le_of_ble_eq_true rfl, Nat.le_of_ble_eq_true rfl⟩ rfl hl.1 rfl (Nat.le_of_ble_eq_true rfl) dX4_whyNotMade_33 rfl rfl ⟨(Nat.le_trans (Nat.le_add_right _ _) hcs.1), (Nat.le_trans (Nat.le_add_right _ _) hcs.2)⟩ rfl (fun H locs M => ?_)
  refine lv_istore_n (lv' := [(2, .int x_4), (0, .ref (sb 0)), (1, .int x1)]) hx hb dX4_whyNotMade_36 rfl hl (by decide) rfl (fun ls hl => ?_)
  refine lv_iload_n hx hb dX4_whyNotMade_37 rfl (lv_at hl 0 rfl) ?_
  refine lv_sipush (v := 500) hx hb dX4_whyNotMade_38 (by decide) ?_
  refine lv_icmp_gt (tgt := 64) hx hb dX4_whyNotMade_41 (by decide) (fun c_5 => ?_) (fun c_5 => ?_)
  · rw [if_pos c_5] at h
    exact w_X4_whyNotMade_J64 C0 hr hk (res := res) hcs (lv_sub hl [] rfl) M h
  · rw [if_neg c_5] at h
    refine lv_iload_n hx hb dX4_whyNotMade_44 rfl (lv_at hl 2 rfl) ?_
    refine lv_iconst (v := 4) hx hb dX4_whyNotMade_45 (by decide) ?_
    refine lv_icmp_ne (tgt := 66) hx hb dX4_whyNotMade_46 (by decide) (fun c_6 => ?_) (fun c_6 => ?_)
    · rw [if_neg c_6] at h
      exact w_X4_whyNotMade_J66 C0 hr hk (res := res) hcs (lv_sub hl [1, 2, 0] rfl) M h
    · rw [if_pos c_6] at h
      refine lv_aload_n hx hb dX4_whyNotMade_49 rfl (lv_at hl 1 rfl) ?_
      refine gf_RX4_12 C0 M dX4_whyNotMade_50 ?_
      refine lv_iconst (v := 0) hx hb dX4_whyNotMade_53 (by decide) ?_
      obtain ⟨y_18, hc_17, h⟩ := bnd_s h
      refine kV (As := [.int (0 : Int32)]) (rest := []) (stk := [.long y_18]) (val := (some (.long y_18))) (c1 := cells) (s1 := slots) C0 M (k_X2_length hc_17) kw_8_2 Y_X2_length (rv_X2 C0 M (by decide)) ⟨Nat.le_of_ble_eq_true rfl, Nat.le_of_ble_eq_true rfl⟩ rfl hl.1 rfl (Nat.le_of_ble_eq_true rfl) dX4_whyNotMade_54 rfl rfl ⟨(Nat.le_trans (Nat.le_add_right _ _) hcs.1), (Nat.le_trans (Nat.le_add_right _ _) hcs.2)⟩ rfl (fun H locs M => ?_)
      refine lv_ldc2 (v := 500) hx hb hown (hts _ kw_7_9) dX4_whyNotMade_57 ?_
      refine W.lcmp hx hb dX4_whyNotMade_60 ?_
      refine lv_if_le (tgt := 66) hx hb dX4_whyNotMade_61 (by decide) (fun c_19 => ?_) (fun c_19 => ?_)
      · rw [if_pos c_19] at h
        exact w_X4_whyNotMade_J66 C0 hr hk (res := res) hcs (lv_sub hl [1, 2, 0] rfl) M h
      · rw [if_neg c_19] at h
        exact w_X4_whyNotMade_J64 C0 hr hk (res := res) hcs (lv_sub hl [] rfl) M h
set_option maxHeartbeats 4000000 in
set_option maxRecDepth 100000 in
theorem w_X4_whyNotMade {x1 : Int32} (C0 : Cx p s m args c cX4_whyNotMade 4 RX4 D cy) (hr : meth.sig.returnType = (some .int)) (hk : meth.locks = false) {res : Int32 × Gs × Nat × Nat} {mc ms cells slots : Nat} (hcs : cells + res.2.2.1 ≤ mc ∧ slots + res.2.2.2 ≤ ms) (hl : lv_has ls 4 [(0, .ref (sb 0)), (1, .int x1)]) (M : Ws D b0 cy sb db g s H locs) (h : m_X4_whyNotMade x1 g = some res) : W p l e ({ frames := 5, cells := mc, slots := ms, locals := 128 } : Room) s m args below meth c H locs cells slots (MQ below (QY (some (.int res.1)) D b0 cy sb res.2.1) args s mc ms (fun q => b0 ≤ q)) (F0 m 0 ls []) := by
  obtain ⟨hx, hb, hml, hown, hts, hK⟩ := id C0
  rw [m_X4_whyNotMade] at h
  refine lv_aload_n hx hb dX4_whyNotMade_0 rfl (lv_at hl 0 rfl) ?_
  refine gf_RX4_12 C0 M dX4_whyNotMade_1 ?_
  refine gf_RX4_51 C0 M (by decide) dX4_whyNotMade_4 ?_
  refine lv_if_eq (tgt := 26) hx hb dX4_whyNotMade_7 (by decide) (fun c_1 => ?_) (fun c_1 => ?_)
  · rw [if_pos c_1] at h
    exact w_X4_whyNotMade_J26 C0 hr hk (res := res) hcs (lv_sub hl [] rfl) M h
  · rw [if_neg c_1] at h
    refine lv_iload_n hx hb dX4_whyNotMade_10 rfl (lv_at hl 1 rfl) ?_
    refine lv_iconst (v := 4) hx hb dX4_whyNotMade_11 (by decide) ?_
    refine lv_icmp_ne (tgt := 29) hx hb dX4_whyNotMade_12 (by decide) (fun c_2 => ?_) (fun c_2 => ?_)
    · rw [if_neg c_2] at h
      exact w_X4_whyNotMade_J29 C0 hr hk (res := res) hcs hl M h
    · rw [if_pos c_2] at h
      refine lv_aload_n hx hb dX4_whyNotMade_15 rfl (lv_at hl 0 rfl) ?_
      refine gf_RX4_12 C0 M dX4_whyNotMade_16 ?_
      refine gf_RX4_51 C0 M (by decide) dX4_whyNotMade_19 ?_
      refine lv_iconst (v := 2) hx hb dX4_whyNotMade_22 (by decide) ?_
      refine lv_icmp_eq (tgt := 29) hx hb dX4_whyNotMade_23 (by decide) (fun c_20 => ?_) (fun c_20 => ?_)
      · rw [if_pos c_20] at h
        exact w_X4_whyNotMade_J29 C0 hr hk (res := res) hcs hl M h
      · rw [if_neg c_20] at h
        exact w_X4_whyNotMade_J26 C0 hr hk (res := res) hcs (lv_sub hl [] rfl) M h
theorem k_X4_whyNotMade {x1 : Int32} {res : Int32 × Gs × Nat × Nat} (h : m_X4_whyNotMade x1 g = some res) : CA l yX4_whyNotMade cX4_whyNotMade 4 (some .int) ({ frames := 5, cells := res.2.2.1, slots := res.2.2.2, locals := 128 } : Room) [.ref (sb 0), .int x1] (some (.int res.1)) D b0 cy sb db g res.2.1 := by
  refine Met.ofW (cc := cX4_whyNotMade) (maxL := 4) (ret := (some .int)) (by decide) rfl ?_
  intro p e s m args below meth c s₁ B hml hv
  obtain ⟨rfl, hW, hK⟩ := hv
  have hl := lv_entry [.ref (sb 0), .int x1] (n := 4) (Nat.le_of_ble_eq_true rfl)
  rw [lg_entry_eq]
  generalize (lg_sl [.ref (sb 0), .int x1] ++ List.replicate (4 - (lg_sl [.ref (sb 0), .int x1]).length) Slot.unset).toArray = ls at hl ⊢
  have hl : lv_has ls 4 [(0, .ref (sb 0)), (1, .int x1)] := hl
  exact w_X4_whyNotMade ⟨B.exec, B.bytes, hml, findClass_of_methodNamed B.named, fun w hw => atoms_spec (ws := Cond.code yX4_whyNotMade cX4_whyNotMade 4 (some .int) :: wsL_law) B.pre w (List.mem_cons_of_mem _ hw), hK⟩ B.returns B.notSynchronized ⟨Nat.le_of_eq (Nat.zero_add _), Nat.le_of_eq (Nat.zero_add _)⟩ hl ⟨hW, va_S.rf⟩ h
theorem Y_X4_whyNotMade : Yv yX4_whyNotMade RX4 cX4_whyNotMade 4 (some .int) 1 := ⟨⟨kw_7_8, kw_1_2, by decide +kernel, by decide +kernel, by decide +kernel⟩, kw_7_6, kw_7_7⟩
-- X4_addTableRows
def m_X4_addTableRows_L42 (n1 : Nat) (x2 : Int32) (x3 : Int32) : Nat → Int32 → Gs → Option (Gs)
  | 0, _, _ => none
  | fu + 1, x4, g =>
  if x2 ≤ x4 then (some g) else ((m_X3_addRow x3 (1 : Int32) g).bind fun (x_11, g_12) => chk (inb x4 (g_12.2.2 (500 + n1))) (lett (sI g_12 18 n1 x4.toNatClampNeg x_11) fun g_14 => lett (x4 + 1) fun x_16 => m_X4_addTableRows_L42 n1 x2 x3 fu x_16 g_14))
def m_X4_addTableRows_J38 (n1 : Nat) (x2 : Int32) (xs0 : Int32) (g : Gs) : Option (Gs × Nat × Nat) :=
  lett (0 : Int32) fun x_7 => (m_X4_addTableRows_L42 n1 x2 xs0 FU x_7 g).bind fun g_18 => some (g_18, 0, 0)
def m_X4_addTableRows_J21 (n1 : Nat) (x2 : Int32) (g : Gs) : Option (Gs × Nat × Nat) :=
  if x2 = 0 then (m_X4_addTableRows_J38 n1 x2 (0 : Int32) g) else ((m_X2_length (n1 + 1) (1 : Int32) g).bind fun y_6 => m_X4_addTableRows_J38 n1 x2 y_6.toInt32 g)
def m_X4_addTableRows (n1 : Nat) (g : Gs) : Option (Gs × Nat × Nat) :=
  chk (n1 < 24) ((m_X1_rowCount n1 g).bind fun x_2 => if x_2 ≤ (nI (g.2.2 (500 + n1))) then (m_X4_addTableRows_J21 n1 x_2 g) else (chk (¬ x_2 < 0 ∧ x_2.toNatClampNeg ≤ 200000) (lett (swR g n1 x_2.toNatClampNeg) fun g_23 => addv 1 x_2.toNatClampNeg (m_X4_addTableRows_J21 n1 x_2 g_23))))
set_option maxHeartbeats 4000000 in
set_option maxRecDepth 100000 in
theorem w_X4_addTableRows_L42 {n1 : Nat} {x2 : Int32} {x3 : Int32} (hB1 : n1 < 24) (C0 : Cx p s m args c cX4_addTableRows 5 RX4 D cy) (hr : meth.sig.returnType = none) (hk : meth.locks = false) {res : Gs × Nat × Nat} {q : Gs} {mc ms cells slots : Nat} (hcs0 : cells ≤ mc ∧ slots ≤ ms) (kk : ∀ (g : Gs) (H : Heap) (locs : List Loc) (ls : Array Slot), q = g → lv_has ls 5 [] → Ws D b0 cy sb db g s H locs → W p l e ({ frames := 3, cells := mc, slots := ms, locals := 64 } : Room) s m args below meth c H locs cells slots (MQ below (QY none D b0 cy sb res.1) args s mc ms (fun q => b0 ≤ q)) (F0 m 70 ls [])) : ∀ (fu : Nat) (x4 : Int32) (g : Gs) (H : Heap) (locs : List Loc) (ls : Array Slot), lv_has ls 5 [(0, .ref (sb 0)), (1, .ref (sb (400 + n1))), (2, .int x2), (3, .int x3), (4, .int x4)] → Ws D b0 cy sb db g s H locs → m_X4_addTableRows_L42 n1 x2 x3 fu x4 g = some q → W p l e ({ frames := 3, cells := mc, slots := ms, locals := 64 } : Room) s m args below meth c H locs cells slots (MQ below (QY none D b0 cy sb res.1) args s mc ms (fun q => b0 ≤ q)) (F0 m 42 ls []) := by
  obtain ⟨hx, hb, hml, hown, hts, hK⟩ := id C0
  intro fu
  induction fu with
  | zero =>
    intro x4 g H locs ls hl M h
    cases h
  | succ fu ih =>
    intro x4 g H locs ls hl M h
    rw [m_X4_addTableRows_L42] at h
    refine lv_iload hx hb dX4_addTableRows_42 (lv_at hl 4 rfl) ?_
    refine lv_iload_n hx hb dX4_addTableRows_44 rfl (lv_at hl 2 rfl) ?_
    refine lv_icmp_ge (tgt := 70) hx hb dX4_addTableRows_45 (by decide) (fun c_9 => ?_) (fun c_9 => ?_)
    · rw [if_pos c_9] at h
      exact kk _ _ _ _ (Option.some.inj h).symm (lv_sub hl [] rfl) M
    · rw [if_neg c_9] at h
      refine lv_aload_n hx hb dX4_addTableRows_48 rfl (lv_at hl 1 rfl) ?_
      refine gf_RX4_133 C0 M hB1 dX4_addTableRows_49 ?_
      refine lv_iload hx hb dX4_addTableRows_52 (lv_at hl 4 rfl) ?_
      refine lv_aload_n hx hb dX4_addTableRows_54 rfl (lv_at hl 0 rfl) ?_
      refine gf_RX4_26 C0 M dX4_addTableRows_55 ?_
      refine lv_iload_n hx hb dX4_addTableRows_58 rfl (lv_at hl 3 rfl) ?_
      refine lv_iconst (v := 1) hx hb dX4_addTableRows_59 (by decide) ?_
      obtain ⟨⟨x_11, g_12⟩, hc_10, h⟩ := bnd_s h
      try dsimp only at h
      refine kV (As := [.int x3, .int (1 : Int32)]) (rest := [.int x4, .ref (db (500 + n1))]) (stk := [.int x_11, .int x4, .ref (db (500 + n1))]) (val := (some (.int x_11))) (c1 := cells) (s1 := slots) C0 M (k_X3_addRow hc_10) kw_11_6 Y_X3_addRow (rv_X3 C0 M) ⟨Nat.le_of_ble_eq_true rfl, Nat.le_of_ble_eq_true rfl⟩ rfl hl.1 rfl (Nat.le_of_ble_eq_true rfl) dX4_addTableRows_60 rfl rfl ⟨hcs0.1, hcs0.2⟩ rfl (fun H locs M => ?_)
      obtain ⟨hi_13, h⟩ := chk_s h
      obtain ⟨g_14, hg_15, h⟩ := lett_s h
      refine as_ROWS C0 M hB1 hi_13 hg_15 dX4_addTableRows_63 (fun H locs M => ?_)
      obtain ⟨x_16, hn_17, h⟩ := lett_s h
      refine lv_iinc (v := x_16) (lv' := [(4, .int x_16), (0, .ref (sb 0)), (1, .ref (sb (400 + n1))), (2, .int x2), (3, .int x3)]) hx hb dX4_addTableRows_64 hl (k := 4) rfl (by rw [hn_17]; rfl) (by decide) rfl (fun ls hl => ?_)
      refine lv_goto (tgt := 42) hx hb dX4_addTableRows_67 (by decide) ?_
      exact ih _ _ _ _ _ (lv_sub hl [1, 2, 3, 4, 0] rfl) M h
set_option maxHeartbeats 4000000 in
set_option maxRecDepth 100000 in
theorem w_X4_addTableRows_J38 {n1 : Nat} {x2 : Int32} {xs0 : Int32} (hB1 : n1 < 24) (C0 : Cx p s m args c cX4_addTableRows 5 RX4 D cy) (hr : meth.sig.returnType = none) (hk : meth.locks = false) {res : Gs × Nat × Nat} {mc ms cells slots : Nat} (hcs : cells + res.2.1 ≤ mc ∧ slots + res.2.2 ≤ ms) (hl : lv_has ls 5 [(0, .ref (sb 0)), (1, .ref (sb (400 + n1))), (2, .int x2)]) (M : Ws D b0 cy sb db g s H locs) (h : m_X4_addTableRows_J38 n1 x2 xs0 g = some res) : W p l e ({ frames := 3, cells := mc, slots := ms, locals := 64 } : Room) s m args below meth c H locs cells slots (MQ below (QY none D b0 cy sb res.1) args s mc ms (fun q => b0 ≤ q)) (F0 m 38 ls [.int xs0]) := by
  obtain ⟨hx, hb, hml, hown, hts, hK⟩ := id C0
  rw [m_X4_addTableRows_J38] at h
  refine lv_istore_n (lv' := [(3, .int xs0), (0, .ref (sb 0)), (1, .ref (sb (400 + n1))), (2, .int x2)]) hx hb dX4_addTableRows_38 rfl hl (by decide) rfl (fun ls hl => ?_)
  refine lv_iconst (v := 0) hx hb dX4_addTableRows_39 (by decide) ?_
  obtain ⟨x_7, hn_8, h⟩ := lett_s h
  refine nm_i hn_8 ?_
  refine lv_istore (lv' := [(4, .int x_7), (3, .int xs0), (0, .ref (sb 0)), (1, .ref (sb (400 + n1))), (2, .int x2)]) hx hb dX4_addTableRows_40 hl (by decide) rfl (fun ls hl => ?_)
  obtain ⟨q_19, hq_20, h⟩ := bnd_s h
  refine w_X4_addTableRows_L42 hB1 C0 hr hk (q := q_19) (res := res) ⟨(Nat.le_trans (Nat.le_add_right _ _) hcs.1), (Nat.le_trans (Nat.le_add_right _ _) hcs.2)⟩ (fun g_18 H locs ls hq hl M => ?_) FU _ _ _ _ _ (lv_sub hl [2, 3, 4, 1, 0] rfl) M hq_20
  subst q_19
  try dsimp only at h
  obtain rfl := Option.some.inj h
  exact rA_v C0 M hr hk (Nat.le_trans (Nat.le_add_right _ _) hcs.1) (Nat.le_trans (Nat.le_add_right _ _) hcs.2) dX4_addTableRows_70
set_option maxHeartbeats 4000000 in
set_option maxRecDepth 100000 in
theorem w_X4_addTableRows_J21 {n1 : Nat} {x2 : Int32} (hB1 : n1 < 24) (C0 : Cx p s m args c cX4_addTableRows 5 RX4 D cy) (hr : meth.sig.returnType = none) (hk : meth.locks = false) {res : Gs × Nat × Nat} {mc ms cells slots : Nat} (hcs : cells + res.2.1 ≤ mc ∧ slots + res.2.2 ≤ ms) (hl : lv_has ls 5 [(0, .ref (sb 0)), (1, .ref (sb (400 + n1))), (2, .int x2)]) (M : Ws D b0 cy sb db g s H locs) (h : m_X4_addTableRows_J21 n1 x2 g = some res) : W p l e ({ frames := 3, cells := mc, slots := ms, locals := 64 } : Room) s m args below meth c H locs cells slots (MQ below (QY none D b0 cy sb res.1) args s mc ms (fun q => b0 ≤ q)) (F0 m 21 ls []) := by
  obtain ⟨hx, hb, hml, hown, hts, hK⟩ := id C0
  rw [m_X4_addTableRows_J21] at h
  refine lv_iload_n hx hb dX4_addTableRows_21 rfl (lv_at hl 2 rfl) ?_
  refine lv_if_ne (tgt := 29) hx hb dX4_addTableRows_22 (by decide) (fun c_4 => ?_) (fun c_4 => ?_)
  · rw [if_neg c_4] at h
    refine lv_aload_n hx hb dX4_addTableRows_29 rfl (lv_at hl 1 rfl) ?_
    refine gf_RX4_88 C0 M hB1 dX4_addTableRows_30 ?_
    refine lv_iconst (v := 1) hx hb dX4_addTableRows_33 (by decide) ?_
    obtain ⟨y_6, hc_5, h⟩ := bnd_s h
    refine kV (As := [.int (1 : Int32)]) (rest := []) (stk := [.long y_6]) (val := (some (.long y_6))) (c1 := cells) (s1 := slots) C0 M (k_X2_length hc_5) kw_8_2 Y_X2_length (rv_X2 C0 M (Nat.succ_lt_succ hB1)) ⟨Nat.le_of_ble_eq_true rfl, Nat.le_of_ble_eq_true rfl⟩ rfl hl.1 rfl (Nat.le_of_ble_eq_true rfl) dX4_addTableRows_34 rfl rfl ⟨(Nat.le_trans (Nat.le_add_right _ _) hcs.1), (Nat.le_trans (Nat.le_add_right _ _) hcs.2)⟩ rfl (fun H locs M => ?_)
    refine lv_l2i hx hb dX4_addTableRows_37 rfl ?_
    exact w_X4_addTableRows_J38 hB1 C0 hr hk (res := res) hcs hl M h
  · rw [if_pos c_4] at h
    refine lv_iconst (v := 0) hx hb dX4_addTableRows_25 (by decide) ?_
    refine lv_goto (tgt := 38) hx hb dX4_addTableRows_26 (by decide) ?_
    exact w_X4_addTableRows_J38 hB1 C0 hr hk (res := res) hcs hl M h
set_option maxHeartbeats 4000000 in
set_option maxRecDepth 100000 in
theorem w_X4_addTableRows {n1 : Nat} (C0 : Cx p s m args c cX4_addTableRows 5 RX4 D cy) (hr : meth.sig.returnType = none) (hk : meth.locks = false) {res : Gs × Nat × Nat} {mc ms cells slots : Nat} (hcs : cells + res.2.1 ≤ mc ∧ slots + res.2.2 ≤ ms) (hl : lv_has ls 5 [(0, .ref (sb 0)), (1, .ref (sb (400 + n1)))]) (M : Ws D b0 cy sb db g s H locs) (h : m_X4_addTableRows n1 g = some res) : W p l e ({ frames := 3, cells := mc, slots := ms, locals := 64 } : Room) s m args below meth c H locs cells slots (MQ below (QY none D b0 cy sb res.1) args s mc ms (fun q => b0 ≤ q)) (F0 m 0 ls []) := by
  obtain ⟨hx, hb, hml, hown, hts, hK⟩ := id C0
  rw [m_X4_addTableRows] at h
  obtain ⟨hB1, h⟩ := chk_s h
  refine lv_aload_n hx hb dX4_addTableRows_0 rfl (lv_at hl 1 rfl) ?_
  obtain ⟨x_2, hc_1, h⟩ := bnd_s h
  refine kV (As := []) (rest := []) (stk := [.int x_2]) (val := (some (.int x_2))) (c1 := cells) (s1 := slots) C0 M (k_X1_rowCount hc_1) kw_11_1 Y_X1_rowCount (rv_X1 C0 M hB1) ⟨Nat.le_of_ble_eq_true rfl, Nat.le_of_ble_eq_true rfl⟩ rfl hl.1 rfl (Nat.le_of_ble_eq_true rfl) dX4_addTableRows_1 rfl rfl ⟨(Nat.le_trans (Nat.le_add_right _ _) hcs.1), (Nat.le_trans (Nat.le_add_right _ _) hcs.2)⟩ rfl (fun H locs M => ?_)
  refine lv_istore_n (lv' := [(2, .int x_2), (0, .ref (sb 0)), (1, .ref (sb (400 + n1)))]) hx hb dX4_addTableRows_4 rfl hl (by decide) rfl (fun ls hl => ?_)
  refine lv_aload_n hx hb dX4_addTableRows_5 rfl (lv_at hl 2 rfl) ?_
  refine gf_RX4_133 C0 M hB1 dX4_addTableRows_6 ?_
  refine ln_ROWS C0 M hB1 dX4_addTableRows_9 ?_
  refine lv_iload_n hx hb dX4_addTableRows_10 rfl (lv_at hl 0 rfl) ?_
  refine lv_icmp_ge (tgt := 21) hx hb dX4_addTableRows_11 (by decide) (fun c_3 => ?_) (fun c_3 => ?_)
  · rw [if_pos c_3] at h
    exact w_X4_addTableRows_J21 hB1 C0 hr hk (res := res) hcs (lv_sub hl [1, 2, 0] rfl) M h
  · rw [if_neg c_3] at h
    refine lv_aload_n hx hb dX4_addTableRows_14 rfl (lv_at hl 2 rfl) ?_
    refine lv_iload_n hx hb dX4_addTableRows_15 rfl (lv_at hl 0 rfl) ?_
    obtain ⟨⟨hi_21, hi_22⟩, h⟩ := chk_s h
    obtain ⟨g_23, hg_24, h⟩ := lett_s h
    obtain ⟨q_25, hnew, hres⟩ := addv_s h
    clear h
    subst hres
    have h := hnew
    clear hnew
    have hcs : (cells + 1) + q_25.2.1 ≤ mc ∧ (slots + x_2.toNatClampNeg) + q_25.2.2 ≤ ms := ⟨by have h9 := hcs.1; dsimp only at h9; omega, by have h9 := hcs.2; dsimp only at h9; omega⟩
    refine nw_rows (c1 := cells + 1) (s1 := slots + x_2.toNatClampNeg) C0 M hB1 hi_21 rfl hi_22 (Nat.le_trans (Nat.le_add_right _ _) hcs.1) (Nat.le_trans (Nat.le_add_right _ _) hcs.2) rfl rfl dX4_addTableRows_16 dX4_addTableRows_18 hg_24 (fun db H locs M => ?_)
    exact w_X4_addTableRows_J21 hB1 C0 hr hk (res := q_25) hcs (lv_sub hl [1, 2, 0] rfl) M h
theorem k_X4_addTableRows {n1 : Nat} {res : Gs × Nat × Nat} (h : m_X4_addTableRows n1 g = some res) : CA l yX4_addTableRows cX4_addTableRows 5 none ({ frames := 3, cells := res.2.1, slots := res.2.2, locals := 64 } : Room) [.ref (sb 0), .ref (sb (400 + n1))] none D b0 cy sb db g res.1 := by
  refine Met.ofW (cc := cX4_addTableRows) (maxL := 5) (ret := none) (by decide) rfl ?_
  intro p e s m args below meth c s₁ B hml hv
  obtain ⟨rfl, hW, hK⟩ := hv
  have hl := lv_entry [.ref (sb 0), .ref (sb (400 + n1))] (n := 5) (Nat.le_of_ble_eq_true rfl)
  rw [lg_entry_eq]
  generalize (lg_sl [.ref (sb 0), .ref (sb (400 + n1))] ++ List.replicate (5 - (lg_sl [.ref (sb 0), .ref (sb (400 + n1))]).length) Slot.unset).toArray = ls at hl ⊢
  have hl : lv_has ls 5 [(0, .ref (sb 0)), (1, .ref (sb (400 + n1)))] := hl
  exact w_X4_addTableRows ⟨B.exec, B.bytes, hml, findClass_of_methodNamed B.named, fun w hw => atoms_spec (ws := Cond.code yX4_addTableRows cX4_addTableRows 5 none :: wsL_law) B.pre w (List.mem_cons_of_mem _ hw), hK⟩ B.returns B.notSynchronized ⟨Nat.le_of_eq (Nat.zero_add _), Nat.le_of_eq (Nat.zero_add _)⟩ hl ⟨hW, va_S.rf⟩ h
theorem Y_X4_addTableRows : Yv yX4_addTableRows RX4 cX4_addTableRows 5 none 1 := ⟨⟨kw_10_23, kw_1_2, by decide +kernel, by decide +kernel, by decide +kernel⟩, kw_10_21, kw_10_22⟩
-- X4_make
def m_X4_make_J9  (g : Gs) : Option (Int32 × Gs × Nat × Nat) :=
  some ((-2000000001 : Int32), g, 0, 0)
def m_X4_make_J56  (g : Gs) : Option (Int32 × Gs × Nat × Nat) :=
  lett (sI g 4 0 0 (0 : Int32)) fun g_17 => (m_X4_done ((g_17.1 0 0 0) - (1 : Int32)) g_17).bind fun (x_20, g_21) => some (x_20, g_21, 0, 0)
def m_X4_make (x1 : Int32) (g : Gs) : Option (Int32 × Gs × Nat × Nat) :=
  if x1 < 0 then (m_X4_make_J9  g) else (if x1 ≤ (4 : Int32) then ((m_X4_whyNotMade x1 g).bind fun (x_4, g_5, a_6, b_7) => addc a_6 b_7 (if x_4 = 0 then ((m_X4_nextArrayIn 0 x1 g_5).bind fun (n_11, g_12) => chk (n_11 < 24) (if x1 = (4 : Int32) then ((m_X4_addTableRows n_11 g_12).bind fun (g_23, a_24, b_25) => addc a_24 b_25 (m_X4_make_J56  g_23)) else ((m_X4_addOwnRow n_11 g_12).bind fun g_16 => m_X4_make_J56  g_16))) else ((m_X4_stop x_4 g_5).bind fun (x_28, g_29) => some (x_28, g_29, 0, 0)))) else (m_X4_make_J9  g))
set_option maxHeartbeats 4000000 in
set_option maxRecDepth 100000 in
theorem w_X4_make_J9  (C0 : Cx p s m args c cX4_make 4 RX4 D cy) (hr : meth.sig.returnType = (some .int)) (hk : meth.locks = false) {res : Int32 × Gs × Nat × Nat} {mc ms cells slots : Nat} (hcs : cells + res.2.2.1 ≤ mc ∧ slots + res.2.2.2 ≤ ms) (hl : lv_has ls 4 []) (M : Ws D b0 cy sb db g s H locs) (h : m_X4_make_J9  g = some res) : W p l e ({ frames := 6, cells := mc, slots := ms, locals := 151 } : Room) s m args below meth c H locs cells slots (MQ below (QY (some (.int res.1)) D b0 cy sb res.2.1) args s mc ms (fun q => b0 ≤ q)) (F0 m 9 ls []) := by
  obtain ⟨hx, hb, hml, hown, hts, hK⟩ := id C0
  rw [m_X4_make_J9] at h
  refine lv_ldc (v := -2000000001) hx hb hown (hts _ kw_7_4) dX4_make_9 ?_
  obtain rfl := Option.some.inj h
  exact rA_i C0 M hr hk (Nat.le_trans (Nat.le_add_right _ _) hcs.1) (Nat.le_trans (Nat.le_add_right _ _) hcs.2) dX4_make_11
set_option maxHeartbeats 4000000 in
set_option maxRecDepth 100000 in
theorem w_X4_make_J56  (C0 : Cx p s m args c cX4_make 4 RX4 D cy) (hr : meth.sig.returnType = (some .int)) (hk : meth.locks = false) {res : Int32 × Gs × Nat × Nat} {mc ms cells slots : Nat} (hcs : cells + res.2.2.1 ≤ mc ∧ slots + res.2.2.2 ≤ ms) (hl : lv_has ls 4 [(0, .ref (sb 0))]) (M : Ws D b0 cy sb db g s H locs) (h : m_X4_make_J56  g = some res) : W p l e ({ frames := 6, cells := mc, slots := ms, locals := 151 } : Room) s m args below meth c H locs cells slots (MQ below (QY (some (.int res.1)) D b0 cy sb res.2.1) args s mc ms (fun q => b0 ≤ q)) (F0 m 56 ls []) := by
  obtain ⟨hx, hb, hml, hown, hts, hK⟩ := id C0
  rw [m_X4_make_J56] at h
  refine lv_aload_n hx hb dX4_make_56 rfl (lv_at hl 0 rfl) ?_
  refine gf_RX4_12 C0 M dX4_make_57 ?_
  refine lv_iconst (v := 0) hx hb dX4_make_60 (by decide) ?_
  obtain ⟨g_17, hg_18, h⟩ := lett_s h
  refine pf_RX4_51 C0 M (by decide) hg_18 dX4_make_61 (fun H locs M => ?_)
  refine lv_aload_n hx hb dX4_make_64 rfl (lv_at hl 0 rfl) ?_
  refine lv_aload_n hx hb dX4_make_65 rfl (lv_at hl 0 rfl) ?_
  refine gf_RX4_40 C0 M dX4_make_66 ?_
  refine lv_iconst (v := 1) hx hb dX4_make_69 (by decide) ?_
  refine lv_isub hx hb dX4_make_70 ?_
  obtain ⟨⟨x_20, g_21⟩, hc_19, h⟩ := bnd_s h
  try dsimp only at h
  refine kV (As := [.int ((g_17.1 0 0 0) - (1 : Int32))]) (rest := []) (stk := [.int x_20]) (val := (some (.int x_20))) (c1 := cells) (s1 := slots) C0 M (k_X4_done hc_19) kw_5_23 Y_X4_done (rv_X4 C0 M) ⟨Nat.le_of_ble_eq_true rfl, Nat.le_of_ble_eq_true rfl⟩ rfl hl.1 rfl (Nat.le_of_ble_eq_true rfl) dX4_make_71 rfl rfl ⟨(Nat.le_trans (Nat.le_add_right _ _) hcs.1), (Nat.le_trans (Nat.le_add_right _ _) hcs.2)⟩ rfl (fun H locs M => ?_)
  obtain rfl := Option.some.inj h
  exact rA_i C0 M hr hk (Nat.le_trans (Nat.le_add_right _ _) hcs.1) (Nat.le_trans (Nat.le_add_right _ _) hcs.2) dX4_make_74
set_option maxHeartbeats 4000000 in
set_option maxRecDepth 100000 in
theorem w_X4_make {x1 : Int32} (C0 : Cx p s m args c cX4_make 4 RX4 D cy) (hr : meth.sig.returnType = (some .int)) (hk : meth.locks = false) {res : Int32 × Gs × Nat × Nat} {mc ms cells slots : Nat} (hcs : cells + res.2.2.1 ≤ mc ∧ slots + res.2.2.2 ≤ ms) (hl : lv_has ls 4 [(0, .ref (sb 0)), (1, .int x1)]) (M : Ws D b0 cy sb db g s H locs) (h : m_X4_make x1 g = some res) : W p l e ({ frames := 6, cells := mc, slots := ms, locals := 151 } : Room) s m args below meth c H locs cells slots (MQ below (QY (some (.int res.1)) D b0 cy sb res.2.1) args s mc ms (fun q => b0 ≤ q)) (F0 m 0 ls []) := by
  obtain ⟨hx, hb, hml, hown, hts, hK⟩ := id C0
  rw [m_X4_make] at h
  refine lv_iload_n hx hb dX4_make_0 rfl (lv_at hl 1 rfl) ?_
  refine lv_if_lt (tgt := 9) hx hb dX4_make_1 (by decide) (fun c_1 => ?_) (fun c_1 => ?_)
  · rw [if_pos c_1] at h
    exact w_X4_make_J9 C0 hr hk (res := res) hcs (lv_sub hl [] rfl) M h
  · rw [if_neg c_1] at h
    refine lv_iload_n hx hb dX4_make_4 rfl (lv_at hl 1 rfl) ?_
    refine lv_iconst (v := 4) hx hb dX4_make_5 (by decide) ?_
    refine lv_icmp_le (tgt := 12) hx hb dX4_make_6 (by decide) (fun c_2 => ?_) (fun c_2 => ?_)
    · rw [if_pos c_2] at h
      refine lv_aload_n hx hb dX4_make_12 rfl (lv_at hl 0 rfl) ?_
      refine lv_iload_n hx hb dX4_make_13 rfl (lv_at hl 1 rfl) ?_
      obtain ⟨⟨x_4, g_5, a_6, b_7⟩, hc_3, h⟩ := bnd_s h
      try dsimp only at h
      obtain ⟨q_8, hnew, hres⟩ := addc_s h
      clear h
      subst hres
      have h := hnew
      clear hnew
      have hcs : (cells + a_6) + q_8.2.2.1 ≤ mc ∧ (slots + b_7) + q_8.2.2.2 ≤ ms := ⟨by have h9 := hcs.1; dsimp only at h9; omega, by have h9 := hcs.2; dsimp only at h9; omega⟩
      refine kVA (As := [.int x1]) (rest := []) (stk := [.int x_4]) (val := (some (.int x_4))) (c1 := (cells + a_6)) (s1 := (slots + b_7)) C0 M (k_X4_whyNotMade hc_3) kw_7_5 Y_X4_whyNotMade (rv_X4 C0 M) ⟨Nat.le_of_ble_eq_true rfl, Nat.le_of_ble_eq_true rfl⟩ rfl hl.1 rfl (Nat.le_of_ble_eq_true rfl) dX4_make_14 rfl rfl ⟨(Nat.le_trans (Nat.le_add_right _ _) hcs.1), (Nat.le_trans (Nat.le_add_right _ _) hcs.2)⟩ rfl (fun db H locs M => ?_)
      refine lv_istore_n (lv' := [(2, .int x_4), (0, .ref (sb 0)), (1, .int x1)]) hx hb dX4_make_17 rfl hl (by decide) rfl (fun ls hl => ?_)
      refine lv_iload_n hx hb dX4_make_18 rfl (lv_at hl 0 rfl) ?_
      refine lv_if_eq (tgt := 28) hx hb dX4_make_19 (by decide) (fun c_9 => ?_) (fun c_9 => ?_)
      · rw [if_pos c_9] at h
        refine lv_aload_n hx hb dX4_make_28 rfl (lv_at hl 1 rfl) ?_
        refine lv_aload_n hx hb dX4_make_29 rfl (lv_at hl 1 rfl) ?_
        refine gf_RX4_12 C0 M dX4_make_30 ?_
        refine lv_iload_n hx hb dX4_make_33 rfl (lv_at hl 2 rfl) ?_
        obtain ⟨⟨n_11, g_12⟩, hc_10, h⟩ := bnd_s h
        try dsimp only at h
        obtain ⟨hB_13, h⟩ := chk_s h
        refine kV (As := [.ref (sb (100 + 0)), .int x1]) (rest := []) (stk := [.ref (sb (400 + n_11))]) (val := (some (.ref (sb (400 + n_11))))) (c1 := (cells + a_6)) (s1 := (slots + b_7)) C0 M (k_X4_nextArrayIn hc_10) kw_10_4 Y_X4_nextArrayIn (rv_X4 C0 M) ⟨Nat.le_of_ble_eq_true rfl, Nat.le_of_ble_eq_true rfl⟩ rfl hl.1 rfl (Nat.le_of_ble_eq_true rfl) dX4_make_34 rfl rfl ⟨(Nat.le_trans (Nat.le_add_right _ _) hcs.1), (Nat.le_trans (Nat.le_add_right _ _) hcs.2)⟩ rfl (fun H locs M => ?_)
        refine lv_astore_n (lv' := [(3, .ref (sb (400 + n_11))), (2, .int x_4), (0, .ref (sb 0)), (1, .int x1)]) hx hb dX4_make_37 rfl hl (by decide) rfl (fun ls hl => ?_)
        refine lv_iload_n hx hb dX4_make_38 rfl (lv_at hl 3 rfl) ?_
        refine lv_iconst (v := 4) hx hb dX4_make_39 (by decide) ?_
        refine lv_icmp_ne (tgt := 51) hx hb dX4_make_40 (by decide) (fun c_14 => ?_) (fun c_14 => ?_)
        · rw [if_neg c_14] at h
          refine lv_aload_n hx hb dX4_make_51 rfl (lv_at hl 2 rfl) ?_
          refine lv_aload_n hx hb dX4_make_52 rfl (lv_at hl 0 rfl) ?_
          obtain ⟨g_16, hc_15, h⟩ := bnd_s h
          refine kV (As := [.ref (sb (400 + n_11))]) (rest := []) (stk := []) (val := none) (c1 := (cells + a_6)) (s1 := (slots + b_7)) C0 M (k_X4_addOwnRow hc_15) kw_11_10 Y_X4_addOwnRow (rv_X4 C0 M) ⟨Nat.le_of_ble_eq_true rfl, Nat.le_of_ble_eq_true rfl⟩ rfl hl.1 rfl (Nat.le_of_ble_eq_true rfl) dX4_make_53 rfl rfl ⟨(Nat.le_trans (Nat.le_add_right _ _) hcs.1), (Nat.le_trans (Nat.le_add_right _ _) hcs.2)⟩ rfl (fun H locs M => ?_)
          exact w_X4_make_J56 C0 hr hk (res := q_8) hcs (lv_sub hl [2] rfl) M h
        · rw [if_pos c_14] at h
          refine lv_aload_n hx hb dX4_make_43 rfl (lv_at hl 2 rfl) ?_
          refine lv_aload_n hx hb dX4_make_44 rfl (lv_at hl 0 rfl) ?_
          obtain ⟨⟨g_23, a_24, b_25⟩, hc_22, h⟩ := bnd_s h
          try dsimp only at h
          obtain ⟨q_26, hnew, hres⟩ := addc_s h
          clear h
          subst hres
          have h := hnew
          clear hnew
          have hcs : ((cells + a_6) + a_24) + q_26.2.2.1 ≤ mc ∧ ((slots + b_7) + b_25) + q_26.2.2.2 ≤ ms := ⟨by have h9 := hcs.1; dsimp only at h9; omega, by have h9 := hcs.2; dsimp only at h9; omega⟩
          refine kVA (As := [.ref (sb (400 + n_11))]) (rest := []) (stk := []) (val := none) (c1 := ((cells + a_6) + a_24)) (s1 := ((slots + b_7) + b_25)) C0 M (k_X4_addTableRows hc_22) kw_10_20 Y_X4_addTableRows (rv_X4 C0 M) ⟨Nat.le_of_ble_eq_true rfl, Nat.le_of_ble_eq_true rfl⟩ rfl hl.1 rfl (Nat.le_of_ble_eq_true rfl) dX4_make_45 rfl rfl ⟨(Nat.le_trans (Nat.le_add_right _ _) hcs.1), (Nat.le_trans (Nat.le_add_right _ _) hcs.2)⟩ rfl (fun db H locs M => ?_)
          refine lv_goto (tgt := 56) hx hb dX4_make_48 (by decide) ?_
          exact w_X4_make_J56 C0 hr hk (res := q_26) hcs (lv_sub hl [2] rfl) M h
      · rw [if_neg c_9] at h
        refine lv_aload_n hx hb dX4_make_22 rfl (lv_at hl 1 rfl) ?_
        refine lv_iload_n hx hb dX4_make_23 rfl (lv_at hl 0 rfl) ?_
        obtain ⟨⟨x_28, g_29⟩, hc_27, h⟩ := bnd_s h
        try dsimp only at h
        refine kV (As := [.int x_4]) (rest := []) (stk := [.int x_28]) (val := (some (.int x_28))) (c1 := (cells + a_6)) (s1 := (slots + b_7)) C0 M (k_X4_stop hc_27) kw_5_10 Y_X4_stop (rv_X4 C0 M) ⟨Nat.le_of_ble_eq_true rfl, Nat.le_of_ble_eq_true rfl⟩ rfl hl.1 rfl (Nat.le_of_ble_eq_true rfl) dX4_make_24 rfl rfl ⟨(Nat.le_trans (Nat.le_add_right _ _) hcs.1), (Nat.le_trans (Nat.le_add_right _ _) hcs.2)⟩ rfl (fun H locs M => ?_)
        obtain rfl := Option.some.inj h
        exact rA_i C0 M hr hk (Nat.le_trans (Nat.le_add_right _ _) hcs.1) (Nat.le_trans (Nat.le_add_right _ _) hcs.2) dX4_make_27
    · rw [if_neg c_2] at h
      exact w_X4_make_J9 C0 hr hk (res := res) hcs (lv_sub hl [] rfl) M h
theorem k_X4_make {x1 : Int32} {res : Int32 × Gs × Nat × Nat} (h : m_X4_make x1 g = some res) : CA l yX4_make cX4_make 4 (some .int) ({ frames := 6, cells := res.2.2.1, slots := res.2.2.2, locals := 151 } : Room) [.ref (sb 0), .int x1] (some (.int res.1)) D b0 cy sb db g res.2.1 := by
  refine Met.ofW (cc := cX4_make) (maxL := 4) (ret := (some .int)) (by decide) rfl ?_
  intro p e s m args below meth c s₁ B hml hv
  obtain ⟨rfl, hW, hK⟩ := hv
  have hl := lv_entry [.ref (sb 0), .int x1] (n := 4) (Nat.le_of_ble_eq_true rfl)
  rw [lg_entry_eq]
  generalize (lg_sl [.ref (sb 0), .int x1] ++ List.replicate (4 - (lg_sl [.ref (sb 0), .int x1]).length) Slot.unset).toArray = ls at hl ⊢
  have hl : lv_has ls 4 [(0, .ref (sb 0)), (1, .int x1)] := hl
  exact w_X4_make ⟨B.exec, B.bytes, hml, findClass_of_methodNamed B.named, fun w hw => atoms_spec (ws := Cond.code yX4_make cX4_make 4 (some .int) :: wsL_law) B.pre w (List.mem_cons_of_mem _ hw), hK⟩ B.returns B.notSynchronized ⟨Nat.le_of_eq (Nat.zero_add _), Nat.le_of_eq (Nat.zero_add _)⟩ hl ⟨hW, va_S.rf⟩ h
theorem Y_X4_make : Yv yX4_make RX4 cX4_make 4 (some .int) 1 := ⟨⟨kw_7_3, kw_1_2, by decide +kernel, by decide +kernel, by decide +kernel⟩, kw_7_1, kw_7_2⟩
-- X4_raw
def m_X4_raw_J9  (g : Gs) : Option (Int32 × Gs × Nat × Nat) :=
  some ((-2000000001 : Int32), g, 0, 0)
def m_X4_raw (x1 : Int32) (x2 : Int32) (g : Gs) : Option (Int32 × Gs × Nat × Nat) :=
  if x1 < 0 then (m_X4_raw_J9  g) else (if x1 ≤ (3 : Int32) then (if 0 ≤ x2 then (if x2 ≤ (500 : Int32) then ((m_X4_hasRoom (1 : Int32) x2 g).bind fun (x_6, g_7, a_8, b_9) => addc a_8 b_9 (if x_6 = 0 then ((m_X4_stop (8 : Int32) g_7).bind fun (x_24, g_25) => some (x_24, g_25, 0, 0)) else ((m_X4_nextArray x1 g_7).bind fun (n_13, g_14) => chk (n_13 < 24) ((m_X2_add (n_13 + 1) (0 : Int32) (x2 - (1 : Int32)) g_14).bind fun g_17 => (m_X4_addOwnRow n_13 g_17).bind fun g_19 => (m_X4_done ((g_19.1 0 0 0) - (1 : Int32)) g_19).bind fun (x_21, g_22) => some (x_21, g_22, 0, 0))))) else ((m_X4_stop (5 : Int32) g).bind fun (x_27, g_28) => some (x_27, g_28, 0, 0))) else ((m_X4_stop (4 : Int32) g).bind fun (x_30, g_31) => some (x_30, g_31, 0, 0))) else (m_X4_raw_J9  g))
set_option maxHeartbeats 4000000 in
set_option maxRecDepth 100000 in
theorem w_X4_raw_J9  (C0 : Cx p s m args c cX4_raw 4 RX4 D cy) (hr : meth.sig.returnType = (some .int)) (hk : meth.locks = false) {res : Int32 × Gs × Nat × Nat} {mc ms cells slots : Nat} (hcs : cells + res.2.2.1 ≤ mc ∧ slots + res.2.2.2 ≤ ms) (hl : lv_has ls 4 []) (M : Ws D b0 cy sb db g s H locs) (h : m_X4_raw_J9  g = some res) : W p l e ({ frames := 5, cells := mc, slots := ms, locals := 128 } : Room) s m args below meth c H locs cells slots (MQ below (QY (some (.int res.1)) D b0 cy sb res.2.1) args s mc ms (fun q => b0 ≤ q)) (F0 m 9 ls []) := by
  obtain ⟨hx, hb, hml, hown, hts, hK⟩ := id C0
  rw [m_X4_raw_J9] at h
  refine lv_ldc (v := -2000000001) hx hb hown (hts _ kw_7_4) dX4_raw_9 ?_
  obtain rfl := Option.some.inj h
  exact rA_i C0 M hr hk (Nat.le_trans (Nat.le_add_right _ _) hcs.1) (Nat.le_trans (Nat.le_add_right _ _) hcs.2) dX4_raw_11
set_option maxHeartbeats 4000000 in
set_option maxRecDepth 100000 in
theorem w_X4_raw {x1 : Int32} {x2 : Int32} (C0 : Cx p s m args c cX4_raw 4 RX4 D cy) (hr : meth.sig.returnType = (some .int)) (hk : meth.locks = false) {res : Int32 × Gs × Nat × Nat} {mc ms cells slots : Nat} (hcs : cells + res.2.2.1 ≤ mc ∧ slots + res.2.2.2 ≤ ms) (hl : lv_has ls 4 [(0, .ref (sb 0)), (1, .int x1), (2, .int x2)]) (M : Ws D b0 cy sb db g s H locs) (h : m_X4_raw x1 x2 g = some res) : W p l e ({ frames := 5, cells := mc, slots := ms, locals := 128 } : Room) s m args below meth c H locs cells slots (MQ below (QY (some (.int res.1)) D b0 cy sb res.2.1) args s mc ms (fun q => b0 ≤ q)) (F0 m 0 ls []) := by
  obtain ⟨hx, hb, hml, hown, hts, hK⟩ := id C0
  rw [m_X4_raw] at h
  refine lv_iload_n hx hb dX4_raw_0 rfl (lv_at hl 1 rfl) ?_
  refine lv_if_lt (tgt := 9) hx hb dX4_raw_1 (by decide) (fun c_1 => ?_) (fun c_1 => ?_)
  · rw [if_pos c_1] at h
    exact w_X4_raw_J9 C0 hr hk (res := res) hcs (lv_sub hl [] rfl) M h
  · rw [if_neg c_1] at h
    refine lv_iload_n hx hb dX4_raw_4 rfl (lv_at hl 1 rfl) ?_
    refine lv_iconst (v := 3) hx hb dX4_raw_5 (by decide) ?_
    refine lv_icmp_le (tgt := 12) hx hb dX4_raw_6 (by decide) (fun c_2 => ?_) (fun c_2 => ?_)
    · rw [if_pos c_2] at h
      refine lv_iload_n hx hb dX4_raw_12 rfl (lv_at hl 2 rfl) ?_
      refine lv_if_ge (tgt := 22) hx hb dX4_raw_13 (by decide) (fun c_3 => ?_) (fun c_3 => ?_)
      · rw [if_pos c_3] at h
        refine lv_iload_n hx hb dX4_raw_22 rfl (lv_at hl 2 rfl) ?_
        refine lv_sipush (v := 500) hx hb dX4_raw_23 (by decide) ?_
        refine lv_icmp_le (tgt := 35) hx hb dX4_raw_26 (by decide) (fun c_4 => ?_) (fun c_4 => ?_)
        · rw [if_pos c_4] at h
          refine lv_aload_n hx hb dX4_raw_35 rfl (lv_at hl 0 rfl) ?_
          refine lv_iconst (v := 1) hx hb dX4_raw_36 (by decide) ?_
          refine lv_iload_n hx hb dX4_raw_37 rfl (lv_at hl 2 rfl) ?_
          obtain ⟨⟨x_6, g_7, a_8, b_9⟩, hc_5, h⟩ := bnd_s h
          try dsimp only at h
          obtain ⟨q_10, hnew, hres⟩ := addc_s h
          clear h
          subst hres
          have h := hnew
          clear hnew
          have hcs : (cells + a_8) + q_10.2.2.1 ≤ mc ∧ (slots + b_9) + q_10.2.2.2 ≤ ms := ⟨by have h9 := hcs.1; dsimp only at h9; omega, by have h9 := hcs.2; dsimp only at h9; omega⟩
          refine kVA (As := [.int (1 : Int32), .int x2]) (rest := []) (stk := [.int x_6]) (val := (some (.int x_6))) (c1 := (cells + a_8)) (s1 := (slots + b_9)) C0 M (k_X4_hasRoom hc_5) kw_8_3 Y_X4_hasRoom (rv_X4 C0 M) ⟨Nat.le_of_ble_eq_true rfl, Nat.le_of_ble_eq_true rfl⟩ rfl hl.1 rfl (Nat.le_of_ble_eq_true rfl) dX4_raw_38 rfl rfl ⟨(Nat.le_trans (Nat.le_add_right _ _) hcs.1), (Nat.le_trans (Nat.le_add_right _ _) hcs.2)⟩ rfl (fun db H locs M => ?_)
          refine lv_if_ne (tgt := 51) hx hb dX4_raw_41 (by decide) (fun c_11 => ?_) (fun c_11 => ?_)
          · rw [if_neg c_11] at h
            refine lv_aload_n hx hb dX4_raw_51 rfl (lv_at hl 0 rfl) ?_
            refine lv_iload_n hx hb dX4_raw_52 rfl (lv_at hl 1 rfl) ?_
            obtain ⟨⟨n_13, g_14⟩, hc_12, h⟩ := bnd_s h
            try dsimp only at h
            obtain ⟨hB_15, h⟩ := chk_s h
            refine kV (As := [.int x1]) (rest := []) (stk := [.ref (sb (400 + n_13))]) (val := (some (.ref (sb (400 + n_13))))) (c1 := (cells + a_8)) (s1 := (slots + b_9)) C0 M (k_X4_nextArray hc_12) kw_10_9 Y_X4_nextArray (rv_X4 C0 M) ⟨Nat.le_of_ble_eq_true rfl, Nat.le_of_ble_eq_true rfl⟩ rfl hl.1 rfl (Nat.le_of_ble_eq_true rfl) dX4_raw_53 rfl rfl ⟨(Nat.le_trans (Nat.le_add_right _ _) hcs.1), (Nat.le_trans (Nat.le_add_right _ _) hcs.2)⟩ rfl (fun H locs M => ?_)
            refine lv_astore_n (lv' := [(3, .ref (sb (400 + n_13))), (0, .ref (sb 0)), (1, .int x1), (2, .int x2)]) hx hb dX4_raw_56 rfl hl (by decide) rfl (fun ls hl => ?_)
            refine lv_aload_n hx hb dX4_raw_57 rfl (lv_at hl 0 rfl) ?_
            refine gf_RX4_88 C0 M hB_15 dX4_raw_58 ?_
            refine lv_iconst (v := 0) hx hb dX4_raw_61 (by decide) ?_
            refine lv_iload_n hx hb dX4_raw_62 rfl (lv_at hl 3 rfl) ?_
            refine lv_iconst (v := 1) hx hb dX4_raw_63 (by decide) ?_
            refine lv_isub hx hb dX4_raw_64 ?_
            obtain ⟨g_17, hc_16, h⟩ := bnd_s h
            refine kV (As := [.int (0 : Int32), .int (x2 - (1 : Int32))]) (rest := []) (stk := []) (val := none) (c1 := (cells + a_8)) (s1 := (slots + b_9)) C0 M (k_X2_add hc_16) kw_5_18 Y_X2_add (rv_X2 C0 M (Nat.succ_lt_succ hB_15)) ⟨Nat.le_of_ble_eq_true rfl, Nat.le_of_ble_eq_true rfl⟩ rfl hl.1 rfl (Nat.le_of_ble_eq_true rfl) dX4_raw_65 rfl rfl ⟨(Nat.le_trans (Nat.le_add_right _ _) hcs.1), (Nat.le_trans (Nat.le_add_right _ _) hcs.2)⟩ rfl (fun H locs M => ?_)
            refine lv_aload_n hx hb dX4_raw_68 rfl (lv_at hl 1 rfl) ?_
            refine lv_aload_n hx hb dX4_raw_69 rfl (lv_at hl 0 rfl) ?_
            obtain ⟨g_19, hc_18, h⟩ := bnd_s h
            refine kV (As := [.ref (sb (400 + n_13))]) (rest := []) (stk := []) (val := none) (c1 := (cells + a_8)) (s1 := (slots + b_9)) C0 M (k_X4_addOwnRow hc_18) kw_11_10 Y_X4_addOwnRow (rv_X4 C0 M) ⟨Nat.le_of_ble_eq_true rfl, Nat.le_of_ble_eq_true rfl⟩ rfl hl.1 rfl (Nat.le_of_ble_eq_true rfl) dX4_raw_70 rfl rfl ⟨(Nat.le_trans (Nat.le_add_right _ _) hcs.1), (Nat.le_trans (Nat.le_add_right _ _) hcs.2)⟩ rfl (fun H locs M => ?_)
            refine lv_aload_n hx hb dX4_raw_73 rfl (lv_at hl 1 rfl) ?_
            refine lv_aload_n hx hb dX4_raw_74 rfl (lv_at hl 1 rfl) ?_
            refine gf_RX4_40 C0 M dX4_raw_75 ?_
            refine lv_iconst (v := 1) hx hb dX4_raw_78 (by decide) ?_
            refine lv_isub hx hb dX4_raw_79 ?_
            obtain ⟨⟨x_21, g_22⟩, hc_20, h⟩ := bnd_s h
            try dsimp only at h
            refine kV (As := [.int ((g_19.1 0 0 0) - (1 : Int32))]) (rest := []) (stk := [.int x_21]) (val := (some (.int x_21))) (c1 := (cells + a_8)) (s1 := (slots + b_9)) C0 M (k_X4_done hc_20) kw_5_23 Y_X4_done (rv_X4 C0 M) ⟨Nat.le_of_ble_eq_true rfl, Nat.le_of_ble_eq_true rfl⟩ rfl hl.1 rfl (Nat.le_of_ble_eq_true rfl) dX4_raw_80 rfl rfl ⟨(Nat.le_trans (Nat.le_add_right _ _) hcs.1), (Nat.le_trans (Nat.le_add_right _ _) hcs.2)⟩ rfl (fun H locs M => ?_)
            obtain rfl := Option.some.inj h
            exact rA_i C0 M hr hk (Nat.le_trans (Nat.le_add_right _ _) hcs.1) (Nat.le_trans (Nat.le_add_right _ _) hcs.2) dX4_raw_83
          · rw [if_pos c_11] at h
            refine lv_aload_n hx hb dX4_raw_44 rfl (lv_at hl 0 rfl) ?_
            refine lv_bipush (v := 8) hx hb dX4_raw_45 (by decide) ?_
            obtain ⟨⟨x_24, g_25⟩, hc_23, h⟩ := bnd_s h
            try dsimp only at h
            refine kV (As := [.int (8 : Int32)]) (rest := []) (stk := [.int x_24]) (val := (some (.int x_24))) (c1 := (cells + a_8)) (s1 := (slots + b_9)) C0 M (k_X4_stop hc_23) kw_5_10 Y_X4_stop (rv_X4 C0 M) ⟨Nat.le_of_ble_eq_true rfl, Nat.le_of_ble_eq_true rfl⟩ rfl hl.1 rfl (Nat.le_of_ble_eq_true rfl) dX4_raw_47 rfl rfl ⟨(Nat.le_trans (Nat.le_add_right _ _) hcs.1), (Nat.le_trans (Nat.le_add_right _ _) hcs.2)⟩ rfl (fun H locs M => ?_)
            obtain rfl := Option.some.inj h
            exact rA_i C0 M hr hk (Nat.le_trans (Nat.le_add_right _ _) hcs.1) (Nat.le_trans (Nat.le_add_right _ _) hcs.2) dX4_raw_50
        · rw [if_neg c_4] at h
          refine lv_aload_n hx hb dX4_raw_29 rfl (lv_at hl 0 rfl) ?_
          refine lv_iconst (v := 5) hx hb dX4_raw_30 (by decide) ?_
          obtain ⟨⟨x_27, g_28⟩, hc_26, h⟩ := bnd_s h
          try dsimp only at h
          refine kV (As := [.int (5 : Int32)]) (rest := []) (stk := [.int x_27]) (val := (some (.int x_27))) (c1 := cells) (s1 := slots) C0 M (k_X4_stop hc_26) kw_5_10 Y_X4_stop (rv_X4 C0 M) ⟨Nat.le_of_ble_eq_true rfl, Nat.le_of_ble_eq_true rfl⟩ rfl hl.1 rfl (Nat.le_of_ble_eq_true rfl) dX4_raw_31 rfl rfl ⟨(Nat.le_trans (Nat.le_add_right _ _) hcs.1), (Nat.le_trans (Nat.le_add_right _ _) hcs.2)⟩ rfl (fun H locs M => ?_)
          obtain rfl := Option.some.inj h
          exact rA_i C0 M hr hk (Nat.le_trans (Nat.le_add_right _ _) hcs.1) (Nat.le_trans (Nat.le_add_right _ _) hcs.2) dX4_raw_34
      · rw [if_neg c_3] at h
        refine lv_aload_n hx hb dX4_raw_16 rfl (lv_at hl 0 rfl) ?_
        refine lv_iconst (v := 4) hx hb dX4_raw_17 (by decide) ?_
        obtain ⟨⟨x_30, g_31⟩, hc_29, h⟩ := bnd_s h
        try dsimp only at h
        refine kV (As := [.int (4 : Int32)]) (rest := []) (stk := [.int x_30]) (val := (some (.int x_30))) (c1 := cells) (s1 := slots) C0 M (k_X4_stop hc_29) kw_5_10 Y_X4_stop (rv_X4 C0 M) ⟨Nat.le_of_ble_eq_true rfl, Nat.le_of_ble_eq_true rfl⟩ rfl hl.1 rfl (Nat.le_of_ble_eq_true rfl) dX4_raw_18 rfl rfl ⟨(Nat.le_trans (Nat.le_add_right _ _) hcs.1), (Nat.le_trans (Nat.le_add_right _ _) hcs.2)⟩ rfl (fun H locs M => ?_)
        obtain rfl := Option.some.inj h
        exact rA_i C0 M hr hk (Nat.le_trans (Nat.le_add_right _ _) hcs.1) (Nat.le_trans (Nat.le_add_right _ _) hcs.2) dX4_raw_21
    · rw [if_neg c_2] at h
      exact w_X4_raw_J9 C0 hr hk (res := res) hcs (lv_sub hl [] rfl) M h
theorem k_X4_raw {x1 : Int32} {x2 : Int32} {res : Int32 × Gs × Nat × Nat} (h : m_X4_raw x1 x2 g = some res) : CA l yX4_raw cX4_raw 4 (some .int) ({ frames := 5, cells := res.2.2.1, slots := res.2.2.2, locals := 128 } : Room) [.ref (sb 0), .int x1, .int x2] (some (.int res.1)) D b0 cy sb db g res.2.1 := by
  refine Met.ofW (cc := cX4_raw) (maxL := 4) (ret := (some .int)) (by decide) rfl ?_
  intro p e s m args below meth c s₁ B hml hv
  obtain ⟨rfl, hW, hK⟩ := hv
  have hl := lv_entry [.ref (sb 0), .int x1, .int x2] (n := 4) (Nat.le_of_ble_eq_true rfl)
  rw [lg_entry_eq]
  generalize (lg_sl [.ref (sb 0), .int x1, .int x2] ++ List.replicate (4 - (lg_sl [.ref (sb 0), .int x1, .int x2]).length) Slot.unset).toArray = ls at hl ⊢
  have hl : lv_has ls 4 [(0, .ref (sb 0)), (1, .int x1), (2, .int x2)] := hl
  exact w_X4_raw ⟨B.exec, B.bytes, hml, findClass_of_methodNamed B.named, fun w hw => atoms_spec (ws := Cond.code yX4_raw cX4_raw 4 (some .int) :: wsL_law) B.pre w (List.mem_cons_of_mem _ hw), hK⟩ B.returns B.notSynchronized ⟨Nat.le_of_eq (Nat.zero_add _), Nat.le_of_eq (Nat.zero_add _)⟩ hl ⟨hW, va_S.rf⟩ h
theorem Y_X4_raw : Yv yX4_raw RX4 cX4_raw 4 (some .int) 2 := ⟨⟨kw_13_7, kw_1_2, by decide +kernel, by decide +kernel, by decide +kernel⟩, kw_13_5, kw_13_6⟩
-- X4_see
def m_X4_see (x1 : Int32) (g : Gs) : Option (Int32 × Gs × Nat × Nat) :=
  (m_X4_arrayOf x1 g).bind fun o_2 => (m_X4_whyNoRow o_2 g).bind fun x_4 => if x_4 = 0 then (if (g.1 4 0 0) = 0 then ((m_X4_stop (9 : Int32) g).bind fun (x_39, g_40) => some (x_39, g_40, 0, 0)) else ((m_X2_items 0 g).bind fun x_8 => unw o_2 fun n_9 => (m_X3_lengthOf (g.1 17 n_9 0) g).bind fun x_12 => if x_8 = x_12 then ((m_X4_hasRoom (0 : Int32) (0 : Int32) g).bind fun (x_15, g_16, a_17, b_18) => addc a_17 b_18 (if x_15 = 0 then ((m_X4_stop (8 : Int32) g_16).bind fun (x_33, g_34) => some (x_33, g_34, 0, 0)) else ((m_X4_nextArrayIn 0 (g_16.1 16 n_9 0) g_16).bind fun (n_22, g_23) => chk (n_22 < 24) (lett (sI g_23 17 n_22 0 (g_23.1 17 n_9 0)) fun g_25 => lett (sI g_25 4 0 0 (0 : Int32)) fun g_27 => (m_X4_done ((g_27.1 0 0 0) - (1 : Int32)) g_27).bind fun (x_30, g_31) => some (x_30, g_31, 0, 0))))) else ((m_X4_stop (10 : Int32) g).bind fun (x_36, g_37) => some (x_36, g_37, 0, 0)))) else ((m_X4_stop x_4 g).bind fun (x_42, g_43) => some (x_42, g_43, 0, 0))
set_option maxHeartbeats 4000000 in
set_option maxRecDepth 100000 in
theorem w_X4_see {x1 : Int32} (C0 : Cx p s m args c cX4_see 4 RX4 D cy) (hr : meth.sig.returnType = (some .int)) (hk : meth.locks = false) {res : Int32 × Gs × Nat × Nat} {mc ms cells slots : Nat} (hcs : cells + res.2.2.1 ≤ mc ∧ slots + res.2.2.2 ≤ ms) (hl : lv_has ls 4 [(0, .ref (sb 0)), (1, .int x1)]) (M : Ws D b0 cy sb db g s H locs) (h : m_X4_see x1 g = some res) : W p l e ({ frames := 5, cells := mc, slots := ms, locals := 128 } : Room) s m args below meth c H locs cells slots (MQ below (QY (some (.int res.1)) D b0 cy sb res.2.1) args s mc ms (fun q => b0 ≤ q)) (F0 m 0 ls []) := by
  obtain ⟨hx, hb, hml, hown, hts, hK⟩ := id C0
  rw [m_X4_see] at h
  refine lv_aload_n hx hb dX4_see_0 rfl (lv_at hl 0 rfl) ?_
  refine lv_iload_n hx hb dX4_see_1 rfl (lv_at hl 1 rfl) ?_
  obtain ⟨o_2, hc_1, h⟩ := bnd_s h
  refine kV (As := [.int x1]) (rest := []) (stk := [rfA sb o_2]) (val := (some (rfA sb o_2))) (c1 := cells) (s1 := slots) C0 M (k_X4_arrayOf hc_1) kw_13_17 Y_X4_arrayOf (rv_X4 C0 M) ⟨Nat.le_of_ble_eq_true rfl, Nat.le_of_ble_eq_true rfl⟩ rfl hl.1 rfl (Nat.le_of_ble_eq_true rfl) dX4_see_2 rfl rfl ⟨(Nat.le_trans (Nat.le_add_right _ _) hcs.1), (Nat.le_trans (Nat.le_add_right _ _) hcs.2)⟩ rfl (fun H locs M => ?_)
  refine lq_astore_n (lv' := [(2, rfA sb o_2), (0, .ref (sb 0)), (1, .int x1)]) hx hb o_2 dX4_see_5 rfl hl (by decide) rfl (fun ls hl => ?_)
  refine lv_aload_n hx hb dX4_see_6 rfl (lv_at hl 1 rfl) ?_
  refine lq_aload_n hx hb o_2 dX4_see_7 rfl (lv_at hl 0 rfl) ?_
  obtain ⟨x_4, hc_3, h⟩ := bnd_s h
  refine kV (As := [rfA sb o_2]) (rest := []) (stk := [.int x_4]) (val := (some (.int x_4))) (c1 := cells) (s1 := slots) C0 M (k_X4_whyNoRow hc_3) kw_13_21 Y_X4_whyNoRow (rv_X4 C0 M) ⟨Nat.le_of_ble_eq_true rfl, Nat.le_of_ble_eq_true rfl⟩ rfl hl.1 rfl (Nat.le_of_ble_eq_true rfl) dX4_see_8 rfl rfl ⟨(Nat.le_trans (Nat.le_add_right _ _) hcs.1), (Nat.le_trans (Nat.le_add_right _ _) hcs.2)⟩ rfl (fun H locs M => ?_)
  refine lv_istore_n (lv' := [(3, .int x_4), (2, rfA sb o_2), (0, .ref (sb 0)), (1, .int x1)]) hx hb dX4_see_11 rfl hl (by decide) (by cases o_2 <;> rfl) (fun ls hl => ?_)
  refine lv_iload_n hx hb dX4_see_12 rfl (lv_at hl 0 rfl) ?_
  refine lv_if_eq (tgt := 22) hx hb dX4_see_13 (by decide) (fun c_5 => ?_) (fun c_5 => ?_)
  · rw [if_pos c_5] at h
    refine lv_aload_n hx hb dX4_see_22 rfl (lv_at hl 2 rfl) ?_
    refine gf_RX4_12 C0 M dX4_see_23 ?_
    refine gf_RX4_51 C0 M (by decide) dX4_see_26 ?_
    refine lv_if_ne (tgt := 39) hx hb dX4_see_29 (by decide) (fun c_6 => ?_) (fun c_6 => ?_)
    · rw [if_neg c_6] at h
      refine lv_aload_n hx hb dX4_see_39 rfl (lv_at hl 2 rfl) ?_
      refine gf_RX4_12 C0 M dX4_see_40 ?_
      obtain ⟨x_8, hc_7, h⟩ := bnd_s h
      refine kV (As := []) (rest := []) (stk := [.int x_8]) (val := (some (.int x_8))) (c1 := cells) (s1 := slots) C0 M (k_X2_items hc_7) kw_7_10 Y_X2_items (rv_X2 C0 M (by decide)) ⟨Nat.le_of_ble_eq_true rfl, Nat.le_of_ble_eq_true rfl⟩ rfl hl.1 rfl (Nat.le_of_ble_eq_true rfl) dX4_see_43 rfl rfl ⟨(Nat.le_trans (Nat.le_add_right _ _) hcs.1), (Nat.le_trans (Nat.le_add_right _ _) hcs.2)⟩ rfl (fun H locs M => ?_)
      refine lv_aload_n hx hb dX4_see_46 rfl (lv_at hl 2 rfl) ?_
      refine gf_RX4_26 C0 M dX4_see_47 ?_
      refine lq_aload_n hx hb o_2 dX4_see_50 rfl (lv_at hl 1 rfl) ?_
      obtain ⟨n_9, rfl, hB_10, h⟩ := unw_s h
      have hl : lv_has ls 4 [(3, .int x_4), (2, .ref (sb (400 + n_9))), (0, .ref (sb 0)), (1, .int x1)] := hl
      refine gf_RX4_100 C0 M hB_10 dX4_see_51 ?_
      obtain ⟨x_12, hc_11, h⟩ := bnd_s h
      refine kV (As := [.int (g.1 17 n_9 0)]) (rest := [.int x_8]) (stk := [.int x_12, .int x_8]) (val := (some (.int x_12))) (c1 := cells) (s1 := slots) C0 M (k_X3_lengthOf hc_11) kw_14_1 Y_X3_lengthOf (rv_X3 C0 M) ⟨Nat.le_of_ble_eq_true rfl, Nat.le_of_ble_eq_true rfl⟩ rfl hl.1 rfl (Nat.le_of_ble_eq_true rfl) dX4_see_54 rfl rfl ⟨(Nat.le_trans (Nat.le_add_right _ _) hcs.1), (Nat.le_trans (Nat.le_add_right _ _) hcs.2)⟩ rfl (fun H locs M => ?_)
      refine lv_icmp_eq (tgt := 67) hx hb dX4_see_57 (by decide) (fun c_13 => ?_) (fun c_13 => ?_)
      · rw [if_pos c_13] at h
        refine lv_aload_n hx hb dX4_see_67 rfl (lv_at hl 2 rfl) ?_
        refine lv_iconst (v := 0) hx hb dX4_see_68 (by decide) ?_
        refine lv_iconst (v := 0) hx hb dX4_see_69 (by decide) ?_
        obtain ⟨⟨x_15, g_16, a_17, b_18⟩, hc_14, h⟩ := bnd_s h
        try dsimp only at h
        obtain ⟨q_19, hnew, hres⟩ := addc_s h
        clear h
        subst hres
        have h := hnew
        clear hnew
        have hcs : (cells + a_17) + q_19.2.2.1 ≤ mc ∧ (slots + b_18) + q_19.2.2.2 ≤ ms := ⟨by have h9 := hcs.1; dsimp only at h9; omega, by have h9 := hcs.2; dsimp only at h9; omega⟩
        refine kVA (As := [.int (0 : Int32), .int (0 : Int32)]) (rest := []) (stk := [.int x_15]) (val := (some (.int x_15))) (c1 := (cells + a_17)) (s1 := (slots + b_18)) C0 M (k_X4_hasRoom hc_14) kw_8_3 Y_X4_hasRoom (rv_X4 C0 M) ⟨Nat.le_of_ble_eq_true rfl, Nat.le_of_ble_eq_true rfl⟩ rfl hl.1 rfl (Nat.le_of_ble_eq_true rfl) dX4_see_70 rfl rfl ⟨(Nat.le_trans (Nat.le_add_right _ _) hcs.1), (Nat.le_trans (Nat.le_add_right _ _) hcs.2)⟩ rfl (fun db H locs M => ?_)
        refine lv_if_ne (tgt := 83) hx hb dX4_see_73 (by decide) (fun c_20 => ?_) (fun c_20 => ?_)
        · rw [if_neg c_20] at h
          refine lv_aload_n hx hb dX4_see_83 rfl (lv_at hl 2 rfl) ?_
          refine lv_aload_n hx hb dX4_see_84 rfl (lv_at hl 2 rfl) ?_
          refine gf_RX4_12 C0 M dX4_see_85 ?_
          refine lv_aload_n hx hb dX4_see_88 rfl (lv_at hl 1 rfl) ?_
          refine gf_RX4_106 C0 M hB_10 dX4_see_89 ?_
          obtain ⟨⟨n_22, g_23⟩, hc_21, h⟩ := bnd_s h
          try dsimp only at h
          obtain ⟨hB_24, h⟩ := chk_s h
          refine kV (As := [.ref (sb (100 + 0)), .int (g_16.1 16 n_9 0)]) (rest := []) (stk := [.ref (sb (400 + n_22))]) (val := (some (.ref (sb (400 + n_22))))) (c1 := (cells + a_17)) (s1 := (slots + b_18)) C0 M (k_X4_nextArrayIn hc_21) kw_10_4 Y_X4_nextArrayIn (rv_X4 C0 M) ⟨Nat.le_of_ble_eq_true rfl, Nat.le_of_ble_eq_true rfl⟩ rfl hl.1 rfl (Nat.le_of_ble_eq_true rfl) dX4_see_92 rfl rfl ⟨(Nat.le_trans (Nat.le_add_right _ _) hcs.1), (Nat.le_trans (Nat.le_add_right _ _) hcs.2)⟩ rfl (fun H locs M => ?_)
          refine lv_aload_n hx hb dX4_see_95 rfl (lv_at hl 1 rfl) ?_
          refine gf_RX4_100 C0 M hB_10 dX4_see_96 ?_
          obtain ⟨g_25, hg_26, h⟩ := lett_s h
          refine pf_RX4_100 C0 M hB_24 hg_26 dX4_see_99 (fun H locs M => ?_)
          refine lv_aload_n hx hb dX4_see_102 rfl (lv_at hl 2 rfl) ?_
          refine gf_RX4_12 C0 M dX4_see_103 ?_
          refine lv_iconst (v := 0) hx hb dX4_see_106 (by decide) ?_
          obtain ⟨g_27, hg_28, h⟩ := lett_s h
          refine pf_RX4_51 C0 M (by decide) hg_28 dX4_see_107 (fun H locs M => ?_)
          refine lv_aload_n hx hb dX4_see_110 rfl (lv_at hl 2 rfl) ?_
          refine lv_aload_n hx hb dX4_see_111 rfl (lv_at hl 2 rfl) ?_
          refine gf_RX4_40 C0 M dX4_see_112 ?_
          refine lv_iconst (v := 1) hx hb dX4_see_115 (by decide) ?_
          refine lv_isub hx hb dX4_see_116 ?_
          obtain ⟨⟨x_30, g_31⟩, hc_29, h⟩ := bnd_s h
          try dsimp only at h
          refine kV (As := [.int ((g_27.1 0 0 0) - (1 : Int32))]) (rest := []) (stk := [.int x_30]) (val := (some (.int x_30))) (c1 := (cells + a_17)) (s1 := (slots + b_18)) C0 M (k_X4_done hc_29) kw_5_23 Y_X4_done (rv_X4 C0 M) ⟨Nat.le_of_ble_eq_true rfl, Nat.le_of_ble_eq_true rfl⟩ rfl hl.1 rfl (Nat.le_of_ble_eq_true rfl) dX4_see_117 rfl rfl ⟨(Nat.le_trans (Nat.le_add_right _ _) hcs.1), (Nat.le_trans (Nat.le_add_right _ _) hcs.2)⟩ rfl (fun H locs M => ?_)
          obtain rfl := Option.some.inj h
          exact rA_i C0 M hr hk (Nat.le_trans (Nat.le_add_right _ _) hcs.1) (Nat.le_trans (Nat.le_add_right _ _) hcs.2) dX4_see_120
        · rw [if_pos c_20] at h
          refine lv_aload_n hx hb dX4_see_76 rfl (lv_at hl 2 rfl) ?_
          refine lv_bipush (v := 8) hx hb dX4_see_77 (by decide) ?_
          obtain ⟨⟨x_33, g_34⟩, hc_32, h⟩ := bnd_s h
          try dsimp only at h
          refine kV (As := [.int (8 : Int32)]) (rest := []) (stk := [.int x_33]) (val := (some (.int x_33))) (c1 := (cells + a_17)) (s1 := (slots + b_18)) C0 M (k_X4_stop hc_32) kw_5_10 Y_X4_stop (rv_X4 C0 M) ⟨Nat.le_of_ble_eq_true rfl, Nat.le_of_ble_eq_true rfl⟩ rfl hl.1 rfl (Nat.le_of_ble_eq_true rfl) dX4_see_79 rfl rfl ⟨(Nat.le_trans (Nat.le_add_right _ _) hcs.1), (Nat.le_trans (Nat.le_add_right _ _) hcs.2)⟩ rfl (fun H locs M => ?_)
          obtain rfl := Option.some.inj h
          exact rA_i C0 M hr hk (Nat.le_trans (Nat.le_add_right _ _) hcs.1) (Nat.le_trans (Nat.le_add_right _ _) hcs.2) dX4_see_82
      · rw [if_neg c_13] at h
        refine lv_aload_n hx hb dX4_see_60 rfl (lv_at hl 2 rfl) ?_
        refine lv_bipush (v := 10) hx hb dX4_see_61 (by decide) ?_
        obtain ⟨⟨x_36, g_37⟩, hc_35, h⟩ := bnd_s h
        try dsimp only at h
        refine kV (As := [.int (10 : Int32)]) (rest := []) (stk := [.int x_36]) (val := (some (.int x_36))) (c1 := cells) (s1 := slots) C0 M (k_X4_stop hc_35) kw_5_10 Y_X4_stop (rv_X4 C0 M) ⟨Nat.le_of_ble_eq_true rfl, Nat.le_of_ble_eq_true rfl⟩ rfl hl.1 rfl (Nat.le_of_ble_eq_true rfl) dX4_see_63 rfl rfl ⟨(Nat.le_trans (Nat.le_add_right _ _) hcs.1), (Nat.le_trans (Nat.le_add_right _ _) hcs.2)⟩ rfl (fun H locs M => ?_)
        obtain rfl := Option.some.inj h
        exact rA_i C0 M hr hk (Nat.le_trans (Nat.le_add_right _ _) hcs.1) (Nat.le_trans (Nat.le_add_right _ _) hcs.2) dX4_see_66
    · rw [if_pos c_6] at h
      refine lv_aload_n hx hb dX4_see_32 rfl (lv_at hl 2 rfl) ?_
      refine lv_bipush (v := 9) hx hb dX4_see_33 (by decide) ?_
      obtain ⟨⟨x_39, g_40⟩, hc_38, h⟩ := bnd_s h
      try dsimp only at h
      refine kV (As := [.int (9 : Int32)]) (rest := []) (stk := [.int x_39]) (val := (some (.int x_39))) (c1 := cells) (s1 := slots) C0 M (k_X4_stop hc_38) kw_5_10 Y_X4_stop (rv_X4 C0 M) ⟨Nat.le_of_ble_eq_true rfl, Nat.le_of_ble_eq_true rfl⟩ rfl hl.1 rfl (Nat.le_of_ble_eq_true rfl) dX4_see_35 rfl rfl ⟨(Nat.le_trans (Nat.le_add_right _ _) hcs.1), (Nat.le_trans (Nat.le_add_right _ _) hcs.2)⟩ rfl (fun H locs M => ?_)
      obtain rfl := Option.some.inj h
      exact rA_i C0 M hr hk (Nat.le_trans (Nat.le_add_right _ _) hcs.1) (Nat.le_trans (Nat.le_add_right _ _) hcs.2) dX4_see_38
  · rw [if_neg c_5] at h
    refine lv_aload_n hx hb dX4_see_16 rfl (lv_at hl 2 rfl) ?_
    refine lv_iload_n hx hb dX4_see_17 rfl (lv_at hl 0 rfl) ?_
    obtain ⟨⟨x_42, g_43⟩, hc_41, h⟩ := bnd_s h
    try dsimp only at h
    refine kV (As := [.int x_4]) (rest := []) (stk := [.int x_42]) (val := (some (.int x_42))) (c1 := cells) (s1 := slots) C0 M (k_X4_stop hc_41) kw_5_10 Y_X4_stop (rv_X4 C0 M) ⟨Nat.le_of_ble_eq_true rfl, Nat.le_of_ble_eq_true rfl⟩ rfl hl.1 rfl (Nat.le_of_ble_eq_true rfl) dX4_see_18 rfl rfl ⟨(Nat.le_trans (Nat.le_add_right _ _) hcs.1), (Nat.le_trans (Nat.le_add_right _ _) hcs.2)⟩ rfl (fun H locs M => ?_)
    obtain rfl := Option.some.inj h
    exact rA_i C0 M hr hk (Nat.le_trans (Nat.le_add_right _ _) hcs.1) (Nat.le_trans (Nat.le_add_right _ _) hcs.2) dX4_see_21
theorem k_X4_see {x1 : Int32} {res : Int32 × Gs × Nat × Nat} (h : m_X4_see x1 g = some res) : CA l yX4_see cX4_see 4 (some .int) ({ frames := 5, cells := res.2.2.1, slots := res.2.2.2, locals := 128 } : Room) [.ref (sb 0), .int x1] (some (.int res.1)) D b0 cy sb db g res.2.1 := by
  refine Met.ofW (cc := cX4_see) (maxL := 4) (ret := (some .int)) (by decide) rfl ?_
  intro p e s m args below meth c s₁ B hml hv
  obtain ⟨rfl, hW, hK⟩ := hv
  have hl := lv_entry [.ref (sb 0), .int x1] (n := 4) (Nat.le_of_ble_eq_true rfl)
  rw [lg_entry_eq]
  generalize (lg_sl [.ref (sb 0), .int x1] ++ List.replicate (4 - (lg_sl [.ref (sb 0), .int x1]).length) Slot.unset).toArray = ls at hl ⊢
  have hl : lv_has ls 4 [(0, .ref (sb 0)), (1, .int x1)] := hl
  exact w_X4_see ⟨B.exec, B.bytes, hml, findClass_of_methodNamed B.named, fun w hw => atoms_spec (ws := Cond.code yX4_see cX4_see 4 (some .int) :: wsL_law) B.pre w (List.mem_cons_of_mem _ hw), hK⟩ B.returns B.notSynchronized ⟨Nat.le_of_eq (Nat.zero_add _), Nat.le_of_eq (Nat.zero_add _)⟩ hl ⟨hW, va_S.rf⟩ h
theorem Y_X4_see : Yv yX4_see RX4 cX4_see 4 (some .int) 1 := ⟨⟨kw_13_16, kw_1_2, by decide +kernel, by decide +kernel, by decide +kernel⟩, kw_13_14, kw_13_15⟩
-- X4_turn
def m_X4_turn (x1 : Int32) (g : Gs) : Option (Int32 × Gs × Nat × Nat) :=
  (m_X4_arrayOf x1 g).bind fun o_2 => (m_X4_whyNoRow o_2 g).bind fun x_4 => if x_4 = 0 then (unw o_2 fun n_6 => if (2 : Int32) ≤ (g.1 4 (n_6 + 1) 0) then ((m_X3_lengthOf (g.1 17 n_6 0) g).bind fun x_10 => (m_X4_hasRoom (1 : Int32) x_10 g).bind fun (x_12, g_13, a_14, b_15) => addc a_14 b_15 (if x_12 = 0 then ((m_X4_stop (8 : Int32) g_13).bind fun (x_34, g_35) => some (x_34, g_35, 0, 0)) else ((m_X4_findTurned n_6 g_13).bind fun g_19 => (m_X4_nextArrayIn (n_6 + 1) (g_19.1 16 n_6 0) g_19).bind fun (n_21, g_22) => chk (n_21 < 24) ((m_X2_swapFirstTwo (n_21 + 1) g_22).bind fun g_25 => (m_X4_addOwnRow n_21 g_25).bind fun g_27 => (m_X4_copySources n_21 g_27).bind fun g_29 => (m_X4_done ((g_29.1 0 0 0) - (1 : Int32)) g_29).bind fun (x_31, g_32) => some (x_31, g_32, 0, 0))))) else ((m_X4_stop (9 : Int32) g).bind fun (x_37, g_38) => some (x_37, g_38, 0, 0))) else ((m_X4_stop x_4 g).bind fun (x_40, g_41) => some (x_40, g_41, 0, 0))
set_option maxHeartbeats 4000000 in
set_option maxRecDepth 100000 in
theorem w_X4_turn {x1 : Int32} (C0 : Cx p s m args c cX4_turn 5 RX4 D cy) (hr : meth.sig.returnType = (some .int)) (hk : meth.locks = false) {res : Int32 × Gs × Nat × Nat} {mc ms cells slots : Nat} (hcs : cells + res.2.2.1 ≤ mc ∧ slots + res.2.2.2 ≤ ms) (hl : lv_has ls 5 [(0, .ref (sb 0)), (1, .int x1)]) (M : Ws D b0 cy sb db g s H locs) (h : m_X4_turn x1 g = some res) : W p l e ({ frames := 5, cells := mc, slots := ms, locals := 128 } : Room) s m args below meth c H locs cells slots (MQ below (QY (some (.int res.1)) D b0 cy sb res.2.1) args s mc ms (fun q => b0 ≤ q)) (F0 m 0 ls []) := by
  obtain ⟨hx, hb, hml, hown, hts, hK⟩ := id C0
  rw [m_X4_turn] at h
  refine lv_aload_n hx hb dX4_turn_0 rfl (lv_at hl 0 rfl) ?_
  refine lv_iload_n hx hb dX4_turn_1 rfl (lv_at hl 1 rfl) ?_
  obtain ⟨o_2, hc_1, h⟩ := bnd_s h
  refine kV (As := [.int x1]) (rest := []) (stk := [rfA sb o_2]) (val := (some (rfA sb o_2))) (c1 := cells) (s1 := slots) C0 M (k_X4_arrayOf hc_1) kw_13_17 Y_X4_arrayOf (rv_X4 C0 M) ⟨Nat.le_of_ble_eq_true rfl, Nat.le_of_ble_eq_true rfl⟩ rfl hl.1 rfl (Nat.le_of_ble_eq_true rfl) dX4_turn_2 rfl rfl ⟨(Nat.le_trans (Nat.le_add_right _ _) hcs.1), (Nat.le_trans (Nat.le_add_right _ _) hcs.2)⟩ rfl (fun H locs M => ?_)
  refine lq_astore_n (lv' := [(2, rfA sb o_2), (0, .ref (sb 0)), (1, .int x1)]) hx hb o_2 dX4_turn_5 rfl hl (by decide) rfl (fun ls hl => ?_)
  refine lv_aload_n hx hb dX4_turn_6 rfl (lv_at hl 1 rfl) ?_
  refine lq_aload_n hx hb o_2 dX4_turn_7 rfl (lv_at hl 0 rfl) ?_
  obtain ⟨x_4, hc_3, h⟩ := bnd_s h
  refine kV (As := [rfA sb o_2]) (rest := []) (stk := [.int x_4]) (val := (some (.int x_4))) (c1 := cells) (s1 := slots) C0 M (k_X4_whyNoRow hc_3) kw_13_21 Y_X4_whyNoRow (rv_X4 C0 M) ⟨Nat.le_of_ble_eq_true rfl, Nat.le_of_ble_eq_true rfl⟩ rfl hl.1 rfl (Nat.le_of_ble_eq_true rfl) dX4_turn_8 rfl rfl ⟨(Nat.le_trans (Nat.le_add_right _ _) hcs.1), (Nat.le_trans (Nat.le_add_right _ _) hcs.2)⟩ rfl (fun H locs M => ?_)
  refine lv_istore_n (lv' := [(3, .int x_4), (2, rfA sb o_2), (0, .ref (sb 0)), (1, .int x1)]) hx hb dX4_turn_11 rfl hl (by decide) (by cases o_2 <;> rfl) (fun ls hl => ?_)
  refine lv_iload_n hx hb dX4_turn_12 rfl (lv_at hl 0 rfl) ?_
  refine lv_if_eq (tgt := 22) hx hb dX4_turn_13 (by decide) (fun c_5 => ?_) (fun c_5 => ?_)
  · rw [if_pos c_5] at h
    refine lq_aload_n hx hb o_2 dX4_turn_22 rfl (lv_at hl 1 rfl) ?_
    obtain ⟨n_6, rfl, hB_7, h⟩ := unw_s h
    have hl : lv_has ls 5 [(3, .int x_4), (2, .ref (sb (400 + n_6))), (0, .ref (sb 0)), (1, .int x1)] := hl
    refine gf_RX4_88 C0 M hB_7 dX4_turn_23 ?_
    refine gf_RX4_51 C0 M (Nat.succ_lt_succ hB_7) dX4_turn_26 ?_
    refine lv_iconst (v := 2) hx hb dX4_turn_29 (by decide) ?_
    refine lv_icmp_ge (tgt := 40) hx hb dX4_turn_30 (by decide) (fun c_8 => ?_) (fun c_8 => ?_)
    · rw [if_pos c_8] at h
      refine lv_aload_n hx hb dX4_turn_40 rfl (lv_at hl 2 rfl) ?_
      refine lv_iconst (v := 1) hx hb dX4_turn_41 (by decide) ?_
      refine lv_aload_n hx hb dX4_turn_42 rfl (lv_at hl 2 rfl) ?_
      refine gf_RX4_26 C0 M dX4_turn_43 ?_
      refine lv_aload_n hx hb dX4_turn_46 rfl (lv_at hl 1 rfl) ?_
      refine gf_RX4_100 C0 M hB_7 dX4_turn_47 ?_
      obtain ⟨x_10, hc_9, h⟩ := bnd_s h
      refine kV (As := [.int (g.1 17 n_6 0)]) (rest := [.int (1 : Int32), .ref (sb 0)]) (stk := [.int x_10, .int (1 : Int32), .ref (sb 0)]) (val := (some (.int x_10))) (c1 := cells) (s1 := slots) C0 M (k_X3_lengthOf hc_9) kw_14_1 Y_X3_lengthOf (rv_X3 C0 M) ⟨Nat.le_of_ble_eq_true rfl, Nat.le_of_ble_eq_true rfl⟩ rfl hl.1 rfl (Nat.le_of_ble_eq_true rfl) dX4_turn_50 rfl rfl ⟨(Nat.le_trans (Nat.le_add_right _ _) hcs.1), (Nat.le_trans (Nat.le_add_right _ _) hcs.2)⟩ rfl (fun H locs M => ?_)
      obtain ⟨⟨x_12, g_13, a_14, b_15⟩, hc_11, h⟩ := bnd_s h
      try dsimp only at h
      obtain ⟨q_16, hnew, hres⟩ := addc_s h
      clear h
      subst hres
      have h := hnew
      clear hnew
      have hcs : (cells + a_14) + q_16.2.2.1 ≤ mc ∧ (slots + b_15) + q_16.2.2.2 ≤ ms := ⟨by have h9 := hcs.1; dsimp only at h9; omega, by have h9 := hcs.2; dsimp only at h9; omega⟩
      refine kVA (As := [.int (1 : Int32), .int x_10]) (rest := []) (stk := [.int x_12]) (val := (some (.int x_12))) (c1 := (cells + a_14)) (s1 := (slots + b_15)) C0 M (k_X4_hasRoom hc_11) kw_8_3 Y_X4_hasRoom (rv_X4 C0 M) ⟨Nat.le_of_ble_eq_true rfl, Nat.le_of_ble_eq_true rfl⟩ rfl hl.1 rfl (Nat.le_of_ble_eq_true rfl) dX4_turn_53 rfl rfl ⟨(Nat.le_trans (Nat.le_add_right _ _) hcs.1), (Nat.le_trans (Nat.le_add_right _ _) hcs.2)⟩ rfl (fun db H locs M => ?_)
      refine lv_if_ne (tgt := 66) hx hb dX4_turn_56 (by decide) (fun c_17 => ?_) (fun c_17 => ?_)
      · rw [if_neg c_17] at h
        refine lv_aload_n hx hb dX4_turn_66 rfl (lv_at hl 2 rfl) ?_
        refine lv_aload_n hx hb dX4_turn_67 rfl (lv_at hl 1 rfl) ?_
        obtain ⟨g_19, hc_18, h⟩ := bnd_s h
        refine kV (As := [.ref (sb (400 + n_6))]) (rest := []) (stk := []) (val := none) (c1 := (cells + a_14)) (s1 := (slots + b_15)) C0 M (k_X4_findTurned hc_18) kw_14_21 Y_X4_findTurned (rv_X4 C0 M) ⟨Nat.le_of_ble_eq_true rfl, Nat.le_of_ble_eq_true rfl⟩ rfl hl.1 rfl (Nat.le_of_ble_eq_true rfl) dX4_turn_68 rfl rfl ⟨(Nat.le_trans (Nat.le_add_right _ _) hcs.1), (Nat.le_trans (Nat.le_add_right _ _) hcs.2)⟩ rfl (fun H locs M => ?_)
        refine lv_aload_n hx hb dX4_turn_71 rfl (lv_at hl 2 rfl) ?_
        refine lv_aload_n hx hb dX4_turn_72 rfl (lv_at hl 1 rfl) ?_
        refine gf_RX4_88 C0 M hB_7 dX4_turn_73 ?_
        refine lv_aload_n hx hb dX4_turn_76 rfl (lv_at hl 1 rfl) ?_
        refine gf_RX4_106 C0 M hB_7 dX4_turn_77 ?_
        obtain ⟨⟨n_21, g_22⟩, hc_20, h⟩ := bnd_s h
        try dsimp only at h
        obtain ⟨hB_23, h⟩ := chk_s h
        refine kV (As := [.ref (sb (100 + (n_6 + 1))), .int (g_19.1 16 n_6 0)]) (rest := []) (stk := [.ref (sb (400 + n_21))]) (val := (some (.ref (sb (400 + n_21))))) (c1 := (cells + a_14)) (s1 := (slots + b_15)) C0 M (k_X4_nextArrayIn hc_20) kw_10_4 Y_X4_nextArrayIn (rv_X4 C0 M) ⟨Nat.le_of_ble_eq_true rfl, Nat.le_of_ble_eq_true rfl⟩ rfl hl.1 rfl (Nat.le_of_ble_eq_true rfl) dX4_turn_80 rfl rfl ⟨(Nat.le_trans (Nat.le_add_right _ _) hcs.1), (Nat.le_trans (Nat.le_add_right _ _) hcs.2)⟩ rfl (fun H locs M => ?_)
        refine lv_astore (lv' := [(4, .ref (sb (400 + n_21))), (3, .int x_4), (2, .ref (sb (400 + n_6))), (0, .ref (sb 0)), (1, .int x1)]) hx hb dX4_turn_83 hl (by decide) rfl (fun ls hl => ?_)
        refine lv_aload hx hb dX4_turn_85 (lv_at hl 0 rfl) ?_
        refine gf_RX4_88 C0 M hB_23 dX4_turn_87 ?_
        obtain ⟨g_25, hc_24, h⟩ := bnd_s h
        refine kV (As := []) (rest := []) (stk := []) (val := none) (c1 := (cells + a_14)) (s1 := (slots + b_15)) C0 M (k_X2_swapFirstTwo hc_24) kw_15_5 Y_X2_swapFirstTwo (rv_X2 C0 M (Nat.succ_lt_succ hB_23)) ⟨Nat.le_of_ble_eq_true rfl, Nat.le_of_ble_eq_true rfl⟩ rfl hl.1 rfl (Nat.le_of_ble_eq_true rfl) dX4_turn_90 rfl rfl ⟨(Nat.le_trans (Nat.le_add_right _ _) hcs.1), (Nat.le_trans (Nat.le_add_right _ _) hcs.2)⟩ rfl (fun H locs M => ?_)
        refine lv_aload_n hx hb dX4_turn_93 rfl (lv_at hl 3 rfl) ?_
        refine lv_aload hx hb dX4_turn_94 (lv_at hl 0 rfl) ?_
        obtain ⟨g_27, hc_26, h⟩ := bnd_s h
        refine kV (As := [.ref (sb (400 + n_21))]) (rest := []) (stk := []) (val := none) (c1 := (cells + a_14)) (s1 := (slots + b_15)) C0 M (k_X4_addOwnRow hc_26) kw_11_10 Y_X4_addOwnRow (rv_X4 C0 M) ⟨Nat.le_of_ble_eq_true rfl, Nat.le_of_ble_eq_true rfl⟩ rfl hl.1 rfl (Nat.le_of_ble_eq_true rfl) dX4_turn_96 rfl rfl ⟨(Nat.le_trans (Nat.le_add_right _ _) hcs.1), (Nat.le_trans (Nat.le_add_right _ _) hcs.2)⟩ rfl (fun H locs M => ?_)
        refine lv_aload_n hx hb dX4_turn_99 rfl (lv_at hl 3 rfl) ?_
        refine lv_aload hx hb dX4_turn_100 (lv_at hl 0 rfl) ?_
        obtain ⟨g_29, hc_28, h⟩ := bnd_s h
        refine kV (As := [.ref (sb (400 + n_21))]) (rest := []) (stk := []) (val := none) (c1 := (cells + a_14)) (s1 := (slots + b_15)) C0 M (k_X4_copySources hc_28) kw_15_9 Y_X4_copySources (rv_X4 C0 M) ⟨Nat.le_of_ble_eq_true rfl, Nat.le_of_ble_eq_true rfl⟩ rfl hl.1 rfl (Nat.le_of_ble_eq_true rfl) dX4_turn_102 rfl rfl ⟨(Nat.le_trans (Nat.le_add_right _ _) hcs.1), (Nat.le_trans (Nat.le_add_right _ _) hcs.2)⟩ rfl (fun H locs M => ?_)
        refine lv_aload_n hx hb dX4_turn_105 rfl (lv_at hl 3 rfl) ?_
        refine lv_aload_n hx hb dX4_turn_106 rfl (lv_at hl 3 rfl) ?_
        refine gf_RX4_40 C0 M dX4_turn_107 ?_
        refine lv_iconst (v := 1) hx hb dX4_turn_110 (by decide) ?_
        refine lv_isub hx hb dX4_turn_111 ?_
        obtain ⟨⟨x_31, g_32⟩, hc_30, h⟩ := bnd_s h
        try dsimp only at h
        refine kV (As := [.int ((g_29.1 0 0 0) - (1 : Int32))]) (rest := []) (stk := [.int x_31]) (val := (some (.int x_31))) (c1 := (cells + a_14)) (s1 := (slots + b_15)) C0 M (k_X4_done hc_30) kw_5_23 Y_X4_done (rv_X4 C0 M) ⟨Nat.le_of_ble_eq_true rfl, Nat.le_of_ble_eq_true rfl⟩ rfl hl.1 rfl (Nat.le_of_ble_eq_true rfl) dX4_turn_112 rfl rfl ⟨(Nat.le_trans (Nat.le_add_right _ _) hcs.1), (Nat.le_trans (Nat.le_add_right _ _) hcs.2)⟩ rfl (fun H locs M => ?_)
        obtain rfl := Option.some.inj h
        exact rA_i C0 M hr hk (Nat.le_trans (Nat.le_add_right _ _) hcs.1) (Nat.le_trans (Nat.le_add_right _ _) hcs.2) dX4_turn_115
      · rw [if_pos c_17] at h
        refine lv_aload_n hx hb dX4_turn_59 rfl (lv_at hl 2 rfl) ?_
        refine lv_bipush (v := 8) hx hb dX4_turn_60 (by decide) ?_
        obtain ⟨⟨x_34, g_35⟩, hc_33, h⟩ := bnd_s h
        try dsimp only at h
        refine kV (As := [.int (8 : Int32)]) (rest := []) (stk := [.int x_34]) (val := (some (.int x_34))) (c1 := (cells + a_14)) (s1 := (slots + b_15)) C0 M (k_X4_stop hc_33) kw_5_10 Y_X4_stop (rv_X4 C0 M) ⟨Nat.le_of_ble_eq_true rfl, Nat.le_of_ble_eq_true rfl⟩ rfl hl.1 rfl (Nat.le_of_ble_eq_true rfl) dX4_turn_62 rfl rfl ⟨(Nat.le_trans (Nat.le_add_right _ _) hcs.1), (Nat.le_trans (Nat.le_add_right _ _) hcs.2)⟩ rfl (fun H locs M => ?_)
        obtain rfl := Option.some.inj h
        exact rA_i C0 M hr hk (Nat.le_trans (Nat.le_add_right _ _) hcs.1) (Nat.le_trans (Nat.le_add_right _ _) hcs.2) dX4_turn_65
    · rw [if_neg c_8] at h
      refine lv_aload_n hx hb dX4_turn_33 rfl (lv_at hl 2 rfl) ?_
      refine lv_bipush (v := 9) hx hb dX4_turn_34 (by decide) ?_
      obtain ⟨⟨x_37, g_38⟩, hc_36, h⟩ := bnd_s h
      try dsimp only at h
      refine kV (As := [.int (9 : Int32)]) (rest := []) (stk := [.int x_37]) (val := (some (.int x_37))) (c1 := cells) (s1 := slots) C0 M (k_X4_stop hc_36) kw_5_10 Y_X4_stop (rv_X4 C0 M) ⟨Nat.le_of_ble_eq_true rfl, Nat.le_of_ble_eq_true rfl⟩ rfl hl.1 rfl (Nat.le_of_ble_eq_true rfl) dX4_turn_36 rfl rfl ⟨(Nat.le_trans (Nat.le_add_right _ _) hcs.1), (Nat.le_trans (Nat.le_add_right _ _) hcs.2)⟩ rfl (fun H locs M => ?_)
      obtain rfl := Option.some.inj h
      exact rA_i C0 M hr hk (Nat.le_trans (Nat.le_add_right _ _) hcs.1) (Nat.le_trans (Nat.le_add_right _ _) hcs.2) dX4_turn_39
  · rw [if_neg c_5] at h
    refine lv_aload_n hx hb dX4_turn_16 rfl (lv_at hl 2 rfl) ?_
    refine lv_iload_n hx hb dX4_turn_17 rfl (lv_at hl 0 rfl) ?_
    obtain ⟨⟨x_40, g_41⟩, hc_39, h⟩ := bnd_s h
    try dsimp only at h
    refine kV (As := [.int x_4]) (rest := []) (stk := [.int x_40]) (val := (some (.int x_40))) (c1 := cells) (s1 := slots) C0 M (k_X4_stop hc_39) kw_5_10 Y_X4_stop (rv_X4 C0 M) ⟨Nat.le_of_ble_eq_true rfl, Nat.le_of_ble_eq_true rfl⟩ rfl hl.1 rfl (Nat.le_of_ble_eq_true rfl) dX4_turn_18 rfl rfl ⟨(Nat.le_trans (Nat.le_add_right _ _) hcs.1), (Nat.le_trans (Nat.le_add_right _ _) hcs.2)⟩ rfl (fun H locs M => ?_)
    obtain rfl := Option.some.inj h
    exact rA_i C0 M hr hk (Nat.le_trans (Nat.le_add_right _ _) hcs.1) (Nat.le_trans (Nat.le_add_right _ _) hcs.2) dX4_turn_21
theorem k_X4_turn {x1 : Int32} {res : Int32 × Gs × Nat × Nat} (h : m_X4_turn x1 g = some res) : CA l yX4_turn cX4_turn 5 (some .int) ({ frames := 5, cells := res.2.2.1, slots := res.2.2.2, locals := 128 } : Room) [.ref (sb 0), .int x1] (some (.int res.1)) D b0 cy sb db g res.2.1 := by
  refine Met.ofW (cc := cX4_turn) (maxL := 5) (ret := (some .int)) (by decide) rfl ?_
  intro p e s m args below meth c s₁ B hml hv
  obtain ⟨rfl, hW, hK⟩ := hv
  have hl := lv_entry [.ref (sb 0), .int x1] (n := 5) (Nat.le_of_ble_eq_true rfl)
  rw [lg_entry_eq]
  generalize (lg_sl [.ref (sb 0), .int x1] ++ List.replicate (5 - (lg_sl [.ref (sb 0), .int x1]).length) Slot.unset).toArray = ls at hl ⊢
  have hl : lv_has ls 5 [(0, .ref (sb 0)), (1, .int x1)] := hl
  exact w_X4_turn ⟨B.exec, B.bytes, hml, findClass_of_methodNamed B.named, fun w hw => atoms_spec (ws := Cond.code yX4_turn cX4_turn 5 (some .int) :: wsL_law) B.pre w (List.mem_cons_of_mem _ hw), hK⟩ B.returns B.notSynchronized ⟨Nat.le_of_eq (Nat.zero_add _), Nat.le_of_eq (Nat.zero_add _)⟩ hl ⟨hW, va_S.rf⟩ h
theorem Y_X4_turn : Yv yX4_turn RX4 cX4_turn 5 (some .int) 1 := ⟨⟨kw_14_20, kw_1_2, by decide +kernel, by decide +kernel, by decide +kernel⟩, kw_14_18, kw_14_19⟩
-- X4_cut
def m_X4_cut (x1 : Int32) (g : Gs) : Option (Int32 × Gs × Nat × Nat) :=
  (m_X4_arrayOf x1 g).bind fun o_2 => (m_X4_whyNoRow o_2 g).bind fun x_4 => if x_4 = 0 then (unw o_2 fun n_6 => if (g.1 4 0 0) = (g.1 4 (n_6 + 1) 0) then ((m_X2_items 0 g).bind fun x_10 => if x_10 ≤ (500 : Int32) then ((m_X4_findCut n_6 g).bind fun (x_13, g_14) => if x_13 = (-1 : Int32) then ((m_X4_hasRoom (1 : Int32) x_10 g_14).bind fun (x_17, g_18, a_19, b_20) => addc a_19 b_20 (if x_17 = 0 then ((m_X4_stop (8 : Int32) g_18).bind fun (x_37, g_38) => some (x_37, g_38, 0, 0)) else ((m_X4_nextArrayIn 0 (g_18.1 16 n_6 0) g_18).bind fun (n_24, g_25) => chk (n_24 < 24) ((m_X4_addOwnRow n_24 g_25).bind fun g_28 => (m_X4_copySources n_24 g_28).bind fun g_30 => lett (sI g_30 4 0 0 (0 : Int32)) fun g_31 => (m_X4_done ((g_31.1 0 0 0) - (1 : Int32)) g_31).bind fun (x_34, g_35) => some (x_34, g_35, 0, 0))))) else ((m_X4_stopBeyond x_13 g_14).bind fun (x_40, g_41) => some (x_40, g_41, 0, 0))) else ((m_X4_stop (5 : Int32) g).bind fun (x_43, g_44) => some (x_43, g_44, 0, 0))) else ((m_X4_stop (9 : Int32) g).bind fun (x_46, g_47) => some (x_46, g_47, 0, 0))) else ((m_X4_stop x_4 g).bind fun (x_49, g_50) => some (x_49, g_50, 0, 0))
set_option maxHeartbeats 4000000 in
set_option maxRecDepth 100000 in
theorem w_X4_cut {x1 : Int32} (C0 : Cx p s m args c cX4_cut 7 RX4 D cy) (hr : meth.sig.returnType = (some .int)) (hk : meth.locks = false) {res : Int32 × Gs × Nat × Nat} {mc ms cells slots : Nat} (hcs : cells + res.2.2.1 ≤ mc ∧ slots + res.2.2.2 ≤ ms) (hl : lv_has ls 7 [(0, .ref (sb 0)), (1, .int x1)]) (M : Ws D b0 cy sb db g s H locs) (h : m_X4_cut x1 g = some res) : W p l e ({ frames := 5, cells := mc, slots := ms, locals := 128 } : Room) s m args below meth c H locs cells slots (MQ below (QY (some (.int res.1)) D b0 cy sb res.2.1) args s mc ms (fun q => b0 ≤ q)) (F0 m 0 ls []) := by
  obtain ⟨hx, hb, hml, hown, hts, hK⟩ := id C0
  rw [m_X4_cut] at h
  refine lv_aload_n hx hb dX4_cut_0 rfl (lv_at hl 0 rfl) ?_
  refine lv_iload_n hx hb dX4_cut_1 rfl (lv_at hl 1 rfl) ?_
  obtain ⟨o_2, hc_1, h⟩ := bnd_s h
  refine kV (As := [.int x1]) (rest := []) (stk := [rfA sb o_2]) (val := (some (rfA sb o_2))) (c1 := cells) (s1 := slots) C0 M (k_X4_arrayOf hc_1) kw_13_17 Y_X4_arrayOf (rv_X4 C0 M) ⟨Nat.le_of_ble_eq_true rfl, Nat.le_of_ble_eq_true rfl⟩ rfl hl.1 rfl (Nat.le_of_ble_eq_true rfl) dX4_cut_2 rfl rfl ⟨(Nat.le_trans (Nat.le_add_right _ _) hcs.1), (Nat.le_trans (Nat.le_add_right _ _) hcs.2)⟩ rfl (fun H locs M => ?_)
  refine lq_astore_n (lv' := [(2, rfA sb o_2), (0, .ref (sb 0)), (1, .int x1)]) hx hb o_2 dX4_cut_5 rfl hl (by decide) rfl (fun ls hl => ?_)
  refine lv_aload_n hx hb dX4_cut_6 rfl (lv_at hl 1 rfl) ?_
  refine lq_aload_n hx hb o_2 dX4_cut_7 rfl (lv_at hl 0 rfl) ?_
  obtain ⟨x_4, hc_3, h⟩ := bnd_s h
  refine kV (As := [rfA sb o_2]) (rest := []) (stk := [.int x_4]) (val := (some (.int x_4))) (c1 := cells) (s1 := slots) C0 M (k_X4_whyNoRow hc_3) kw_13_21 Y_X4_whyNoRow (rv_X4 C0 M) ⟨Nat.le_of_ble_eq_true rfl, Nat.le_of_ble_eq_true rfl⟩ rfl hl.1 rfl (Nat.le_of_ble_eq_true rfl) dX4_cut_8 rfl rfl ⟨(Nat.le_trans (Nat.le_add_right _ _) hcs.1), (Nat.le_trans (Nat.le_add_right _ _) hcs.2)⟩ rfl (fun H locs M => ?_)
  refine lv_istore_n (lv' := [(3, .int x_4), (2, rfA sb o_2), (0, .ref (sb 0)), (1, .int x1)]) hx hb dX4_cut_11 rfl hl (by decide) (by cases o_2 <;> rfl) (fun ls hl => ?_)
  refine lv_iload_n hx hb dX4_cut_12 rfl (lv_at hl 0 rfl) ?_
  refine lv_if_eq (tgt := 22) hx hb dX4_cut_13 (by decide) (fun c_5 => ?_) (fun c_5 => ?_)
  · rw [if_pos c_5] at h
    refine lv_aload_n hx hb dX4_cut_22 rfl (lv_at hl 2 rfl) ?_
    refine gf_RX4_12 C0 M dX4_cut_23 ?_
    refine gf_RX4_51 C0 M (by decide) dX4_cut_26 ?_
    refine lq_aload_n hx hb o_2 dX4_cut_29 rfl (lv_at hl 1 rfl) ?_
    obtain ⟨n_6, rfl, hB_7, h⟩ := unw_s h
    have hl : lv_has ls 7 [(3, .int x_4), (2, .ref (sb (400 + n_6))), (0, .ref (sb 0)), (1, .int x1)] := hl
    refine gf_RX4_88 C0 M hB_7 dX4_cut_30 ?_
    refine gf_RX4_51 C0 M (Nat.succ_lt_succ hB_7) dX4_cut_33 ?_
    refine lv_icmp_eq (tgt := 46) hx hb dX4_cut_36 (by decide) (fun c_8 => ?_) (fun c_8 => ?_)
    · rw [if_pos c_8] at h
      refine lv_aload_n hx hb dX4_cut_46 rfl (lv_at hl 2 rfl) ?_
      refine gf_RX4_12 C0 M dX4_cut_47 ?_
      obtain ⟨x_10, hc_9, h⟩ := bnd_s h
      refine kV (As := []) (rest := []) (stk := [.int x_10]) (val := (some (.int x_10))) (c1 := cells) (s1 := slots) C0 M (k_X2_items hc_9) kw_7_10 Y_X2_items (rv_X2 C0 M (by decide)) ⟨Nat.le_of_ble_eq_true rfl, Nat.le_of_ble_eq_true rfl⟩ rfl hl.1 rfl (Nat.le_of_ble_eq_true rfl) dX4_cut_50 rfl rfl ⟨(Nat.le_trans (Nat.le_add_right _ _) hcs.1), (Nat.le_trans (Nat.le_add_right _ _) hcs.2)⟩ rfl (fun H locs M => ?_)
      refine lv_istore (lv' := [(4, .int x_10), (3, .int x_4), (2, .ref (sb (400 + n_6))), (0, .ref (sb 0)), (1, .int x1)]) hx hb dX4_cut_53 hl (by decide) rfl (fun ls hl => ?_)
      refine lv_iload hx hb dX4_cut_55 (lv_at hl 0 rfl) ?_
      refine lv_sipush (v := 500) hx hb dX4_cut_57 (by decide) ?_
      refine lv_icmp_le (tgt := 69) hx hb dX4_cut_60 (by decide) (fun c_11 => ?_) (fun c_11 => ?_)
      · rw [if_pos c_11] at h
        refine lv_aload_n hx hb dX4_cut_69 rfl (lv_at hl 3 rfl) ?_
        refine lv_aload_n hx hb dX4_cut_70 rfl (lv_at hl 2 rfl) ?_
        obtain ⟨⟨x_13, g_14⟩, hc_12, h⟩ := bnd_s h
        try dsimp only at h
        refine kV (As := [.ref (sb (400 + n_6))]) (rest := []) (stk := [.int x_13]) (val := (some (.int x_13))) (c1 := cells) (s1 := slots) C0 M (k_X4_findCut hc_12) kw_16_5 Y_X4_findCut (rv_X4 C0 M) ⟨Nat.le_of_ble_eq_true rfl, Nat.le_of_ble_eq_true rfl⟩ rfl hl.1 rfl (Nat.le_of_ble_eq_true rfl) dX4_cut_71 rfl rfl ⟨(Nat.le_trans (Nat.le_add_right _ _) hcs.1), (Nat.le_trans (Nat.le_add_right _ _) hcs.2)⟩ rfl (fun H locs M => ?_)
        refine lv_istore (lv' := [(5, .int x_13), (4, .int x_10), (3, .int x_4), (2, .ref (sb (400 + n_6))), (0, .ref (sb 0)), (1, .int x1)]) hx hb dX4_cut_74 hl (by decide) rfl (fun ls hl => ?_)
        refine lv_iload hx hb dX4_cut_76 (lv_at hl 0 rfl) ?_
        refine lv_iconst (v := -1) hx hb dX4_cut_78 (by decide) ?_
        refine lv_icmp_eq (tgt := 89) hx hb dX4_cut_79 (by decide) (fun c_15 => ?_) (fun c_15 => ?_)
        · rw [if_pos c_15] at h
          refine lv_aload_n hx hb dX4_cut_89 rfl (lv_at hl 4 rfl) ?_
          refine lv_iconst (v := 1) hx hb dX4_cut_90 (by decide) ?_
          refine lv_iload hx hb dX4_cut_91 (lv_at hl 1 rfl) ?_
          obtain ⟨⟨x_17, g_18, a_19, b_20⟩, hc_16, h⟩ := bnd_s h
          try dsimp only at h
          obtain ⟨q_21, hnew, hres⟩ := addc_s h
          clear h
          subst hres
          have h := hnew
          clear hnew
          have hcs : (cells + a_19) + q_21.2.2.1 ≤ mc ∧ (slots + b_20) + q_21.2.2.2 ≤ ms := ⟨by have h9 := hcs.1; dsimp only at h9; omega, by have h9 := hcs.2; dsimp only at h9; omega⟩
          refine kVA (As := [.int (1 : Int32), .int x_10]) (rest := []) (stk := [.int x_17]) (val := (some (.int x_17))) (c1 := (cells + a_19)) (s1 := (slots + b_20)) C0 M (k_X4_hasRoom hc_16) kw_8_3 Y_X4_hasRoom (rv_X4 C0 M) ⟨Nat.le_of_ble_eq_true rfl, Nat.le_of_ble_eq_true rfl⟩ rfl hl.1 rfl (Nat.le_of_ble_eq_true rfl) dX4_cut_93 rfl rfl ⟨(Nat.le_trans (Nat.le_add_right _ _) hcs.1), (Nat.le_trans (Nat.le_add_right _ _) hcs.2)⟩ rfl (fun db H locs M => ?_)
          refine lv_if_ne (tgt := 106) hx hb dX4_cut_96 (by decide) (fun c_22 => ?_) (fun c_22 => ?_)
          · rw [if_neg c_22] at h
            refine lv_aload_n hx hb dX4_cut_106 rfl (lv_at hl 4 rfl) ?_
            refine lv_aload_n hx hb dX4_cut_107 rfl (lv_at hl 4 rfl) ?_
            refine gf_RX4_12 C0 M dX4_cut_108 ?_
            refine lv_aload_n hx hb dX4_cut_111 rfl (lv_at hl 3 rfl) ?_
            refine gf_RX4_106 C0 M hB_7 dX4_cut_112 ?_
            obtain ⟨⟨n_24, g_25⟩, hc_23, h⟩ := bnd_s h
            try dsimp only at h
            obtain ⟨hB_26, h⟩ := chk_s h
            refine kV (As := [.ref (sb (100 + 0)), .int (g_18.1 16 n_6 0)]) (rest := []) (stk := [.ref (sb (400 + n_24))]) (val := (some (.ref (sb (400 + n_24))))) (c1 := (cells + a_19)) (s1 := (slots + b_20)) C0 M (k_X4_nextArrayIn hc_23) kw_10_4 Y_X4_nextArrayIn (rv_X4 C0 M) ⟨Nat.le_of_ble_eq_true rfl, Nat.le_of_ble_eq_true rfl⟩ rfl hl.1 rfl (Nat.le_of_ble_eq_true rfl) dX4_cut_115 rfl rfl ⟨(Nat.le_trans (Nat.le_add_right _ _) hcs.1), (Nat.le_trans (Nat.le_add_right _ _) hcs.2)⟩ rfl (fun H locs M => ?_)
            refine lv_astore (lv' := [(6, .ref (sb (400 + n_24))), (5, .int x_13), (4, .int x_10), (3, .int x_4), (2, .ref (sb (400 + n_6))), (0, .ref (sb 0)), (1, .int x1)]) hx hb dX4_cut_118 hl (by decide) rfl (fun ls hl => ?_)
            refine lv_aload_n hx hb dX4_cut_120 rfl (lv_at hl 5 rfl) ?_
            refine lv_aload hx hb dX4_cut_121 (lv_at hl 0 rfl) ?_
            obtain ⟨g_28, hc_27, h⟩ := bnd_s h
            refine kV (As := [.ref (sb (400 + n_24))]) (rest := []) (stk := []) (val := none) (c1 := (cells + a_19)) (s1 := (slots + b_20)) C0 M (k_X4_addOwnRow hc_27) kw_11_10 Y_X4_addOwnRow (rv_X4 C0 M) ⟨Nat.le_of_ble_eq_true rfl, Nat.le_of_ble_eq_true rfl⟩ rfl hl.1 rfl (Nat.le_of_ble_eq_true rfl) dX4_cut_123 rfl rfl ⟨(Nat.le_trans (Nat.le_add_right _ _) hcs.1), (Nat.le_trans (Nat.le_add_right _ _) hcs.2)⟩ rfl (fun H locs M => ?_)
            refine lv_aload_n hx hb dX4_cut_126 rfl (lv_at hl 5 rfl) ?_
            refine lv_aload hx hb dX4_cut_127 (lv_at hl 0 rfl) ?_
            obtain ⟨g_30, hc_29, h⟩ := bnd_s h
            refine kV (As := [.ref (sb (400 + n_24))]) (rest := []) (stk := []) (val := none) (c1 := (cells + a_19)) (s1 := (slots + b_20)) C0 M (k_X4_copySources hc_29) kw_15_9 Y_X4_copySources (rv_X4 C0 M) ⟨Nat.le_of_ble_eq_true rfl, Nat.le_of_ble_eq_true rfl⟩ rfl hl.1 rfl (Nat.le_of_ble_eq_true rfl) dX4_cut_129 rfl rfl ⟨(Nat.le_trans (Nat.le_add_right _ _) hcs.1), (Nat.le_trans (Nat.le_add_right _ _) hcs.2)⟩ rfl (fun H locs M => ?_)
            refine lv_aload_n hx hb dX4_cut_132 rfl (lv_at hl 5 rfl) ?_
            refine gf_RX4_12 C0 M dX4_cut_133 ?_
            refine lv_iconst (v := 0) hx hb dX4_cut_136 (by decide) ?_
            obtain ⟨g_31, hg_32, h⟩ := lett_s h
            refine pf_RX4_51 C0 M (by decide) hg_32 dX4_cut_137 (fun H locs M => ?_)
            refine lv_aload_n hx hb dX4_cut_140 rfl (lv_at hl 5 rfl) ?_
            refine lv_aload_n hx hb dX4_cut_141 rfl (lv_at hl 5 rfl) ?_
            refine gf_RX4_40 C0 M dX4_cut_142 ?_
            refine lv_iconst (v := 1) hx hb dX4_cut_145 (by decide) ?_
            refine lv_isub hx hb dX4_cut_146 ?_
            obtain ⟨⟨x_34, g_35⟩, hc_33, h⟩ := bnd_s h
            try dsimp only at h
            refine kV (As := [.int ((g_31.1 0 0 0) - (1 : Int32))]) (rest := []) (stk := [.int x_34]) (val := (some (.int x_34))) (c1 := (cells + a_19)) (s1 := (slots + b_20)) C0 M (k_X4_done hc_33) kw_5_23 Y_X4_done (rv_X4 C0 M) ⟨Nat.le_of_ble_eq_true rfl, Nat.le_of_ble_eq_true rfl⟩ rfl hl.1 rfl (Nat.le_of_ble_eq_true rfl) dX4_cut_147 rfl rfl ⟨(Nat.le_trans (Nat.le_add_right _ _) hcs.1), (Nat.le_trans (Nat.le_add_right _ _) hcs.2)⟩ rfl (fun H locs M => ?_)
            obtain rfl := Option.some.inj h
            exact rA_i C0 M hr hk (Nat.le_trans (Nat.le_add_right _ _) hcs.1) (Nat.le_trans (Nat.le_add_right _ _) hcs.2) dX4_cut_150
          · rw [if_pos c_22] at h
            refine lv_aload_n hx hb dX4_cut_99 rfl (lv_at hl 4 rfl) ?_
            refine lv_bipush (v := 8) hx hb dX4_cut_100 (by decide) ?_
            obtain ⟨⟨x_37, g_38⟩, hc_36, h⟩ := bnd_s h
            try dsimp only at h
            refine kV (As := [.int (8 : Int32)]) (rest := []) (stk := [.int x_37]) (val := (some (.int x_37))) (c1 := (cells + a_19)) (s1 := (slots + b_20)) C0 M (k_X4_stop hc_36) kw_5_10 Y_X4_stop (rv_X4 C0 M) ⟨Nat.le_of_ble_eq_true rfl, Nat.le_of_ble_eq_true rfl⟩ rfl hl.1 rfl (Nat.le_of_ble_eq_true rfl) dX4_cut_102 rfl rfl ⟨(Nat.le_trans (Nat.le_add_right _ _) hcs.1), (Nat.le_trans (Nat.le_add_right _ _) hcs.2)⟩ rfl (fun H locs M => ?_)
            obtain rfl := Option.some.inj h
            exact rA_i C0 M hr hk (Nat.le_trans (Nat.le_add_right _ _) hcs.1) (Nat.le_trans (Nat.le_add_right _ _) hcs.2) dX4_cut_105
        · rw [if_neg c_15] at h
          refine lv_aload_n hx hb dX4_cut_82 rfl (lv_at hl 4 rfl) ?_
          refine lv_iload hx hb dX4_cut_83 (lv_at hl 0 rfl) ?_
          obtain ⟨⟨x_40, g_41⟩, hc_39, h⟩ := bnd_s h
          try dsimp only at h
          refine kV (As := [.int x_13]) (rest := []) (stk := [.int x_40]) (val := (some (.int x_40))) (c1 := cells) (s1 := slots) C0 M (k_X4_stopBeyond hc_39) kw_17_5 Y_X4_stopBeyond (rv_X4 C0 M) ⟨Nat.le_of_ble_eq_true rfl, Nat.le_of_ble_eq_true rfl⟩ rfl hl.1 rfl (Nat.le_of_ble_eq_true rfl) dX4_cut_85 rfl rfl ⟨(Nat.le_trans (Nat.le_add_right _ _) hcs.1), (Nat.le_trans (Nat.le_add_right _ _) hcs.2)⟩ rfl (fun H locs M => ?_)
          obtain rfl := Option.some.inj h
          exact rA_i C0 M hr hk (Nat.le_trans (Nat.le_add_right _ _) hcs.1) (Nat.le_trans (Nat.le_add_right _ _) hcs.2) dX4_cut_88
      · rw [if_neg c_11] at h
        refine lv_aload_n hx hb dX4_cut_63 rfl (lv_at hl 3 rfl) ?_
        refine lv_iconst (v := 5) hx hb dX4_cut_64 (by decide) ?_
        obtain ⟨⟨x_43, g_44⟩, hc_42, h⟩ := bnd_s h
        try dsimp only at h
        refine kV (As := [.int (5 : Int32)]) (rest := []) (stk := [.int x_43]) (val := (some (.int x_43))) (c1 := cells) (s1 := slots) C0 M (k_X4_stop hc_42) kw_5_10 Y_X4_stop (rv_X4 C0 M) ⟨Nat.le_of_ble_eq_true rfl, Nat.le_of_ble_eq_true rfl⟩ rfl hl.1 rfl (Nat.le_of_ble_eq_true rfl) dX4_cut_65 rfl rfl ⟨(Nat.le_trans (Nat.le_add_right _ _) hcs.1), (Nat.le_trans (Nat.le_add_right _ _) hcs.2)⟩ rfl (fun H locs M => ?_)
        obtain rfl := Option.some.inj h
        exact rA_i C0 M hr hk (Nat.le_trans (Nat.le_add_right _ _) hcs.1) (Nat.le_trans (Nat.le_add_right _ _) hcs.2) dX4_cut_68
    · rw [if_neg c_8] at h
      refine lv_aload_n hx hb dX4_cut_39 rfl (lv_at hl 2 rfl) ?_
      refine lv_bipush (v := 9) hx hb dX4_cut_40 (by decide) ?_
      obtain ⟨⟨x_46, g_47⟩, hc_45, h⟩ := bnd_s h
      try dsimp only at h
      refine kV (As := [.int (9 : Int32)]) (rest := []) (stk := [.int x_46]) (val := (some (.int x_46))) (c1 := cells) (s1 := slots) C0 M (k_X4_stop hc_45) kw_5_10 Y_X4_stop (rv_X4 C0 M) ⟨Nat.le_of_ble_eq_true rfl, Nat.le_of_ble_eq_true rfl⟩ rfl hl.1 rfl (Nat.le_of_ble_eq_true rfl) dX4_cut_42 rfl rfl ⟨(Nat.le_trans (Nat.le_add_right _ _) hcs.1), (Nat.le_trans (Nat.le_add_right _ _) hcs.2)⟩ rfl (fun H locs M => ?_)
      obtain rfl := Option.some.inj h
      exact rA_i C0 M hr hk (Nat.le_trans (Nat.le_add_right _ _) hcs.1) (Nat.le_trans (Nat.le_add_right _ _) hcs.2) dX4_cut_45
  · rw [if_neg c_5] at h
    refine lv_aload_n hx hb dX4_cut_16 rfl (lv_at hl 2 rfl) ?_
    refine lv_iload_n hx hb dX4_cut_17 rfl (lv_at hl 0 rfl) ?_
    obtain ⟨⟨x_49, g_50⟩, hc_48, h⟩ := bnd_s h
    try dsimp only at h
    refine kV (As := [.int x_4]) (rest := []) (stk := [.int x_49]) (val := (some (.int x_49))) (c1 := cells) (s1 := slots) C0 M (k_X4_stop hc_48) kw_5_10 Y_X4_stop (rv_X4 C0 M) ⟨Nat.le_of_ble_eq_true rfl, Nat.le_of_ble_eq_true rfl⟩ rfl hl.1 rfl (Nat.le_of_ble_eq_true rfl) dX4_cut_18 rfl rfl ⟨(Nat.le_trans (Nat.le_add_right _ _) hcs.1), (Nat.le_trans (Nat.le_add_right _ _) hcs.2)⟩ rfl (fun H locs M => ?_)
    obtain rfl := Option.some.inj h
    exact rA_i C0 M hr hk (Nat.le_trans (Nat.le_add_right _ _) hcs.1) (Nat.le_trans (Nat.le_add_right _ _) hcs.2) dX4_cut_21
theorem k_X4_cut {x1 : Int32} {res : Int32 × Gs × Nat × Nat} (h : m_X4_cut x1 g = some res) : CA l yX4_cut cX4_cut 7 (some .int) ({ frames := 5, cells := res.2.2.1, slots := res.2.2.2, locals := 128 } : Room) [.ref (sb 0), .int x1] (some (.int res.1)) D b0 cy sb db g res.2.1 := by
  refine Met.ofW (cc := cX4_cut) (maxL := 7) (ret := (some .int)) (by decide) rfl ?_
  intro p e s m args below meth c s₁ B hml hv
  obtain ⟨rfl, hW, hK⟩ := hv
  have hl := lv_entry [.ref (sb 0), .int x1] (n := 7) (Nat.le_of_ble_eq_true rfl)
  rw [lg_entry_eq]
  generalize (lg_sl [.ref (sb 0), .int x1] ++ List.replicate (7 - (lg_sl [.ref (sb 0), .int x1]).length) Slot.unset).toArray = ls at hl ⊢
  have hl : lv_has ls 7 [(0, .ref (sb 0)), (1, .int x1)] := hl
  exact w_X4_cut ⟨B.exec, B.bytes, hml, findClass_of_methodNamed B.named, fun w hw => atoms_spec (ws := Cond.code yX4_cut cX4_cut 7 (some .int) :: wsL_law) B.pre w (List.mem_cons_of_mem _ hw), hK⟩ B.returns B.notSynchronized ⟨Nat.le_of_eq (Nat.zero_add _), Nat.le_of_eq (Nat.zero_add _)⟩ hl ⟨hW, va_S.rf⟩ h
theorem Y_X4_cut : Yv yX4_cut RX4 cX4_cut 7 (some .int) 1 := ⟨⟨kw_16_4, kw_1_2, by decide +kernel, by decide +kernel, by decide +kernel⟩, kw_16_2, kw_16_3⟩
-- X4_whyNotDeep
def m_X4_whyNotDeep_J83 (xs0 : Int32) (g : Gs) : Option (Int32 × Gs × Nat × Nat) :=
  some (xs0, g, 0, 0)
def m_X4_whyNotDeep (o1 : Option Nat) (g : Gs) : Option (Int32 × Gs × Nat × Nat) :=
  cas o1 (some ((7 : Int32), g, 0, 0)) fun n_1 => if (g.1 16 n_1 0) = (1 : Int32) then (if (g.1 4 (n_1 + 1) 0) = (2 : Int32) then ((m_X2_length (n_1 + 1) (0 : Int32) g).bind fun y_6 => if (lg_cmp y_6 (500 : Int64)) ≤ 0 then ((m_X2_length (n_1 + 1) (0 : Int32) g).bind fun y_9 => lett y_9.toInt32 fun x_10 => (m_X3_lengthOf (g.1 17 n_1 0) g).bind fun x_13 => (m_X4_hasRoom x_10 x_13 g).bind fun (x_15, g_16, a_17, b_18) => addc a_17 b_18 (if x_15 = 0 then (m_X4_whyNotDeep_J83 (8 : Int32) g_16) else (m_X4_whyNotDeep_J83 (0 : Int32) g_16))) else (some ((5 : Int32), g, 0, 0))) else (some ((9 : Int32), g, 0, 0))) else (some ((2 : Int32), g, 0, 0))
set_option maxHeartbeats 4000000 in
set_option maxRecDepth 100000 in
theorem w_X4_whyNotDeep_J83 {xs0 : Int32} (C0 : Cx p s m args c cX4_whyNotDeep 3 RX4 D cy) (hr : meth.sig.returnType = (some .int)) (hk : meth.locks = false) {res : Int32 × Gs × Nat × Nat} {mc ms cells slots : Nat} (hcs : cells + res.2.2.1 ≤ mc ∧ slots + res.2.2.2 ≤ ms) (hl : lv_has ls 3 []) (M : Ws D b0 cy sb db g s H locs) (h : m_X4_whyNotDeep_J83 xs0 g = some res) : W p l e ({ frames := 5, cells := mc, slots := ms, locals := 128 } : Room) s m args below meth c H locs cells slots (MQ below (QY (some (.int res.1)) D b0 cy sb res.2.1) args s mc ms (fun q => b0 ≤ q)) (F0 m 83 ls [.int xs0]) := by
  obtain ⟨hx, hb, hml, hown, hts, hK⟩ := id C0
  rw [m_X4_whyNotDeep_J83] at h
  obtain rfl := Option.some.inj h
  exact rA_i C0 M hr hk (Nat.le_trans (Nat.le_add_right _ _) hcs.1) (Nat.le_trans (Nat.le_add_right _ _) hcs.2) dX4_whyNotDeep_83
set_option maxHeartbeats 4000000 in
set_option maxRecDepth 100000 in
theorem w_X4_whyNotDeep {o1 : Option Nat} (C0 : Cx p s m args c cX4_whyNotDeep 3 RX4 D cy) (hr : meth.sig.returnType = (some .int)) (hk : meth.locks = false) {res : Int32 × Gs × Nat × Nat} {mc ms cells slots : Nat} (hcs : cells + res.2.2.1 ≤ mc ∧ slots + res.2.2.2 ≤ ms) (hl : lv_has ls 3 [(0, .ref (sb 0)), (1, rfA sb o1)]) (M : Ws D b0 cy sb db g s H locs) (h : m_X4_whyNotDeep o1 g = some res) : W p l e ({ frames := 5, cells := mc, slots := ms, locals := 128 } : Room) s m args below meth c H locs cells slots (MQ below (QY (some (.int res.1)) D b0 cy sb res.2.1) args s mc ms (fun q => b0 ≤ q)) (F0 m 0 ls []) := by
  obtain ⟨hx, hb, hml, hown, hts, hK⟩ := id C0
  rw [m_X4_whyNotDeep] at h
  refine lq_aload_n hx hb o1 dX4_whyNotDeep_0 rfl (lv_at hl 1 rfl) ?_
  cases o1 with
  | none =>
    try dsimp only [cas] at h
    refine lv_ifnonnullN hx hb dX4_whyNotDeep_1 ?_
    refine lv_bipush (v := 7) hx hb dX4_whyNotDeep_4 (by decide) ?_
    obtain rfl := Option.some.inj h
    exact rA_i C0 M hr hk (Nat.le_trans (Nat.le_add_right _ _) hcs.1) (Nat.le_trans (Nat.le_add_right _ _) hcs.2) dX4_whyNotDeep_6
  | some n_1 =>
    obtain ⟨hB_2, h⟩ := chk_s (show chk _ _ = _ from h)
    try dsimp only at h
    have hl : lv_has ls 3 [(0, .ref (sb 0)), (1, .ref (sb (400 + n_1)))] := hl
    refine lv_ifnonnull (tgt := 7) hx hb dX4_whyNotDeep_1 (by decide) ?_
    refine lv_aload_n hx hb dX4_whyNotDeep_7 rfl (lv_at hl 1 rfl) ?_
    refine gf_RX4_106 C0 M hB_2 dX4_whyNotDeep_8 ?_
    refine lv_iconst (v := 1) hx hb dX4_whyNotDeep_11 (by decide) ?_
    refine lv_icmp_eq (tgt := 17) hx hb dX4_whyNotDeep_12 (by decide) (fun c_3 => ?_) (fun c_3 => ?_)
    · rw [if_pos c_3] at h
      refine lv_aload_n hx hb dX4_whyNotDeep_17 rfl (lv_at hl 1 rfl) ?_
      refine gf_RX4_88 C0 M hB_2 dX4_whyNotDeep_18 ?_
      refine gf_RX4_51 C0 M (Nat.succ_lt_succ hB_2) dX4_whyNotDeep_21 ?_
      refine lv_iconst (v := 2) hx hb dX4_whyNotDeep_24 (by decide) ?_
      refine lv_icmp_eq (tgt := 31) hx hb dX4_whyNotDeep_25 (by decide) (fun c_4 => ?_) (fun c_4 => ?_)
      · rw [if_pos c_4] at h
        refine lv_aload_n hx hb dX4_whyNotDeep_31 rfl (lv_at hl 1 rfl) ?_
        refine gf_RX4_88 C0 M hB_2 dX4_whyNotDeep_32 ?_
        refine lv_iconst (v := 0) hx hb dX4_whyNotDeep_35 (by decide) ?_
        obtain ⟨y_6, hc_5, h⟩ := bnd_s h
        refine kV (As := [.int (0 : Int32)]) (rest := []) (stk := [.long y_6]) (val := (some (.long y_6))) (c1 := cells) (s1 := slots) C0 M (k_X2_length hc_5) kw_8_2 Y_X2_length (rv_X2 C0 M (Nat.succ_lt_succ hB_2)) ⟨Nat.le_of_ble_eq_true rfl, Nat.le_of_ble_eq_true rfl⟩ rfl hl.1 rfl (Nat.le_of_ble_eq_true rfl) dX4_whyNotDeep_36 rfl rfl ⟨(Nat.le_trans (Nat.le_add_right _ _) hcs.1), (Nat.le_trans (Nat.le_add_right _ _) hcs.2)⟩ rfl (fun H locs M => ?_)
        refine lv_ldc2 (v := 500) hx hb hown (hts _ kw_7_9) dX4_whyNotDeep_39 ?_
        refine W.lcmp hx hb dX4_whyNotDeep_42 ?_
        refine lv_if_le (tgt := 48) hx hb dX4_whyNotDeep_43 (by decide) (fun c_7 => ?_) (fun c_7 => ?_)
        · rw [if_pos c_7] at h
          refine lv_aload_n hx hb dX4_whyNotDeep_48 rfl (lv_at hl 1 rfl) ?_
          refine gf_RX4_88 C0 M hB_2 dX4_whyNotDeep_49 ?_
          refine lv_iconst (v := 0) hx hb dX4_whyNotDeep_52 (by decide) ?_
          obtain ⟨y_9, hc_8, h⟩ := bnd_s h
          refine kV (As := [.int (0 : Int32)]) (rest := []) (stk := [.long y_9]) (val := (some (.long y_9))) (c1 := cells) (s1 := slots) C0 M (k_X2_length hc_8) kw_8_2 Y_X2_length (rv_X2 C0 M (Nat.succ_lt_succ hB_2)) ⟨Nat.le_of_ble_eq_true rfl, Nat.le_of_ble_eq_true rfl⟩ rfl hl.1 rfl (Nat.le_of_ble_eq_true rfl) dX4_whyNotDeep_53 rfl rfl ⟨(Nat.le_trans (Nat.le_add_right _ _) hcs.1), (Nat.le_trans (Nat.le_add_right _ _) hcs.2)⟩ rfl (fun H locs M => ?_)
          refine lv_l2i hx hb dX4_whyNotDeep_56 rfl ?_
          obtain ⟨x_10, hn_11, h⟩ := lett_s h
          refine nm_i hn_11 ?_
          refine lv_istore_n (lv' := [(2, .int x_10), (0, .ref (sb 0)), (1, .ref (sb (400 + n_1)))]) hx hb dX4_whyNotDeep_57 rfl hl (by decide) rfl (fun ls hl => ?_)
          refine lv_aload_n hx hb dX4_whyNotDeep_58 rfl (lv_at hl 1 rfl) ?_
          refine lv_iload_n hx hb dX4_whyNotDeep_59 rfl (lv_at hl 0 rfl) ?_
          refine lv_aload_n hx hb dX4_whyNotDeep_60 rfl (lv_at hl 1 rfl) ?_
          refine gf_RX4_26 C0 M dX4_whyNotDeep_61 ?_
          refine lv_aload_n hx hb dX4_whyNotDeep_64 rfl (lv_at hl 2 rfl) ?_
          refine gf_RX4_100 C0 M hB_2 dX4_whyNotDeep_65 ?_
          obtain ⟨x_13, hc_12, h⟩ := bnd_s h
          refine kV (As := [.int (g.1 17 n_1 0)]) (rest := [.int x_10, .ref (sb 0)]) (stk := [.int x_13, .int x_10, .ref (sb 0)]) (val := (some (.int x_13))) (c1 := cells) (s1 := slots) C0 M (k_X3_lengthOf hc_12) kw_14_1 Y_X3_lengthOf (rv_X3 C0 M) ⟨Nat.le_of_ble_eq_true rfl, Nat.le_of_ble_eq_true rfl⟩ rfl hl.1 rfl (Nat.le_of_ble_eq_true rfl) dX4_whyNotDeep_68 rfl rfl ⟨(Nat.le_trans (Nat.le_add_right _ _) hcs.1), (Nat.le_trans (Nat.le_add_right _ _) hcs.2)⟩ rfl (fun H locs M => ?_)
          obtain ⟨⟨x_15, g_16, a_17, b_18⟩, hc_14, h⟩ := bnd_s h
          try dsimp only at h
          obtain ⟨q_19, hnew, hres⟩ := addc_s h
          clear h
          subst hres
          have h := hnew
          clear hnew
          have hcs : (cells + a_17) + q_19.2.2.1 ≤ mc ∧ (slots + b_18) + q_19.2.2.2 ≤ ms := ⟨by have h9 := hcs.1; dsimp only at h9; omega, by have h9 := hcs.2; dsimp only at h9; omega⟩
          refine kVA (As := [.int x_10, .int x_13]) (rest := []) (stk := [.int x_15]) (val := (some (.int x_15))) (c1 := (cells + a_17)) (s1 := (slots + b_18)) C0 M (k_X4_hasRoom hc_14) kw_8_3 Y_X4_hasRoom (rv_X4 C0 M) ⟨Nat.le_of_ble_eq_true rfl, Nat.le_of_ble_eq_true rfl⟩ rfl hl.1 rfl (Nat.le_of_ble_eq_true rfl) dX4_whyNotDeep_71 rfl rfl ⟨(Nat.le_trans (Nat.le_add_right _ _) hcs.1), (Nat.le_trans (Nat.le_add_right _ _) hcs.2)⟩ rfl (fun db H locs M => ?_)
          refine lv_if_eq (tgt := 81) hx hb dX4_whyNotDeep_74 (by decide) (fun c_20 => ?_) (fun c_20 => ?_)
          · rw [if_pos c_20] at h
            refine lv_bipush (v := 8) hx hb dX4_whyNotDeep_81 (by decide) ?_
            exact w_X4_whyNotDeep_J83 C0 hr hk (res := q_19) hcs (lv_sub hl [] rfl) M h
          · rw [if_neg c_20] at h
            refine lv_iconst (v := 0) hx hb dX4_whyNotDeep_77 (by decide) ?_
            refine lv_goto (tgt := 83) hx hb dX4_whyNotDeep_78 (by decide) ?_
            exact w_X4_whyNotDeep_J83 C0 hr hk (res := q_19) hcs (lv_sub hl [] rfl) M h
        · rw [if_neg c_7] at h
          refine lv_iconst (v := 5) hx hb dX4_whyNotDeep_46 (by decide) ?_
          obtain rfl := Option.some.inj h
          exact rA_i C0 M hr hk (Nat.le_trans (Nat.le_add_right _ _) hcs.1) (Nat.le_trans (Nat.le_add_right _ _) hcs.2) dX4_whyNotDeep_47
      · rw [if_neg c_4] at h
        refine lv_bipush (v := 9) hx hb dX4_whyNotDeep_28 (by decide) ?_
        obtain rfl := Option.some.inj h
        exact rA_i C0 M hr hk (Nat.le_trans (Nat.le_add_right _ _) hcs.1) (Nat.le_trans (Nat.le_add_right _ _) hcs.2) dX4_whyNotDeep_30
    · rw [if_neg c_3] at h
      refine lv_iconst (v := 2) hx hb dX4_whyNotDeep_15 (by decide) ?_
      obtain rfl := Option.some.inj h
      exact rA_i C0 M hr hk (Nat.le_trans (Nat.le_add_right _ _) hcs.1) (Nat.le_trans (Nat.le_add_right _ _) hcs.2) dX4_whyNotDeep_16
theorem k_X4_whyNotDeep {o1 : Option Nat} {res : Int32 × Gs × Nat × Nat} (h : m_X4_whyNotDeep o1 g = some res) : CA l yX4_whyNotDeep cX4_whyNotDeep 3 (some .int) ({ frames := 5, cells := res.2.2.1, slots := res.2.2.2, locals := 128 } : Room) [.ref (sb 0), rfA sb o1] (some (.int res.1)) D b0 cy sb db g res.2.1 := by
  refine Met.ofW (cc := cX4_whyNotDeep) (maxL := 3) (ret := (some .int)) (by decide) rfl ?_
  intro p e s m args below meth c s₁ B hml hv
  obtain ⟨rfl, hW, hK⟩ := hv
  cases o1 with
  | none =>
    have hl := lv_entry [.ref (sb 0), rfA sb none] (n := 3) (Nat.le_of_ble_eq_true rfl)
    rw [lg_entry_eq]
    generalize (lg_sl [.ref (sb 0), rfA sb none] ++ List.replicate (3 - (lg_sl [.ref (sb 0), rfA sb none]).length) Slot.unset).toArray = ls at hl ⊢
    have hl : lv_has ls 3 [(0, .ref (sb 0)), (1, rfA sb none)] := hl
    exact w_X4_whyNotDeep ⟨B.exec, B.bytes, hml, findClass_of_methodNamed B.named, fun w hw => atoms_spec (ws := Cond.code yX4_whyNotDeep cX4_whyNotDeep 3 (some .int) :: wsL_law) B.pre w (List.mem_cons_of_mem _ hw), hK⟩ B.returns B.notSynchronized ⟨Nat.le_of_eq (Nat.zero_add _), Nat.le_of_eq (Nat.zero_add _)⟩ hl ⟨hW, va_S.rf⟩ h
  | some no1 =>
    have hl := lv_entry [.ref (sb 0), rfA sb (some no1)] (n := 3) (Nat.le_of_ble_eq_true rfl)
    rw [lg_entry_eq]
    generalize (lg_sl [.ref (sb 0), rfA sb (some no1)] ++ List.replicate (3 - (lg_sl [.ref (sb 0), rfA sb (some no1)]).length) Slot.unset).toArray = ls at hl ⊢
    have hl : lv_has ls 3 [(0, .ref (sb 0)), (1, rfA sb (some no1))] := hl
    exact w_X4_whyNotDeep ⟨B.exec, B.bytes, hml, findClass_of_methodNamed B.named, fun w hw => atoms_spec (ws := Cond.code yX4_whyNotDeep cX4_whyNotDeep 3 (some .int) :: wsL_law) B.pre w (List.mem_cons_of_mem _ hw), hK⟩ B.returns B.notSynchronized ⟨Nat.le_of_eq (Nat.zero_add _), Nat.le_of_eq (Nat.zero_add _)⟩ hl ⟨hW, va_S.rf⟩ h
theorem Y_X4_whyNotDeep : Yv yX4_whyNotDeep RX4 cX4_whyNotDeep 3 (some .int) 1 := ⟨⟨kw_18_8, kw_1_2, by decide +kernel, by decide +kernel, by decide +kernel⟩, kw_18_6, kw_18_7⟩
-- X4_deep
def m_X4_deep_L55 (n4 : Nat) : Nat → Int32 → Int32 → Gs → Option (Gs)
  | 0, _, _, _ => none
  | fu + 1, x5, x6, g =>
  (m_X1_rowCount n4 g).bind fun x_26 => if x_26 ≤ x6 then (some g) else (chk (inb x6 (g.2.2 (500 + n4))) (lett (g.1 18 n4 x6.toNatClampNeg) fun x_29 => (m_X3_startOf x_29 g).bind fun x_32 => (m_X3_lengthOf x_29 g).bind fun x_34 => (m_X3_copyCells x5 x_32 x_34 g).bind fun g_36 => (m_X3_lengthOf x_29 g_36).bind fun x_38 => lett (x5 + x_38) fun x_39 => lett (x6 + 1) fun x_41 => m_X4_deep_L55 n4 fu x_39 x_41 g_36))
def m_X4_deep (x1 : Int32) (g : Gs) : Option (Int32 × Gs × Nat × Nat) :=
  (m_X4_arrayOf x1 g).bind fun o_2 => (m_X4_whyNotDeep o_2 g).bind fun (x_4, g_5, a_6, b_7) => addc a_6 b_7 (if x_4 = 0 then (unw o_2 fun n_10 => (m_X4_nextArrayIn (n_10 + 1) (4 : Int32) g_5).bind fun (n_13, g_14) => chk (n_13 < 24) ((m_X4_addTableRows n_13 g_14).bind fun (g_17, a_18, b_19) => addc a_18 b_19 ((m_X3_startOf (g_17.1 17 n_10 0) g_17).bind fun x_22 => lett (0 : Int32) fun x_23 => (m_X4_deep_L55 n_13 FU x_22 x_23 g_17).bind fun g_43 => (m_X4_done ((g_43.1 0 0 0) - (1 : Int32)) g_43).bind fun (x_45, g_46) => some (x_45, g_46, 0, 0)))) else ((m_X4_stop x_4 g_5).bind fun (x_50, g_51) => some (x_50, g_51, 0, 0)))
set_option maxHeartbeats 4000000 in
set_option maxRecDepth 100000 in
theorem w_X4_deep_L55 {n4 : Nat} (hB4 : n4 < 24) (C0 : Cx p s m args c cX4_deep 8 RX4 D cy) (hr : meth.sig.returnType = (some .int)) (hk : meth.locks = false) {res : Int32 × Gs × Nat × Nat} {q : Gs} {mc ms cells slots : Nat} (hcs0 : cells ≤ mc ∧ slots ≤ ms) (kk : ∀ (g : Gs) (H : Heap) (locs : List Loc) (ls : Array Slot), q = g → lv_has ls 8 [(0, .ref (sb 0))] → Ws D b0 cy sb db g s H locs → W p l e ({ frames := 6, cells := mc, slots := ms, locals := 150 } : Room) s m args below meth c H locs cells slots (MQ below (QY (some (.int res.1)) D b0 cy sb res.2.1) args s mc ms (fun q => b0 ≤ q)) (F0 m 122 ls [])) : ∀ (fu : Nat) (x5 : Int32) (x6 : Int32) (g : Gs) (H : Heap) (locs : List Loc) (ls : Array Slot), lv_has ls 8 [(0, .ref (sb 0)), (4, .ref (sb (400 + n4))), (5, .int x5), (6, .int x6)] → Ws D b0 cy sb db g s H locs → m_X4_deep_L55 n4 fu x5 x6 g = some q → W p l e ({ frames := 6, cells := mc, slots := ms, locals := 150 } : Room) s m args below meth c H locs cells slots (MQ below (QY (some (.int res.1)) D b0 cy sb res.2.1) args s mc ms (fun q => b0 ≤ q)) (F0 m 55 ls []) := by
  obtain ⟨hx, hb, hml, hown, hts, hK⟩ := id C0
  intro fu
  induction fu with
  | zero =>
    intro x5 x6 g H locs ls hl M h
    cases h
  | succ fu ih =>
    intro x5 x6 g H locs ls hl M h
    rw [m_X4_deep_L55] at h
    refine lv_iload hx hb dX4_deep_55 (lv_at hl 3 rfl) ?_
    refine lv_aload hx hb dX4_deep_57 (lv_at hl 1 rfl) ?_
    obtain ⟨x_26, hc_25, h⟩ := bnd_s h
    refine kV (As := []) (rest := [.int x6]) (stk := [.int x_26, .int x6]) (val := (some (.int x_26))) (c1 := cells) (s1 := slots) C0 M (k_X1_rowCount hc_25) kw_11_1 Y_X1_rowCount (rv_X1 C0 M hB4) ⟨Nat.le_of_ble_eq_true rfl, Nat.le_of_ble_eq_true rfl⟩ rfl hl.1 rfl (Nat.le_of_ble_eq_true rfl) dX4_deep_59 rfl rfl ⟨hcs0.1, hcs0.2⟩ rfl (fun H locs M => ?_)
    refine lv_icmp_ge (tgt := 122) hx hb dX4_deep_62 (by decide) (fun c_27 => ?_) (fun c_27 => ?_)
    · rw [if_pos c_27] at h
      exact kk _ _ _ _ (Option.some.inj h).symm (lv_sub hl [0] rfl) M
    · rw [if_neg c_27] at h
      refine lv_aload hx hb dX4_deep_65 (lv_at hl 1 rfl) ?_
      refine gf_RX4_133 C0 M hB4 dX4_deep_67 ?_
      refine lv_iload hx hb dX4_deep_70 (lv_at hl 3 rfl) ?_
      obtain ⟨hi_28, h⟩ := chk_s h
      refine al_ROWS C0 M hB4 hi_28 dX4_deep_72 ?_
      obtain ⟨x_29, hn_30, h⟩ := lett_s h
      refine nm_i hn_30 ?_
      refine lv_istore (lv' := [(7, .int x_29), (0, .ref (sb 0)), (4, .ref (sb (400 + n4))), (5, .int x5), (6, .int x6)]) hx hb dX4_deep_73 hl (by decide) rfl (fun ls hl => ?_)
      refine lv_aload_n hx hb dX4_deep_75 rfl (lv_at hl 1 rfl) ?_
      refine gf_RX4_26 C0 M dX4_deep_76 ?_
      refine lv_iload hx hb dX4_deep_79 (lv_at hl 3 rfl) ?_
      refine lv_aload_n hx hb dX4_deep_81 rfl (lv_at hl 1 rfl) ?_
      refine gf_RX4_26 C0 M dX4_deep_82 ?_
      refine lv_iload hx hb dX4_deep_85 (lv_at hl 0 rfl) ?_
      obtain ⟨x_32, hc_31, h⟩ := bnd_s h
      refine kV (As := [.int x_29]) (rest := [.int x5, .ref (sb 8)]) (stk := [.int x_32, .int x5, .ref (sb 8)]) (val := (some (.int x_32))) (c1 := cells) (s1 := slots) C0 M (k_X3_startOf hc_31) kw_15_1 Y_X3_startOf (rv_X3 C0 M) ⟨Nat.le_of_ble_eq_true rfl, Nat.le_of_ble_eq_true rfl⟩ rfl hl.1 rfl (Nat.le_of_ble_eq_true rfl) dX4_deep_87 rfl rfl ⟨hcs0.1, hcs0.2⟩ rfl (fun H locs M => ?_)
      refine lv_aload_n hx hb dX4_deep_90 rfl (lv_at hl 1 rfl) ?_
      refine gf_RX4_26 C0 M dX4_deep_91 ?_
      refine lv_iload hx hb dX4_deep_94 (lv_at hl 0 rfl) ?_
      obtain ⟨x_34, hc_33, h⟩ := bnd_s h
      refine kV (As := [.int x_29]) (rest := [.int x_32, .int x5, .ref (sb 8)]) (stk := [.int x_34, .int x_32, .int x5, .ref (sb 8)]) (val := (some (.int x_34))) (c1 := cells) (s1 := slots) C0 M (k_X3_lengthOf hc_33) kw_14_1 Y_X3_lengthOf (rv_X3 C0 M) ⟨Nat.le_of_ble_eq_true rfl, Nat.le_of_ble_eq_true rfl⟩ rfl hl.1 rfl (Nat.le_of_ble_eq_true rfl) dX4_deep_96 rfl rfl ⟨hcs0.1, hcs0.2⟩ rfl (fun H locs M => ?_)
      obtain ⟨g_36, hc_35, h⟩ := bnd_s h
      refine kV (As := [.int x5, .int x_32, .int x_34]) (rest := []) (stk := []) (val := none) (c1 := cells) (s1 := slots) C0 M (k_X3_copyCells hc_35) kw_15_13 Y_X3_copyCells (rv_X3 C0 M) ⟨Nat.le_of_ble_eq_true rfl, Nat.le_of_ble_eq_true rfl⟩ rfl hl.1 rfl (Nat.le_of_ble_eq_true rfl) dX4_deep_99 rfl rfl ⟨hcs0.1, hcs0.2⟩ rfl (fun H locs M => ?_)
      refine lv_iload hx hb dX4_deep_102 (lv_at hl 3 rfl) ?_
      refine lv_aload_n hx hb dX4_deep_104 rfl (lv_at hl 1 rfl) ?_
      refine gf_RX4_26 C0 M dX4_deep_105 ?_
      refine lv_iload hx hb dX4_deep_108 (lv_at hl 0 rfl) ?_
      obtain ⟨x_38, hc_37, h⟩ := bnd_s h
      refine kV (As := [.int x_29]) (rest := [.int x5]) (stk := [.int x_38, .int x5]) (val := (some (.int x_38))) (c1 := cells) (s1 := slots) C0 M (k_X3_lengthOf hc_37) kw_14_1 Y_X3_lengthOf (rv_X3 C0 M) ⟨Nat.le_of_ble_eq_true rfl, Nat.le_of_ble_eq_true rfl⟩ rfl hl.1 rfl (Nat.le_of_ble_eq_true rfl) dX4_deep_110 rfl rfl ⟨hcs0.1, hcs0.2⟩ rfl (fun H locs M => ?_)
      refine lv_iadd hx hb dX4_deep_113 ?_
      obtain ⟨x_39, hn_40, h⟩ := lett_s h
      refine nm_i hn_40 ?_
      refine lv_istore (lv' := [(5, .int x_39), (7, .int x_29), (0, .ref (sb 0)), (4, .ref (sb (400 + n4))), (6, .int x6)]) hx hb dX4_deep_114 hl (by decide) rfl (fun ls hl => ?_)
      obtain ⟨x_41, hn_42, h⟩ := lett_s h
      refine lv_iinc (v := x_41) (lv' := [(6, .int x_41), (5, .int x_39), (7, .int x_29), (0, .ref (sb 0)), (4, .ref (sb (400 + n4)))]) hx hb dX4_deep_116 hl (k := 4) rfl (by rw [hn_42]; rfl) (by decide) rfl (fun ls hl => ?_)
      refine lv_goto (tgt := 55) hx hb dX4_deep_119 (by decide) ?_
      exact ih _ _ _ _ _ _ (lv_sub hl [3, 4, 1, 0] rfl) M h
set_option maxHeartbeats 4000000 in
set_option maxRecDepth 100000 in
theorem w_X4_deep {x1 : Int32} (C0 : Cx p s m args c cX4_deep 8 RX4 D cy) (hr : meth.sig.returnType = (some .int)) (hk : meth.locks = false) {res : Int32 × Gs × Nat × Nat} {mc ms cells slots : Nat} (hcs : cells + res.2.2.1 ≤ mc ∧ slots + res.2.2.2 ≤ ms) (hl : lv_has ls 8 [(0, .ref (sb 0)), (1, .int x1)]) (M : Ws D b0 cy sb db g s H locs) (h : m_X4_deep x1 g = some res) : W p l e ({ frames := 6, cells := mc, slots := ms, locals := 150 } : Room) s m args below meth c H locs cells slots (MQ below (QY (some (.int res.1)) D b0 cy sb res.2.1) args s mc ms (fun q => b0 ≤ q)) (F0 m 0 ls []) := by
  obtain ⟨hx, hb, hml, hown, hts, hK⟩ := id C0
  rw [m_X4_deep] at h
  refine lv_aload_n hx hb dX4_deep_0 rfl (lv_at hl 0 rfl) ?_
  refine lv_iload_n hx hb dX4_deep_1 rfl (lv_at hl 1 rfl) ?_
  obtain ⟨o_2, hc_1, h⟩ := bnd_s h
  refine kV (As := [.int x1]) (rest := []) (stk := [rfA sb o_2]) (val := (some (rfA sb o_2))) (c1 := cells) (s1 := slots) C0 M (k_X4_arrayOf hc_1) kw_13_17 Y_X4_arrayOf (rv_X4 C0 M) ⟨Nat.le_of_ble_eq_true rfl, Nat.le_of_ble_eq_true rfl⟩ rfl hl.1 rfl (Nat.le_of_ble_eq_true rfl) dX4_deep_2 rfl rfl ⟨(Nat.le_trans (Nat.le_add_right _ _) hcs.1), (Nat.le_trans (Nat.le_add_right _ _) hcs.2)⟩ rfl (fun H locs M => ?_)
  refine lq_astore_n (lv' := [(2, rfA sb o_2), (0, .ref (sb 0)), (1, .int x1)]) hx hb o_2 dX4_deep_5 rfl hl (by decide) rfl (fun ls hl => ?_)
  refine lv_aload_n hx hb dX4_deep_6 rfl (lv_at hl 1 rfl) ?_
  refine lq_aload_n hx hb o_2 dX4_deep_7 rfl (lv_at hl 0 rfl) ?_
  obtain ⟨⟨x_4, g_5, a_6, b_7⟩, hc_3, h⟩ := bnd_s h
  try dsimp only at h
  obtain ⟨q_8, hnew, hres⟩ := addc_s h
  clear h
  subst hres
  have h := hnew
  clear hnew
  have hcs : (cells + a_6) + q_8.2.2.1 ≤ mc ∧ (slots + b_7) + q_8.2.2.2 ≤ ms := ⟨by have h9 := hcs.1; dsimp only at h9; omega, by have h9 := hcs.2; dsimp only at h9; omega⟩
  refine kVA (As := [rfA sb o_2]) (rest := []) (stk := [.int x_4]) (val := (some (.int x_4))) (c1 := (cells + a_6)) (s1 := (slots + b_7)) C0 M (k_X4_whyNotDeep hc_3) kw_18_5 Y_X4_whyNotDeep (rv_X4 C0 M) ⟨Nat.le_of_ble_eq_true rfl, Nat.le_of_ble_eq_true rfl⟩ rfl hl.1 rfl (Nat.le_of_ble_eq_true rfl) dX4_deep_8 rfl rfl ⟨(Nat.le_trans (Nat.le_add_right _ _) hcs.1), (Nat.le_trans (Nat.le_add_right _ _) hcs.2)⟩ rfl (fun db H locs M => ?_)
  refine lv_istore_n (lv' := [(3, .int x_4), (2, rfA sb o_2), (0, .ref (sb 0)), (1, .int x1)]) hx hb dX4_deep_11 rfl hl (by decide) (by cases o_2 <;> rfl) (fun ls hl => ?_)
  refine lv_iload_n hx hb dX4_deep_12 rfl (lv_at hl 0 rfl) ?_
  refine lv_if_eq (tgt := 22) hx hb dX4_deep_13 (by decide) (fun c_9 => ?_) (fun c_9 => ?_)
  · rw [if_pos c_9] at h
    refine lv_aload_n hx hb dX4_deep_22 rfl (lv_at hl 2 rfl) ?_
    refine lq_aload_n hx hb o_2 dX4_deep_23 rfl (lv_at hl 1 rfl) ?_
    obtain ⟨n_10, rfl, hB_11, h⟩ := unw_s h
    have hl : lv_has ls 8 [(3, .int x_4), (2, .ref (sb (400 + n_10))), (0, .ref (sb 0)), (1, .int x1)] := hl
    refine gf_RX4_88 C0 M hB_11 dX4_deep_24 ?_
    refine lv_iconst (v := 4) hx hb dX4_deep_27 (by decide) ?_
    obtain ⟨⟨n_13, g_14⟩, hc_12, h⟩ := bnd_s h
    try dsimp only at h
    obtain ⟨hB_15, h⟩ := chk_s h
    refine kV (As := [.ref (sb (100 + (n_10 + 1))), .int (4 : Int32)]) (rest := []) (stk := [.ref (sb (400 + n_13))]) (val := (some (.ref (sb (400 + n_13))))) (c1 := (cells + a_6)) (s1 := (slots + b_7)) C0 M (k_X4_nextArrayIn hc_12) kw_10_4 Y_X4_nextArrayIn (rv_X4 C0 M) ⟨Nat.le_of_ble_eq_true rfl, Nat.le_of_ble_eq_true rfl⟩ rfl hl.1 rfl (Nat.le_of_ble_eq_true rfl) dX4_deep_28 rfl rfl ⟨(Nat.le_trans (Nat.le_add_right _ _) hcs.1), (Nat.le_trans (Nat.le_add_right _ _) hcs.2)⟩ rfl (fun H locs M => ?_)
    refine lv_astore (lv' := [(4, .ref (sb (400 + n_13))), (3, .int x_4), (2, .ref (sb (400 + n_10))), (0, .ref (sb 0)), (1, .int x1)]) hx hb dX4_deep_31 hl (by decide) rfl (fun ls hl => ?_)
    refine lv_aload_n hx hb dX4_deep_33 rfl (lv_at hl 3 rfl) ?_
    refine lv_aload hx hb dX4_deep_34 (lv_at hl 0 rfl) ?_
    obtain ⟨⟨g_17, a_18, b_19⟩, hc_16, h⟩ := bnd_s h
    try dsimp only at h
    obtain ⟨q_20, hnew, hres⟩ := addc_s h
    clear h
    subst hres
    have h := hnew
    clear hnew
    have hcs : ((cells + a_6) + a_18) + q_20.2.2.1 ≤ mc ∧ ((slots + b_7) + b_19) + q_20.2.2.2 ≤ ms := ⟨by have h9 := hcs.1; dsimp only at h9; omega, by have h9 := hcs.2; dsimp only at h9; omega⟩
    refine kVA (As := [.ref (sb (400 + n_13))]) (rest := []) (stk := []) (val := none) (c1 := ((cells + a_6) + a_18)) (s1 := ((slots + b_7) + b_19)) C0 M (k_X4_addTableRows hc_16) kw_10_20 Y_X4_addTableRows (rv_X4 C0 M) ⟨Nat.le_of_ble_eq_true rfl, Nat.le_of_ble_eq_true rfl⟩ rfl hl.1 rfl (Nat.le_of_ble_eq_true rfl) dX4_deep_36 rfl rfl ⟨(Nat.le_trans (Nat.le_add_right _ _) hcs.1), (Nat.le_trans (Nat.le_add_right _ _) hcs.2)⟩ rfl (fun db H locs M => ?_)
    refine lv_aload_n hx hb dX4_deep_39 rfl (lv_at hl 3 rfl) ?_
    refine gf_RX4_26 C0 M dX4_deep_40 ?_
    refine lv_aload_n hx hb dX4_deep_43 rfl (lv_at hl 2 rfl) ?_
    refine gf_RX4_100 C0 M hB_11 dX4_deep_44 ?_
    obtain ⟨x_22, hc_21, h⟩ := bnd_s h
    refine kV (As := [.int (g_17.1 17 n_10 0)]) (rest := []) (stk := [.int x_22]) (val := (some (.int x_22))) (c1 := ((cells + a_6) + a_18)) (s1 := ((slots + b_7) + b_19)) C0 M (k_X3_startOf hc_21) kw_15_1 Y_X3_startOf (rv_X3 C0 M) ⟨Nat.le_of_ble_eq_true rfl, Nat.le_of_ble_eq_true rfl⟩ rfl hl.1 rfl (Nat.le_of_ble_eq_true rfl) dX4_deep_47 rfl rfl ⟨(Nat.le_trans (Nat.le_add_right _ _) hcs.1), (Nat.le_trans (Nat.le_add_right _ _) hcs.2)⟩ rfl (fun H locs M => ?_)
    refine lv_istore (lv' := [(5, .int x_22), (4, .ref (sb (400 + n_13))), (3, .int x_4), (2, .ref (sb (400 + n_10))), (0, .ref (sb 0)), (1, .int x1)]) hx hb dX4_deep_50 hl (by decide) rfl (fun ls hl => ?_)
    refine lv_iconst (v := 0) hx hb dX4_deep_52 (by decide) ?_
    obtain ⟨x_23, hn_24, h⟩ := lett_s h
    refine nm_i hn_24 ?_
    refine lv_istore (lv' := [(6, .int x_23), (5, .int x_22), (4, .ref (sb (400 + n_13))), (3, .int x_4), (2, .ref (sb (400 + n_10))), (0, .ref (sb 0)), (1, .int x1)]) hx hb dX4_deep_53 hl (by decide) rfl (fun ls hl => ?_)
    obtain ⟨q_47, hq_48, h⟩ := bnd_s h
    refine w_X4_deep_L55 hB_15 C0 hr hk (q := q_47) (res := q_20) ⟨(Nat.le_trans (Nat.le_add_right _ _) hcs.1), (Nat.le_trans (Nat.le_add_right _ _) hcs.2)⟩ (fun g_43 H locs ls hq hl M => ?_) FU _ _ _ _ _ _ (lv_sub hl [5, 2, 1, 0] rfl) M hq_48
    subst q_47
    try dsimp only at h
    refine lv_aload_n hx hb dX4_deep_122 rfl (lv_at hl 0 rfl) ?_
    refine lv_aload_n hx hb dX4_deep_123 rfl (lv_at hl 0 rfl) ?_
    refine gf_RX4_40 C0 M dX4_deep_124 ?_
    refine lv_iconst (v := 1) hx hb dX4_deep_127 (by decide) ?_
    refine lv_isub hx hb dX4_deep_128 ?_
    obtain ⟨⟨x_45, g_46⟩, hc_44, h⟩ := bnd_s h
    try dsimp only at h
    refine kV (As := [.int ((g_43.1 0 0 0) - (1 : Int32))]) (rest := []) (stk := [.int x_45]) (val := (some (.int x_45))) (c1 := ((cells + a_6) + a_18)) (s1 := ((slots + b_7) + b_19)) C0 M (k_X4_done hc_44) kw_5_23 Y_X4_done (rv_X4 C0 M) ⟨Nat.le_of_ble_eq_true rfl, Nat.le_of_ble_eq_true rfl⟩ rfl hl.1 rfl (Nat.le_of_ble_eq_true rfl) dX4_deep_129 rfl rfl ⟨(Nat.le_trans (Nat.le_add_right _ _) hcs.1), (Nat.le_trans (Nat.le_add_right _ _) hcs.2)⟩ rfl (fun H locs M => ?_)
    obtain rfl := Option.some.inj h
    exact rA_i C0 M hr hk (Nat.le_trans (Nat.le_add_right _ _) hcs.1) (Nat.le_trans (Nat.le_add_right _ _) hcs.2) dX4_deep_132
  · rw [if_neg c_9] at h
    refine lv_aload_n hx hb dX4_deep_16 rfl (lv_at hl 2 rfl) ?_
    refine lv_iload_n hx hb dX4_deep_17 rfl (lv_at hl 0 rfl) ?_
    obtain ⟨⟨x_50, g_51⟩, hc_49, h⟩ := bnd_s h
    try dsimp only at h
    refine kV (As := [.int x_4]) (rest := []) (stk := [.int x_50]) (val := (some (.int x_50))) (c1 := (cells + a_6)) (s1 := (slots + b_7)) C0 M (k_X4_stop hc_49) kw_5_10 Y_X4_stop (rv_X4 C0 M) ⟨Nat.le_of_ble_eq_true rfl, Nat.le_of_ble_eq_true rfl⟩ rfl hl.1 rfl (Nat.le_of_ble_eq_true rfl) dX4_deep_18 rfl rfl ⟨(Nat.le_trans (Nat.le_add_right _ _) hcs.1), (Nat.le_trans (Nat.le_add_right _ _) hcs.2)⟩ rfl (fun H locs M => ?_)
    obtain rfl := Option.some.inj h
    exact rA_i C0 M hr hk (Nat.le_trans (Nat.le_add_right _ _) hcs.1) (Nat.le_trans (Nat.le_add_right _ _) hcs.2) dX4_deep_21
theorem k_X4_deep {x1 : Int32} {res : Int32 × Gs × Nat × Nat} (h : m_X4_deep x1 g = some res) : CA l yX4_deep cX4_deep 8 (some .int) ({ frames := 6, cells := res.2.2.1, slots := res.2.2.2, locals := 150 } : Room) [.ref (sb 0), .int x1] (some (.int res.1)) D b0 cy sb db g res.2.1 := by
  refine Met.ofW (cc := cX4_deep) (maxL := 8) (ret := (some .int)) (by decide) rfl ?_
  intro p e s m args below meth c s₁ B hml hv
  obtain ⟨rfl, hW, hK⟩ := hv
  have hl := lv_entry [.ref (sb 0), .int x1] (n := 8) (Nat.le_of_ble_eq_true rfl)
  rw [lg_entry_eq]
  generalize (lg_sl [.ref (sb 0), .int x1] ++ List.replicate (8 - (lg_sl [.ref (sb 0), .int x1]).length) Slot.unset).toArray = ls at hl ⊢
  have hl : lv_has ls 8 [(0, .ref (sb 0)), (1, .int x1)] := hl
  exact w_X4_deep ⟨B.exec, B.bytes, hml, findClass_of_methodNamed B.named, fun w hw => atoms_spec (ws := Cond.code yX4_deep cX4_deep 8 (some .int) :: wsL_law) B.pre w (List.mem_cons_of_mem _ hw), hK⟩ B.returns B.notSynchronized ⟨Nat.le_of_eq (Nat.zero_add _), Nat.le_of_eq (Nat.zero_add _)⟩ hl ⟨hW, va_S.rf⟩ h
theorem Y_X4_deep : Yv yX4_deep RX4 cX4_deep 8 (some .int) 1 := ⟨⟨kw_18_4, kw_1_2, by decide +kernel, by decide +kernel, by decide +kernel⟩, kw_18_2, kw_18_3⟩
-- X4_whyNotFlat
def m_X4_whyNotFlat_L29 (n1 : Nat) (y2 : Int64) (g : Gs) : Nat → Int32 → Option ((Int32 × Gs × Nat × Nat) ⊕ (Unit))
  | 0, _ => none
  | fu + 1, x4 =>
  (m_X1_rowCount n1 g).bind fun x_9 => if x_9 ≤ x4 then (some (.inr ())) else (chk (inb x4 (g.2.2 (500 + n1))) (lett (g.1 18 n1 x4.toNatClampNeg) fun x_12 => if x_12 = (-1 : Int32) then (some (.inl ((1 : Int32), g, 0, 0))) else ((m_X3_lengthOf x_12 g).bind fun x_16 => if (lg_cmp x_16.toInt64 y2) = 0 then (lett (x4 + 1) fun x_18 => m_X4_whyNotFlat_L29 n1 y2 g fu x_18) else (some (.inl ((11 : Int32), g, 0, 0))))))
def m_X4_whyNotFlat_J100 (xs0 : Int32) (g : Gs) : Option (Int32 × Gs × Nat × Nat) :=
  some (xs0, g, 0, 0)
def m_X4_whyNotFlat (o1 : Option Nat) (g : Gs) : Option (Int32 × Gs × Nat × Nat) :=
  cas o1 (some ((7 : Int32), g, 0, 0)) fun n_1 => if (g.1 16 n_1 0) = (4 : Int32) then ((m_X2_length (n_1 + 1) (1 : Int32) g).bind fun y_5 => lett (0 : Int32) fun x_6 => (m_X4_whyNotFlat_L29 n_1 y_5 g FU x_6).bind fun q_29 => exi q_29 (fun r => some r) fun _ => (m_X2_items (n_1 + 1) g).bind fun x_21 => (m_X4_hasRoom (1 : Int32) x_21 g).bind fun (x_23, g_24, a_25, b_26) => addc a_25 b_26 (if x_23 = 0 then (m_X4_whyNotFlat_J100 (8 : Int32) g_24) else (m_X4_whyNotFlat_J100 (0 : Int32) g_24))) else (some ((2 : Int32), g, 0, 0))
set_option maxHeartbeats 4000000 in
set_option maxRecDepth 100000 in
theorem w_X4_whyNotFlat_L29 {n1 : Nat} {y2 : Int64} (hB1 : n1 < 24) (C0 : Cx p s m args c cX4_whyNotFlat 6 RX4 D cy) (hr : meth.sig.returnType = (some .int)) (hk : meth.locks = false) {res : Int32 × Gs × Nat × Nat} {q : (Int32 × Gs × Nat × Nat) ⊕ (Unit)} {mc ms cells slots : Nat} (hcs0 : cells ≤ mc ∧ slots ≤ ms) (hret : ∀ r, q = .inl r → r = res) (kk : ∀  (H : Heap) (locs : List Loc) (ls : Array Slot), q = .inr () → lv_has ls 6 [(0, .ref (sb 0)), (1, .ref (sb (400 + n1)))] → Ws D b0 cy sb db g s H locs → W p l e ({ frames := 5, cells := mc, slots := ms, locals := 128 } : Room) s m args below meth c H locs cells slots (MQ below (QY (some (.int res.1)) D b0 cy sb res.2.1) args s mc ms (fun q => b0 ≤ q)) (F0 m 79 ls [])) : ∀ (fu : Nat) (x4 : Int32) (H : Heap) (locs : List Loc) (ls : Array Slot), lv_has ls 6 [(0, .ref (sb 0)), (1, .ref (sb (400 + n1))), (2, .long y2), (4, .int x4)] → Ws D b0 cy sb db g s H locs → m_X4_whyNotFlat_L29 n1 y2 g fu x4 = some q → W p l e ({ frames := 5, cells := mc, slots := ms, locals := 128 } : Room) s m args below meth c H locs cells slots (MQ below (QY (some (.int res.1)) D b0 cy sb res.2.1) args s mc ms (fun q => b0 ≤ q)) (F0 m 29 ls []) := by
  obtain ⟨hx, hb, hml, hown, hts, hK⟩ := id C0
  intro fu
  induction fu with
  | zero =>
    intro x4 H locs ls hl M h
    cases h
  | succ fu ih =>
    intro x4 H locs ls hl M h
    rw [m_X4_whyNotFlat_L29] at h
    refine lv_iload hx hb dX4_whyNotFlat_29 (lv_at hl 3 rfl) ?_
    refine lv_aload_n hx hb dX4_whyNotFlat_31 rfl (lv_at hl 1 rfl) ?_
    obtain ⟨x_9, hc_8, h⟩ := bnd_s h
    refine kV (As := []) (rest := [.int x4]) (stk := [.int x_9, .int x4]) (val := (some (.int x_9))) (c1 := cells) (s1 := slots) C0 M (k_X1_rowCount hc_8) kw_11_1 Y_X1_rowCount (rv_X1 C0 M hB1) ⟨Nat.le_of_ble_eq_true rfl, Nat.le_of_ble_eq_true rfl⟩ rfl hl.1 rfl (Nat.le_of_ble_eq_true rfl) dX4_whyNotFlat_32 rfl rfl ⟨hcs0.1, hcs0.2⟩ rfl (fun H locs M => ?_)
    refine lv_icmp_ge (tgt := 79) hx hb dX4_whyNotFlat_35 (by decide) (fun c_10 => ?_) (fun c_10 => ?_)
    · rw [if_pos c_10] at h
      exact kk _ _ _ (Option.some.inj h).symm (lv_sub hl [0, 1] rfl) M
    · rw [if_neg c_10] at h
      refine lv_aload_n hx hb dX4_whyNotFlat_38 rfl (lv_at hl 1 rfl) ?_
      refine gf_RX4_133 C0 M hB1 dX4_whyNotFlat_39 ?_
      refine lv_iload hx hb dX4_whyNotFlat_42 (lv_at hl 3 rfl) ?_
      obtain ⟨hi_11, h⟩ := chk_s h
      refine al_ROWS C0 M hB1 hi_11 dX4_whyNotFlat_44 ?_
      obtain ⟨x_12, hn_13, h⟩ := lett_s h
      refine nm_i hn_13 ?_
      refine lv_istore (lv' := [(5, .int x_12), (0, .ref (sb 0)), (1, .ref (sb (400 + n1))), (2, .long y2), (4, .int x4)]) hx hb dX4_whyNotFlat_45 hl (by decide) rfl (fun ls hl => ?_)
      refine lv_iload hx hb dX4_whyNotFlat_47 (lv_at hl 0 rfl) ?_
      refine lv_iconst (v := -1) hx hb dX4_whyNotFlat_49 (by decide) ?_
      refine lv_icmp_ne (tgt := 55) hx hb dX4_whyNotFlat_50 (by decide) (fun c_14 => ?_) (fun c_14 => ?_)
      · rw [if_neg c_14] at h
        refine lv_aload_n hx hb dX4_whyNotFlat_55 rfl (lv_at hl 1 rfl) ?_
        refine gf_RX4_26 C0 M dX4_whyNotFlat_56 ?_
        refine lv_iload hx hb dX4_whyNotFlat_59 (lv_at hl 0 rfl) ?_
        obtain ⟨x_16, hc_15, h⟩ := bnd_s h
        refine kV (As := [.int x_12]) (rest := []) (stk := [.int x_16]) (val := (some (.int x_16))) (c1 := cells) (s1 := slots) C0 M (k_X3_lengthOf hc_15) kw_14_1 Y_X3_lengthOf (rv_X3 C0 M) ⟨Nat.le_of_ble_eq_true rfl, Nat.le_of_ble_eq_true rfl⟩ rfl hl.1 rfl (Nat.le_of_ble_eq_true rfl) dX4_whyNotFlat_61 rfl rfl ⟨hcs0.1, hcs0.2⟩ rfl (fun H locs M => ?_)
        refine lv_i2l hx hb dX4_whyNotFlat_64 rfl ?_
        refine lv_lload_n hx hb dX4_whyNotFlat_65 rfl (lv_at hl 3 rfl) ?_
        refine W.lcmp hx hb dX4_whyNotFlat_66 ?_
        refine lv_if_eq (tgt := 73) hx hb dX4_whyNotFlat_67 (by decide) (fun c_17 => ?_) (fun c_17 => ?_)
        · rw [if_pos c_17] at h
          obtain ⟨x_18, hn_19, h⟩ := lett_s h
          refine lv_iinc (v := x_18) (lv' := [(4, .int x_18), (5, .int x_12), (0, .ref (sb 0)), (1, .ref (sb (400 + n1))), (2, .long y2)]) hx hb dX4_whyNotFlat_73 hl (k := 4) rfl (by rw [hn_19]; rfl) (by decide) rfl (fun ls hl => ?_)
          refine lv_goto (tgt := 29) hx hb dX4_whyNotFlat_76 (by decide) ?_
          exact ih _ _ _ _ (lv_sub hl [2, 3, 4, 0] rfl) M h
        · rw [if_neg c_17] at h
          refine lv_bipush (v := 11) hx hb dX4_whyNotFlat_70 (by decide) ?_
          obtain rfl := Option.some.inj h
          obtain rfl := hret _ rfl
          exact rA_i C0 M hr hk hcs0.1 hcs0.2 dX4_whyNotFlat_72
      · rw [if_pos c_14] at h
        refine lv_iconst (v := 1) hx hb dX4_whyNotFlat_53 (by decide) ?_
        obtain rfl := Option.some.inj h
        obtain rfl := hret _ rfl
        exact rA_i C0 M hr hk hcs0.1 hcs0.2 dX4_whyNotFlat_54
set_option maxHeartbeats 4000000 in
set_option maxRecDepth 100000 in
theorem w_X4_whyNotFlat_J100 {xs0 : Int32} (C0 : Cx p s m args c cX4_whyNotFlat 6 RX4 D cy) (hr : meth.sig.returnType = (some .int)) (hk : meth.locks = false) {res : Int32 × Gs × Nat × Nat} {mc ms cells slots : Nat} (hcs : cells + res.2.2.1 ≤ mc ∧ slots + res.2.2.2 ≤ ms) (hl : lv_has ls 6 []) (M : Ws D b0 cy sb db g s H locs) (h : m_X4_whyNotFlat_J100 xs0 g = some res) : W p l e ({ frames := 5, cells := mc, slots := ms, locals := 128 } : Room) s m args below meth c H locs cells slots (MQ below (QY (some (.int res.1)) D b0 cy sb res.2.1) args s mc ms (fun q => b0 ≤ q)) (F0 m 100 ls [.int xs0]) := by
  obtain ⟨hx, hb, hml, hown, hts, hK⟩ := id C0
  rw [m_X4_whyNotFlat_J100] at h
  obtain rfl := Option.some.inj h
  exact rA_i C0 M hr hk (Nat.le_trans (Nat.le_add_right _ _) hcs.1) (Nat.le_trans (Nat.le_add_right _ _) hcs.2) dX4_whyNotFlat_100
set_option maxHeartbeats 4000000 in
set_option maxRecDepth 100000 in
theorem w_X4_whyNotFlat {o1 : Option Nat} (C0 : Cx p s m args c cX4_whyNotFlat 6 RX4 D cy) (hr : meth.sig.returnType = (some .int)) (hk : meth.locks = false) {res : Int32 × Gs × Nat × Nat} {mc ms cells slots : Nat} (hcs : cells + res.2.2.1 ≤ mc ∧ slots + res.2.2.2 ≤ ms) (hl : lv_has ls 6 [(0, .ref (sb 0)), (1, rfA sb o1)]) (M : Ws D b0 cy sb db g s H locs) (h : m_X4_whyNotFlat o1 g = some res) : W p l e ({ frames := 5, cells := mc, slots := ms, locals := 128 } : Room) s m args below meth c H locs cells slots (MQ below (QY (some (.int res.1)) D b0 cy sb res.2.1) args s mc ms (fun q => b0 ≤ q)) (F0 m 0 ls []) := by
  obtain ⟨hx, hb, hml, hown, hts, hK⟩ := id C0
  rw [m_X4_whyNotFlat] at h
  refine lq_aload_n hx hb o1 dX4_whyNotFlat_0 rfl (lv_at hl 1 rfl) ?_
  cases o1 with
  | none =>
    try dsimp only [cas] at h
    refine lv_ifnonnullN hx hb dX4_whyNotFlat_1 ?_
    refine lv_bipush (v := 7) hx hb dX4_whyNotFlat_4 (by decide) ?_
    obtain rfl := Option.some.inj h
    exact rA_i C0 M hr hk (Nat.le_trans (Nat.le_add_right _ _) hcs.1) (Nat.le_trans (Nat.le_add_right _ _) hcs.2) dX4_whyNotFlat_6
  | some n_1 =>
    obtain ⟨hB_2, h⟩ := chk_s (show chk _ _ = _ from h)
    try dsimp only at h
    have hl : lv_has ls 6 [(0, .ref (sb 0)), (1, .ref (sb (400 + n_1)))] := hl
    refine lv_ifnonnull (tgt := 7) hx hb dX4_whyNotFlat_1 (by decide) ?_
    refine lv_aload_n hx hb dX4_whyNotFlat_7 rfl (lv_at hl 1 rfl) ?_
    refine gf_RX4_106 C0 M hB_2 dX4_whyNotFlat_8 ?_
    refine lv_iconst (v := 4) hx hb dX4_whyNotFlat_11 (by decide) ?_
    refine lv_icmp_eq (tgt := 17) hx hb dX4_whyNotFlat_12 (by decide) (fun c_3 => ?_) (fun c_3 => ?_)
    · rw [if_pos c_3] at h
      refine lv_aload_n hx hb dX4_whyNotFlat_17 rfl (lv_at hl 1 rfl) ?_
      refine gf_RX4_88 C0 M hB_2 dX4_whyNotFlat_18 ?_
      refine lv_iconst (v := 1) hx hb dX4_whyNotFlat_21 (by decide) ?_
      obtain ⟨y_5, hc_4, h⟩ := bnd_s h
      refine kV (As := [.int (1 : Int32)]) (rest := []) (stk := [.long y_5]) (val := (some (.long y_5))) (c1 := cells) (s1 := slots) C0 M (k_X2_length hc_4) kw_8_2 Y_X2_length (rv_X2 C0 M (Nat.succ_lt_succ hB_2)) ⟨Nat.le_of_ble_eq_true rfl, Nat.le_of_ble_eq_true rfl⟩ rfl hl.1 rfl (Nat.le_of_ble_eq_true rfl) dX4_whyNotFlat_22 rfl rfl ⟨(Nat.le_trans (Nat.le_add_right _ _) hcs.1), (Nat.le_trans (Nat.le_add_right _ _) hcs.2)⟩ rfl (fun H locs M => ?_)
      refine lv_lstore_n (lv' := [(2, .long y_5), (0, .ref (sb 0)), (1, .ref (sb (400 + n_1)))]) hx hb dX4_whyNotFlat_25 rfl hl (by decide) rfl (fun ls hl => ?_)
      refine lv_iconst (v := 0) hx hb dX4_whyNotFlat_26 (by decide) ?_
      obtain ⟨x_6, hn_7, h⟩ := lett_s h
      refine nm_i hn_7 ?_
      refine lv_istore (lv' := [(4, .int x_6), (2, .long y_5), (0, .ref (sb 0)), (1, .ref (sb (400 + n_1)))]) hx hb dX4_whyNotFlat_27 hl (by decide) rfl (fun ls hl => ?_)
      obtain ⟨q_29, hq_30, h⟩ := bnd_s h
      refine w_X4_whyNotFlat_L29 hB_2 C0 hr hk (q := q_29) (res := res) ⟨(Nat.le_trans (Nat.le_add_right _ _) hcs.1), (Nat.le_trans (Nat.le_add_right _ _) hcs.2)⟩ (fun r hq => ?_) (fun  H locs ls hq hl M => ?_) FU _ _ _ _ (lv_sub hl [2, 3, 1, 0] rfl) M hq_30
      · subst hq
        exact Option.some.inj h
      subst q_29
      try dsimp only [exi] at h
      refine lv_aload_n hx hb dX4_whyNotFlat_79 rfl (lv_at hl 0 rfl) ?_
      refine lv_iconst (v := 1) hx hb dX4_whyNotFlat_80 (by decide) ?_
      refine lv_aload_n hx hb dX4_whyNotFlat_81 rfl (lv_at hl 1 rfl) ?_
      refine gf_RX4_88 C0 M hB_2 dX4_whyNotFlat_82 ?_
      obtain ⟨x_21, hc_20, h⟩ := bnd_s h
      refine kV (As := []) (rest := [.int (1 : Int32), .ref (sb 0)]) (stk := [.int x_21, .int (1 : Int32), .ref (sb 0)]) (val := (some (.int x_21))) (c1 := cells) (s1 := slots) C0 M (k_X2_items hc_20) kw_7_10 Y_X2_items (rv_X2 C0 M (Nat.succ_lt_succ hB_2)) ⟨Nat.le_of_ble_eq_true rfl, Nat.le_of_ble_eq_true rfl⟩ rfl hl.1 rfl (Nat.le_of_ble_eq_true rfl) dX4_whyNotFlat_85 rfl rfl ⟨(Nat.le_trans (Nat.le_add_right _ _) hcs.1), (Nat.le_trans (Nat.le_add_right _ _) hcs.2)⟩ rfl (fun H locs M => ?_)
      obtain ⟨⟨x_23, g_24, a_25, b_26⟩, hc_22, h⟩ := bnd_s h
      try dsimp only at h
      obtain ⟨q_27, hnew, hres⟩ := addc_s h
      clear h
      subst hres
      have h := hnew
      clear hnew
      have hcs : (cells + a_25) + q_27.2.2.1 ≤ mc ∧ (slots + b_26) + q_27.2.2.2 ≤ ms := ⟨by have h9 := hcs.1; dsimp only at h9; omega, by have h9 := hcs.2; dsimp only at h9; omega⟩
      refine kVA (As := [.int (1 : Int32), .int x_21]) (rest := []) (stk := [.int x_23]) (val := (some (.int x_23))) (c1 := (cells + a_25)) (s1 := (slots + b_26)) C0 M (k_X4_hasRoom hc_22) kw_8_3 Y_X4_hasRoom (rv_X4 C0 M) ⟨Nat.le_of_ble_eq_true rfl, Nat.le_of_ble_eq_true rfl⟩ rfl hl.1 rfl (Nat.le_of_ble_eq_true rfl) dX4_whyNotFlat_88 rfl rfl ⟨(Nat.le_trans (Nat.le_add_right _ _) hcs.1), (Nat.le_trans (Nat.le_add_right _ _) hcs.2)⟩ rfl (fun db H locs M => ?_)
      refine lv_if_eq (tgt := 98) hx hb dX4_whyNotFlat_91 (by decide) (fun c_28 => ?_) (fun c_28 => ?_)
      · rw [if_pos c_28] at h
        refine lv_bipush (v := 8) hx hb dX4_whyNotFlat_98 (by decide) ?_
        exact w_X4_whyNotFlat_J100 C0 hr hk (res := q_27) hcs (lv_sub hl [] rfl) M h
      · rw [if_neg c_28] at h
        refine lv_iconst (v := 0) hx hb dX4_whyNotFlat_94 (by decide) ?_
        refine lv_goto (tgt := 100) hx hb dX4_whyNotFlat_95 (by decide) ?_
        exact w_X4_whyNotFlat_J100 C0 hr hk (res := q_27) hcs (lv_sub hl [] rfl) M h
    · rw [if_neg c_3] at h
      refine lv_iconst (v := 2) hx hb dX4_whyNotFlat_15 (by decide) ?_
      obtain rfl := Option.some.inj h
      exact rA_i C0 M hr hk (Nat.le_trans (Nat.le_add_right _ _) hcs.1) (Nat.le_trans (Nat.le_add_right _ _) hcs.2) dX4_whyNotFlat_16
theorem k_X4_whyNotFlat {o1 : Option Nat} {res : Int32 × Gs × Nat × Nat} (h : m_X4_whyNotFlat o1 g = some res) : CA l yX4_whyNotFlat cX4_whyNotFlat 6 (some .int) ({ frames := 5, cells := res.2.2.1, slots := res.2.2.2, locals := 128 } : Room) [.ref (sb 0), rfA sb o1] (some (.int res.1)) D b0 cy sb db g res.2.1 := by
  refine Met.ofW (cc := cX4_whyNotFlat) (maxL := 6) (ret := (some .int)) (by decide) rfl ?_
  intro p e s m args below meth c s₁ B hml hv
  obtain ⟨rfl, hW, hK⟩ := hv
  cases o1 with
  | none =>
    have hl := lv_entry [.ref (sb 0), rfA sb none] (n := 6) (Nat.le_of_ble_eq_true rfl)
    rw [lg_entry_eq]
    generalize (lg_sl [.ref (sb 0), rfA sb none] ++ List.replicate (6 - (lg_sl [.ref (sb 0), rfA sb none]).length) Slot.unset).toArray = ls at hl ⊢
    have hl : lv_has ls 6 [(0, .ref (sb 0)), (1, rfA sb none)] := hl
    exact w_X4_whyNotFlat ⟨B.exec, B.bytes, hml, findClass_of_methodNamed B.named, fun w hw => atoms_spec (ws := Cond.code yX4_whyNotFlat cX4_whyNotFlat 6 (some .int) :: wsL_law) B.pre w (List.mem_cons_of_mem _ hw), hK⟩ B.returns B.notSynchronized ⟨Nat.le_of_eq (Nat.zero_add _), Nat.le_of_eq (Nat.zero_add _)⟩ hl ⟨hW, va_S.rf⟩ h
  | some no1 =>
    have hl := lv_entry [.ref (sb 0), rfA sb (some no1)] (n := 6) (Nat.le_of_ble_eq_true rfl)
    rw [lg_entry_eq]
    generalize (lg_sl [.ref (sb 0), rfA sb (some no1)] ++ List.replicate (6 - (lg_sl [.ref (sb 0), rfA sb (some no1)]).length) Slot.unset).toArray = ls at hl ⊢
    have hl : lv_has ls 6 [(0, .ref (sb 0)), (1, rfA sb (some no1))] := hl
    exact w_X4_whyNotFlat ⟨B.exec, B.bytes, hml, findClass_of_methodNamed B.named, fun w hw => atoms_spec (ws := Cond.code yX4_whyNotFlat cX4_whyNotFlat 6 (some .int) :: wsL_law) B.pre w (List.mem_cons_of_mem _ hw), hK⟩ B.returns B.notSynchronized ⟨Nat.le_of_eq (Nat.zero_add _), Nat.le_of_eq (Nat.zero_add _)⟩ hl ⟨hW, va_S.rf⟩ h
theorem Y_X4_whyNotFlat : Yv yX4_whyNotFlat RX4 cX4_whyNotFlat 6 (some .int) 1 := ⟨⟨kw_18_20, kw_1_2, by decide +kernel, by decide +kernel, by decide +kernel⟩, kw_18_18, kw_18_19⟩
-- X4_flat
def m_X4_flat_L56 (n2 : Nat) : Nat → Int32 → Int32 → Gs → Option (Gs)
  | 0, _, _, _ => none
  | fu + 1, x5, x6, g =>
  (m_X1_rowCount n2 g).bind fun x_23 => if x_23 ≤ x6 then (some g) else (chk (inb x6 (g.2.2 (500 + n2))) (lett (g.1 18 n2 x6.toNatClampNeg) fun x_26 => (m_X3_startOf x_26 g).bind fun x_29 => (m_X3_lengthOf x_26 g).bind fun x_31 => (m_X3_copyCells x_29 x5 x_31 g).bind fun g_33 => (m_X3_lengthOf x_26 g_33).bind fun x_35 => lett (x5 + x_35) fun x_36 => lett (x6 + 1) fun x_38 => m_X4_flat_L56 n2 fu x_36 x_38 g_33))
def m_X4_flat (x1 : Int32) (g : Gs) : Option (Int32 × Gs × Nat × Nat) :=
  (m_X4_arrayOf x1 g).bind fun o_2 => (m_X4_whyNotFlat o_2 g).bind fun (x_4, g_5, a_6, b_7) => addc a_6 b_7 (if x_4 = 0 then (unw o_2 fun n_10 => (m_X4_nextArrayIn (n_10 + 1) (1 : Int32) g_5).bind fun (n_13, g_14) => chk (n_13 < 24) ((m_X4_addOwnRow n_13 g_14).bind fun g_17 => (m_X3_startOf (g_17.1 17 n_13 0) g_17).bind fun x_19 => lett (0 : Int32) fun x_20 => (m_X4_flat_L56 n_10 FU x_19 x_20 g_17).bind fun g_40 => (m_X4_done ((g_40.1 0 0 0) - (1 : Int32)) g_40).bind fun (x_42, g_43) => some (x_42, g_43, 0, 0))) else ((m_X4_stop x_4 g_5).bind fun (x_47, g_48) => some (x_47, g_48, 0, 0)))
set_option maxHeartbeats 4000000 in
set_option maxRecDepth 100000 in
theorem w_X4_flat_L56 {n2 : Nat} (hB2 : n2 < 24) (C0 : Cx p s m args c cX4_flat 8 RX4 D cy) (hr : meth.sig.returnType = (some .int)) (hk : meth.locks = false) {res : Int32 × Gs × Nat × Nat} {q : Gs} {mc ms cells slots : Nat} (hcs0 : cells ≤ mc ∧ slots ≤ ms) (kk : ∀ (g : Gs) (H : Heap) (locs : List Loc) (ls : Array Slot), q = g → lv_has ls 8 [(0, .ref (sb 0))] → Ws D b0 cy sb db g s H locs → W p l e ({ frames := 6, cells := mc, slots := ms, locals := 153 } : Room) s m args below meth c H locs cells slots (MQ below (QY (some (.int res.1)) D b0 cy sb res.2.1) args s mc ms (fun q => b0 ≤ q)) (F0 m 121 ls [])) : ∀ (fu : Nat) (x5 : Int32) (x6 : Int32) (g : Gs) (H : Heap) (locs : List Loc) (ls : Array Slot), lv_has ls 8 [(0, .ref (sb 0)), (2, .ref (sb (400 + n2))), (5, .int x5), (6, .int x6)] → Ws D b0 cy sb db g s H locs → m_X4_flat_L56 n2 fu x5 x6 g = some q → W p l e ({ frames := 6, cells := mc, slots := ms, locals := 153 } : Room) s m args below meth c H locs cells slots (MQ below (QY (some (.int res.1)) D b0 cy sb res.2.1) args s mc ms (fun q => b0 ≤ q)) (F0 m 56 ls []) := by
  obtain ⟨hx, hb, hml, hown, hts, hK⟩ := id C0
  intro fu
  induction fu with
  | zero =>
    intro x5 x6 g H locs ls hl M h
    cases h
  | succ fu ih =>
    intro x5 x6 g H locs ls hl M h
    rw [m_X4_flat_L56] at h
    refine lv_iload hx hb dX4_flat_56 (lv_at hl 3 rfl) ?_
    refine lv_aload_n hx hb dX4_flat_58 rfl (lv_at hl 1 rfl) ?_
    obtain ⟨x_23, hc_22, h⟩ := bnd_s h
    refine kV (As := []) (rest := [.int x6]) (stk := [.int x_23, .int x6]) (val := (some (.int x_23))) (c1 := cells) (s1 := slots) C0 M (k_X1_rowCount hc_22) kw_11_1 Y_X1_rowCount (rv_X1 C0 M hB2) ⟨Nat.le_of_ble_eq_true rfl, Nat.le_of_ble_eq_true rfl⟩ rfl hl.1 rfl (Nat.le_of_ble_eq_true rfl) dX4_flat_59 rfl rfl ⟨hcs0.1, hcs0.2⟩ rfl (fun H locs M => ?_)
    refine lv_icmp_ge (tgt := 121) hx hb dX4_flat_62 (by decide) (fun c_24 => ?_) (fun c_24 => ?_)
    · rw [if_pos c_24] at h
      exact kk _ _ _ _ (Option.some.inj h).symm (lv_sub hl [0] rfl) M
    · rw [if_neg c_24] at h
      refine lv_aload_n hx hb dX4_flat_65 rfl (lv_at hl 1 rfl) ?_
      refine gf_RX4_133 C0 M hB2 dX4_flat_66 ?_
      refine lv_iload hx hb dX4_flat_69 (lv_at hl 3 rfl) ?_
      obtain ⟨hi_25, h⟩ := chk_s h
      refine al_ROWS C0 M hB2 hi_25 dX4_flat_71 ?_
      obtain ⟨x_26, hn_27, h⟩ := lett_s h
      refine nm_i hn_27 ?_
      refine lv_istore (lv' := [(7, .int x_26), (0, .ref (sb 0)), (2, .ref (sb (400 + n2))), (5, .int x5), (6, .int x6)]) hx hb dX4_flat_72 hl (by decide) rfl (fun ls hl => ?_)
      refine lv_aload_n hx hb dX4_flat_74 rfl (lv_at hl 1 rfl) ?_
      refine gf_RX4_26 C0 M dX4_flat_75 ?_
      refine lv_aload_n hx hb dX4_flat_78 rfl (lv_at hl 1 rfl) ?_
      refine gf_RX4_26 C0 M dX4_flat_79 ?_
      refine lv_iload hx hb dX4_flat_82 (lv_at hl 0 rfl) ?_
      obtain ⟨x_29, hc_28, h⟩ := bnd_s h
      refine kV (As := [.int x_26]) (rest := [.ref (sb 8)]) (stk := [.int x_29, .ref (sb 8)]) (val := (some (.int x_29))) (c1 := cells) (s1 := slots) C0 M (k_X3_startOf hc_28) kw_15_1 Y_X3_startOf (rv_X3 C0 M) ⟨Nat.le_of_ble_eq_true rfl, Nat.le_of_ble_eq_true rfl⟩ rfl hl.1 rfl (Nat.le_of_ble_eq_true rfl) dX4_flat_84 rfl rfl ⟨hcs0.1, hcs0.2⟩ rfl (fun H locs M => ?_)
      refine lv_iload hx hb dX4_flat_87 (lv_at hl 3 rfl) ?_
      refine lv_aload_n hx hb dX4_flat_89 rfl (lv_at hl 1 rfl) ?_
      refine gf_RX4_26 C0 M dX4_flat_90 ?_
      refine lv_iload hx hb dX4_flat_93 (lv_at hl 0 rfl) ?_
      obtain ⟨x_31, hc_30, h⟩ := bnd_s h
      refine kV (As := [.int x_26]) (rest := [.int x5, .int x_29, .ref (sb 8)]) (stk := [.int x_31, .int x5, .int x_29, .ref (sb 8)]) (val := (some (.int x_31))) (c1 := cells) (s1 := slots) C0 M (k_X3_lengthOf hc_30) kw_14_1 Y_X3_lengthOf (rv_X3 C0 M) ⟨Nat.le_of_ble_eq_true rfl, Nat.le_of_ble_eq_true rfl⟩ rfl hl.1 rfl (Nat.le_of_ble_eq_true rfl) dX4_flat_95 rfl rfl ⟨hcs0.1, hcs0.2⟩ rfl (fun H locs M => ?_)
      obtain ⟨g_33, hc_32, h⟩ := bnd_s h
      refine kV (As := [.int x_29, .int x5, .int x_31]) (rest := []) (stk := []) (val := none) (c1 := cells) (s1 := slots) C0 M (k_X3_copyCells hc_32) kw_15_13 Y_X3_copyCells (rv_X3 C0 M) ⟨Nat.le_of_ble_eq_true rfl, Nat.le_of_ble_eq_true rfl⟩ rfl hl.1 rfl (Nat.le_of_ble_eq_true rfl) dX4_flat_98 rfl rfl ⟨hcs0.1, hcs0.2⟩ rfl (fun H locs M => ?_)
      refine lv_iload hx hb dX4_flat_101 (lv_at hl 3 rfl) ?_
      refine lv_aload_n hx hb dX4_flat_103 rfl (lv_at hl 1 rfl) ?_
      refine gf_RX4_26 C0 M dX4_flat_104 ?_
      refine lv_iload hx hb dX4_flat_107 (lv_at hl 0 rfl) ?_
      obtain ⟨x_35, hc_34, h⟩ := bnd_s h
      refine kV (As := [.int x_26]) (rest := [.int x5]) (stk := [.int x_35, .int x5]) (val := (some (.int x_35))) (c1 := cells) (s1 := slots) C0 M (k_X3_lengthOf hc_34) kw_14_1 Y_X3_lengthOf (rv_X3 C0 M) ⟨Nat.le_of_ble_eq_true rfl, Nat.le_of_ble_eq_true rfl⟩ rfl hl.1 rfl (Nat.le_of_ble_eq_true rfl) dX4_flat_109 rfl rfl ⟨hcs0.1, hcs0.2⟩ rfl (fun H locs M => ?_)
      refine lv_iadd hx hb dX4_flat_112 ?_
      obtain ⟨x_36, hn_37, h⟩ := lett_s h
      refine nm_i hn_37 ?_
      refine lv_istore (lv' := [(5, .int x_36), (7, .int x_26), (0, .ref (sb 0)), (2, .ref (sb (400 + n2))), (6, .int x6)]) hx hb dX4_flat_113 hl (by decide) rfl (fun ls hl => ?_)
      obtain ⟨x_38, hn_39, h⟩ := lett_s h
      refine lv_iinc (v := x_38) (lv' := [(6, .int x_38), (5, .int x_36), (7, .int x_26), (0, .ref (sb 0)), (2, .ref (sb (400 + n2)))]) hx hb dX4_flat_115 hl (k := 4) rfl (by rw [hn_39]; rfl) (by decide) rfl (fun ls hl => ?_)
      refine lv_goto (tgt := 56) hx hb dX4_flat_118 (by decide) ?_
      exact ih _ _ _ _ _ _ (lv_sub hl [3, 4, 1, 0] rfl) M h
set_option maxHeartbeats 4000000 in
set_option maxRecDepth 100000 in
theorem w_X4_flat {x1 : Int32} (C0 : Cx p s m args c cX4_flat 8 RX4 D cy) (hr : meth.sig.returnType = (some .int)) (hk : meth.locks = false) {res : Int32 × Gs × Nat × Nat} {mc ms cells slots : Nat} (hcs : cells + res.2.2.1 ≤ mc ∧ slots + res.2.2.2 ≤ ms) (hl : lv_has ls 8 [(0, .ref (sb 0)), (1, .int x1)]) (M : Ws D b0 cy sb db g s H locs) (h : m_X4_flat x1 g = some res) : W p l e ({ frames := 6, cells := mc, slots := ms, locals := 153 } : Room) s m args below meth c H locs cells slots (MQ below (QY (some (.int res.1)) D b0 cy sb res.2.1) args s mc ms (fun q => b0 ≤ q)) (F0 m 0 ls []) := by
  obtain ⟨hx, hb, hml, hown, hts, hK⟩ := id C0
  rw [m_X4_flat] at h
  refine lv_aload_n hx hb dX4_flat_0 rfl (lv_at hl 0 rfl) ?_
  refine lv_iload_n hx hb dX4_flat_1 rfl (lv_at hl 1 rfl) ?_
  obtain ⟨o_2, hc_1, h⟩ := bnd_s h
  refine kV (As := [.int x1]) (rest := []) (stk := [rfA sb o_2]) (val := (some (rfA sb o_2))) (c1 := cells) (s1 := slots) C0 M (k_X4_arrayOf hc_1) kw_13_17 Y_X4_arrayOf (rv_X4 C0 M) ⟨Nat.le_of_ble_eq_true rfl, Nat.le_of_ble_eq_true rfl⟩ rfl hl.1 rfl (Nat.le_of_ble_eq_true rfl) dX4_flat_2 rfl rfl ⟨(Nat.le_trans (Nat.le_add_right _ _) hcs.1), (Nat.le_trans (Nat.le_add_right _ _) hcs.2)⟩ rfl (fun H locs M => ?_)
  refine lq_astore_n (lv' := [(2, rfA sb o_2), (0, .ref (sb 0)), (1, .int x1)]) hx hb o_2 dX4_flat_5 rfl hl (by decide) rfl (fun ls hl => ?_)
  refine lv_aload_n hx hb dX4_flat_6 rfl (lv_at hl 1 rfl) ?_
  refine lq_aload_n hx hb o_2 dX4_flat_7 rfl (lv_at hl 0 rfl) ?_
  obtain ⟨⟨x_4, g_5, a_6, b_7⟩, hc_3, h⟩ := bnd_s h
  try dsimp only at h
  obtain ⟨q_8, hnew, hres⟩ := addc_s h
  clear h
  subst hres
  have h := hnew
  clear hnew
  have hcs : (cells + a_6) + q_8.2.2.1 ≤ mc ∧ (slots + b_7) + q_8.2.2.2 ≤ ms := ⟨by have h9 := hcs.1; dsimp only at h9; omega, by have h9 := hcs.2; dsimp only at h9; omega⟩
  refine kVA (As := [rfA sb o_2]) (rest := []) (stk := [.int x_4]) (val := (some (.int x_4))) (c1 := (cells + a_6)) (s1 := (slots + b_7)) C0 M (k_X4_whyNotFlat hc_3) kw_18_17 Y_X4_whyNotFlat (rv_X4 C0 M) ⟨Nat.le_of_ble_eq_true rfl, Nat.le_of_ble_eq_true rfl⟩ rfl hl.1 rfl (Nat.le_of_ble_eq_true rfl) dX4_flat_8 rfl rfl ⟨(Nat.le_trans (Nat.le_add_right _ _) hcs.1), (Nat.le_trans (Nat.le_add_right _ _) hcs.2)⟩ rfl (fun db H locs M => ?_)
  refine lv_istore_n (lv' := [(3, .int x_4), (2, rfA sb o_2), (0, .ref (sb 0)), (1, .int x1)]) hx hb dX4_flat_11 rfl hl (by decide) (by cases o_2 <;> rfl) (fun ls hl => ?_)
  refine lv_iload_n hx hb dX4_flat_12 rfl (lv_at hl 0 rfl) ?_
  refine lv_if_eq (tgt := 22) hx hb dX4_flat_13 (by decide) (fun c_9 => ?_) (fun c_9 => ?_)
  · rw [if_pos c_9] at h
    refine lv_aload_n hx hb dX4_flat_22 rfl (lv_at hl 2 rfl) ?_
    refine lq_aload_n hx hb o_2 dX4_flat_23 rfl (lv_at hl 1 rfl) ?_
    obtain ⟨n_10, rfl, hB_11, h⟩ := unw_s h
    have hl : lv_has ls 8 [(3, .int x_4), (2, .ref (sb (400 + n_10))), (0, .ref (sb 0)), (1, .int x1)] := hl
    refine gf_RX4_88 C0 M hB_11 dX4_flat_24 ?_
    refine lv_iconst (v := 1) hx hb dX4_flat_27 (by decide) ?_
    obtain ⟨⟨n_13, g_14⟩, hc_12, h⟩ := bnd_s h
    try dsimp only at h
    obtain ⟨hB_15, h⟩ := chk_s h
    refine kV (As := [.ref (sb (100 + (n_10 + 1))), .int (1 : Int32)]) (rest := []) (stk := [.ref (sb (400 + n_13))]) (val := (some (.ref (sb (400 + n_13))))) (c1 := (cells + a_6)) (s1 := (slots + b_7)) C0 M (k_X4_nextArrayIn hc_12) kw_10_4 Y_X4_nextArrayIn (rv_X4 C0 M) ⟨Nat.le_of_ble_eq_true rfl, Nat.le_of_ble_eq_true rfl⟩ rfl hl.1 rfl (Nat.le_of_ble_eq_true rfl) dX4_flat_28 rfl rfl ⟨(Nat.le_trans (Nat.le_add_right _ _) hcs.1), (Nat.le_trans (Nat.le_add_right _ _) hcs.2)⟩ rfl (fun H locs M => ?_)
    refine lv_astore (lv' := [(4, .ref (sb (400 + n_13))), (3, .int x_4), (2, .ref (sb (400 + n_10))), (0, .ref (sb 0)), (1, .int x1)]) hx hb dX4_flat_31 hl (by decide) rfl (fun ls hl => ?_)
    refine lv_aload_n hx hb dX4_flat_33 rfl (lv_at hl 3 rfl) ?_
    refine lv_aload hx hb dX4_flat_34 (lv_at hl 0 rfl) ?_
    obtain ⟨g_17, hc_16, h⟩ := bnd_s h
    refine kV (As := [.ref (sb (400 + n_13))]) (rest := []) (stk := []) (val := none) (c1 := (cells + a_6)) (s1 := (slots + b_7)) C0 M (k_X4_addOwnRow hc_16) kw_11_10 Y_X4_addOwnRow (rv_X4 C0 M) ⟨Nat.le_of_ble_eq_true rfl, Nat.le_of_ble_eq_true rfl⟩ rfl hl.1 rfl (Nat.le_of_ble_eq_true rfl) dX4_flat_36 rfl rfl ⟨(Nat.le_trans (Nat.le_add_right _ _) hcs.1), (Nat.le_trans (Nat.le_add_right _ _) hcs.2)⟩ rfl (fun H locs M => ?_)
    refine lv_aload_n hx hb dX4_flat_39 rfl (lv_at hl 3 rfl) ?_
    refine gf_RX4_26 C0 M dX4_flat_40 ?_
    refine lv_aload hx hb dX4_flat_43 (lv_at hl 0 rfl) ?_
    refine gf_RX4_100 C0 M hB_15 dX4_flat_45 ?_
    obtain ⟨x_19, hc_18, h⟩ := bnd_s h
    refine kV (As := [.int (g_17.1 17 n_13 0)]) (rest := []) (stk := [.int x_19]) (val := (some (.int x_19))) (c1 := (cells + a_6)) (s1 := (slots + b_7)) C0 M (k_X3_startOf hc_18) kw_15_1 Y_X3_startOf (rv_X3 C0 M) ⟨Nat.le_of_ble_eq_true rfl, Nat.le_of_ble_eq_true rfl⟩ rfl hl.1 rfl (Nat.le_of_ble_eq_true rfl) dX4_flat_48 rfl rfl ⟨(Nat.le_trans (Nat.le_add_right _ _) hcs.1), (Nat.le_trans (Nat.le_add_right _ _) hcs.2)⟩ rfl (fun H locs M => ?_)
    refine lv_istore (lv' := [(5, .int x_19), (4, .ref (sb (400 + n_13))), (3, .int x_4), (2, .ref (sb (400 + n_10))), (0, .ref (sb 0)), (1, .int x1)]) hx hb dX4_flat_51 hl (by decide) rfl (fun ls hl => ?_)
    refine lv_iconst (v := 0) hx hb dX4_flat_53 (by decide) ?_
    obtain ⟨x_20, hn_21, h⟩ := lett_s h
    refine nm_i hn_21 ?_
    refine lv_istore (lv' := [(6, .int x_20), (5, .int x_19), (4, .ref (sb (400 + n_13))), (3, .int x_4), (2, .ref (sb (400 + n_10))), (0, .ref (sb 0)), (1, .int x1)]) hx hb dX4_flat_54 hl (by decide) rfl (fun ls hl => ?_)
    obtain ⟨q_44, hq_45, h⟩ := bnd_s h
    refine w_X4_flat_L56 hB_11 C0 hr hk (q := q_44) (res := q_8) ⟨(Nat.le_trans (Nat.le_add_right _ _) hcs.1), (Nat.le_trans (Nat.le_add_right _ _) hcs.2)⟩ (fun g_40 H locs ls hq hl M => ?_) FU _ _ _ _ _ _ (lv_sub hl [5, 4, 1, 0] rfl) M hq_45
    subst q_44
    try dsimp only at h
    refine lv_aload_n hx hb dX4_flat_121 rfl (lv_at hl 0 rfl) ?_
    refine lv_aload_n hx hb dX4_flat_122 rfl (lv_at hl 0 rfl) ?_
    refine gf_RX4_40 C0 M dX4_flat_123 ?_
    refine lv_iconst (v := 1) hx hb dX4_flat_126 (by decide) ?_
    refine lv_isub hx hb dX4_flat_127 ?_
    obtain ⟨⟨x_42, g_43⟩, hc_41, h⟩ := bnd_s h
    try dsimp only at h
    refine kV (As := [.int ((g_40.1 0 0 0) - (1 : Int32))]) (rest := []) (stk := [.int x_42]) (val := (some (.int x_42))) (c1 := (cells + a_6)) (s1 := (slots + b_7)) C0 M (k_X4_done hc_41) kw_5_23 Y_X4_done (rv_X4 C0 M) ⟨Nat.le_of_ble_eq_true rfl, Nat.le_of_ble_eq_true rfl⟩ rfl hl.1 rfl (Nat.le_of_ble_eq_true rfl) dX4_flat_128 rfl rfl ⟨(Nat.le_trans (Nat.le_add_right _ _) hcs.1), (Nat.le_trans (Nat.le_add_right _ _) hcs.2)⟩ rfl (fun H locs M => ?_)
    obtain rfl := Option.some.inj h
    exact rA_i C0 M hr hk (Nat.le_trans (Nat.le_add_right _ _) hcs.1) (Nat.le_trans (Nat.le_add_right _ _) hcs.2) dX4_flat_131
  · rw [if_neg c_9] at h
    refine lv_aload_n hx hb dX4_flat_16 rfl (lv_at hl 2 rfl) ?_
    refine lv_iload_n hx hb dX4_flat_17 rfl (lv_at hl 0 rfl) ?_
    obtain ⟨⟨x_47, g_48⟩, hc_46, h⟩ := bnd_s h
    try dsimp only at h
    refine kV (As := [.int x_4]) (rest := []) (stk := [.int x_47]) (val := (some (.int x_47))) (c1 := (cells + a_6)) (s1 := (slots + b_7)) C0 M (k_X4_stop hc_46) kw_5_10 Y_X4_stop (rv_X4 C0 M) ⟨Nat.le_of_ble_eq_true rfl, Nat.le_of_ble_eq_true rfl⟩ rfl hl.1 rfl (Nat.le_of_ble_eq_true rfl) dX4_flat_18 rfl rfl ⟨(Nat.le_trans (Nat.le_add_right _ _) hcs.1), (Nat.le_trans (Nat.le_add_right _ _) hcs.2)⟩ rfl (fun H locs M => ?_)
    obtain rfl := Option.some.inj h
    exact rA_i C0 M hr hk (Nat.le_trans (Nat.le_add_right _ _) hcs.1) (Nat.le_trans (Nat.le_add_right _ _) hcs.2) dX4_flat_21
theorem k_X4_flat {x1 : Int32} {res : Int32 × Gs × Nat × Nat} (h : m_X4_flat x1 g = some res) : CA l yX4_flat cX4_flat 8 (some .int) ({ frames := 6, cells := res.2.2.1, slots := res.2.2.2, locals := 153 } : Room) [.ref (sb 0), .int x1] (some (.int res.1)) D b0 cy sb db g res.2.1 := by
  refine Met.ofW (cc := cX4_flat) (maxL := 8) (ret := (some .int)) (by decide) rfl ?_
  intro p e s m args below meth c s₁ B hml hv
  obtain ⟨rfl, hW, hK⟩ := hv
  have hl := lv_entry [.ref (sb 0), .int x1] (n := 8) (Nat.le_of_ble_eq_true rfl)
  rw [lg_entry_eq]
  generalize (lg_sl [.ref (sb 0), .int x1] ++ List.replicate (8 - (lg_sl [.ref (sb 0), .int x1]).length) Slot.unset).toArray = ls at hl ⊢
  have hl : lv_has ls 8 [(0, .ref (sb 0)), (1, .int x1)] := hl
  exact w_X4_flat ⟨B.exec, B.bytes, hml, findClass_of_methodNamed B.named, fun w hw => atoms_spec (ws := Cond.code yX4_flat cX4_flat 8 (some .int) :: wsL_law) B.pre w (List.mem_cons_of_mem _ hw), hK⟩ B.returns B.notSynchronized ⟨Nat.le_of_eq (Nat.zero_add _), Nat.le_of_eq (Nat.zero_add _)⟩ hl ⟨hW, va_S.rf⟩ h
theorem Y_X4_flat : Yv yX4_flat RX4 cX4_flat 8 (some .int) 1 := ⟨⟨kw_18_16, kw_1_2, by decide +kernel, by decide +kernel, by decide +kernel⟩, kw_18_14, kw_18_15⟩
-- X4_ragged
def m_X4_ragged (x1 : Int32) (x2 : Int32) (x3 : Int32) (g : Gs) : Option (Int32 × Gs × Nat × Nat) :=
  (m_X4_arrayOf x1 g).bind fun o_2 => (m_X4_whyNoTableRow o_2 x2 g).bind fun (x_4, g_5) => if x_4 = 0 then (if 0 ≤ x3 then (if x3 ≤ (100 : Int32) then ((m_X3_reserve (1 : Int32) x3 g_5).bind fun (x_10, g_11, a_12, b_13) => addc a_12 b_13 (if x_10 = 0 then ((m_X4_stop (8 : Int32) g_11).bind fun (x_30, g_31) => some (x_30, g_31, 0, 0)) else (unw o_2 fun n_16 => (m_X2_offset (n_16 + 1) (0 : Int32) x2 g_11).bind fun x_19 => (m_X3_addRow x3 (1 : Int32) g_11).bind fun (x_21, g_22) => chk (inb x_19 (g_22.2.2 (500 + n_16))) (lett (sI g_22 18 n_16 x_19.toNatClampNeg x_21) fun g_24 => (m_X4_done (1 : Int32) g_24).bind fun (x_27, g_28) => some (x_27, g_28, 0, 0))))) else ((m_X4_stop (5 : Int32) g_5).bind fun (x_33, g_34) => some (x_33, g_34, 0, 0))) else ((m_X4_stop (4 : Int32) g_5).bind fun (x_36, g_37) => some (x_36, g_37, 0, 0))) else ((m_X4_stop x_4 g_5).bind fun (x_39, g_40) => some (x_39, g_40, 0, 0))
set_option maxHeartbeats 4000000 in
set_option maxRecDepth 100000 in
theorem w_X4_ragged {x1 : Int32} {x2 : Int32} {x3 : Int32} (C0 : Cx p s m args c cX4_ragged 6 RX4 D cy) (hr : meth.sig.returnType = (some .int)) (hk : meth.locks = false) {res : Int32 × Gs × Nat × Nat} {mc ms cells slots : Nat} (hcs : cells + res.2.2.1 ≤ mc ∧ slots + res.2.2.2 ≤ ms) (hl : lv_has ls 6 [(0, .ref (sb 0)), (1, .int x1), (2, .int x2), (3, .int x3)]) (M : Ws D b0 cy sb db g s H locs) (h : m_X4_ragged x1 x2 x3 g = some res) : W p l e ({ frames := 4, cells := mc, slots := ms, locals := 106 } : Room) s m args below meth c H locs cells slots (MQ below (QY (some (.int res.1)) D b0 cy sb res.2.1) args s mc ms (fun q => b0 ≤ q)) (F0 m 0 ls []) := by
  obtain ⟨hx, hb, hml, hown, hts, hK⟩ := id C0
  rw [m_X4_ragged] at h
  refine lv_aload_n hx hb dX4_ragged_0 rfl (lv_at hl 0 rfl) ?_
  refine lv_iload_n hx hb dX4_ragged_1 rfl (lv_at hl 1 rfl) ?_
  obtain ⟨o_2, hc_1, h⟩ := bnd_s h
  refine kV (As := [.int x1]) (rest := []) (stk := [rfA sb o_2]) (val := (some (rfA sb o_2))) (c1 := cells) (s1 := slots) C0 M (k_X4_arrayOf hc_1) kw_13_17 Y_X4_arrayOf (rv_X4 C0 M) ⟨Nat.le_of_ble_eq_true rfl, Nat.le_of_ble_eq_true rfl⟩ rfl hl.1 rfl (Nat.le_of_ble_eq_true rfl) dX4_ragged_2 rfl rfl ⟨(Nat.le_trans (Nat.le_add_right _ _) hcs.1), (Nat.le_trans (Nat.le_add_right _ _) hcs.2)⟩ rfl (fun H locs M => ?_)
  refine lq_astore (lv' := [(4, rfA sb o_2), (0, .ref (sb 0)), (1, .int x1), (2, .int x2), (3, .int x3)]) hx hb o_2 dX4_ragged_5 hl (by decide) rfl (fun ls hl => ?_)
  refine lv_aload_n hx hb dX4_ragged_7 rfl (lv_at hl 1 rfl) ?_
  refine lq_aload hx hb o_2 dX4_ragged_8 (lv_at hl 0 rfl) ?_
  refine lv_iload_n hx hb dX4_ragged_10 rfl (lv_at hl 3 rfl) ?_
  obtain ⟨⟨x_4, g_5⟩, hc_3, h⟩ := bnd_s h
  try dsimp only at h
  refine kV (As := [rfA sb o_2, .int x2]) (rest := []) (stk := [.int x_4]) (val := (some (.int x_4))) (c1 := cells) (s1 := slots) C0 M (k_X4_whyNoTableRow hc_3) kw_19_9 Y_X4_whyNoTableRow (rv_X4 C0 M) ⟨Nat.le_of_ble_eq_true rfl, Nat.le_of_ble_eq_true rfl⟩ rfl hl.1 rfl (Nat.le_of_ble_eq_true rfl) dX4_ragged_11 rfl rfl ⟨(Nat.le_trans (Nat.le_add_right _ _) hcs.1), (Nat.le_trans (Nat.le_add_right _ _) hcs.2)⟩ rfl (fun H locs M => ?_)
  refine lv_istore (lv' := [(5, .int x_4), (4, rfA sb o_2), (0, .ref (sb 0)), (1, .int x1), (2, .int x2), (3, .int x3)]) hx hb dX4_ragged_14 hl (by decide) (by cases o_2 <;> rfl) (fun ls hl => ?_)
  refine lv_iload hx hb dX4_ragged_16 (lv_at hl 0 rfl) ?_
  refine lv_if_eq (tgt := 28) hx hb dX4_ragged_18 (by decide) (fun c_6 => ?_) (fun c_6 => ?_)
  · rw [if_pos c_6] at h
    refine lv_iload_n hx hb dX4_ragged_28 rfl (lv_at hl 5 rfl) ?_
    refine lv_if_ge (tgt := 38) hx hb dX4_ragged_29 (by decide) (fun c_7 => ?_) (fun c_7 => ?_)
    · rw [if_pos c_7] at h
      refine lv_iload_n hx hb dX4_ragged_38 rfl (lv_at hl 5 rfl) ?_
      refine lv_bipush (v := 100) hx hb dX4_ragged_39 (by decide) ?_
      refine lv_icmp_le (tgt := 50) hx hb dX4_ragged_41 (by decide) (fun c_8 => ?_) (fun c_8 => ?_)
      · rw [if_pos c_8] at h
        refine lv_aload_n hx hb dX4_ragged_50 rfl (lv_at hl 2 rfl) ?_
        refine gf_RX4_26 C0 M dX4_ragged_51 ?_
        refine lv_iconst (v := 1) hx hb dX4_ragged_54 (by decide) ?_
        refine lv_iload_n hx hb dX4_ragged_55 rfl (lv_at hl 5 rfl) ?_
        obtain ⟨⟨x_10, g_11, a_12, b_13⟩, hc_9, h⟩ := bnd_s h
        try dsimp only at h
        obtain ⟨q_14, hnew, hres⟩ := addc_s h
        clear h
        subst hres
        have h := hnew
        clear hnew
        have hcs : (cells + a_12) + q_14.2.2.1 ≤ mc ∧ (slots + b_13) + q_14.2.2.2 ≤ ms := ⟨by have h9 := hcs.1; dsimp only at h9; omega, by have h9 := hcs.2; dsimp only at h9; omega⟩
        refine kVA (As := [.int (1 : Int32), .int x3]) (rest := []) (stk := [.int x_10]) (val := (some (.int x_10))) (c1 := (cells + a_12)) (s1 := (slots + b_13)) C0 M (k_X3_reserve hc_9) kw_8_7 Y_X3_reserve (rv_X3 C0 M) ⟨Nat.le_of_ble_eq_true rfl, Nat.le_of_ble_eq_true rfl⟩ rfl hl.1 rfl (Nat.le_of_ble_eq_true rfl) dX4_ragged_56 rfl rfl ⟨(Nat.le_trans (Nat.le_add_right _ _) hcs.1), (Nat.le_trans (Nat.le_add_right _ _) hcs.2)⟩ rfl (fun db H locs M => ?_)
        refine lv_if_ne (tgt := 69) hx hb dX4_ragged_59 (by decide) (fun c_15 => ?_) (fun c_15 => ?_)
        · rw [if_neg c_15] at h
          refine lq_aload hx hb o_2 dX4_ragged_69 (lv_at hl 1 rfl) ?_
          obtain ⟨n_16, rfl, hB_17, h⟩ := unw_s h
          have hl : lv_has ls 6 [(5, .int x_4), (4, .ref (sb (400 + n_16))), (0, .ref (sb 0)), (1, .int x1), (2, .int x2), (3, .int x3)] := hl
          refine gf_RX4_133 C0 M hB_17 dX4_ragged_71 ?_
          refine lv_aload hx hb dX4_ragged_74 (lv_at hl 1 rfl) ?_
          refine gf_RX4_88 C0 M hB_17 dX4_ragged_76 ?_
          refine lv_iconst (v := 0) hx hb dX4_ragged_79 (by decide) ?_
          refine lv_iload_n hx hb dX4_ragged_80 rfl (lv_at hl 4 rfl) ?_
          obtain ⟨x_19, hc_18, h⟩ := bnd_s h
          refine kV (As := [.int (0 : Int32), .int x2]) (rest := [.ref (db (500 + n_16))]) (stk := [.int x_19, .ref (db (500 + n_16))]) (val := (some (.int x_19))) (c1 := (cells + a_12)) (s1 := (slots + b_13)) C0 M (k_X2_offset hc_18) kw_19_14 Y_X2_offset (rv_X2 C0 M (Nat.succ_lt_succ hB_17)) ⟨Nat.le_of_ble_eq_true rfl, Nat.le_of_ble_eq_true rfl⟩ rfl hl.1 rfl (Nat.le_of_ble_eq_true rfl) dX4_ragged_81 rfl rfl ⟨(Nat.le_trans (Nat.le_add_right _ _) hcs.1), (Nat.le_trans (Nat.le_add_right _ _) hcs.2)⟩ rfl (fun H locs M => ?_)
          refine lv_aload_n hx hb dX4_ragged_84 rfl (lv_at hl 2 rfl) ?_
          refine gf_RX4_26 C0 M dX4_ragged_85 ?_
          refine lv_iload_n hx hb dX4_ragged_88 rfl (lv_at hl 5 rfl) ?_
          refine lv_iconst (v := 1) hx hb dX4_ragged_89 (by decide) ?_
          obtain ⟨⟨x_21, g_22⟩, hc_20, h⟩ := bnd_s h
          try dsimp only at h
          refine kV (As := [.int x3, .int (1 : Int32)]) (rest := [.int x_19, .ref (db (500 + n_16))]) (stk := [.int x_21, .int x_19, .ref (db (500 + n_16))]) (val := (some (.int x_21))) (c1 := (cells + a_12)) (s1 := (slots + b_13)) C0 M (k_X3_addRow hc_20) kw_11_6 Y_X3_addRow (rv_X3 C0 M) ⟨Nat.le_of_ble_eq_true rfl, Nat.le_of_ble_eq_true rfl⟩ rfl hl.1 rfl (Nat.le_of_ble_eq_true rfl) dX4_ragged_90 rfl rfl ⟨(Nat.le_trans (Nat.le_add_right _ _) hcs.1), (Nat.le_trans (Nat.le_add_right _ _) hcs.2)⟩ rfl (fun H locs M => ?_)
          obtain ⟨hi_23, h⟩ := chk_s h
          obtain ⟨g_24, hg_25, h⟩ := lett_s h
          refine as_ROWS C0 M hB_17 hi_23 hg_25 dX4_ragged_93 (fun H locs M => ?_)
          refine lv_aload_n hx hb dX4_ragged_94 rfl (lv_at hl 2 rfl) ?_
          refine lv_iconst (v := 1) hx hb dX4_ragged_95 (by decide) ?_
          obtain ⟨⟨x_27, g_28⟩, hc_26, h⟩ := bnd_s h
          try dsimp only at h
          refine kV (As := [.int (1 : Int32)]) (rest := []) (stk := [.int x_27]) (val := (some (.int x_27))) (c1 := (cells + a_12)) (s1 := (slots + b_13)) C0 M (k_X4_done hc_26) kw_5_23 Y_X4_done (rv_X4 C0 M) ⟨Nat.le_of_ble_eq_true rfl, Nat.le_of_ble_eq_true rfl⟩ rfl hl.1 rfl (Nat.le_of_ble_eq_true rfl) dX4_ragged_96 rfl rfl ⟨(Nat.le_trans (Nat.le_add_right _ _) hcs.1), (Nat.le_trans (Nat.le_add_right _ _) hcs.2)⟩ rfl (fun H locs M => ?_)
          obtain rfl := Option.some.inj h
          exact rA_i C0 M hr hk (Nat.le_trans (Nat.le_add_right _ _) hcs.1) (Nat.le_trans (Nat.le_add_right _ _) hcs.2) dX4_ragged_99
        · rw [if_pos c_15] at h
          refine lv_aload_n hx hb dX4_ragged_62 rfl (lv_at hl 2 rfl) ?_
          refine lv_bipush (v := 8) hx hb dX4_ragged_63 (by decide) ?_
          obtain ⟨⟨x_30, g_31⟩, hc_29, h⟩ := bnd_s h
          try dsimp only at h
          refine kV (As := [.int (8 : Int32)]) (rest := []) (stk := [.int x_30]) (val := (some (.int x_30))) (c1 := (cells + a_12)) (s1 := (slots + b_13)) C0 M (k_X4_stop hc_29) kw_5_10 Y_X4_stop (rv_X4 C0 M) ⟨Nat.le_of_ble_eq_true rfl, Nat.le_of_ble_eq_true rfl⟩ rfl hl.1 rfl (Nat.le_of_ble_eq_true rfl) dX4_ragged_65 rfl rfl ⟨(Nat.le_trans (Nat.le_add_right _ _) hcs.1), (Nat.le_trans (Nat.le_add_right _ _) hcs.2)⟩ rfl (fun H locs M => ?_)
          obtain rfl := Option.some.inj h
          exact rA_i C0 M hr hk (Nat.le_trans (Nat.le_add_right _ _) hcs.1) (Nat.le_trans (Nat.le_add_right _ _) hcs.2) dX4_ragged_68
      · rw [if_neg c_8] at h
        refine lv_aload_n hx hb dX4_ragged_44 rfl (lv_at hl 2 rfl) ?_
        refine lv_iconst (v := 5) hx hb dX4_ragged_45 (by decide) ?_
        obtain ⟨⟨x_33, g_34⟩, hc_32, h⟩ := bnd_s h
        try dsimp only at h
        refine kV (As := [.int (5 : Int32)]) (rest := []) (stk := [.int x_33]) (val := (some (.int x_33))) (c1 := cells) (s1 := slots) C0 M (k_X4_stop hc_32) kw_5_10 Y_X4_stop (rv_X4 C0 M) ⟨Nat.le_of_ble_eq_true rfl, Nat.le_of_ble_eq_true rfl⟩ rfl hl.1 rfl (Nat.le_of_ble_eq_true rfl) dX4_ragged_46 rfl rfl ⟨(Nat.le_trans (Nat.le_add_right _ _) hcs.1), (Nat.le_trans (Nat.le_add_right _ _) hcs.2)⟩ rfl (fun H locs M => ?_)
        obtain rfl := Option.some.inj h
        exact rA_i C0 M hr hk (Nat.le_trans (Nat.le_add_right _ _) hcs.1) (Nat.le_trans (Nat.le_add_right _ _) hcs.2) dX4_ragged_49
    · rw [if_neg c_7] at h
      refine lv_aload_n hx hb dX4_ragged_32 rfl (lv_at hl 2 rfl) ?_
      refine lv_iconst (v := 4) hx hb dX4_ragged_33 (by decide) ?_
      obtain ⟨⟨x_36, g_37⟩, hc_35, h⟩ := bnd_s h
      try dsimp only at h
      refine kV (As := [.int (4 : Int32)]) (rest := []) (stk := [.int x_36]) (val := (some (.int x_36))) (c1 := cells) (s1 := slots) C0 M (k_X4_stop hc_35) kw_5_10 Y_X4_stop (rv_X4 C0 M) ⟨Nat.le_of_ble_eq_true rfl, Nat.le_of_ble_eq_true rfl⟩ rfl hl.1 rfl (Nat.le_of_ble_eq_true rfl) dX4_ragged_34 rfl rfl ⟨(Nat.le_trans (Nat.le_add_right _ _) hcs.1), (Nat.le_trans (Nat.le_add_right _ _) hcs.2)⟩ rfl (fun H locs M => ?_)
      obtain rfl := Option.some.inj h
      exact rA_i C0 M hr hk (Nat.le_trans (Nat.le_add_right _ _) hcs.1) (Nat.le_trans (Nat.le_add_right _ _) hcs.2) dX4_ragged_37
  · rw [if_neg c_6] at h
    refine lv_aload_n hx hb dX4_ragged_21 rfl (lv_at hl 2 rfl) ?_
    refine lv_iload hx hb dX4_ragged_22 (lv_at hl 0 rfl) ?_
    obtain ⟨⟨x_39, g_40⟩, hc_38, h⟩ := bnd_s h
    try dsimp only at h
    refine kV (As := [.int x_4]) (rest := []) (stk := [.int x_39]) (val := (some (.int x_39))) (c1 := cells) (s1 := slots) C0 M (k_X4_stop hc_38) kw_5_10 Y_X4_stop (rv_X4 C0 M) ⟨Nat.le_of_ble_eq_true rfl, Nat.le_of_ble_eq_true rfl⟩ rfl hl.1 rfl (Nat.le_of_ble_eq_true rfl) dX4_ragged_24 rfl rfl ⟨(Nat.le_trans (Nat.le_add_right _ _) hcs.1), (Nat.le_trans (Nat.le_add_right _ _) hcs.2)⟩ rfl (fun H locs M => ?_)
    obtain rfl := Option.some.inj h
    exact rA_i C0 M hr hk (Nat.le_trans (Nat.le_add_right _ _) hcs.1) (Nat.le_trans (Nat.le_add_right _ _) hcs.2) dX4_ragged_27
theorem k_X4_ragged {x1 : Int32} {x2 : Int32} {x3 : Int32} {res : Int32 × Gs × Nat × Nat} (h : m_X4_ragged x1 x2 x3 g = some res) : CA l yX4_ragged cX4_ragged 6 (some .int) ({ frames := 4, cells := res.2.2.1, slots := res.2.2.2, locals := 106 } : Room) [.ref (sb 0), .int x1, .int x2, .int x3] (some (.int res.1)) D b0 cy sb db g res.2.1 := by
  refine Met.ofW (cc := cX4_ragged) (maxL := 6) (ret := (some .int)) (by decide) rfl ?_
  intro p e s m args below meth c s₁ B hml hv
  obtain ⟨rfl, hW, hK⟩ := hv
  have hl := lv_entry [.ref (sb 0), .int x1, .int x2, .int x3] (n := 6) (Nat.le_of_ble_eq_true rfl)
  rw [lg_entry_eq]
  generalize (lg_sl [.ref (sb 0), .int x1, .int x2, .int x3] ++ List.replicate (6 - (lg_sl [.ref (sb 0), .int x1, .int x2, .int x3]).length) Slot.unset).toArray = ls at hl ⊢
  have hl : lv_has ls 6 [(0, .ref (sb 0)), (1, .int x1), (2, .int x2), (3, .int x3)] := hl
  exact w_X4_ragged ⟨B.exec, B.bytes, hml, findClass_of_methodNamed B.named, fun w hw => atoms_spec (ws := Cond.code yX4_ragged cX4_ragged 6 (some .int) :: wsL_law) B.pre w (List.mem_cons_of_mem _ hw), hK⟩ B.returns B.notSynchronized ⟨Nat.le_of_eq (Nat.zero_add _), Nat.le_of_eq (Nat.zero_add _)⟩ hl ⟨hW, va_S.rf⟩ h
theorem Y_X4_ragged : Yv yX4_ragged RX4 cX4_ragged 6 (some .int) 3 := ⟨⟨kw_19_8, kw_1_2, by decide +kernel, by decide +kernel, by decide +kernel⟩, kw_19_6, kw_19_7⟩
end WALK
