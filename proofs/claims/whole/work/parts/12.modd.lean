section WALK
variable {p : Program} {l : Launch} {e : Env} {s : State} {m : MethodId} {args : Array Value} {below : List Frame} {meth : Method} {c : Code} {H : Heap} {locs : List Loc}
variable {ls : Array Slot} {D : va_G} {b0 : Nat} {cy : Cy} {sb db : Nat → Nat} {g : Gs}
-- X5_sumOf
def m_X5_sumOf_L5 (x1 : Int32) (g : Gs) : Nat → Int64 → Int32 → Option (Int64)
  | 0, _, _ => none
  | fu + 1, y2, x4 =>
  chk (inb x1 13000) (if (g.1 33 0 x1.toNatClampNeg) ≤ x4 then (some y2) else (chk (inb x1 13000) (chk (inb ((g.1 32 0 x1.toNatClampNeg) + x4) 300000) (lett (y2 + (g.2.1 2 ((g.1 32 0 x1.toNatClampNeg) + x4).toNatClampNeg)) fun y_9 => lett (x4 + 1) fun x_11 => m_X5_sumOf_L5 x1 g fu y_9 x_11))))
def m_X5_sumOf (x1 : Int32) (g : Gs) : Option (Int64) :=
  lett (0 : Int64) fun y_1 => lett (0 : Int32) fun x_3 => (m_X5_sumOf_L5 x1 g FU y_1 x_3).bind fun y_13 => some y_13
set_option maxHeartbeats 4000000 in
set_option maxRecDepth 100000 in
theorem w_X5_sumOf_L5 {x1 : Int32} (C0 : Cx p s m args c cX5_sumOf 5 RX5 D cy) (hr : meth.sig.returnType = (some .long)) (hk : meth.locks = false) {res : Int64} {q : Int64} (kk : ∀ (y2 : Int64) (H : Heap) (locs : List Loc) (ls : Array Slot), q = y2 → lv_has ls 5 [(2, .long y2)] → Ws D b0 cy sb db g s H locs → W p l e ({ frames := 0, cells := 0, slots := 0, locals := 0 } : Room) s m args below meth c H locs 0 0 (MQ below (QX (some (.long res)) D b0 cy sb db g) args s 0 0 (fun q => b0 ≤ q)) (F0 m 39 ls [])) : ∀ (fu : Nat) (y2 : Int64) (x4 : Int32) (H : Heap) (locs : List Loc) (ls : Array Slot), lv_has ls 5 [(0, .ref (sb 13)), (1, .int x1), (2, .long y2), (4, .int x4)] → Ws D b0 cy sb db g s H locs → m_X5_sumOf_L5 x1 g fu y2 x4 = some q → W p l e ({ frames := 0, cells := 0, slots := 0, locals := 0 } : Room) s m args below meth c H locs 0 0 (MQ below (QX (some (.long res)) D b0 cy sb db g) args s 0 0 (fun q => b0 ≤ q)) (F0 m 5 ls []) := by
  obtain ⟨hx, hb, hml, hown, hts, hK⟩ := id C0
  intro fu
  induction fu with
  | zero =>
    intro y2 x4 H locs ls hl M h
    cases h
  | succ fu ih =>
    intro y2 x4 H locs ls hl M h
    rw [m_X5_sumOf_L5] at h
    refine lv_iload hx hb dX5_sumOf_5 (lv_at hl 3 rfl) ?_
    refine lv_aload_n hx hb dX5_sumOf_7 rfl (lv_at hl 0 rfl) ?_
    refine gf_RX5_38 C0 M dX5_sumOf_8 ?_
    refine lv_iload_n hx hb dX5_sumOf_11 rfl (lv_at hl 1 rfl) ?_
    obtain ⟨hi_5, h⟩ := chk_s h
    refine al_MrowSize C0 M hi_5 dX5_sumOf_12 ?_
    refine lv_icmp_ge (tgt := 39) hx hb dX5_sumOf_13 (by decide) (fun c_6 => ?_) (fun c_6 => ?_)
    · rw [if_pos c_6] at h
      exact kk _ _ _ _ (Option.some.inj h).symm (lv_sub hl [2] rfl) M
    · rw [if_neg c_6] at h
      refine lv_lload_n hx hb dX5_sumOf_16 rfl (lv_at hl 2 rfl) ?_
      refine lv_aload_n hx hb dX5_sumOf_17 rfl (lv_at hl 0 rfl) ?_
      refine gf_RX5_42 C0 M dX5_sumOf_18 ?_
      refine lv_aload_n hx hb dX5_sumOf_21 rfl (lv_at hl 0 rfl) ?_
      refine gf_RX5_35 C0 M dX5_sumOf_22 ?_
      refine lv_iload_n hx hb dX5_sumOf_25 rfl (lv_at hl 1 rfl) ?_
      obtain ⟨hi_7, h⟩ := chk_s h
      refine al_MrowAt C0 M hi_7 dX5_sumOf_26 ?_
      refine lv_iload hx hb dX5_sumOf_27 (lv_at hl 3 rfl) ?_
      refine lv_iadd hx hb dX5_sumOf_29 ?_
      obtain ⟨hi_8, h⟩ := chk_s h
      refine al_Mpool C0 M hi_8 dX5_sumOf_30 ?_
      refine lv_ladd hx hb dX5_sumOf_31 ?_
      obtain ⟨y_9, hn_10, h⟩ := lett_s h
      refine nm_l hn_10 ?_
      refine lv_lstore_n (lv' := [(2, .long y_9), (0, .ref (sb 13)), (1, .int x1), (4, .int x4)]) hx hb dX5_sumOf_32 rfl hl (by decide) rfl (fun ls hl => ?_)
      obtain ⟨x_11, hn_12, h⟩ := lett_s h
      refine lv_iinc (v := x_11) (lv' := [(4, .int x_11), (2, .long y_9), (0, .ref (sb 13)), (1, .int x1)]) hx hb dX5_sumOf_33 hl (k := 3) rfl (by rw [hn_12]; rfl) (by decide) rfl (fun ls hl => ?_)
      refine lv_goto (tgt := 5) hx hb dX5_sumOf_36 (by decide) ?_
      exact ih _ _ _ _ _ (lv_sub hl [2, 3, 1, 0] rfl) M h
set_option maxHeartbeats 4000000 in
set_option maxRecDepth 100000 in
theorem w_X5_sumOf {x1 : Int32} (C0 : Cx p s m args c cX5_sumOf 5 RX5 D cy) (hr : meth.sig.returnType = (some .long)) (hk : meth.locks = false) {res : Int64} (hl : lv_has ls 5 [(0, .ref (sb 13)), (1, .int x1)]) (M : Ws D b0 cy sb db g s H locs) (h : m_X5_sumOf x1 g = some res) : W p l e ({ frames := 0, cells := 0, slots := 0, locals := 0 } : Room) s m args below meth c H locs 0 0 (MQ below (QX (some (.long res)) D b0 cy sb db g) args s 0 0 (fun q => b0 ≤ q)) (F0 m 0 ls []) := by
  obtain ⟨hx, hb, hml, hown, hts, hK⟩ := id C0
  rw [m_X5_sumOf] at h
  refine lv_lconst (v := 0) hx hb dX5_sumOf_0 (by decide) ?_
  obtain ⟨y_1, hn_2, h⟩ := lett_s h
  refine nm_l hn_2 ?_
  refine lv_lstore_n (lv' := [(2, .long y_1), (0, .ref (sb 13)), (1, .int x1)]) hx hb dX5_sumOf_1 rfl hl (by decide) rfl (fun ls hl => ?_)
  refine lv_iconst (v := 0) hx hb dX5_sumOf_2 (by decide) ?_
  obtain ⟨x_3, hn_4, h⟩ := lett_s h
  refine nm_i hn_4 ?_
  refine lv_istore (lv' := [(4, .int x_3), (2, .long y_1), (0, .ref (sb 13)), (1, .int x1)]) hx hb dX5_sumOf_3 hl (by decide) rfl (fun ls hl => ?_)
  obtain ⟨q_14, hq_15, h⟩ := bnd_s h
  refine w_X5_sumOf_L5 C0 hr hk (q := q_14) (fun y_13 H locs ls hq hl M => ?_) FU _ _ _ _ _ (lv_sub hl [2, 3, 1, 0] rfl) M hq_15
  subst q_14
  try dsimp only at h
  refine lv_lload_n hx hb dX5_sumOf_39 rfl (lv_at hl 0 rfl) ?_
  obtain rfl := Option.some.inj h
  exact rt_l C0 M hr hk dX5_sumOf_40
theorem k_X5_sumOf {x1 : Int32} {res : Int64} (h : m_X5_sumOf x1 g = some res) : CM l yX5_sumOf cX5_sumOf 5 (some .long) ({ frames := 0, cells := 0, slots := 0, locals := 0 } : Room) [.ref (sb 13), .int x1] (some (.long res)) D b0 cy sb db g g := by
  refine Met.ofW (cc := cX5_sumOf) (maxL := 5) (ret := (some .long)) (by decide) rfl ?_
  intro p e s m args below meth c s₁ B hml hv
  obtain ⟨rfl, hW, hK⟩ := hv
  have hl := lv_entry [.ref (sb 13), .int x1] (n := 5) (Nat.le_of_ble_eq_true rfl)
  rw [lg_entry_eq]
  generalize (lg_sl [.ref (sb 13), .int x1] ++ List.replicate (5 - (lg_sl [.ref (sb 13), .int x1]).length) Slot.unset).toArray = ls at hl ⊢
  have hl : lv_has ls 5 [(0, .ref (sb 13)), (1, .int x1)] := hl
  exact w_X5_sumOf ⟨B.exec, B.bytes, hml, findClass_of_methodNamed B.named, fun w hw => atoms_spec (ws := Cond.code yX5_sumOf cX5_sumOf 5 (some .long) :: wsL_law) B.pre w (List.mem_cons_of_mem _ hw), hK⟩ B.returns B.notSynchronized hl ⟨hW, va_S.rf⟩ h
theorem Y_X5_sumOf : Yv yX5_sumOf RX5 cX5_sumOf 5 (some .long) 1 := ⟨⟨kw_26_5, kw_1_5, by decide +kernel, by decide +kernel, by decide +kernel⟩, kw_26_3, kw_26_4⟩
-- X5_sum
def m_X5_sum_L47 (x1 : Int32) (g : Gs) : Nat → Int64 → Int32 → Option (Int64)
  | 0, _, _ => none
  | fu + 1, y2, x4 =>
  (m_X5_tableRows x1 g).bind fun x_13 => if x_13 ≤ x4 then (some y2) else (chk (inb x1 24) (chk (inb ((g.1 30 0 x1.toNatClampNeg) + x4) 12100) (lett (g.1 38 0 ((g.1 30 0 x1.toNatClampNeg) + x4).toNatClampNeg) fun x_17 => if x_17 = (-1 : Int32) then (lett (y2 + (0 : Int64)) fun y_26 => lett (x4 + 1) fun x_28 => m_X5_sum_L47 x1 g fu y_26 x_28) else ((m_X5_sumOf x_17 g).bind fun y_21 => lett (y2 + y_21) fun y_22 => lett (x4 + 1) fun x_24 => m_X5_sum_L47 x1 g fu y_22 x_24))))
def m_X5_sum (x1 : Int32) (g : Gs) : Option (Int64 × Gs) :=
  (m_X5_isArray x1 g).bind fun x_2 => if x_2 = 0 then ((m_X5_no (7 : Int32) g).bind fun (x_37, g_38) => some (x_37.toInt64, g_38)) else (lett (sI g 20 0 0 (0 : Int32)) fun g_4 => chk (inb x1 24) (if (g_4.1 26 0 x1.toNatClampNeg) = (4 : Int32) then (lett (0 : Int64) fun y_8 => lett (0 : Int32) fun x_10 => (m_X5_sum_L47 x1 g_4 FU y_8 x_10).bind fun y_30 => some (y_30, g_4)) else (chk (inb x1 24) ((m_X5_sumOf (g_4.1 30 0 x1.toNatClampNeg) g_4).bind fun y_35 => some (y_35, g_4)))))
set_option maxHeartbeats 4000000 in
set_option maxRecDepth 100000 in
theorem w_X5_sum_L47 {x1 : Int32} (C0 : Cx p s m args c cX5_sum 6 RX5 D cy) (hr : meth.sig.returnType = (some .long)) (hk : meth.locks = false) {res : Int64 × Gs} {q : Int64} (kk : ∀ (y2 : Int64) (H : Heap) (locs : List Loc) (ls : Array Slot), q = y2 → lv_has ls 6 [(2, .long y2)] → Ws D b0 cy sb db g s H locs → W p l e ({ frames := 3, cells := 0, slots := 0, locals := 66 } : Room) s m args below meth c H locs 0 0 (MQ below (QX (some (.long res.1)) D b0 cy sb db res.2) args s 0 0 (fun q => b0 ≤ q)) (F0 m 98 ls [])) : ∀ (fu : Nat) (y2 : Int64) (x4 : Int32) (H : Heap) (locs : List Loc) (ls : Array Slot), lv_has ls 6 [(0, .ref (sb 13)), (1, .int x1), (2, .long y2), (4, .int x4)] → Ws D b0 cy sb db g s H locs → m_X5_sum_L47 x1 g fu y2 x4 = some q → W p l e ({ frames := 3, cells := 0, slots := 0, locals := 66 } : Room) s m args below meth c H locs 0 0 (MQ below (QX (some (.long res.1)) D b0 cy sb db res.2) args s 0 0 (fun q => b0 ≤ q)) (F0 m 47 ls []) := by
  obtain ⟨hx, hb, hml, hown, hts, hK⟩ := id C0
  intro fu
  induction fu with
  | zero =>
    intro y2 x4 H locs ls hl M h
    cases h
  | succ fu ih =>
    intro y2 x4 H locs ls hl M h
    rw [m_X5_sum_L47] at h
    refine lv_iload hx hb dX5_sum_47 (lv_at hl 3 rfl) ?_
    refine lv_aload_n hx hb dX5_sum_49 rfl (lv_at hl 0 rfl) ?_
    refine lv_iload_n hx hb dX5_sum_50 rfl (lv_at hl 1 rfl) ?_
    obtain ⟨x_13, hc_12, h⟩ := bnd_s h
    refine kV (As := [.int x1]) (rest := [.int x4]) (stk := [.int x_13, .int x4]) (val := (some (.int x_13))) (c1 := 0) (s1 := 0) C0 M (k_X5_tableRows hc_12) kw_19_1 Y_X5_tableRows (rv_X5 C0 M) ⟨Nat.le_of_ble_eq_true rfl, Nat.le_of_ble_eq_true rfl⟩ rfl hl.1 rfl (Nat.le_of_ble_eq_true rfl) dX5_sum_51 rfl rfl ⟨Nat.le_refl _, Nat.le_refl _⟩ rfl (fun H locs M => ?_)
    refine lv_icmp_ge (tgt := 98) hx hb dX5_sum_54 (by decide) (fun c_14 => ?_) (fun c_14 => ?_)
    · rw [if_pos c_14] at h
      exact kk _ _ _ _ (Option.some.inj h).symm (lv_sub hl [2] rfl) M
    · rw [if_neg c_14] at h
      refine lv_aload_n hx hb dX5_sum_57 rfl (lv_at hl 0 rfl) ?_
      refine gf_RX5_50 C0 M dX5_sum_58 ?_
      refine lv_aload_n hx hb dX5_sum_61 rfl (lv_at hl 0 rfl) ?_
      refine gf_RX5_32 C0 M dX5_sum_62 ?_
      refine lv_iload_n hx hb dX5_sum_65 rfl (lv_at hl 1 rfl) ?_
      obtain ⟨hi_15, h⟩ := chk_s h
      refine al_MrowOf C0 M hi_15 dX5_sum_66 ?_
      refine lv_iload hx hb dX5_sum_67 (lv_at hl 3 rfl) ?_
      refine lv_iadd hx hb dX5_sum_69 ?_
      obtain ⟨hi_16, h⟩ := chk_s h
      refine al_Mslot C0 M hi_16 dX5_sum_70 ?_
      obtain ⟨x_17, hn_18, h⟩ := lett_s h
      refine nm_i hn_18 ?_
      refine lv_istore (lv' := [(5, .int x_17), (0, .ref (sb 13)), (1, .int x1), (2, .long y2), (4, .int x4)]) hx hb dX5_sum_71 hl (by decide) rfl (fun ls hl => ?_)
      refine lv_lload_n hx hb dX5_sum_73 rfl (lv_at hl 3 rfl) ?_
      refine lv_iload hx hb dX5_sum_74 (lv_at hl 0 rfl) ?_
      refine lv_iconst (v := -1) hx hb dX5_sum_76 (by decide) ?_
      refine lv_icmp_ne (tgt := 84) hx hb dX5_sum_77 (by decide) (fun c_19 => ?_) (fun c_19 => ?_)
      · rw [if_neg c_19] at h
        refine lv_aload_n hx hb dX5_sum_84 rfl (lv_at hl 1 rfl) ?_
        refine lv_iload hx hb dX5_sum_85 (lv_at hl 0 rfl) ?_
        obtain ⟨y_21, hc_20, h⟩ := bnd_s h
        refine kV (As := [.int x_17]) (rest := [.long y2]) (stk := [.long y_21, .long y2]) (val := (some (.long y_21))) (c1 := 0) (s1 := 0) C0 M (k_X5_sumOf hc_20) kw_26_2 Y_X5_sumOf (rv_X5 C0 M) ⟨Nat.le_of_ble_eq_true rfl, Nat.le_of_ble_eq_true rfl⟩ rfl hl.1 rfl (Nat.le_of_ble_eq_true rfl) dX5_sum_87 rfl rfl ⟨Nat.le_refl _, Nat.le_refl _⟩ rfl (fun H locs M => ?_)
        refine lv_ladd hx hb dX5_sum_90 ?_
        obtain ⟨y_22, hn_23, h⟩ := lett_s h
        refine nm_l hn_23 ?_
        refine lv_lstore_n (lv' := [(2, .long y_22), (5, .int x_17), (0, .ref (sb 13)), (1, .int x1), (4, .int x4)]) hx hb dX5_sum_91 rfl hl (by decide) rfl (fun ls hl => ?_)
        obtain ⟨x_24, hn_25, h⟩ := lett_s h
        refine lv_iinc (v := x_24) (lv' := [(4, .int x_24), (2, .long y_22), (5, .int x_17), (0, .ref (sb 13)), (1, .int x1)]) hx hb dX5_sum_92 hl (k := 4) rfl (by rw [hn_25]; rfl) (by decide) rfl (fun ls hl => ?_)
        refine lv_goto (tgt := 47) hx hb dX5_sum_95 (by decide) ?_
        exact ih _ _ _ _ _ (lv_sub hl [3, 4, 1, 0] rfl) M h
      · rw [if_pos c_19] at h
        refine lv_lconst (v := 0) hx hb dX5_sum_80 (by decide) ?_
        refine lv_goto (tgt := 90) hx hb dX5_sum_81 (by decide) ?_
        refine lv_ladd hx hb dX5_sum_90 ?_
        obtain ⟨y_26, hn_27, h⟩ := lett_s h
        refine nm_l hn_27 ?_
        refine lv_lstore_n (lv' := [(2, .long y_26), (5, .int x_17), (0, .ref (sb 13)), (1, .int x1), (4, .int x4)]) hx hb dX5_sum_91 rfl hl (by decide) rfl (fun ls hl => ?_)
        obtain ⟨x_28, hn_29, h⟩ := lett_s h
        refine lv_iinc (v := x_28) (lv' := [(4, .int x_28), (2, .long y_26), (5, .int x_17), (0, .ref (sb 13)), (1, .int x1)]) hx hb dX5_sum_92 hl (k := 4) rfl (by rw [hn_29]; rfl) (by decide) rfl (fun ls hl => ?_)
        refine lv_goto (tgt := 47) hx hb dX5_sum_95 (by decide) ?_
        exact ih _ _ _ _ _ (lv_sub hl [3, 4, 1, 0] rfl) M h
set_option maxHeartbeats 4000000 in
set_option maxRecDepth 100000 in
theorem w_X5_sum {x1 : Int32} (C0 : Cx p s m args c cX5_sum 6 RX5 D cy) (hr : meth.sig.returnType = (some .long)) (hk : meth.locks = false) {res : Int64 × Gs} (hl : lv_has ls 6 [(0, .ref (sb 13)), (1, .int x1)]) (M : Ws D b0 cy sb db g s H locs) (h : m_X5_sum x1 g = some res) : W p l e ({ frames := 3, cells := 0, slots := 0, locals := 66 } : Room) s m args below meth c H locs 0 0 (MQ below (QX (some (.long res.1)) D b0 cy sb db res.2) args s 0 0 (fun q => b0 ≤ q)) (F0 m 0 ls []) := by
  obtain ⟨hx, hb, hml, hown, hts, hK⟩ := id C0
  rw [m_X5_sum] at h
  refine lv_aload_n hx hb dX5_sum_0 rfl (lv_at hl 0 rfl) ?_
  refine lv_iload_n hx hb dX5_sum_1 rfl (lv_at hl 1 rfl) ?_
  obtain ⟨x_2, hc_1, h⟩ := bnd_s h
  refine kV (As := [.int x1]) (rest := []) (stk := [.int x_2]) (val := (some (.int x_2))) (c1 := 0) (s1 := 0) C0 M (k_X5_isArray hc_1) kw_14_13 Y_X5_isArray (rv_X5 C0 M) ⟨Nat.le_of_ble_eq_true rfl, Nat.le_of_ble_eq_true rfl⟩ rfl hl.1 rfl (Nat.le_of_ble_eq_true rfl) dX5_sum_2 rfl rfl ⟨Nat.le_refl _, Nat.le_refl _⟩ rfl (fun H locs M => ?_)
  refine lv_if_ne (tgt := 16) hx hb dX5_sum_5 (by decide) (fun c_3 => ?_) (fun c_3 => ?_)
  · rw [if_neg c_3] at h
    refine lv_aload_n hx hb dX5_sum_16 rfl (lv_at hl 0 rfl) ?_
    refine lv_iconst (v := 0) hx hb dX5_sum_17 (by decide) ?_
    obtain ⟨g_4, hg_5, h⟩ := lett_s h
    refine pf_RX5_65 C0 M hg_5 dX5_sum_18 (fun H locs M => ?_)
    refine lv_aload_n hx hb dX5_sum_21 rfl (lv_at hl 0 rfl) ?_
    refine gf_RX5_20 C0 M dX5_sum_22 ?_
    refine lv_iload_n hx hb dX5_sum_25 rfl (lv_at hl 1 rfl) ?_
    obtain ⟨hi_6, h⟩ := chk_s h
    refine al_Mkinds C0 M hi_6 dX5_sum_26 ?_
    refine lv_iconst (v := 4) hx hb dX5_sum_27 (by decide) ?_
    refine lv_icmp_eq (tgt := 42) hx hb dX5_sum_28 (by decide) (fun c_7 => ?_) (fun c_7 => ?_)
    · rw [if_pos c_7] at h
      refine lv_lconst (v := 0) hx hb dX5_sum_42 (by decide) ?_
      obtain ⟨y_8, hn_9, h⟩ := lett_s h
      refine nm_l hn_9 ?_
      refine lv_lstore_n (lv' := [(2, .long y_8), (0, .ref (sb 13)), (1, .int x1)]) hx hb dX5_sum_43 rfl hl (by decide) rfl (fun ls hl => ?_)
      refine lv_iconst (v := 0) hx hb dX5_sum_44 (by decide) ?_
      obtain ⟨x_10, hn_11, h⟩ := lett_s h
      refine nm_i hn_11 ?_
      refine lv_istore (lv' := [(4, .int x_10), (2, .long y_8), (0, .ref (sb 13)), (1, .int x1)]) hx hb dX5_sum_45 hl (by decide) rfl (fun ls hl => ?_)
      obtain ⟨q_31, hq_32, h⟩ := bnd_s h
      refine w_X5_sum_L47 C0 hr hk (q := q_31) (fun y_30 H locs ls hq hl M => ?_) FU _ _ _ _ _ (lv_sub hl [2, 3, 1, 0] rfl) M hq_32
      subst q_31
      try dsimp only at h
      refine lv_lload_n hx hb dX5_sum_98 rfl (lv_at hl 0 rfl) ?_
      obtain rfl := Option.some.inj h
      exact rt_l C0 M hr hk dX5_sum_99
    · rw [if_neg c_7] at h
      refine lv_aload_n hx hb dX5_sum_31 rfl (lv_at hl 0 rfl) ?_
      refine lv_aload_n hx hb dX5_sum_32 rfl (lv_at hl 0 rfl) ?_
      refine gf_RX5_32 C0 M dX5_sum_33 ?_
      refine lv_iload_n hx hb dX5_sum_36 rfl (lv_at hl 1 rfl) ?_
      obtain ⟨hi_33, h⟩ := chk_s h
      refine al_MrowOf C0 M hi_33 dX5_sum_37 ?_
      obtain ⟨y_35, hc_34, h⟩ := bnd_s h
      refine kV (As := [.int (g_4.1 30 0 x1.toNatClampNeg)]) (rest := []) (stk := [.long y_35]) (val := (some (.long y_35))) (c1 := 0) (s1 := 0) C0 M (k_X5_sumOf hc_34) kw_26_2 Y_X5_sumOf (rv_X5 C0 M) ⟨Nat.le_of_ble_eq_true rfl, Nat.le_of_ble_eq_true rfl⟩ rfl hl.1 rfl (Nat.le_of_ble_eq_true rfl) dX5_sum_38 rfl rfl ⟨Nat.le_refl _, Nat.le_refl _⟩ rfl (fun H locs M => ?_)
      obtain rfl := Option.some.inj h
      exact rt_l C0 M hr hk dX5_sum_41
  · rw [if_pos c_3] at h
    refine lv_aload_n hx hb dX5_sum_8 rfl (lv_at hl 0 rfl) ?_
    refine lv_bipush (v := 7) hx hb dX5_sum_9 (by decide) ?_
    obtain ⟨⟨x_37, g_38⟩, hc_36, h⟩ := bnd_s h
    try dsimp only at h
    refine kV (As := [.int (7 : Int32)]) (rest := []) (stk := [.int x_37]) (val := (some (.int x_37))) (c1 := 0) (s1 := 0) C0 M (k_X5_no hc_36) kw_6_8 Y_X5_no (rv_X5 C0 M) ⟨Nat.le_of_ble_eq_true rfl, Nat.le_of_ble_eq_true rfl⟩ rfl hl.1 rfl (Nat.le_of_ble_eq_true rfl) dX5_sum_11 rfl rfl ⟨Nat.le_refl _, Nat.le_refl _⟩ rfl (fun H locs M => ?_)
    refine lv_i2l hx hb dX5_sum_14 rfl ?_
    obtain rfl := Option.some.inj h
    exact rt_l C0 M hr hk dX5_sum_15
theorem k_X5_sum {x1 : Int32} {res : Int64 × Gs} (h : m_X5_sum x1 g = some res) : CM l yX5_sum cX5_sum 6 (some .long) ({ frames := 3, cells := 0, slots := 0, locals := 66 } : Room) [.ref (sb 13), .int x1] (some (.long res.1)) D b0 cy sb db g res.2 := by
  refine Met.ofW (cc := cX5_sum) (maxL := 6) (ret := (some .long)) (by decide) rfl ?_
  intro p e s m args below meth c s₁ B hml hv
  obtain ⟨rfl, hW, hK⟩ := hv
  have hl := lv_entry [.ref (sb 13), .int x1] (n := 6) (Nat.le_of_ble_eq_true rfl)
  rw [lg_entry_eq]
  generalize (lg_sl [.ref (sb 13), .int x1] ++ List.replicate (6 - (lg_sl [.ref (sb 13), .int x1]).length) Slot.unset).toArray = ls at hl ⊢
  have hl : lv_has ls 6 [(0, .ref (sb 13)), (1, .int x1)] := hl
  exact w_X5_sum ⟨B.exec, B.bytes, hml, findClass_of_methodNamed B.named, fun w hw => atoms_spec (ws := Cond.code yX5_sum cX5_sum 6 (some .long) :: wsL_law) B.pre w (List.mem_cons_of_mem _ hw), hK⟩ B.returns B.notSynchronized hl ⟨hW, va_S.rf⟩ h
theorem Y_X5_sum : Yv yX5_sum RX5 cX5_sum 6 (some .long) 1 := ⟨⟨kw_26_1, kw_1_5, by decide +kernel, by decide +kernel, by decide +kernel⟩, kw_25_23, kw_26_0⟩
-- X5_mean
def m_X5_mean_J47 (x1 : Int32) (xs0 : Int32) (g : Gs) : Option (Int64 × Gs) :=
  if xs0 = 0 then (lett (sI g 20 0 0 (0 : Int32)) fun g_10 => chk (inb x1 24) ((m_X5_sumOf (g_10.1 30 0 x1.toNatClampNeg) g_10).bind fun y_14 => chk (inb x1 24) (chk (inb (g_10.1 30 0 x1.toNatClampNeg) 13000) (chk (¬ (g_10.1 33 0 (g_10.1 30 0 x1.toNatClampNeg).toNatClampNeg).toInt64 = 0) (some ((y_14 / (g_10.1 33 0 (g_10.1 30 0 x1.toNatClampNeg).toNatClampNeg).toInt64), g_10)))))) else ((m_X5_no xs0 g).bind fun (x_19, g_20) => some (x_19.toInt64, g_20))
def m_X5_mean (x1 : Int32) (g : Gs) : Option (Int64 × Gs) :=
  (m_X5_isArray x1 g).bind fun x_2 => if x_2 = 0 then (m_X5_mean_J47 x1 (7 : Int32) g) else (chk (inb x1 24) (if (g.1 26 0 x1.toNatClampNeg) < (3 : Int32) then (chk (inb x1 24) (chk (inb (g.1 30 0 x1.toNatClampNeg) 13000) (if (g.1 33 0 (g.1 30 0 x1.toNatClampNeg).toNatClampNeg) = 0 then (m_X5_mean_J47 x1 (6 : Int32) g) else (m_X5_mean_J47 x1 (0 : Int32) g)))) else (m_X5_mean_J47 x1 (2 : Int32) g)))
set_option maxHeartbeats 4000000 in
set_option maxRecDepth 100000 in
theorem w_X5_mean_J47 {x1 : Int32} {xs0 : Int32} (C0 : Cx p s m args c cX5_mean 3 RX5 D cy) (hr : meth.sig.returnType = (some .long)) (hk : meth.locks = false) {res : Int64 × Gs} (hl : lv_has ls 3 [(0, .ref (sb 13)), (1, .int x1)]) (M : Ws D b0 cy sb db g s H locs) (h : m_X5_mean_J47 x1 xs0 g = some res) : W p l e ({ frames := 2, cells := 0, slots := 0, locals := 46 } : Room) s m args below meth c H locs 0 0 (MQ below (QX (some (.long res.1)) D b0 cy sb db res.2) args s 0 0 (fun q => b0 ≤ q)) (F0 m 47 ls [.int xs0]) := by
  obtain ⟨hx, hb, hml, hown, hts, hK⟩ := id C0
  rw [m_X5_mean_J47] at h
  refine lv_istore_n (lv' := [(2, .int xs0), (0, .ref (sb 13)), (1, .int x1)]) hx hb dX5_mean_47 rfl hl (by decide) rfl (fun ls hl => ?_)
  refine lv_iload_n hx hb dX5_mean_48 rfl (lv_at hl 0 rfl) ?_
  refine lv_if_eq (tgt := 59) hx hb dX5_mean_49 (by decide) (fun c_9 => ?_) (fun c_9 => ?_)
  · rw [if_pos c_9] at h
    refine lv_aload_n hx hb dX5_mean_59 rfl (lv_at hl 1 rfl) ?_
    refine lv_iconst (v := 0) hx hb dX5_mean_60 (by decide) ?_
    obtain ⟨g_10, hg_11, h⟩ := lett_s h
    refine pf_RX5_65 C0 M hg_11 dX5_mean_61 (fun H locs M => ?_)
    refine lv_aload_n hx hb dX5_mean_64 rfl (lv_at hl 1 rfl) ?_
    refine lv_aload_n hx hb dX5_mean_65 rfl (lv_at hl 1 rfl) ?_
    refine gf_RX5_32 C0 M dX5_mean_66 ?_
    refine lv_iload_n hx hb dX5_mean_69 rfl (lv_at hl 2 rfl) ?_
    obtain ⟨hi_12, h⟩ := chk_s h
    refine al_MrowOf C0 M hi_12 dX5_mean_70 ?_
    obtain ⟨y_14, hc_13, h⟩ := bnd_s h
    refine kV (As := [.int (g_10.1 30 0 x1.toNatClampNeg)]) (rest := []) (stk := [.long y_14]) (val := (some (.long y_14))) (c1 := 0) (s1 := 0) C0 M (k_X5_sumOf hc_13) kw_26_2 Y_X5_sumOf (rv_X5 C0 M) ⟨Nat.le_of_ble_eq_true rfl, Nat.le_of_ble_eq_true rfl⟩ rfl hl.1 rfl (Nat.le_of_ble_eq_true rfl) dX5_mean_71 rfl rfl ⟨Nat.le_refl _, Nat.le_refl _⟩ rfl (fun H locs M => ?_)
    refine lv_aload_n hx hb dX5_mean_74 rfl (lv_at hl 1 rfl) ?_
    refine gf_RX5_38 C0 M dX5_mean_75 ?_
    refine lv_aload_n hx hb dX5_mean_78 rfl (lv_at hl 1 rfl) ?_
    refine gf_RX5_32 C0 M dX5_mean_79 ?_
    refine lv_iload_n hx hb dX5_mean_82 rfl (lv_at hl 2 rfl) ?_
    obtain ⟨hi_15, h⟩ := chk_s h
    refine al_MrowOf C0 M hi_15 dX5_mean_83 ?_
    obtain ⟨hi_16, h⟩ := chk_s h
    refine al_MrowSize C0 M hi_16 dX5_mean_84 ?_
    refine lv_i2l hx hb dX5_mean_85 rfl ?_
    obtain ⟨hd_17, h⟩ := chk_s h
    refine lv_ldiv hx hb dX5_mean_86 hd_17 ?_
    obtain rfl := Option.some.inj h
    exact rt_l C0 M hr hk dX5_mean_87
  · rw [if_neg c_9] at h
    refine lv_aload_n hx hb dX5_mean_52 rfl (lv_at hl 1 rfl) ?_
    refine lv_iload_n hx hb dX5_mean_53 rfl (lv_at hl 0 rfl) ?_
    obtain ⟨⟨x_19, g_20⟩, hc_18, h⟩ := bnd_s h
    try dsimp only at h
    refine kV (As := [.int xs0]) (rest := []) (stk := [.int x_19]) (val := (some (.int x_19))) (c1 := 0) (s1 := 0) C0 M (k_X5_no hc_18) kw_6_8 Y_X5_no (rv_X5 C0 M) ⟨Nat.le_of_ble_eq_true rfl, Nat.le_of_ble_eq_true rfl⟩ rfl hl.1 rfl (Nat.le_of_ble_eq_true rfl) dX5_mean_54 rfl rfl ⟨Nat.le_refl _, Nat.le_refl _⟩ rfl (fun H locs M => ?_)
    refine lv_i2l hx hb dX5_mean_57 rfl ?_
    obtain rfl := Option.some.inj h
    exact rt_l C0 M hr hk dX5_mean_58
set_option maxHeartbeats 4000000 in
set_option maxRecDepth 100000 in
theorem w_X5_mean {x1 : Int32} (C0 : Cx p s m args c cX5_mean 3 RX5 D cy) (hr : meth.sig.returnType = (some .long)) (hk : meth.locks = false) {res : Int64 × Gs} (hl : lv_has ls 3 [(0, .ref (sb 13)), (1, .int x1)]) (M : Ws D b0 cy sb db g s H locs) (h : m_X5_mean x1 g = some res) : W p l e ({ frames := 2, cells := 0, slots := 0, locals := 46 } : Room) s m args below meth c H locs 0 0 (MQ below (QX (some (.long res.1)) D b0 cy sb db res.2) args s 0 0 (fun q => b0 ≤ q)) (F0 m 0 ls []) := by
  obtain ⟨hx, hb, hml, hown, hts, hK⟩ := id C0
  rw [m_X5_mean] at h
  refine lv_aload_n hx hb dX5_mean_0 rfl (lv_at hl 0 rfl) ?_
  refine lv_iload_n hx hb dX5_mean_1 rfl (lv_at hl 1 rfl) ?_
  obtain ⟨x_2, hc_1, h⟩ := bnd_s h
  refine kV (As := [.int x1]) (rest := []) (stk := [.int x_2]) (val := (some (.int x_2))) (c1 := 0) (s1 := 0) C0 M (k_X5_isArray hc_1) kw_14_13 Y_X5_isArray (rv_X5 C0 M) ⟨Nat.le_of_ble_eq_true rfl, Nat.le_of_ble_eq_true rfl⟩ rfl hl.1 rfl (Nat.le_of_ble_eq_true rfl) dX5_mean_2 rfl rfl ⟨Nat.le_refl _, Nat.le_refl _⟩ rfl (fun H locs M => ?_)
  refine lv_if_ne (tgt := 13) hx hb dX5_mean_5 (by decide) (fun c_3 => ?_) (fun c_3 => ?_)
  · rw [if_neg c_3] at h
    refine lv_aload_n hx hb dX5_mean_13 rfl (lv_at hl 0 rfl) ?_
    refine gf_RX5_20 C0 M dX5_mean_14 ?_
    refine lv_iload_n hx hb dX5_mean_17 rfl (lv_at hl 1 rfl) ?_
    obtain ⟨hi_4, h⟩ := chk_s h
    refine al_Mkinds C0 M hi_4 dX5_mean_18 ?_
    refine lv_iconst (v := 3) hx hb dX5_mean_19 (by decide) ?_
    refine lv_icmp_lt (tgt := 27) hx hb dX5_mean_20 (by decide) (fun c_5 => ?_) (fun c_5 => ?_)
    · rw [if_pos c_5] at h
      refine lv_aload_n hx hb dX5_mean_27 rfl (lv_at hl 0 rfl) ?_
      refine gf_RX5_38 C0 M dX5_mean_28 ?_
      refine lv_aload_n hx hb dX5_mean_31 rfl (lv_at hl 0 rfl) ?_
      refine gf_RX5_32 C0 M dX5_mean_32 ?_
      refine lv_iload_n hx hb dX5_mean_35 rfl (lv_at hl 1 rfl) ?_
      obtain ⟨hi_6, h⟩ := chk_s h
      refine al_MrowOf C0 M hi_6 dX5_mean_36 ?_
      obtain ⟨hi_7, h⟩ := chk_s h
      refine al_MrowSize C0 M hi_7 dX5_mean_37 ?_
      refine lv_if_ne (tgt := 46) hx hb dX5_mean_38 (by decide) (fun c_8 => ?_) (fun c_8 => ?_)
      · rw [if_neg c_8] at h
        refine lv_iconst (v := 0) hx hb dX5_mean_46 (by decide) ?_
        exact w_X5_mean_J47 C0 hr hk hl M h
      · rw [if_pos c_8] at h
        refine lv_bipush (v := 6) hx hb dX5_mean_41 (by decide) ?_
        refine lv_goto (tgt := 47) hx hb dX5_mean_43 (by decide) ?_
        exact w_X5_mean_J47 C0 hr hk hl M h
    · rw [if_neg c_5] at h
      refine lv_iconst (v := 2) hx hb dX5_mean_23 (by decide) ?_
      refine lv_goto (tgt := 47) hx hb dX5_mean_24 (by decide) ?_
      exact w_X5_mean_J47 C0 hr hk hl M h
  · rw [if_pos c_3] at h
    refine lv_bipush (v := 7) hx hb dX5_mean_8 (by decide) ?_
    refine lv_goto (tgt := 47) hx hb dX5_mean_10 (by decide) ?_
    exact w_X5_mean_J47 C0 hr hk hl M h
theorem k_X5_mean {x1 : Int32} {res : Int64 × Gs} (h : m_X5_mean x1 g = some res) : CM l yX5_mean cX5_mean 3 (some .long) ({ frames := 2, cells := 0, slots := 0, locals := 46 } : Room) [.ref (sb 13), .int x1] (some (.long res.1)) D b0 cy sb db g res.2 := by
  refine Met.ofW (cc := cX5_mean) (maxL := 3) (ret := (some .long)) (by decide) rfl ?_
  intro p e s m args below meth c s₁ B hml hv
  obtain ⟨rfl, hW, hK⟩ := hv
  have hl := lv_entry [.ref (sb 13), .int x1] (n := 3) (Nat.le_of_ble_eq_true rfl)
  rw [lg_entry_eq]
  generalize (lg_sl [.ref (sb 13), .int x1] ++ List.replicate (3 - (lg_sl [.ref (sb 13), .int x1]).length) Slot.unset).toArray = ls at hl ⊢
  have hl : lv_has ls 3 [(0, .ref (sb 13)), (1, .int x1)] := hl
  exact w_X5_mean ⟨B.exec, B.bytes, hml, findClass_of_methodNamed B.named, fun w hw => atoms_spec (ws := Cond.code yX5_mean cX5_mean 3 (some .long) :: wsL_law) B.pre w (List.mem_cons_of_mem _ hw), hK⟩ B.returns B.notSynchronized hl ⟨hW, va_S.rf⟩ h
theorem Y_X5_mean : Yv yX5_mean RX5 cX5_mean 3 (some .long) 1 := ⟨⟨kw_26_13, kw_1_5, by decide +kernel, by decide +kernel, by decide +kernel⟩, kw_26_11, kw_26_12⟩
-- X5_about
def m_X5_about_J217 (xs1 : Int32) (g : Gs) : Option (Int32 × Gs) :=
  (m_X5_yes xs1 g).bind fun (x_19, g_20) => some (x_19, g_20)
def m_X5_about_L95 (x1 : Int32) (g : Gs) : Nat → Int32 → Int32 → Option (Int32)
  | 0, _, _ => none
  | fu + 1, x3, x4 =>
  chk (inb x1 24) (if (g.1 26 0 x1.toNatClampNeg) = (4 : Int32) then ((m_X5_tableRows x1 g).bind fun x_34 => if x_34 ≤ x4 then (some x3) else (chk (inb x1 24) (chk (inb ((g.1 30 0 x1.toNatClampNeg) + x4) 12100) (lett (g.1 38 0 ((g.1 30 0 x1.toNatClampNeg) + x4).toNatClampNeg) fun x_38 => if x_38 = (-1 : Int32) then (lett (x3 + (0 : Int32)) fun x_46 => lett (x4 + 1) fun x_48 => m_X5_about_L95 x1 g fu x_46 x_48) else (chk (inb x_38 13000) (lett (x3 + (g.1 33 0 x_38.toNatClampNeg)) fun x_42 => lett (x4 + 1) fun x_44 => m_X5_about_L95 x1 g fu x_42 x_44)))))) else (some x3))
def m_X5_about_J91 (x1 : Int32) (xs0 : Int32) (g : Gs) : Option (Int32 × Gs) :=
  lett (0 : Int32) fun x_29 => (m_X5_about_L95 x1 g FU xs0 x_29).bind fun x_50 => (m_X5_yes x_50 g).bind fun (x_52, g_53) => some (x_52, g_53)
def m_X5_about (x1 : Int32) (x2 : Int32) (g : Gs) : Option (Int32 × Gs) :=
  (m_X5_within x2.toInt64 (0 : Int64) (8 : Int64) g).bind fun x_2 => if x_2 = 0 then (some ((-2000000001 : Int32), g)) else ((m_X5_isArray x1 g).bind fun x_5 => if x_5 = 0 then ((m_X5_no (7 : Int32) g).bind fun (x_65, g_66) => some (x_65, g_66)) else (if x2 = 0 then (chk (inb x1 24) ((m_X5_yes (g.1 26 0 x1.toNatClampNeg) g).bind fun (x_62, g_63) => some (x_62, g_63))) else (if x2 = (1 : Int32) then (chk (inb x1 24) ((m_X5_yes (g.1 27 0 x1.toNatClampNeg) g).bind fun (x_58, g_59) => some (x_58, g_59))) else (if x2 = (2 : Int32) then (chk (inb x1 24) (if (g.1 26 0 x1.toNatClampNeg) = (4 : Int32) then (m_X5_about_J91 x1 (0 : Int32) g) else (chk (inb x1 24) (chk (inb (g.1 30 0 x1.toNatClampNeg) 13000) (m_X5_about_J91 x1 (g.1 33 0 (g.1 30 0 x1.toNatClampNeg).toNatClampNeg) g))))) else (chk (¬ (2 : Int32) = 0) (lett ((x2 - (3 : Int32)) / (2 : Int32)) fun x_11 => chk (inb x1 24) (if x_11 < (g.1 27 0 x1.toNatClampNeg) then (chk (¬ (2 : Int32) = 0) (if (x2 - x2 / (2 : Int32) * (2 : Int32)) = (1 : Int32) then (chk (inb (((3 : Int32) * x1) + x_11) 72) (m_X5_about_J217 (g.1 28 0 (((3 : Int32) * x1) + x_11).toNatClampNeg) g)) else (chk (inb (((3 : Int32) * x1) + x_11) 72) (m_X5_about_J217 (g.1 29 0 (((3 : Int32) * x1) + x_11).toNatClampNeg) g)))) else ((m_X5_no (9 : Int32) g).bind fun (x_23, g_24) => some (x_23, g_24)))))))))
set_option maxHeartbeats 4000000 in
set_option maxRecDepth 100000 in
theorem w_X5_about_J217 {xs1 : Int32} (C0 : Cx p s m args c cX5_about 6 RX5 D cy) (hr : meth.sig.returnType = (some .int)) (hk : meth.locks = false) {res : Int32 × Gs} (hl : lv_has ls 6 []) (M : Ws D b0 cy sb db g s H locs) (h : m_X5_about_J217 xs1 g = some res) : W p l e ({ frames := 3, cells := 0, slots := 0, locals := 66 } : Room) s m args below meth c H locs 0 0 (MQ below (QX (some (.int res.1)) D b0 cy sb db res.2) args s 0 0 (fun q => b0 ≤ q)) (F0 m 217 ls [.int xs1, .ref (sb 13)]) := by
  obtain ⟨hx, hb, hml, hown, hts, hK⟩ := id C0
  rw [m_X5_about_J217] at h
  obtain ⟨⟨x_19, g_20⟩, hc_18, h⟩ := bnd_s h
  try dsimp only at h
  refine kV (As := [.int xs1]) (rest := []) (stk := [.int x_19]) (val := (some (.int x_19))) (c1 := 0) (s1 := 0) C0 M (k_X5_yes hc_18) kw_6_12 Y_X5_yes (rv_X5 C0 M) ⟨Nat.le_of_ble_eq_true rfl, Nat.le_of_ble_eq_true rfl⟩ rfl hl.1 rfl (Nat.le_of_ble_eq_true rfl) dX5_about_217 rfl rfl ⟨Nat.le_refl _, Nat.le_refl _⟩ rfl (fun H locs M => ?_)
  obtain rfl := Option.some.inj h
  exact rt_i C0 M hr hk dX5_about_220
set_option maxHeartbeats 4000000 in
set_option maxRecDepth 100000 in
theorem w_X5_about_L95 {x1 : Int32} (C0 : Cx p s m args c cX5_about 6 RX5 D cy) (hr : meth.sig.returnType = (some .int)) (hk : meth.locks = false) {res : Int32 × Gs} {q : Int32} (kk : ∀ (x3 : Int32) (H : Heap) (locs : List Loc) (ls : Array Slot), q = x3 → lv_has ls 6 [(0, .ref (sb 13)), (3, .int x3)] → Ws D b0 cy sb db g s H locs → W p l e ({ frames := 3, cells := 0, slots := 0, locals := 66 } : Room) s m args below meth c H locs 0 0 (MQ below (QX (some (.int res.1)) D b0 cy sb db res.2) args s 0 0 (fun q => b0 ≤ q)) (F0 m 157 ls [])) : ∀ (fu : Nat) (x3 : Int32) (x4 : Int32) (H : Heap) (locs : List Loc) (ls : Array Slot), lv_has ls 6 [(0, .ref (sb 13)), (1, .int x1), (3, .int x3), (4, .int x4)] → Ws D b0 cy sb db g s H locs → m_X5_about_L95 x1 g fu x3 x4 = some q → W p l e ({ frames := 3, cells := 0, slots := 0, locals := 66 } : Room) s m args below meth c H locs 0 0 (MQ below (QX (some (.int res.1)) D b0 cy sb db res.2) args s 0 0 (fun q => b0 ≤ q)) (F0 m 95 ls []) := by
  obtain ⟨hx, hb, hml, hown, hts, hK⟩ := id C0
  intro fu
  induction fu with
  | zero =>
    intro x3 x4 H locs ls hl M h
    cases h
  | succ fu ih =>
    intro x3 x4 H locs ls hl M h
    rw [m_X5_about_L95] at h
    refine lv_aload_n hx hb dX5_about_95 rfl (lv_at hl 0 rfl) ?_
    refine gf_RX5_20 C0 M dX5_about_96 ?_
    refine lv_iload_n hx hb dX5_about_99 rfl (lv_at hl 1 rfl) ?_
    obtain ⟨hi_31, h⟩ := chk_s h
    refine al_Mkinds C0 M hi_31 dX5_about_100 ?_
    refine lv_iconst (v := 4) hx hb dX5_about_101 (by decide) ?_
    refine lv_icmp_ne (tgt := 157) hx hb dX5_about_102 (by decide) (fun c_32 => ?_) (fun c_32 => ?_)
    · rw [if_neg c_32] at h
      exact kk _ _ _ _ (Option.some.inj h).symm (lv_sub hl [0, 2] rfl) M
    · rw [if_pos c_32] at h
      refine lv_iload hx hb dX5_about_105 (lv_at hl 3 rfl) ?_
      refine lv_aload_n hx hb dX5_about_107 rfl (lv_at hl 0 rfl) ?_
      refine lv_iload_n hx hb dX5_about_108 rfl (lv_at hl 1 rfl) ?_
      obtain ⟨x_34, hc_33, h⟩ := bnd_s h
      refine kV (As := [.int x1]) (rest := [.int x4]) (stk := [.int x_34, .int x4]) (val := (some (.int x_34))) (c1 := 0) (s1 := 0) C0 M (k_X5_tableRows hc_33) kw_19_1 Y_X5_tableRows (rv_X5 C0 M) ⟨Nat.le_of_ble_eq_true rfl, Nat.le_of_ble_eq_true rfl⟩ rfl hl.1 rfl (Nat.le_of_ble_eq_true rfl) dX5_about_109 rfl rfl ⟨Nat.le_refl _, Nat.le_refl _⟩ rfl (fun H locs M => ?_)
      refine lv_icmp_ge (tgt := 157) hx hb dX5_about_112 (by decide) (fun c_35 => ?_) (fun c_35 => ?_)
      · rw [if_pos c_35] at h
        exact kk _ _ _ _ (Option.some.inj h).symm (lv_sub hl [0, 2] rfl) M
      · rw [if_neg c_35] at h
        refine lv_aload_n hx hb dX5_about_115 rfl (lv_at hl 0 rfl) ?_
        refine gf_RX5_50 C0 M dX5_about_116 ?_
        refine lv_aload_n hx hb dX5_about_119 rfl (lv_at hl 0 rfl) ?_
        refine gf_RX5_32 C0 M dX5_about_120 ?_
        refine lv_iload_n hx hb dX5_about_123 rfl (lv_at hl 1 rfl) ?_
        obtain ⟨hi_36, h⟩ := chk_s h
        refine al_MrowOf C0 M hi_36 dX5_about_124 ?_
        refine lv_iload hx hb dX5_about_125 (lv_at hl 3 rfl) ?_
        refine lv_iadd hx hb dX5_about_127 ?_
        obtain ⟨hi_37, h⟩ := chk_s h
        refine al_Mslot C0 M hi_37 dX5_about_128 ?_
        obtain ⟨x_38, hn_39, h⟩ := lett_s h
        refine nm_i hn_39 ?_
        refine lv_istore (lv' := [(5, .int x_38), (0, .ref (sb 13)), (1, .int x1), (3, .int x3), (4, .int x4)]) hx hb dX5_about_129 hl (by decide) rfl (fun ls hl => ?_)
        refine lv_iload_n hx hb dX5_about_131 rfl (lv_at hl 3 rfl) ?_
        refine lv_iload hx hb dX5_about_132 (lv_at hl 0 rfl) ?_
        refine lv_iconst (v := -1) hx hb dX5_about_134 (by decide) ?_
        refine lv_icmp_ne (tgt := 142) hx hb dX5_about_135 (by decide) (fun c_40 => ?_) (fun c_40 => ?_)
        · rw [if_neg c_40] at h
          refine lv_aload_n hx hb dX5_about_142 rfl (lv_at hl 1 rfl) ?_
          refine gf_RX5_38 C0 M dX5_about_143 ?_
          refine lv_iload hx hb dX5_about_146 (lv_at hl 0 rfl) ?_
          obtain ⟨hi_41, h⟩ := chk_s h
          refine al_MrowSize C0 M hi_41 dX5_about_148 ?_
          refine lv_iadd hx hb dX5_about_149 ?_
          obtain ⟨x_42, hn_43, h⟩ := lett_s h
          refine nm_i hn_43 ?_
          refine lv_istore_n (lv' := [(3, .int x_42), (5, .int x_38), (0, .ref (sb 13)), (1, .int x1), (4, .int x4)]) hx hb dX5_about_150 rfl hl (by decide) rfl (fun ls hl => ?_)
          obtain ⟨x_44, hn_45, h⟩ := lett_s h
          refine lv_iinc (v := x_44) (lv' := [(4, .int x_44), (3, .int x_42), (5, .int x_38), (0, .ref (sb 13)), (1, .int x1)]) hx hb dX5_about_151 hl (k := 4) rfl (by rw [hn_45]; rfl) (by decide) rfl (fun ls hl => ?_)
          refine lv_goto (tgt := 95) hx hb dX5_about_154 (by decide) ?_
          exact ih _ _ _ _ _ (lv_sub hl [3, 4, 1, 0] rfl) M h
        · rw [if_pos c_40] at h
          refine lv_iconst (v := 0) hx hb dX5_about_138 (by decide) ?_
          refine lv_goto (tgt := 149) hx hb dX5_about_139 (by decide) ?_
          refine lv_iadd hx hb dX5_about_149 ?_
          obtain ⟨x_46, hn_47, h⟩ := lett_s h
          refine nm_i hn_47 ?_
          refine lv_istore_n (lv' := [(3, .int x_46), (5, .int x_38), (0, .ref (sb 13)), (1, .int x1), (4, .int x4)]) hx hb dX5_about_150 rfl hl (by decide) rfl (fun ls hl => ?_)
          obtain ⟨x_48, hn_49, h⟩ := lett_s h
          refine lv_iinc (v := x_48) (lv' := [(4, .int x_48), (3, .int x_46), (5, .int x_38), (0, .ref (sb 13)), (1, .int x1)]) hx hb dX5_about_151 hl (k := 4) rfl (by rw [hn_49]; rfl) (by decide) rfl (fun ls hl => ?_)
          refine lv_goto (tgt := 95) hx hb dX5_about_154 (by decide) ?_
          exact ih _ _ _ _ _ (lv_sub hl [3, 4, 1, 0] rfl) M h
set_option maxHeartbeats 4000000 in
set_option maxRecDepth 100000 in
theorem w_X5_about_J91 {x1 : Int32} {xs0 : Int32} (C0 : Cx p s m args c cX5_about 6 RX5 D cy) (hr : meth.sig.returnType = (some .int)) (hk : meth.locks = false) {res : Int32 × Gs} (hl : lv_has ls 6 [(0, .ref (sb 13)), (1, .int x1)]) (M : Ws D b0 cy sb db g s H locs) (h : m_X5_about_J91 x1 xs0 g = some res) : W p l e ({ frames := 3, cells := 0, slots := 0, locals := 66 } : Room) s m args below meth c H locs 0 0 (MQ below (QX (some (.int res.1)) D b0 cy sb db res.2) args s 0 0 (fun q => b0 ≤ q)) (F0 m 91 ls [.int xs0]) := by
  obtain ⟨hx, hb, hml, hown, hts, hK⟩ := id C0
  rw [m_X5_about_J91] at h
  refine lv_istore_n (lv' := [(3, .int xs0), (0, .ref (sb 13)), (1, .int x1)]) hx hb dX5_about_91 rfl hl (by decide) rfl (fun ls hl => ?_)
  refine lv_iconst (v := 0) hx hb dX5_about_92 (by decide) ?_
  obtain ⟨x_29, hn_30, h⟩ := lett_s h
  refine nm_i hn_30 ?_
  refine lv_istore (lv' := [(4, .int x_29), (3, .int xs0), (0, .ref (sb 13)), (1, .int x1)]) hx hb dX5_about_93 hl (by decide) rfl (fun ls hl => ?_)
  obtain ⟨q_54, hq_55, h⟩ := bnd_s h
  refine w_X5_about_L95 C0 hr hk (q := q_54) (fun x_50 H locs ls hq hl M => ?_) FU _ _ _ _ _ (lv_sub hl [2, 3, 1, 0] rfl) M hq_55
  subst q_54
  try dsimp only at h
  refine lv_aload_n hx hb dX5_about_157 rfl (lv_at hl 0 rfl) ?_
  refine lv_iload_n hx hb dX5_about_158 rfl (lv_at hl 1 rfl) ?_
  obtain ⟨⟨x_52, g_53⟩, hc_51, h⟩ := bnd_s h
  try dsimp only at h
  refine kV (As := [.int x_50]) (rest := []) (stk := [.int x_52]) (val := (some (.int x_52))) (c1 := 0) (s1 := 0) C0 M (k_X5_yes hc_51) kw_6_12 Y_X5_yes (rv_X5 C0 M) ⟨Nat.le_of_ble_eq_true rfl, Nat.le_of_ble_eq_true rfl⟩ rfl hl.1 rfl (Nat.le_of_ble_eq_true rfl) dX5_about_159 rfl rfl ⟨Nat.le_refl _, Nat.le_refl _⟩ rfl (fun H locs M => ?_)
  obtain rfl := Option.some.inj h
  exact rt_i C0 M hr hk dX5_about_162
set_option maxHeartbeats 4000000 in
set_option maxRecDepth 100000 in
theorem w_X5_about {x1 : Int32} {x2 : Int32} (C0 : Cx p s m args c cX5_about 6 RX5 D cy) (hr : meth.sig.returnType = (some .int)) (hk : meth.locks = false) {res : Int32 × Gs} (hl : lv_has ls 6 [(0, .ref (sb 13)), (1, .int x1), (2, .int x2)]) (M : Ws D b0 cy sb db g s H locs) (h : m_X5_about x1 x2 g = some res) : W p l e ({ frames := 3, cells := 0, slots := 0, locals := 66 } : Room) s m args below meth c H locs 0 0 (MQ below (QX (some (.int res.1)) D b0 cy sb db res.2) args s 0 0 (fun q => b0 ≤ q)) (F0 m 0 ls []) := by
  obtain ⟨hx, hb, hml, hown, hts, hK⟩ := id C0
  rw [m_X5_about] at h
  refine lv_iload_n hx hb dX5_about_0 rfl (lv_at hl 2 rfl) ?_
  refine lv_i2l hx hb dX5_about_1 rfl ?_
  refine lv_lconst (v := 0) hx hb dX5_about_2 (by decide) ?_
  refine lv_ldc2 (v := 8) hx hb hown (hts _ kw_27_3) dX5_about_3 ?_
  obtain ⟨x_2, hc_1, h⟩ := bnd_s h
  refine kS (As := [.long x2.toInt64, .long (0 : Int64), .long (8 : Int64)]) (rest := []) (stk := [.int x_2]) (val := (some (.int x_2))) (c1 := 0) (s1 := 0) C0 M (k_X5_within hc_1) kw_11_22 Y_X5_within ⟨Nat.le_of_ble_eq_true rfl, Nat.le_of_ble_eq_true rfl⟩ rfl hl.1 rfl (Nat.le_of_ble_eq_true rfl) dX5_about_6 rfl rfl ⟨Nat.le_refl _, Nat.le_refl _⟩ rfl (fun H locs M => ?_)
  refine lv_if_ne (tgt := 15) hx hb dX5_about_9 (by decide) (fun c_3 => ?_) (fun c_3 => ?_)
  · rw [if_neg c_3] at h
    refine lv_aload_n hx hb dX5_about_15 rfl (lv_at hl 0 rfl) ?_
    refine lv_iload_n hx hb dX5_about_16 rfl (lv_at hl 1 rfl) ?_
    obtain ⟨x_5, hc_4, h⟩ := bnd_s h
    refine kV (As := [.int x1]) (rest := []) (stk := [.int x_5]) (val := (some (.int x_5))) (c1 := 0) (s1 := 0) C0 M (k_X5_isArray hc_4) kw_14_13 Y_X5_isArray (rv_X5 C0 M) ⟨Nat.le_of_ble_eq_true rfl, Nat.le_of_ble_eq_true rfl⟩ rfl hl.1 rfl (Nat.le_of_ble_eq_true rfl) dX5_about_17 rfl rfl ⟨Nat.le_refl _, Nat.le_refl _⟩ rfl (fun H locs M => ?_)
    refine lv_if_ne (tgt := 30) hx hb dX5_about_20 (by decide) (fun c_6 => ?_) (fun c_6 => ?_)
    · rw [if_neg c_6] at h
      refine lv_iload_n hx hb dX5_about_30 rfl (lv_at hl 2 rfl) ?_
      refine lv_if_ne (tgt := 45) hx hb dX5_about_31 (by decide) (fun c_7 => ?_) (fun c_7 => ?_)
      · rw [if_neg c_7] at h
        refine lv_iload_n hx hb dX5_about_45 rfl (lv_at hl 2 rfl) ?_
        refine lv_iconst (v := 1) hx hb dX5_about_46 (by decide) ?_
        refine lv_icmp_ne (tgt := 61) hx hb dX5_about_47 (by decide) (fun c_8 => ?_) (fun c_8 => ?_)
        · rw [if_neg c_8] at h
          refine lv_iload_n hx hb dX5_about_61 rfl (lv_at hl 2 rfl) ?_
          refine lv_iconst (v := 2) hx hb dX5_about_62 (by decide) ?_
          refine lv_icmp_ne (tgt := 163) hx hb dX5_about_63 (by decide) (fun c_9 => ?_) (fun c_9 => ?_)
          · rw [if_neg c_9] at h
            refine lv_iload_n hx hb dX5_about_163 rfl (lv_at hl 2 rfl) ?_
            refine lv_iconst (v := 3) hx hb dX5_about_164 (by decide) ?_
            refine lv_isub hx hb dX5_about_165 ?_
            refine lv_iconst (v := 2) hx hb dX5_about_166 (by decide) ?_
            obtain ⟨hd_10, h⟩ := chk_s h
            refine lv_idiv hx hb dX5_about_167 hd_10 ?_
            obtain ⟨x_11, hn_12, h⟩ := lett_s h
            refine nm_i hn_12 ?_
            refine lv_istore_n (lv' := [(3, .int x_11), (0, .ref (sb 13)), (1, .int x1), (2, .int x2)]) hx hb dX5_about_168 rfl hl (by decide) rfl (fun ls hl => ?_)
            refine lv_iload_n hx hb dX5_about_169 rfl (lv_at hl 0 rfl) ?_
            refine lv_aload_n hx hb dX5_about_170 rfl (lv_at hl 1 rfl) ?_
            refine gf_RX5_23 C0 M dX5_about_171 ?_
            refine lv_iload_n hx hb dX5_about_174 rfl (lv_at hl 2 rfl) ?_
            obtain ⟨hi_13, h⟩ := chk_s h
            refine al_Mranks C0 M hi_13 dX5_about_175 ?_
            refine lv_icmp_lt (tgt := 186) hx hb dX5_about_176 (by decide) (fun c_14 => ?_) (fun c_14 => ?_)
            · rw [if_pos c_14] at h
              refine lv_aload_n hx hb dX5_about_186 rfl (lv_at hl 1 rfl) ?_
              refine lv_iload_n hx hb dX5_about_187 rfl (lv_at hl 3 rfl) ?_
              refine lv_iconst (v := 2) hx hb dX5_about_188 (by decide) ?_
              obtain ⟨hd_15, h⟩ := chk_s h
              refine lv_irem hx hb dX5_about_189 hd_15 ?_
              refine lv_iconst (v := 1) hx hb dX5_about_190 (by decide) ?_
              refine lv_icmp_ne (tgt := 207) hx hb dX5_about_191 (by decide) (fun c_16 => ?_) (fun c_16 => ?_)
              · rw [if_neg c_16] at h
                refine lv_aload_n hx hb dX5_about_207 rfl (lv_at hl 1 rfl) ?_
                refine gf_RX5_29 C0 M dX5_about_208 ?_
                refine lv_iconst (v := 3) hx hb dX5_about_211 (by decide) ?_
                refine lv_iload_n hx hb dX5_about_212 rfl (lv_at hl 2 rfl) ?_
                refine lv_imul hx hb dX5_about_213 ?_
                refine lv_iload_n hx hb dX5_about_214 rfl (lv_at hl 0 rfl) ?_
                refine lv_iadd hx hb dX5_about_215 ?_
                obtain ⟨hi_17, h⟩ := chk_s h
                refine al_Mhighs C0 M hi_17 dX5_about_216 ?_
                exact w_X5_about_J217 C0 hr hk (lv_sub hl [] rfl) M h
              · rw [if_pos c_16] at h
                refine lv_aload_n hx hb dX5_about_194 rfl (lv_at hl 1 rfl) ?_
                refine gf_RX5_26 C0 M dX5_about_195 ?_
                refine lv_iconst (v := 3) hx hb dX5_about_198 (by decide) ?_
                refine lv_iload_n hx hb dX5_about_199 rfl (lv_at hl 2 rfl) ?_
                refine lv_imul hx hb dX5_about_200 ?_
                refine lv_iload_n hx hb dX5_about_201 rfl (lv_at hl 0 rfl) ?_
                refine lv_iadd hx hb dX5_about_202 ?_
                obtain ⟨hi_21, h⟩ := chk_s h
                refine al_Mlows C0 M hi_21 dX5_about_203 ?_
                refine lv_goto (tgt := 217) hx hb dX5_about_204 (by decide) ?_
                exact w_X5_about_J217 C0 hr hk (lv_sub hl [] rfl) M h
            · rw [if_neg c_14] at h
              refine lv_aload_n hx hb dX5_about_179 rfl (lv_at hl 1 rfl) ?_
              refine lv_bipush (v := 9) hx hb dX5_about_180 (by decide) ?_
              obtain ⟨⟨x_23, g_24⟩, hc_22, h⟩ := bnd_s h
              try dsimp only at h
              refine kV (As := [.int (9 : Int32)]) (rest := []) (stk := [.int x_23]) (val := (some (.int x_23))) (c1 := 0) (s1 := 0) C0 M (k_X5_no hc_22) kw_6_8 Y_X5_no (rv_X5 C0 M) ⟨Nat.le_of_ble_eq_true rfl, Nat.le_of_ble_eq_true rfl⟩ rfl hl.1 rfl (Nat.le_of_ble_eq_true rfl) dX5_about_182 rfl rfl ⟨Nat.le_refl _, Nat.le_refl _⟩ rfl (fun H locs M => ?_)
              obtain rfl := Option.some.inj h
              exact rt_i C0 M hr hk dX5_about_185
          · rw [if_pos c_9] at h
            refine lv_aload_n hx hb dX5_about_66 rfl (lv_at hl 0 rfl) ?_
            refine gf_RX5_20 C0 M dX5_about_67 ?_
            refine lv_iload_n hx hb dX5_about_70 rfl (lv_at hl 1 rfl) ?_
            obtain ⟨hi_25, h⟩ := chk_s h
            refine al_Mkinds C0 M hi_25 dX5_about_71 ?_
            refine lv_iconst (v := 4) hx hb dX5_about_72 (by decide) ?_
            refine lv_icmp_ne (tgt := 80) hx hb dX5_about_73 (by decide) (fun c_26 => ?_) (fun c_26 => ?_)
            · rw [if_neg c_26] at h
              refine lv_aload_n hx hb dX5_about_80 rfl (lv_at hl 0 rfl) ?_
              refine gf_RX5_38 C0 M dX5_about_81 ?_
              refine lv_aload_n hx hb dX5_about_84 rfl (lv_at hl 0 rfl) ?_
              refine gf_RX5_32 C0 M dX5_about_85 ?_
              refine lv_iload_n hx hb dX5_about_88 rfl (lv_at hl 1 rfl) ?_
              obtain ⟨hi_27, h⟩ := chk_s h
              refine al_MrowOf C0 M hi_27 dX5_about_89 ?_
              obtain ⟨hi_28, h⟩ := chk_s h
              refine al_MrowSize C0 M hi_28 dX5_about_90 ?_
              exact w_X5_about_J91 C0 hr hk (lv_sub hl [0, 1] rfl) M h
            · rw [if_pos c_26] at h
              refine lv_iconst (v := 0) hx hb dX5_about_76 (by decide) ?_
              refine lv_goto (tgt := 91) hx hb dX5_about_77 (by decide) ?_
              exact w_X5_about_J91 C0 hr hk (lv_sub hl [0, 1] rfl) M h
        · rw [if_pos c_8] at h
          refine lv_aload_n hx hb dX5_about_50 rfl (lv_at hl 0 rfl) ?_
          refine lv_aload_n hx hb dX5_about_51 rfl (lv_at hl 0 rfl) ?_
          refine gf_RX5_23 C0 M dX5_about_52 ?_
          refine lv_iload_n hx hb dX5_about_55 rfl (lv_at hl 1 rfl) ?_
          obtain ⟨hi_56, h⟩ := chk_s h
          refine al_Mranks C0 M hi_56 dX5_about_56 ?_
          obtain ⟨⟨x_58, g_59⟩, hc_57, h⟩ := bnd_s h
          try dsimp only at h
          refine kV (As := [.int (g.1 27 0 x1.toNatClampNeg)]) (rest := []) (stk := [.int x_58]) (val := (some (.int x_58))) (c1 := 0) (s1 := 0) C0 M (k_X5_yes hc_57) kw_6_12 Y_X5_yes (rv_X5 C0 M) ⟨Nat.le_of_ble_eq_true rfl, Nat.le_of_ble_eq_true rfl⟩ rfl hl.1 rfl (Nat.le_of_ble_eq_true rfl) dX5_about_57 rfl rfl ⟨Nat.le_refl _, Nat.le_refl _⟩ rfl (fun H locs M => ?_)
          obtain rfl := Option.some.inj h
          exact rt_i C0 M hr hk dX5_about_60
      · rw [if_pos c_7] at h
        refine lv_aload_n hx hb dX5_about_34 rfl (lv_at hl 0 rfl) ?_
        refine lv_aload_n hx hb dX5_about_35 rfl (lv_at hl 0 rfl) ?_
        refine gf_RX5_20 C0 M dX5_about_36 ?_
        refine lv_iload_n hx hb dX5_about_39 rfl (lv_at hl 1 rfl) ?_
        obtain ⟨hi_60, h⟩ := chk_s h
        refine al_Mkinds C0 M hi_60 dX5_about_40 ?_
        obtain ⟨⟨x_62, g_63⟩, hc_61, h⟩ := bnd_s h
        try dsimp only at h
        refine kV (As := [.int (g.1 26 0 x1.toNatClampNeg)]) (rest := []) (stk := [.int x_62]) (val := (some (.int x_62))) (c1 := 0) (s1 := 0) C0 M (k_X5_yes hc_61) kw_6_12 Y_X5_yes (rv_X5 C0 M) ⟨Nat.le_of_ble_eq_true rfl, Nat.le_of_ble_eq_true rfl⟩ rfl hl.1 rfl (Nat.le_of_ble_eq_true rfl) dX5_about_41 rfl rfl ⟨Nat.le_refl _, Nat.le_refl _⟩ rfl (fun H locs M => ?_)
        obtain rfl := Option.some.inj h
        exact rt_i C0 M hr hk dX5_about_44
    · rw [if_pos c_6] at h
      refine lv_aload_n hx hb dX5_about_23 rfl (lv_at hl 0 rfl) ?_
      refine lv_bipush (v := 7) hx hb dX5_about_24 (by decide) ?_
      obtain ⟨⟨x_65, g_66⟩, hc_64, h⟩ := bnd_s h
      try dsimp only at h
      refine kV (As := [.int (7 : Int32)]) (rest := []) (stk := [.int x_65]) (val := (some (.int x_65))) (c1 := 0) (s1 := 0) C0 M (k_X5_no hc_64) kw_6_8 Y_X5_no (rv_X5 C0 M) ⟨Nat.le_of_ble_eq_true rfl, Nat.le_of_ble_eq_true rfl⟩ rfl hl.1 rfl (Nat.le_of_ble_eq_true rfl) dX5_about_26 rfl rfl ⟨Nat.le_refl _, Nat.le_refl _⟩ rfl (fun H locs M => ?_)
      obtain rfl := Option.some.inj h
      exact rt_i C0 M hr hk dX5_about_29
  · rw [if_pos c_3] at h
    refine lv_ldc (v := -2000000001) hx hb hown (hts _ kw_11_19) dX5_about_12 ?_
    obtain rfl := Option.some.inj h
    exact rt_i C0 M hr hk dX5_about_14
theorem k_X5_about {x1 : Int32} {x2 : Int32} {res : Int32 × Gs} (h : m_X5_about x1 x2 g = some res) : CM l yX5_about cX5_about 6 (some .int) ({ frames := 3, cells := 0, slots := 0, locals := 66 } : Room) [.ref (sb 13), .int x1, .int x2] (some (.int res.1)) D b0 cy sb db g res.2 := by
  refine Met.ofW (cc := cX5_about) (maxL := 6) (ret := (some .int)) (by decide) rfl ?_
  intro p e s m args below meth c s₁ B hml hv
  obtain ⟨rfl, hW, hK⟩ := hv
  have hl := lv_entry [.ref (sb 13), .int x1, .int x2] (n := 6) (Nat.le_of_ble_eq_true rfl)
  rw [lg_entry_eq]
  generalize (lg_sl [.ref (sb 13), .int x1, .int x2] ++ List.replicate (6 - (lg_sl [.ref (sb 13), .int x1, .int x2]).length) Slot.unset).toArray = ls at hl ⊢
  have hl : lv_has ls 6 [(0, .ref (sb 13)), (1, .int x1), (2, .int x2)] := hl
  exact w_X5_about ⟨B.exec, B.bytes, hml, findClass_of_methodNamed B.named, fun w hw => atoms_spec (ws := Cond.code yX5_about cX5_about 6 (some .int) :: wsL_law) B.pre w (List.mem_cons_of_mem _ hw), hK⟩ B.returns B.notSynchronized hl ⟨hW, va_S.rf⟩ h
theorem Y_X5_about : Yv yX5_about RX5 cX5_about 6 (some .int) 2 := ⟨⟨kw_27_2, kw_1_5, by decide +kernel, by decide +kernel, by decide +kernel⟩, kw_27_0, kw_27_1⟩
-- X5_same
def m_X5_same_J16  (g : Gs) : Option (Int32 × Gs) :=
  (m_X5_no (7 : Int32) g).bind fun (x_5, g_6) => some (x_5, g_6)
def m_X5_same_J84 (xs1 : Int32) (g : Gs) : Option (Int32 × Gs) :=
  (m_X5_yes xs1 g).bind fun (x_15, g_16) => some (x_15, g_16)
def m_X5_same_J83  (g : Gs) : Option (Int32 × Gs) :=
  m_X5_same_J84 (0 : Int32) g
def m_X5_same_J43 (x1 : Int32) (x2 : Int32) (g : Gs) : Option (Int32 × Gs) :=
  chk (inb x1 24) (if (g.1 26 0 x1.toNatClampNeg) = (4 : Int32) then (m_X5_same_J83  g) else (chk (inb x2 24) (if (g.1 26 0 x2.toNatClampNeg) = (4 : Int32) then (m_X5_same_J83  g) else (chk (inb x1 24) (chk (inb x2 24) (if (g.1 30 0 x1.toNatClampNeg) = (g.1 30 0 x2.toNatClampNeg) then (m_X5_same_J84 (1 : Int32) g) else (m_X5_same_J83  g)))))))
def m_X5_same_L110 (x1 : Int32) (x2 : Int32) (g : Gs) : Nat → Int32 → Int32 → Option (Int32)
  | 0, _, _ => none
  | fu + 1, x3, x4 =>
  if x3 = 0 then (some x3) else ((m_X5_tableRows x1 g).bind fun x_33 => if x_33 ≤ x4 then (some x3) else (chk (inb x1 24) (chk (inb ((g.1 30 0 x1.toNatClampNeg) + x4) 12100) (chk (inb x2 24) (chk (inb ((g.1 30 0 x2.toNatClampNeg) + x4) 12100) (if (g.1 38 0 ((g.1 30 0 x1.toNatClampNeg) + x4).toNatClampNeg) = (g.1 38 0 ((g.1 30 0 x2.toNatClampNeg) + x4).toNatClampNeg) then (lett (1 : Int32) fun x_44 => lett (x4 + 1) fun x_46 => m_X5_same_L110 x1 x2 g fu x_44 x_46) else (lett (0 : Int32) fun x_40 => lett (x4 + 1) fun x_42 => m_X5_same_L110 x1 x2 g fu x_40 x_42)))))))
def m_X5_same_J177 (xs1 : Int32) (g : Gs) : Option (Int32 × Gs) :=
  (m_X5_yes xs1 g).bind fun (x_51, g_52) => some (x_51, g_52)
def m_X5_same_J106 (x1 : Int32) (x2 : Int32) (xs0 : Int32) (g : Gs) : Option (Int32 × Gs) :=
  lett (0 : Int32) fun x_29 => (m_X5_same_L110 x1 x2 g FU xs0 x_29).bind fun x_48 => if x_48 = 0 then (m_X5_same_J177 (0 : Int32) g) else (m_X5_same_J177 (1 : Int32) g)
def m_X5_same (x1 : Int32) (x2 : Int32) (g : Gs) : Option (Int32 × Gs) :=
  (m_X5_isArray x1 g).bind fun x_2 => if x_2 = 0 then (m_X5_same_J16  g) else ((m_X5_isArray x2 g).bind fun x_8 => if x_8 = 0 then (m_X5_same_J16  g) else (chk (inb x1 24) (if (g.1 26 0 x1.toNatClampNeg) = (4 : Int32) then (chk (inb x2 24) (if (g.1 26 0 x2.toNatClampNeg) = (4 : Int32) then ((m_X5_tableRows x1 g).bind fun x_25 => (m_X5_tableRows x2 g).bind fun x_27 => if x_25 = x_27 then (m_X5_same_J106 x1 x2 (1 : Int32) g) else (m_X5_same_J106 x1 x2 (0 : Int32) g)) else (m_X5_same_J43 x1 x2 g))) else (m_X5_same_J43 x1 x2 g))))
set_option maxHeartbeats 4000000 in
set_option maxRecDepth 100000 in
theorem w_X5_same_J16  (C0 : Cx p s m args c cX5_same 5 RX5 D cy) (hr : meth.sig.returnType = (some .int)) (hk : meth.locks = false) {res : Int32 × Gs} (hl : lv_has ls 5 [(0, .ref (sb 13))]) (M : Ws D b0 cy sb db g s H locs) (h : m_X5_same_J16  g = some res) : W p l e ({ frames := 3, cells := 0, slots := 0, locals := 66 } : Room) s m args below meth c H locs 0 0 (MQ below (QX (some (.int res.1)) D b0 cy sb db res.2) args s 0 0 (fun q => b0 ≤ q)) (F0 m 16 ls []) := by
  obtain ⟨hx, hb, hml, hown, hts, hK⟩ := id C0
  rw [m_X5_same_J16] at h
  refine lv_aload_n hx hb dX5_same_16 rfl (lv_at hl 0 rfl) ?_
  refine lv_bipush (v := 7) hx hb dX5_same_17 (by decide) ?_
  obtain ⟨⟨x_5, g_6⟩, hc_4, h⟩ := bnd_s h
  try dsimp only at h
  refine kV (As := [.int (7 : Int32)]) (rest := []) (stk := [.int x_5]) (val := (some (.int x_5))) (c1 := 0) (s1 := 0) C0 M (k_X5_no hc_4) kw_6_8 Y_X5_no (rv_X5 C0 M) ⟨Nat.le_of_ble_eq_true rfl, Nat.le_of_ble_eq_true rfl⟩ rfl hl.1 rfl (Nat.le_of_ble_eq_true rfl) dX5_same_19 rfl rfl ⟨Nat.le_refl _, Nat.le_refl _⟩ rfl (fun H locs M => ?_)
  obtain rfl := Option.some.inj h
  exact rt_i C0 M hr hk dX5_same_22
set_option maxHeartbeats 4000000 in
set_option maxRecDepth 100000 in
theorem w_X5_same_J84 {xs1 : Int32} (C0 : Cx p s m args c cX5_same 5 RX5 D cy) (hr : meth.sig.returnType = (some .int)) (hk : meth.locks = false) {res : Int32 × Gs} (hl : lv_has ls 5 []) (M : Ws D b0 cy sb db g s H locs) (h : m_X5_same_J84 xs1 g = some res) : W p l e ({ frames := 3, cells := 0, slots := 0, locals := 66 } : Room) s m args below meth c H locs 0 0 (MQ below (QX (some (.int res.1)) D b0 cy sb db res.2) args s 0 0 (fun q => b0 ≤ q)) (F0 m 84 ls [.int xs1, .ref (sb 13)]) := by
  obtain ⟨hx, hb, hml, hown, hts, hK⟩ := id C0
  rw [m_X5_same_J84] at h
  obtain ⟨⟨x_15, g_16⟩, hc_14, h⟩ := bnd_s h
  try dsimp only at h
  refine kV (As := [.int xs1]) (rest := []) (stk := [.int x_15]) (val := (some (.int x_15))) (c1 := 0) (s1 := 0) C0 M (k_X5_yes hc_14) kw_6_12 Y_X5_yes (rv_X5 C0 M) ⟨Nat.le_of_ble_eq_true rfl, Nat.le_of_ble_eq_true rfl⟩ rfl hl.1 rfl (Nat.le_of_ble_eq_true rfl) dX5_same_84 rfl rfl ⟨Nat.le_refl _, Nat.le_refl _⟩ rfl (fun H locs M => ?_)
  obtain rfl := Option.some.inj h
  exact rt_i C0 M hr hk dX5_same_87
set_option maxHeartbeats 4000000 in
set_option maxRecDepth 100000 in
theorem w_X5_same_J83  (C0 : Cx p s m args c cX5_same 5 RX5 D cy) (hr : meth.sig.returnType = (some .int)) (hk : meth.locks = false) {res : Int32 × Gs} (hl : lv_has ls 5 []) (M : Ws D b0 cy sb db g s H locs) (h : m_X5_same_J83  g = some res) : W p l e ({ frames := 3, cells := 0, slots := 0, locals := 66 } : Room) s m args below meth c H locs 0 0 (MQ below (QX (some (.int res.1)) D b0 cy sb db res.2) args s 0 0 (fun q => b0 ≤ q)) (F0 m 83 ls [.ref (sb 13)]) := by
  obtain ⟨hx, hb, hml, hown, hts, hK⟩ := id C0
  rw [m_X5_same_J83] at h
  refine lv_iconst (v := 0) hx hb dX5_same_83 (by decide) ?_
  exact w_X5_same_J84 C0 hr hk hl M h
set_option maxHeartbeats 4000000 in
set_option maxRecDepth 100000 in
theorem w_X5_same_J43 {x1 : Int32} {x2 : Int32} (C0 : Cx p s m args c cX5_same 5 RX5 D cy) (hr : meth.sig.returnType = (some .int)) (hk : meth.locks = false) {res : Int32 × Gs} (hl : lv_has ls 5 [(0, .ref (sb 13)), (1, .int x1), (2, .int x2)]) (M : Ws D b0 cy sb db g s H locs) (h : m_X5_same_J43 x1 x2 g = some res) : W p l e ({ frames := 3, cells := 0, slots := 0, locals := 66 } : Room) s m args below meth c H locs 0 0 (MQ below (QX (some (.int res.1)) D b0 cy sb db res.2) args s 0 0 (fun q => b0 ≤ q)) (F0 m 43 ls []) := by
  obtain ⟨hx, hb, hml, hown, hts, hK⟩ := id C0
  rw [m_X5_same_J43] at h
  refine lv_aload_n hx hb dX5_same_43 rfl (lv_at hl 0 rfl) ?_
  refine lv_aload_n hx hb dX5_same_44 rfl (lv_at hl 0 rfl) ?_
  refine gf_RX5_20 C0 M dX5_same_45 ?_
  refine lv_iload_n hx hb dX5_same_48 rfl (lv_at hl 1 rfl) ?_
  obtain ⟨hi_12, h⟩ := chk_s h
  refine al_Mkinds C0 M hi_12 dX5_same_49 ?_
  refine lv_iconst (v := 4) hx hb dX5_same_50 (by decide) ?_
  refine lv_icmp_eq (tgt := 83) hx hb dX5_same_51 (by decide) (fun c_13 => ?_) (fun c_13 => ?_)
  · rw [if_pos c_13] at h
    exact w_X5_same_J83 C0 hr hk (lv_sub hl [] rfl) M h
  · rw [if_neg c_13] at h
    refine lv_aload_n hx hb dX5_same_54 rfl (lv_at hl 0 rfl) ?_
    refine gf_RX5_20 C0 M dX5_same_55 ?_
    refine lv_iload_n hx hb dX5_same_58 rfl (lv_at hl 2 rfl) ?_
    obtain ⟨hi_17, h⟩ := chk_s h
    refine al_Mkinds C0 M hi_17 dX5_same_59 ?_
    refine lv_iconst (v := 4) hx hb dX5_same_60 (by decide) ?_
    refine lv_icmp_eq (tgt := 83) hx hb dX5_same_61 (by decide) (fun c_18 => ?_) (fun c_18 => ?_)
    · rw [if_pos c_18] at h
      exact w_X5_same_J83 C0 hr hk (lv_sub hl [] rfl) M h
    · rw [if_neg c_18] at h
      refine lv_aload_n hx hb dX5_same_64 rfl (lv_at hl 0 rfl) ?_
      refine gf_RX5_32 C0 M dX5_same_65 ?_
      refine lv_iload_n hx hb dX5_same_68 rfl (lv_at hl 1 rfl) ?_
      obtain ⟨hi_19, h⟩ := chk_s h
      refine al_MrowOf C0 M hi_19 dX5_same_69 ?_
      refine lv_aload_n hx hb dX5_same_70 rfl (lv_at hl 0 rfl) ?_
      refine gf_RX5_32 C0 M dX5_same_71 ?_
      refine lv_iload_n hx hb dX5_same_74 rfl (lv_at hl 2 rfl) ?_
      obtain ⟨hi_20, h⟩ := chk_s h
      refine al_MrowOf C0 M hi_20 dX5_same_75 ?_
      refine lv_icmp_ne (tgt := 83) hx hb dX5_same_76 (by decide) (fun c_21 => ?_) (fun c_21 => ?_)
      · rw [if_neg c_21] at h
        exact w_X5_same_J83 C0 hr hk (lv_sub hl [] rfl) M h
      · rw [if_pos c_21] at h
        refine lv_iconst (v := 1) hx hb dX5_same_79 (by decide) ?_
        refine lv_goto (tgt := 84) hx hb dX5_same_80 (by decide) ?_
        exact w_X5_same_J84 C0 hr hk (lv_sub hl [] rfl) M h
set_option maxHeartbeats 4000000 in
set_option maxRecDepth 100000 in
theorem w_X5_same_L110 {x1 : Int32} {x2 : Int32} (C0 : Cx p s m args c cX5_same 5 RX5 D cy) (hr : meth.sig.returnType = (some .int)) (hk : meth.locks = false) {res : Int32 × Gs} {q : Int32} (kk : ∀ (x3 : Int32) (H : Heap) (locs : List Loc) (ls : Array Slot), q = x3 → lv_has ls 5 [(0, .ref (sb 13)), (3, .int x3)] → Ws D b0 cy sb db g s H locs → W p l e ({ frames := 3, cells := 0, slots := 0, locals := 66 } : Room) s m args below meth c H locs 0 0 (MQ below (QX (some (.int res.1)) D b0 cy sb db res.2) args s 0 0 (fun q => b0 ≤ q)) (F0 m 167 ls [])) : ∀ (fu : Nat) (x3 : Int32) (x4 : Int32) (H : Heap) (locs : List Loc) (ls : Array Slot), lv_has ls 5 [(0, .ref (sb 13)), (1, .int x1), (2, .int x2), (3, .int x3), (4, .int x4)] → Ws D b0 cy sb db g s H locs → m_X5_same_L110 x1 x2 g fu x3 x4 = some q → W p l e ({ frames := 3, cells := 0, slots := 0, locals := 66 } : Room) s m args below meth c H locs 0 0 (MQ below (QX (some (.int res.1)) D b0 cy sb db res.2) args s 0 0 (fun q => b0 ≤ q)) (F0 m 110 ls []) := by
  obtain ⟨hx, hb, hml, hown, hts, hK⟩ := id C0
  intro fu
  induction fu with
  | zero =>
    intro x3 x4 H locs ls hl M h
    cases h
  | succ fu ih =>
    intro x3 x4 H locs ls hl M h
    rw [m_X5_same_L110] at h
    refine lv_iload_n hx hb dX5_same_110 rfl (lv_at hl 3 rfl) ?_
    refine lv_if_eq (tgt := 167) hx hb dX5_same_111 (by decide) (fun c_31 => ?_) (fun c_31 => ?_)
    · rw [if_pos c_31] at h
      exact kk _ _ _ _ (Option.some.inj h).symm (lv_sub hl [0, 3] rfl) M
    · rw [if_neg c_31] at h
      refine lv_iload hx hb dX5_same_114 (lv_at hl 4 rfl) ?_
      refine lv_aload_n hx hb dX5_same_116 rfl (lv_at hl 0 rfl) ?_
      refine lv_iload_n hx hb dX5_same_117 rfl (lv_at hl 1 rfl) ?_
      obtain ⟨x_33, hc_32, h⟩ := bnd_s h
      refine kV (As := [.int x1]) (rest := [.int x4]) (stk := [.int x_33, .int x4]) (val := (some (.int x_33))) (c1 := 0) (s1 := 0) C0 M (k_X5_tableRows hc_32) kw_19_1 Y_X5_tableRows (rv_X5 C0 M) ⟨Nat.le_of_ble_eq_true rfl, Nat.le_of_ble_eq_true rfl⟩ rfl hl.1 rfl (Nat.le_of_ble_eq_true rfl) dX5_same_118 rfl rfl ⟨Nat.le_refl _, Nat.le_refl _⟩ rfl (fun H locs M => ?_)
      refine lv_icmp_ge (tgt := 167) hx hb dX5_same_121 (by decide) (fun c_34 => ?_) (fun c_34 => ?_)
      · rw [if_pos c_34] at h
        exact kk _ _ _ _ (Option.some.inj h).symm (lv_sub hl [0, 3] rfl) M
      · rw [if_neg c_34] at h
        refine lv_aload_n hx hb dX5_same_124 rfl (lv_at hl 0 rfl) ?_
        refine gf_RX5_50 C0 M dX5_same_125 ?_
        refine lv_aload_n hx hb dX5_same_128 rfl (lv_at hl 0 rfl) ?_
        refine gf_RX5_32 C0 M dX5_same_129 ?_
        refine lv_iload_n hx hb dX5_same_132 rfl (lv_at hl 1 rfl) ?_
        obtain ⟨hi_35, h⟩ := chk_s h
        refine al_MrowOf C0 M hi_35 dX5_same_133 ?_
        refine lv_iload hx hb dX5_same_134 (lv_at hl 4 rfl) ?_
        refine lv_iadd hx hb dX5_same_136 ?_
        obtain ⟨hi_36, h⟩ := chk_s h
        refine al_Mslot C0 M hi_36 dX5_same_137 ?_
        refine lv_aload_n hx hb dX5_same_138 rfl (lv_at hl 0 rfl) ?_
        refine gf_RX5_50 C0 M dX5_same_139 ?_
        refine lv_aload_n hx hb dX5_same_142 rfl (lv_at hl 0 rfl) ?_
        refine gf_RX5_32 C0 M dX5_same_143 ?_
        refine lv_iload_n hx hb dX5_same_146 rfl (lv_at hl 2 rfl) ?_
        obtain ⟨hi_37, h⟩ := chk_s h
        refine al_MrowOf C0 M hi_37 dX5_same_147 ?_
        refine lv_iload hx hb dX5_same_148 (lv_at hl 4 rfl) ?_
        refine lv_iadd hx hb dX5_same_150 ?_
        obtain ⟨hi_38, h⟩ := chk_s h
        refine al_Mslot C0 M hi_38 dX5_same_151 ?_
        refine lv_icmp_ne (tgt := 159) hx hb dX5_same_152 (by decide) (fun c_39 => ?_) (fun c_39 => ?_)
        · rw [if_neg c_39] at h
          refine lv_iconst (v := 0) hx hb dX5_same_159 (by decide) ?_
          obtain ⟨x_40, hn_41, h⟩ := lett_s h
          refine nm_i hn_41 ?_
          refine lv_istore_n (lv' := [(3, .int x_40), (0, .ref (sb 13)), (1, .int x1), (2, .int x2), (4, .int x4)]) hx hb dX5_same_160 rfl hl (by decide) rfl (fun ls hl => ?_)
          obtain ⟨x_42, hn_43, h⟩ := lett_s h
          refine lv_iinc (v := x_42) (lv' := [(4, .int x_42), (3, .int x_40), (0, .ref (sb 13)), (1, .int x1), (2, .int x2)]) hx hb dX5_same_161 hl (k := 4) rfl (by rw [hn_43]; rfl) (by decide) rfl (fun ls hl => ?_)
          refine lv_goto (tgt := 110) hx hb dX5_same_164 (by decide) ?_
          exact ih _ _ _ _ _ (lv_sub hl [2, 3, 4, 1, 0] rfl) M h
        · rw [if_pos c_39] at h
          refine lv_iconst (v := 1) hx hb dX5_same_155 (by decide) ?_
          refine lv_goto (tgt := 160) hx hb dX5_same_156 (by decide) ?_
          obtain ⟨x_44, hn_45, h⟩ := lett_s h
          refine nm_i hn_45 ?_
          refine lv_istore_n (lv' := [(3, .int x_44), (0, .ref (sb 13)), (1, .int x1), (2, .int x2), (4, .int x4)]) hx hb dX5_same_160 rfl hl (by decide) rfl (fun ls hl => ?_)
          obtain ⟨x_46, hn_47, h⟩ := lett_s h
          refine lv_iinc (v := x_46) (lv' := [(4, .int x_46), (3, .int x_44), (0, .ref (sb 13)), (1, .int x1), (2, .int x2)]) hx hb dX5_same_161 hl (k := 4) rfl (by rw [hn_47]; rfl) (by decide) rfl (fun ls hl => ?_)
          refine lv_goto (tgt := 110) hx hb dX5_same_164 (by decide) ?_
          exact ih _ _ _ _ _ (lv_sub hl [2, 3, 4, 1, 0] rfl) M h
set_option maxHeartbeats 4000000 in
set_option maxRecDepth 100000 in
theorem w_X5_same_J177 {xs1 : Int32} (C0 : Cx p s m args c cX5_same 5 RX5 D cy) (hr : meth.sig.returnType = (some .int)) (hk : meth.locks = false) {res : Int32 × Gs} (hl : lv_has ls 5 []) (M : Ws D b0 cy sb db g s H locs) (h : m_X5_same_J177 xs1 g = some res) : W p l e ({ frames := 3, cells := 0, slots := 0, locals := 66 } : Room) s m args below meth c H locs 0 0 (MQ below (QX (some (.int res.1)) D b0 cy sb db res.2) args s 0 0 (fun q => b0 ≤ q)) (F0 m 177 ls [.int xs1, .ref (sb 13)]) := by
  obtain ⟨hx, hb, hml, hown, hts, hK⟩ := id C0
  rw [m_X5_same_J177] at h
  obtain ⟨⟨x_51, g_52⟩, hc_50, h⟩ := bnd_s h
  try dsimp only at h
  refine kV (As := [.int xs1]) (rest := []) (stk := [.int x_51]) (val := (some (.int x_51))) (c1 := 0) (s1 := 0) C0 M (k_X5_yes hc_50) kw_6_12 Y_X5_yes (rv_X5 C0 M) ⟨Nat.le_of_ble_eq_true rfl, Nat.le_of_ble_eq_true rfl⟩ rfl hl.1 rfl (Nat.le_of_ble_eq_true rfl) dX5_same_177 rfl rfl ⟨Nat.le_refl _, Nat.le_refl _⟩ rfl (fun H locs M => ?_)
  obtain rfl := Option.some.inj h
  exact rt_i C0 M hr hk dX5_same_180
set_option maxHeartbeats 4000000 in
set_option maxRecDepth 100000 in
theorem w_X5_same_J106 {x1 : Int32} {x2 : Int32} {xs0 : Int32} (C0 : Cx p s m args c cX5_same 5 RX5 D cy) (hr : meth.sig.returnType = (some .int)) (hk : meth.locks = false) {res : Int32 × Gs} (hl : lv_has ls 5 [(0, .ref (sb 13)), (1, .int x1), (2, .int x2)]) (M : Ws D b0 cy sb db g s H locs) (h : m_X5_same_J106 x1 x2 xs0 g = some res) : W p l e ({ frames := 3, cells := 0, slots := 0, locals := 66 } : Room) s m args below meth c H locs 0 0 (MQ below (QX (some (.int res.1)) D b0 cy sb db res.2) args s 0 0 (fun q => b0 ≤ q)) (F0 m 106 ls [.int xs0]) := by
  obtain ⟨hx, hb, hml, hown, hts, hK⟩ := id C0
  rw [m_X5_same_J106] at h
  refine lv_istore_n (lv' := [(3, .int xs0), (0, .ref (sb 13)), (1, .int x1), (2, .int x2)]) hx hb dX5_same_106 rfl hl (by decide) rfl (fun ls hl => ?_)
  refine lv_iconst (v := 0) hx hb dX5_same_107 (by decide) ?_
  obtain ⟨x_29, hn_30, h⟩ := lett_s h
  refine nm_i hn_30 ?_
  refine lv_istore (lv' := [(4, .int x_29), (3, .int xs0), (0, .ref (sb 13)), (1, .int x1), (2, .int x2)]) hx hb dX5_same_108 hl (by decide) rfl (fun ls hl => ?_)
  obtain ⟨q_53, hq_54, h⟩ := bnd_s h
  refine w_X5_same_L110 C0 hr hk (q := q_53) (fun x_48 H locs ls hq hl M => ?_) FU _ _ _ _ _ (lv_sub hl [2, 3, 4, 1, 0] rfl) M hq_54
  subst q_53
  try dsimp only at h
  refine lv_aload_n hx hb dX5_same_167 rfl (lv_at hl 0 rfl) ?_
  refine lv_iload_n hx hb dX5_same_168 rfl (lv_at hl 1 rfl) ?_
  refine lv_if_eq (tgt := 176) hx hb dX5_same_169 (by decide) (fun c_49 => ?_) (fun c_49 => ?_)
  · rw [if_pos c_49] at h
    refine lv_iconst (v := 0) hx hb dX5_same_176 (by decide) ?_
    exact w_X5_same_J177 C0 hr hk (lv_sub hl [] rfl) M h
  · rw [if_neg c_49] at h
    refine lv_iconst (v := 1) hx hb dX5_same_172 (by decide) ?_
    refine lv_goto (tgt := 177) hx hb dX5_same_173 (by decide) ?_
    exact w_X5_same_J177 C0 hr hk (lv_sub hl [] rfl) M h
set_option maxHeartbeats 4000000 in
set_option maxRecDepth 100000 in
theorem w_X5_same {x1 : Int32} {x2 : Int32} (C0 : Cx p s m args c cX5_same 5 RX5 D cy) (hr : meth.sig.returnType = (some .int)) (hk : meth.locks = false) {res : Int32 × Gs} (hl : lv_has ls 5 [(0, .ref (sb 13)), (1, .int x1), (2, .int x2)]) (M : Ws D b0 cy sb db g s H locs) (h : m_X5_same x1 x2 g = some res) : W p l e ({ frames := 3, cells := 0, slots := 0, locals := 66 } : Room) s m args below meth c H locs 0 0 (MQ below (QX (some (.int res.1)) D b0 cy sb db res.2) args s 0 0 (fun q => b0 ≤ q)) (F0 m 0 ls []) := by
  obtain ⟨hx, hb, hml, hown, hts, hK⟩ := id C0
  rw [m_X5_same] at h
  refine lv_aload_n hx hb dX5_same_0 rfl (lv_at hl 0 rfl) ?_
  refine lv_iload_n hx hb dX5_same_1 rfl (lv_at hl 1 rfl) ?_
  obtain ⟨x_2, hc_1, h⟩ := bnd_s h
  refine kV (As := [.int x1]) (rest := []) (stk := [.int x_2]) (val := (some (.int x_2))) (c1 := 0) (s1 := 0) C0 M (k_X5_isArray hc_1) kw_14_13 Y_X5_isArray (rv_X5 C0 M) ⟨Nat.le_of_ble_eq_true rfl, Nat.le_of_ble_eq_true rfl⟩ rfl hl.1 rfl (Nat.le_of_ble_eq_true rfl) dX5_same_2 rfl rfl ⟨Nat.le_refl _, Nat.le_refl _⟩ rfl (fun H locs M => ?_)
  refine lv_if_eq (tgt := 16) hx hb dX5_same_5 (by decide) (fun c_3 => ?_) (fun c_3 => ?_)
  · rw [if_pos c_3] at h
    exact w_X5_same_J16 C0 hr hk (lv_sub hl [0] rfl) M h
  · rw [if_neg c_3] at h
    refine lv_aload_n hx hb dX5_same_8 rfl (lv_at hl 0 rfl) ?_
    refine lv_iload_n hx hb dX5_same_9 rfl (lv_at hl 2 rfl) ?_
    obtain ⟨x_8, hc_7, h⟩ := bnd_s h
    refine kV (As := [.int x2]) (rest := []) (stk := [.int x_8]) (val := (some (.int x_8))) (c1 := 0) (s1 := 0) C0 M (k_X5_isArray hc_7) kw_14_13 Y_X5_isArray (rv_X5 C0 M) ⟨Nat.le_of_ble_eq_true rfl, Nat.le_of_ble_eq_true rfl⟩ rfl hl.1 rfl (Nat.le_of_ble_eq_true rfl) dX5_same_10 rfl rfl ⟨Nat.le_refl _, Nat.le_refl _⟩ rfl (fun H locs M => ?_)
    refine lv_if_ne (tgt := 23) hx hb dX5_same_13 (by decide) (fun c_9 => ?_) (fun c_9 => ?_)
    · rw [if_neg c_9] at h
      refine lv_aload_n hx hb dX5_same_23 rfl (lv_at hl 0 rfl) ?_
      refine gf_RX5_20 C0 M dX5_same_24 ?_
      refine lv_iload_n hx hb dX5_same_27 rfl (lv_at hl 1 rfl) ?_
      obtain ⟨hi_10, h⟩ := chk_s h
      refine al_Mkinds C0 M hi_10 dX5_same_28 ?_
      refine lv_iconst (v := 4) hx hb dX5_same_29 (by decide) ?_
      refine lv_icmp_ne (tgt := 43) hx hb dX5_same_30 (by decide) (fun c_11 => ?_) (fun c_11 => ?_)
      · rw [if_neg c_11] at h
        exact w_X5_same_J43 C0 hr hk hl M h
      · rw [if_pos c_11] at h
        refine lv_aload_n hx hb dX5_same_33 rfl (lv_at hl 0 rfl) ?_
        refine gf_RX5_20 C0 M dX5_same_34 ?_
        refine lv_iload_n hx hb dX5_same_37 rfl (lv_at hl 2 rfl) ?_
        obtain ⟨hi_22, h⟩ := chk_s h
        refine al_Mkinds C0 M hi_22 dX5_same_38 ?_
        refine lv_iconst (v := 4) hx hb dX5_same_39 (by decide) ?_
        refine lv_icmp_eq (tgt := 88) hx hb dX5_same_40 (by decide) (fun c_23 => ?_) (fun c_23 => ?_)
        · rw [if_pos c_23] at h
          refine lv_aload_n hx hb dX5_same_88 rfl (lv_at hl 0 rfl) ?_
          refine lv_iload_n hx hb dX5_same_89 rfl (lv_at hl 1 rfl) ?_
          obtain ⟨x_25, hc_24, h⟩ := bnd_s h
          refine kV (As := [.int x1]) (rest := []) (stk := [.int x_25]) (val := (some (.int x_25))) (c1 := 0) (s1 := 0) C0 M (k_X5_tableRows hc_24) kw_19_1 Y_X5_tableRows (rv_X5 C0 M) ⟨Nat.le_of_ble_eq_true rfl, Nat.le_of_ble_eq_true rfl⟩ rfl hl.1 rfl (Nat.le_of_ble_eq_true rfl) dX5_same_90 rfl rfl ⟨Nat.le_refl _, Nat.le_refl _⟩ rfl (fun H locs M => ?_)
          refine lv_aload_n hx hb dX5_same_93 rfl (lv_at hl 0 rfl) ?_
          refine lv_iload_n hx hb dX5_same_94 rfl (lv_at hl 2 rfl) ?_
          obtain ⟨x_27, hc_26, h⟩ := bnd_s h
          refine kV (As := [.int x2]) (rest := [.int x_25]) (stk := [.int x_27, .int x_25]) (val := (some (.int x_27))) (c1 := 0) (s1 := 0) C0 M (k_X5_tableRows hc_26) kw_19_1 Y_X5_tableRows (rv_X5 C0 M) ⟨Nat.le_of_ble_eq_true rfl, Nat.le_of_ble_eq_true rfl⟩ rfl hl.1 rfl (Nat.le_of_ble_eq_true rfl) dX5_same_95 rfl rfl ⟨Nat.le_refl _, Nat.le_refl _⟩ rfl (fun H locs M => ?_)
          refine lv_icmp_ne (tgt := 105) hx hb dX5_same_98 (by decide) (fun c_28 => ?_) (fun c_28 => ?_)
          · rw [if_neg c_28] at h
            refine lv_iconst (v := 0) hx hb dX5_same_105 (by decide) ?_
            exact w_X5_same_J106 C0 hr hk hl M h
          · rw [if_pos c_28] at h
            refine lv_iconst (v := 1) hx hb dX5_same_101 (by decide) ?_
            refine lv_goto (tgt := 106) hx hb dX5_same_102 (by decide) ?_
            exact w_X5_same_J106 C0 hr hk hl M h
        · rw [if_neg c_23] at h
          exact w_X5_same_J43 C0 hr hk hl M h
    · rw [if_pos c_9] at h
      exact w_X5_same_J16 C0 hr hk (lv_sub hl [0] rfl) M h
theorem k_X5_same {x1 : Int32} {x2 : Int32} {res : Int32 × Gs} (h : m_X5_same x1 x2 g = some res) : CM l yX5_same cX5_same 5 (some .int) ({ frames := 3, cells := 0, slots := 0, locals := 66 } : Room) [.ref (sb 13), .int x1, .int x2] (some (.int res.1)) D b0 cy sb db g res.2 := by
  refine Met.ofW (cc := cX5_same) (maxL := 5) (ret := (some .int)) (by decide) rfl ?_
  intro p e s m args below meth c s₁ B hml hv
  obtain ⟨rfl, hW, hK⟩ := hv
  have hl := lv_entry [.ref (sb 13), .int x1, .int x2] (n := 5) (Nat.le_of_ble_eq_true rfl)
  rw [lg_entry_eq]
  generalize (lg_sl [.ref (sb 13), .int x1, .int x2] ++ List.replicate (5 - (lg_sl [.ref (sb 13), .int x1, .int x2]).length) Slot.unset).toArray = ls at hl ⊢
  have hl : lv_has ls 5 [(0, .ref (sb 13)), (1, .int x1), (2, .int x2)] := hl
  exact w_X5_same ⟨B.exec, B.bytes, hml, findClass_of_methodNamed B.named, fun w hw => atoms_spec (ws := Cond.code yX5_same cX5_same 5 (some .int) :: wsL_law) B.pre w (List.mem_cons_of_mem _ hw), hK⟩ B.returns B.notSynchronized hl ⟨hW, va_S.rf⟩ h
theorem Y_X5_same : Yv yX5_same RX5 cX5_same 5 (some .int) 2 := ⟨⟨kw_27_14, kw_1_5, by decide +kernel, by decide +kernel, by decide +kernel⟩, kw_27_12, kw_27_13⟩
-- X5_compare
def m_X5_compare_J16  (g : Gs) : Option (Int32 × Gs) :=
  (m_X5_no (7 : Int32) g).bind fun (x_5, g_6) => some (x_5, g_6)
def m_X5_compare_J48  (g : Gs) : Option (Int32 × Gs) :=
  (m_X5_no (2 : Int32) g).bind fun (x_14, g_15) => some (x_14, g_15)
def m_X5_compare_L82 (x1 : Int32) (x2 : Int32) (x3 : Int32) (x4 : Int32) : Nat → Int32 → Gs → Option ((Int32 × Gs) ⊕ (Gs))
  | 0, _, _ => none
  | fu + 1, x5, g =>
  if x3 ≤ x5 then (some (.inr g)) else (if x4 ≤ x5 then (some (.inr g)) else (chk (inb x1 24) (chk (inb (g.1 30 0 x1.toNatClampNeg) 13000) (chk (inb ((g.1 32 0 (g.1 30 0 x1.toNatClampNeg).toNatClampNeg) + x5) 300000) (lett (g.2.1 2 ((g.1 32 0 (g.1 30 0 x1.toNatClampNeg).toNatClampNeg) + x5).toNatClampNeg) fun y_33 => chk (inb x2 24) (chk (inb (g.1 30 0 x2.toNatClampNeg) 13000) (chk (inb ((g.1 32 0 (g.1 30 0 x2.toNatClampNeg).toNatClampNeg) + x5) 300000) (lett (g.2.1 2 ((g.1 32 0 (g.1 30 0 x2.toNatClampNeg).toNatClampNeg) + x5).toNatClampNeg) fun y_38 => if (lg_cmp y_33 y_38) = 0 then (lett (x5 + 1) fun x_41 => m_X5_compare_L82 x1 x2 x3 x4 fu x_41 g) else (if 0 ≤ (lg_cmp y_33 y_38) then ((m_X5_yes (1 : Int32) g).bind fun (x_45, g_46) => some (.inl (x_45, g_46))) else ((m_X5_yes (-1 : Int32) g).bind fun (x_48, g_49) => some (.inl (x_48, g_49))))))))))))
def m_X5_compare_J191 (xs1 : Int32) (g : Gs) : Option (Int32 × Gs) :=
  (m_X5_yes xs1 g).bind fun (x_54, g_55) => some (x_54, g_55)
def m_X5_compare (x1 : Int32) (x2 : Int32) (g : Gs) : Option (Int32 × Gs) :=
  (m_X5_isArray x1 g).bind fun x_2 => if x_2 = 0 then (m_X5_compare_J16  g) else ((m_X5_isArray x2 g).bind fun x_8 => if x_8 = 0 then (m_X5_compare_J16  g) else (chk (inb x1 24) (chk (inb x2 24) (if (g.1 26 0 x1.toNatClampNeg) = (g.1 26 0 x2.toNatClampNeg) then (chk (inb x1 24) (if (g.1 26 0 x1.toNatClampNeg) < (3 : Int32) then (chk (inb x1 24) (chk (inb (g.1 30 0 x1.toNatClampNeg) 13000) (lett (g.1 33 0 (g.1 30 0 x1.toNatClampNeg).toNatClampNeg) fun x_20 => chk (inb x2 24) (chk (inb (g.1 30 0 x2.toNatClampNeg) 13000) (lett (g.1 33 0 (g.1 30 0 x2.toNatClampNeg).toNatClampNeg) fun x_24 => lett (0 : Int32) fun x_26 => (m_X5_compare_L82 x1 x2 x_20 x_24 FU x_26 g).bind fun q_56 => exi q_56 (fun r => some r) fun g_50 => if x_24 ≤ x_20 then (if x_20 ≤ x_24 then (m_X5_compare_J191 (0 : Int32) g_50) else (m_X5_compare_J191 (1 : Int32) g_50)) else (m_X5_compare_J191 (-1 : Int32) g_50)))))) else (m_X5_compare_J48  g))) else (m_X5_compare_J48  g)))))
set_option maxHeartbeats 4000000 in
set_option maxRecDepth 100000 in
theorem w_X5_compare_J16  (C0 : Cx p s m args c cX5_compare 10 RX5 D cy) (hr : meth.sig.returnType = (some .int)) (hk : meth.locks = false) {res : Int32 × Gs} (hl : lv_has ls 10 [(0, .ref (sb 13))]) (M : Ws D b0 cy sb db g s H locs) (h : m_X5_compare_J16  g = some res) : W p l e ({ frames := 2, cells := 0, slots := 0, locals := 46 } : Room) s m args below meth c H locs 0 0 (MQ below (QX (some (.int res.1)) D b0 cy sb db res.2) args s 0 0 (fun q => b0 ≤ q)) (F0 m 16 ls []) := by
  obtain ⟨hx, hb, hml, hown, hts, hK⟩ := id C0
  rw [m_X5_compare_J16] at h
  refine lv_aload_n hx hb dX5_compare_16 rfl (lv_at hl 0 rfl) ?_
  refine lv_bipush (v := 7) hx hb dX5_compare_17 (by decide) ?_
  obtain ⟨⟨x_5, g_6⟩, hc_4, h⟩ := bnd_s h
  try dsimp only at h
  refine kV (As := [.int (7 : Int32)]) (rest := []) (stk := [.int x_5]) (val := (some (.int x_5))) (c1 := 0) (s1 := 0) C0 M (k_X5_no hc_4) kw_6_8 Y_X5_no (rv_X5 C0 M) ⟨Nat.le_of_ble_eq_true rfl, Nat.le_of_ble_eq_true rfl⟩ rfl hl.1 rfl (Nat.le_of_ble_eq_true rfl) dX5_compare_19 rfl rfl ⟨Nat.le_refl _, Nat.le_refl _⟩ rfl (fun H locs M => ?_)
  obtain rfl := Option.some.inj h
  exact rt_i C0 M hr hk dX5_compare_22
set_option maxHeartbeats 4000000 in
set_option maxRecDepth 100000 in
theorem w_X5_compare_J48  (C0 : Cx p s m args c cX5_compare 10 RX5 D cy) (hr : meth.sig.returnType = (some .int)) (hk : meth.locks = false) {res : Int32 × Gs} (hl : lv_has ls 10 [(0, .ref (sb 13))]) (M : Ws D b0 cy sb db g s H locs) (h : m_X5_compare_J48  g = some res) : W p l e ({ frames := 2, cells := 0, slots := 0, locals := 46 } : Room) s m args below meth c H locs 0 0 (MQ below (QX (some (.int res.1)) D b0 cy sb db res.2) args s 0 0 (fun q => b0 ≤ q)) (F0 m 48 ls []) := by
  obtain ⟨hx, hb, hml, hown, hts, hK⟩ := id C0
  rw [m_X5_compare_J48] at h
  refine lv_aload_n hx hb dX5_compare_48 rfl (lv_at hl 0 rfl) ?_
  refine lv_iconst (v := 2) hx hb dX5_compare_49 (by decide) ?_
  obtain ⟨⟨x_14, g_15⟩, hc_13, h⟩ := bnd_s h
  try dsimp only at h
  refine kV (As := [.int (2 : Int32)]) (rest := []) (stk := [.int x_14]) (val := (some (.int x_14))) (c1 := 0) (s1 := 0) C0 M (k_X5_no hc_13) kw_6_8 Y_X5_no (rv_X5 C0 M) ⟨Nat.le_of_ble_eq_true rfl, Nat.le_of_ble_eq_true rfl⟩ rfl hl.1 rfl (Nat.le_of_ble_eq_true rfl) dX5_compare_50 rfl rfl ⟨Nat.le_refl _, Nat.le_refl _⟩ rfl (fun H locs M => ?_)
  obtain rfl := Option.some.inj h
  exact rt_i C0 M hr hk dX5_compare_53
set_option maxHeartbeats 4000000 in
set_option maxRecDepth 100000 in
theorem w_X5_compare_L82 {x1 : Int32} {x2 : Int32} {x3 : Int32} {x4 : Int32} (C0 : Cx p s m args c cX5_compare 10 RX5 D cy) (hr : meth.sig.returnType = (some .int)) (hk : meth.locks = false) {res : Int32 × Gs} {q : (Int32 × Gs) ⊕ (Gs)} (hret : ∀ r, q = .inl r → r = res) (kk : ∀ (g : Gs) (H : Heap) (locs : List Loc) (ls : Array Slot), q = .inr g → lv_has ls 10 [(0, .ref (sb 13)), (3, .int x3), (4, .int x4)] → Ws D b0 cy sb db g s H locs → W p l e ({ frames := 2, cells := 0, slots := 0, locals := 46 } : Room) s m args below meth c H locs 0 0 (MQ below (QX (some (.int res.1)) D b0 cy sb db res.2) args s 0 0 (fun q => b0 ≤ q)) (F0 m 169 ls [])) : ∀ (fu : Nat) (x5 : Int32) (g : Gs) (H : Heap) (locs : List Loc) (ls : Array Slot), lv_has ls 10 [(0, .ref (sb 13)), (1, .int x1), (2, .int x2), (3, .int x3), (4, .int x4), (5, .int x5)] → Ws D b0 cy sb db g s H locs → m_X5_compare_L82 x1 x2 x3 x4 fu x5 g = some q → W p l e ({ frames := 2, cells := 0, slots := 0, locals := 46 } : Room) s m args below meth c H locs 0 0 (MQ below (QX (some (.int res.1)) D b0 cy sb db res.2) args s 0 0 (fun q => b0 ≤ q)) (F0 m 82 ls []) := by
  obtain ⟨hx, hb, hml, hown, hts, hK⟩ := id C0
  intro fu
  induction fu with
  | zero =>
    intro x5 g H locs ls hl M h
    cases h
  | succ fu ih =>
    intro x5 g H locs ls hl M h
    rw [m_X5_compare_L82] at h
    refine lv_iload hx hb dX5_compare_82 (lv_at hl 5 rfl) ?_
    refine lv_iload_n hx hb dX5_compare_84 rfl (lv_at hl 3 rfl) ?_
    refine lv_icmp_ge (tgt := 169) hx hb dX5_compare_85 (by decide) (fun c_28 => ?_) (fun c_28 => ?_)
    · rw [if_pos c_28] at h
      exact kk _ _ _ _ (Option.some.inj h).symm (lv_sub hl [0, 3, 4] rfl) M
    · rw [if_neg c_28] at h
      refine lv_iload hx hb dX5_compare_88 (lv_at hl 5 rfl) ?_
      refine lv_iload hx hb dX5_compare_90 (lv_at hl 4 rfl) ?_
      refine lv_icmp_ge (tgt := 169) hx hb dX5_compare_92 (by decide) (fun c_29 => ?_) (fun c_29 => ?_)
      · rw [if_pos c_29] at h
        exact kk _ _ _ _ (Option.some.inj h).symm (lv_sub hl [0, 3, 4] rfl) M
      · rw [if_neg c_29] at h
        refine lv_aload_n hx hb dX5_compare_95 rfl (lv_at hl 0 rfl) ?_
        refine gf_RX5_42 C0 M dX5_compare_96 ?_
        refine lv_aload_n hx hb dX5_compare_99 rfl (lv_at hl 0 rfl) ?_
        refine gf_RX5_35 C0 M dX5_compare_100 ?_
        refine lv_aload_n hx hb dX5_compare_103 rfl (lv_at hl 0 rfl) ?_
        refine gf_RX5_32 C0 M dX5_compare_104 ?_
        refine lv_iload_n hx hb dX5_compare_107 rfl (lv_at hl 1 rfl) ?_
        obtain ⟨hi_30, h⟩ := chk_s h
        refine al_MrowOf C0 M hi_30 dX5_compare_108 ?_
        obtain ⟨hi_31, h⟩ := chk_s h
        refine al_MrowAt C0 M hi_31 dX5_compare_109 ?_
        refine lv_iload hx hb dX5_compare_110 (lv_at hl 5 rfl) ?_
        refine lv_iadd hx hb dX5_compare_112 ?_
        obtain ⟨hi_32, h⟩ := chk_s h
        refine al_Mpool C0 M hi_32 dX5_compare_113 ?_
        obtain ⟨y_33, hn_34, h⟩ := lett_s h
        refine nm_l hn_34 ?_
        refine lv_lstore (lv' := [(6, .long y_33), (0, .ref (sb 13)), (1, .int x1), (2, .int x2), (3, .int x3), (4, .int x4), (5, .int x5)]) hx hb dX5_compare_114 hl (by decide) rfl (fun ls hl => ?_)
        refine lv_aload_n hx hb dX5_compare_116 rfl (lv_at hl 1 rfl) ?_
        refine gf_RX5_42 C0 M dX5_compare_117 ?_
        refine lv_aload_n hx hb dX5_compare_120 rfl (lv_at hl 1 rfl) ?_
        refine gf_RX5_35 C0 M dX5_compare_121 ?_
        refine lv_aload_n hx hb dX5_compare_124 rfl (lv_at hl 1 rfl) ?_
        refine gf_RX5_32 C0 M dX5_compare_125 ?_
        refine lv_iload_n hx hb dX5_compare_128 rfl (lv_at hl 3 rfl) ?_
        obtain ⟨hi_35, h⟩ := chk_s h
        refine al_MrowOf C0 M hi_35 dX5_compare_129 ?_
        obtain ⟨hi_36, h⟩ := chk_s h
        refine al_MrowAt C0 M hi_36 dX5_compare_130 ?_
        refine lv_iload hx hb dX5_compare_131 (lv_at hl 6 rfl) ?_
        refine lv_iadd hx hb dX5_compare_133 ?_
        obtain ⟨hi_37, h⟩ := chk_s h
        refine al_Mpool C0 M hi_37 dX5_compare_134 ?_
        obtain ⟨y_38, hn_39, h⟩ := lett_s h
        refine nm_l hn_39 ?_
        refine lv_lstore (lv' := [(8, .long y_38), (6, .long y_33), (0, .ref (sb 13)), (1, .int x1), (2, .int x2), (3, .int x3), (4, .int x4), (5, .int x5)]) hx hb dX5_compare_135 hl (by decide) rfl (fun ls hl => ?_)
        refine lv_lload hx hb dX5_compare_137 (lv_at hl 1 rfl) ?_
        refine lv_lload hx hb dX5_compare_139 (lv_at hl 0 rfl) ?_
        refine W.lcmp hx hb dX5_compare_141 ?_
        refine lv_if_eq (tgt := 163) hx hb dX5_compare_142 (by decide) (fun c_40 => ?_) (fun c_40 => ?_)
        · rw [if_pos c_40] at h
          obtain ⟨x_41, hn_42, h⟩ := lett_s h
          refine lv_iinc (v := x_41) (lv' := [(5, .int x_41), (8, .long y_38), (6, .long y_33), (0, .ref (sb 13)), (1, .int x1), (2, .int x2), (3, .int x3), (4, .int x4)]) hx hb dX5_compare_163 hl (k := 7) rfl (by rw [hn_42]; rfl) (by decide) rfl (fun ls hl => ?_)
          refine lv_goto (tgt := 82) hx hb dX5_compare_166 (by decide) ?_
          exact ih _ _ _ _ _ (lv_sub hl [3, 4, 5, 6, 7, 0] rfl) M h
        · rw [if_neg c_40] at h
          refine lv_aload_n hx hb dX5_compare_145 rfl (lv_at hl 2 rfl) ?_
          refine lv_lload hx hb dX5_compare_146 (lv_at hl 1 rfl) ?_
          refine lv_lload hx hb dX5_compare_148 (lv_at hl 0 rfl) ?_
          refine W.lcmp hx hb dX5_compare_150 ?_
          refine lv_if_ge (tgt := 158) hx hb dX5_compare_151 (by decide) (fun c_43 => ?_) (fun c_43 => ?_)
          · rw [if_pos c_43] at h
            refine lv_iconst (v := 1) hx hb dX5_compare_158 (by decide) ?_
            obtain ⟨⟨x_45, g_46⟩, hc_44, h⟩ := bnd_s h
            try dsimp only at h
            refine kV (As := [.int (1 : Int32)]) (rest := []) (stk := [.int x_45]) (val := (some (.int x_45))) (c1 := 0) (s1 := 0) C0 M (k_X5_yes hc_44) kw_6_12 Y_X5_yes (rv_X5 C0 M) ⟨Nat.le_of_ble_eq_true rfl, Nat.le_of_ble_eq_true rfl⟩ rfl hl.1 rfl (Nat.le_of_ble_eq_true rfl) dX5_compare_159 rfl rfl ⟨Nat.le_refl _, Nat.le_refl _⟩ rfl (fun H locs M => ?_)
            obtain rfl := Option.some.inj h
            obtain rfl := hret _ rfl
            exact rt_i C0 M hr hk dX5_compare_162
          · rw [if_neg c_43] at h
            refine lv_iconst (v := -1) hx hb dX5_compare_154 (by decide) ?_
            refine lv_goto (tgt := 159) hx hb dX5_compare_155 (by decide) ?_
            obtain ⟨⟨x_48, g_49⟩, hc_47, h⟩ := bnd_s h
            try dsimp only at h
            refine kV (As := [.int (-1 : Int32)]) (rest := []) (stk := [.int x_48]) (val := (some (.int x_48))) (c1 := 0) (s1 := 0) C0 M (k_X5_yes hc_47) kw_6_12 Y_X5_yes (rv_X5 C0 M) ⟨Nat.le_of_ble_eq_true rfl, Nat.le_of_ble_eq_true rfl⟩ rfl hl.1 rfl (Nat.le_of_ble_eq_true rfl) dX5_compare_159 rfl rfl ⟨Nat.le_refl _, Nat.le_refl _⟩ rfl (fun H locs M => ?_)
            obtain rfl := Option.some.inj h
            obtain rfl := hret _ rfl
            exact rt_i C0 M hr hk dX5_compare_162
set_option maxHeartbeats 4000000 in
set_option maxRecDepth 100000 in
theorem w_X5_compare_J191 {xs1 : Int32} (C0 : Cx p s m args c cX5_compare 10 RX5 D cy) (hr : meth.sig.returnType = (some .int)) (hk : meth.locks = false) {res : Int32 × Gs} (hl : lv_has ls 10 []) (M : Ws D b0 cy sb db g s H locs) (h : m_X5_compare_J191 xs1 g = some res) : W p l e ({ frames := 2, cells := 0, slots := 0, locals := 46 } : Room) s m args below meth c H locs 0 0 (MQ below (QX (some (.int res.1)) D b0 cy sb db res.2) args s 0 0 (fun q => b0 ≤ q)) (F0 m 191 ls [.int xs1, .ref (sb 13)]) := by
  obtain ⟨hx, hb, hml, hown, hts, hK⟩ := id C0
  rw [m_X5_compare_J191] at h
  obtain ⟨⟨x_54, g_55⟩, hc_53, h⟩ := bnd_s h
  try dsimp only at h
  refine kV (As := [.int xs1]) (rest := []) (stk := [.int x_54]) (val := (some (.int x_54))) (c1 := 0) (s1 := 0) C0 M (k_X5_yes hc_53) kw_6_12 Y_X5_yes (rv_X5 C0 M) ⟨Nat.le_of_ble_eq_true rfl, Nat.le_of_ble_eq_true rfl⟩ rfl hl.1 rfl (Nat.le_of_ble_eq_true rfl) dX5_compare_191 rfl rfl ⟨Nat.le_refl _, Nat.le_refl _⟩ rfl (fun H locs M => ?_)
  obtain rfl := Option.some.inj h
  exact rt_i C0 M hr hk dX5_compare_194
set_option maxHeartbeats 4000000 in
set_option maxRecDepth 100000 in
theorem w_X5_compare {x1 : Int32} {x2 : Int32} (C0 : Cx p s m args c cX5_compare 10 RX5 D cy) (hr : meth.sig.returnType = (some .int)) (hk : meth.locks = false) {res : Int32 × Gs} (hl : lv_has ls 10 [(0, .ref (sb 13)), (1, .int x1), (2, .int x2)]) (M : Ws D b0 cy sb db g s H locs) (h : m_X5_compare x1 x2 g = some res) : W p l e ({ frames := 2, cells := 0, slots := 0, locals := 46 } : Room) s m args below meth c H locs 0 0 (MQ below (QX (some (.int res.1)) D b0 cy sb db res.2) args s 0 0 (fun q => b0 ≤ q)) (F0 m 0 ls []) := by
  obtain ⟨hx, hb, hml, hown, hts, hK⟩ := id C0
  rw [m_X5_compare] at h
  refine lv_aload_n hx hb dX5_compare_0 rfl (lv_at hl 0 rfl) ?_
  refine lv_iload_n hx hb dX5_compare_1 rfl (lv_at hl 1 rfl) ?_
  obtain ⟨x_2, hc_1, h⟩ := bnd_s h
  refine kV (As := [.int x1]) (rest := []) (stk := [.int x_2]) (val := (some (.int x_2))) (c1 := 0) (s1 := 0) C0 M (k_X5_isArray hc_1) kw_14_13 Y_X5_isArray (rv_X5 C0 M) ⟨Nat.le_of_ble_eq_true rfl, Nat.le_of_ble_eq_true rfl⟩ rfl hl.1 rfl (Nat.le_of_ble_eq_true rfl) dX5_compare_2 rfl rfl ⟨Nat.le_refl _, Nat.le_refl _⟩ rfl (fun H locs M => ?_)
  refine lv_if_eq (tgt := 16) hx hb dX5_compare_5 (by decide) (fun c_3 => ?_) (fun c_3 => ?_)
  · rw [if_pos c_3] at h
    exact w_X5_compare_J16 C0 hr hk (lv_sub hl [0] rfl) M h
  · rw [if_neg c_3] at h
    refine lv_aload_n hx hb dX5_compare_8 rfl (lv_at hl 0 rfl) ?_
    refine lv_iload_n hx hb dX5_compare_9 rfl (lv_at hl 2 rfl) ?_
    obtain ⟨x_8, hc_7, h⟩ := bnd_s h
    refine kV (As := [.int x2]) (rest := []) (stk := [.int x_8]) (val := (some (.int x_8))) (c1 := 0) (s1 := 0) C0 M (k_X5_isArray hc_7) kw_14_13 Y_X5_isArray (rv_X5 C0 M) ⟨Nat.le_of_ble_eq_true rfl, Nat.le_of_ble_eq_true rfl⟩ rfl hl.1 rfl (Nat.le_of_ble_eq_true rfl) dX5_compare_10 rfl rfl ⟨Nat.le_refl _, Nat.le_refl _⟩ rfl (fun H locs M => ?_)
    refine lv_if_ne (tgt := 23) hx hb dX5_compare_13 (by decide) (fun c_9 => ?_) (fun c_9 => ?_)
    · rw [if_neg c_9] at h
      refine lv_aload_n hx hb dX5_compare_23 rfl (lv_at hl 0 rfl) ?_
      refine gf_RX5_20 C0 M dX5_compare_24 ?_
      refine lv_iload_n hx hb dX5_compare_27 rfl (lv_at hl 1 rfl) ?_
      obtain ⟨hi_10, h⟩ := chk_s h
      refine al_Mkinds C0 M hi_10 dX5_compare_28 ?_
      refine lv_aload_n hx hb dX5_compare_29 rfl (lv_at hl 0 rfl) ?_
      refine gf_RX5_20 C0 M dX5_compare_30 ?_
      refine lv_iload_n hx hb dX5_compare_33 rfl (lv_at hl 2 rfl) ?_
      obtain ⟨hi_11, h⟩ := chk_s h
      refine al_Mkinds C0 M hi_11 dX5_compare_34 ?_
      refine lv_icmp_ne (tgt := 48) hx hb dX5_compare_35 (by decide) (fun c_12 => ?_) (fun c_12 => ?_)
      · rw [if_neg c_12] at h
        exact w_X5_compare_J48 C0 hr hk (lv_sub hl [0] rfl) M h
      · rw [if_pos c_12] at h
        refine lv_aload_n hx hb dX5_compare_38 rfl (lv_at hl 0 rfl) ?_
        refine gf_RX5_20 C0 M dX5_compare_39 ?_
        refine lv_iload_n hx hb dX5_compare_42 rfl (lv_at hl 1 rfl) ?_
        obtain ⟨hi_16, h⟩ := chk_s h
        refine al_Mkinds C0 M hi_16 dX5_compare_43 ?_
        refine lv_iconst (v := 3) hx hb dX5_compare_44 (by decide) ?_
        refine lv_icmp_lt (tgt := 54) hx hb dX5_compare_45 (by decide) (fun c_17 => ?_) (fun c_17 => ?_)
        · rw [if_pos c_17] at h
          refine lv_aload_n hx hb dX5_compare_54 rfl (lv_at hl 0 rfl) ?_
          refine gf_RX5_38 C0 M dX5_compare_55 ?_
          refine lv_aload_n hx hb dX5_compare_58 rfl (lv_at hl 0 rfl) ?_
          refine gf_RX5_32 C0 M dX5_compare_59 ?_
          refine lv_iload_n hx hb dX5_compare_62 rfl (lv_at hl 1 rfl) ?_
          obtain ⟨hi_18, h⟩ := chk_s h
          refine al_MrowOf C0 M hi_18 dX5_compare_63 ?_
          obtain ⟨hi_19, h⟩ := chk_s h
          refine al_MrowSize C0 M hi_19 dX5_compare_64 ?_
          obtain ⟨x_20, hn_21, h⟩ := lett_s h
          refine nm_i hn_21 ?_
          refine lv_istore_n (lv' := [(3, .int x_20), (0, .ref (sb 13)), (1, .int x1), (2, .int x2)]) hx hb dX5_compare_65 rfl hl (by decide) rfl (fun ls hl => ?_)
          refine lv_aload_n hx hb dX5_compare_66 rfl (lv_at hl 1 rfl) ?_
          refine gf_RX5_38 C0 M dX5_compare_67 ?_
          refine lv_aload_n hx hb dX5_compare_70 rfl (lv_at hl 1 rfl) ?_
          refine gf_RX5_32 C0 M dX5_compare_71 ?_
          refine lv_iload_n hx hb dX5_compare_74 rfl (lv_at hl 3 rfl) ?_
          obtain ⟨hi_22, h⟩ := chk_s h
          refine al_MrowOf C0 M hi_22 dX5_compare_75 ?_
          obtain ⟨hi_23, h⟩ := chk_s h
          refine al_MrowSize C0 M hi_23 dX5_compare_76 ?_
          obtain ⟨x_24, hn_25, h⟩ := lett_s h
          refine nm_i hn_25 ?_
          refine lv_istore (lv' := [(4, .int x_24), (3, .int x_20), (0, .ref (sb 13)), (1, .int x1), (2, .int x2)]) hx hb dX5_compare_77 hl (by decide) rfl (fun ls hl => ?_)
          refine lv_iconst (v := 0) hx hb dX5_compare_79 (by decide) ?_
          obtain ⟨x_26, hn_27, h⟩ := lett_s h
          refine nm_i hn_27 ?_
          refine lv_istore (lv' := [(5, .int x_26), (4, .int x_24), (3, .int x_20), (0, .ref (sb 13)), (1, .int x1), (2, .int x2)]) hx hb dX5_compare_80 hl (by decide) rfl (fun ls hl => ?_)
          obtain ⟨q_56, hq_57, h⟩ := bnd_s h
          refine w_X5_compare_L82 C0 hr hk (q := q_56) (fun r hq => ?_) (fun g_50 H locs ls hq hl M => ?_) FU _ _ _ _ _ (lv_sub hl [3, 4, 5, 2, 1, 0] rfl) M hq_57
          · subst hq
            exact Option.some.inj h
          subst q_56
          try dsimp only [exi] at h
          refine lv_aload_n hx hb dX5_compare_169 rfl (lv_at hl 0 rfl) ?_
          refine lv_iload_n hx hb dX5_compare_170 rfl (lv_at hl 1 rfl) ?_
          refine lv_iload hx hb dX5_compare_171 (lv_at hl 2 rfl) ?_
          refine lv_icmp_ge (tgt := 180) hx hb dX5_compare_173 (by decide) (fun c_51 => ?_) (fun c_51 => ?_)
          · rw [if_pos c_51] at h
            refine lv_iload_n hx hb dX5_compare_180 rfl (lv_at hl 1 rfl) ?_
            refine lv_iload hx hb dX5_compare_181 (lv_at hl 2 rfl) ?_
            refine lv_icmp_le (tgt := 190) hx hb dX5_compare_183 (by decide) (fun c_52 => ?_) (fun c_52 => ?_)
            · rw [if_pos c_52] at h
              refine lv_iconst (v := 0) hx hb dX5_compare_190 (by decide) ?_
              exact w_X5_compare_J191 C0 hr hk (lv_sub hl [] rfl) M h
            · rw [if_neg c_52] at h
              refine lv_iconst (v := 1) hx hb dX5_compare_186 (by decide) ?_
              refine lv_goto (tgt := 191) hx hb dX5_compare_187 (by decide) ?_
              exact w_X5_compare_J191 C0 hr hk (lv_sub hl [] rfl) M h
          · rw [if_neg c_51] at h
            refine lv_iconst (v := -1) hx hb dX5_compare_176 (by decide) ?_
            refine lv_goto (tgt := 191) hx hb dX5_compare_177 (by decide) ?_
            exact w_X5_compare_J191 C0 hr hk (lv_sub hl [] rfl) M h
        · rw [if_neg c_17] at h
          exact w_X5_compare_J48 C0 hr hk (lv_sub hl [0] rfl) M h
    · rw [if_pos c_9] at h
      exact w_X5_compare_J16 C0 hr hk (lv_sub hl [0] rfl) M h
theorem k_X5_compare {x1 : Int32} {x2 : Int32} {res : Int32 × Gs} (h : m_X5_compare x1 x2 g = some res) : CM l yX5_compare cX5_compare 10 (some .int) ({ frames := 2, cells := 0, slots := 0, locals := 46 } : Room) [.ref (sb 13), .int x1, .int x2] (some (.int res.1)) D b0 cy sb db g res.2 := by
  refine Met.ofW (cc := cX5_compare) (maxL := 10) (ret := (some .int)) (by decide) rfl ?_
  intro p e s m args below meth c s₁ B hml hv
  obtain ⟨rfl, hW, hK⟩ := hv
  have hl := lv_entry [.ref (sb 13), .int x1, .int x2] (n := 10) (Nat.le_of_ble_eq_true rfl)
  rw [lg_entry_eq]
  generalize (lg_sl [.ref (sb 13), .int x1, .int x2] ++ List.replicate (10 - (lg_sl [.ref (sb 13), .int x1, .int x2]).length) Slot.unset).toArray = ls at hl ⊢
  have hl : lv_has ls 10 [(0, .ref (sb 13)), (1, .int x1), (2, .int x2)] := hl
  exact w_X5_compare ⟨B.exec, B.bytes, hml, findClass_of_methodNamed B.named, fun w hw => atoms_spec (ws := Cond.code yX5_compare cX5_compare 10 (some .int) :: wsL_law) B.pre w (List.mem_cons_of_mem _ hw), hK⟩ B.returns B.notSynchronized hl ⟨hW, va_S.rf⟩ h
theorem Y_X5_compare : Yv yX5_compare RX5 cX5_compare 10 (some .int) 2 := ⟨⟨kw_28_11, kw_1_5, by decide +kernel, by decide +kernel, by decide +kernel⟩, kw_28_9, kw_28_10⟩
-- X5_clear
def m_X5_clear  (g : Gs) : Option (Int32 × Gs) :=
  lett (g.1 25 0 0) fun x_1 => lett (sI g 25 0 0 (0 : Int32)) fun g_3 => lett (sI g_3 31 0 0 (0 : Int32)) fun g_5 => lett (sI g_5 34 0 0 (0 : Int32)) fun g_7 => lett (sI g_7 37 0 0 (0 : Int32)) fun g_9 => lett (sI g_9 39 0 0 (0 : Int32)) fun g_11 => lett (sI g_11 22 0 0 (0 : Int32)) fun g_13 => lett (sI g_13 20 0 0 (0 : Int32)) fun g_15 => lett (sI g_15 21 0 0 (-1 : Int32)) fun g_17 => some (x_1, g_17)
set_option maxHeartbeats 4000000 in
set_option maxRecDepth 100000 in
theorem w_X5_clear  (C0 : Cx p s m args c cX5_clear 2 RX5 D cy) (hr : meth.sig.returnType = (some .int)) (hk : meth.locks = false) {res : Int32 × Gs} (hl : lv_has ls 2 [(0, .ref (sb 13))]) (M : Ws D b0 cy sb db g s H locs) (h : m_X5_clear  g = some res) : W p l e ({ frames := 0, cells := 0, slots := 0, locals := 0 } : Room) s m args below meth c H locs 0 0 (MQ below (QX (some (.int res.1)) D b0 cy sb db res.2) args s 0 0 (fun q => b0 ≤ q)) (F0 m 0 ls []) := by
  obtain ⟨hx, hb, hml, hown, hts, hK⟩ := id C0
  rw [m_X5_clear] at h
  refine lv_aload_n hx hb dX5_clear_0 rfl (lv_at hl 0 rfl) ?_
  refine gf_RX5_98 C0 M dX5_clear_1 ?_
  obtain ⟨x_1, hn_2, h⟩ := lett_s h
  refine nm_i hn_2 ?_
  refine lv_istore_n (lv' := [(1, .int x_1), (0, .ref (sb 13))]) hx hb dX5_clear_4 rfl hl (by decide) rfl (fun ls hl => ?_)
  refine lv_aload_n hx hb dX5_clear_5 rfl (lv_at hl 1 rfl) ?_
  refine lv_iconst (v := 0) hx hb dX5_clear_6 (by decide) ?_
  obtain ⟨g_3, hg_4, h⟩ := lett_s h
  refine pf_RX5_98 C0 M hg_4 dX5_clear_7 (fun H locs M => ?_)
  refine lv_aload_n hx hb dX5_clear_10 rfl (lv_at hl 1 rfl) ?_
  refine lv_iconst (v := 0) hx hb dX5_clear_11 (by decide) ?_
  obtain ⟨g_5, hg_6, h⟩ := lett_s h
  refine pf_RX5_86 C0 M hg_6 dX5_clear_12 (fun H locs M => ?_)
  refine lv_aload_n hx hb dX5_clear_15 rfl (lv_at hl 1 rfl) ?_
  refine lv_iconst (v := 0) hx hb dX5_clear_16 (by decide) ?_
  obtain ⟨g_7, hg_8, h⟩ := lett_s h
  refine pf_RX5_89 C0 M hg_8 dX5_clear_17 (fun H locs M => ?_)
  refine lv_aload_n hx hb dX5_clear_20 rfl (lv_at hl 1 rfl) ?_
  refine lv_iconst (v := 0) hx hb dX5_clear_21 (by decide) ?_
  obtain ⟨g_9, hg_10, h⟩ := lett_s h
  refine pf_RX5_105 C0 M hg_10 dX5_clear_22 (fun H locs M => ?_)
  refine lv_aload_n hx hb dX5_clear_25 rfl (lv_at hl 1 rfl) ?_
  refine lv_iconst (v := 0) hx hb dX5_clear_26 (by decide) ?_
  obtain ⟨g_11, hg_12, h⟩ := lett_s h
  refine pf_RX5_175 C0 M hg_12 dX5_clear_27 (fun H locs M => ?_)
  refine lv_aload_n hx hb dX5_clear_30 rfl (lv_at hl 1 rfl) ?_
  refine lv_iconst (v := 0) hx hb dX5_clear_31 (by decide) ?_
  obtain ⟨g_13, hg_14, h⟩ := lett_s h
  refine pf_RX5_72 C0 M hg_14 dX5_clear_32 (fun H locs M => ?_)
  refine lv_aload_n hx hb dX5_clear_35 rfl (lv_at hl 1 rfl) ?_
  refine lv_iconst (v := 0) hx hb dX5_clear_36 (by decide) ?_
  obtain ⟨g_15, hg_16, h⟩ := lett_s h
  refine pf_RX5_65 C0 M hg_16 dX5_clear_37 (fun H locs M => ?_)
  refine lv_aload_n hx hb dX5_clear_40 rfl (lv_at hl 1 rfl) ?_
  refine lv_iconst (v := -1) hx hb dX5_clear_41 (by decide) ?_
  obtain ⟨g_17, hg_18, h⟩ := lett_s h
  refine pf_RX5_9 C0 M hg_18 dX5_clear_42 (fun H locs M => ?_)
  refine lv_iload_n hx hb dX5_clear_45 rfl (lv_at hl 0 rfl) ?_
  obtain rfl := Option.some.inj h
  exact rt_i C0 M hr hk dX5_clear_46
theorem k_X5_clear  {res : Int32 × Gs} (h : m_X5_clear  g = some res) : CM l yX5_clear cX5_clear 2 (some .int) ({ frames := 0, cells := 0, slots := 0, locals := 0 } : Room) [.ref (sb 13)] (some (.int res.1)) D b0 cy sb db g res.2 := by
  refine Met.ofW (cc := cX5_clear) (maxL := 2) (ret := (some .int)) (by decide) rfl ?_
  intro p e s m args below meth c s₁ B hml hv
  obtain ⟨rfl, hW, hK⟩ := hv
  have hl := lv_entry [.ref (sb 13)] (n := 2) (Nat.le_of_ble_eq_true rfl)
  rw [lg_entry_eq]
  generalize (lg_sl [.ref (sb 13)] ++ List.replicate (2 - (lg_sl [.ref (sb 13)]).length) Slot.unset).toArray = ls at hl ⊢
  have hl : lv_has ls 2 [(0, .ref (sb 13))] := hl
  exact w_X5_clear ⟨B.exec, B.bytes, hml, findClass_of_methodNamed B.named, fun w hw => atoms_spec (ws := Cond.code yX5_clear cX5_clear 2 (some .int) :: wsL_law) B.pre w (List.mem_cons_of_mem _ hw), hK⟩ B.returns B.notSynchronized hl ⟨hW, va_S.rf⟩ h
theorem Y_X5_clear : Yv yX5_clear RX5 cX5_clear 2 (some .int) 0 := ⟨⟨kw_28_23, kw_1_5, by decide +kernel, by decide +kernel, by decide +kernel⟩, kw_28_21, kw_28_22⟩
end WALK
