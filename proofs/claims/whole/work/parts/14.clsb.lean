section WALK
variable {p : Program} {l : Launch} {e : Env} {s : State} {m : MethodId} {args : Array Value} {below : List Frame} {meth : Method} {c : Code} {H : Heap} {locs : List Loc}
variable {ls : Array Slot} {D : va_G} {b0 : Nat} {cy : Cy} {sb db : Nat → Nat} {g : Gs}
-- X4_findCut
def m_X4_findCut_L65 (n1 : Nat) (x2 : Int32) (x4 : Int32) (x5 : Int32) : Nat → Int32 → Int32 → Gs → Option ((Int32 × Gs) ⊕ (Int32 × Gs))
  | 0, _, _, _ => none
  | fu + 1, x3, x6, g =>
  (m_X2_length 0 (2 : Int32) g).bind fun y_21 => if 0 ≤ (lg_cmp x6.toInt64 y_21) then (some (.inr (x3, g))) else (chk (inb (0 : Int32) 3) (lett ((g.1 5 0 (0 : Int32).toNatClampNeg) + x4) fun x_24 => chk (inb (1 : Int32) 3) (lett ((g.1 5 0 (1 : Int32).toNatClampNeg) + x5) fun x_27 => chk (inb (2 : Int32) 3) (lett ((g.1 5 0 (2 : Int32).toNatClampNeg) + x6) fun x_30 => (m_X2_firstBeyond (n1 + 1) x_24 x_27 x_30 g).bind fun x_33 => if x_33 = (-1 : Int32) then ((m_X2_place (n1 + 1) x_24 x_27 x_30 g).bind fun x_36 => chk (inb x3 500) (lett (sI g 3 0 x3.toNatClampNeg (x2 + x_36)) fun g_38 => lett (x3 + 1) fun x_40 => lett (x6 + 1) fun x_42 => m_X4_findCut_L65 n1 x2 x4 x5 fu x_40 x_42 g_38)) else (some (.inl (x_33, g)))))))
def m_X4_findCut_L47 (n1 : Nat) (x2 : Int32) (x4 : Int32) : Nat → Int32 → Int32 → Gs → Option ((Int32 × Gs) ⊕ (Int32 × Gs))
  | 0, _, _, _ => none
  | fu + 1, x3, x5, g =>
  (m_X2_length 0 (1 : Int32) g).bind fun y_16 => if 0 ≤ (lg_cmp x5.toInt64 y_16) then (some (.inr (x3, g))) else (lett (0 : Int32) fun x_18 => (m_X4_findCut_L65 n1 x2 x4 x5 FU x3 x_18 g).bind fun q_48 => exi q_48 (fun r => some (.inl r)) fun (x_44, g_45) => lett (x5 + 1) fun x_46 => m_X4_findCut_L47 n1 x2 x4 fu x_44 x_46 g_45)
def m_X4_findCut_L29 (n1 : Nat) (x2 : Int32) : Nat → Int32 → Int32 → Gs → Option ((Int32 × Gs) ⊕ (Gs))
  | 0, _, _, _ => none
  | fu + 1, x3, x4, g =>
  (m_X2_length 0 (0 : Int32) g).bind fun y_11 => if 0 ≤ (lg_cmp x4.toInt64 y_11) then (some (.inr g)) else (lett (0 : Int32) fun x_13 => (m_X4_findCut_L47 n1 x2 x4 FU x3 x_13 g).bind fun q_54 => exi q_54 (fun r => some (.inl r)) fun (x_50, g_51) => lett (x4 + 1) fun x_52 => m_X4_findCut_L29 n1 x2 fu x_50 x_52 g_51)
def m_X4_findCut (n1 : Nat) (g : Gs) : Option (Int32 × Gs) :=
  chk (n1 < 24) ((m_X2_items 0 g).bind fun x_2 => if x_2 = 0 then (some ((-1 : Int32), g)) else ((m_X3_startOf (g.1 17 n1 0) g).bind fun x_5 => lett (0 : Int32) fun x_6 => lett (0 : Int32) fun x_8 => (m_X4_findCut_L29 n1 x_5 FU x_6 x_8 g).bind fun q_57 => exi q_57 (fun r => some r) fun g_56 => some ((-1 : Int32), g_56)))
set_option maxHeartbeats 4000000 in
set_option maxRecDepth 100000 in
theorem w_X4_findCut_L65 {n1 : Nat} {x2 : Int32} {x4 : Int32} {x5 : Int32} (hB1 : n1 < 24) (C0 : Cx p s m args c cX4_findCut 11 RX4 D cy) (hr : meth.sig.returnType = (some .int)) (hk : meth.locks = false) {res : Int32 × Gs} {q : (Int32 × Gs) ⊕ (Int32 × Gs)} (hret : ∀ r, q = .inl r → r = res) (kk : ∀ (x3 : Int32) (g : Gs) (H : Heap) (locs : List Loc) (ls : Array Slot), q = .inr (x3, g) → lv_has ls 11 [(0, .ref (sb 0)), (1, .ref (sb (400 + n1))), (2, .int x2), (3, .int x3), (4, .int x4), (5, .int x5)] → Ws D b0 cy sb db g s H locs → W p l e ({ frames := 3, cells := 0, slots := 0, locals := 69 } : Room) s m args below meth c H locs 0 0 (MQ below (QX (some (.int res.1)) D b0 cy sb db res.2) args s 0 0 (fun q => b0 ≤ q)) (F0 m 176 ls [])) : ∀ (fu : Nat) (x3 : Int32) (x6 : Int32) (g : Gs) (H : Heap) (locs : List Loc) (ls : Array Slot), lv_has ls 11 [(0, .ref (sb 0)), (1, .ref (sb (400 + n1))), (2, .int x2), (3, .int x3), (4, .int x4), (5, .int x5), (6, .int x6)] → Ws D b0 cy sb db g s H locs → m_X4_findCut_L65 n1 x2 x4 x5 fu x3 x6 g = some q → W p l e ({ frames := 3, cells := 0, slots := 0, locals := 69 } : Room) s m args below meth c H locs 0 0 (MQ below (QX (some (.int res.1)) D b0 cy sb db res.2) args s 0 0 (fun q => b0 ≤ q)) (F0 m 65 ls []) := by
  obtain ⟨hx, hb, hml, hown, hts, hK⟩ := id C0
  intro fu
  induction fu with
  | zero =>
    intro x3 x6 g H locs ls hl M h
    cases h
  | succ fu ih =>
    intro x3 x6 g H locs ls hl M h
    rw [m_X4_findCut_L65] at h
    refine lv_iload hx hb dX4_findCut_65 (lv_at hl 6 rfl) ?_
    refine lv_i2l hx hb dX4_findCut_67 rfl ?_
    refine lv_aload_n hx hb dX4_findCut_68 rfl (lv_at hl 0 rfl) ?_
    refine gf_RX4_12 C0 M dX4_findCut_69 ?_
    refine lv_iconst (v := 2) hx hb dX4_findCut_72 (by decide) ?_
    obtain ⟨y_21, hc_20, h⟩ := bnd_s h
    refine kV (As := [.int (2 : Int32)]) (rest := [.long x6.toInt64]) (stk := [.long y_21, .long x6.toInt64]) (val := (some (.long y_21))) (c1 := 0) (s1 := 0) C0 M (k_X2_length hc_20) kw_8_2 Y_X2_length (rv_X2 C0 M (by decide)) ⟨Nat.le_of_ble_eq_true rfl, Nat.le_of_ble_eq_true rfl⟩ rfl hl.1 rfl (Nat.le_of_ble_eq_true rfl) dX4_findCut_73 rfl rfl ⟨Nat.le_refl _, Nat.le_refl _⟩ rfl (fun H locs M => ?_)
    refine W.lcmp hx hb dX4_findCut_76 ?_
    refine lv_if_ge (tgt := 176) hx hb dX4_findCut_77 (by decide) (fun c_22 => ?_) (fun c_22 => ?_)
    · rw [if_pos c_22] at h
      exact kk _ _ _ _ _ (Option.some.inj h).symm (lv_sub hl [0, 1, 2, 3, 4, 5] rfl) M
    · rw [if_neg c_22] at h
      refine lv_aload_n hx hb dX4_findCut_80 rfl (lv_at hl 0 rfl) ?_
      refine gf_RX4_12 C0 M dX4_findCut_81 ?_
      refine gf_RX4_219 C0 M (by decide) dX4_findCut_84 ?_
      refine lv_iconst (v := 0) hx hb dX4_findCut_87 (by decide) ?_
      obtain ⟨hi_23, h⟩ := chk_s h
      refine al_LOW C0 M (by decide) hi_23 dX4_findCut_88 ?_
      refine lv_iload hx hb dX4_findCut_89 (lv_at hl 4 rfl) ?_
      refine lv_iadd hx hb dX4_findCut_91 ?_
      obtain ⟨x_24, hn_25, h⟩ := lett_s h
      refine nm_i hn_25 ?_
      refine lv_istore (lv' := [(7, .int x_24), (0, .ref (sb 0)), (1, .ref (sb (400 + n1))), (2, .int x2), (3, .int x3), (4, .int x4), (5, .int x5), (6, .int x6)]) hx hb dX4_findCut_92 hl (by decide) rfl (fun ls hl => ?_)
      refine lv_aload_n hx hb dX4_findCut_94 rfl (lv_at hl 1 rfl) ?_
      refine gf_RX4_12 C0 M dX4_findCut_95 ?_
      refine gf_RX4_219 C0 M (by decide) dX4_findCut_98 ?_
      refine lv_iconst (v := 1) hx hb dX4_findCut_101 (by decide) ?_
      obtain ⟨hi_26, h⟩ := chk_s h
      refine al_LOW C0 M (by decide) hi_26 dX4_findCut_102 ?_
      refine lv_iload hx hb dX4_findCut_103 (lv_at hl 6 rfl) ?_
      refine lv_iadd hx hb dX4_findCut_105 ?_
      obtain ⟨x_27, hn_28, h⟩ := lett_s h
      refine nm_i hn_28 ?_
      refine lv_istore (lv' := [(8, .int x_27), (7, .int x_24), (0, .ref (sb 0)), (1, .ref (sb (400 + n1))), (2, .int x2), (3, .int x3), (4, .int x4), (5, .int x5), (6, .int x6)]) hx hb dX4_findCut_106 hl (by decide) rfl (fun ls hl => ?_)
      refine lv_aload_n hx hb dX4_findCut_108 rfl (lv_at hl 2 rfl) ?_
      refine gf_RX4_12 C0 M dX4_findCut_109 ?_
      refine gf_RX4_219 C0 M (by decide) dX4_findCut_112 ?_
      refine lv_iconst (v := 2) hx hb dX4_findCut_115 (by decide) ?_
      obtain ⟨hi_29, h⟩ := chk_s h
      refine al_LOW C0 M (by decide) hi_29 dX4_findCut_116 ?_
      refine lv_iload hx hb dX4_findCut_117 (lv_at hl 8 rfl) ?_
      refine lv_iadd hx hb dX4_findCut_119 ?_
      obtain ⟨x_30, hn_31, h⟩ := lett_s h
      refine nm_i hn_31 ?_
      refine lv_istore (lv' := [(9, .int x_30), (8, .int x_27), (7, .int x_24), (0, .ref (sb 0)), (1, .ref (sb (400 + n1))), (2, .int x2), (3, .int x3), (4, .int x4), (5, .int x5), (6, .int x6)]) hx hb dX4_findCut_120 hl (by decide) rfl (fun ls hl => ?_)
      refine lv_aload_n hx hb dX4_findCut_122 rfl (lv_at hl 4 rfl) ?_
      refine gf_RX4_88 C0 M hB1 dX4_findCut_123 ?_
      refine lv_iload hx hb dX4_findCut_126 (lv_at hl 2 rfl) ?_
      refine lv_iload hx hb dX4_findCut_128 (lv_at hl 1 rfl) ?_
      refine lv_iload hx hb dX4_findCut_130 (lv_at hl 0 rfl) ?_
      obtain ⟨x_33, hc_32, h⟩ := bnd_s h
      refine kV (As := [.int x_24, .int x_27, .int x_30]) (rest := []) (stk := [.int x_33]) (val := (some (.int x_33))) (c1 := 0) (s1 := 0) C0 M (k_X2_firstBeyond hc_32) kw_16_10 Y_X2_firstBeyond (rv_X2 C0 M (Nat.succ_lt_succ hB1)) ⟨Nat.le_of_ble_eq_true rfl, Nat.le_of_ble_eq_true rfl⟩ rfl hl.1 rfl (Nat.le_of_ble_eq_true rfl) dX4_findCut_132 rfl rfl ⟨Nat.le_refl _, Nat.le_refl _⟩ rfl (fun H locs M => ?_)
      refine lv_istore (lv' := [(10, .int x_33), (9, .int x_30), (8, .int x_27), (7, .int x_24), (0, .ref (sb 0)), (1, .ref (sb (400 + n1))), (2, .int x2), (3, .int x3), (4, .int x4), (5, .int x5), (6, .int x6)]) hx hb dX4_findCut_135 hl (by decide) rfl (fun ls hl => ?_)
      refine lv_iload hx hb dX4_findCut_137 (lv_at hl 0 rfl) ?_
      refine lv_iconst (v := -1) hx hb dX4_findCut_139 (by decide) ?_
      refine lv_icmp_eq (tgt := 146) hx hb dX4_findCut_140 (by decide) (fun c_34 => ?_) (fun c_34 => ?_)
      · rw [if_pos c_34] at h
        refine lv_aload_n hx hb dX4_findCut_146 rfl (lv_at hl 4 rfl) ?_
        refine gf_RX4_36 C0 M dX4_findCut_147 ?_
        refine lv_iload_n hx hb dX4_findCut_150 rfl (lv_at hl 7 rfl) ?_
        refine lv_iload_n hx hb dX4_findCut_151 rfl (lv_at hl 6 rfl) ?_
        refine lv_aload_n hx hb dX4_findCut_152 rfl (lv_at hl 5 rfl) ?_
        refine gf_RX4_88 C0 M hB1 dX4_findCut_153 ?_
        refine lv_iload hx hb dX4_findCut_156 (lv_at hl 3 rfl) ?_
        refine lv_iload hx hb dX4_findCut_158 (lv_at hl 2 rfl) ?_
        refine lv_iload hx hb dX4_findCut_160 (lv_at hl 1 rfl) ?_
        obtain ⟨x_36, hc_35, h⟩ := bnd_s h
        refine kV (As := [.int x_24, .int x_27, .int x_30]) (rest := [.int x2, .int x3, .ref (sb 2)]) (stk := [.int x_36, .int x2, .int x3, .ref (sb 2)]) (val := (some (.int x_36))) (c1 := 0) (s1 := 0) C0 M (k_X2_place hc_35) kw_16_21 Y_X2_place (rv_X2 C0 M (Nat.succ_lt_succ hB1)) ⟨Nat.le_of_ble_eq_true rfl, Nat.le_of_ble_eq_true rfl⟩ rfl hl.1 rfl (Nat.le_of_ble_eq_true rfl) dX4_findCut_162 rfl rfl ⟨Nat.le_refl _, Nat.le_refl _⟩ rfl (fun H locs M => ?_)
        refine lv_iadd hx hb dX4_findCut_165 ?_
        obtain ⟨hi_37, h⟩ := chk_s h
        obtain ⟨g_38, hg_39, h⟩ := lett_s h
        refine as_SRC C0 M hi_37 hg_39 dX4_findCut_166 (fun H locs M => ?_)
        obtain ⟨x_40, hn_41, h⟩ := lett_s h
        refine lv_iinc (v := x_40) (lv' := [(3, .int x_40), (10, .int x_33), (9, .int x_30), (8, .int x_27), (7, .int x_24), (0, .ref (sb 0)), (1, .ref (sb (400 + n1))), (2, .int x2), (4, .int x4), (5, .int x5), (6, .int x6)]) hx hb dX4_findCut_167 hl (k := 7) rfl (by rw [hn_41]; rfl) (by decide) rfl (fun ls hl => ?_)
        obtain ⟨x_42, hn_43, h⟩ := lett_s h
        refine lv_iinc (v := x_42) (lv' := [(6, .int x_42), (3, .int x_40), (10, .int x_33), (9, .int x_30), (8, .int x_27), (7, .int x_24), (0, .ref (sb 0)), (1, .ref (sb (400 + n1))), (2, .int x2), (4, .int x4), (5, .int x5)]) hx hb dX4_findCut_170 hl (k := 10) rfl (by rw [hn_43]; rfl) (by decide) rfl (fun ls hl => ?_)
        refine lv_goto (tgt := 65) hx hb dX4_findCut_173 (by decide) ?_
        exact ih _ _ _ _ _ _ (lv_sub hl [6, 7, 8, 1, 9, 10, 0] rfl) M h
      · rw [if_neg c_34] at h
        refine lv_iload hx hb dX4_findCut_143 (lv_at hl 0 rfl) ?_
        obtain rfl := Option.some.inj h
        obtain rfl := hret _ rfl
        exact rt_i C0 M hr hk dX4_findCut_145
set_option maxHeartbeats 4000000 in
set_option maxRecDepth 100000 in
theorem w_X4_findCut_L47 {n1 : Nat} {x2 : Int32} {x4 : Int32} (hB1 : n1 < 24) (C0 : Cx p s m args c cX4_findCut 11 RX4 D cy) (hr : meth.sig.returnType = (some .int)) (hk : meth.locks = false) {res : Int32 × Gs} {q : (Int32 × Gs) ⊕ (Int32 × Gs)} (hret : ∀ r, q = .inl r → r = res) (kk : ∀ (x3 : Int32) (g : Gs) (H : Heap) (locs : List Loc) (ls : Array Slot), q = .inr (x3, g) → lv_has ls 11 [(0, .ref (sb 0)), (1, .ref (sb (400 + n1))), (2, .int x2), (3, .int x3), (4, .int x4)] → Ws D b0 cy sb db g s H locs → W p l e ({ frames := 3, cells := 0, slots := 0, locals := 69 } : Room) s m args below meth c H locs 0 0 (MQ below (QX (some (.int res.1)) D b0 cy sb db res.2) args s 0 0 (fun q => b0 ≤ q)) (F0 m 182 ls [])) : ∀ (fu : Nat) (x3 : Int32) (x5 : Int32) (g : Gs) (H : Heap) (locs : List Loc) (ls : Array Slot), lv_has ls 11 [(0, .ref (sb 0)), (1, .ref (sb (400 + n1))), (2, .int x2), (3, .int x3), (4, .int x4), (5, .int x5)] → Ws D b0 cy sb db g s H locs → m_X4_findCut_L47 n1 x2 x4 fu x3 x5 g = some q → W p l e ({ frames := 3, cells := 0, slots := 0, locals := 69 } : Room) s m args below meth c H locs 0 0 (MQ below (QX (some (.int res.1)) D b0 cy sb db res.2) args s 0 0 (fun q => b0 ≤ q)) (F0 m 47 ls []) := by
  obtain ⟨hx, hb, hml, hown, hts, hK⟩ := id C0
  intro fu
  induction fu with
  | zero =>
    intro x3 x5 g H locs ls hl M h
    cases h
  | succ fu ih =>
    intro x3 x5 g H locs ls hl M h
    rw [m_X4_findCut_L47] at h
    refine lv_iload hx hb dX4_findCut_47 (lv_at hl 5 rfl) ?_
    refine lv_i2l hx hb dX4_findCut_49 rfl ?_
    refine lv_aload_n hx hb dX4_findCut_50 rfl (lv_at hl 0 rfl) ?_
    refine gf_RX4_12 C0 M dX4_findCut_51 ?_
    refine lv_iconst (v := 1) hx hb dX4_findCut_54 (by decide) ?_
    obtain ⟨y_16, hc_15, h⟩ := bnd_s h
    refine kV (As := [.int (1 : Int32)]) (rest := [.long x5.toInt64]) (stk := [.long y_16, .long x5.toInt64]) (val := (some (.long y_16))) (c1 := 0) (s1 := 0) C0 M (k_X2_length hc_15) kw_8_2 Y_X2_length (rv_X2 C0 M (by decide)) ⟨Nat.le_of_ble_eq_true rfl, Nat.le_of_ble_eq_true rfl⟩ rfl hl.1 rfl (Nat.le_of_ble_eq_true rfl) dX4_findCut_55 rfl rfl ⟨Nat.le_refl _, Nat.le_refl _⟩ rfl (fun H locs M => ?_)
    refine W.lcmp hx hb dX4_findCut_58 ?_
    refine lv_if_ge (tgt := 182) hx hb dX4_findCut_59 (by decide) (fun c_17 => ?_) (fun c_17 => ?_)
    · rw [if_pos c_17] at h
      exact kk _ _ _ _ _ (Option.some.inj h).symm (lv_sub hl [0, 1, 2, 3, 4] rfl) M
    · rw [if_neg c_17] at h
      refine lv_iconst (v := 0) hx hb dX4_findCut_62 (by decide) ?_
      obtain ⟨x_18, hn_19, h⟩ := lett_s h
      refine nm_i hn_19 ?_
      refine lv_istore (lv' := [(6, .int x_18), (0, .ref (sb 0)), (1, .ref (sb (400 + n1))), (2, .int x2), (3, .int x3), (4, .int x4), (5, .int x5)]) hx hb dX4_findCut_63 hl (by decide) rfl (fun ls hl => ?_)
      obtain ⟨q_48, hq_49, h⟩ := bnd_s h
      refine w_X4_findCut_L65 hB1 C0 hr hk (q := q_48) (fun r hq => ?_) (fun x_44 g_45 H locs ls hq hl M => ?_) FU _ _ _ _ _ _ (lv_sub hl [1, 2, 3, 4, 5, 6, 0] rfl) M hq_49
      · subst hq
        exact hret _ (Option.some.inj h).symm
      subst q_48
      try dsimp only [exi] at h
      obtain ⟨x_46, hn_47, h⟩ := lett_s h
      refine lv_iinc (v := x_46) (lv' := [(5, .int x_46), (0, .ref (sb 0)), (1, .ref (sb (400 + n1))), (2, .int x2), (3, .int x_44), (4, .int x4)]) hx hb dX4_findCut_176 hl (k := 5) rfl (by rw [hn_47]; rfl) (by decide) rfl (fun ls hl => ?_)
      refine lv_goto (tgt := 47) hx hb dX4_findCut_179 (by decide) ?_
      exact ih _ _ _ _ _ _ (lv_sub hl [1, 2, 3, 4, 5, 0] rfl) M h
set_option maxHeartbeats 4000000 in
set_option maxRecDepth 100000 in
theorem w_X4_findCut_L29 {n1 : Nat} {x2 : Int32} (hB1 : n1 < 24) (C0 : Cx p s m args c cX4_findCut 11 RX4 D cy) (hr : meth.sig.returnType = (some .int)) (hk : meth.locks = false) {res : Int32 × Gs} {q : (Int32 × Gs) ⊕ (Gs)} (hret : ∀ r, q = .inl r → r = res) (kk : ∀ (g : Gs) (H : Heap) (locs : List Loc) (ls : Array Slot), q = .inr g → lv_has ls 11 [] → Ws D b0 cy sb db g s H locs → W p l e ({ frames := 3, cells := 0, slots := 0, locals := 69 } : Room) s m args below meth c H locs 0 0 (MQ below (QX (some (.int res.1)) D b0 cy sb db res.2) args s 0 0 (fun q => b0 ≤ q)) (F0 m 188 ls [])) : ∀ (fu : Nat) (x3 : Int32) (x4 : Int32) (g : Gs) (H : Heap) (locs : List Loc) (ls : Array Slot), lv_has ls 11 [(0, .ref (sb 0)), (1, .ref (sb (400 + n1))), (2, .int x2), (3, .int x3), (4, .int x4)] → Ws D b0 cy sb db g s H locs → m_X4_findCut_L29 n1 x2 fu x3 x4 g = some q → W p l e ({ frames := 3, cells := 0, slots := 0, locals := 69 } : Room) s m args below meth c H locs 0 0 (MQ below (QX (some (.int res.1)) D b0 cy sb db res.2) args s 0 0 (fun q => b0 ≤ q)) (F0 m 29 ls []) := by
  obtain ⟨hx, hb, hml, hown, hts, hK⟩ := id C0
  intro fu
  induction fu with
  | zero =>
    intro x3 x4 g H locs ls hl M h
    cases h
  | succ fu ih =>
    intro x3 x4 g H locs ls hl M h
    rw [m_X4_findCut_L29] at h
    refine lv_iload hx hb dX4_findCut_29 (lv_at hl 4 rfl) ?_
    refine lv_i2l hx hb dX4_findCut_31 rfl ?_
    refine lv_aload_n hx hb dX4_findCut_32 rfl (lv_at hl 0 rfl) ?_
    refine gf_RX4_12 C0 M dX4_findCut_33 ?_
    refine lv_iconst (v := 0) hx hb dX4_findCut_36 (by decide) ?_
    obtain ⟨y_11, hc_10, h⟩ := bnd_s h
    refine kV (As := [.int (0 : Int32)]) (rest := [.long x4.toInt64]) (stk := [.long y_11, .long x4.toInt64]) (val := (some (.long y_11))) (c1 := 0) (s1 := 0) C0 M (k_X2_length hc_10) kw_8_2 Y_X2_length (rv_X2 C0 M (by decide)) ⟨Nat.le_of_ble_eq_true rfl, Nat.le_of_ble_eq_true rfl⟩ rfl hl.1 rfl (Nat.le_of_ble_eq_true rfl) dX4_findCut_37 rfl rfl ⟨Nat.le_refl _, Nat.le_refl _⟩ rfl (fun H locs M => ?_)
    refine W.lcmp hx hb dX4_findCut_40 ?_
    refine lv_if_ge (tgt := 188) hx hb dX4_findCut_41 (by decide) (fun c_12 => ?_) (fun c_12 => ?_)
    · rw [if_pos c_12] at h
      exact kk _ _ _ _ (Option.some.inj h).symm (lv_sub hl [] rfl) M
    · rw [if_neg c_12] at h
      refine lv_iconst (v := 0) hx hb dX4_findCut_44 (by decide) ?_
      obtain ⟨x_13, hn_14, h⟩ := lett_s h
      refine nm_i hn_14 ?_
      refine lv_istore (lv' := [(5, .int x_13), (0, .ref (sb 0)), (1, .ref (sb (400 + n1))), (2, .int x2), (3, .int x3), (4, .int x4)]) hx hb dX4_findCut_45 hl (by decide) rfl (fun ls hl => ?_)
      obtain ⟨q_54, hq_55, h⟩ := bnd_s h
      refine w_X4_findCut_L47 hB1 C0 hr hk (q := q_54) (fun r hq => ?_) (fun x_50 g_51 H locs ls hq hl M => ?_) FU _ _ _ _ _ _ (lv_sub hl [1, 2, 3, 4, 5, 0] rfl) M hq_55
      · subst hq
        exact hret _ (Option.some.inj h).symm
      subst q_54
      try dsimp only [exi] at h
      obtain ⟨x_52, hn_53, h⟩ := lett_s h
      refine lv_iinc (v := x_52) (lv' := [(4, .int x_52), (0, .ref (sb 0)), (1, .ref (sb (400 + n1))), (2, .int x2), (3, .int x_50)]) hx hb dX4_findCut_182 hl (k := 4) rfl (by rw [hn_53]; rfl) (by decide) rfl (fun ls hl => ?_)
      refine lv_goto (tgt := 29) hx hb dX4_findCut_185 (by decide) ?_
      exact ih _ _ _ _ _ _ (lv_sub hl [1, 2, 3, 4, 0] rfl) M h
set_option maxHeartbeats 4000000 in
set_option maxRecDepth 100000 in
theorem w_X4_findCut {n1 : Nat} (C0 : Cx p s m args c cX4_findCut 11 RX4 D cy) (hr : meth.sig.returnType = (some .int)) (hk : meth.locks = false) {res : Int32 × Gs} (hl : lv_has ls 11 [(0, .ref (sb 0)), (1, .ref (sb (400 + n1)))]) (M : Ws D b0 cy sb db g s H locs) (h : m_X4_findCut n1 g = some res) : W p l e ({ frames := 3, cells := 0, slots := 0, locals := 69 } : Room) s m args below meth c H locs 0 0 (MQ below (QX (some (.int res.1)) D b0 cy sb db res.2) args s 0 0 (fun q => b0 ≤ q)) (F0 m 0 ls []) := by
  obtain ⟨hx, hb, hml, hown, hts, hK⟩ := id C0
  rw [m_X4_findCut] at h
  obtain ⟨hB1, h⟩ := chk_s h
  refine lv_aload_n hx hb dX4_findCut_0 rfl (lv_at hl 0 rfl) ?_
  refine gf_RX4_12 C0 M dX4_findCut_1 ?_
  obtain ⟨x_2, hc_1, h⟩ := bnd_s h
  refine kV (As := []) (rest := []) (stk := [.int x_2]) (val := (some (.int x_2))) (c1 := 0) (s1 := 0) C0 M (k_X2_items hc_1) kw_7_10 Y_X2_items (rv_X2 C0 M (by decide)) ⟨Nat.le_of_ble_eq_true rfl, Nat.le_of_ble_eq_true rfl⟩ rfl hl.1 rfl (Nat.le_of_ble_eq_true rfl) dX4_findCut_4 rfl rfl ⟨Nat.le_refl _, Nat.le_refl _⟩ rfl (fun H locs M => ?_)
  refine lv_if_ne (tgt := 12) hx hb dX4_findCut_7 (by decide) (fun c_3 => ?_) (fun c_3 => ?_)
  · rw [if_neg c_3] at h
    refine lv_aload_n hx hb dX4_findCut_12 rfl (lv_at hl 0 rfl) ?_
    refine gf_RX4_26 C0 M dX4_findCut_13 ?_
    refine lv_aload_n hx hb dX4_findCut_16 rfl (lv_at hl 1 rfl) ?_
    refine gf_RX4_100 C0 M hB1 dX4_findCut_17 ?_
    obtain ⟨x_5, hc_4, h⟩ := bnd_s h
    refine kV (As := [.int (g.1 17 n1 0)]) (rest := []) (stk := [.int x_5]) (val := (some (.int x_5))) (c1 := 0) (s1 := 0) C0 M (k_X3_startOf hc_4) kw_15_1 Y_X3_startOf (rv_X3 C0 M) ⟨Nat.le_of_ble_eq_true rfl, Nat.le_of_ble_eq_true rfl⟩ rfl hl.1 rfl (Nat.le_of_ble_eq_true rfl) dX4_findCut_20 rfl rfl ⟨Nat.le_refl _, Nat.le_refl _⟩ rfl (fun H locs M => ?_)
    refine lv_istore_n (lv' := [(2, .int x_5), (0, .ref (sb 0)), (1, .ref (sb (400 + n1)))]) hx hb dX4_findCut_23 rfl hl (by decide) rfl (fun ls hl => ?_)
    refine lv_iconst (v := 0) hx hb dX4_findCut_24 (by decide) ?_
    obtain ⟨x_6, hn_7, h⟩ := lett_s h
    refine nm_i hn_7 ?_
    refine lv_istore_n (lv' := [(3, .int x_6), (2, .int x_5), (0, .ref (sb 0)), (1, .ref (sb (400 + n1)))]) hx hb dX4_findCut_25 rfl hl (by decide) rfl (fun ls hl => ?_)
    refine lv_iconst (v := 0) hx hb dX4_findCut_26 (by decide) ?_
    obtain ⟨x_8, hn_9, h⟩ := lett_s h
    refine nm_i hn_9 ?_
    refine lv_istore (lv' := [(4, .int x_8), (3, .int x_6), (2, .int x_5), (0, .ref (sb 0)), (1, .ref (sb (400 + n1)))]) hx hb dX4_findCut_27 hl (by decide) rfl (fun ls hl => ?_)
    obtain ⟨q_57, hq_58, h⟩ := bnd_s h
    refine w_X4_findCut_L29 hB1 C0 hr hk (q := q_57) (fun r hq => ?_) (fun g_56 H locs ls hq hl M => ?_) FU _ _ _ _ _ _ (lv_sub hl [3, 4, 2, 1, 0] rfl) M hq_58
    · subst hq
      exact Option.some.inj h
    subst q_57
    try dsimp only [exi] at h
    refine lv_iconst (v := -1) hx hb dX4_findCut_188 (by decide) ?_
    obtain rfl := Option.some.inj h
    exact rt_i C0 M hr hk dX4_findCut_189
  · rw [if_pos c_3] at h
    refine lv_iconst (v := -1) hx hb dX4_findCut_10 (by decide) ?_
    obtain rfl := Option.some.inj h
    exact rt_i C0 M hr hk dX4_findCut_11
theorem k_X4_findCut {n1 : Nat} {res : Int32 × Gs} (h : m_X4_findCut n1 g = some res) : CM l yX4_findCut cX4_findCut 11 (some .int) ({ frames := 3, cells := 0, slots := 0, locals := 69 } : Room) [.ref (sb 0), .ref (sb (400 + n1))] (some (.int res.1)) D b0 cy sb db g res.2 := by
  refine Met.ofW (cc := cX4_findCut) (maxL := 11) (ret := (some .int)) (by decide) rfl ?_
  intro p e s m args below meth c s₁ B hml hv
  obtain ⟨rfl, hW, hK⟩ := hv
  have hl := lv_entry [.ref (sb 0), .ref (sb (400 + n1))] (n := 11) (Nat.le_of_ble_eq_true rfl)
  rw [lg_entry_eq]
  generalize (lg_sl [.ref (sb 0), .ref (sb (400 + n1))] ++ List.replicate (11 - (lg_sl [.ref (sb 0), .ref (sb (400 + n1))]).length) Slot.unset).toArray = ls at hl ⊢
  have hl : lv_has ls 11 [(0, .ref (sb 0)), (1, .ref (sb (400 + n1)))] := hl
  exact w_X4_findCut ⟨B.exec, B.bytes, hml, findClass_of_methodNamed B.named, fun w hw => atoms_spec (ws := Cond.code yX4_findCut cX4_findCut 11 (some .int) :: wsL_law) B.pre w (List.mem_cons_of_mem _ hw), hK⟩ B.returns B.notSynchronized hl ⟨hW, va_S.rf⟩ h
theorem Y_X4_findCut : Yv yX4_findCut RX4 cX4_findCut 11 (some .int) 1 := ⟨⟨kw_16_8, kw_1_2, by decide +kernel, by decide +kernel, by decide +kernel⟩, kw_16_6, kw_16_7⟩
-- X4_stopBeyond
def m_X4_stopBeyond (x1 : Int32) (g : Gs) : Option (Int32 × Gs) :=
  lett (sI g 2 0 0 x1) fun g_1 => (m_X4_stop (3 : Int32) g_1).bind fun (x_4, g_5) => some (x_4, g_5)
set_option maxHeartbeats 4000000 in
set_option maxRecDepth 100000 in
theorem w_X4_stopBeyond {x1 : Int32} (C0 : Cx p s m args c cX4_stopBeyond 2 RX4 D cy) (hr : meth.sig.returnType = (some .int)) (hk : meth.locks = false) {res : Int32 × Gs} (hl : lv_has ls 2 [(0, .ref (sb 0)), (1, .int x1)]) (M : Ws D b0 cy sb db g s H locs) (h : m_X4_stopBeyond x1 g = some res) : W p l e ({ frames := 2, cells := 0, slots := 0, locals := 43 } : Room) s m args below meth c H locs 0 0 (MQ below (QX (some (.int res.1)) D b0 cy sb db res.2) args s 0 0 (fun q => b0 ≤ q)) (F0 m 0 ls []) := by
  obtain ⟨hx, hb, hml, hown, hts, hK⟩ := id C0
  rw [m_X4_stopBeyond] at h
  refine lv_aload_n hx hb dX4_stopBeyond_0 rfl (lv_at hl 0 rfl) ?_
  refine lv_iload_n hx hb dX4_stopBeyond_1 rfl (lv_at hl 1 rfl) ?_
  obtain ⟨g_1, hg_2, h⟩ := lett_s h
  refine pf_RX4_47 C0 M hg_2 dX4_stopBeyond_2 (fun H locs M => ?_)
  refine lv_aload_n hx hb dX4_stopBeyond_5 rfl (lv_at hl 0 rfl) ?_
  refine lv_iconst (v := 3) hx hb dX4_stopBeyond_6 (by decide) ?_
  obtain ⟨⟨x_4, g_5⟩, hc_3, h⟩ := bnd_s h
  try dsimp only at h
  refine kV (As := [.int (3 : Int32)]) (rest := []) (stk := [.int x_4]) (val := (some (.int x_4))) (c1 := 0) (s1 := 0) C0 M (k_X4_stop hc_3) kw_5_10 Y_X4_stop (rv_X4 C0 M) ⟨Nat.le_of_ble_eq_true rfl, Nat.le_of_ble_eq_true rfl⟩ rfl hl.1 rfl (Nat.le_of_ble_eq_true rfl) dX4_stopBeyond_7 rfl rfl ⟨Nat.le_refl _, Nat.le_refl _⟩ rfl (fun H locs M => ?_)
  obtain rfl := Option.some.inj h
  exact rt_i C0 M hr hk dX4_stopBeyond_10
theorem k_X4_stopBeyond {x1 : Int32} {res : Int32 × Gs} (h : m_X4_stopBeyond x1 g = some res) : CM l yX4_stopBeyond cX4_stopBeyond 2 (some .int) ({ frames := 2, cells := 0, slots := 0, locals := 43 } : Room) [.ref (sb 0), .int x1] (some (.int res.1)) D b0 cy sb db g res.2 := by
  refine Met.ofW (cc := cX4_stopBeyond) (maxL := 2) (ret := (some .int)) (by decide) rfl ?_
  intro p e s m args below meth c s₁ B hml hv
  obtain ⟨rfl, hW, hK⟩ := hv
  have hl := lv_entry [.ref (sb 0), .int x1] (n := 2) (Nat.le_of_ble_eq_true rfl)
  rw [lg_entry_eq]
  generalize (lg_sl [.ref (sb 0), .int x1] ++ List.replicate (2 - (lg_sl [.ref (sb 0), .int x1]).length) Slot.unset).toArray = ls at hl ⊢
  have hl : lv_has ls 2 [(0, .ref (sb 0)), (1, .int x1)] := hl
  exact w_X4_stopBeyond ⟨B.exec, B.bytes, hml, findClass_of_methodNamed B.named, fun w hw => atoms_spec (ws := Cond.code yX4_stopBeyond cX4_stopBeyond 2 (some .int) :: wsL_law) B.pre w (List.mem_cons_of_mem _ hw), hK⟩ B.returns B.notSynchronized hl ⟨hW, va_S.rf⟩ h
theorem Y_X4_stopBeyond : Yv yX4_stopBeyond RX4 cX4_stopBeyond 2 (some .int) 1 := ⟨⟨kw_17_8, kw_1_2, by decide +kernel, by decide +kernel, by decide +kernel⟩, kw_17_6, kw_17_7⟩
-- X4_whyNoTableRow
def m_X4_whyNoTableRow (o1 : Option Nat) (x2 : Int32) (g : Gs) : Option (Int32 × Gs) :=
  cas o1 (some ((7 : Int32), g)) fun n_1 => if (g.1 16 n_1 0) = (4 : Int32) then ((m_X2_holds (n_1 + 1) (0 : Int32) x2 g).bind fun x_5 => if x_5 = 0 then (lett (sI g 2 0 0 (0 : Int32)) fun g_7 => some ((3 : Int32), g_7)) else (some ((0 : Int32), g))) else (some ((2 : Int32), g))
set_option maxHeartbeats 4000000 in
set_option maxRecDepth 100000 in
theorem w_X4_whyNoTableRow {o1 : Option Nat} {x2 : Int32} (C0 : Cx p s m args c cX4_whyNoTableRow 3 RX4 D cy) (hr : meth.sig.returnType = (some .int)) (hk : meth.locks = false) {res : Int32 × Gs} (hl : lv_has ls 3 [(0, .ref (sb 0)), (1, rfA sb o1), (2, .int x2)]) (M : Ws D b0 cy sb db g s H locs) (h : m_X4_whyNoTableRow o1 x2 g = some res) : W p l e ({ frames := 1, cells := 0, slots := 0, locals := 22 } : Room) s m args below meth c H locs 0 0 (MQ below (QX (some (.int res.1)) D b0 cy sb db res.2) args s 0 0 (fun q => b0 ≤ q)) (F0 m 0 ls []) := by
  obtain ⟨hx, hb, hml, hown, hts, hK⟩ := id C0
  rw [m_X4_whyNoTableRow] at h
  refine lq_aload_n hx hb o1 dX4_whyNoTableRow_0 rfl (lv_at hl 1 rfl) ?_
  cases o1 with
  | none =>
    try dsimp only [cas] at h
    refine lv_ifnonnullN hx hb dX4_whyNoTableRow_1 ?_
    refine lv_bipush (v := 7) hx hb dX4_whyNoTableRow_4 (by decide) ?_
    obtain rfl := Option.some.inj h
    exact rt_i C0 M hr hk dX4_whyNoTableRow_6
  | some n_1 =>
    obtain ⟨hB_2, h⟩ := chk_s (show chk _ _ = _ from h)
    try dsimp only at h
    have hl : lv_has ls 3 [(0, .ref (sb 0)), (1, .ref (sb (400 + n_1))), (2, .int x2)] := hl
    refine lv_ifnonnull (tgt := 7) hx hb dX4_whyNoTableRow_1 (by decide) ?_
    refine lv_aload_n hx hb dX4_whyNoTableRow_7 rfl (lv_at hl 1 rfl) ?_
    refine gf_RX4_106 C0 M hB_2 dX4_whyNoTableRow_8 ?_
    refine lv_iconst (v := 4) hx hb dX4_whyNoTableRow_11 (by decide) ?_
    refine lv_icmp_eq (tgt := 17) hx hb dX4_whyNoTableRow_12 (by decide) (fun c_3 => ?_) (fun c_3 => ?_)
    · rw [if_pos c_3] at h
      refine lv_aload_n hx hb dX4_whyNoTableRow_17 rfl (lv_at hl 1 rfl) ?_
      refine gf_RX4_88 C0 M hB_2 dX4_whyNoTableRow_18 ?_
      refine lv_iconst (v := 0) hx hb dX4_whyNoTableRow_21 (by decide) ?_
      refine lv_iload_n hx hb dX4_whyNoTableRow_22 rfl (lv_at hl 2 rfl) ?_
      obtain ⟨x_5, hc_4, h⟩ := bnd_s h
      refine kV (As := [.int (0 : Int32), .int x2]) (rest := []) (stk := [.int x_5]) (val := (some (.int x_5))) (c1 := 0) (s1 := 0) C0 M (k_X2_holds hc_4) kw_19_13 Y_X2_holds (rv_X2 C0 M (Nat.succ_lt_succ hB_2)) ⟨Nat.le_of_ble_eq_true rfl, Nat.le_of_ble_eq_true rfl⟩ rfl hl.1 rfl (Nat.le_of_ble_eq_true rfl) dX4_whyNoTableRow_23 rfl rfl ⟨Nat.le_refl _, Nat.le_refl _⟩ rfl (fun H locs M => ?_)
      refine lv_if_ne (tgt := 36) hx hb dX4_whyNoTableRow_26 (by decide) (fun c_6 => ?_) (fun c_6 => ?_)
      · rw [if_neg c_6] at h
        refine lv_iconst (v := 0) hx hb dX4_whyNoTableRow_36 (by decide) ?_
        obtain rfl := Option.some.inj h
        exact rt_i C0 M hr hk dX4_whyNoTableRow_37
      · rw [if_pos c_6] at h
        refine lv_aload_n hx hb dX4_whyNoTableRow_29 rfl (lv_at hl 0 rfl) ?_
        refine lv_iconst (v := 0) hx hb dX4_whyNoTableRow_30 (by decide) ?_
        obtain ⟨g_7, hg_8, h⟩ := lett_s h
        refine pf_RX4_47 C0 M hg_8 dX4_whyNoTableRow_31 (fun H locs M => ?_)
        refine lv_iconst (v := 3) hx hb dX4_whyNoTableRow_34 (by decide) ?_
        obtain rfl := Option.some.inj h
        exact rt_i C0 M hr hk dX4_whyNoTableRow_35
    · rw [if_neg c_3] at h
      refine lv_iconst (v := 2) hx hb dX4_whyNoTableRow_15 (by decide) ?_
      obtain rfl := Option.some.inj h
      exact rt_i C0 M hr hk dX4_whyNoTableRow_16
theorem k_X4_whyNoTableRow {o1 : Option Nat} {x2 : Int32} {res : Int32 × Gs} (h : m_X4_whyNoTableRow o1 x2 g = some res) : CM l yX4_whyNoTableRow cX4_whyNoTableRow 3 (some .int) ({ frames := 1, cells := 0, slots := 0, locals := 22 } : Room) [.ref (sb 0), rfA sb o1, .int x2] (some (.int res.1)) D b0 cy sb db g res.2 := by
  refine Met.ofW (cc := cX4_whyNoTableRow) (maxL := 3) (ret := (some .int)) (by decide) rfl ?_
  intro p e s m args below meth c s₁ B hml hv
  obtain ⟨rfl, hW, hK⟩ := hv
  cases o1 with
  | none =>
    have hl := lv_entry [.ref (sb 0), rfA sb none, .int x2] (n := 3) (Nat.le_of_ble_eq_true rfl)
    rw [lg_entry_eq]
    generalize (lg_sl [.ref (sb 0), rfA sb none, .int x2] ++ List.replicate (3 - (lg_sl [.ref (sb 0), rfA sb none, .int x2]).length) Slot.unset).toArray = ls at hl ⊢
    have hl : lv_has ls 3 [(0, .ref (sb 0)), (1, rfA sb none), (2, .int x2)] := hl
    exact w_X4_whyNoTableRow ⟨B.exec, B.bytes, hml, findClass_of_methodNamed B.named, fun w hw => atoms_spec (ws := Cond.code yX4_whyNoTableRow cX4_whyNoTableRow 3 (some .int) :: wsL_law) B.pre w (List.mem_cons_of_mem _ hw), hK⟩ B.returns B.notSynchronized hl ⟨hW, va_S.rf⟩ h
  | some no1 =>
    have hl := lv_entry [.ref (sb 0), rfA sb (some no1), .int x2] (n := 3) (Nat.le_of_ble_eq_true rfl)
    rw [lg_entry_eq]
    generalize (lg_sl [.ref (sb 0), rfA sb (some no1), .int x2] ++ List.replicate (3 - (lg_sl [.ref (sb 0), rfA sb (some no1), .int x2]).length) Slot.unset).toArray = ls at hl ⊢
    have hl : lv_has ls 3 [(0, .ref (sb 0)), (1, rfA sb (some no1)), (2, .int x2)] := hl
    exact w_X4_whyNoTableRow ⟨B.exec, B.bytes, hml, findClass_of_methodNamed B.named, fun w hw => atoms_spec (ws := Cond.code yX4_whyNoTableRow cX4_whyNoTableRow 3 (some .int) :: wsL_law) B.pre w (List.mem_cons_of_mem _ hw), hK⟩ B.returns B.notSynchronized hl ⟨hW, va_S.rf⟩ h
theorem Y_X4_whyNoTableRow : Yv yX4_whyNoTableRow RX4 cX4_whyNoTableRow 3 (some .int) 2 := ⟨⟨kw_19_12, kw_1_2, by decide +kernel, by decide +kernel, by decide +kernel⟩, kw_19_10, kw_19_11⟩
-- X4_without
def m_X4_without (x1 : Int32) (x2 : Int32) (g : Gs) : Option (Int32 × Gs) :=
  (m_X4_arrayOf x1 g).bind fun o_2 => (m_X4_whyNoTableRow o_2 x2 g).bind fun (x_4, g_5) => if x_4 = 0 then (unw o_2 fun n_7 => (m_X2_offset (n_7 + 1) (0 : Int32) x2 g_5).bind fun x_10 => chk (inb x_10 (g_5.2.2 (500 + n_7))) (lett (sI g_5 18 n_7 x_10.toNatClampNeg (-1 : Int32)) fun g_12 => (m_X4_done (1 : Int32) g_12).bind fun (x_15, g_16) => some (x_15, g_16))) else ((m_X4_stop x_4 g_5).bind fun (x_18, g_19) => some (x_18, g_19))
set_option maxHeartbeats 4000000 in
set_option maxRecDepth 100000 in
theorem w_X4_without {x1 : Int32} {x2 : Int32} (C0 : Cx p s m args c cX4_without 5 RX4 D cy) (hr : meth.sig.returnType = (some .int)) (hk : meth.locks = false) {res : Int32 × Gs} (hl : lv_has ls 5 [(0, .ref (sb 0)), (1, .int x1), (2, .int x2)]) (M : Ws D b0 cy sb db g s H locs) (h : m_X4_without x1 x2 g = some res) : W p l e ({ frames := 2, cells := 0, slots := 0, locals := 44 } : Room) s m args below meth c H locs 0 0 (MQ below (QX (some (.int res.1)) D b0 cy sb db res.2) args s 0 0 (fun q => b0 ≤ q)) (F0 m 0 ls []) := by
  obtain ⟨hx, hb, hml, hown, hts, hK⟩ := id C0
  rw [m_X4_without] at h
  refine lv_aload_n hx hb dX4_without_0 rfl (lv_at hl 0 rfl) ?_
  refine lv_iload_n hx hb dX4_without_1 rfl (lv_at hl 1 rfl) ?_
  obtain ⟨o_2, hc_1, h⟩ := bnd_s h
  refine kV (As := [.int x1]) (rest := []) (stk := [rfA sb o_2]) (val := (some (rfA sb o_2))) (c1 := 0) (s1 := 0) C0 M (k_X4_arrayOf hc_1) kw_13_17 Y_X4_arrayOf (rv_X4 C0 M) ⟨Nat.le_of_ble_eq_true rfl, Nat.le_of_ble_eq_true rfl⟩ rfl hl.1 rfl (Nat.le_of_ble_eq_true rfl) dX4_without_2 rfl rfl ⟨Nat.le_refl _, Nat.le_refl _⟩ rfl (fun H locs M => ?_)
  refine lq_astore_n (lv' := [(3, rfA sb o_2), (0, .ref (sb 0)), (1, .int x1), (2, .int x2)]) hx hb o_2 dX4_without_5 rfl hl (by decide) rfl (fun ls hl => ?_)
  refine lv_aload_n hx hb dX4_without_6 rfl (lv_at hl 1 rfl) ?_
  refine lq_aload_n hx hb o_2 dX4_without_7 rfl (lv_at hl 0 rfl) ?_
  refine lv_iload_n hx hb dX4_without_8 rfl (lv_at hl 3 rfl) ?_
  obtain ⟨⟨x_4, g_5⟩, hc_3, h⟩ := bnd_s h
  try dsimp only at h
  refine kV (As := [rfA sb o_2, .int x2]) (rest := []) (stk := [.int x_4]) (val := (some (.int x_4))) (c1 := 0) (s1 := 0) C0 M (k_X4_whyNoTableRow hc_3) kw_19_9 Y_X4_whyNoTableRow (rv_X4 C0 M) ⟨Nat.le_of_ble_eq_true rfl, Nat.le_of_ble_eq_true rfl⟩ rfl hl.1 rfl (Nat.le_of_ble_eq_true rfl) dX4_without_9 rfl rfl ⟨Nat.le_refl _, Nat.le_refl _⟩ rfl (fun H locs M => ?_)
  refine lv_istore (lv' := [(4, .int x_4), (3, rfA sb o_2), (0, .ref (sb 0)), (1, .int x1), (2, .int x2)]) hx hb dX4_without_12 hl (by decide) (by cases o_2 <;> rfl) (fun ls hl => ?_)
  refine lv_iload hx hb dX4_without_14 (lv_at hl 0 rfl) ?_
  refine lv_if_eq (tgt := 26) hx hb dX4_without_16 (by decide) (fun c_6 => ?_) (fun c_6 => ?_)
  · rw [if_pos c_6] at h
    refine lq_aload_n hx hb o_2 dX4_without_26 rfl (lv_at hl 1 rfl) ?_
    obtain ⟨n_7, rfl, hB_8, h⟩ := unw_s h
    have hl : lv_has ls 5 [(4, .int x_4), (3, .ref (sb (400 + n_7))), (0, .ref (sb 0)), (1, .int x1), (2, .int x2)] := hl
    refine gf_RX4_133 C0 M hB_8 dX4_without_27 ?_
    refine lv_aload_n hx hb dX4_without_30 rfl (lv_at hl 1 rfl) ?_
    refine gf_RX4_88 C0 M hB_8 dX4_without_31 ?_
    refine lv_iconst (v := 0) hx hb dX4_without_34 (by decide) ?_
    refine lv_iload_n hx hb dX4_without_35 rfl (lv_at hl 4 rfl) ?_
    obtain ⟨x_10, hc_9, h⟩ := bnd_s h
    refine kV (As := [.int (0 : Int32), .int x2]) (rest := [.ref (db (500 + n_7))]) (stk := [.int x_10, .ref (db (500 + n_7))]) (val := (some (.int x_10))) (c1 := 0) (s1 := 0) C0 M (k_X2_offset hc_9) kw_19_14 Y_X2_offset (rv_X2 C0 M (Nat.succ_lt_succ hB_8)) ⟨Nat.le_of_ble_eq_true rfl, Nat.le_of_ble_eq_true rfl⟩ rfl hl.1 rfl (Nat.le_of_ble_eq_true rfl) dX4_without_36 rfl rfl ⟨Nat.le_refl _, Nat.le_refl _⟩ rfl (fun H locs M => ?_)
    refine lv_iconst (v := -1) hx hb dX4_without_39 (by decide) ?_
    obtain ⟨hi_11, h⟩ := chk_s h
    obtain ⟨g_12, hg_13, h⟩ := lett_s h
    refine as_ROWS C0 M hB_8 hi_11 hg_13 dX4_without_40 (fun H locs M => ?_)
    refine lv_aload_n hx hb dX4_without_41 rfl (lv_at hl 2 rfl) ?_
    refine lv_iconst (v := 1) hx hb dX4_without_42 (by decide) ?_
    obtain ⟨⟨x_15, g_16⟩, hc_14, h⟩ := bnd_s h
    try dsimp only at h
    refine kV (As := [.int (1 : Int32)]) (rest := []) (stk := [.int x_15]) (val := (some (.int x_15))) (c1 := 0) (s1 := 0) C0 M (k_X4_done hc_14) kw_5_23 Y_X4_done (rv_X4 C0 M) ⟨Nat.le_of_ble_eq_true rfl, Nat.le_of_ble_eq_true rfl⟩ rfl hl.1 rfl (Nat.le_of_ble_eq_true rfl) dX4_without_43 rfl rfl ⟨Nat.le_refl _, Nat.le_refl _⟩ rfl (fun H locs M => ?_)
    obtain rfl := Option.some.inj h
    exact rt_i C0 M hr hk dX4_without_46
  · rw [if_neg c_6] at h
    refine lv_aload_n hx hb dX4_without_19 rfl (lv_at hl 2 rfl) ?_
    refine lv_iload hx hb dX4_without_20 (lv_at hl 0 rfl) ?_
    obtain ⟨⟨x_18, g_19⟩, hc_17, h⟩ := bnd_s h
    try dsimp only at h
    refine kV (As := [.int x_4]) (rest := []) (stk := [.int x_18]) (val := (some (.int x_18))) (c1 := 0) (s1 := 0) C0 M (k_X4_stop hc_17) kw_5_10 Y_X4_stop (rv_X4 C0 M) ⟨Nat.le_of_ble_eq_true rfl, Nat.le_of_ble_eq_true rfl⟩ rfl hl.1 rfl (Nat.le_of_ble_eq_true rfl) dX4_without_22 rfl rfl ⟨Nat.le_refl _, Nat.le_refl _⟩ rfl (fun H locs M => ?_)
    obtain rfl := Option.some.inj h
    exact rt_i C0 M hr hk dX4_without_25
theorem k_X4_without {x1 : Int32} {x2 : Int32} {res : Int32 × Gs} (h : m_X4_without x1 x2 g = some res) : CM l yX4_without cX4_without 5 (some .int) ({ frames := 2, cells := 0, slots := 0, locals := 44 } : Room) [.ref (sb 0), .int x1, .int x2] (some (.int res.1)) D b0 cy sb db g res.2 := by
  refine Met.ofW (cc := cX4_without) (maxL := 5) (ret := (some .int)) (by decide) rfl ?_
  intro p e s m args below meth c s₁ B hml hv
  obtain ⟨rfl, hW, hK⟩ := hv
  have hl := lv_entry [.ref (sb 0), .int x1, .int x2] (n := 5) (Nat.le_of_ble_eq_true rfl)
  rw [lg_entry_eq]
  generalize (lg_sl [.ref (sb 0), .int x1, .int x2] ++ List.replicate (5 - (lg_sl [.ref (sb 0), .int x1, .int x2]).length) Slot.unset).toArray = ls at hl ⊢
  have hl : lv_has ls 5 [(0, .ref (sb 0)), (1, .int x1), (2, .int x2)] := hl
  exact w_X4_without ⟨B.exec, B.bytes, hml, findClass_of_methodNamed B.named, fun w hw => atoms_spec (ws := Cond.code yX4_without cX4_without 5 (some .int) :: wsL_law) B.pre w (List.mem_cons_of_mem _ hw), hK⟩ B.returns B.notSynchronized hl ⟨hW, va_S.rf⟩ h
theorem Y_X4_without : Yv yX4_without RX4 cX4_without 5 (some .int) 2 := ⟨⟨kw_20_6, kw_1_2, by decide +kernel, by decide +kernel, by decide +kernel⟩, kw_20_4, kw_20_5⟩
-- X4_tie
def m_X4_tie_J24  (g : Gs) : Option (Int32 × Gs) :=
  (m_X4_stop (7 : Int32) g).bind fun (x_6, g_7) => some (x_6, g_7)
def m_X4_tie_J49  (g : Gs) : Option (Int32 × Gs) :=
  (m_X4_stop (2 : Int32) g).bind fun (x_14, g_15) => some (x_14, g_15)
def m_X4_tie (x1 : Int32) (x2 : Int32) (x3 : Int32) (x4 : Int32) (g : Gs) : Option (Int32 × Gs) :=
  (m_X4_arrayOf x1 g).bind fun o_2 => (m_X4_arrayOf x3 g).bind fun o_4 => cas o_2 (m_X4_tie_J24  g) fun n_8 => cas o_4 (m_X4_tie_J24  g) fun n_10 => if (g.1 16 n_8 0) = (4 : Int32) then (if (g.1 16 n_10 0) = (4 : Int32) then ((m_X2_holds (n_8 + 1) (0 : Int32) x2 g).bind fun x_18 => if x_18 = 0 then ((m_X4_stopBeyond (0 : Int32) g).bind fun (x_38, g_39) => some (x_38, g_39)) else ((m_X2_holds (n_10 + 1) (0 : Int32) x4 g).bind fun x_21 => if x_21 = 0 then ((m_X4_stopBeyond (1 : Int32) g).bind fun (x_35, g_36) => some (x_35, g_36)) else ((m_X2_offset (n_8 + 1) (0 : Int32) x2 g).bind fun x_24 => (m_X2_offset (n_10 + 1) (0 : Int32) x4 g).bind fun x_26 => chk (inb x_26 (g.2.2 (500 + n_10))) (chk (inb x_24 (g.2.2 (500 + n_8))) (lett (sI g 18 n_8 x_24.toNatClampNeg (g.1 18 n_10 x_26.toNatClampNeg)) fun g_29 => (m_X4_done (1 : Int32) g_29).bind fun (x_32, g_33) => some (x_32, g_33)))))) else (m_X4_tie_J49  g)) else (m_X4_tie_J49  g)
set_option maxHeartbeats 4000000 in
set_option maxRecDepth 100000 in
theorem w_X4_tie_J24  (C0 : Cx p s m args c cX4_tie 7 RX4 D cy) (hr : meth.sig.returnType = (some .int)) (hk : meth.locks = false) {res : Int32 × Gs} (hl : lv_has ls 7 [(0, .ref (sb 0))]) (M : Ws D b0 cy sb db g s H locs) (h : m_X4_tie_J24  g = some res) : W p l e ({ frames := 3, cells := 0, slots := 0, locals := 64 } : Room) s m args below meth c H locs 0 0 (MQ below (QX (some (.int res.1)) D b0 cy sb db res.2) args s 0 0 (fun q => b0 ≤ q)) (F0 m 24 ls []) := by
  obtain ⟨hx, hb, hml, hown, hts, hK⟩ := id C0
  rw [m_X4_tie_J24] at h
  refine lv_aload_n hx hb dX4_tie_24 rfl (lv_at hl 0 rfl) ?_
  refine lv_bipush (v := 7) hx hb dX4_tie_25 (by decide) ?_
  obtain ⟨⟨x_6, g_7⟩, hc_5, h⟩ := bnd_s h
  try dsimp only at h
  refine kV (As := [.int (7 : Int32)]) (rest := []) (stk := [.int x_6]) (val := (some (.int x_6))) (c1 := 0) (s1 := 0) C0 M (k_X4_stop hc_5) kw_5_10 Y_X4_stop (rv_X4 C0 M) ⟨Nat.le_of_ble_eq_true rfl, Nat.le_of_ble_eq_true rfl⟩ rfl hl.1 rfl (Nat.le_of_ble_eq_true rfl) dX4_tie_27 rfl rfl ⟨Nat.le_refl _, Nat.le_refl _⟩ rfl (fun H locs M => ?_)
  obtain rfl := Option.some.inj h
  exact rt_i C0 M hr hk dX4_tie_30
set_option maxHeartbeats 4000000 in
set_option maxRecDepth 100000 in
theorem w_X4_tie_J49  (C0 : Cx p s m args c cX4_tie 7 RX4 D cy) (hr : meth.sig.returnType = (some .int)) (hk : meth.locks = false) {res : Int32 × Gs} (hl : lv_has ls 7 [(0, .ref (sb 0))]) (M : Ws D b0 cy sb db g s H locs) (h : m_X4_tie_J49  g = some res) : W p l e ({ frames := 3, cells := 0, slots := 0, locals := 64 } : Room) s m args below meth c H locs 0 0 (MQ below (QX (some (.int res.1)) D b0 cy sb db res.2) args s 0 0 (fun q => b0 ≤ q)) (F0 m 49 ls []) := by
  obtain ⟨hx, hb, hml, hown, hts, hK⟩ := id C0
  rw [m_X4_tie_J49] at h
  refine lv_aload_n hx hb dX4_tie_49 rfl (lv_at hl 0 rfl) ?_
  refine lv_iconst (v := 2) hx hb dX4_tie_50 (by decide) ?_
  obtain ⟨⟨x_14, g_15⟩, hc_13, h⟩ := bnd_s h
  try dsimp only at h
  refine kV (As := [.int (2 : Int32)]) (rest := []) (stk := [.int x_14]) (val := (some (.int x_14))) (c1 := 0) (s1 := 0) C0 M (k_X4_stop hc_13) kw_5_10 Y_X4_stop (rv_X4 C0 M) ⟨Nat.le_of_ble_eq_true rfl, Nat.le_of_ble_eq_true rfl⟩ rfl hl.1 rfl (Nat.le_of_ble_eq_true rfl) dX4_tie_51 rfl rfl ⟨Nat.le_refl _, Nat.le_refl _⟩ rfl (fun H locs M => ?_)
  obtain rfl := Option.some.inj h
  exact rt_i C0 M hr hk dX4_tie_54
set_option maxHeartbeats 4000000 in
set_option maxRecDepth 100000 in
theorem w_X4_tie {x1 : Int32} {x2 : Int32} {x3 : Int32} {x4 : Int32} (C0 : Cx p s m args c cX4_tie 7 RX4 D cy) (hr : meth.sig.returnType = (some .int)) (hk : meth.locks = false) {res : Int32 × Gs} (hl : lv_has ls 7 [(0, .ref (sb 0)), (1, .int x1), (2, .int x2), (3, .int x3), (4, .int x4)]) (M : Ws D b0 cy sb db g s H locs) (h : m_X4_tie x1 x2 x3 x4 g = some res) : W p l e ({ frames := 3, cells := 0, slots := 0, locals := 64 } : Room) s m args below meth c H locs 0 0 (MQ below (QX (some (.int res.1)) D b0 cy sb db res.2) args s 0 0 (fun q => b0 ≤ q)) (F0 m 0 ls []) := by
  obtain ⟨hx, hb, hml, hown, hts, hK⟩ := id C0
  rw [m_X4_tie] at h
  refine lv_aload_n hx hb dX4_tie_0 rfl (lv_at hl 0 rfl) ?_
  refine lv_iload_n hx hb dX4_tie_1 rfl (lv_at hl 1 rfl) ?_
  obtain ⟨o_2, hc_1, h⟩ := bnd_s h
  refine kV (As := [.int x1]) (rest := []) (stk := [rfA sb o_2]) (val := (some (rfA sb o_2))) (c1 := 0) (s1 := 0) C0 M (k_X4_arrayOf hc_1) kw_13_17 Y_X4_arrayOf (rv_X4 C0 M) ⟨Nat.le_of_ble_eq_true rfl, Nat.le_of_ble_eq_true rfl⟩ rfl hl.1 rfl (Nat.le_of_ble_eq_true rfl) dX4_tie_2 rfl rfl ⟨Nat.le_refl _, Nat.le_refl _⟩ rfl (fun H locs M => ?_)
  refine lq_astore (lv' := [(5, rfA sb o_2), (0, .ref (sb 0)), (1, .int x1), (2, .int x2), (3, .int x3), (4, .int x4)]) hx hb o_2 dX4_tie_5 hl (by decide) rfl (fun ls hl => ?_)
  refine lv_aload_n hx hb dX4_tie_7 rfl (lv_at hl 1 rfl) ?_
  refine lv_iload_n hx hb dX4_tie_8 rfl (lv_at hl 4 rfl) ?_
  obtain ⟨o_4, hc_3, h⟩ := bnd_s h
  refine kV (As := [.int x3]) (rest := []) (stk := [rfA sb o_4]) (val := (some (rfA sb o_4))) (c1 := 0) (s1 := 0) C0 M (k_X4_arrayOf hc_3) kw_13_17 Y_X4_arrayOf (rv_X4 C0 M) ⟨Nat.le_of_ble_eq_true rfl, Nat.le_of_ble_eq_true rfl⟩ rfl hl.1 rfl (Nat.le_of_ble_eq_true rfl) dX4_tie_9 rfl rfl ⟨Nat.le_refl _, Nat.le_refl _⟩ rfl (fun H locs M => ?_)
  refine lq_astore (lv' := [(6, rfA sb o_4), (5, rfA sb o_2), (0, .ref (sb 0)), (1, .int x1), (2, .int x2), (3, .int x3), (4, .int x4)]) hx hb o_4 dX4_tie_12 hl (by decide) (by cases o_2 <;> rfl) (fun ls hl => ?_)
  refine lq_aload hx hb o_2 dX4_tie_14 (lv_at hl 1 rfl) ?_
  cases o_2 with
  | none =>
    try dsimp only [cas] at h
    refine lv_ifnullN (tgt := 24) hx hb dX4_tie_16 (by decide) ?_
    exact w_X4_tie_J24 C0 hr hk (lv_sub hl [2] rfl) M h
  | some n_8 =>
    obtain ⟨hB_9, h⟩ := chk_s (show chk _ _ = _ from h)
    try dsimp only at h
    have hl : lv_has ls 7 [(6, rfA sb o_4), (5, .ref (sb (400 + n_8))), (0, .ref (sb 0)), (1, .int x1), (2, .int x2), (3, .int x3), (4, .int x4)] := hl
    refine lv_ifnull hx hb dX4_tie_16 ?_
    refine lq_aload hx hb o_4 dX4_tie_19 (lv_at hl 0 rfl) ?_
    cases o_4 with
    | none =>
      try dsimp only [cas] at h
      refine lv_ifnonnullN hx hb dX4_tie_21 ?_
      exact w_X4_tie_J24 C0 hr hk (lv_sub hl [2] rfl) M h
    | some n_10 =>
      obtain ⟨hB_11, h⟩ := chk_s (show chk _ _ = _ from h)
      try dsimp only at h
      have hl : lv_has ls 7 [(6, .ref (sb (400 + n_10))), (5, .ref (sb (400 + n_8))), (0, .ref (sb 0)), (1, .int x1), (2, .int x2), (3, .int x3), (4, .int x4)] := hl
      refine lv_ifnonnull (tgt := 31) hx hb dX4_tie_21 (by decide) ?_
      refine lv_aload hx hb dX4_tie_31 (lv_at hl 1 rfl) ?_
      refine gf_RX4_106 C0 M hB_9 dX4_tie_33 ?_
      refine lv_iconst (v := 4) hx hb dX4_tie_36 (by decide) ?_
      refine lv_icmp_ne (tgt := 49) hx hb dX4_tie_37 (by decide) (fun c_12 => ?_) (fun c_12 => ?_)
      · rw [if_neg c_12] at h
        exact w_X4_tie_J49 C0 hr hk (lv_sub hl [2] rfl) M h
      · rw [if_pos c_12] at h
        refine lv_aload hx hb dX4_tie_40 (lv_at hl 0 rfl) ?_
        refine gf_RX4_106 C0 M hB_11 dX4_tie_42 ?_
        refine lv_iconst (v := 4) hx hb dX4_tie_45 (by decide) ?_
        refine lv_icmp_eq (tgt := 55) hx hb dX4_tie_46 (by decide) (fun c_16 => ?_) (fun c_16 => ?_)
        · rw [if_pos c_16] at h
          refine lv_aload hx hb dX4_tie_55 (lv_at hl 1 rfl) ?_
          refine gf_RX4_88 C0 M hB_9 dX4_tie_57 ?_
          refine lv_iconst (v := 0) hx hb dX4_tie_60 (by decide) ?_
          refine lv_iload_n hx hb dX4_tie_61 rfl (lv_at hl 4 rfl) ?_
          obtain ⟨x_18, hc_17, h⟩ := bnd_s h
          refine kV (As := [.int (0 : Int32), .int x2]) (rest := []) (stk := [.int x_18]) (val := (some (.int x_18))) (c1 := 0) (s1 := 0) C0 M (k_X2_holds hc_17) kw_19_13 Y_X2_holds (rv_X2 C0 M (Nat.succ_lt_succ hB_9)) ⟨Nat.le_of_ble_eq_true rfl, Nat.le_of_ble_eq_true rfl⟩ rfl hl.1 rfl (Nat.le_of_ble_eq_true rfl) dX4_tie_62 rfl rfl ⟨Nat.le_refl _, Nat.le_refl _⟩ rfl (fun H locs M => ?_)
          refine lv_if_ne (tgt := 74) hx hb dX4_tie_65 (by decide) (fun c_19 => ?_) (fun c_19 => ?_)
          · rw [if_neg c_19] at h
            refine lv_aload hx hb dX4_tie_74 (lv_at hl 0 rfl) ?_
            refine gf_RX4_88 C0 M hB_11 dX4_tie_76 ?_
            refine lv_iconst (v := 0) hx hb dX4_tie_79 (by decide) ?_
            refine lv_iload hx hb dX4_tie_80 (lv_at hl 6 rfl) ?_
            obtain ⟨x_21, hc_20, h⟩ := bnd_s h
            refine kV (As := [.int (0 : Int32), .int x4]) (rest := []) (stk := [.int x_21]) (val := (some (.int x_21))) (c1 := 0) (s1 := 0) C0 M (k_X2_holds hc_20) kw_19_13 Y_X2_holds (rv_X2 C0 M (Nat.succ_lt_succ hB_11)) ⟨Nat.le_of_ble_eq_true rfl, Nat.le_of_ble_eq_true rfl⟩ rfl hl.1 rfl (Nat.le_of_ble_eq_true rfl) dX4_tie_82 rfl rfl ⟨Nat.le_refl _, Nat.le_refl _⟩ rfl (fun H locs M => ?_)
            refine lv_if_ne (tgt := 94) hx hb dX4_tie_85 (by decide) (fun c_22 => ?_) (fun c_22 => ?_)
            · rw [if_neg c_22] at h
              refine lv_aload hx hb dX4_tie_94 (lv_at hl 1 rfl) ?_
              refine gf_RX4_133 C0 M hB_9 dX4_tie_96 ?_
              refine lv_aload hx hb dX4_tie_99 (lv_at hl 1 rfl) ?_
              refine gf_RX4_88 C0 M hB_9 dX4_tie_101 ?_
              refine lv_iconst (v := 0) hx hb dX4_tie_104 (by decide) ?_
              refine lv_iload_n hx hb dX4_tie_105 rfl (lv_at hl 4 rfl) ?_
              obtain ⟨x_24, hc_23, h⟩ := bnd_s h
              refine kV (As := [.int (0 : Int32), .int x2]) (rest := [.ref (db (500 + n_8))]) (stk := [.int x_24, .ref (db (500 + n_8))]) (val := (some (.int x_24))) (c1 := 0) (s1 := 0) C0 M (k_X2_offset hc_23) kw_19_14 Y_X2_offset (rv_X2 C0 M (Nat.succ_lt_succ hB_9)) ⟨Nat.le_of_ble_eq_true rfl, Nat.le_of_ble_eq_true rfl⟩ rfl hl.1 rfl (Nat.le_of_ble_eq_true rfl) dX4_tie_106 rfl rfl ⟨Nat.le_refl _, Nat.le_refl _⟩ rfl (fun H locs M => ?_)
              refine lv_aload hx hb dX4_tie_109 (lv_at hl 0 rfl) ?_
              refine gf_RX4_133 C0 M hB_11 dX4_tie_111 ?_
              refine lv_aload hx hb dX4_tie_114 (lv_at hl 0 rfl) ?_
              refine gf_RX4_88 C0 M hB_11 dX4_tie_116 ?_
              refine lv_iconst (v := 0) hx hb dX4_tie_119 (by decide) ?_
              refine lv_iload hx hb dX4_tie_120 (lv_at hl 6 rfl) ?_
              obtain ⟨x_26, hc_25, h⟩ := bnd_s h
              refine kV (As := [.int (0 : Int32), .int x4]) (rest := [.ref (db (500 + n_10)), .int x_24, .ref (db (500 + n_8))]) (stk := [.int x_26, .ref (db (500 + n_10)), .int x_24, .ref (db (500 + n_8))]) (val := (some (.int x_26))) (c1 := 0) (s1 := 0) C0 M (k_X2_offset hc_25) kw_19_14 Y_X2_offset (rv_X2 C0 M (Nat.succ_lt_succ hB_11)) ⟨Nat.le_of_ble_eq_true rfl, Nat.le_of_ble_eq_true rfl⟩ rfl hl.1 rfl (Nat.le_of_ble_eq_true rfl) dX4_tie_122 rfl rfl ⟨Nat.le_refl _, Nat.le_refl _⟩ rfl (fun H locs M => ?_)
              obtain ⟨hi_27, h⟩ := chk_s h
              refine al_ROWS C0 M hB_11 hi_27 dX4_tie_125 ?_
              obtain ⟨hi_28, h⟩ := chk_s h
              obtain ⟨g_29, hg_30, h⟩ := lett_s h
              refine as_ROWS C0 M hB_9 hi_28 hg_30 dX4_tie_126 (fun H locs M => ?_)
              refine lv_aload_n hx hb dX4_tie_127 rfl (lv_at hl 2 rfl) ?_
              refine lv_iconst (v := 1) hx hb dX4_tie_128 (by decide) ?_
              obtain ⟨⟨x_32, g_33⟩, hc_31, h⟩ := bnd_s h
              try dsimp only at h
              refine kV (As := [.int (1 : Int32)]) (rest := []) (stk := [.int x_32]) (val := (some (.int x_32))) (c1 := 0) (s1 := 0) C0 M (k_X4_done hc_31) kw_5_23 Y_X4_done (rv_X4 C0 M) ⟨Nat.le_of_ble_eq_true rfl, Nat.le_of_ble_eq_true rfl⟩ rfl hl.1 rfl (Nat.le_of_ble_eq_true rfl) dX4_tie_129 rfl rfl ⟨Nat.le_refl _, Nat.le_refl _⟩ rfl (fun H locs M => ?_)
              obtain rfl := Option.some.inj h
              exact rt_i C0 M hr hk dX4_tie_132
            · rw [if_pos c_22] at h
              refine lv_aload_n hx hb dX4_tie_88 rfl (lv_at hl 2 rfl) ?_
              refine lv_iconst (v := 1) hx hb dX4_tie_89 (by decide) ?_
              obtain ⟨⟨x_35, g_36⟩, hc_34, h⟩ := bnd_s h
              try dsimp only at h
              refine kV (As := [.int (1 : Int32)]) (rest := []) (stk := [.int x_35]) (val := (some (.int x_35))) (c1 := 0) (s1 := 0) C0 M (k_X4_stopBeyond hc_34) kw_17_5 Y_X4_stopBeyond (rv_X4 C0 M) ⟨Nat.le_of_ble_eq_true rfl, Nat.le_of_ble_eq_true rfl⟩ rfl hl.1 rfl (Nat.le_of_ble_eq_true rfl) dX4_tie_90 rfl rfl ⟨Nat.le_refl _, Nat.le_refl _⟩ rfl (fun H locs M => ?_)
              obtain rfl := Option.some.inj h
              exact rt_i C0 M hr hk dX4_tie_93
          · rw [if_pos c_19] at h
            refine lv_aload_n hx hb dX4_tie_68 rfl (lv_at hl 2 rfl) ?_
            refine lv_iconst (v := 0) hx hb dX4_tie_69 (by decide) ?_
            obtain ⟨⟨x_38, g_39⟩, hc_37, h⟩ := bnd_s h
            try dsimp only at h
            refine kV (As := [.int (0 : Int32)]) (rest := []) (stk := [.int x_38]) (val := (some (.int x_38))) (c1 := 0) (s1 := 0) C0 M (k_X4_stopBeyond hc_37) kw_17_5 Y_X4_stopBeyond (rv_X4 C0 M) ⟨Nat.le_of_ble_eq_true rfl, Nat.le_of_ble_eq_true rfl⟩ rfl hl.1 rfl (Nat.le_of_ble_eq_true rfl) dX4_tie_70 rfl rfl ⟨Nat.le_refl _, Nat.le_refl _⟩ rfl (fun H locs M => ?_)
            obtain rfl := Option.some.inj h
            exact rt_i C0 M hr hk dX4_tie_73
        · rw [if_neg c_16] at h
          exact w_X4_tie_J49 C0 hr hk (lv_sub hl [2] rfl) M h
theorem k_X4_tie {x1 : Int32} {x2 : Int32} {x3 : Int32} {x4 : Int32} {res : Int32 × Gs} (h : m_X4_tie x1 x2 x3 x4 g = some res) : CM l yX4_tie cX4_tie 7 (some .int) ({ frames := 3, cells := 0, slots := 0, locals := 64 } : Room) [.ref (sb 0), .int x1, .int x2, .int x3, .int x4] (some (.int res.1)) D b0 cy sb db g res.2 := by
  refine Met.ofW (cc := cX4_tie) (maxL := 7) (ret := (some .int)) (by decide) rfl ?_
  intro p e s m args below meth c s₁ B hml hv
  obtain ⟨rfl, hW, hK⟩ := hv
  have hl := lv_entry [.ref (sb 0), .int x1, .int x2, .int x3, .int x4] (n := 7) (Nat.le_of_ble_eq_true rfl)
  rw [lg_entry_eq]
  generalize (lg_sl [.ref (sb 0), .int x1, .int x2, .int x3, .int x4] ++ List.replicate (7 - (lg_sl [.ref (sb 0), .int x1, .int x2, .int x3, .int x4]).length) Slot.unset).toArray = ls at hl ⊢
  have hl : lv_has ls 7 [(0, .ref (sb 0)), (1, .int x1), (2, .int x2), (3, .int x3), (4, .int x4)] := hl
  exact w_X4_tie ⟨B.exec, B.bytes, hml, findClass_of_methodNamed B.named, fun w hw => atoms_spec (ws := Cond.code yX4_tie cX4_tie 7 (some .int) :: wsL_law) B.pre w (List.mem_cons_of_mem _ hw), hK⟩ B.returns B.notSynchronized hl ⟨hW, va_S.rf⟩ h
theorem Y_X4_tie : Yv yX4_tie RX4 cX4_tie 7 (some .int) 4 := ⟨⟨kw_20_14, kw_1_2, by decide +kernel, by decide +kernel, by decide +kernel⟩, kw_20_12, kw_20_13⟩
-- X4_tableCellOf
def m_X4_tableCellOf_J88  (g : Gs) : Option (Int32 × Gs) :=
  (m_X4_stopBeyond (1 : Int32) g).bind fun (x_15, g_16) => some ((-1 : Int32), g_16)
def m_X4_tableCellOf (n1 : Nat) (x2 : Int32) (x3 : Int32) (g : Gs) : Option (Int32 × Gs) :=
  chk (n1 < 24) ((m_X2_holds (n1 + 1) (0 : Int32) x2 g).bind fun x_2 => if x_2 = 0 then ((m_X4_stopBeyond (0 : Int32) g).bind fun (x_26, g_27) => some ((-1 : Int32), g_27)) else ((m_X2_offset (n1 + 1) (0 : Int32) x2 g).bind fun x_5 => chk (inb x_5 (g.2.2 (500 + n1))) (lett (g.1 18 n1 x_5.toNatClampNeg) fun x_7 => if x_7 = (-1 : Int32) then ((m_X4_stop (1 : Int32) g).bind fun (x_23, g_24) => some ((-1 : Int32), g_24)) else (chk (inb (1 : Int32) 3) (lett (x3.toInt64 - (g.1 5 (n1 + 1) (1 : Int32).toNatClampNeg).toInt64) fun y_11 => if (lg_cmp y_11 (0 : Int64)) < 0 then (m_X4_tableCellOf_J88  g) else ((m_X3_lengthOf x_7 g).bind fun x_18 => if (lg_cmp y_11 x_18.toInt64) < 0 then ((m_X3_startOf x_7 g).bind fun x_21 => some ((x_21 + y_11.toInt32), g)) else (m_X4_tableCellOf_J88  g)))))))
set_option maxHeartbeats 4000000 in
set_option maxRecDepth 100000 in
theorem w_X4_tableCellOf_J88  (C0 : Cx p s m args c cX4_tableCellOf 7 RX4 D cy) (hr : meth.sig.returnType = (some .int)) (hk : meth.locks = false) {res : Int32 × Gs} (hl : lv_has ls 7 [(0, .ref (sb 0))]) (M : Ws D b0 cy sb db g s H locs) (h : m_X4_tableCellOf_J88  g = some res) : W p l e ({ frames := 3, cells := 0, slots := 0, locals := 64 } : Room) s m args below meth c H locs 0 0 (MQ below (QX (some (.int res.1)) D b0 cy sb db res.2) args s 0 0 (fun q => b0 ≤ q)) (F0 m 88 ls []) := by
  obtain ⟨hx, hb, hml, hown, hts, hK⟩ := id C0
  rw [m_X4_tableCellOf_J88] at h
  refine lv_aload_n hx hb dX4_tableCellOf_88 rfl (lv_at hl 0 rfl) ?_
  refine lv_iconst (v := 1) hx hb dX4_tableCellOf_89 (by decide) ?_
  obtain ⟨⟨x_15, g_16⟩, hc_14, h⟩ := bnd_s h
  try dsimp only at h
  refine kV (As := [.int (1 : Int32)]) (rest := []) (stk := [.int x_15]) (val := (some (.int x_15))) (c1 := 0) (s1 := 0) C0 M (k_X4_stopBeyond hc_14) kw_17_5 Y_X4_stopBeyond (rv_X4 C0 M) ⟨Nat.le_of_ble_eq_true rfl, Nat.le_of_ble_eq_true rfl⟩ rfl hl.1 rfl (Nat.le_of_ble_eq_true rfl) dX4_tableCellOf_90 rfl rfl ⟨Nat.le_refl _, Nat.le_refl _⟩ rfl (fun H locs M => ?_)
  refine lv_pop hx hb dX4_tableCellOf_93 rfl ?_
  refine lv_iconst (v := -1) hx hb dX4_tableCellOf_94 (by decide) ?_
  obtain rfl := Option.some.inj h
  exact rt_i C0 M hr hk dX4_tableCellOf_95
set_option maxHeartbeats 4000000 in
set_option maxRecDepth 100000 in
theorem w_X4_tableCellOf {n1 : Nat} {x2 : Int32} {x3 : Int32} (C0 : Cx p s m args c cX4_tableCellOf 7 RX4 D cy) (hr : meth.sig.returnType = (some .int)) (hk : meth.locks = false) {res : Int32 × Gs} (hl : lv_has ls 7 [(0, .ref (sb 0)), (1, .ref (sb (400 + n1))), (2, .int x2), (3, .int x3)]) (M : Ws D b0 cy sb db g s H locs) (h : m_X4_tableCellOf n1 x2 x3 g = some res) : W p l e ({ frames := 3, cells := 0, slots := 0, locals := 64 } : Room) s m args below meth c H locs 0 0 (MQ below (QX (some (.int res.1)) D b0 cy sb db res.2) args s 0 0 (fun q => b0 ≤ q)) (F0 m 0 ls []) := by
  obtain ⟨hx, hb, hml, hown, hts, hK⟩ := id C0
  rw [m_X4_tableCellOf] at h
  obtain ⟨hB1, h⟩ := chk_s h
  refine lv_aload_n hx hb dX4_tableCellOf_0 rfl (lv_at hl 1 rfl) ?_
  refine gf_RX4_88 C0 M hB1 dX4_tableCellOf_1 ?_
  refine lv_iconst (v := 0) hx hb dX4_tableCellOf_4 (by decide) ?_
  refine lv_iload_n hx hb dX4_tableCellOf_5 rfl (lv_at hl 2 rfl) ?_
  obtain ⟨x_2, hc_1, h⟩ := bnd_s h
  refine kV (As := [.int (0 : Int32), .int x2]) (rest := []) (stk := [.int x_2]) (val := (some (.int x_2))) (c1 := 0) (s1 := 0) C0 M (k_X2_holds hc_1) kw_19_13 Y_X2_holds (rv_X2 C0 M (Nat.succ_lt_succ hB1)) ⟨Nat.le_of_ble_eq_true rfl, Nat.le_of_ble_eq_true rfl⟩ rfl hl.1 rfl (Nat.le_of_ble_eq_true rfl) dX4_tableCellOf_6 rfl rfl ⟨Nat.le_refl _, Nat.le_refl _⟩ rfl (fun H locs M => ?_)
  refine lv_if_ne (tgt := 20) hx hb dX4_tableCellOf_9 (by decide) (fun c_3 => ?_) (fun c_3 => ?_)
  · rw [if_neg c_3] at h
    refine lv_aload_n hx hb dX4_tableCellOf_20 rfl (lv_at hl 1 rfl) ?_
    refine gf_RX4_133 C0 M hB1 dX4_tableCellOf_21 ?_
    refine lv_aload_n hx hb dX4_tableCellOf_24 rfl (lv_at hl 1 rfl) ?_
    refine gf_RX4_88 C0 M hB1 dX4_tableCellOf_25 ?_
    refine lv_iconst (v := 0) hx hb dX4_tableCellOf_28 (by decide) ?_
    refine lv_iload_n hx hb dX4_tableCellOf_29 rfl (lv_at hl 2 rfl) ?_
    obtain ⟨x_5, hc_4, h⟩ := bnd_s h
    refine kV (As := [.int (0 : Int32), .int x2]) (rest := [.ref (db (500 + n1))]) (stk := [.int x_5, .ref (db (500 + n1))]) (val := (some (.int x_5))) (c1 := 0) (s1 := 0) C0 M (k_X2_offset hc_4) kw_19_14 Y_X2_offset (rv_X2 C0 M (Nat.succ_lt_succ hB1)) ⟨Nat.le_of_ble_eq_true rfl, Nat.le_of_ble_eq_true rfl⟩ rfl hl.1 rfl (Nat.le_of_ble_eq_true rfl) dX4_tableCellOf_30 rfl rfl ⟨Nat.le_refl _, Nat.le_refl _⟩ rfl (fun H locs M => ?_)
    obtain ⟨hi_6, h⟩ := chk_s h
    refine al_ROWS C0 M hB1 hi_6 dX4_tableCellOf_33 ?_
    obtain ⟨x_7, hn_8, h⟩ := lett_s h
    refine nm_i hn_8 ?_
    refine lv_istore (lv' := [(4, .int x_7), (0, .ref (sb 0)), (1, .ref (sb (400 + n1))), (2, .int x2), (3, .int x3)]) hx hb dX4_tableCellOf_34 hl (by decide) rfl (fun ls hl => ?_)
    refine lv_iload hx hb dX4_tableCellOf_36 (lv_at hl 0 rfl) ?_
    refine lv_iconst (v := -1) hx hb dX4_tableCellOf_38 (by decide) ?_
    refine lv_icmp_ne (tgt := 50) hx hb dX4_tableCellOf_39 (by decide) (fun c_9 => ?_) (fun c_9 => ?_)
    · rw [if_neg c_9] at h
      refine lv_iload_n hx hb dX4_tableCellOf_50 rfl (lv_at hl 4 rfl) ?_
      refine lv_i2l hx hb dX4_tableCellOf_51 rfl ?_
      refine lv_aload_n hx hb dX4_tableCellOf_52 rfl (lv_at hl 2 rfl) ?_
      refine gf_RX4_88 C0 M hB1 dX4_tableCellOf_53 ?_
      refine gf_RX4_219 C0 M (Nat.succ_lt_succ hB1) dX4_tableCellOf_56 ?_
      refine lv_iconst (v := 1) hx hb dX4_tableCellOf_59 (by decide) ?_
      obtain ⟨hi_10, h⟩ := chk_s h
      refine al_LOW C0 M (Nat.succ_lt_succ hB1) hi_10 dX4_tableCellOf_60 ?_
      refine lv_i2l hx hb dX4_tableCellOf_61 rfl ?_
      refine lv_lsub hx hb dX4_tableCellOf_62 ?_
      obtain ⟨y_11, hn_12, h⟩ := lett_s h
      refine nm_l hn_12 ?_
      refine lv_lstore (lv' := [(5, .long y_11), (4, .int x_7), (0, .ref (sb 0)), (1, .ref (sb (400 + n1))), (2, .int x2), (3, .int x3)]) hx hb dX4_tableCellOf_63 hl (by decide) rfl (fun ls hl => ?_)
      refine lv_lload hx hb dX4_tableCellOf_65 (lv_at hl 0 rfl) ?_
      refine lv_lconst (v := 0) hx hb dX4_tableCellOf_67 (by decide) ?_
      refine W.lcmp hx hb dX4_tableCellOf_68 ?_
      refine lv_if_lt (tgt := 88) hx hb dX4_tableCellOf_69 (by decide) (fun c_13 => ?_) (fun c_13 => ?_)
      · rw [if_pos c_13] at h
        exact w_X4_tableCellOf_J88 C0 hr hk (lv_sub hl [2] rfl) M h
      · rw [if_neg c_13] at h
        refine lv_lload hx hb dX4_tableCellOf_72 (lv_at hl 0 rfl) ?_
        refine lv_aload_n hx hb dX4_tableCellOf_74 rfl (lv_at hl 2 rfl) ?_
        refine gf_RX4_26 C0 M dX4_tableCellOf_75 ?_
        refine lv_iload hx hb dX4_tableCellOf_78 (lv_at hl 1 rfl) ?_
        obtain ⟨x_18, hc_17, h⟩ := bnd_s h
        refine kV (As := [.int x_7]) (rest := [.long y_11]) (stk := [.int x_18, .long y_11]) (val := (some (.int x_18))) (c1 := 0) (s1 := 0) C0 M (k_X3_lengthOf hc_17) kw_14_1 Y_X3_lengthOf (rv_X3 C0 M) ⟨Nat.le_of_ble_eq_true rfl, Nat.le_of_ble_eq_true rfl⟩ rfl hl.1 rfl (Nat.le_of_ble_eq_true rfl) dX4_tableCellOf_80 rfl rfl ⟨Nat.le_refl _, Nat.le_refl _⟩ rfl (fun H locs M => ?_)
        refine lv_i2l hx hb dX4_tableCellOf_83 rfl ?_
        refine W.lcmp hx hb dX4_tableCellOf_84 ?_
        refine lv_if_lt (tgt := 96) hx hb dX4_tableCellOf_85 (by decide) (fun c_19 => ?_) (fun c_19 => ?_)
        · rw [if_pos c_19] at h
          refine lv_aload_n hx hb dX4_tableCellOf_96 rfl (lv_at hl 2 rfl) ?_
          refine gf_RX4_26 C0 M dX4_tableCellOf_97 ?_
          refine lv_iload hx hb dX4_tableCellOf_100 (lv_at hl 1 rfl) ?_
          obtain ⟨x_21, hc_20, h⟩ := bnd_s h
          refine kV (As := [.int x_7]) (rest := []) (stk := [.int x_21]) (val := (some (.int x_21))) (c1 := 0) (s1 := 0) C0 M (k_X3_startOf hc_20) kw_15_1 Y_X3_startOf (rv_X3 C0 M) ⟨Nat.le_of_ble_eq_true rfl, Nat.le_of_ble_eq_true rfl⟩ rfl hl.1 rfl (Nat.le_of_ble_eq_true rfl) dX4_tableCellOf_102 rfl rfl ⟨Nat.le_refl _, Nat.le_refl _⟩ rfl (fun H locs M => ?_)
          refine lv_lload hx hb dX4_tableCellOf_105 (lv_at hl 0 rfl) ?_
          refine lv_l2i hx hb dX4_tableCellOf_107 rfl ?_
          refine lv_iadd hx hb dX4_tableCellOf_108 ?_
          obtain rfl := Option.some.inj h
          exact rt_i C0 M hr hk dX4_tableCellOf_109
        · rw [if_neg c_19] at h
          exact w_X4_tableCellOf_J88 C0 hr hk (lv_sub hl [2] rfl) M h
    · rw [if_pos c_9] at h
      refine lv_aload_n hx hb dX4_tableCellOf_42 rfl (lv_at hl 1 rfl) ?_
      refine lv_iconst (v := 1) hx hb dX4_tableCellOf_43 (by decide) ?_
      obtain ⟨⟨x_23, g_24⟩, hc_22, h⟩ := bnd_s h
      try dsimp only at h
      refine kV (As := [.int (1 : Int32)]) (rest := []) (stk := [.int x_23]) (val := (some (.int x_23))) (c1 := 0) (s1 := 0) C0 M (k_X4_stop hc_22) kw_5_10 Y_X4_stop (rv_X4 C0 M) ⟨Nat.le_of_ble_eq_true rfl, Nat.le_of_ble_eq_true rfl⟩ rfl hl.1 rfl (Nat.le_of_ble_eq_true rfl) dX4_tableCellOf_44 rfl rfl ⟨Nat.le_refl _, Nat.le_refl _⟩ rfl (fun H locs M => ?_)
      refine lv_pop hx hb dX4_tableCellOf_47 rfl ?_
      refine lv_iconst (v := -1) hx hb dX4_tableCellOf_48 (by decide) ?_
      obtain rfl := Option.some.inj h
      exact rt_i C0 M hr hk dX4_tableCellOf_49
  · rw [if_pos c_3] at h
    refine lv_aload_n hx hb dX4_tableCellOf_12 rfl (lv_at hl 0 rfl) ?_
    refine lv_iconst (v := 0) hx hb dX4_tableCellOf_13 (by decide) ?_
    obtain ⟨⟨x_26, g_27⟩, hc_25, h⟩ := bnd_s h
    try dsimp only at h
    refine kV (As := [.int (0 : Int32)]) (rest := []) (stk := [.int x_26]) (val := (some (.int x_26))) (c1 := 0) (s1 := 0) C0 M (k_X4_stopBeyond hc_25) kw_17_5 Y_X4_stopBeyond (rv_X4 C0 M) ⟨Nat.le_of_ble_eq_true rfl, Nat.le_of_ble_eq_true rfl⟩ rfl hl.1 rfl (Nat.le_of_ble_eq_true rfl) dX4_tableCellOf_14 rfl rfl ⟨Nat.le_refl _, Nat.le_refl _⟩ rfl (fun H locs M => ?_)
    refine lv_pop hx hb dX4_tableCellOf_17 rfl ?_
    refine lv_iconst (v := -1) hx hb dX4_tableCellOf_18 (by decide) ?_
    obtain rfl := Option.some.inj h
    exact rt_i C0 M hr hk dX4_tableCellOf_19
theorem k_X4_tableCellOf {n1 : Nat} {x2 : Int32} {x3 : Int32} {res : Int32 × Gs} (h : m_X4_tableCellOf n1 x2 x3 g = some res) : CM l yX4_tableCellOf cX4_tableCellOf 7 (some .int) ({ frames := 3, cells := 0, slots := 0, locals := 64 } : Room) [.ref (sb 0), .ref (sb (400 + n1)), .int x2, .int x3] (some (.int res.1)) D b0 cy sb db g res.2 := by
  refine Met.ofW (cc := cX4_tableCellOf) (maxL := 7) (ret := (some .int)) (by decide) rfl ?_
  intro p e s m args below meth c s₁ B hml hv
  obtain ⟨rfl, hW, hK⟩ := hv
  have hl := lv_entry [.ref (sb 0), .ref (sb (400 + n1)), .int x2, .int x3] (n := 7) (Nat.le_of_ble_eq_true rfl)
  rw [lg_entry_eq]
  generalize (lg_sl [.ref (sb 0), .ref (sb (400 + n1)), .int x2, .int x3] ++ List.replicate (7 - (lg_sl [.ref (sb 0), .ref (sb (400 + n1)), .int x2, .int x3]).length) Slot.unset).toArray = ls at hl ⊢
  have hl : lv_has ls 7 [(0, .ref (sb 0)), (1, .ref (sb (400 + n1))), (2, .int x2), (3, .int x3)] := hl
  exact w_X4_tableCellOf ⟨B.exec, B.bytes, hml, findClass_of_methodNamed B.named, fun w hw => atoms_spec (ws := Cond.code yX4_tableCellOf cX4_tableCellOf 7 (some .int) :: wsL_law) B.pre w (List.mem_cons_of_mem _ hw), hK⟩ B.returns B.notSynchronized hl ⟨hW, va_S.rf⟩ h
theorem Y_X4_tableCellOf : Yv yX4_tableCellOf RX4 cX4_tableCellOf 7 (some .int) 3 := ⟨⟨kw_21_8, kw_1_2, by decide +kernel, by decide +kernel, by decide +kernel⟩, kw_21_6, kw_21_7⟩
-- X4_cellOf
def m_X4_cellOf (o1 : Option Nat) (x2 : Int32) (x3 : Int32) (x4 : Int32) (g : Gs) : Option (Int32 × Gs) :=
  cas o1 ((m_X4_stop (7 : Int32) g).bind fun (x_2, g_3) => some ((-1 : Int32), g_3)) fun n_4 => if (g.1 16 n_4 0) = (4 : Int32) then ((m_X4_tableCellOf n_4 x2 x3 g).bind fun (x_18, g_19) => some (x_18, g_19)) else ((m_X2_firstBeyond (n_4 + 1) x2 x3 x4 g).bind fun x_8 => if x_8 = (-1 : Int32) then ((m_X3_startOf (g.1 17 n_4 0) g).bind fun x_11 => (m_X2_place (n_4 + 1) x2 x3 x4 g).bind fun x_13 => some ((x_11 + x_13), g)) else ((m_X4_stopBeyond x_8 g).bind fun (x_15, g_16) => some ((-1 : Int32), g_16)))
set_option maxHeartbeats 4000000 in
set_option maxRecDepth 100000 in
theorem w_X4_cellOf {o1 : Option Nat} {x2 : Int32} {x3 : Int32} {x4 : Int32} (C0 : Cx p s m args c cX4_cellOf 6 RX4 D cy) (hr : meth.sig.returnType = (some .int)) (hk : meth.locks = false) {res : Int32 × Gs} (hl : lv_has ls 6 [(0, .ref (sb 0)), (1, rfA sb o1), (2, .int x2), (3, .int x3), (4, .int x4)]) (M : Ws D b0 cy sb db g s H locs) (h : m_X4_cellOf o1 x2 x3 x4 g = some res) : W p l e ({ frames := 4, cells := 0, slots := 0, locals := 90 } : Room) s m args below meth c H locs 0 0 (MQ below (QX (some (.int res.1)) D b0 cy sb db res.2) args s 0 0 (fun q => b0 ≤ q)) (F0 m 0 ls []) := by
  obtain ⟨hx, hb, hml, hown, hts, hK⟩ := id C0
  rw [m_X4_cellOf] at h
  refine lq_aload_n hx hb o1 dX4_cellOf_0 rfl (lv_at hl 1 rfl) ?_
  cases o1 with
  | none =>
    try dsimp only [cas] at h
    refine lv_ifnonnullN hx hb dX4_cellOf_1 ?_
    refine lv_aload_n hx hb dX4_cellOf_4 rfl (lv_at hl 0 rfl) ?_
    refine lv_bipush (v := 7) hx hb dX4_cellOf_5 (by decide) ?_
    obtain ⟨⟨x_2, g_3⟩, hc_1, h⟩ := bnd_s h
    try dsimp only at h
    refine kV (As := [.int (7 : Int32)]) (rest := []) (stk := [.int x_2]) (val := (some (.int x_2))) (c1 := 0) (s1 := 0) C0 M (k_X4_stop hc_1) kw_5_10 Y_X4_stop (rv_X4 C0 M) ⟨Nat.le_of_ble_eq_true rfl, Nat.le_of_ble_eq_true rfl⟩ rfl hl.1 rfl (Nat.le_of_ble_eq_true rfl) dX4_cellOf_7 rfl rfl ⟨Nat.le_refl _, Nat.le_refl _⟩ rfl (fun H locs M => ?_)
    refine lv_pop hx hb dX4_cellOf_10 rfl ?_
    refine lv_iconst (v := -1) hx hb dX4_cellOf_11 (by decide) ?_
    obtain rfl := Option.some.inj h
    exact rt_i C0 M hr hk dX4_cellOf_12
  | some n_4 =>
    obtain ⟨hB_5, h⟩ := chk_s (show chk _ _ = _ from h)
    try dsimp only at h
    have hl : lv_has ls 6 [(0, .ref (sb 0)), (1, .ref (sb (400 + n_4))), (2, .int x2), (3, .int x3), (4, .int x4)] := hl
    refine lv_ifnonnull (tgt := 13) hx hb dX4_cellOf_1 (by decide) ?_
    refine lv_aload_n hx hb dX4_cellOf_13 rfl (lv_at hl 1 rfl) ?_
    refine gf_RX4_106 C0 M hB_5 dX4_cellOf_14 ?_
    refine lv_iconst (v := 4) hx hb dX4_cellOf_17 (by decide) ?_
    refine lv_icmp_ne (tgt := 29) hx hb dX4_cellOf_18 (by decide) (fun c_6 => ?_) (fun c_6 => ?_)
    · rw [if_neg c_6] at h
      refine lv_aload_n hx hb dX4_cellOf_29 rfl (lv_at hl 1 rfl) ?_
      refine gf_RX4_88 C0 M hB_5 dX4_cellOf_30 ?_
      refine lv_iload_n hx hb dX4_cellOf_33 rfl (lv_at hl 2 rfl) ?_
      refine lv_iload_n hx hb dX4_cellOf_34 rfl (lv_at hl 3 rfl) ?_
      refine lv_iload hx hb dX4_cellOf_35 (lv_at hl 4 rfl) ?_
      obtain ⟨x_8, hc_7, h⟩ := bnd_s h
      refine kV (As := [.int x2, .int x3, .int x4]) (rest := []) (stk := [.int x_8]) (val := (some (.int x_8))) (c1 := 0) (s1 := 0) C0 M (k_X2_firstBeyond hc_7) kw_16_10 Y_X2_firstBeyond (rv_X2 C0 M (Nat.succ_lt_succ hB_5)) ⟨Nat.le_of_ble_eq_true rfl, Nat.le_of_ble_eq_true rfl⟩ rfl hl.1 rfl (Nat.le_of_ble_eq_true rfl) dX4_cellOf_37 rfl rfl ⟨Nat.le_refl _, Nat.le_refl _⟩ rfl (fun H locs M => ?_)
      refine lv_istore (lv' := [(5, .int x_8), (0, .ref (sb 0)), (1, .ref (sb (400 + n_4))), (2, .int x2), (3, .int x3), (4, .int x4)]) hx hb dX4_cellOf_40 hl (by decide) rfl (fun ls hl => ?_)
      refine lv_iload hx hb dX4_cellOf_42 (lv_at hl 0 rfl) ?_
      refine lv_iconst (v := -1) hx hb dX4_cellOf_44 (by decide) ?_
      refine lv_icmp_eq (tgt := 57) hx hb dX4_cellOf_45 (by decide) (fun c_9 => ?_) (fun c_9 => ?_)
      · rw [if_pos c_9] at h
        refine lv_aload_n hx hb dX4_cellOf_57 rfl (lv_at hl 1 rfl) ?_
        refine gf_RX4_26 C0 M dX4_cellOf_58 ?_
        refine lv_aload_n hx hb dX4_cellOf_61 rfl (lv_at hl 2 rfl) ?_
        refine gf_RX4_100 C0 M hB_5 dX4_cellOf_62 ?_
        obtain ⟨x_11, hc_10, h⟩ := bnd_s h
        refine kV (As := [.int (g.1 17 n_4 0)]) (rest := []) (stk := [.int x_11]) (val := (some (.int x_11))) (c1 := 0) (s1 := 0) C0 M (k_X3_startOf hc_10) kw_15_1 Y_X3_startOf (rv_X3 C0 M) ⟨Nat.le_of_ble_eq_true rfl, Nat.le_of_ble_eq_true rfl⟩ rfl hl.1 rfl (Nat.le_of_ble_eq_true rfl) dX4_cellOf_65 rfl rfl ⟨Nat.le_refl _, Nat.le_refl _⟩ rfl (fun H locs M => ?_)
        refine lv_aload_n hx hb dX4_cellOf_68 rfl (lv_at hl 2 rfl) ?_
        refine gf_RX4_88 C0 M hB_5 dX4_cellOf_69 ?_
        refine lv_iload_n hx hb dX4_cellOf_72 rfl (lv_at hl 3 rfl) ?_
        refine lv_iload_n hx hb dX4_cellOf_73 rfl (lv_at hl 4 rfl) ?_
        refine lv_iload hx hb dX4_cellOf_74 (lv_at hl 5 rfl) ?_
        obtain ⟨x_13, hc_12, h⟩ := bnd_s h
        refine kV (As := [.int x2, .int x3, .int x4]) (rest := [.int x_11]) (stk := [.int x_13, .int x_11]) (val := (some (.int x_13))) (c1 := 0) (s1 := 0) C0 M (k_X2_place hc_12) kw_16_21 Y_X2_place (rv_X2 C0 M (Nat.succ_lt_succ hB_5)) ⟨Nat.le_of_ble_eq_true rfl, Nat.le_of_ble_eq_true rfl⟩ rfl hl.1 rfl (Nat.le_of_ble_eq_true rfl) dX4_cellOf_76 rfl rfl ⟨Nat.le_refl _, Nat.le_refl _⟩ rfl (fun H locs M => ?_)
        refine lv_iadd hx hb dX4_cellOf_79 ?_
        obtain rfl := Option.some.inj h
        exact rt_i C0 M hr hk dX4_cellOf_80
      · rw [if_neg c_9] at h
        refine lv_aload_n hx hb dX4_cellOf_48 rfl (lv_at hl 1 rfl) ?_
        refine lv_iload hx hb dX4_cellOf_49 (lv_at hl 0 rfl) ?_
        obtain ⟨⟨x_15, g_16⟩, hc_14, h⟩ := bnd_s h
        try dsimp only at h
        refine kV (As := [.int x_8]) (rest := []) (stk := [.int x_15]) (val := (some (.int x_15))) (c1 := 0) (s1 := 0) C0 M (k_X4_stopBeyond hc_14) kw_17_5 Y_X4_stopBeyond (rv_X4 C0 M) ⟨Nat.le_of_ble_eq_true rfl, Nat.le_of_ble_eq_true rfl⟩ rfl hl.1 rfl (Nat.le_of_ble_eq_true rfl) dX4_cellOf_51 rfl rfl ⟨Nat.le_refl _, Nat.le_refl _⟩ rfl (fun H locs M => ?_)
        refine lv_pop hx hb dX4_cellOf_54 rfl ?_
        refine lv_iconst (v := -1) hx hb dX4_cellOf_55 (by decide) ?_
        obtain rfl := Option.some.inj h
        exact rt_i C0 M hr hk dX4_cellOf_56
    · rw [if_pos c_6] at h
      refine lv_aload_n hx hb dX4_cellOf_21 rfl (lv_at hl 0 rfl) ?_
      refine lv_aload_n hx hb dX4_cellOf_22 rfl (lv_at hl 1 rfl) ?_
      refine lv_iload_n hx hb dX4_cellOf_23 rfl (lv_at hl 2 rfl) ?_
      refine lv_iload_n hx hb dX4_cellOf_24 rfl (lv_at hl 3 rfl) ?_
      obtain ⟨⟨x_18, g_19⟩, hc_17, h⟩ := bnd_s h
      try dsimp only at h
      refine kV (As := [.ref (sb (400 + n_4)), .int x2, .int x3]) (rest := []) (stk := [.int x_18]) (val := (some (.int x_18))) (c1 := 0) (s1 := 0) C0 M (k_X4_tableCellOf hc_17) kw_21_5 Y_X4_tableCellOf (rv_X4 C0 M) ⟨Nat.le_of_ble_eq_true rfl, Nat.le_of_ble_eq_true rfl⟩ rfl hl.1 rfl (Nat.le_of_ble_eq_true rfl) dX4_cellOf_25 rfl rfl ⟨Nat.le_refl _, Nat.le_refl _⟩ rfl (fun H locs M => ?_)
      obtain rfl := Option.some.inj h
      exact rt_i C0 M hr hk dX4_cellOf_28
theorem k_X4_cellOf {o1 : Option Nat} {x2 : Int32} {x3 : Int32} {x4 : Int32} {res : Int32 × Gs} (h : m_X4_cellOf o1 x2 x3 x4 g = some res) : CM l yX4_cellOf cX4_cellOf 6 (some .int) ({ frames := 4, cells := 0, slots := 0, locals := 90 } : Room) [.ref (sb 0), rfA sb o1, .int x2, .int x3, .int x4] (some (.int res.1)) D b0 cy sb db g res.2 := by
  refine Met.ofW (cc := cX4_cellOf) (maxL := 6) (ret := (some .int)) (by decide) rfl ?_
  intro p e s m args below meth c s₁ B hml hv
  obtain ⟨rfl, hW, hK⟩ := hv
  cases o1 with
  | none =>
    have hl := lv_entry [.ref (sb 0), rfA sb none, .int x2, .int x3, .int x4] (n := 6) (Nat.le_of_ble_eq_true rfl)
    rw [lg_entry_eq]
    generalize (lg_sl [.ref (sb 0), rfA sb none, .int x2, .int x3, .int x4] ++ List.replicate (6 - (lg_sl [.ref (sb 0), rfA sb none, .int x2, .int x3, .int x4]).length) Slot.unset).toArray = ls at hl ⊢
    have hl : lv_has ls 6 [(0, .ref (sb 0)), (1, rfA sb none), (2, .int x2), (3, .int x3), (4, .int x4)] := hl
    exact w_X4_cellOf ⟨B.exec, B.bytes, hml, findClass_of_methodNamed B.named, fun w hw => atoms_spec (ws := Cond.code yX4_cellOf cX4_cellOf 6 (some .int) :: wsL_law) B.pre w (List.mem_cons_of_mem _ hw), hK⟩ B.returns B.notSynchronized hl ⟨hW, va_S.rf⟩ h
  | some no1 =>
    have hl := lv_entry [.ref (sb 0), rfA sb (some no1), .int x2, .int x3, .int x4] (n := 6) (Nat.le_of_ble_eq_true rfl)
    rw [lg_entry_eq]
    generalize (lg_sl [.ref (sb 0), rfA sb (some no1), .int x2, .int x3, .int x4] ++ List.replicate (6 - (lg_sl [.ref (sb 0), rfA sb (some no1), .int x2, .int x3, .int x4]).length) Slot.unset).toArray = ls at hl ⊢
    have hl : lv_has ls 6 [(0, .ref (sb 0)), (1, rfA sb (some no1)), (2, .int x2), (3, .int x3), (4, .int x4)] := hl
    exact w_X4_cellOf ⟨B.exec, B.bytes, hml, findClass_of_methodNamed B.named, fun w hw => atoms_spec (ws := Cond.code yX4_cellOf cX4_cellOf 6 (some .int) :: wsL_law) B.pre w (List.mem_cons_of_mem _ hw), hK⟩ B.returns B.notSynchronized hl ⟨hW, va_S.rf⟩ h
theorem Y_X4_cellOf : Yv yX4_cellOf RX4 cX4_cellOf 6 (some .int) 4 := ⟨⟨kw_21_4, kw_1_2, by decide +kernel, by decide +kernel, by decide +kernel⟩, kw_21_2, kw_21_3⟩
-- X4_get
def m_X4_get (x1 : Int32) (x2 : Int32) (x3 : Int32) (x4 : Int32) (g : Gs) : Option (Int64 × Gs) :=
  (m_X4_arrayOf x1 g).bind fun o_2 => (m_X4_cellOf o_2 x2 x3 x4 g).bind fun (x_4, g_5) => if x_4 = (-1 : Int32) then (some ((0 : Int64), g_5)) else (chk (inb x_4 (g_5.2.2 10)) (if (g_5.1 13 0 x_4.toNatClampNeg) = 0 then ((m_X4_stop (1 : Int32) g_5).bind fun (x_13, g_14) => some (x_13.toInt64, g_14)) else (lett (sI g_5 1 0 0 (0 : Int32)) fun g_9 => chk (inb x_4 (g_9.2.2 9)) (some ((g_9.2.1 0 x_4.toNatClampNeg), g_9)))))
set_option maxHeartbeats 4000000 in
set_option maxRecDepth 100000 in
theorem w_X4_get {x1 : Int32} {x2 : Int32} {x3 : Int32} {x4 : Int32} (C0 : Cx p s m args c cX4_get 6 RX4 D cy) (hr : meth.sig.returnType = (some .long)) (hk : meth.locks = false) {res : Int64 × Gs} (hl : lv_has ls 6 [(0, .ref (sb 0)), (1, .int x1), (2, .int x2), (3, .int x3), (4, .int x4)]) (M : Ws D b0 cy sb db g s H locs) (h : m_X4_get x1 x2 x3 x4 g = some res) : W p l e ({ frames := 5, cells := 0, slots := 0, locals := 115 } : Room) s m args below meth c H locs 0 0 (MQ below (QX (some (.long res.1)) D b0 cy sb db res.2) args s 0 0 (fun q => b0 ≤ q)) (F0 m 0 ls []) := by
  obtain ⟨hx, hb, hml, hown, hts, hK⟩ := id C0
  rw [m_X4_get] at h
  refine lv_aload_n hx hb dX4_get_0 rfl (lv_at hl 0 rfl) ?_
  refine lv_aload_n hx hb dX4_get_1 rfl (lv_at hl 0 rfl) ?_
  refine lv_iload_n hx hb dX4_get_2 rfl (lv_at hl 1 rfl) ?_
  obtain ⟨o_2, hc_1, h⟩ := bnd_s h
  refine kV (As := [.int x1]) (rest := [.ref (sb 0)]) (stk := [rfA sb o_2, .ref (sb 0)]) (val := (some (rfA sb o_2))) (c1 := 0) (s1 := 0) C0 M (k_X4_arrayOf hc_1) kw_13_17 Y_X4_arrayOf (rv_X4 C0 M) ⟨Nat.le_of_ble_eq_true rfl, Nat.le_of_ble_eq_true rfl⟩ rfl hl.1 rfl (Nat.le_of_ble_eq_true rfl) dX4_get_3 rfl rfl ⟨Nat.le_refl _, Nat.le_refl _⟩ rfl (fun H locs M => ?_)
  refine lv_iload_n hx hb dX4_get_6 rfl (lv_at hl 2 rfl) ?_
  refine lv_iload_n hx hb dX4_get_7 rfl (lv_at hl 3 rfl) ?_
  refine lv_iload hx hb dX4_get_8 (lv_at hl 4 rfl) ?_
  obtain ⟨⟨x_4, g_5⟩, hc_3, h⟩ := bnd_s h
  try dsimp only at h
  refine kV (As := [rfA sb o_2, .int x2, .int x3, .int x4]) (rest := []) (stk := [.int x_4]) (val := (some (.int x_4))) (c1 := 0) (s1 := 0) C0 M (k_X4_cellOf hc_3) kw_21_1 Y_X4_cellOf (rv_X4 C0 M) ⟨Nat.le_of_ble_eq_true rfl, Nat.le_of_ble_eq_true rfl⟩ rfl hl.1 rfl (Nat.le_of_ble_eq_true rfl) dX4_get_10 rfl rfl ⟨Nat.le_refl _, Nat.le_refl _⟩ rfl (fun H locs M => ?_)
  refine lv_istore (lv' := [(5, .int x_4), (0, .ref (sb 0)), (1, .int x1), (2, .int x2), (3, .int x3), (4, .int x4)]) hx hb dX4_get_13 hl (by decide) rfl (fun ls hl => ?_)
  refine lv_iload hx hb dX4_get_15 (lv_at hl 0 rfl) ?_
  refine lv_iconst (v := -1) hx hb dX4_get_17 (by decide) ?_
  refine lv_icmp_ne (tgt := 23) hx hb dX4_get_18 (by decide) (fun c_6 => ?_) (fun c_6 => ?_)
  · rw [if_neg c_6] at h
    refine lv_aload_n hx hb dX4_get_23 rfl (lv_at hl 1 rfl) ?_
    refine gf_RX4_26 C0 M dX4_get_24 ?_
    refine gf_RX4_165 C0 M dX4_get_27 ?_
    refine lv_iload hx hb dX4_get_30 (lv_at hl 0 rfl) ?_
    obtain ⟨hi_7, h⟩ := chk_s h
    refine al_FIL C0 M hi_7 dX4_get_32 ?_
    refine lv_if_ne (tgt := 43) hx hb dX4_get_33 (by decide) (fun c_8 => ?_) (fun c_8 => ?_)
    · rw [if_neg c_8] at h
      refine lv_aload_n hx hb dX4_get_43 rfl (lv_at hl 1 rfl) ?_
      refine lv_iconst (v := 0) hx hb dX4_get_44 (by decide) ?_
      obtain ⟨g_9, hg_10, h⟩ := lett_s h
      refine pf_RX4_44 C0 M hg_10 dX4_get_45 (fun H locs M => ?_)
      refine lv_aload_n hx hb dX4_get_48 rfl (lv_at hl 1 rfl) ?_
      refine gf_RX4_26 C0 M dX4_get_49 ?_
      refine gf_RX4_169 C0 M dX4_get_52 ?_
      refine lv_iload hx hb dX4_get_55 (lv_at hl 0 rfl) ?_
      obtain ⟨hi_11, h⟩ := chk_s h
      refine al_NUM C0 M hi_11 dX4_get_57 ?_
      obtain rfl := Option.some.inj h
      exact rt_l C0 M hr hk dX4_get_58
    · rw [if_pos c_8] at h
      refine lv_aload_n hx hb dX4_get_36 rfl (lv_at hl 1 rfl) ?_
      refine lv_iconst (v := 1) hx hb dX4_get_37 (by decide) ?_
      obtain ⟨⟨x_13, g_14⟩, hc_12, h⟩ := bnd_s h
      try dsimp only at h
      refine kV (As := [.int (1 : Int32)]) (rest := []) (stk := [.int x_13]) (val := (some (.int x_13))) (c1 := 0) (s1 := 0) C0 M (k_X4_stop hc_12) kw_5_10 Y_X4_stop (rv_X4 C0 M) ⟨Nat.le_of_ble_eq_true rfl, Nat.le_of_ble_eq_true rfl⟩ rfl hl.1 rfl (Nat.le_of_ble_eq_true rfl) dX4_get_38 rfl rfl ⟨Nat.le_refl _, Nat.le_refl _⟩ rfl (fun H locs M => ?_)
      refine lv_i2l hx hb dX4_get_41 rfl ?_
      obtain rfl := Option.some.inj h
      exact rt_l C0 M hr hk dX4_get_42
  · rw [if_pos c_6] at h
    refine lv_lconst (v := 0) hx hb dX4_get_21 (by decide) ?_
    obtain rfl := Option.some.inj h
    exact rt_l C0 M hr hk dX4_get_22
theorem k_X4_get {x1 : Int32} {x2 : Int32} {x3 : Int32} {x4 : Int32} {res : Int64 × Gs} (h : m_X4_get x1 x2 x3 x4 g = some res) : CM l yX4_get cX4_get 6 (some .long) ({ frames := 5, cells := 0, slots := 0, locals := 115 } : Room) [.ref (sb 0), .int x1, .int x2, .int x3, .int x4] (some (.long res.1)) D b0 cy sb db g res.2 := by
  refine Met.ofW (cc := cX4_get) (maxL := 6) (ret := (some .long)) (by decide) rfl ?_
  intro p e s m args below meth c s₁ B hml hv
  obtain ⟨rfl, hW, hK⟩ := hv
  have hl := lv_entry [.ref (sb 0), .int x1, .int x2, .int x3, .int x4] (n := 6) (Nat.le_of_ble_eq_true rfl)
  rw [lg_entry_eq]
  generalize (lg_sl [.ref (sb 0), .int x1, .int x2, .int x3, .int x4] ++ List.replicate (6 - (lg_sl [.ref (sb 0), .int x1, .int x2, .int x3, .int x4]).length) Slot.unset).toArray = ls at hl ⊢
  have hl : lv_has ls 6 [(0, .ref (sb 0)), (1, .int x1), (2, .int x2), (3, .int x3), (4, .int x4)] := hl
  exact w_X4_get ⟨B.exec, B.bytes, hml, findClass_of_methodNamed B.named, fun w hw => atoms_spec (ws := Cond.code yX4_get cX4_get 6 (some .long) :: wsL_law) B.pre w (List.mem_cons_of_mem _ hw), hK⟩ B.returns B.notSynchronized hl ⟨hW, va_S.rf⟩ h
theorem Y_X4_get : Yv yX4_get RX4 cX4_get 6 (some .long) 4 := ⟨⟨kw_20_22, kw_1_2, by decide +kernel, by decide +kernel, by decide +kernel⟩, kw_20_20, kw_20_21⟩
-- X4_fitted
def m_X4_fitted_J26 (ys0 : Int64) (g : Gs) : Option (Int64) :=
  some ys0
def m_X4_fitted_J19 (y1 : Int64) (g : Gs) : Option (Int64) :=
  m_X4_fitted_J26 y1.toInt32.toInt64 g
def m_X4_fitted (x0 : Int32) (y1 : Int64) (g : Gs) : Option (Int64) :=
  if x0 = 0 then (some y1.toInt32.toInt8.toInt32.toInt64) else (if x0 = (1 : Int32) then (m_X4_fitted_J19 y1 g) else (if x0 = (4 : Int32) then (m_X4_fitted_J19 y1 g) else (m_X4_fitted_J26 y1 g)))
set_option maxHeartbeats 4000000 in
set_option maxRecDepth 100000 in
theorem w_X4_fitted_J26 {ys0 : Int64} (C0 : Cx p s m args c cX4_fitted 3 RX4 D cy) (hr : meth.sig.returnType = (some .long)) (hk : meth.locks = false) {res : Int64} (hl : lv_has ls 3 []) (M : Ws D b0 cy sb db g s H locs) (h : m_X4_fitted_J26 ys0 g = some res) : W p l e ({ frames := 0, cells := 0, slots := 0, locals := 0 } : Room) s m args below meth c H locs 0 0 (MQ below (QX (some (.long res)) D b0 cy sb db g) args s 0 0 (fun q => b0 ≤ q)) (F0 m 26 ls [.long ys0]) := by
  obtain ⟨hx, hb, hml, hown, hts, hK⟩ := id C0
  rw [m_X4_fitted_J26] at h
  obtain rfl := Option.some.inj h
  exact rt_l C0 M hr hk dX4_fitted_26
set_option maxHeartbeats 4000000 in
set_option maxRecDepth 100000 in
theorem w_X4_fitted_J19 {y1 : Int64} (C0 : Cx p s m args c cX4_fitted 3 RX4 D cy) (hr : meth.sig.returnType = (some .long)) (hk : meth.locks = false) {res : Int64} (hl : lv_has ls 3 [(1, .long y1)]) (M : Ws D b0 cy sb db g s H locs) (h : m_X4_fitted_J19 y1 g = some res) : W p l e ({ frames := 0, cells := 0, slots := 0, locals := 0 } : Room) s m args below meth c H locs 0 0 (MQ below (QX (some (.long res)) D b0 cy sb db g) args s 0 0 (fun q => b0 ≤ q)) (F0 m 19 ls []) := by
  obtain ⟨hx, hb, hml, hown, hts, hK⟩ := id C0
  rw [m_X4_fitted_J19] at h
  refine lv_lload_n hx hb dX4_fitted_19 rfl (lv_at hl 0 rfl) ?_
  refine lv_l2i hx hb dX4_fitted_20 rfl ?_
  refine lv_i2l hx hb dX4_fitted_21 rfl ?_
  refine lv_goto (tgt := 26) hx hb dX4_fitted_22 (by decide) ?_
  exact w_X4_fitted_J26 C0 hr hk (lv_sub hl [] rfl) M h
set_option maxHeartbeats 4000000 in
set_option maxRecDepth 100000 in
theorem w_X4_fitted {x0 : Int32} {y1 : Int64} (C0 : Cx p s m args c cX4_fitted 3 RX4 D cy) (hr : meth.sig.returnType = (some .long)) (hk : meth.locks = false) {res : Int64} (hl : lv_has ls 3 [(0, .int x0), (1, .long y1)]) (M : Ws D b0 cy sb db g s H locs) (h : m_X4_fitted x0 y1 g = some res) : W p l e ({ frames := 0, cells := 0, slots := 0, locals := 0 } : Room) s m args below meth c H locs 0 0 (MQ below (QX (some (.long res)) D b0 cy sb db g) args s 0 0 (fun q => b0 ≤ q)) (F0 m 0 ls []) := by
  obtain ⟨hx, hb, hml, hown, hts, hK⟩ := id C0
  rw [m_X4_fitted] at h
  refine lv_iload_n hx hb dX4_fitted_0 rfl (lv_at hl 0 rfl) ?_
  refine lv_if_ne (tgt := 9) hx hb dX4_fitted_1 (by decide) (fun c_1 => ?_) (fun c_1 => ?_)
  · rw [if_neg c_1] at h
    refine lv_iload_n hx hb dX4_fitted_9 rfl (lv_at hl 0 rfl) ?_
    refine lv_iconst (v := 1) hx hb dX4_fitted_10 (by decide) ?_
    refine lv_icmp_eq (tgt := 19) hx hb dX4_fitted_11 (by decide) (fun c_2 => ?_) (fun c_2 => ?_)
    · rw [if_pos c_2] at h
      exact w_X4_fitted_J19 C0 hr hk (lv_sub hl [1] rfl) M h
    · rw [if_neg c_2] at h
      refine lv_iload_n hx hb dX4_fitted_14 rfl (lv_at hl 0 rfl) ?_
      refine lv_iconst (v := 4) hx hb dX4_fitted_15 (by decide) ?_
      refine lv_icmp_ne (tgt := 25) hx hb dX4_fitted_16 (by decide) (fun c_3 => ?_) (fun c_3 => ?_)
      · rw [if_neg c_3] at h
        refine lv_lload_n hx hb dX4_fitted_25 rfl (lv_at hl 1 rfl) ?_
        exact w_X4_fitted_J26 C0 hr hk (lv_sub hl [] rfl) M h
      · rw [if_pos c_3] at h
        exact w_X4_fitted_J19 C0 hr hk (lv_sub hl [1] rfl) M h
  · rw [if_pos c_1] at h
    refine lv_lload_n hx hb dX4_fitted_4 rfl (lv_at hl 1 rfl) ?_
    refine lv_l2i hx hb dX4_fitted_5 rfl ?_
    refine lv_i2b hx hb dX4_fitted_6 rfl ?_
    refine lv_i2l hx hb dX4_fitted_7 rfl ?_
    obtain rfl := Option.some.inj h
    exact rt_l C0 M hr hk dX4_fitted_8
theorem k_X4_fitted {x0 : Int32} {y1 : Int64} {res : Int64} (h : m_X4_fitted x0 y1 g = some res) : CM l yX4_fitted cX4_fitted 3 (some .long) ({ frames := 0, cells := 0, slots := 0, locals := 0 } : Room) [.int x0, .long y1] (some (.long res)) D b0 cy sb db g g := by
  refine Met.ofW (cc := cX4_fitted) (maxL := 3) (ret := (some .long)) (by decide) rfl ?_
  intro p e s m args below meth c s₁ B hml hv
  obtain ⟨rfl, hW, hK⟩ := hv
  have hl := lv_entry [.int x0, .long y1] (n := 3) (Nat.le_of_ble_eq_true rfl)
  rw [lg_entry_eq]
  generalize (lg_sl [.int x0, .long y1] ++ List.replicate (3 - (lg_sl [.int x0, .long y1]).length) Slot.unset).toArray = ls at hl ⊢
  have hl : lv_has ls 3 [(0, .int x0), (1, .long y1)] := hl
  exact w_X4_fitted ⟨B.exec, B.bytes, hml, findClass_of_methodNamed B.named, fun w hw => atoms_spec (ws := Cond.code yX4_fitted cX4_fitted 3 (some .long) :: wsL_law) B.pre w (List.mem_cons_of_mem _ hw), hK⟩ B.returns B.notSynchronized hl ⟨hW, va_S.rf⟩ h
theorem Y_X4_fitted : Ys yX4_fitted cX4_fitted 3 (some .long) 2 := ⟨⟨kw_21_23, kw_1_2, by decide +kernel, by decide +kernel, by decide +kernel⟩, kw_21_22⟩
-- X4_put
def m_X4_put_J30  (g : Gs) : Option (Int32 × Gs) :=
  some ((0 : Int32), g)
def m_X4_put (x1 : Int32) (x2 : Int32) (x3 : Int32) (x4 : Int32) (y5 : Int64) (g : Gs) : Option (Int32 × Gs) :=
  (m_X4_arrayOf x1 g).bind fun o_2 => (m_X4_cellOf o_2 x2 x3 x4 g).bind fun (x_4, g_5) => if x_4 = (-1 : Int32) then (m_X4_put_J30  g_5) else (cas o_2 (m_X4_put_J30  g_5) fun n_7 => (m_X4_fitted (g_5.1 16 n_7 0) y5 g_5).bind fun y_10 => (m_X3_fill x_4 y_10 g_5).bind fun g_12 => (m_X4_done (1 : Int32) g_12).bind fun (x_14, g_15) => some (x_14, g_15))
set_option maxHeartbeats 4000000 in
set_option maxRecDepth 100000 in
theorem w_X4_put_J30  (C0 : Cx p s m args c cX4_put 9 RX4 D cy) (hr : meth.sig.returnType = (some .int)) (hk : meth.locks = false) {res : Int32 × Gs} (hl : lv_has ls 9 []) (M : Ws D b0 cy sb db g s H locs) (h : m_X4_put_J30  g = some res) : W p l e ({ frames := 5, cells := 0, slots := 0, locals := 115 } : Room) s m args below meth c H locs 0 0 (MQ below (QX (some (.int res.1)) D b0 cy sb db res.2) args s 0 0 (fun q => b0 ≤ q)) (F0 m 30 ls []) := by
  obtain ⟨hx, hb, hml, hown, hts, hK⟩ := id C0
  rw [m_X4_put_J30] at h
  refine lv_iconst (v := 0) hx hb dX4_put_30 (by decide) ?_
  obtain rfl := Option.some.inj h
  exact rt_i C0 M hr hk dX4_put_31
set_option maxHeartbeats 4000000 in
set_option maxRecDepth 100000 in
theorem w_X4_put {x1 : Int32} {x2 : Int32} {x3 : Int32} {x4 : Int32} {y5 : Int64} (C0 : Cx p s m args c cX4_put 9 RX4 D cy) (hr : meth.sig.returnType = (some .int)) (hk : meth.locks = false) {res : Int32 × Gs} (hl : lv_has ls 9 [(0, .ref (sb 0)), (1, .int x1), (2, .int x2), (3, .int x3), (4, .int x4), (5, .long y5)]) (M : Ws D b0 cy sb db g s H locs) (h : m_X4_put x1 x2 x3 x4 y5 g = some res) : W p l e ({ frames := 5, cells := 0, slots := 0, locals := 115 } : Room) s m args below meth c H locs 0 0 (MQ below (QX (some (.int res.1)) D b0 cy sb db res.2) args s 0 0 (fun q => b0 ≤ q)) (F0 m 0 ls []) := by
  obtain ⟨hx, hb, hml, hown, hts, hK⟩ := id C0
  rw [m_X4_put] at h
  refine lv_aload_n hx hb dX4_put_0 rfl (lv_at hl 0 rfl) ?_
  refine lv_iload_n hx hb dX4_put_1 rfl (lv_at hl 1 rfl) ?_
  obtain ⟨o_2, hc_1, h⟩ := bnd_s h
  refine kV (As := [.int x1]) (rest := []) (stk := [rfA sb o_2]) (val := (some (rfA sb o_2))) (c1 := 0) (s1 := 0) C0 M (k_X4_arrayOf hc_1) kw_13_17 Y_X4_arrayOf (rv_X4 C0 M) ⟨Nat.le_of_ble_eq_true rfl, Nat.le_of_ble_eq_true rfl⟩ rfl hl.1 rfl (Nat.le_of_ble_eq_true rfl) dX4_put_2 rfl rfl ⟨Nat.le_refl _, Nat.le_refl _⟩ rfl (fun H locs M => ?_)
  refine lq_astore (lv' := [(7, rfA sb o_2), (0, .ref (sb 0)), (1, .int x1), (2, .int x2), (3, .int x3), (4, .int x4), (5, .long y5)]) hx hb o_2 dX4_put_5 hl (by decide) rfl (fun ls hl => ?_)
  refine lv_aload_n hx hb dX4_put_7 rfl (lv_at hl 1 rfl) ?_
  refine lq_aload hx hb o_2 dX4_put_8 (lv_at hl 0 rfl) ?_
  refine lv_iload_n hx hb dX4_put_10 rfl (lv_at hl 3 rfl) ?_
  refine lv_iload_n hx hb dX4_put_11 rfl (lv_at hl 4 rfl) ?_
  refine lv_iload hx hb dX4_put_12 (lv_at hl 5 rfl) ?_
  obtain ⟨⟨x_4, g_5⟩, hc_3, h⟩ := bnd_s h
  try dsimp only at h
  refine kV (As := [rfA sb o_2, .int x2, .int x3, .int x4]) (rest := []) (stk := [.int x_4]) (val := (some (.int x_4))) (c1 := 0) (s1 := 0) C0 M (k_X4_cellOf hc_3) kw_21_1 Y_X4_cellOf (rv_X4 C0 M) ⟨Nat.le_of_ble_eq_true rfl, Nat.le_of_ble_eq_true rfl⟩ rfl hl.1 rfl (Nat.le_of_ble_eq_true rfl) dX4_put_14 rfl rfl ⟨Nat.le_refl _, Nat.le_refl _⟩ rfl (fun H locs M => ?_)
  refine lv_istore (lv' := [(8, .int x_4), (7, rfA sb o_2), (0, .ref (sb 0)), (1, .int x1), (2, .int x2), (3, .int x3), (4, .int x4), (5, .long y5)]) hx hb dX4_put_17 hl (by decide) (by cases o_2 <;> rfl) (fun ls hl => ?_)
  refine lv_iload hx hb dX4_put_19 (lv_at hl 0 rfl) ?_
  refine lv_iconst (v := -1) hx hb dX4_put_21 (by decide) ?_
  refine lv_icmp_eq (tgt := 30) hx hb dX4_put_22 (by decide) (fun c_6 => ?_) (fun c_6 => ?_)
  · rw [if_pos c_6] at h
    exact w_X4_put_J30 C0 hr hk (lv_sub hl [] rfl) M h
  · rw [if_neg c_6] at h
    refine lq_aload hx hb o_2 dX4_put_25 (lv_at hl 1 rfl) ?_
    cases o_2 with
    | none =>
      try dsimp only [cas] at h
      refine lv_ifnonnullN hx hb dX4_put_27 ?_
      exact w_X4_put_J30 C0 hr hk (lv_sub hl [] rfl) M h
    | some n_7 =>
      obtain ⟨hB_8, h⟩ := chk_s (show chk _ _ = _ from h)
      try dsimp only at h
      have hl : lv_has ls 9 [(8, .int x_4), (7, .ref (sb (400 + n_7))), (0, .ref (sb 0)), (1, .int x1), (2, .int x2), (3, .int x3), (4, .int x4), (5, .long y5)] := hl
      refine lv_ifnonnull (tgt := 32) hx hb dX4_put_27 (by decide) ?_
      refine lv_aload_n hx hb dX4_put_32 rfl (lv_at hl 2 rfl) ?_
      refine gf_RX4_26 C0 M dX4_put_33 ?_
      refine lv_iload hx hb dX4_put_36 (lv_at hl 0 rfl) ?_
      refine lv_aload hx hb dX4_put_38 (lv_at hl 1 rfl) ?_
      refine gf_RX4_106 C0 M hB_8 dX4_put_40 ?_
      refine lv_lload hx hb dX4_put_43 (lv_at hl 7 rfl) ?_
      obtain ⟨y_10, hc_9, h⟩ := bnd_s h
      refine kS (As := [.int (g_5.1 16 n_7 0), .long y5]) (rest := [.int x_4, .ref (sb 8)]) (stk := [.long y_10, .int x_4, .ref (sb 8)]) (val := (some (.long y_10))) (c1 := 0) (s1 := 0) C0 M (k_X4_fitted hc_9) kw_21_21 Y_X4_fitted ⟨Nat.le_of_ble_eq_true rfl, Nat.le_of_ble_eq_true rfl⟩ rfl hl.1 rfl (Nat.le_of_ble_eq_true rfl) dX4_put_45 rfl rfl ⟨Nat.le_refl _, Nat.le_refl _⟩ rfl (fun H locs M => ?_)
      obtain ⟨g_12, hc_11, h⟩ := bnd_s h
      refine kV (As := [.int x_4, .long y_10]) (rest := []) (stk := []) (val := none) (c1 := 0) (s1 := 0) C0 M (k_X3_fill hc_11) kw_22_0 Y_X3_fill (rv_X3 C0 M) ⟨Nat.le_of_ble_eq_true rfl, Nat.le_of_ble_eq_true rfl⟩ rfl hl.1 rfl (Nat.le_of_ble_eq_true rfl) dX4_put_48 rfl rfl ⟨Nat.le_refl _, Nat.le_refl _⟩ rfl (fun H locs M => ?_)
      refine lv_aload_n hx hb dX4_put_51 rfl (lv_at hl 2 rfl) ?_
      refine lv_iconst (v := 1) hx hb dX4_put_52 (by decide) ?_
      obtain ⟨⟨x_14, g_15⟩, hc_13, h⟩ := bnd_s h
      try dsimp only at h
      refine kV (As := [.int (1 : Int32)]) (rest := []) (stk := [.int x_14]) (val := (some (.int x_14))) (c1 := 0) (s1 := 0) C0 M (k_X4_done hc_13) kw_5_23 Y_X4_done (rv_X4 C0 M) ⟨Nat.le_of_ble_eq_true rfl, Nat.le_of_ble_eq_true rfl⟩ rfl hl.1 rfl (Nat.le_of_ble_eq_true rfl) dX4_put_53 rfl rfl ⟨Nat.le_refl _, Nat.le_refl _⟩ rfl (fun H locs M => ?_)
      obtain rfl := Option.some.inj h
      exact rt_i C0 M hr hk dX4_put_56
theorem k_X4_put {x1 : Int32} {x2 : Int32} {x3 : Int32} {x4 : Int32} {y5 : Int64} {res : Int32 × Gs} (h : m_X4_put x1 x2 x3 x4 y5 g = some res) : CM l yX4_put cX4_put 9 (some .int) ({ frames := 5, cells := 0, slots := 0, locals := 115 } : Room) [.ref (sb 0), .int x1, .int x2, .int x3, .int x4, .long y5] (some (.int res.1)) D b0 cy sb db g res.2 := by
  refine Met.ofW (cc := cX4_put) (maxL := 9) (ret := (some .int)) (by decide) rfl ?_
  intro p e s m args below meth c s₁ B hml hv
  obtain ⟨rfl, hW, hK⟩ := hv
  have hl := lv_entry [.ref (sb 0), .int x1, .int x2, .int x3, .int x4, .long y5] (n := 9) (Nat.le_of_ble_eq_true rfl)
  rw [lg_entry_eq]
  generalize (lg_sl [.ref (sb 0), .int x1, .int x2, .int x3, .int x4, .long y5] ++ List.replicate (9 - (lg_sl [.ref (sb 0), .int x1, .int x2, .int x3, .int x4, .long y5]).length) Slot.unset).toArray = ls at hl ⊢
  have hl : lv_has ls 9 [(0, .ref (sb 0)), (1, .int x1), (2, .int x2), (3, .int x3), (4, .int x4), (5, .long y5)] := hl
  exact w_X4_put ⟨B.exec, B.bytes, hml, findClass_of_methodNamed B.named, fun w hw => atoms_spec (ws := Cond.code yX4_put cX4_put 9 (some .int) :: wsL_law) B.pre w (List.mem_cons_of_mem _ hw), hK⟩ B.returns B.notSynchronized hl ⟨hW, va_S.rf⟩ h
theorem Y_X4_put : Yv yX4_put RX4 cX4_put 9 (some .int) 5 := ⟨⟨kw_21_20, kw_1_2, by decide +kernel, by decide +kernel, by decide +kernel⟩, kw_21_18, kw_21_19⟩
-- X4_empty
def m_X4_empty (x1 : Int32) (x2 : Int32) (x3 : Int32) (x4 : Int32) (g : Gs) : Option (Int32 × Gs) :=
  (m_X4_arrayOf x1 g).bind fun o_2 => cas o_2 ((m_X4_stop (7 : Int32) g).bind fun (x_4, g_5) => some (x_4, g_5)) fun n_6 => if (g.1 16 n_6 0) = (3 : Int32) then ((m_X4_cellOf (some n_6) x2 x3 x4 g).bind fun (x_10, g_11) => if x_10 = (-1 : Int32) then (some ((0 : Int32), g_11)) else ((m_X3_drain x_10 g_11).bind fun g_14 => (m_X4_done (1 : Int32) g_14).bind fun (x_16, g_17) => some (x_16, g_17))) else ((m_X4_stop (2 : Int32) g).bind fun (x_19, g_20) => some (x_19, g_20))
set_option maxHeartbeats 4000000 in
set_option maxRecDepth 100000 in
theorem w_X4_empty {x1 : Int32} {x2 : Int32} {x3 : Int32} {x4 : Int32} (C0 : Cx p s m args c cX4_empty 7 RX4 D cy) (hr : meth.sig.returnType = (some .int)) (hk : meth.locks = false) {res : Int32 × Gs} (hl : lv_has ls 7 [(0, .ref (sb 0)), (1, .int x1), (2, .int x2), (3, .int x3), (4, .int x4)]) (M : Ws D b0 cy sb db g s H locs) (h : m_X4_empty x1 x2 x3 x4 g = some res) : W p l e ({ frames := 5, cells := 0, slots := 0, locals := 115 } : Room) s m args below meth c H locs 0 0 (MQ below (QX (some (.int res.1)) D b0 cy sb db res.2) args s 0 0 (fun q => b0 ≤ q)) (F0 m 0 ls []) := by
  obtain ⟨hx, hb, hml, hown, hts, hK⟩ := id C0
  rw [m_X4_empty] at h
  refine lv_aload_n hx hb dX4_empty_0 rfl (lv_at hl 0 rfl) ?_
  refine lv_iload_n hx hb dX4_empty_1 rfl (lv_at hl 1 rfl) ?_
  obtain ⟨o_2, hc_1, h⟩ := bnd_s h
  refine kV (As := [.int x1]) (rest := []) (stk := [rfA sb o_2]) (val := (some (rfA sb o_2))) (c1 := 0) (s1 := 0) C0 M (k_X4_arrayOf hc_1) kw_13_17 Y_X4_arrayOf (rv_X4 C0 M) ⟨Nat.le_of_ble_eq_true rfl, Nat.le_of_ble_eq_true rfl⟩ rfl hl.1 rfl (Nat.le_of_ble_eq_true rfl) dX4_empty_2 rfl rfl ⟨Nat.le_refl _, Nat.le_refl _⟩ rfl (fun H locs M => ?_)
  refine lq_astore (lv' := [(5, rfA sb o_2), (0, .ref (sb 0)), (1, .int x1), (2, .int x2), (3, .int x3), (4, .int x4)]) hx hb o_2 dX4_empty_5 hl (by decide) rfl (fun ls hl => ?_)
  refine lq_aload hx hb o_2 dX4_empty_7 (lv_at hl 0 rfl) ?_
  cases o_2 with
  | none =>
    try dsimp only [cas] at h
    refine lv_ifnonnullN hx hb dX4_empty_9 ?_
    refine lv_aload_n hx hb dX4_empty_12 rfl (lv_at hl 1 rfl) ?_
    refine lv_bipush (v := 7) hx hb dX4_empty_13 (by decide) ?_
    obtain ⟨⟨x_4, g_5⟩, hc_3, h⟩ := bnd_s h
    try dsimp only at h
    refine kV (As := [.int (7 : Int32)]) (rest := []) (stk := [.int x_4]) (val := (some (.int x_4))) (c1 := 0) (s1 := 0) C0 M (k_X4_stop hc_3) kw_5_10 Y_X4_stop (rv_X4 C0 M) ⟨Nat.le_of_ble_eq_true rfl, Nat.le_of_ble_eq_true rfl⟩ rfl hl.1 rfl (Nat.le_of_ble_eq_true rfl) dX4_empty_15 rfl rfl ⟨Nat.le_refl _, Nat.le_refl _⟩ rfl (fun H locs M => ?_)
    obtain rfl := Option.some.inj h
    exact rt_i C0 M hr hk dX4_empty_18
  | some n_6 =>
    obtain ⟨hB_7, h⟩ := chk_s (show chk _ _ = _ from h)
    try dsimp only at h
    have hl : lv_has ls 7 [(5, .ref (sb (400 + n_6))), (0, .ref (sb 0)), (1, .int x1), (2, .int x2), (3, .int x3), (4, .int x4)] := hl
    refine lv_ifnonnull (tgt := 19) hx hb dX4_empty_9 (by decide) ?_
    refine lv_aload hx hb dX4_empty_19 (lv_at hl 0 rfl) ?_
    refine gf_RX4_106 C0 M hB_7 dX4_empty_21 ?_
    refine lv_iconst (v := 3) hx hb dX4_empty_24 (by decide) ?_
    refine lv_icmp_eq (tgt := 34) hx hb dX4_empty_25 (by decide) (fun c_8 => ?_) (fun c_8 => ?_)
    · rw [if_pos c_8] at h
      refine lv_aload_n hx hb dX4_empty_34 rfl (lv_at hl 1 rfl) ?_
      refine lv_aload hx hb dX4_empty_35 (lv_at hl 0 rfl) ?_
      refine lv_iload_n hx hb dX4_empty_37 rfl (lv_at hl 3 rfl) ?_
      refine lv_iload_n hx hb dX4_empty_38 rfl (lv_at hl 4 rfl) ?_
      refine lv_iload hx hb dX4_empty_39 (lv_at hl 5 rfl) ?_
      obtain ⟨⟨x_10, g_11⟩, hc_9, h⟩ := bnd_s h
      try dsimp only at h
      refine kV (As := [rfA sb (some n_6), .int x2, .int x3, .int x4]) (rest := []) (stk := [.int x_10]) (val := (some (.int x_10))) (c1 := 0) (s1 := 0) C0 M (k_X4_cellOf hc_9) kw_21_1 Y_X4_cellOf (rv_X4 C0 M) ⟨Nat.le_of_ble_eq_true rfl, Nat.le_of_ble_eq_true rfl⟩ rfl hl.1 rfl (Nat.le_of_ble_eq_true rfl) dX4_empty_41 rfl rfl ⟨Nat.le_refl _, Nat.le_refl _⟩ rfl (fun H locs M => ?_)
      refine lv_istore (lv' := [(6, .int x_10), (5, .ref (sb (400 + n_6))), (0, .ref (sb 0)), (1, .int x1), (2, .int x2), (3, .int x3), (4, .int x4)]) hx hb dX4_empty_44 hl (by decide) rfl (fun ls hl => ?_)
      refine lv_iload hx hb dX4_empty_46 (lv_at hl 0 rfl) ?_
      refine lv_iconst (v := -1) hx hb dX4_empty_48 (by decide) ?_
      refine lv_icmp_ne (tgt := 54) hx hb dX4_empty_49 (by decide) (fun c_12 => ?_) (fun c_12 => ?_)
      · rw [if_neg c_12] at h
        refine lv_aload_n hx hb dX4_empty_54 rfl (lv_at hl 2 rfl) ?_
        refine gf_RX4_26 C0 M dX4_empty_55 ?_
        refine lv_iload hx hb dX4_empty_58 (lv_at hl 0 rfl) ?_
        obtain ⟨g_14, hc_13, h⟩ := bnd_s h
        refine kV (As := [.int x_10]) (rest := []) (stk := []) (val := none) (c1 := 0) (s1 := 0) C0 M (k_X3_drain hc_13) kw_22_22 Y_X3_drain (rv_X3 C0 M) ⟨Nat.le_of_ble_eq_true rfl, Nat.le_of_ble_eq_true rfl⟩ rfl hl.1 rfl (Nat.le_of_ble_eq_true rfl) dX4_empty_60 rfl rfl ⟨Nat.le_refl _, Nat.le_refl _⟩ rfl (fun H locs M => ?_)
        refine lv_aload_n hx hb dX4_empty_63 rfl (lv_at hl 2 rfl) ?_
        refine lv_iconst (v := 1) hx hb dX4_empty_64 (by decide) ?_
        obtain ⟨⟨x_16, g_17⟩, hc_15, h⟩ := bnd_s h
        try dsimp only at h
        refine kV (As := [.int (1 : Int32)]) (rest := []) (stk := [.int x_16]) (val := (some (.int x_16))) (c1 := 0) (s1 := 0) C0 M (k_X4_done hc_15) kw_5_23 Y_X4_done (rv_X4 C0 M) ⟨Nat.le_of_ble_eq_true rfl, Nat.le_of_ble_eq_true rfl⟩ rfl hl.1 rfl (Nat.le_of_ble_eq_true rfl) dX4_empty_65 rfl rfl ⟨Nat.le_refl _, Nat.le_refl _⟩ rfl (fun H locs M => ?_)
        obtain rfl := Option.some.inj h
        exact rt_i C0 M hr hk dX4_empty_68
      · rw [if_pos c_12] at h
        refine lv_iconst (v := 0) hx hb dX4_empty_52 (by decide) ?_
        obtain rfl := Option.some.inj h
        exact rt_i C0 M hr hk dX4_empty_53
    · rw [if_neg c_8] at h
      refine lv_aload_n hx hb dX4_empty_28 rfl (lv_at hl 1 rfl) ?_
      refine lv_iconst (v := 2) hx hb dX4_empty_29 (by decide) ?_
      obtain ⟨⟨x_19, g_20⟩, hc_18, h⟩ := bnd_s h
      try dsimp only at h
      refine kV (As := [.int (2 : Int32)]) (rest := []) (stk := [.int x_19]) (val := (some (.int x_19))) (c1 := 0) (s1 := 0) C0 M (k_X4_stop hc_18) kw_5_10 Y_X4_stop (rv_X4 C0 M) ⟨Nat.le_of_ble_eq_true rfl, Nat.le_of_ble_eq_true rfl⟩ rfl hl.1 rfl (Nat.le_of_ble_eq_true rfl) dX4_empty_30 rfl rfl ⟨Nat.le_refl _, Nat.le_refl _⟩ rfl (fun H locs M => ?_)
      obtain rfl := Option.some.inj h
      exact rt_i C0 M hr hk dX4_empty_33
theorem k_X4_empty {x1 : Int32} {x2 : Int32} {x3 : Int32} {x4 : Int32} {res : Int32 × Gs} (h : m_X4_empty x1 x2 x3 x4 g = some res) : CM l yX4_empty cX4_empty 7 (some .int) ({ frames := 5, cells := 0, slots := 0, locals := 115 } : Room) [.ref (sb 0), .int x1, .int x2, .int x3, .int x4] (some (.int res.1)) D b0 cy sb db g res.2 := by
  refine Met.ofW (cc := cX4_empty) (maxL := 7) (ret := (some .int)) (by decide) rfl ?_
  intro p e s m args below meth c s₁ B hml hv
  obtain ⟨rfl, hW, hK⟩ := hv
  have hl := lv_entry [.ref (sb 0), .int x1, .int x2, .int x3, .int x4] (n := 7) (Nat.le_of_ble_eq_true rfl)
  rw [lg_entry_eq]
  generalize (lg_sl [.ref (sb 0), .int x1, .int x2, .int x3, .int x4] ++ List.replicate (7 - (lg_sl [.ref (sb 0), .int x1, .int x2, .int x3, .int x4]).length) Slot.unset).toArray = ls at hl ⊢
  have hl : lv_has ls 7 [(0, .ref (sb 0)), (1, .int x1), (2, .int x2), (3, .int x3), (4, .int x4)] := hl
  exact w_X4_empty ⟨B.exec, B.bytes, hml, findClass_of_methodNamed B.named, fun w hw => atoms_spec (ws := Cond.code yX4_empty cX4_empty 7 (some .int) :: wsL_law) B.pre w (List.mem_cons_of_mem _ hw), hK⟩ B.returns B.notSynchronized hl ⟨hW, va_S.rf⟩ h
theorem Y_X4_empty : Yv yX4_empty RX4 cX4_empty 7 (some .int) 4 := ⟨⟨kw_22_21, kw_1_2, by decide +kernel, by decide +kernel, by decide +kernel⟩, kw_22_19, kw_22_20⟩
-- X4_pair
def m_X4_pair (x1 : Int32) (x2 : Int32) (x3 : Int32) (y4 : Int64) (g : Gs) : Option (Int32 × Gs) :=
  if (g.1 7 0 0) < (30 : Int32) then ((m_X0_add x1 x2 x3 y4 g).bind fun g_3 => (m_X4_done (g_3.1 7 0 0) g_3).bind fun (x_5, g_6) => some (x_5, g_6)) else ((m_X4_stop (8 : Int32) g).bind fun (x_8, g_9) => some (x_8, g_9))
set_option maxHeartbeats 4000000 in
set_option maxRecDepth 100000 in
theorem w_X4_pair {x1 : Int32} {x2 : Int32} {x3 : Int32} {y4 : Int64} (C0 : Cx p s m args c cX4_pair 6 RX4 D cy) (hr : meth.sig.returnType = (some .int)) (hk : meth.locks = false) {res : Int32 × Gs} (hl : lv_has ls 6 [(0, .ref (sb 0)), (1, .int x1), (2, .int x2), (3, .int x3), (4, .long y4)]) (M : Ws D b0 cy sb db g s H locs) (h : m_X4_pair x1 x2 x3 y4 g = some res) : W p l e ({ frames := 2, cells := 0, slots := 0, locals := 43 } : Room) s m args below meth c H locs 0 0 (MQ below (QX (some (.int res.1)) D b0 cy sb db res.2) args s 0 0 (fun q => b0 ≤ q)) (F0 m 0 ls []) := by
  obtain ⟨hx, hb, hml, hown, hts, hK⟩ := id C0
  rw [m_X4_pair] at h
  refine lv_aload_n hx hb dX4_pair_0 rfl (lv_at hl 0 rfl) ?_
  refine gf_RX4_19 C0 M dX4_pair_1 ?_
  refine gf_RX4_185 C0 M dX4_pair_4 ?_
  refine lv_bipush (v := 30) hx hb dX4_pair_7 (by decide) ?_
  refine lv_icmp_lt (tgt := 19) hx hb dX4_pair_9 (by decide) (fun c_1 => ?_) (fun c_1 => ?_)
  · rw [if_pos c_1] at h
    refine lv_aload_n hx hb dX4_pair_19 rfl (lv_at hl 0 rfl) ?_
    refine gf_RX4_19 C0 M dX4_pair_20 ?_
    refine lv_iload_n hx hb dX4_pair_23 rfl (lv_at hl 1 rfl) ?_
    refine lv_iload_n hx hb dX4_pair_24 rfl (lv_at hl 2 rfl) ?_
    refine lv_iload_n hx hb dX4_pair_25 rfl (lv_at hl 3 rfl) ?_
    refine lv_lload hx hb dX4_pair_26 (lv_at hl 4 rfl) ?_
    obtain ⟨g_3, hc_2, h⟩ := bnd_s h
    refine kV (As := [.int x1, .int x2, .int x3, .long y4]) (rest := []) (stk := []) (val := none) (c1 := 0) (s1 := 0) C0 M (k_X0_add hc_2) kw_23_11 Y_X0_add (rv_X0 C0 M) ⟨Nat.le_of_ble_eq_true rfl, Nat.le_of_ble_eq_true rfl⟩ rfl hl.1 rfl (Nat.le_of_ble_eq_true rfl) dX4_pair_28 rfl rfl ⟨Nat.le_refl _, Nat.le_refl _⟩ rfl (fun H locs M => ?_)
    refine lv_aload_n hx hb dX4_pair_31 rfl (lv_at hl 0 rfl) ?_
    refine lv_aload_n hx hb dX4_pair_32 rfl (lv_at hl 0 rfl) ?_
    refine gf_RX4_19 C0 M dX4_pair_33 ?_
    refine gf_RX4_185 C0 M dX4_pair_36 ?_
    obtain ⟨⟨x_5, g_6⟩, hc_4, h⟩ := bnd_s h
    try dsimp only at h
    refine kV (As := [.int (g_3.1 7 0 0)]) (rest := []) (stk := [.int x_5]) (val := (some (.int x_5))) (c1 := 0) (s1 := 0) C0 M (k_X4_done hc_4) kw_5_23 Y_X4_done (rv_X4 C0 M) ⟨Nat.le_of_ble_eq_true rfl, Nat.le_of_ble_eq_true rfl⟩ rfl hl.1 rfl (Nat.le_of_ble_eq_true rfl) dX4_pair_39 rfl rfl ⟨Nat.le_refl _, Nat.le_refl _⟩ rfl (fun H locs M => ?_)
    obtain rfl := Option.some.inj h
    exact rt_i C0 M hr hk dX4_pair_42
  · rw [if_neg c_1] at h
    refine lv_aload_n hx hb dX4_pair_12 rfl (lv_at hl 0 rfl) ?_
    refine lv_bipush (v := 8) hx hb dX4_pair_13 (by decide) ?_
    obtain ⟨⟨x_8, g_9⟩, hc_7, h⟩ := bnd_s h
    try dsimp only at h
    refine kV (As := [.int (8 : Int32)]) (rest := []) (stk := [.int x_8]) (val := (some (.int x_8))) (c1 := 0) (s1 := 0) C0 M (k_X4_stop hc_7) kw_5_10 Y_X4_stop (rv_X4 C0 M) ⟨Nat.le_of_ble_eq_true rfl, Nat.le_of_ble_eq_true rfl⟩ rfl hl.1 rfl (Nat.le_of_ble_eq_true rfl) dX4_pair_15 rfl rfl ⟨Nat.le_refl _, Nat.le_refl _⟩ rfl (fun H locs M => ?_)
    obtain rfl := Option.some.inj h
    exact rt_i C0 M hr hk dX4_pair_18
theorem k_X4_pair {x1 : Int32} {x2 : Int32} {x3 : Int32} {y4 : Int64} {res : Int32 × Gs} (h : m_X4_pair x1 x2 x3 y4 g = some res) : CM l yX4_pair cX4_pair 6 (some .int) ({ frames := 2, cells := 0, slots := 0, locals := 43 } : Room) [.ref (sb 0), .int x1, .int x2, .int x3, .long y4] (some (.int res.1)) D b0 cy sb db g res.2 := by
  refine Met.ofW (cc := cX4_pair) (maxL := 6) (ret := (some .int)) (by decide) rfl ?_
  intro p e s m args below meth c s₁ B hml hv
  obtain ⟨rfl, hW, hK⟩ := hv
  have hl := lv_entry [.ref (sb 0), .int x1, .int x2, .int x3, .long y4] (n := 6) (Nat.le_of_ble_eq_true rfl)
  rw [lg_entry_eq]
  generalize (lg_sl [.ref (sb 0), .int x1, .int x2, .int x3, .long y4] ++ List.replicate (6 - (lg_sl [.ref (sb 0), .int x1, .int x2, .int x3, .long y4]).length) Slot.unset).toArray = ls at hl ⊢
  have hl : lv_has ls 6 [(0, .ref (sb 0)), (1, .int x1), (2, .int x2), (3, .int x3), (4, .long y4)] := hl
  exact w_X4_pair ⟨B.exec, B.bytes, hml, findClass_of_methodNamed B.named, fun w hw => atoms_spec (ws := Cond.code yX4_pair cX4_pair 6 (some .int) :: wsL_law) B.pre w (List.mem_cons_of_mem _ hw), hK⟩ B.returns B.notSynchronized hl ⟨hW, va_S.rf⟩ h
theorem Y_X4_pair : Yv yX4_pair RX4 cX4_pair 6 (some .int) 4 := ⟨⟨kw_23_9, kw_1_2, by decide +kernel, by decide +kernel, by decide +kernel⟩, kw_23_7, kw_23_8⟩
-- X4_joined
def m_X4_joined_J65 (ys0 : Int64) (g : Gs) : Option (Int64) :=
  some ys0
def m_X4_joined_J79 (ys0 : Int64) (g : Gs) : Option (Int64) :=
  some ys0
def m_X4_joined (y0 : Int64) (y2 : Int64) (x4 : Int32) (g : Gs) : Option (Int64) :=
  if x4 = 1 then (some (y0 + y2)) else (if x4 = 2 then (some (if y2 < y0 then y0 else y2)) else (if x4 = 3 then (some (if y2 < y0 then y2 else y0)) else (if x4 = 4 then (if (lg_cmp y2 (0 : Int64)) = 0 then (m_X4_joined_J65 (0 : Int64) g) else (chk (¬ y2 = 0) (m_X4_joined_J65 (y0 / y2) g))) else (if x4 = 5 then (if (lg_cmp y2 (0 : Int64)) = 0 then (m_X4_joined_J79 (0 : Int64) g) else (chk (¬ y2 = 0) (m_X4_joined_J79 (y0 - y0 / y2 * y2) g))) else (some y2)))))
set_option maxHeartbeats 4000000 in
set_option maxRecDepth 100000 in
theorem w_X4_joined_J65 {ys0 : Int64} (C0 : Cx p s m args c cX4_joined 5 RX4 D cy) (hr : meth.sig.returnType = (some .long)) (hk : meth.locks = false) {res : Int64} (hl : lv_has ls 5 []) (M : Ws D b0 cy sb db g s H locs) (h : m_X4_joined_J65 ys0 g = some res) : W p l e ({ frames := 1, cells := 0, slots := 0, locals := 23 } : Room) s m args below meth c H locs 0 0 (MQ below (QX (some (.long res)) D b0 cy sb db g) args s 0 0 (fun q => b0 ≤ q)) (F0 m 65 ls [.long ys0]) := by
  obtain ⟨hx, hb, hml, hown, hts, hK⟩ := id C0
  rw [m_X4_joined_J65] at h
  obtain rfl := Option.some.inj h
  exact rt_l C0 M hr hk dX4_joined_65
set_option maxHeartbeats 4000000 in
set_option maxRecDepth 100000 in
theorem w_X4_joined_J79 {ys0 : Int64} (C0 : Cx p s m args c cX4_joined 5 RX4 D cy) (hr : meth.sig.returnType = (some .long)) (hk : meth.locks = false) {res : Int64} (hl : lv_has ls 5 []) (M : Ws D b0 cy sb db g s H locs) (h : m_X4_joined_J79 ys0 g = some res) : W p l e ({ frames := 1, cells := 0, slots := 0, locals := 23 } : Room) s m args below meth c H locs 0 0 (MQ below (QX (some (.long res)) D b0 cy sb db g) args s 0 0 (fun q => b0 ≤ q)) (F0 m 79 ls [.long ys0]) := by
  obtain ⟨hx, hb, hml, hown, hts, hK⟩ := id C0
  rw [m_X4_joined_J79] at h
  obtain rfl := Option.some.inj h
  exact rt_l C0 M hr hk dX4_joined_79
set_option maxHeartbeats 4000000 in
set_option maxRecDepth 100000 in
theorem w_X4_joined {y0 : Int64} {y2 : Int64} {x4 : Int32} (C0 : Cx p s m args c cX4_joined 5 RX4 D cy) (hr : meth.sig.returnType = (some .long)) (hk : meth.locks = false) {res : Int64} (hl : lv_has ls 5 [(0, .long y0), (2, .long y2), (4, .int x4)]) (M : Ws D b0 cy sb db g s H locs) (h : m_X4_joined y0 y2 x4 g = some res) : W p l e ({ frames := 1, cells := 0, slots := 0, locals := 23 } : Room) s m args below meth c H locs 0 0 (MQ below (QX (some (.long res)) D b0 cy sb db g) args s 0 0 (fun q => b0 ≤ q)) (F0 m 0 ls []) := by
  obtain ⟨hx, hb, hml, hown, hts, hK⟩ := id C0
  rw [m_X4_joined] at h
  refine lv_iload hx hb dX4_joined_0 (lv_at hl 2 rfl) ?_
  by_cases c_1 : x4 = 1
  · rw [if_pos c_1] at h
    refine nm_i (v := 1) c_1.symm ?_
    refine lv_tableIn (tgt := 36) (off := 34) hx hb dX4_joined_2 (by decide) (by decide) (by decide) (by decide) ?_
    refine lv_lload_n hx hb dX4_joined_36 rfl (lv_at hl 0 rfl) ?_
    refine lv_lload_n hx hb dX4_joined_37 rfl (lv_at hl 1 rfl) ?_
    refine lv_ladd hx hb dX4_joined_38 ?_
    obtain rfl := Option.some.inj h
    exact rt_l C0 M hr hk dX4_joined_39
  rw [if_neg c_1] at h
  by_cases c_2 : x4 = 2
  · rw [if_pos c_2] at h
    refine nm_i (v := 2) c_2.symm ?_
    refine lv_tableIn (tgt := 40) (off := 38) hx hb dX4_joined_2 (by decide) (by decide) (by decide) (by decide) ?_
    refine lv_lload_n hx hb dX4_joined_40 rfl (lv_at hl 0 rfl) ?_
    refine lv_lload_n hx hb dX4_joined_41 rfl (lv_at hl 1 rfl) ?_
    refine va_mmax_long hx hb (hml.trans hl.1.symm) hown (hts _ kw_24_12) (hts _ kw_8_0) (hts _ kw_7_17) (hts _ kw_8_1) (Nat.le_of_ble_eq_true rfl) (Nat.le_of_ble_eq_true rfl) (Nat.zero_le _) (Nat.zero_le _) dX4_joined_42 ?_
    obtain rfl := Option.some.inj h
    exact rt_l C0 M hr hk dX4_joined_45
  rw [if_neg c_2] at h
  by_cases c_3 : x4 = 3
  · rw [if_pos c_3] at h
    refine nm_i (v := 3) c_3.symm ?_
    refine lv_tableIn (tgt := 46) (off := 44) hx hb dX4_joined_2 (by decide) (by decide) (by decide) (by decide) ?_
    refine lv_lload_n hx hb dX4_joined_46 rfl (lv_at hl 0 rfl) ?_
    refine lv_lload_n hx hb dX4_joined_47 rfl (lv_at hl 1 rfl) ?_
    refine va_mmin_long hx hb (hml.trans hl.1.symm) hown (hts _ kw_24_13) (hts _ kw_7_16) (hts _ kw_7_17) (hts _ kw_7_18) (Nat.le_of_ble_eq_true rfl) (Nat.le_of_ble_eq_true rfl) (Nat.zero_le _) (Nat.zero_le _) dX4_joined_48 ?_
    obtain rfl := Option.some.inj h
    exact rt_l C0 M hr hk dX4_joined_51
  rw [if_neg c_3] at h
  by_cases c_4 : x4 = 4
  · rw [if_pos c_4] at h
    refine nm_i (v := 4) c_4.symm ?_
    refine lv_tableIn (tgt := 52) (off := 50) hx hb dX4_joined_2 (by decide) (by decide) (by decide) (by decide) ?_
    refine lv_lload_n hx hb dX4_joined_52 rfl (lv_at hl 1 rfl) ?_
    refine lv_lconst (v := 0) hx hb dX4_joined_53 (by decide) ?_
    refine W.lcmp hx hb dX4_joined_54 ?_
    refine lv_if_ne (tgt := 62) hx hb dX4_joined_55 (by decide) (fun c_5 => ?_) (fun c_5 => ?_)
    · rw [if_neg c_5] at h
      refine lv_lload_n hx hb dX4_joined_62 rfl (lv_at hl 0 rfl) ?_
      refine lv_lload_n hx hb dX4_joined_63 rfl (lv_at hl 1 rfl) ?_
      obtain ⟨hd_6, h⟩ := chk_s h
      refine lv_ldiv hx hb dX4_joined_64 hd_6 ?_
      exact w_X4_joined_J65 C0 hr hk (lv_sub hl [] rfl) M h
    · rw [if_pos c_5] at h
      refine lv_lconst (v := 0) hx hb dX4_joined_58 (by decide) ?_
      refine lv_goto (tgt := 65) hx hb dX4_joined_59 (by decide) ?_
      exact w_X4_joined_J65 C0 hr hk (lv_sub hl [] rfl) M h
  rw [if_neg c_4] at h
  by_cases c_7 : x4 = 5
  · rw [if_pos c_7] at h
    refine nm_i (v := 5) c_7.symm ?_
    refine lv_tableIn (tgt := 66) (off := 64) hx hb dX4_joined_2 (by decide) (by decide) (by decide) (by decide) ?_
    refine lv_lload_n hx hb dX4_joined_66 rfl (lv_at hl 1 rfl) ?_
    refine lv_lconst (v := 0) hx hb dX4_joined_67 (by decide) ?_
    refine W.lcmp hx hb dX4_joined_68 ?_
    refine lv_if_ne (tgt := 76) hx hb dX4_joined_69 (by decide) (fun c_8 => ?_) (fun c_8 => ?_)
    · rw [if_neg c_8] at h
      refine lv_lload_n hx hb dX4_joined_76 rfl (lv_at hl 0 rfl) ?_
      refine lv_lload_n hx hb dX4_joined_77 rfl (lv_at hl 1 rfl) ?_
      obtain ⟨hd_9, h⟩ := chk_s h
      refine lv_lrem hx hb dX4_joined_78 hd_9 ?_
      exact w_X4_joined_J79 C0 hr hk (lv_sub hl [] rfl) M h
    · rw [if_pos c_8] at h
      refine lv_lconst (v := 0) hx hb dX4_joined_72 (by decide) ?_
      refine lv_goto (tgt := 79) hx hb dX4_joined_73 (by decide) ?_
      exact w_X4_joined_J79 C0 hr hk (lv_sub hl [] rfl) M h
  rw [if_neg c_7] at h
  have tc_1 := lv_neT (k := 1) (a := 1) c_1 (by decide)
  have tc_2 := lv_neT (k := 2) (a := 2) c_2 (by decide)
  have tc_3 := lv_neT (k := 3) (a := 3) c_3 (by decide)
  have tc_4 := lv_neT (k := 4) (a := 4) c_4 (by decide)
  have tc_7 := lv_neT (k := 5) (a := 5) c_7 (by decide)
  refine lv_tableOut (tgt := 80) hx hb dX4_joined_2 (by omega) (by decide) ?_
  refine lv_lload_n hx hb dX4_joined_80 rfl (lv_at hl 1 rfl) ?_
  obtain rfl := Option.some.inj h
  exact rt_l C0 M hr hk dX4_joined_81
theorem k_X4_joined {y0 : Int64} {y2 : Int64} {x4 : Int32} {res : Int64} (h : m_X4_joined y0 y2 x4 g = some res) : CM l yX4_joined cX4_joined 5 (some .long) ({ frames := 1, cells := 0, slots := 0, locals := 23 } : Room) [.long y0, .long y2, .int x4] (some (.long res)) D b0 cy sb db g g := by
  refine Met.ofW (cc := cX4_joined) (maxL := 5) (ret := (some .long)) (by decide) rfl ?_
  intro p e s m args below meth c s₁ B hml hv
  obtain ⟨rfl, hW, hK⟩ := hv
  have hl := lv_entry [.long y0, .long y2, .int x4] (n := 5) (Nat.le_of_ble_eq_true rfl)
  rw [lg_entry_eq]
  generalize (lg_sl [.long y0, .long y2, .int x4] ++ List.replicate (5 - (lg_sl [.long y0, .long y2, .int x4]).length) Slot.unset).toArray = ls at hl ⊢
  have hl : lv_has ls 5 [(0, .long y0), (2, .long y2), (4, .int x4)] := hl
  exact w_X4_joined ⟨B.exec, B.bytes, hml, findClass_of_methodNamed B.named, fun w hw => atoms_spec (ws := Cond.code yX4_joined cX4_joined 5 (some .long) :: wsL_law) B.pre w (List.mem_cons_of_mem _ hw), hK⟩ B.returns B.notSynchronized hl ⟨hW, va_S.rf⟩ h
theorem Y_X4_joined : Ys yX4_joined cX4_joined 5 (some .long) 3 := ⟨⟨kw_24_11, kw_1_2, by decide +kernel, by decide +kernel, by decide +kernel⟩, kw_24_10⟩
-- X4_joinCell
def m_X4_joinCell_J47 (x1 : Int32) (x2 : Int32) (y3 : Int64) (x5 : Int32) (g : Gs) : Option (Int32 × Gs) :=
  chk (inb x2 (g.2.2 9)) ((m_X4_joined (g.2.1 0 x2.toNatClampNeg) y3 x5 g).bind fun y_6 => (m_X4_fitted x1 y_6 g).bind fun y_8 => (m_X3_fill x2 y_8 g).bind fun g_10 => chk ((1 : Int32) &&& 1 = (1 : Int32)) (some ((1 : Int32), g_10)))
def m_X4_joinCell_J45  (g : Gs) : Option (Int32 × Gs) :=
  chk ((0 : Int32) &&& 1 = (0 : Int32)) (some ((0 : Int32), g))
def m_X4_joinCell (x1 : Int32) (x2 : Int32) (y3 : Int64) (x5 : Int32) (g : Gs) : Option (Int32 × Gs) :=
  chk (inb x2 (g.2.2 10)) (if (g.1 13 0 x2.toNatClampNeg) = 0 then ((m_X4_fitted x1 y3 g).bind fun y_16 => (m_X3_fill x2 y_16 g).bind fun g_18 => chk ((1 : Int32) &&& 1 = (1 : Int32)) (some ((1 : Int32), g_18))) else (if (lg_cmp y3 (0 : Int64)) = 0 then (if x5 = (4 : Int32) then (m_X4_joinCell_J45  g) else (if x5 = (5 : Int32) then (m_X4_joinCell_J45  g) else (m_X4_joinCell_J47 x1 x2 y3 x5 g))) else (m_X4_joinCell_J47 x1 x2 y3 x5 g)))
set_option maxHeartbeats 4000000 in
set_option maxRecDepth 100000 in
theorem w_X4_joinCell_J47 {x1 : Int32} {x2 : Int32} {y3 : Int64} {x5 : Int32} (C0 : Cx p s m args c cX4_joinCell 6 RX4 D cy) (hr : meth.sig.returnType = (some .boolean)) (hk : meth.locks = false) {res : Int32 × Gs} (hl : lv_has ls 6 [(0, .ref (sb 0)), (1, .int x1), (2, .int x2), (3, .long y3), (5, .int x5)]) (M : Ws D b0 cy sb db g s H locs) (h : m_X4_joinCell_J47 x1 x2 y3 x5 g = some res) : W p l e ({ frames := 2, cells := 0, slots := 0, locals := 47 } : Room) s m args below meth c H locs 0 0 (MQ below (QX (some (.int res.1)) D b0 cy sb db res.2) args s 0 0 (fun q => b0 ≤ q)) (F0 m 47 ls []) := by
  obtain ⟨hx, hb, hml, hown, hts, hK⟩ := id C0
  rw [m_X4_joinCell_J47] at h
  refine lv_aload_n hx hb dX4_joinCell_47 rfl (lv_at hl 0 rfl) ?_
  refine gf_RX4_26 C0 M dX4_joinCell_48 ?_
  refine lv_iload_n hx hb dX4_joinCell_51 rfl (lv_at hl 2 rfl) ?_
  refine lv_iload_n hx hb dX4_joinCell_52 rfl (lv_at hl 1 rfl) ?_
  refine lv_aload_n hx hb dX4_joinCell_53 rfl (lv_at hl 0 rfl) ?_
  refine gf_RX4_26 C0 M dX4_joinCell_54 ?_
  refine gf_RX4_169 C0 M dX4_joinCell_57 ?_
  refine lv_iload_n hx hb dX4_joinCell_60 rfl (lv_at hl 2 rfl) ?_
  obtain ⟨hi_4, h⟩ := chk_s h
  refine al_NUM C0 M hi_4 dX4_joinCell_61 ?_
  refine lv_lload_n hx hb dX4_joinCell_62 rfl (lv_at hl 3 rfl) ?_
  refine lv_iload hx hb dX4_joinCell_63 (lv_at hl 4 rfl) ?_
  obtain ⟨y_6, hc_5, h⟩ := bnd_s h
  refine kS (As := [.long (g.2.1 0 x2.toNatClampNeg), .long y3, .int x5]) (rest := [.int x1, .int x2, .ref (sb 8)]) (stk := [.long y_6, .int x1, .int x2, .ref (sb 8)]) (val := (some (.long y_6))) (c1 := 0) (s1 := 0) C0 M (k_X4_joined hc_5) kw_24_9 Y_X4_joined ⟨Nat.le_of_ble_eq_true rfl, Nat.le_of_ble_eq_true rfl⟩ rfl hl.1 rfl (Nat.le_of_ble_eq_true rfl) dX4_joinCell_65 rfl rfl ⟨Nat.le_refl _, Nat.le_refl _⟩ rfl (fun H locs M => ?_)
  obtain ⟨y_8, hc_7, h⟩ := bnd_s h
  refine kS (As := [.int x1, .long y_6]) (rest := [.int x2, .ref (sb 8)]) (stk := [.long y_8, .int x2, .ref (sb 8)]) (val := (some (.long y_8))) (c1 := 0) (s1 := 0) C0 M (k_X4_fitted hc_7) kw_21_21 Y_X4_fitted ⟨Nat.le_of_ble_eq_true rfl, Nat.le_of_ble_eq_true rfl⟩ rfl hl.1 rfl (Nat.le_of_ble_eq_true rfl) dX4_joinCell_68 rfl rfl ⟨Nat.le_refl _, Nat.le_refl _⟩ rfl (fun H locs M => ?_)
  obtain ⟨g_10, hc_9, h⟩ := bnd_s h
  refine kV (As := [.int x2, .long y_8]) (rest := []) (stk := []) (val := none) (c1 := 0) (s1 := 0) C0 M (k_X3_fill hc_9) kw_22_0 Y_X3_fill (rv_X3 C0 M) ⟨Nat.le_of_ble_eq_true rfl, Nat.le_of_ble_eq_true rfl⟩ rfl hl.1 rfl (Nat.le_of_ble_eq_true rfl) dX4_joinCell_71 rfl rfl ⟨Nat.le_refl _, Nat.le_refl _⟩ rfl (fun H locs M => ?_)
  refine lv_iconst (v := 1) hx hb dX4_joinCell_74 (by decide) ?_
  obtain ⟨hz_11, h⟩ := chk_s h
  obtain rfl := Option.some.inj h
  exact rt_z C0 M hr hk hz_11 dX4_joinCell_75
set_option maxHeartbeats 4000000 in
set_option maxRecDepth 100000 in
theorem w_X4_joinCell_J45  (C0 : Cx p s m args c cX4_joinCell 6 RX4 D cy) (hr : meth.sig.returnType = (some .boolean)) (hk : meth.locks = false) {res : Int32 × Gs} (hl : lv_has ls 6 []) (M : Ws D b0 cy sb db g s H locs) (h : m_X4_joinCell_J45  g = some res) : W p l e ({ frames := 2, cells := 0, slots := 0, locals := 47 } : Room) s m args below meth c H locs 0 0 (MQ below (QX (some (.int res.1)) D b0 cy sb db res.2) args s 0 0 (fun q => b0 ≤ q)) (F0 m 45 ls []) := by
  obtain ⟨hx, hb, hml, hown, hts, hK⟩ := id C0
  rw [m_X4_joinCell_J45] at h
  refine lv_iconst (v := 0) hx hb dX4_joinCell_45 (by decide) ?_
  obtain ⟨hz_13, h⟩ := chk_s h
  obtain rfl := Option.some.inj h
  exact rt_z C0 M hr hk hz_13 dX4_joinCell_46
set_option maxHeartbeats 4000000 in
set_option maxRecDepth 100000 in
theorem w_X4_joinCell {x1 : Int32} {x2 : Int32} {y3 : Int64} {x5 : Int32} (C0 : Cx p s m args c cX4_joinCell 6 RX4 D cy) (hr : meth.sig.returnType = (some .boolean)) (hk : meth.locks = false) {res : Int32 × Gs} (hl : lv_has ls 6 [(0, .ref (sb 0)), (1, .int x1), (2, .int x2), (3, .long y3), (5, .int x5)]) (M : Ws D b0 cy sb db g s H locs) (h : m_X4_joinCell x1 x2 y3 x5 g = some res) : W p l e ({ frames := 2, cells := 0, slots := 0, locals := 47 } : Room) s m args below meth c H locs 0 0 (MQ below (QX (some (.int res.1)) D b0 cy sb db res.2) args s 0 0 (fun q => b0 ≤ q)) (F0 m 0 ls []) := by
  obtain ⟨hx, hb, hml, hown, hts, hK⟩ := id C0
  rw [m_X4_joinCell] at h
  refine lv_aload_n hx hb dX4_joinCell_0 rfl (lv_at hl 0 rfl) ?_
  refine gf_RX4_26 C0 M dX4_joinCell_1 ?_
  refine gf_RX4_165 C0 M dX4_joinCell_4 ?_
  refine lv_iload_n hx hb dX4_joinCell_7 rfl (lv_at hl 2 rfl) ?_
  obtain ⟨hi_1, h⟩ := chk_s h
  refine al_FIL C0 M hi_1 dX4_joinCell_8 ?_
  refine lv_if_ne (tgt := 27) hx hb dX4_joinCell_9 (by decide) (fun c_2 => ?_) (fun c_2 => ?_)
  · rw [if_neg c_2] at h
    refine lv_lload_n hx hb dX4_joinCell_27 rfl (lv_at hl 3 rfl) ?_
    refine lv_lconst (v := 0) hx hb dX4_joinCell_28 (by decide) ?_
    refine W.lcmp hx hb dX4_joinCell_29 ?_
    refine lv_if_ne (tgt := 47) hx hb dX4_joinCell_30 (by decide) (fun c_3 => ?_) (fun c_3 => ?_)
    · rw [if_neg c_3] at h
      exact w_X4_joinCell_J47 C0 hr hk hl M h
    · rw [if_pos c_3] at h
      refine lv_iload hx hb dX4_joinCell_33 (lv_at hl 4 rfl) ?_
      refine lv_iconst (v := 4) hx hb dX4_joinCell_35 (by decide) ?_
      refine lv_icmp_eq (tgt := 45) hx hb dX4_joinCell_36 (by decide) (fun c_12 => ?_) (fun c_12 => ?_)
      · rw [if_pos c_12] at h
        exact w_X4_joinCell_J45 C0 hr hk (lv_sub hl [] rfl) M h
      · rw [if_neg c_12] at h
        refine lv_iload hx hb dX4_joinCell_39 (lv_at hl 4 rfl) ?_
        refine lv_iconst (v := 5) hx hb dX4_joinCell_41 (by decide) ?_
        refine lv_icmp_ne (tgt := 47) hx hb dX4_joinCell_42 (by decide) (fun c_14 => ?_) (fun c_14 => ?_)
        · rw [if_neg c_14] at h
          exact w_X4_joinCell_J47 C0 hr hk hl M h
        · rw [if_pos c_14] at h
          exact w_X4_joinCell_J45 C0 hr hk (lv_sub hl [] rfl) M h
  · rw [if_pos c_2] at h
    refine lv_aload_n hx hb dX4_joinCell_12 rfl (lv_at hl 0 rfl) ?_
    refine gf_RX4_26 C0 M dX4_joinCell_13 ?_
    refine lv_iload_n hx hb dX4_joinCell_16 rfl (lv_at hl 2 rfl) ?_
    refine lv_iload_n hx hb dX4_joinCell_17 rfl (lv_at hl 1 rfl) ?_
    refine lv_lload_n hx hb dX4_joinCell_18 rfl (lv_at hl 3 rfl) ?_
    obtain ⟨y_16, hc_15, h⟩ := bnd_s h
    refine kS (As := [.int x1, .long y3]) (rest := [.int x2, .ref (sb 8)]) (stk := [.long y_16, .int x2, .ref (sb 8)]) (val := (some (.long y_16))) (c1 := 0) (s1 := 0) C0 M (k_X4_fitted hc_15) kw_21_21 Y_X4_fitted ⟨Nat.le_of_ble_eq_true rfl, Nat.le_of_ble_eq_true rfl⟩ rfl hl.1 rfl (Nat.le_of_ble_eq_true rfl) dX4_joinCell_19 rfl rfl ⟨Nat.le_refl _, Nat.le_refl _⟩ rfl (fun H locs M => ?_)
    obtain ⟨g_18, hc_17, h⟩ := bnd_s h
    refine kV (As := [.int x2, .long y_16]) (rest := []) (stk := []) (val := none) (c1 := 0) (s1 := 0) C0 M (k_X3_fill hc_17) kw_22_0 Y_X3_fill (rv_X3 C0 M) ⟨Nat.le_of_ble_eq_true rfl, Nat.le_of_ble_eq_true rfl⟩ rfl hl.1 rfl (Nat.le_of_ble_eq_true rfl) dX4_joinCell_22 rfl rfl ⟨Nat.le_refl _, Nat.le_refl _⟩ rfl (fun H locs M => ?_)
    refine lv_iconst (v := 1) hx hb dX4_joinCell_25 (by decide) ?_
    obtain ⟨hz_19, h⟩ := chk_s h
    obtain rfl := Option.some.inj h
    exact rt_z C0 M hr hk hz_19 dX4_joinCell_26
theorem k_X4_joinCell {x1 : Int32} {x2 : Int32} {y3 : Int64} {x5 : Int32} {res : Int32 × Gs} (h : m_X4_joinCell x1 x2 y3 x5 g = some res) : CM l yX4_joinCell cX4_joinCell 6 (some .boolean) ({ frames := 2, cells := 0, slots := 0, locals := 47 } : Room) [.ref (sb 0), .int x1, .int x2, .long y3, .int x5] (some (.int res.1)) D b0 cy sb db g res.2 := by
  refine Met.ofW (cc := cX4_joinCell) (maxL := 6) (ret := (some .boolean)) (by decide) rfl ?_
  intro p e s m args below meth c s₁ B hml hv
  obtain ⟨rfl, hW, hK⟩ := hv
  have hl := lv_entry [.ref (sb 0), .int x1, .int x2, .long y3, .int x5] (n := 6) (Nat.le_of_ble_eq_true rfl)
  rw [lg_entry_eq]
  generalize (lg_sl [.ref (sb 0), .int x1, .int x2, .long y3, .int x5] ++ List.replicate (6 - (lg_sl [.ref (sb 0), .int x1, .int x2, .long y3, .int x5]).length) Slot.unset).toArray = ls at hl ⊢
  have hl : lv_has ls 6 [(0, .ref (sb 0)), (1, .int x1), (2, .int x2), (3, .long y3), (5, .int x5)] := hl
  exact w_X4_joinCell ⟨B.exec, B.bytes, hml, findClass_of_methodNamed B.named, fun w hw => atoms_spec (ws := Cond.code yX4_joinCell cX4_joinCell 6 (some .boolean) :: wsL_law) B.pre w (List.mem_cons_of_mem _ hw), hK⟩ B.returns B.notSynchronized hl ⟨hW, va_S.rf⟩ h
theorem Y_X4_joinCell : Yv yX4_joinCell RX4 cX4_joinCell 6 (some .boolean) 4 := ⟨⟨kw_24_8, kw_1_2, by decide +kernel, by decide +kernel, by decide +kernel⟩, kw_24_6, kw_24_7⟩
end WALK
