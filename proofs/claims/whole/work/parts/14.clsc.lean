section WALK
variable {p : Program} {l : Launch} {e : Env} {s : State} {m : MethodId} {args : Array Value} {below : List Frame} {meth : Method} {c : Code} {H : Heap} {locs : List Loc}
variable {ls : Array Slot} {D : va_G} {b0 : Nat} {cy : Cy} {sb db : Nat → Nat} {g : Gs}
-- X4_gather
def m_X4_gather_J9  (g : Gs) : Option (Int32 × Gs) :=
  some ((-2000000001 : Int32), g)
def m_X4_gather_L40 (x2 : Int32) (o3 : Option Nat) : Nat → Int32 → Gs → Option ((Int32 × Gs) ⊕ (Gs))
  | 0, _, _ => none
  | fu + 1, x5, g =>
  if (g.1 7 0 0) ≤ x5 then (some (.inr g)) else (chk (inb x5 30) (chk (inb x5 30) (chk (inb x5 30) ((m_X4_cellOf o3 (g.1 8 0 x5.toNatClampNeg) (g.1 9 0 x5.toNatClampNeg) (g.1 10 0 x5.toNatClampNeg) g).bind fun (x_15, g_16) => if x_15 = (-1 : Int32) then (some (.inl (x5, g_16))) else (unw o3 fun n_18 => chk (inb x5 30) ((m_X4_joinCell (g_16.1 16 n_18 0) x_15 (g_16.2.1 1 x5.toNatClampNeg) x2 g_16).bind fun (x_22, g_23) => if x_22 = 0 then ((m_X4_tell (6 : Int32) x5 g_23).bind fun (x_28, g_29) => some (.inl (x_28, g_29))) else (lett (x5 + 1) fun x_25 => m_X4_gather_L40 x2 o3 fu x_25 g_23)))))))
def m_X4_gather (x1 : Int32) (x2 : Int32) (g : Gs) : Option (Int32 × Gs) :=
  if x2 < 0 then (m_X4_gather_J9  g) else (if x2 ≤ (5 : Int32) then ((m_X4_arrayOf x1 g).bind fun o_4 => (m_X4_whyNoRow o_4 g).bind fun x_6 => if x_6 = 0 then (lett (0 : Int32) fun x_8 => (m_X4_gather_L40 x2 o_4 FU x_8 g).bind fun q_38 => exi q_38 (fun r => some r) fun g_30 => lett (g_30.1 7 0 0) fun x_31 => lett (sI g_30 7 0 0 (0 : Int32)) fun g_33 => (m_X4_done x_31 g_33).bind fun (x_36, g_37) => some (x_36, g_37)) else ((m_X4_stop x_6 g).bind fun (x_41, g_42) => some (x_41, g_42))) else (m_X4_gather_J9  g))
set_option maxHeartbeats 4000000 in
set_option maxRecDepth 100000 in
theorem w_X4_gather_J9  (C0 : Cx p s m args c cX4_gather 7 RX4 D cy) (hr : meth.sig.returnType = (some .int)) (hk : meth.locks = false) {res : Int32 × Gs} (hl : lv_has ls 7 []) (M : Ws D b0 cy sb db g s H locs) (h : m_X4_gather_J9  g = some res) : W p l e ({ frames := 5, cells := 0, slots := 0, locals := 115 } : Room) s m args below meth c H locs 0 0 (MQ below (QX (some (.int res.1)) D b0 cy sb db res.2) args s 0 0 (fun q => b0 ≤ q)) (F0 m 9 ls []) := by
  obtain ⟨hx, hb, hml, hown, hts, hK⟩ := id C0
  rw [m_X4_gather_J9] at h
  refine lv_ldc (v := -2000000001) hx hb hown (hts _ kw_7_4) dX4_gather_9 ?_
  obtain rfl := Option.some.inj h
  exact rt_i C0 M hr hk dX4_gather_11
set_option maxHeartbeats 4000000 in
set_option maxRecDepth 100000 in
theorem w_X4_gather_L40 {x2 : Int32} {o3 : Option Nat} (C0 : Cx p s m args c cX4_gather 7 RX4 D cy) (hr : meth.sig.returnType = (some .int)) (hk : meth.locks = false) {res : Int32 × Gs} {q : (Int32 × Gs) ⊕ (Gs)} (hret : ∀ r, q = .inl r → r = res) (kk : ∀ (g : Gs) (H : Heap) (locs : List Loc) (ls : Array Slot), q = .inr g → lv_has ls 7 [(0, .ref (sb 0))] → Ws D b0 cy sb db g s H locs → W p l e ({ frames := 5, cells := 0, slots := 0, locals := 115 } : Room) s m args below meth c H locs 0 0 (MQ below (QX (some (.int res.1)) D b0 cy sb db res.2) args s 0 0 (fun q => b0 ≤ q)) (F0 m 137 ls [])) : ∀ (fu : Nat) (x5 : Int32) (g : Gs) (H : Heap) (locs : List Loc) (ls : Array Slot), lv_has ls 7 [(0, .ref (sb 0)), (2, .int x2), (3, rfA sb o3), (5, .int x5)] → Ws D b0 cy sb db g s H locs → m_X4_gather_L40 x2 o3 fu x5 g = some q → W p l e ({ frames := 5, cells := 0, slots := 0, locals := 115 } : Room) s m args below meth c H locs 0 0 (MQ below (QX (some (.int res.1)) D b0 cy sb db res.2) args s 0 0 (fun q => b0 ≤ q)) (F0 m 40 ls []) := by
  obtain ⟨hx, hb, hml, hown, hts, hK⟩ := id C0
  intro fu
  induction fu with
  | zero =>
    intro x5 g H locs ls hl M h
    cases h
  | succ fu ih =>
    intro x5 g H locs ls hl M h
    rw [m_X4_gather_L40] at h
    refine lv_iload hx hb dX4_gather_40 (lv_at hl 3 rfl) ?_
    refine lv_aload_n hx hb dX4_gather_42 rfl (lv_at hl 0 rfl) ?_
    refine gf_RX4_19 C0 M dX4_gather_43 ?_
    refine gf_RX4_185 C0 M dX4_gather_46 ?_
    refine lv_icmp_ge (tgt := 137) hx hb dX4_gather_49 (by decide) (fun c_10 => ?_) (fun c_10 => ?_)
    · rw [if_pos c_10] at h
      exact kk _ _ _ _ (Option.some.inj h).symm (lv_sub hl [0] rfl) M
    · rw [if_neg c_10] at h
      refine lv_aload_n hx hb dX4_gather_52 rfl (lv_at hl 0 rfl) ?_
      refine lq_aload_n hx hb o3 dX4_gather_53 rfl (lv_at hl 2 rfl) ?_
      refine lv_aload_n hx hb dX4_gather_54 rfl (lv_at hl 0 rfl) ?_
      refine gf_RX4_19 C0 M dX4_gather_55 ?_
      refine gf_RX4_189 C0 M dX4_gather_58 ?_
      refine lv_iload hx hb dX4_gather_61 (lv_at hl 3 rfl) ?_
      obtain ⟨hi_11, h⟩ := chk_s h
      refine al_LI C0 M hi_11 dX4_gather_63 ?_
      refine lv_aload_n hx hb dX4_gather_64 rfl (lv_at hl 0 rfl) ?_
      refine gf_RX4_19 C0 M dX4_gather_65 ?_
      refine gf_RX4_192 C0 M dX4_gather_68 ?_
      refine lv_iload hx hb dX4_gather_71 (lv_at hl 3 rfl) ?_
      obtain ⟨hi_12, h⟩ := chk_s h
      refine al_LJ C0 M hi_12 dX4_gather_73 ?_
      refine lv_aload_n hx hb dX4_gather_74 rfl (lv_at hl 0 rfl) ?_
      refine gf_RX4_19 C0 M dX4_gather_75 ?_
      refine gf_RX4_195 C0 M dX4_gather_78 ?_
      refine lv_iload hx hb dX4_gather_81 (lv_at hl 3 rfl) ?_
      obtain ⟨hi_13, h⟩ := chk_s h
      refine al_LK C0 M hi_13 dX4_gather_83 ?_
      obtain ⟨⟨x_15, g_16⟩, hc_14, h⟩ := bnd_s h
      try dsimp only at h
      refine kV (As := [rfA sb o3, .int (g.1 8 0 x5.toNatClampNeg), .int (g.1 9 0 x5.toNatClampNeg), .int (g.1 10 0 x5.toNatClampNeg)]) (rest := []) (stk := [.int x_15]) (val := (some (.int x_15))) (c1 := 0) (s1 := 0) C0 M (k_X4_cellOf hc_14) kw_21_1 Y_X4_cellOf (rv_X4 C0 M) ⟨Nat.le_of_ble_eq_true rfl, Nat.le_of_ble_eq_true rfl⟩ rfl hl.1 rfl (Nat.le_of_ble_eq_true rfl) dX4_gather_84 rfl rfl ⟨Nat.le_refl _, Nat.le_refl _⟩ rfl (fun H locs M => ?_)
      refine lv_istore (lv' := [(6, .int x_15), (0, .ref (sb 0)), (2, .int x2), (3, rfA sb o3), (5, .int x5)]) hx hb dX4_gather_87 hl (by decide) rfl (fun ls hl => ?_)
      refine lv_iload hx hb dX4_gather_89 (lv_at hl 0 rfl) ?_
      refine lv_iconst (v := -1) hx hb dX4_gather_91 (by decide) ?_
      refine lv_icmp_ne (tgt := 98) hx hb dX4_gather_92 (by decide) (fun c_17 => ?_) (fun c_17 => ?_)
      · rw [if_neg c_17] at h
        refine lv_aload_n hx hb dX4_gather_98 rfl (lv_at hl 1 rfl) ?_
        refine lq_aload_n hx hb o3 dX4_gather_99 rfl (lv_at hl 3 rfl) ?_
        obtain ⟨n_18, rfl, hB_19, h⟩ := unw_s h
        have hl : lv_has ls 7 [(6, .int x_15), (0, .ref (sb 0)), (2, .int x2), (3, .ref (sb (400 + n_18))), (5, .int x5)] := hl
        refine gf_RX4_106 C0 M hB_19 dX4_gather_100 ?_
        refine lv_iload hx hb dX4_gather_103 (lv_at hl 0 rfl) ?_
        refine lv_aload_n hx hb dX4_gather_105 rfl (lv_at hl 1 rfl) ?_
        refine gf_RX4_19 C0 M dX4_gather_106 ?_
        refine gf_RX4_198 C0 M dX4_gather_109 ?_
        refine lv_iload hx hb dX4_gather_112 (lv_at hl 4 rfl) ?_
        obtain ⟨hi_20, h⟩ := chk_s h
        refine al_LV C0 M hi_20 dX4_gather_114 ?_
        refine lv_iload_n hx hb dX4_gather_115 rfl (lv_at hl 2 rfl) ?_
        obtain ⟨⟨x_22, g_23⟩, hc_21, h⟩ := bnd_s h
        try dsimp only at h
        refine kV (As := [.int (g_16.1 16 n_18 0), .int x_15, .long (g_16.2.1 1 x5.toNatClampNeg), .int x2]) (rest := []) (stk := [.int x_22]) (val := (some (.int x_22))) (c1 := 0) (s1 := 0) C0 M (k_X4_joinCell hc_21) kw_24_5 Y_X4_joinCell (rv_X4 C0 M) ⟨Nat.le_of_ble_eq_true rfl, Nat.le_of_ble_eq_true rfl⟩ rfl hl.1 rfl (Nat.le_of_ble_eq_true rfl) dX4_gather_116 rfl rfl ⟨Nat.le_refl _, Nat.le_refl _⟩ rfl (fun H locs M => ?_)
        refine lv_if_ne (tgt := 131) hx hb dX4_gather_119 (by decide) (fun c_24 => ?_) (fun c_24 => ?_)
        · rw [if_neg c_24] at h
          obtain ⟨x_25, hn_26, h⟩ := lett_s h
          refine lv_iinc (v := x_25) (lv' := [(5, .int x_25), (6, .int x_15), (0, .ref (sb 0)), (2, .int x2), (3, .ref (sb (400 + n_18)))]) hx hb dX4_gather_131 hl (k := 4) rfl (by rw [hn_26]; rfl) (by decide) rfl (fun ls hl => ?_)
          refine lv_goto (tgt := 40) hx hb dX4_gather_134 (by decide) ?_
          exact ih _ _ _ _ _ (lv_sub hl [2, 3, 4, 0] rfl) M h
        · rw [if_pos c_24] at h
          refine lv_aload_n hx hb dX4_gather_122 rfl (lv_at hl 1 rfl) ?_
          refine lv_bipush (v := 6) hx hb dX4_gather_123 (by decide) ?_
          refine lv_iload hx hb dX4_gather_125 (lv_at hl 4 rfl) ?_
          obtain ⟨⟨x_28, g_29⟩, hc_27, h⟩ := bnd_s h
          try dsimp only at h
          refine kV (As := [.int (6 : Int32), .int x5]) (rest := []) (stk := [.int x_28]) (val := (some (.int x_28))) (c1 := 0) (s1 := 0) C0 M (k_X4_tell hc_27) kw_5_14 Y_X4_tell (rv_X4 C0 M) ⟨Nat.le_of_ble_eq_true rfl, Nat.le_of_ble_eq_true rfl⟩ rfl hl.1 rfl (Nat.le_of_ble_eq_true rfl) dX4_gather_127 rfl rfl ⟨Nat.le_refl _, Nat.le_refl _⟩ rfl (fun H locs M => ?_)
          obtain rfl := Option.some.inj h
          obtain rfl := hret _ rfl
          exact rt_i C0 M hr hk dX4_gather_130
      · rw [if_pos c_17] at h
        refine lv_iload hx hb dX4_gather_95 (lv_at hl 4 rfl) ?_
        obtain rfl := Option.some.inj h
        obtain rfl := hret _ rfl
        exact rt_i C0 M hr hk dX4_gather_97
set_option maxHeartbeats 4000000 in
set_option maxRecDepth 100000 in
theorem w_X4_gather {x1 : Int32} {x2 : Int32} (C0 : Cx p s m args c cX4_gather 7 RX4 D cy) (hr : meth.sig.returnType = (some .int)) (hk : meth.locks = false) {res : Int32 × Gs} (hl : lv_has ls 7 [(0, .ref (sb 0)), (1, .int x1), (2, .int x2)]) (M : Ws D b0 cy sb db g s H locs) (h : m_X4_gather x1 x2 g = some res) : W p l e ({ frames := 5, cells := 0, slots := 0, locals := 115 } : Room) s m args below meth c H locs 0 0 (MQ below (QX (some (.int res.1)) D b0 cy sb db res.2) args s 0 0 (fun q => b0 ≤ q)) (F0 m 0 ls []) := by
  obtain ⟨hx, hb, hml, hown, hts, hK⟩ := id C0
  rw [m_X4_gather] at h
  refine lv_iload_n hx hb dX4_gather_0 rfl (lv_at hl 2 rfl) ?_
  refine lv_if_lt (tgt := 9) hx hb dX4_gather_1 (by decide) (fun c_1 => ?_) (fun c_1 => ?_)
  · rw [if_pos c_1] at h
    exact w_X4_gather_J9 C0 hr hk (lv_sub hl [] rfl) M h
  · rw [if_neg c_1] at h
    refine lv_iload_n hx hb dX4_gather_4 rfl (lv_at hl 2 rfl) ?_
    refine lv_iconst (v := 5) hx hb dX4_gather_5 (by decide) ?_
    refine lv_icmp_le (tgt := 12) hx hb dX4_gather_6 (by decide) (fun c_2 => ?_) (fun c_2 => ?_)
    · rw [if_pos c_2] at h
      refine lv_aload_n hx hb dX4_gather_12 rfl (lv_at hl 0 rfl) ?_
      refine lv_iload_n hx hb dX4_gather_13 rfl (lv_at hl 1 rfl) ?_
      obtain ⟨o_4, hc_3, h⟩ := bnd_s h
      refine kV (As := [.int x1]) (rest := []) (stk := [rfA sb o_4]) (val := (some (rfA sb o_4))) (c1 := 0) (s1 := 0) C0 M (k_X4_arrayOf hc_3) kw_13_17 Y_X4_arrayOf (rv_X4 C0 M) ⟨Nat.le_of_ble_eq_true rfl, Nat.le_of_ble_eq_true rfl⟩ rfl hl.1 rfl (Nat.le_of_ble_eq_true rfl) dX4_gather_14 rfl rfl ⟨Nat.le_refl _, Nat.le_refl _⟩ rfl (fun H locs M => ?_)
      refine lq_astore_n (lv' := [(3, rfA sb o_4), (0, .ref (sb 0)), (1, .int x1), (2, .int x2)]) hx hb o_4 dX4_gather_17 rfl hl (by decide) rfl (fun ls hl => ?_)
      refine lv_aload_n hx hb dX4_gather_18 rfl (lv_at hl 1 rfl) ?_
      refine lq_aload_n hx hb o_4 dX4_gather_19 rfl (lv_at hl 0 rfl) ?_
      obtain ⟨x_6, hc_5, h⟩ := bnd_s h
      refine kV (As := [rfA sb o_4]) (rest := []) (stk := [.int x_6]) (val := (some (.int x_6))) (c1 := 0) (s1 := 0) C0 M (k_X4_whyNoRow hc_5) kw_13_21 Y_X4_whyNoRow (rv_X4 C0 M) ⟨Nat.le_of_ble_eq_true rfl, Nat.le_of_ble_eq_true rfl⟩ rfl hl.1 rfl (Nat.le_of_ble_eq_true rfl) dX4_gather_20 rfl rfl ⟨Nat.le_refl _, Nat.le_refl _⟩ rfl (fun H locs M => ?_)
      refine lv_istore (lv' := [(4, .int x_6), (3, rfA sb o_4), (0, .ref (sb 0)), (1, .int x1), (2, .int x2)]) hx hb dX4_gather_23 hl (by decide) (by cases o_4 <;> rfl) (fun ls hl => ?_)
      refine lv_iload hx hb dX4_gather_25 (lv_at hl 0 rfl) ?_
      refine lv_if_eq (tgt := 37) hx hb dX4_gather_27 (by decide) (fun c_7 => ?_) (fun c_7 => ?_)
      · rw [if_pos c_7] at h
        refine lv_iconst (v := 0) hx hb dX4_gather_37 (by decide) ?_
        obtain ⟨x_8, hn_9, h⟩ := lett_s h
        refine nm_i hn_9 ?_
        refine lv_istore (lv' := [(5, .int x_8), (4, .int x_6), (3, rfA sb o_4), (0, .ref (sb 0)), (1, .int x1), (2, .int x2)]) hx hb dX4_gather_38 hl (by decide) rfl (fun ls hl => ?_)
        obtain ⟨q_38, hq_39, h⟩ := bnd_s h
        refine w_X4_gather_L40 C0 hr hk (q := q_38) (fun r hq => ?_) (fun g_30 H locs ls hq hl M => ?_) FU _ _ _ _ _ (lv_sub hl [3, 5, 2, 0] rfl) M hq_39
        · subst hq
          exact Option.some.inj h
        subst q_38
        try dsimp only [exi] at h
        refine lv_aload_n hx hb dX4_gather_137 rfl (lv_at hl 0 rfl) ?_
        refine gf_RX4_19 C0 M dX4_gather_138 ?_
        refine gf_RX4_185 C0 M dX4_gather_141 ?_
        obtain ⟨x_31, hn_32, h⟩ := lett_s h
        refine nm_i hn_32 ?_
        refine lv_istore (lv' := [(5, .int x_31), (0, .ref (sb 0))]) hx hb dX4_gather_144 hl (by decide) rfl (fun ls hl => ?_)
        refine lv_aload_n hx hb dX4_gather_146 rfl (lv_at hl 1 rfl) ?_
        refine gf_RX4_19 C0 M dX4_gather_147 ?_
        refine lv_iconst (v := 0) hx hb dX4_gather_150 (by decide) ?_
        obtain ⟨g_33, hg_34, h⟩ := lett_s h
        refine pf_RX4_185 C0 M hg_34 dX4_gather_151 (fun H locs M => ?_)
        refine lv_aload_n hx hb dX4_gather_154 rfl (lv_at hl 1 rfl) ?_
        refine lv_iload hx hb dX4_gather_155 (lv_at hl 0 rfl) ?_
        obtain ⟨⟨x_36, g_37⟩, hc_35, h⟩ := bnd_s h
        try dsimp only at h
        refine kV (As := [.int x_31]) (rest := []) (stk := [.int x_36]) (val := (some (.int x_36))) (c1 := 0) (s1 := 0) C0 M (k_X4_done hc_35) kw_5_23 Y_X4_done (rv_X4 C0 M) ⟨Nat.le_of_ble_eq_true rfl, Nat.le_of_ble_eq_true rfl⟩ rfl hl.1 rfl (Nat.le_of_ble_eq_true rfl) dX4_gather_157 rfl rfl ⟨Nat.le_refl _, Nat.le_refl _⟩ rfl (fun H locs M => ?_)
        obtain rfl := Option.some.inj h
        exact rt_i C0 M hr hk dX4_gather_160
      · rw [if_neg c_7] at h
        refine lv_aload_n hx hb dX4_gather_30 rfl (lv_at hl 2 rfl) ?_
        refine lv_iload hx hb dX4_gather_31 (lv_at hl 0 rfl) ?_
        obtain ⟨⟨x_41, g_42⟩, hc_40, h⟩ := bnd_s h
        try dsimp only at h
        refine kV (As := [.int x_6]) (rest := []) (stk := [.int x_41]) (val := (some (.int x_41))) (c1 := 0) (s1 := 0) C0 M (k_X4_stop hc_40) kw_5_10 Y_X4_stop (rv_X4 C0 M) ⟨Nat.le_of_ble_eq_true rfl, Nat.le_of_ble_eq_true rfl⟩ rfl hl.1 rfl (Nat.le_of_ble_eq_true rfl) dX4_gather_33 rfl rfl ⟨Nat.le_refl _, Nat.le_refl _⟩ rfl (fun H locs M => ?_)
        obtain rfl := Option.some.inj h
        exact rt_i C0 M hr hk dX4_gather_36
    · rw [if_neg c_2] at h
      exact w_X4_gather_J9 C0 hr hk (lv_sub hl [] rfl) M h
theorem k_X4_gather {x1 : Int32} {x2 : Int32} {res : Int32 × Gs} (h : m_X4_gather x1 x2 g = some res) : CM l yX4_gather cX4_gather 7 (some .int) ({ frames := 5, cells := 0, slots := 0, locals := 115 } : Room) [.ref (sb 0), .int x1, .int x2] (some (.int res.1)) D b0 cy sb db g res.2 := by
  refine Met.ofW (cc := cX4_gather) (maxL := 7) (ret := (some .int)) (by decide) rfl ?_
  intro p e s m args below meth c s₁ B hml hv
  obtain ⟨rfl, hW, hK⟩ := hv
  have hl := lv_entry [.ref (sb 0), .int x1, .int x2] (n := 7) (Nat.le_of_ble_eq_true rfl)
  rw [lg_entry_eq]
  generalize (lg_sl [.ref (sb 0), .int x1, .int x2] ++ List.replicate (7 - (lg_sl [.ref (sb 0), .int x1, .int x2]).length) Slot.unset).toArray = ls at hl ⊢
  have hl : lv_has ls 7 [(0, .ref (sb 0)), (1, .int x1), (2, .int x2)] := hl
  exact w_X4_gather ⟨B.exec, B.bytes, hml, findClass_of_methodNamed B.named, fun w hw => atoms_spec (ws := Cond.code yX4_gather cX4_gather 7 (some .int) :: wsL_law) B.pre w (List.mem_cons_of_mem _ hw), hK⟩ B.returns B.notSynchronized hl ⟨hW, va_S.rf⟩ h
theorem Y_X4_gather : Yv yX4_gather RX4 cX4_gather 7 (some .int) 2 := ⟨⟨kw_24_0, kw_1_2, by decide +kernel, by decide +kernel, by decide +kernel⟩, kw_23_22, kw_23_23⟩
-- X4_whyNotJoined
def m_X4_whyNotJoined_J8  (g : Gs) : Option (Int32) :=
  some (7 : Int32)
def m_X4_whyNotJoined_J30  (g : Gs) : Option (Int32) :=
  some (2 : Int32)
def m_X4_whyNotJoined_J63 (xs0 : Int32) (g : Gs) : Option (Int32) :=
  some xs0
def m_X4_whyNotJoined (o1 : Option Nat) (o2 : Option Nat) (g : Gs) : Option (Int32) :=
  cas o1 (m_X4_whyNotJoined_J8  g) fun n_1 => cas o2 (m_X4_whyNotJoined_J8  g) fun n_3 => if (g.1 16 n_1 0) = (g.1 16 n_3 0) then (if (g.1 16 n_1 0) = (4 : Int32) then (m_X4_whyNotJoined_J30  g) else ((m_X3_lengthOf (g.1 17 n_1 0) g).bind fun x_8 => (m_X3_lengthOf (g.1 17 n_3 0) g).bind fun x_10 => if x_8 = x_10 then (m_X4_whyNotJoined_J63 (0 : Int32) g) else (m_X4_whyNotJoined_J63 (10 : Int32) g))) else (m_X4_whyNotJoined_J30  g)
set_option maxHeartbeats 4000000 in
set_option maxRecDepth 100000 in
theorem w_X4_whyNotJoined_J8  (C0 : Cx p s m args c cX4_whyNotJoined 3 RX4 D cy) (hr : meth.sig.returnType = (some .int)) (hk : meth.locks = false) {res : Int32} (hl : lv_has ls 3 []) (M : Ws D b0 cy sb db g s H locs) (h : m_X4_whyNotJoined_J8  g = some res) : W p l e ({ frames := 1, cells := 0, slots := 0, locals := 21 } : Room) s m args below meth c H locs 0 0 (MQ below (QX (some (.int res)) D b0 cy sb db g) args s 0 0 (fun q => b0 ≤ q)) (F0 m 8 ls []) := by
  obtain ⟨hx, hb, hml, hown, hts, hK⟩ := id C0
  rw [m_X4_whyNotJoined_J8] at h
  refine lv_bipush (v := 7) hx hb dX4_whyNotJoined_8 (by decide) ?_
  obtain rfl := Option.some.inj h
  exact rt_i C0 M hr hk dX4_whyNotJoined_10
set_option maxHeartbeats 4000000 in
set_option maxRecDepth 100000 in
theorem w_X4_whyNotJoined_J30  (C0 : Cx p s m args c cX4_whyNotJoined 3 RX4 D cy) (hr : meth.sig.returnType = (some .int)) (hk : meth.locks = false) {res : Int32} (hl : lv_has ls 3 []) (M : Ws D b0 cy sb db g s H locs) (h : m_X4_whyNotJoined_J30  g = some res) : W p l e ({ frames := 1, cells := 0, slots := 0, locals := 21 } : Room) s m args below meth c H locs 0 0 (MQ below (QX (some (.int res)) D b0 cy sb db g) args s 0 0 (fun q => b0 ≤ q)) (F0 m 30 ls []) := by
  obtain ⟨hx, hb, hml, hown, hts, hK⟩ := id C0
  rw [m_X4_whyNotJoined_J30] at h
  refine lv_iconst (v := 2) hx hb dX4_whyNotJoined_30 (by decide) ?_
  obtain rfl := Option.some.inj h
  exact rt_i C0 M hr hk dX4_whyNotJoined_31
set_option maxHeartbeats 4000000 in
set_option maxRecDepth 100000 in
theorem w_X4_whyNotJoined_J63 {xs0 : Int32} (C0 : Cx p s m args c cX4_whyNotJoined 3 RX4 D cy) (hr : meth.sig.returnType = (some .int)) (hk : meth.locks = false) {res : Int32} (hl : lv_has ls 3 []) (M : Ws D b0 cy sb db g s H locs) (h : m_X4_whyNotJoined_J63 xs0 g = some res) : W p l e ({ frames := 1, cells := 0, slots := 0, locals := 21 } : Room) s m args below meth c H locs 0 0 (MQ below (QX (some (.int res)) D b0 cy sb db g) args s 0 0 (fun q => b0 ≤ q)) (F0 m 63 ls [.int xs0]) := by
  obtain ⟨hx, hb, hml, hown, hts, hK⟩ := id C0
  rw [m_X4_whyNotJoined_J63] at h
  obtain rfl := Option.some.inj h
  exact rt_i C0 M hr hk dX4_whyNotJoined_63
set_option maxHeartbeats 4000000 in
set_option maxRecDepth 100000 in
theorem w_X4_whyNotJoined {o1 : Option Nat} {o2 : Option Nat} (C0 : Cx p s m args c cX4_whyNotJoined 3 RX4 D cy) (hr : meth.sig.returnType = (some .int)) (hk : meth.locks = false) {res : Int32} (hl : lv_has ls 3 [(0, .ref (sb 0)), (1, rfA sb o1), (2, rfA sb o2)]) (M : Ws D b0 cy sb db g s H locs) (h : m_X4_whyNotJoined o1 o2 g = some res) : W p l e ({ frames := 1, cells := 0, slots := 0, locals := 21 } : Room) s m args below meth c H locs 0 0 (MQ below (QX (some (.int res)) D b0 cy sb db g) args s 0 0 (fun q => b0 ≤ q)) (F0 m 0 ls []) := by
  obtain ⟨hx, hb, hml, hown, hts, hK⟩ := id C0
  rw [m_X4_whyNotJoined] at h
  refine lq_aload_n hx hb o1 dX4_whyNotJoined_0 rfl (lv_at hl 1 rfl) ?_
  cases o1 with
  | none =>
    try dsimp only [cas] at h
    refine lv_ifnullN (tgt := 8) hx hb dX4_whyNotJoined_1 (by decide) ?_
    exact w_X4_whyNotJoined_J8 C0 hr hk (lv_sub hl [] rfl) M h
  | some n_1 =>
    obtain ⟨hB_2, h⟩ := chk_s (show chk _ _ = _ from h)
    try dsimp only at h
    have hl : lv_has ls 3 [(0, .ref (sb 0)), (1, .ref (sb (400 + n_1))), (2, rfA sb o2)] := hl
    refine lv_ifnull hx hb dX4_whyNotJoined_1 ?_
    refine lq_aload_n hx hb o2 dX4_whyNotJoined_4 rfl (lv_at hl 2 rfl) ?_
    cases o2 with
    | none =>
      try dsimp only [cas] at h
      refine lv_ifnonnullN hx hb dX4_whyNotJoined_5 ?_
      exact w_X4_whyNotJoined_J8 C0 hr hk (lv_sub hl [] rfl) M h
    | some n_3 =>
      obtain ⟨hB_4, h⟩ := chk_s (show chk _ _ = _ from h)
      try dsimp only at h
      have hl : lv_has ls 3 [(0, .ref (sb 0)), (1, .ref (sb (400 + n_1))), (2, .ref (sb (400 + n_3)))] := hl
      refine lv_ifnonnull (tgt := 11) hx hb dX4_whyNotJoined_5 (by decide) ?_
      refine lv_aload_n hx hb dX4_whyNotJoined_11 rfl (lv_at hl 1 rfl) ?_
      refine gf_RX4_106 C0 M hB_2 dX4_whyNotJoined_12 ?_
      refine lv_aload_n hx hb dX4_whyNotJoined_15 rfl (lv_at hl 2 rfl) ?_
      refine gf_RX4_106 C0 M hB_4 dX4_whyNotJoined_16 ?_
      refine lv_icmp_ne (tgt := 30) hx hb dX4_whyNotJoined_19 (by decide) (fun c_5 => ?_) (fun c_5 => ?_)
      · rw [if_neg c_5] at h
        exact w_X4_whyNotJoined_J30 C0 hr hk (lv_sub hl [] rfl) M h
      · rw [if_pos c_5] at h
        refine lv_aload_n hx hb dX4_whyNotJoined_22 rfl (lv_at hl 1 rfl) ?_
        refine gf_RX4_106 C0 M hB_2 dX4_whyNotJoined_23 ?_
        refine lv_iconst (v := 4) hx hb dX4_whyNotJoined_26 (by decide) ?_
        refine lv_icmp_ne (tgt := 32) hx hb dX4_whyNotJoined_27 (by decide) (fun c_6 => ?_) (fun c_6 => ?_)
        · rw [if_neg c_6] at h
          refine lv_aload_n hx hb dX4_whyNotJoined_32 rfl (lv_at hl 0 rfl) ?_
          refine gf_RX4_26 C0 M dX4_whyNotJoined_33 ?_
          refine lv_aload_n hx hb dX4_whyNotJoined_36 rfl (lv_at hl 1 rfl) ?_
          refine gf_RX4_100 C0 M hB_2 dX4_whyNotJoined_37 ?_
          obtain ⟨x_8, hc_7, h⟩ := bnd_s h
          refine kV (As := [.int (g.1 17 n_1 0)]) (rest := []) (stk := [.int x_8]) (val := (some (.int x_8))) (c1 := 0) (s1 := 0) C0 M (k_X3_lengthOf hc_7) kw_14_1 Y_X3_lengthOf (rv_X3 C0 M) ⟨Nat.le_of_ble_eq_true rfl, Nat.le_of_ble_eq_true rfl⟩ rfl hl.1 rfl (Nat.le_of_ble_eq_true rfl) dX4_whyNotJoined_40 rfl rfl ⟨Nat.le_refl _, Nat.le_refl _⟩ rfl (fun H locs M => ?_)
          refine lv_aload_n hx hb dX4_whyNotJoined_43 rfl (lv_at hl 0 rfl) ?_
          refine gf_RX4_26 C0 M dX4_whyNotJoined_44 ?_
          refine lv_aload_n hx hb dX4_whyNotJoined_47 rfl (lv_at hl 2 rfl) ?_
          refine gf_RX4_100 C0 M hB_4 dX4_whyNotJoined_48 ?_
          obtain ⟨x_10, hc_9, h⟩ := bnd_s h
          refine kV (As := [.int (g.1 17 n_3 0)]) (rest := [.int x_8]) (stk := [.int x_10, .int x_8]) (val := (some (.int x_10))) (c1 := 0) (s1 := 0) C0 M (k_X3_lengthOf hc_9) kw_14_1 Y_X3_lengthOf (rv_X3 C0 M) ⟨Nat.le_of_ble_eq_true rfl, Nat.le_of_ble_eq_true rfl⟩ rfl hl.1 rfl (Nat.le_of_ble_eq_true rfl) dX4_whyNotJoined_51 rfl rfl ⟨Nat.le_refl _, Nat.le_refl _⟩ rfl (fun H locs M => ?_)
          refine lv_icmp_ne (tgt := 61) hx hb dX4_whyNotJoined_54 (by decide) (fun c_11 => ?_) (fun c_11 => ?_)
          · rw [if_neg c_11] at h
            refine lv_bipush (v := 10) hx hb dX4_whyNotJoined_61 (by decide) ?_
            exact w_X4_whyNotJoined_J63 C0 hr hk (lv_sub hl [] rfl) M h
          · rw [if_pos c_11] at h
            refine lv_iconst (v := 0) hx hb dX4_whyNotJoined_57 (by decide) ?_
            refine lv_goto (tgt := 63) hx hb dX4_whyNotJoined_58 (by decide) ?_
            exact w_X4_whyNotJoined_J63 C0 hr hk (lv_sub hl [] rfl) M h
        · rw [if_pos c_6] at h
          exact w_X4_whyNotJoined_J30 C0 hr hk (lv_sub hl [] rfl) M h
theorem k_X4_whyNotJoined {o1 : Option Nat} {o2 : Option Nat} {res : Int32} (h : m_X4_whyNotJoined o1 o2 g = some res) : CM l yX4_whyNotJoined cX4_whyNotJoined 3 (some .int) ({ frames := 1, cells := 0, slots := 0, locals := 21 } : Room) [.ref (sb 0), rfA sb o1, rfA sb o2] (some (.int res)) D b0 cy sb db g g := by
  refine Met.ofW (cc := cX4_whyNotJoined) (maxL := 3) (ret := (some .int)) (by decide) rfl ?_
  intro p e s m args below meth c s₁ B hml hv
  obtain ⟨rfl, hW, hK⟩ := hv
  cases o2 with
  | none =>
    cases o1 with
    | none =>
      have hl := lv_entry [.ref (sb 0), rfA sb none, rfA sb none] (n := 3) (Nat.le_of_ble_eq_true rfl)
      rw [lg_entry_eq]
      generalize (lg_sl [.ref (sb 0), rfA sb none, rfA sb none] ++ List.replicate (3 - (lg_sl [.ref (sb 0), rfA sb none, rfA sb none]).length) Slot.unset).toArray = ls at hl ⊢
      have hl : lv_has ls 3 [(0, .ref (sb 0)), (1, rfA sb none), (2, rfA sb none)] := hl
      exact w_X4_whyNotJoined ⟨B.exec, B.bytes, hml, findClass_of_methodNamed B.named, fun w hw => atoms_spec (ws := Cond.code yX4_whyNotJoined cX4_whyNotJoined 3 (some .int) :: wsL_law) B.pre w (List.mem_cons_of_mem _ hw), hK⟩ B.returns B.notSynchronized hl ⟨hW, va_S.rf⟩ h
    | some no1 =>
      have hl := lv_entry [.ref (sb 0), rfA sb (some no1), rfA sb none] (n := 3) (Nat.le_of_ble_eq_true rfl)
      rw [lg_entry_eq]
      generalize (lg_sl [.ref (sb 0), rfA sb (some no1), rfA sb none] ++ List.replicate (3 - (lg_sl [.ref (sb 0), rfA sb (some no1), rfA sb none]).length) Slot.unset).toArray = ls at hl ⊢
      have hl : lv_has ls 3 [(0, .ref (sb 0)), (1, rfA sb (some no1)), (2, rfA sb none)] := hl
      exact w_X4_whyNotJoined ⟨B.exec, B.bytes, hml, findClass_of_methodNamed B.named, fun w hw => atoms_spec (ws := Cond.code yX4_whyNotJoined cX4_whyNotJoined 3 (some .int) :: wsL_law) B.pre w (List.mem_cons_of_mem _ hw), hK⟩ B.returns B.notSynchronized hl ⟨hW, va_S.rf⟩ h
  | some no2 =>
    cases o1 with
    | none =>
      have hl := lv_entry [.ref (sb 0), rfA sb none, rfA sb (some no2)] (n := 3) (Nat.le_of_ble_eq_true rfl)
      rw [lg_entry_eq]
      generalize (lg_sl [.ref (sb 0), rfA sb none, rfA sb (some no2)] ++ List.replicate (3 - (lg_sl [.ref (sb 0), rfA sb none, rfA sb (some no2)]).length) Slot.unset).toArray = ls at hl ⊢
      have hl : lv_has ls 3 [(0, .ref (sb 0)), (1, rfA sb none), (2, rfA sb (some no2))] := hl
      exact w_X4_whyNotJoined ⟨B.exec, B.bytes, hml, findClass_of_methodNamed B.named, fun w hw => atoms_spec (ws := Cond.code yX4_whyNotJoined cX4_whyNotJoined 3 (some .int) :: wsL_law) B.pre w (List.mem_cons_of_mem _ hw), hK⟩ B.returns B.notSynchronized hl ⟨hW, va_S.rf⟩ h
    | some no1 =>
      have hl := lv_entry [.ref (sb 0), rfA sb (some no1), rfA sb (some no2)] (n := 3) (Nat.le_of_ble_eq_true rfl)
      rw [lg_entry_eq]
      generalize (lg_sl [.ref (sb 0), rfA sb (some no1), rfA sb (some no2)] ++ List.replicate (3 - (lg_sl [.ref (sb 0), rfA sb (some no1), rfA sb (some no2)]).length) Slot.unset).toArray = ls at hl ⊢
      have hl : lv_has ls 3 [(0, .ref (sb 0)), (1, rfA sb (some no1)), (2, rfA sb (some no2))] := hl
      exact w_X4_whyNotJoined ⟨B.exec, B.bytes, hml, findClass_of_methodNamed B.named, fun w hw => atoms_spec (ws := Cond.code yX4_whyNotJoined cX4_whyNotJoined 3 (some .int) :: wsL_law) B.pre w (List.mem_cons_of_mem _ hw), hK⟩ B.returns B.notSynchronized hl ⟨hW, va_S.rf⟩ h
theorem Y_X4_whyNotJoined : Yv yX4_whyNotJoined RX4 cX4_whyNotJoined 3 (some .int) 2 := ⟨⟨kw_25_7, kw_1_2, by decide +kernel, by decide +kernel, by decide +kernel⟩, kw_25_5, kw_25_6⟩
-- X4_join
def m_X4_join_J9  (g : Gs) : Option (Int32 × Gs) :=
  some ((-2000000001 : Int32), g)
def m_X4_join_L93 (x3 : Int32) (n4 : Nat) (x7 : Int32) (x8 : Int32) (x9 : Int32) : Nat → Int32 → Gs → Option ((Int32 × Gs) ⊕ (Gs))
  | 0, _, _ => none
  | fu + 1, x10, g =>
  if x9 ≤ x10 then (some (.inr g)) else (chk (inb (x8 + x10) (g.2.2 10)) (if (g.1 13 0 (x8 + x10).toNatClampNeg) = 0 then ((m_X4_tell (1 : Int32) x10 g).bind fun (x_36, g_37) => some (.inl (x_36, g_37))) else (chk (inb (x8 + x10) (g.2.2 9)) ((m_X4_joinCell (g.1 16 n4 0) (x7 + x10) (g.2.1 0 (x8 + x10).toNatClampNeg) x3 g).bind fun (x_27, g_28) => if x_27 = 0 then ((m_X4_tell (6 : Int32) x10 g_28).bind fun (x_33, g_34) => some (.inl (x_33, g_34))) else (lett (x10 + 1) fun x_30 => m_X4_join_L93 x3 n4 x7 x8 x9 fu x_30 g_28)))))
def m_X4_join (x1 : Int32) (x2 : Int32) (x3 : Int32) (g : Gs) : Option (Int32 × Gs) :=
  if x3 < 0 then (m_X4_join_J9  g) else (if x3 ≤ (5 : Int32) then ((m_X4_arrayOf x1 g).bind fun o_4 => (m_X4_arrayOf x2 g).bind fun o_6 => (m_X4_whyNotJoined o_4 o_6 g).bind fun x_8 => if x_8 = 0 then (unw o_4 fun n_10 => (m_X3_startOf (g.1 17 n_10 0) g).bind fun x_13 => unw o_6 fun n_14 => (m_X3_startOf (g.1 17 n_14 0) g).bind fun x_17 => (m_X3_lengthOf (g.1 17 n_10 0) g).bind fun x_19 => lett (0 : Int32) fun x_20 => (m_X4_join_L93 x3 n_10 x_13 x_17 x_19 FU x_20 g).bind fun q_42 => exi q_42 (fun r => some r) fun g_38 => (m_X4_done x_19 g_38).bind fun (x_40, g_41) => some (x_40, g_41)) else ((m_X4_stop x_8 g).bind fun (x_45, g_46) => some (x_45, g_46))) else (m_X4_join_J9  g))
set_option maxHeartbeats 4000000 in
set_option maxRecDepth 100000 in
theorem w_X4_join_J9  (C0 : Cx p s m args c cX4_join 11 RX4 D cy) (hr : meth.sig.returnType = (some .int)) (hk : meth.locks = false) {res : Int32 × Gs} (hl : lv_has ls 11 []) (M : Ws D b0 cy sb db g s H locs) (h : m_X4_join_J9  g = some res) : W p l e ({ frames := 3, cells := 0, slots := 0, locals := 72 } : Room) s m args below meth c H locs 0 0 (MQ below (QX (some (.int res.1)) D b0 cy sb db res.2) args s 0 0 (fun q => b0 ≤ q)) (F0 m 9 ls []) := by
  obtain ⟨hx, hb, hml, hown, hts, hK⟩ := id C0
  rw [m_X4_join_J9] at h
  refine lv_ldc (v := -2000000001) hx hb hown (hts _ kw_7_4) dX4_join_9 ?_
  obtain rfl := Option.some.inj h
  exact rt_i C0 M hr hk dX4_join_11
set_option maxHeartbeats 4000000 in
set_option maxRecDepth 100000 in
theorem w_X4_join_L93 {x3 : Int32} {n4 : Nat} {x7 : Int32} {x8 : Int32} {x9 : Int32} (hB4 : n4 < 24) (C0 : Cx p s m args c cX4_join 11 RX4 D cy) (hr : meth.sig.returnType = (some .int)) (hk : meth.locks = false) {res : Int32 × Gs} {q : (Int32 × Gs) ⊕ (Gs)} (hret : ∀ r, q = .inl r → r = res) (kk : ∀ (g : Gs) (H : Heap) (locs : List Loc) (ls : Array Slot), q = .inr g → lv_has ls 11 [(0, .ref (sb 0)), (9, .int x9)] → Ws D b0 cy sb db g s H locs → W p l e ({ frames := 3, cells := 0, slots := 0, locals := 72 } : Room) s m args below meth c H locs 0 0 (MQ below (QX (some (.int res.1)) D b0 cy sb db res.2) args s 0 0 (fun q => b0 ≤ q)) (F0 m 170 ls [])) : ∀ (fu : Nat) (x10 : Int32) (g : Gs) (H : Heap) (locs : List Loc) (ls : Array Slot), lv_has ls 11 [(0, .ref (sb 0)), (3, .int x3), (4, .ref (sb (400 + n4))), (7, .int x7), (8, .int x8), (9, .int x9), (10, .int x10)] → Ws D b0 cy sb db g s H locs → m_X4_join_L93 x3 n4 x7 x8 x9 fu x10 g = some q → W p l e ({ frames := 3, cells := 0, slots := 0, locals := 72 } : Room) s m args below meth c H locs 0 0 (MQ below (QX (some (.int res.1)) D b0 cy sb db res.2) args s 0 0 (fun q => b0 ≤ q)) (F0 m 93 ls []) := by
  obtain ⟨hx, hb, hml, hown, hts, hK⟩ := id C0
  intro fu
  induction fu with
  | zero =>
    intro x10 g H locs ls hl M h
    cases h
  | succ fu ih =>
    intro x10 g H locs ls hl M h
    rw [m_X4_join_L93] at h
    refine lv_iload hx hb dX4_join_93 (lv_at hl 6 rfl) ?_
    refine lv_iload hx hb dX4_join_95 (lv_at hl 5 rfl) ?_
    refine lv_icmp_ge (tgt := 170) hx hb dX4_join_97 (by decide) (fun c_22 => ?_) (fun c_22 => ?_)
    · rw [if_pos c_22] at h
      exact kk _ _ _ _ (Option.some.inj h).symm (lv_sub hl [0, 5] rfl) M
    · rw [if_neg c_22] at h
      refine lv_aload_n hx hb dX4_join_100 rfl (lv_at hl 0 rfl) ?_
      refine gf_RX4_26 C0 M dX4_join_101 ?_
      refine gf_RX4_165 C0 M dX4_join_104 ?_
      refine lv_iload hx hb dX4_join_107 (lv_at hl 4 rfl) ?_
      refine lv_iload hx hb dX4_join_109 (lv_at hl 6 rfl) ?_
      refine lv_iadd hx hb dX4_join_111 ?_
      obtain ⟨hi_23, h⟩ := chk_s h
      refine al_FIL C0 M hi_23 dX4_join_112 ?_
      refine lv_if_ne (tgt := 124) hx hb dX4_join_113 (by decide) (fun c_24 => ?_) (fun c_24 => ?_)
      · rw [if_neg c_24] at h
        refine lv_aload_n hx hb dX4_join_124 rfl (lv_at hl 0 rfl) ?_
        refine lv_aload hx hb dX4_join_125 (lv_at hl 2 rfl) ?_
        refine gf_RX4_106 C0 M hB4 dX4_join_127 ?_
        refine lv_iload hx hb dX4_join_130 (lv_at hl 3 rfl) ?_
        refine lv_iload hx hb dX4_join_132 (lv_at hl 6 rfl) ?_
        refine lv_iadd hx hb dX4_join_134 ?_
        refine lv_aload_n hx hb dX4_join_135 rfl (lv_at hl 0 rfl) ?_
        refine gf_RX4_26 C0 M dX4_join_136 ?_
        refine gf_RX4_169 C0 M dX4_join_139 ?_
        refine lv_iload hx hb dX4_join_142 (lv_at hl 4 rfl) ?_
        refine lv_iload hx hb dX4_join_144 (lv_at hl 6 rfl) ?_
        refine lv_iadd hx hb dX4_join_146 ?_
        obtain ⟨hi_25, h⟩ := chk_s h
        refine al_NUM C0 M hi_25 dX4_join_147 ?_
        refine lv_iload_n hx hb dX4_join_148 rfl (lv_at hl 1 rfl) ?_
        obtain ⟨⟨x_27, g_28⟩, hc_26, h⟩ := bnd_s h
        try dsimp only at h
        refine kV (As := [.int (g.1 16 n4 0), .int (x7 + x10), .long (g.2.1 0 (x8 + x10).toNatClampNeg), .int x3]) (rest := []) (stk := [.int x_27]) (val := (some (.int x_27))) (c1 := 0) (s1 := 0) C0 M (k_X4_joinCell hc_26) kw_24_5 Y_X4_joinCell (rv_X4 C0 M) ⟨Nat.le_of_ble_eq_true rfl, Nat.le_of_ble_eq_true rfl⟩ rfl hl.1 rfl (Nat.le_of_ble_eq_true rfl) dX4_join_149 rfl rfl ⟨Nat.le_refl _, Nat.le_refl _⟩ rfl (fun H locs M => ?_)
        refine lv_if_ne (tgt := 164) hx hb dX4_join_152 (by decide) (fun c_29 => ?_) (fun c_29 => ?_)
        · rw [if_neg c_29] at h
          obtain ⟨x_30, hn_31, h⟩ := lett_s h
          refine lv_iinc (v := x_30) (lv' := [(10, .int x_30), (0, .ref (sb 0)), (3, .int x3), (4, .ref (sb (400 + n4))), (7, .int x7), (8, .int x8), (9, .int x9)]) hx hb dX4_join_164 hl (k := 6) rfl (by rw [hn_31]; rfl) (by decide) rfl (fun ls hl => ?_)
          refine lv_goto (tgt := 93) hx hb dX4_join_167 (by decide) ?_
          exact ih _ _ _ _ _ (lv_sub hl [1, 2, 3, 4, 5, 6, 0] rfl) M h
        · rw [if_pos c_29] at h
          refine lv_aload_n hx hb dX4_join_155 rfl (lv_at hl 0 rfl) ?_
          refine lv_bipush (v := 6) hx hb dX4_join_156 (by decide) ?_
          refine lv_iload hx hb dX4_join_158 (lv_at hl 6 rfl) ?_
          obtain ⟨⟨x_33, g_34⟩, hc_32, h⟩ := bnd_s h
          try dsimp only at h
          refine kV (As := [.int (6 : Int32), .int x10]) (rest := []) (stk := [.int x_33]) (val := (some (.int x_33))) (c1 := 0) (s1 := 0) C0 M (k_X4_tell hc_32) kw_5_14 Y_X4_tell (rv_X4 C0 M) ⟨Nat.le_of_ble_eq_true rfl, Nat.le_of_ble_eq_true rfl⟩ rfl hl.1 rfl (Nat.le_of_ble_eq_true rfl) dX4_join_160 rfl rfl ⟨Nat.le_refl _, Nat.le_refl _⟩ rfl (fun H locs M => ?_)
          obtain rfl := Option.some.inj h
          obtain rfl := hret _ rfl
          exact rt_i C0 M hr hk dX4_join_163
      · rw [if_pos c_24] at h
        refine lv_aload_n hx hb dX4_join_116 rfl (lv_at hl 0 rfl) ?_
        refine lv_iconst (v := 1) hx hb dX4_join_117 (by decide) ?_
        refine lv_iload hx hb dX4_join_118 (lv_at hl 6 rfl) ?_
        obtain ⟨⟨x_36, g_37⟩, hc_35, h⟩ := bnd_s h
        try dsimp only at h
        refine kV (As := [.int (1 : Int32), .int x10]) (rest := []) (stk := [.int x_36]) (val := (some (.int x_36))) (c1 := 0) (s1 := 0) C0 M (k_X4_tell hc_35) kw_5_14 Y_X4_tell (rv_X4 C0 M) ⟨Nat.le_of_ble_eq_true rfl, Nat.le_of_ble_eq_true rfl⟩ rfl hl.1 rfl (Nat.le_of_ble_eq_true rfl) dX4_join_120 rfl rfl ⟨Nat.le_refl _, Nat.le_refl _⟩ rfl (fun H locs M => ?_)
        obtain rfl := Option.some.inj h
        obtain rfl := hret _ rfl
        exact rt_i C0 M hr hk dX4_join_123
set_option maxHeartbeats 4000000 in
set_option maxRecDepth 100000 in
theorem w_X4_join {x1 : Int32} {x2 : Int32} {x3 : Int32} (C0 : Cx p s m args c cX4_join 11 RX4 D cy) (hr : meth.sig.returnType = (some .int)) (hk : meth.locks = false) {res : Int32 × Gs} (hl : lv_has ls 11 [(0, .ref (sb 0)), (1, .int x1), (2, .int x2), (3, .int x3)]) (M : Ws D b0 cy sb db g s H locs) (h : m_X4_join x1 x2 x3 g = some res) : W p l e ({ frames := 3, cells := 0, slots := 0, locals := 72 } : Room) s m args below meth c H locs 0 0 (MQ below (QX (some (.int res.1)) D b0 cy sb db res.2) args s 0 0 (fun q => b0 ≤ q)) (F0 m 0 ls []) := by
  obtain ⟨hx, hb, hml, hown, hts, hK⟩ := id C0
  rw [m_X4_join] at h
  refine lv_iload_n hx hb dX4_join_0 rfl (lv_at hl 3 rfl) ?_
  refine lv_if_lt (tgt := 9) hx hb dX4_join_1 (by decide) (fun c_1 => ?_) (fun c_1 => ?_)
  · rw [if_pos c_1] at h
    exact w_X4_join_J9 C0 hr hk (lv_sub hl [] rfl) M h
  · rw [if_neg c_1] at h
    refine lv_iload_n hx hb dX4_join_4 rfl (lv_at hl 3 rfl) ?_
    refine lv_iconst (v := 5) hx hb dX4_join_5 (by decide) ?_
    refine lv_icmp_le (tgt := 12) hx hb dX4_join_6 (by decide) (fun c_2 => ?_) (fun c_2 => ?_)
    · rw [if_pos c_2] at h
      refine lv_aload_n hx hb dX4_join_12 rfl (lv_at hl 0 rfl) ?_
      refine lv_iload_n hx hb dX4_join_13 rfl (lv_at hl 1 rfl) ?_
      obtain ⟨o_4, hc_3, h⟩ := bnd_s h
      refine kV (As := [.int x1]) (rest := []) (stk := [rfA sb o_4]) (val := (some (rfA sb o_4))) (c1 := 0) (s1 := 0) C0 M (k_X4_arrayOf hc_3) kw_13_17 Y_X4_arrayOf (rv_X4 C0 M) ⟨Nat.le_of_ble_eq_true rfl, Nat.le_of_ble_eq_true rfl⟩ rfl hl.1 rfl (Nat.le_of_ble_eq_true rfl) dX4_join_14 rfl rfl ⟨Nat.le_refl _, Nat.le_refl _⟩ rfl (fun H locs M => ?_)
      refine lq_astore (lv' := [(4, rfA sb o_4), (0, .ref (sb 0)), (1, .int x1), (2, .int x2), (3, .int x3)]) hx hb o_4 dX4_join_17 hl (by decide) rfl (fun ls hl => ?_)
      refine lv_aload_n hx hb dX4_join_19 rfl (lv_at hl 1 rfl) ?_
      refine lv_iload_n hx hb dX4_join_20 rfl (lv_at hl 3 rfl) ?_
      obtain ⟨o_6, hc_5, h⟩ := bnd_s h
      refine kV (As := [.int x2]) (rest := []) (stk := [rfA sb o_6]) (val := (some (rfA sb o_6))) (c1 := 0) (s1 := 0) C0 M (k_X4_arrayOf hc_5) kw_13_17 Y_X4_arrayOf (rv_X4 C0 M) ⟨Nat.le_of_ble_eq_true rfl, Nat.le_of_ble_eq_true rfl⟩ rfl hl.1 rfl (Nat.le_of_ble_eq_true rfl) dX4_join_21 rfl rfl ⟨Nat.le_refl _, Nat.le_refl _⟩ rfl (fun H locs M => ?_)
      refine lq_astore (lv' := [(5, rfA sb o_6), (4, rfA sb o_4), (0, .ref (sb 0)), (1, .int x1), (2, .int x2), (3, .int x3)]) hx hb o_6 dX4_join_24 hl (by decide) (by cases o_4 <;> rfl) (fun ls hl => ?_)
      refine lv_aload_n hx hb dX4_join_26 rfl (lv_at hl 2 rfl) ?_
      refine lq_aload hx hb o_4 dX4_join_27 (lv_at hl 1 rfl) ?_
      refine lq_aload hx hb o_6 dX4_join_29 (lv_at hl 0 rfl) ?_
      obtain ⟨x_8, hc_7, h⟩ := bnd_s h
      refine kV (As := [rfA sb o_4, rfA sb o_6]) (rest := []) (stk := [.int x_8]) (val := (some (.int x_8))) (c1 := 0) (s1 := 0) C0 M (k_X4_whyNotJoined hc_7) kw_25_4 Y_X4_whyNotJoined (rv_X4 C0 M) ⟨Nat.le_of_ble_eq_true rfl, Nat.le_of_ble_eq_true rfl⟩ rfl hl.1 rfl (Nat.le_of_ble_eq_true rfl) dX4_join_31 rfl rfl ⟨Nat.le_refl _, Nat.le_refl _⟩ rfl (fun H locs M => ?_)
      refine lv_istore (lv' := [(6, .int x_8), (5, rfA sb o_6), (4, rfA sb o_4), (0, .ref (sb 0)), (1, .int x1), (2, .int x2), (3, .int x3)]) hx hb dX4_join_34 hl (by decide) (by cases o_6 <;> rfl) (fun ls hl => ?_)
      refine lv_iload hx hb dX4_join_36 (lv_at hl 0 rfl) ?_
      refine lv_if_eq (tgt := 48) hx hb dX4_join_38 (by decide) (fun c_9 => ?_) (fun c_9 => ?_)
      · rw [if_pos c_9] at h
        refine lv_aload_n hx hb dX4_join_48 rfl (lv_at hl 3 rfl) ?_
        refine gf_RX4_26 C0 M dX4_join_49 ?_
        refine lq_aload hx hb o_4 dX4_join_52 (lv_at hl 2 rfl) ?_
        obtain ⟨n_10, rfl, hB_11, h⟩ := unw_s h
        have hl : lv_has ls 11 [(6, .int x_8), (5, rfA sb o_6), (4, .ref (sb (400 + n_10))), (0, .ref (sb 0)), (1, .int x1), (2, .int x2), (3, .int x3)] := hl
        refine gf_RX4_100 C0 M hB_11 dX4_join_54 ?_
        obtain ⟨x_13, hc_12, h⟩ := bnd_s h
        refine kV (As := [.int (g.1 17 n_10 0)]) (rest := []) (stk := [.int x_13]) (val := (some (.int x_13))) (c1 := 0) (s1 := 0) C0 M (k_X3_startOf hc_12) kw_15_1 Y_X3_startOf (rv_X3 C0 M) ⟨Nat.le_of_ble_eq_true rfl, Nat.le_of_ble_eq_true rfl⟩ rfl hl.1 rfl (Nat.le_of_ble_eq_true rfl) dX4_join_57 rfl rfl ⟨Nat.le_refl _, Nat.le_refl _⟩ rfl (fun H locs M => ?_)
        refine lv_istore (lv' := [(7, .int x_13), (6, .int x_8), (5, rfA sb o_6), (4, .ref (sb (400 + n_10))), (0, .ref (sb 0)), (1, .int x1), (2, .int x2), (3, .int x3)]) hx hb dX4_join_60 hl (by decide) rfl (fun ls hl => ?_)
        refine lv_aload_n hx hb dX4_join_62 rfl (lv_at hl 4 rfl) ?_
        refine gf_RX4_26 C0 M dX4_join_63 ?_
        refine lq_aload hx hb o_6 dX4_join_66 (lv_at hl 2 rfl) ?_
        obtain ⟨n_14, rfl, hB_15, h⟩ := unw_s h
        have hl : lv_has ls 11 [(7, .int x_13), (6, .int x_8), (5, .ref (sb (400 + n_14))), (4, .ref (sb (400 + n_10))), (0, .ref (sb 0)), (1, .int x1), (2, .int x2), (3, .int x3)] := hl
        refine gf_RX4_100 C0 M hB_15 dX4_join_68 ?_
        obtain ⟨x_17, hc_16, h⟩ := bnd_s h
        refine kV (As := [.int (g.1 17 n_14 0)]) (rest := []) (stk := [.int x_17]) (val := (some (.int x_17))) (c1 := 0) (s1 := 0) C0 M (k_X3_startOf hc_16) kw_15_1 Y_X3_startOf (rv_X3 C0 M) ⟨Nat.le_of_ble_eq_true rfl, Nat.le_of_ble_eq_true rfl⟩ rfl hl.1 rfl (Nat.le_of_ble_eq_true rfl) dX4_join_71 rfl rfl ⟨Nat.le_refl _, Nat.le_refl _⟩ rfl (fun H locs M => ?_)
        refine lv_istore (lv' := [(8, .int x_17), (7, .int x_13), (6, .int x_8), (5, .ref (sb (400 + n_14))), (4, .ref (sb (400 + n_10))), (0, .ref (sb 0)), (1, .int x1), (2, .int x2), (3, .int x3)]) hx hb dX4_join_74 hl (by decide) rfl (fun ls hl => ?_)
        refine lv_aload_n hx hb dX4_join_76 rfl (lv_at hl 5 rfl) ?_
        refine gf_RX4_26 C0 M dX4_join_77 ?_
        refine lv_aload hx hb dX4_join_80 (lv_at hl 4 rfl) ?_
        refine gf_RX4_100 C0 M hB_11 dX4_join_82 ?_
        obtain ⟨x_19, hc_18, h⟩ := bnd_s h
        refine kV (As := [.int (g.1 17 n_10 0)]) (rest := []) (stk := [.int x_19]) (val := (some (.int x_19))) (c1 := 0) (s1 := 0) C0 M (k_X3_lengthOf hc_18) kw_14_1 Y_X3_lengthOf (rv_X3 C0 M) ⟨Nat.le_of_ble_eq_true rfl, Nat.le_of_ble_eq_true rfl⟩ rfl hl.1 rfl (Nat.le_of_ble_eq_true rfl) dX4_join_85 rfl rfl ⟨Nat.le_refl _, Nat.le_refl _⟩ rfl (fun H locs M => ?_)
        refine lv_istore (lv' := [(9, .int x_19), (8, .int x_17), (7, .int x_13), (6, .int x_8), (5, .ref (sb (400 + n_14))), (4, .ref (sb (400 + n_10))), (0, .ref (sb 0)), (1, .int x1), (2, .int x2), (3, .int x3)]) hx hb dX4_join_88 hl (by decide) rfl (fun ls hl => ?_)
        refine lv_iconst (v := 0) hx hb dX4_join_90 (by decide) ?_
        obtain ⟨x_20, hn_21, h⟩ := lett_s h
        refine nm_i hn_21 ?_
        refine lv_istore (lv' := [(10, .int x_20), (9, .int x_19), (8, .int x_17), (7, .int x_13), (6, .int x_8), (5, .ref (sb (400 + n_14))), (4, .ref (sb (400 + n_10))), (0, .ref (sb 0)), (1, .int x1), (2, .int x2), (3, .int x3)]) hx hb dX4_join_91 hl (by decide) rfl (fun ls hl => ?_)
        obtain ⟨q_42, hq_43, h⟩ := bnd_s h
        refine w_X4_join_L93 hB_11 C0 hr hk (q := q_42) (fun r hq => ?_) (fun g_38 H locs ls hq hl M => ?_) FU _ _ _ _ _ (lv_sub hl [7, 10, 6, 3, 2, 1, 0] rfl) M hq_43
        · subst hq
          exact Option.some.inj h
        subst q_42
        try dsimp only [exi] at h
        refine lv_aload_n hx hb dX4_join_170 rfl (lv_at hl 0 rfl) ?_
        refine lv_iload hx hb dX4_join_171 (lv_at hl 1 rfl) ?_
        obtain ⟨⟨x_40, g_41⟩, hc_39, h⟩ := bnd_s h
        try dsimp only at h
        refine kV (As := [.int x_19]) (rest := []) (stk := [.int x_40]) (val := (some (.int x_40))) (c1 := 0) (s1 := 0) C0 M (k_X4_done hc_39) kw_5_23 Y_X4_done (rv_X4 C0 M) ⟨Nat.le_of_ble_eq_true rfl, Nat.le_of_ble_eq_true rfl⟩ rfl hl.1 rfl (Nat.le_of_ble_eq_true rfl) dX4_join_173 rfl rfl ⟨Nat.le_refl _, Nat.le_refl _⟩ rfl (fun H locs M => ?_)
        obtain rfl := Option.some.inj h
        exact rt_i C0 M hr hk dX4_join_176
      · rw [if_neg c_9] at h
        refine lv_aload_n hx hb dX4_join_41 rfl (lv_at hl 3 rfl) ?_
        refine lv_iload hx hb dX4_join_42 (lv_at hl 0 rfl) ?_
        obtain ⟨⟨x_45, g_46⟩, hc_44, h⟩ := bnd_s h
        try dsimp only at h
        refine kV (As := [.int x_8]) (rest := []) (stk := [.int x_45]) (val := (some (.int x_45))) (c1 := 0) (s1 := 0) C0 M (k_X4_stop hc_44) kw_5_10 Y_X4_stop (rv_X4 C0 M) ⟨Nat.le_of_ble_eq_true rfl, Nat.le_of_ble_eq_true rfl⟩ rfl hl.1 rfl (Nat.le_of_ble_eq_true rfl) dX4_join_44 rfl rfl ⟨Nat.le_refl _, Nat.le_refl _⟩ rfl (fun H locs M => ?_)
        obtain rfl := Option.some.inj h
        exact rt_i C0 M hr hk dX4_join_47
    · rw [if_neg c_2] at h
      exact w_X4_join_J9 C0 hr hk (lv_sub hl [] rfl) M h
theorem k_X4_join {x1 : Int32} {x2 : Int32} {x3 : Int32} {res : Int32 × Gs} (h : m_X4_join x1 x2 x3 g = some res) : CM l yX4_join cX4_join 11 (some .int) ({ frames := 3, cells := 0, slots := 0, locals := 72 } : Room) [.ref (sb 0), .int x1, .int x2, .int x3] (some (.int res.1)) D b0 cy sb db g res.2 := by
  refine Met.ofW (cc := cX4_join) (maxL := 11) (ret := (some .int)) (by decide) rfl ?_
  intro p e s m args below meth c s₁ B hml hv
  obtain ⟨rfl, hW, hK⟩ := hv
  have hl := lv_entry [.ref (sb 0), .int x1, .int x2, .int x3] (n := 11) (Nat.le_of_ble_eq_true rfl)
  rw [lg_entry_eq]
  generalize (lg_sl [.ref (sb 0), .int x1, .int x2, .int x3] ++ List.replicate (11 - (lg_sl [.ref (sb 0), .int x1, .int x2, .int x3]).length) Slot.unset).toArray = ls at hl ⊢
  have hl : lv_has ls 11 [(0, .ref (sb 0)), (1, .int x1), (2, .int x2), (3, .int x3)] := hl
  exact w_X4_join ⟨B.exec, B.bytes, hml, findClass_of_methodNamed B.named, fun w hw => atoms_spec (ws := Cond.code yX4_join cX4_join 11 (some .int) :: wsL_law) B.pre w (List.mem_cons_of_mem _ hw), hK⟩ B.returns B.notSynchronized hl ⟨hW, va_S.rf⟩ h
theorem Y_X4_join : Yv yX4_join RX4 cX4_join 11 (some .int) 3 := ⟨⟨kw_25_3, kw_1_2, by decide +kernel, by decide +kernel, by decide +kernel⟩, kw_25_1, kw_25_2⟩
-- X4_sum
def m_X4_sum_L48 (n2 : Nat) (g : Gs) : Nat → Int64 → Int32 → Option (Int64)
  | 0, _, _ => none
  | fu + 1, y3, x5 =>
  (m_X1_rowCount n2 g).bind fun x_16 => if x_16 ≤ x5 then (some y3) else (chk (inb x5 (g.2.2 (500 + n2))) ((m_X3_totalOf (g.1 18 n2 x5.toNatClampNeg) g).bind fun y_20 => lett (y3 + y_20) fun y_21 => lett (x5 + 1) fun x_23 => m_X4_sum_L48 n2 g fu y_21 x_23))
def m_X4_sum (x1 : Int32) (g : Gs) : Option (Int64 × Gs) :=
  (m_X4_arrayOf x1 g).bind fun o_2 => cas o_2 ((m_X4_stop (7 : Int32) g).bind fun (x_4, g_5) => some (x_4.toInt64, g_5)) fun n_6 => lett (sI g 1 0 0 (0 : Int32)) fun g_8 => if (g_8.1 16 n_6 0) = (4 : Int32) then (lett (0 : Int64) fun y_11 => lett (0 : Int32) fun x_13 => (m_X4_sum_L48 n_6 g_8 FU y_11 x_13).bind fun y_25 => some (y_25, g_8)) else ((m_X3_totalOf (g_8.1 17 n_6 0) g_8).bind fun y_29 => some (y_29, g_8))
set_option maxHeartbeats 4000000 in
set_option maxRecDepth 100000 in
theorem w_X4_sum_L48 {n2 : Nat} (hB2 : n2 < 24) (C0 : Cx p s m args c cX4_sum 6 RX4 D cy) (hr : meth.sig.returnType = (some .long)) (hk : meth.locks = false) {res : Int64 × Gs} {q : Int64} (kk : ∀ (y3 : Int64) (H : Heap) (locs : List Loc) (ls : Array Slot), q = y3 → lv_has ls 6 [(3, .long y3)] → Ws D b0 cy sb db g s H locs → W p l e ({ frames := 3, cells := 0, slots := 0, locals := 64 } : Room) s m args below meth c H locs 0 0 (MQ below (QX (some (.long res.1)) D b0 cy sb db res.2) args s 0 0 (fun q => b0 ≤ q)) (F0 m 80 ls [])) : ∀ (fu : Nat) (y3 : Int64) (x5 : Int32) (H : Heap) (locs : List Loc) (ls : Array Slot), lv_has ls 6 [(0, .ref (sb 0)), (2, .ref (sb (400 + n2))), (3, .long y3), (5, .int x5)] → Ws D b0 cy sb db g s H locs → m_X4_sum_L48 n2 g fu y3 x5 = some q → W p l e ({ frames := 3, cells := 0, slots := 0, locals := 64 } : Room) s m args below meth c H locs 0 0 (MQ below (QX (some (.long res.1)) D b0 cy sb db res.2) args s 0 0 (fun q => b0 ≤ q)) (F0 m 48 ls []) := by
  obtain ⟨hx, hb, hml, hown, hts, hK⟩ := id C0
  intro fu
  induction fu with
  | zero =>
    intro y3 x5 H locs ls hl M h
    cases h
  | succ fu ih =>
    intro y3 x5 H locs ls hl M h
    rw [m_X4_sum_L48] at h
    refine lv_iload hx hb dX4_sum_48 (lv_at hl 3 rfl) ?_
    refine lv_aload_n hx hb dX4_sum_50 rfl (lv_at hl 1 rfl) ?_
    obtain ⟨x_16, hc_15, h⟩ := bnd_s h
    refine kV (As := []) (rest := [.int x5]) (stk := [.int x_16, .int x5]) (val := (some (.int x_16))) (c1 := 0) (s1 := 0) C0 M (k_X1_rowCount hc_15) kw_11_1 Y_X1_rowCount (rv_X1 C0 M hB2) ⟨Nat.le_of_ble_eq_true rfl, Nat.le_of_ble_eq_true rfl⟩ rfl hl.1 rfl (Nat.le_of_ble_eq_true rfl) dX4_sum_51 rfl rfl ⟨Nat.le_refl _, Nat.le_refl _⟩ rfl (fun H locs M => ?_)
    refine lv_icmp_ge (tgt := 80) hx hb dX4_sum_54 (by decide) (fun c_17 => ?_) (fun c_17 => ?_)
    · rw [if_pos c_17] at h
      exact kk _ _ _ _ (Option.some.inj h).symm (lv_sub hl [2] rfl) M
    · rw [if_neg c_17] at h
      refine lv_lload_n hx hb dX4_sum_57 rfl (lv_at hl 2 rfl) ?_
      refine lv_aload_n hx hb dX4_sum_58 rfl (lv_at hl 0 rfl) ?_
      refine gf_RX4_26 C0 M dX4_sum_59 ?_
      refine lv_aload_n hx hb dX4_sum_62 rfl (lv_at hl 1 rfl) ?_
      refine gf_RX4_133 C0 M hB2 dX4_sum_63 ?_
      refine lv_iload hx hb dX4_sum_66 (lv_at hl 3 rfl) ?_
      obtain ⟨hi_18, h⟩ := chk_s h
      refine al_ROWS C0 M hB2 hi_18 dX4_sum_68 ?_
      obtain ⟨y_20, hc_19, h⟩ := bnd_s h
      refine kV (As := [.int (g.1 18 n2 x5.toNatClampNeg)]) (rest := [.long y3]) (stk := [.long y_20, .long y3]) (val := (some (.long y_20))) (c1 := 0) (s1 := 0) C0 M (k_X3_totalOf hc_19) kw_25_16 Y_X3_totalOf (rv_X3 C0 M) ⟨Nat.le_of_ble_eq_true rfl, Nat.le_of_ble_eq_true rfl⟩ rfl hl.1 rfl (Nat.le_of_ble_eq_true rfl) dX4_sum_69 rfl rfl ⟨Nat.le_refl _, Nat.le_refl _⟩ rfl (fun H locs M => ?_)
      refine lv_ladd hx hb dX4_sum_72 ?_
      obtain ⟨y_21, hn_22, h⟩ := lett_s h
      refine nm_l hn_22 ?_
      refine lv_lstore_n (lv' := [(3, .long y_21), (0, .ref (sb 0)), (2, .ref (sb (400 + n2))), (5, .int x5)]) hx hb dX4_sum_73 rfl hl (by decide) rfl (fun ls hl => ?_)
      obtain ⟨x_23, hn_24, h⟩ := lett_s h
      refine lv_iinc (v := x_23) (lv' := [(5, .int x_23), (3, .long y_21), (0, .ref (sb 0)), (2, .ref (sb (400 + n2)))]) hx hb dX4_sum_74 hl (k := 3) rfl (by rw [hn_24]; rfl) (by decide) rfl (fun ls hl => ?_)
      refine lv_goto (tgt := 48) hx hb dX4_sum_77 (by decide) ?_
      exact ih _ _ _ _ _ (lv_sub hl [2, 3, 1, 0] rfl) M h
set_option maxHeartbeats 4000000 in
set_option maxRecDepth 100000 in
theorem w_X4_sum {x1 : Int32} (C0 : Cx p s m args c cX4_sum 6 RX4 D cy) (hr : meth.sig.returnType = (some .long)) (hk : meth.locks = false) {res : Int64 × Gs} (hl : lv_has ls 6 [(0, .ref (sb 0)), (1, .int x1)]) (M : Ws D b0 cy sb db g s H locs) (h : m_X4_sum x1 g = some res) : W p l e ({ frames := 3, cells := 0, slots := 0, locals := 64 } : Room) s m args below meth c H locs 0 0 (MQ below (QX (some (.long res.1)) D b0 cy sb db res.2) args s 0 0 (fun q => b0 ≤ q)) (F0 m 0 ls []) := by
  obtain ⟨hx, hb, hml, hown, hts, hK⟩ := id C0
  rw [m_X4_sum] at h
  refine lv_aload_n hx hb dX4_sum_0 rfl (lv_at hl 0 rfl) ?_
  refine lv_iload_n hx hb dX4_sum_1 rfl (lv_at hl 1 rfl) ?_
  obtain ⟨o_2, hc_1, h⟩ := bnd_s h
  refine kV (As := [.int x1]) (rest := []) (stk := [rfA sb o_2]) (val := (some (rfA sb o_2))) (c1 := 0) (s1 := 0) C0 M (k_X4_arrayOf hc_1) kw_13_17 Y_X4_arrayOf (rv_X4 C0 M) ⟨Nat.le_of_ble_eq_true rfl, Nat.le_of_ble_eq_true rfl⟩ rfl hl.1 rfl (Nat.le_of_ble_eq_true rfl) dX4_sum_2 rfl rfl ⟨Nat.le_refl _, Nat.le_refl _⟩ rfl (fun H locs M => ?_)
  refine lq_astore_n (lv' := [(2, rfA sb o_2), (0, .ref (sb 0)), (1, .int x1)]) hx hb o_2 dX4_sum_5 rfl hl (by decide) rfl (fun ls hl => ?_)
  refine lq_aload_n hx hb o_2 dX4_sum_6 rfl (lv_at hl 0 rfl) ?_
  cases o_2 with
  | none =>
    try dsimp only [cas] at h
    refine lv_ifnonnullN hx hb dX4_sum_7 ?_
    refine lv_aload_n hx hb dX4_sum_10 rfl (lv_at hl 1 rfl) ?_
    refine lv_bipush (v := 7) hx hb dX4_sum_11 (by decide) ?_
    obtain ⟨⟨x_4, g_5⟩, hc_3, h⟩ := bnd_s h
    try dsimp only at h
    refine kV (As := [.int (7 : Int32)]) (rest := []) (stk := [.int x_4]) (val := (some (.int x_4))) (c1 := 0) (s1 := 0) C0 M (k_X4_stop hc_3) kw_5_10 Y_X4_stop (rv_X4 C0 M) ⟨Nat.le_of_ble_eq_true rfl, Nat.le_of_ble_eq_true rfl⟩ rfl hl.1 rfl (Nat.le_of_ble_eq_true rfl) dX4_sum_13 rfl rfl ⟨Nat.le_refl _, Nat.le_refl _⟩ rfl (fun H locs M => ?_)
    refine lv_i2l hx hb dX4_sum_16 rfl ?_
    obtain rfl := Option.some.inj h
    exact rt_l C0 M hr hk dX4_sum_17
  | some n_6 =>
    obtain ⟨hB_7, h⟩ := chk_s (show chk _ _ = _ from h)
    try dsimp only at h
    have hl : lv_has ls 6 [(2, .ref (sb (400 + n_6))), (0, .ref (sb 0)), (1, .int x1)] := hl
    refine lv_ifnonnull (tgt := 18) hx hb dX4_sum_7 (by decide) ?_
    refine lv_aload_n hx hb dX4_sum_18 rfl (lv_at hl 1 rfl) ?_
    refine lv_iconst (v := 0) hx hb dX4_sum_19 (by decide) ?_
    obtain ⟨g_8, hg_9, h⟩ := lett_s h
    refine pf_RX4_44 C0 M hg_9 dX4_sum_20 (fun H locs M => ?_)
    refine lv_aload_n hx hb dX4_sum_23 rfl (lv_at hl 0 rfl) ?_
    refine gf_RX4_106 C0 M hB_7 dX4_sum_24 ?_
    refine lv_iconst (v := 4) hx hb dX4_sum_27 (by decide) ?_
    refine lv_icmp_eq (tgt := 43) hx hb dX4_sum_28 (by decide) (fun c_10 => ?_) (fun c_10 => ?_)
    · rw [if_pos c_10] at h
      refine lv_lconst (v := 0) hx hb dX4_sum_43 (by decide) ?_
      obtain ⟨y_11, hn_12, h⟩ := lett_s h
      refine nm_l hn_12 ?_
      refine lv_lstore_n (lv' := [(3, .long y_11), (2, .ref (sb (400 + n_6))), (0, .ref (sb 0)), (1, .int x1)]) hx hb dX4_sum_44 rfl hl (by decide) rfl (fun ls hl => ?_)
      refine lv_iconst (v := 0) hx hb dX4_sum_45 (by decide) ?_
      obtain ⟨x_13, hn_14, h⟩ := lett_s h
      refine nm_i hn_14 ?_
      refine lv_istore (lv' := [(5, .int x_13), (3, .long y_11), (2, .ref (sb (400 + n_6))), (0, .ref (sb 0)), (1, .int x1)]) hx hb dX4_sum_46 hl (by decide) rfl (fun ls hl => ?_)
      obtain ⟨q_26, hq_27, h⟩ := bnd_s h
      refine w_X4_sum_L48 hB_7 C0 hr hk (q := q_26) (fun y_25 H locs ls hq hl M => ?_) FU _ _ _ _ _ (lv_sub hl [3, 2, 1, 0] rfl) M hq_27
      subst q_26
      try dsimp only at h
      refine lv_lload_n hx hb dX4_sum_80 rfl (lv_at hl 0 rfl) ?_
      obtain rfl := Option.some.inj h
      exact rt_l C0 M hr hk dX4_sum_81
    · rw [if_neg c_10] at h
      refine lv_aload_n hx hb dX4_sum_31 rfl (lv_at hl 1 rfl) ?_
      refine gf_RX4_26 C0 M dX4_sum_32 ?_
      refine lv_aload_n hx hb dX4_sum_35 rfl (lv_at hl 0 rfl) ?_
      refine gf_RX4_100 C0 M hB_7 dX4_sum_36 ?_
      obtain ⟨y_29, hc_28, h⟩ := bnd_s h
      refine kV (As := [.int (g_8.1 17 n_6 0)]) (rest := []) (stk := [.long y_29]) (val := (some (.long y_29))) (c1 := 0) (s1 := 0) C0 M (k_X3_totalOf hc_28) kw_25_16 Y_X3_totalOf (rv_X3 C0 M) ⟨Nat.le_of_ble_eq_true rfl, Nat.le_of_ble_eq_true rfl⟩ rfl hl.1 rfl (Nat.le_of_ble_eq_true rfl) dX4_sum_39 rfl rfl ⟨Nat.le_refl _, Nat.le_refl _⟩ rfl (fun H locs M => ?_)
      obtain rfl := Option.some.inj h
      exact rt_l C0 M hr hk dX4_sum_42
theorem k_X4_sum {x1 : Int32} {res : Int64 × Gs} (h : m_X4_sum x1 g = some res) : CM l yX4_sum cX4_sum 6 (some .long) ({ frames := 3, cells := 0, slots := 0, locals := 64 } : Room) [.ref (sb 0), .int x1] (some (.long res.1)) D b0 cy sb db g res.2 := by
  refine Met.ofW (cc := cX4_sum) (maxL := 6) (ret := (some .long)) (by decide) rfl ?_
  intro p e s m args below meth c s₁ B hml hv
  obtain ⟨rfl, hW, hK⟩ := hv
  have hl := lv_entry [.ref (sb 0), .int x1] (n := 6) (Nat.le_of_ble_eq_true rfl)
  rw [lg_entry_eq]
  generalize (lg_sl [.ref (sb 0), .int x1] ++ List.replicate (6 - (lg_sl [.ref (sb 0), .int x1]).length) Slot.unset).toArray = ls at hl ⊢
  have hl : lv_has ls 6 [(0, .ref (sb 0)), (1, .int x1)] := hl
  exact w_X4_sum ⟨B.exec, B.bytes, hml, findClass_of_methodNamed B.named, fun w hw => atoms_spec (ws := Cond.code yX4_sum cX4_sum 6 (some .long) :: wsL_law) B.pre w (List.mem_cons_of_mem _ hw), hK⟩ B.returns B.notSynchronized hl ⟨hW, va_S.rf⟩ h
theorem Y_X4_sum : Yv yX4_sum RX4 cX4_sum 6 (some .long) 1 := ⟨⟨kw_25_15, kw_1_2, by decide +kernel, by decide +kernel, by decide +kernel⟩, kw_25_13, kw_25_14⟩
-- X4_mean
def m_X4_mean (x1 : Int32) (g : Gs) : Option (Int64 × Gs) :=
  (m_X4_arrayOf x1 g).bind fun o_2 => cas o_2 ((m_X4_stop (7 : Int32) g).bind fun (x_4, g_5) => some (x_4.toInt64, g_5)) fun n_6 => if (g.1 16 n_6 0) ≤ (2 : Int32) then ((m_X3_lengthOf (g.1 17 n_6 0) g).bind fun x_10 => if x_10 = 0 then ((m_X4_stop (6 : Int32) g).bind fun (x_18, g_19) => some (x_18.toInt64, g_19)) else (lett (sI g 1 0 0 (0 : Int32)) fun g_12 => (m_X3_totalOf (g_12.1 17 n_6 0) g_12).bind fun y_15 => chk (¬ x_10.toInt64 = 0) (some ((y_15 / x_10.toInt64), g_12)))) else ((m_X4_stop (2 : Int32) g).bind fun (x_21, g_22) => some (x_21.toInt64, g_22))
set_option maxHeartbeats 4000000 in
set_option maxRecDepth 100000 in
theorem w_X4_mean {x1 : Int32} (C0 : Cx p s m args c cX4_mean 4 RX4 D cy) (hr : meth.sig.returnType = (some .long)) (hk : meth.locks = false) {res : Int64 × Gs} (hl : lv_has ls 4 [(0, .ref (sb 0)), (1, .int x1)]) (M : Ws D b0 cy sb db g s H locs) (h : m_X4_mean x1 g = some res) : W p l e ({ frames := 2, cells := 0, slots := 0, locals := 45 } : Room) s m args below meth c H locs 0 0 (MQ below (QX (some (.long res.1)) D b0 cy sb db res.2) args s 0 0 (fun q => b0 ≤ q)) (F0 m 0 ls []) := by
  obtain ⟨hx, hb, hml, hown, hts, hK⟩ := id C0
  rw [m_X4_mean] at h
  refine lv_aload_n hx hb dX4_mean_0 rfl (lv_at hl 0 rfl) ?_
  refine lv_iload_n hx hb dX4_mean_1 rfl (lv_at hl 1 rfl) ?_
  obtain ⟨o_2, hc_1, h⟩ := bnd_s h
  refine kV (As := [.int x1]) (rest := []) (stk := [rfA sb o_2]) (val := (some (rfA sb o_2))) (c1 := 0) (s1 := 0) C0 M (k_X4_arrayOf hc_1) kw_13_17 Y_X4_arrayOf (rv_X4 C0 M) ⟨Nat.le_of_ble_eq_true rfl, Nat.le_of_ble_eq_true rfl⟩ rfl hl.1 rfl (Nat.le_of_ble_eq_true rfl) dX4_mean_2 rfl rfl ⟨Nat.le_refl _, Nat.le_refl _⟩ rfl (fun H locs M => ?_)
  refine lq_astore_n (lv' := [(2, rfA sb o_2), (0, .ref (sb 0)), (1, .int x1)]) hx hb o_2 dX4_mean_5 rfl hl (by decide) rfl (fun ls hl => ?_)
  refine lq_aload_n hx hb o_2 dX4_mean_6 rfl (lv_at hl 0 rfl) ?_
  cases o_2 with
  | none =>
    try dsimp only [cas] at h
    refine lv_ifnonnullN hx hb dX4_mean_7 ?_
    refine lv_aload_n hx hb dX4_mean_10 rfl (lv_at hl 1 rfl) ?_
    refine lv_bipush (v := 7) hx hb dX4_mean_11 (by decide) ?_
    obtain ⟨⟨x_4, g_5⟩, hc_3, h⟩ := bnd_s h
    try dsimp only at h
    refine kV (As := [.int (7 : Int32)]) (rest := []) (stk := [.int x_4]) (val := (some (.int x_4))) (c1 := 0) (s1 := 0) C0 M (k_X4_stop hc_3) kw_5_10 Y_X4_stop (rv_X4 C0 M) ⟨Nat.le_of_ble_eq_true rfl, Nat.le_of_ble_eq_true rfl⟩ rfl hl.1 rfl (Nat.le_of_ble_eq_true rfl) dX4_mean_13 rfl rfl ⟨Nat.le_refl _, Nat.le_refl _⟩ rfl (fun H locs M => ?_)
    refine lv_i2l hx hb dX4_mean_16 rfl ?_
    obtain rfl := Option.some.inj h
    exact rt_l C0 M hr hk dX4_mean_17
  | some n_6 =>
    obtain ⟨hB_7, h⟩ := chk_s (show chk _ _ = _ from h)
    try dsimp only at h
    have hl : lv_has ls 4 [(2, .ref (sb (400 + n_6))), (0, .ref (sb 0)), (1, .int x1)] := hl
    refine lv_ifnonnull (tgt := 18) hx hb dX4_mean_7 (by decide) ?_
    refine lv_aload_n hx hb dX4_mean_18 rfl (lv_at hl 0 rfl) ?_
    refine gf_RX4_106 C0 M hB_7 dX4_mean_19 ?_
    refine lv_iconst (v := 2) hx hb dX4_mean_22 (by decide) ?_
    refine lv_icmp_le (tgt := 33) hx hb dX4_mean_23 (by decide) (fun c_8 => ?_) (fun c_8 => ?_)
    · rw [if_pos c_8] at h
      refine lv_aload_n hx hb dX4_mean_33 rfl (lv_at hl 1 rfl) ?_
      refine gf_RX4_26 C0 M dX4_mean_34 ?_
      refine lv_aload_n hx hb dX4_mean_37 rfl (lv_at hl 0 rfl) ?_
      refine gf_RX4_100 C0 M hB_7 dX4_mean_38 ?_
      obtain ⟨x_10, hc_9, h⟩ := bnd_s h
      refine kV (As := [.int (g.1 17 n_6 0)]) (rest := []) (stk := [.int x_10]) (val := (some (.int x_10))) (c1 := 0) (s1 := 0) C0 M (k_X3_lengthOf hc_9) kw_14_1 Y_X3_lengthOf (rv_X3 C0 M) ⟨Nat.le_of_ble_eq_true rfl, Nat.le_of_ble_eq_true rfl⟩ rfl hl.1 rfl (Nat.le_of_ble_eq_true rfl) dX4_mean_41 rfl rfl ⟨Nat.le_refl _, Nat.le_refl _⟩ rfl (fun H locs M => ?_)
      refine lv_istore_n (lv' := [(3, .int x_10), (2, .ref (sb (400 + n_6))), (0, .ref (sb 0)), (1, .int x1)]) hx hb dX4_mean_44 rfl hl (by decide) rfl (fun ls hl => ?_)
      refine lv_iload_n hx hb dX4_mean_45 rfl (lv_at hl 0 rfl) ?_
      refine lv_if_ne (tgt := 57) hx hb dX4_mean_46 (by decide) (fun c_11 => ?_) (fun c_11 => ?_)
      · rw [if_neg c_11] at h
        refine lv_aload_n hx hb dX4_mean_57 rfl (lv_at hl 2 rfl) ?_
        refine lv_iconst (v := 0) hx hb dX4_mean_58 (by decide) ?_
        obtain ⟨g_12, hg_13, h⟩ := lett_s h
        refine pf_RX4_44 C0 M hg_13 dX4_mean_59 (fun H locs M => ?_)
        refine lv_aload_n hx hb dX4_mean_62 rfl (lv_at hl 2 rfl) ?_
        refine gf_RX4_26 C0 M dX4_mean_63 ?_
        refine lv_aload_n hx hb dX4_mean_66 rfl (lv_at hl 1 rfl) ?_
        refine gf_RX4_100 C0 M hB_7 dX4_mean_67 ?_
        obtain ⟨y_15, hc_14, h⟩ := bnd_s h
        refine kV (As := [.int (g_12.1 17 n_6 0)]) (rest := []) (stk := [.long y_15]) (val := (some (.long y_15))) (c1 := 0) (s1 := 0) C0 M (k_X3_totalOf hc_14) kw_25_16 Y_X3_totalOf (rv_X3 C0 M) ⟨Nat.le_of_ble_eq_true rfl, Nat.le_of_ble_eq_true rfl⟩ rfl hl.1 rfl (Nat.le_of_ble_eq_true rfl) dX4_mean_70 rfl rfl ⟨Nat.le_refl _, Nat.le_refl _⟩ rfl (fun H locs M => ?_)
        refine lv_iload_n hx hb dX4_mean_73 rfl (lv_at hl 0 rfl) ?_
        refine lv_i2l hx hb dX4_mean_74 rfl ?_
        obtain ⟨hd_16, h⟩ := chk_s h
        refine lv_ldiv hx hb dX4_mean_75 hd_16 ?_
        obtain rfl := Option.some.inj h
        exact rt_l C0 M hr hk dX4_mean_76
      · rw [if_pos c_11] at h
        refine lv_aload_n hx hb dX4_mean_49 rfl (lv_at hl 2 rfl) ?_
        refine lv_bipush (v := 6) hx hb dX4_mean_50 (by decide) ?_
        obtain ⟨⟨x_18, g_19⟩, hc_17, h⟩ := bnd_s h
        try dsimp only at h
        refine kV (As := [.int (6 : Int32)]) (rest := []) (stk := [.int x_18]) (val := (some (.int x_18))) (c1 := 0) (s1 := 0) C0 M (k_X4_stop hc_17) kw_5_10 Y_X4_stop (rv_X4 C0 M) ⟨Nat.le_of_ble_eq_true rfl, Nat.le_of_ble_eq_true rfl⟩ rfl hl.1 rfl (Nat.le_of_ble_eq_true rfl) dX4_mean_52 rfl rfl ⟨Nat.le_refl _, Nat.le_refl _⟩ rfl (fun H locs M => ?_)
        refine lv_i2l hx hb dX4_mean_55 rfl ?_
        obtain rfl := Option.some.inj h
        exact rt_l C0 M hr hk dX4_mean_56
    · rw [if_neg c_8] at h
      refine lv_aload_n hx hb dX4_mean_26 rfl (lv_at hl 1 rfl) ?_
      refine lv_iconst (v := 2) hx hb dX4_mean_27 (by decide) ?_
      obtain ⟨⟨x_21, g_22⟩, hc_20, h⟩ := bnd_s h
      try dsimp only at h
      refine kV (As := [.int (2 : Int32)]) (rest := []) (stk := [.int x_21]) (val := (some (.int x_21))) (c1 := 0) (s1 := 0) C0 M (k_X4_stop hc_20) kw_5_10 Y_X4_stop (rv_X4 C0 M) ⟨Nat.le_of_ble_eq_true rfl, Nat.le_of_ble_eq_true rfl⟩ rfl hl.1 rfl (Nat.le_of_ble_eq_true rfl) dX4_mean_28 rfl rfl ⟨Nat.le_refl _, Nat.le_refl _⟩ rfl (fun H locs M => ?_)
      refine lv_i2l hx hb dX4_mean_31 rfl ?_
      obtain rfl := Option.some.inj h
      exact rt_l C0 M hr hk dX4_mean_32
theorem k_X4_mean {x1 : Int32} {res : Int64 × Gs} (h : m_X4_mean x1 g = some res) : CM l yX4_mean cX4_mean 4 (some .long) ({ frames := 2, cells := 0, slots := 0, locals := 45 } : Room) [.ref (sb 0), .int x1] (some (.long res.1)) D b0 cy sb db g res.2 := by
  refine Met.ofW (cc := cX4_mean) (maxL := 4) (ret := (some .long)) (by decide) rfl ?_
  intro p e s m args below meth c s₁ B hml hv
  obtain ⟨rfl, hW, hK⟩ := hv
  have hl := lv_entry [.ref (sb 0), .int x1] (n := 4) (Nat.le_of_ble_eq_true rfl)
  rw [lg_entry_eq]
  generalize (lg_sl [.ref (sb 0), .int x1] ++ List.replicate (4 - (lg_sl [.ref (sb 0), .int x1]).length) Slot.unset).toArray = ls at hl ⊢
  have hl : lv_has ls 4 [(0, .ref (sb 0)), (1, .int x1)] := hl
  exact w_X4_mean ⟨B.exec, B.bytes, hml, findClass_of_methodNamed B.named, fun w hw => atoms_spec (ws := Cond.code yX4_mean cX4_mean 4 (some .long) :: wsL_law) B.pre w (List.mem_cons_of_mem _ hw), hK⟩ B.returns B.notSynchronized hl ⟨hW, va_S.rf⟩ h
theorem Y_X4_mean : Yv yX4_mean RX4 cX4_mean 4 (some .long) 1 := ⟨⟨kw_26_9, kw_1_2, by decide +kernel, by decide +kernel, by decide +kernel⟩, kw_26_7, kw_26_8⟩
-- X4_itemsOf
def m_X4_itemsOf_L24 (n1 : Nat) (g : Gs) : Nat → Int32 → Int32 → Option (Int32)
  | 0, _, _ => none
  | fu + 1, x2, x3 =>
  (m_X1_rowCount n1 g).bind fun x_7 => if x_7 ≤ x3 then (some x2) else (chk (inb x3 (g.2.2 (500 + n1))) ((m_X3_lengthOf (g.1 18 n1 x3.toNatClampNeg) g).bind fun x_11 => lett (x2 + x_11) fun x_12 => lett (x3 + 1) fun x_14 => m_X4_itemsOf_L24 n1 g fu x_12 x_14))
def m_X4_itemsOf (n1 : Nat) (g : Gs) : Option (Int32) :=
  chk (n1 < 24) (if (g.1 16 n1 0) = (4 : Int32) then (lett (0 : Int32) fun x_2 => lett (0 : Int32) fun x_4 => (m_X4_itemsOf_L24 n1 g FU x_2 x_4).bind fun x_16 => some x_16) else ((m_X3_lengthOf (g.1 17 n1 0) g).bind fun x_20 => some x_20))
set_option maxHeartbeats 4000000 in
set_option maxRecDepth 100000 in
theorem w_X4_itemsOf_L24 {n1 : Nat} (hB1 : n1 < 24) (C0 : Cx p s m args c cX4_itemsOf 4 RX4 D cy) (hr : meth.sig.returnType = (some .int)) (hk : meth.locks = false) {res : Int32} {q : Int32} (kk : ∀ (x2 : Int32) (H : Heap) (locs : List Loc) (ls : Array Slot), q = x2 → lv_has ls 4 [(2, .int x2)] → Ws D b0 cy sb db g s H locs → W p l e ({ frames := 3, cells := 0, slots := 0, locals := 64 } : Room) s m args below meth c H locs 0 0 (MQ below (QX (some (.int res)) D b0 cy sb db g) args s 0 0 (fun q => b0 ≤ q)) (F0 m 54 ls [])) : ∀ (fu : Nat) (x2 : Int32) (x3 : Int32) (H : Heap) (locs : List Loc) (ls : Array Slot), lv_has ls 4 [(0, .ref (sb 0)), (1, .ref (sb (400 + n1))), (2, .int x2), (3, .int x3)] → Ws D b0 cy sb db g s H locs → m_X4_itemsOf_L24 n1 g fu x2 x3 = some q → W p l e ({ frames := 3, cells := 0, slots := 0, locals := 64 } : Room) s m args below meth c H locs 0 0 (MQ below (QX (some (.int res)) D b0 cy sb db g) args s 0 0 (fun q => b0 ≤ q)) (F0 m 24 ls []) := by
  obtain ⟨hx, hb, hml, hown, hts, hK⟩ := id C0
  intro fu
  induction fu with
  | zero =>
    intro x2 x3 H locs ls hl M h
    cases h
  | succ fu ih =>
    intro x2 x3 H locs ls hl M h
    rw [m_X4_itemsOf_L24] at h
    refine lv_iload_n hx hb dX4_itemsOf_24 rfl (lv_at hl 3 rfl) ?_
    refine lv_aload_n hx hb dX4_itemsOf_25 rfl (lv_at hl 1 rfl) ?_
    obtain ⟨x_7, hc_6, h⟩ := bnd_s h
    refine kV (As := []) (rest := [.int x3]) (stk := [.int x_7, .int x3]) (val := (some (.int x_7))) (c1 := 0) (s1 := 0) C0 M (k_X1_rowCount hc_6) kw_11_1 Y_X1_rowCount (rv_X1 C0 M hB1) ⟨Nat.le_of_ble_eq_true rfl, Nat.le_of_ble_eq_true rfl⟩ rfl hl.1 rfl (Nat.le_of_ble_eq_true rfl) dX4_itemsOf_26 rfl rfl ⟨Nat.le_refl _, Nat.le_refl _⟩ rfl (fun H locs M => ?_)
    refine lv_icmp_ge (tgt := 54) hx hb dX4_itemsOf_29 (by decide) (fun c_8 => ?_) (fun c_8 => ?_)
    · rw [if_pos c_8] at h
      exact kk _ _ _ _ (Option.some.inj h).symm (lv_sub hl [2] rfl) M
    · rw [if_neg c_8] at h
      refine lv_iload_n hx hb dX4_itemsOf_32 rfl (lv_at hl 2 rfl) ?_
      refine lv_aload_n hx hb dX4_itemsOf_33 rfl (lv_at hl 0 rfl) ?_
      refine gf_RX4_26 C0 M dX4_itemsOf_34 ?_
      refine lv_aload_n hx hb dX4_itemsOf_37 rfl (lv_at hl 1 rfl) ?_
      refine gf_RX4_133 C0 M hB1 dX4_itemsOf_38 ?_
      refine lv_iload_n hx hb dX4_itemsOf_41 rfl (lv_at hl 3 rfl) ?_
      obtain ⟨hi_9, h⟩ := chk_s h
      refine al_ROWS C0 M hB1 hi_9 dX4_itemsOf_42 ?_
      obtain ⟨x_11, hc_10, h⟩ := bnd_s h
      refine kV (As := [.int (g.1 18 n1 x3.toNatClampNeg)]) (rest := [.int x2]) (stk := [.int x_11, .int x2]) (val := (some (.int x_11))) (c1 := 0) (s1 := 0) C0 M (k_X3_lengthOf hc_10) kw_14_1 Y_X3_lengthOf (rv_X3 C0 M) ⟨Nat.le_of_ble_eq_true rfl, Nat.le_of_ble_eq_true rfl⟩ rfl hl.1 rfl (Nat.le_of_ble_eq_true rfl) dX4_itemsOf_43 rfl rfl ⟨Nat.le_refl _, Nat.le_refl _⟩ rfl (fun H locs M => ?_)
      refine lv_iadd hx hb dX4_itemsOf_46 ?_
      obtain ⟨x_12, hn_13, h⟩ := lett_s h
      refine nm_i hn_13 ?_
      refine lv_istore_n (lv' := [(2, .int x_12), (0, .ref (sb 0)), (1, .ref (sb (400 + n1))), (3, .int x3)]) hx hb dX4_itemsOf_47 rfl hl (by decide) rfl (fun ls hl => ?_)
      obtain ⟨x_14, hn_15, h⟩ := lett_s h
      refine lv_iinc (v := x_14) (lv' := [(3, .int x_14), (2, .int x_12), (0, .ref (sb 0)), (1, .ref (sb (400 + n1)))]) hx hb dX4_itemsOf_48 hl (k := 3) rfl (by rw [hn_15]; rfl) (by decide) rfl (fun ls hl => ?_)
      refine lv_goto (tgt := 24) hx hb dX4_itemsOf_51 (by decide) ?_
      exact ih _ _ _ _ _ (lv_sub hl [2, 3, 1, 0] rfl) M h
set_option maxHeartbeats 4000000 in
set_option maxRecDepth 100000 in
theorem w_X4_itemsOf {n1 : Nat} (C0 : Cx p s m args c cX4_itemsOf 4 RX4 D cy) (hr : meth.sig.returnType = (some .int)) (hk : meth.locks = false) {res : Int32} (hl : lv_has ls 4 [(0, .ref (sb 0)), (1, .ref (sb (400 + n1)))]) (M : Ws D b0 cy sb db g s H locs) (h : m_X4_itemsOf n1 g = some res) : W p l e ({ frames := 3, cells := 0, slots := 0, locals := 64 } : Room) s m args below meth c H locs 0 0 (MQ below (QX (some (.int res)) D b0 cy sb db g) args s 0 0 (fun q => b0 ≤ q)) (F0 m 0 ls []) := by
  obtain ⟨hx, hb, hml, hown, hts, hK⟩ := id C0
  rw [m_X4_itemsOf] at h
  obtain ⟨hB1, h⟩ := chk_s h
  refine lv_aload_n hx hb dX4_itemsOf_0 rfl (lv_at hl 1 rfl) ?_
  refine gf_RX4_106 C0 M hB1 dX4_itemsOf_1 ?_
  refine lv_iconst (v := 4) hx hb dX4_itemsOf_4 (by decide) ?_
  refine lv_icmp_eq (tgt := 20) hx hb dX4_itemsOf_5 (by decide) (fun c_1 => ?_) (fun c_1 => ?_)
  · rw [if_pos c_1] at h
    refine lv_iconst (v := 0) hx hb dX4_itemsOf_20 (by decide) ?_
    obtain ⟨x_2, hn_3, h⟩ := lett_s h
    refine nm_i hn_3 ?_
    refine lv_istore_n (lv' := [(2, .int x_2), (0, .ref (sb 0)), (1, .ref (sb (400 + n1)))]) hx hb dX4_itemsOf_21 rfl hl (by decide) rfl (fun ls hl => ?_)
    refine lv_iconst (v := 0) hx hb dX4_itemsOf_22 (by decide) ?_
    obtain ⟨x_4, hn_5, h⟩ := lett_s h
    refine nm_i hn_5 ?_
    refine lv_istore_n (lv' := [(3, .int x_4), (2, .int x_2), (0, .ref (sb 0)), (1, .ref (sb (400 + n1)))]) hx hb dX4_itemsOf_23 rfl hl (by decide) rfl (fun ls hl => ?_)
    obtain ⟨q_17, hq_18, h⟩ := bnd_s h
    refine w_X4_itemsOf_L24 hB1 C0 hr hk (q := q_17) (fun x_16 H locs ls hq hl M => ?_) FU _ _ _ _ _ (lv_sub hl [2, 3, 1, 0] rfl) M hq_18
    subst q_17
    try dsimp only at h
    refine lv_iload_n hx hb dX4_itemsOf_54 rfl (lv_at hl 0 rfl) ?_
    obtain rfl := Option.some.inj h
    exact rt_i C0 M hr hk dX4_itemsOf_55
  · rw [if_neg c_1] at h
    refine lv_aload_n hx hb dX4_itemsOf_8 rfl (lv_at hl 0 rfl) ?_
    refine gf_RX4_26 C0 M dX4_itemsOf_9 ?_
    refine lv_aload_n hx hb dX4_itemsOf_12 rfl (lv_at hl 1 rfl) ?_
    refine gf_RX4_100 C0 M hB1 dX4_itemsOf_13 ?_
    obtain ⟨x_20, hc_19, h⟩ := bnd_s h
    refine kV (As := [.int (g.1 17 n1 0)]) (rest := []) (stk := [.int x_20]) (val := (some (.int x_20))) (c1 := 0) (s1 := 0) C0 M (k_X3_lengthOf hc_19) kw_14_1 Y_X3_lengthOf (rv_X3 C0 M) ⟨Nat.le_of_ble_eq_true rfl, Nat.le_of_ble_eq_true rfl⟩ rfl hl.1 rfl (Nat.le_of_ble_eq_true rfl) dX4_itemsOf_16 rfl rfl ⟨Nat.le_refl _, Nat.le_refl _⟩ rfl (fun H locs M => ?_)
    obtain rfl := Option.some.inj h
    exact rt_i C0 M hr hk dX4_itemsOf_19
theorem k_X4_itemsOf {n1 : Nat} {res : Int32} (h : m_X4_itemsOf n1 g = some res) : CM l yX4_itemsOf cX4_itemsOf 4 (some .int) ({ frames := 3, cells := 0, slots := 0, locals := 64 } : Room) [.ref (sb 0), .ref (sb (400 + n1))] (some (.int res)) D b0 cy sb db g g := by
  refine Met.ofW (cc := cX4_itemsOf) (maxL := 4) (ret := (some .int)) (by decide) rfl ?_
  intro p e s m args below meth c s₁ B hml hv
  obtain ⟨rfl, hW, hK⟩ := hv
  have hl := lv_entry [.ref (sb 0), .ref (sb (400 + n1))] (n := 4) (Nat.le_of_ble_eq_true rfl)
  rw [lg_entry_eq]
  generalize (lg_sl [.ref (sb 0), .ref (sb (400 + n1))] ++ List.replicate (4 - (lg_sl [.ref (sb 0), .ref (sb (400 + n1))]).length) Slot.unset).toArray = ls at hl ⊢
  have hl : lv_has ls 4 [(0, .ref (sb 0)), (1, .ref (sb (400 + n1)))] := hl
  exact w_X4_itemsOf ⟨B.exec, B.bytes, hml, findClass_of_methodNamed B.named, fun w hw => atoms_spec (ws := Cond.code yX4_itemsOf cX4_itemsOf 4 (some .int) :: wsL_law) B.pre w (List.mem_cons_of_mem _ hw), hK⟩ B.returns B.notSynchronized hl ⟨hW, va_S.rf⟩ h
theorem Y_X4_itemsOf : Yv yX4_itemsOf RX4 cX4_itemsOf 4 (some .int) 1 := ⟨⟨kw_26_22, kw_1_2, by decide +kernel, by decide +kernel, by decide +kernel⟩, kw_26_20, kw_26_21⟩
-- X4_about
def m_X4_about_J10  (g : Gs) : Option (Int32 × Gs) :=
  some ((-2000000001 : Int32), g)
def m_X4_about_J145 (xs1 : Int32) (g : Gs) : Option (Int32 × Gs) :=
  (m_X4_done xs1 g).bind fun (x_22, g_23) => some (x_22, g_23)
def m_X4_about_J114 (n3 : Nat) (x4 : Int32) (xs0 : Int32) (g : Gs) : Option (Int32 × Gs) :=
  if xs0 = 0 then (chk (inb x4 3) (m_X4_about_J145 (g.1 6 (n3 + 1) x4.toNatClampNeg) g)) else (chk (inb x4 3) (m_X4_about_J145 (g.1 5 (n3 + 1) x4.toNatClampNeg) g))
def m_X4_about (x1 : Int32) (x2 : Int32) (g : Gs) : Option (Int32 × Gs) :=
  if x2 < 0 then (m_X4_about_J10  g) else (if x2 ≤ (8 : Int32) then ((m_X4_arrayOf x1 g).bind fun o_4 => cas o_4 ((m_X4_stop (7 : Int32) g).bind fun (x_6, g_7) => some (x_6, g_7)) fun n_8 => if x2 = 0 then ((m_X4_done (g.1 16 n_8 0) g).bind fun (x_37, g_38) => some (x_37, g_38)) else (if x2 = (1 : Int32) then ((m_X4_done (g.1 4 (n_8 + 1) 0) g).bind fun (x_34, g_35) => some (x_34, g_35)) else (if x2 = (2 : Int32) then ((m_X4_itemsOf n_8 g).bind fun x_29 => (m_X4_done x_29 g).bind fun (x_31, g_32) => some (x_31, g_32)) else (chk (¬ (2 : Int32) = 0) (lett ((x2 - (3 : Int32)) / (2 : Int32)) fun x_14 => if x_14 < (g.1 4 (n_8 + 1) 0) then (chk (¬ (2 : Int32) = 0) (if ((x2 - (3 : Int32)) - (x2 - (3 : Int32)) / (2 : Int32) * (2 : Int32)) = 0 then (m_X4_about_J114 n_8 x_14 (1 : Int32) g) else (m_X4_about_J114 n_8 x_14 (0 : Int32) g))) else ((m_X4_stop (9 : Int32) g).bind fun (x_26, g_27) => some (x_26, g_27))))))) else (m_X4_about_J10  g))
set_option maxHeartbeats 4000000 in
set_option maxRecDepth 100000 in
theorem w_X4_about_J10  (C0 : Cx p s m args c cX4_about 6 RX4 D cy) (hr : meth.sig.returnType = (some .int)) (hk : meth.locks = false) {res : Int32 × Gs} (hl : lv_has ls 6 []) (M : Ws D b0 cy sb db g s H locs) (h : m_X4_about_J10  g = some res) : W p l e ({ frames := 4, cells := 0, slots := 0, locals := 87 } : Room) s m args below meth c H locs 0 0 (MQ below (QX (some (.int res.1)) D b0 cy sb db res.2) args s 0 0 (fun q => b0 ≤ q)) (F0 m 10 ls []) := by
  obtain ⟨hx, hb, hml, hown, hts, hK⟩ := id C0
  rw [m_X4_about_J10] at h
  refine lv_ldc (v := -2000000001) hx hb hown (hts _ kw_7_4) dX4_about_10 ?_
  obtain rfl := Option.some.inj h
  exact rt_i C0 M hr hk dX4_about_12
set_option maxHeartbeats 4000000 in
set_option maxRecDepth 100000 in
theorem w_X4_about_J145 {xs1 : Int32} (C0 : Cx p s m args c cX4_about 6 RX4 D cy) (hr : meth.sig.returnType = (some .int)) (hk : meth.locks = false) {res : Int32 × Gs} (hl : lv_has ls 6 []) (M : Ws D b0 cy sb db g s H locs) (h : m_X4_about_J145 xs1 g = some res) : W p l e ({ frames := 4, cells := 0, slots := 0, locals := 87 } : Room) s m args below meth c H locs 0 0 (MQ below (QX (some (.int res.1)) D b0 cy sb db res.2) args s 0 0 (fun q => b0 ≤ q)) (F0 m 145 ls [.int xs1, .ref (sb 0)]) := by
  obtain ⟨hx, hb, hml, hown, hts, hK⟩ := id C0
  rw [m_X4_about_J145] at h
  obtain ⟨⟨x_22, g_23⟩, hc_21, h⟩ := bnd_s h
  try dsimp only at h
  refine kV (As := [.int xs1]) (rest := []) (stk := [.int x_22]) (val := (some (.int x_22))) (c1 := 0) (s1 := 0) C0 M (k_X4_done hc_21) kw_5_23 Y_X4_done (rv_X4 C0 M) ⟨Nat.le_of_ble_eq_true rfl, Nat.le_of_ble_eq_true rfl⟩ rfl hl.1 rfl (Nat.le_of_ble_eq_true rfl) dX4_about_145 rfl rfl ⟨Nat.le_refl _, Nat.le_refl _⟩ rfl (fun H locs M => ?_)
  obtain rfl := Option.some.inj h
  exact rt_i C0 M hr hk dX4_about_148
set_option maxHeartbeats 4000000 in
set_option maxRecDepth 100000 in
theorem w_X4_about_J114 {n3 : Nat} {x4 : Int32} {xs0 : Int32} (hB3 : n3 < 24) (C0 : Cx p s m args c cX4_about 6 RX4 D cy) (hr : meth.sig.returnType = (some .int)) (hk : meth.locks = false) {res : Int32 × Gs} (hl : lv_has ls 6 [(0, .ref (sb 0)), (3, .ref (sb (400 + n3))), (4, .int x4)]) (M : Ws D b0 cy sb db g s H locs) (h : m_X4_about_J114 n3 x4 xs0 g = some res) : W p l e ({ frames := 4, cells := 0, slots := 0, locals := 87 } : Room) s m args below meth c H locs 0 0 (MQ below (QX (some (.int res.1)) D b0 cy sb db res.2) args s 0 0 (fun q => b0 ≤ q)) (F0 m 114 ls [.int xs0]) := by
  obtain ⟨hx, hb, hml, hown, hts, hK⟩ := id C0
  rw [m_X4_about_J114] at h
  refine lv_istore (lv' := [(5, .int xs0), (0, .ref (sb 0)), (3, .ref (sb (400 + n3))), (4, .int x4)]) hx hb dX4_about_114 hl (by decide) rfl (fun ls hl => ?_)
  refine lv_aload_n hx hb dX4_about_116 rfl (lv_at hl 1 rfl) ?_
  refine lv_iload hx hb dX4_about_117 (lv_at hl 0 rfl) ?_
  refine lv_if_eq (tgt := 135) hx hb dX4_about_119 (by decide) (fun c_19 => ?_) (fun c_19 => ?_)
  · rw [if_pos c_19] at h
    refine lv_aload_n hx hb dX4_about_135 rfl (lv_at hl 2 rfl) ?_
    refine gf_RX4_88 C0 M hB3 dX4_about_136 ?_
    refine gf_RX4_222 C0 M (Nat.succ_lt_succ hB3) dX4_about_139 ?_
    refine lv_iload hx hb dX4_about_142 (lv_at hl 3 rfl) ?_
    obtain ⟨hi_20, h⟩ := chk_s h
    refine al_HIG C0 M (Nat.succ_lt_succ hB3) hi_20 dX4_about_144 ?_
    exact w_X4_about_J145 C0 hr hk (lv_sub hl [] rfl) M h
  · rw [if_neg c_19] at h
    refine lv_aload_n hx hb dX4_about_122 rfl (lv_at hl 2 rfl) ?_
    refine gf_RX4_88 C0 M hB3 dX4_about_123 ?_
    refine gf_RX4_219 C0 M (Nat.succ_lt_succ hB3) dX4_about_126 ?_
    refine lv_iload hx hb dX4_about_129 (lv_at hl 3 rfl) ?_
    obtain ⟨hi_24, h⟩ := chk_s h
    refine al_LOW C0 M (Nat.succ_lt_succ hB3) hi_24 dX4_about_131 ?_
    refine lv_goto (tgt := 145) hx hb dX4_about_132 (by decide) ?_
    exact w_X4_about_J145 C0 hr hk (lv_sub hl [] rfl) M h
set_option maxHeartbeats 4000000 in
set_option maxRecDepth 100000 in
theorem w_X4_about {x1 : Int32} {x2 : Int32} (C0 : Cx p s m args c cX4_about 6 RX4 D cy) (hr : meth.sig.returnType = (some .int)) (hk : meth.locks = false) {res : Int32 × Gs} (hl : lv_has ls 6 [(0, .ref (sb 0)), (1, .int x1), (2, .int x2)]) (M : Ws D b0 cy sb db g s H locs) (h : m_X4_about x1 x2 g = some res) : W p l e ({ frames := 4, cells := 0, slots := 0, locals := 87 } : Room) s m args below meth c H locs 0 0 (MQ below (QX (some (.int res.1)) D b0 cy sb db res.2) args s 0 0 (fun q => b0 ≤ q)) (F0 m 0 ls []) := by
  obtain ⟨hx, hb, hml, hown, hts, hK⟩ := id C0
  rw [m_X4_about] at h
  refine lv_iload_n hx hb dX4_about_0 rfl (lv_at hl 2 rfl) ?_
  refine lv_if_lt (tgt := 10) hx hb dX4_about_1 (by decide) (fun c_1 => ?_) (fun c_1 => ?_)
  · rw [if_pos c_1] at h
    exact w_X4_about_J10 C0 hr hk (lv_sub hl [] rfl) M h
  · rw [if_neg c_1] at h
    refine lv_iload_n hx hb dX4_about_4 rfl (lv_at hl 2 rfl) ?_
    refine lv_bipush (v := 8) hx hb dX4_about_5 (by decide) ?_
    refine lv_icmp_le (tgt := 13) hx hb dX4_about_7 (by decide) (fun c_2 => ?_) (fun c_2 => ?_)
    · rw [if_pos c_2] at h
      refine lv_aload_n hx hb dX4_about_13 rfl (lv_at hl 0 rfl) ?_
      refine lv_iload_n hx hb dX4_about_14 rfl (lv_at hl 1 rfl) ?_
      obtain ⟨o_4, hc_3, h⟩ := bnd_s h
      refine kV (As := [.int x1]) (rest := []) (stk := [rfA sb o_4]) (val := (some (rfA sb o_4))) (c1 := 0) (s1 := 0) C0 M (k_X4_arrayOf hc_3) kw_13_17 Y_X4_arrayOf (rv_X4 C0 M) ⟨Nat.le_of_ble_eq_true rfl, Nat.le_of_ble_eq_true rfl⟩ rfl hl.1 rfl (Nat.le_of_ble_eq_true rfl) dX4_about_15 rfl rfl ⟨Nat.le_refl _, Nat.le_refl _⟩ rfl (fun H locs M => ?_)
      refine lq_astore_n (lv' := [(3, rfA sb o_4), (0, .ref (sb 0)), (1, .int x1), (2, .int x2)]) hx hb o_4 dX4_about_18 rfl hl (by decide) rfl (fun ls hl => ?_)
      refine lq_aload_n hx hb o_4 dX4_about_19 rfl (lv_at hl 0 rfl) ?_
      cases o_4 with
      | none =>
        try dsimp only [cas] at h
        refine lv_ifnonnullN hx hb dX4_about_20 ?_
        refine lv_aload_n hx hb dX4_about_23 rfl (lv_at hl 1 rfl) ?_
        refine lv_bipush (v := 7) hx hb dX4_about_24 (by decide) ?_
        obtain ⟨⟨x_6, g_7⟩, hc_5, h⟩ := bnd_s h
        try dsimp only at h
        refine kV (As := [.int (7 : Int32)]) (rest := []) (stk := [.int x_6]) (val := (some (.int x_6))) (c1 := 0) (s1 := 0) C0 M (k_X4_stop hc_5) kw_5_10 Y_X4_stop (rv_X4 C0 M) ⟨Nat.le_of_ble_eq_true rfl, Nat.le_of_ble_eq_true rfl⟩ rfl hl.1 rfl (Nat.le_of_ble_eq_true rfl) dX4_about_26 rfl rfl ⟨Nat.le_refl _, Nat.le_refl _⟩ rfl (fun H locs M => ?_)
        obtain rfl := Option.some.inj h
        exact rt_i C0 M hr hk dX4_about_29
      | some n_8 =>
        obtain ⟨hB_9, h⟩ := chk_s (show chk _ _ = _ from h)
        try dsimp only at h
        have hl : lv_has ls 6 [(3, .ref (sb (400 + n_8))), (0, .ref (sb 0)), (1, .int x1), (2, .int x2)] := hl
        refine lv_ifnonnull (tgt := 30) hx hb dX4_about_20 (by decide) ?_
        refine lv_iload_n hx hb dX4_about_30 rfl (lv_at hl 3 rfl) ?_
        refine lv_if_ne (tgt := 43) hx hb dX4_about_31 (by decide) (fun c_10 => ?_) (fun c_10 => ?_)
        · rw [if_neg c_10] at h
          refine lv_iload_n hx hb dX4_about_43 rfl (lv_at hl 3 rfl) ?_
          refine lv_iconst (v := 1) hx hb dX4_about_44 (by decide) ?_
          refine lv_icmp_ne (tgt := 60) hx hb dX4_about_45 (by decide) (fun c_11 => ?_) (fun c_11 => ?_)
          · rw [if_neg c_11] at h
            refine lv_iload_n hx hb dX4_about_60 rfl (lv_at hl 3 rfl) ?_
            refine lv_iconst (v := 2) hx hb dX4_about_61 (by decide) ?_
            refine lv_icmp_ne (tgt := 75) hx hb dX4_about_62 (by decide) (fun c_12 => ?_) (fun c_12 => ?_)
            · rw [if_neg c_12] at h
              refine lv_iload_n hx hb dX4_about_75 rfl (lv_at hl 3 rfl) ?_
              refine lv_iconst (v := 3) hx hb dX4_about_76 (by decide) ?_
              refine lv_isub hx hb dX4_about_77 ?_
              refine lv_iconst (v := 2) hx hb dX4_about_78 (by decide) ?_
              obtain ⟨hd_13, h⟩ := chk_s h
              refine lv_idiv hx hb dX4_about_79 hd_13 ?_
              obtain ⟨x_14, hn_15, h⟩ := lett_s h
              refine nm_i hn_15 ?_
              refine lv_istore (lv' := [(4, .int x_14), (3, .ref (sb (400 + n_8))), (0, .ref (sb 0)), (1, .int x1), (2, .int x2)]) hx hb dX4_about_80 hl (by decide) rfl (fun ls hl => ?_)
              refine lv_iload hx hb dX4_about_82 (lv_at hl 0 rfl) ?_
              refine lv_aload_n hx hb dX4_about_84 rfl (lv_at hl 1 rfl) ?_
              refine gf_RX4_88 C0 M hB_9 dX4_about_85 ?_
              refine gf_RX4_51 C0 M (Nat.succ_lt_succ hB_9) dX4_about_88 ?_
              refine lv_icmp_lt (tgt := 101) hx hb dX4_about_91 (by decide) (fun c_16 => ?_) (fun c_16 => ?_)
              · rw [if_pos c_16] at h
                refine lv_iload_n hx hb dX4_about_101 rfl (lv_at hl 4 rfl) ?_
                refine lv_iconst (v := 3) hx hb dX4_about_102 (by decide) ?_
                refine lv_isub hx hb dX4_about_103 ?_
                refine lv_iconst (v := 2) hx hb dX4_about_104 (by decide) ?_
                obtain ⟨hd_17, h⟩ := chk_s h
                refine lv_irem hx hb dX4_about_105 hd_17 ?_
                refine lv_if_ne (tgt := 113) hx hb dX4_about_106 (by decide) (fun c_18 => ?_) (fun c_18 => ?_)
                · rw [if_neg c_18] at h
                  refine lv_iconst (v := 0) hx hb dX4_about_113 (by decide) ?_
                  exact w_X4_about_J114 hB_9 C0 hr hk (lv_sub hl [2, 1, 0] rfl) M h
                · rw [if_pos c_18] at h
                  refine lv_iconst (v := 1) hx hb dX4_about_109 (by decide) ?_
                  refine lv_goto (tgt := 114) hx hb dX4_about_110 (by decide) ?_
                  exact w_X4_about_J114 hB_9 C0 hr hk (lv_sub hl [2, 1, 0] rfl) M h
              · rw [if_neg c_16] at h
                refine lv_aload_n hx hb dX4_about_94 rfl (lv_at hl 2 rfl) ?_
                refine lv_bipush (v := 9) hx hb dX4_about_95 (by decide) ?_
                obtain ⟨⟨x_26, g_27⟩, hc_25, h⟩ := bnd_s h
                try dsimp only at h
                refine kV (As := [.int (9 : Int32)]) (rest := []) (stk := [.int x_26]) (val := (some (.int x_26))) (c1 := 0) (s1 := 0) C0 M (k_X4_stop hc_25) kw_5_10 Y_X4_stop (rv_X4 C0 M) ⟨Nat.le_of_ble_eq_true rfl, Nat.le_of_ble_eq_true rfl⟩ rfl hl.1 rfl (Nat.le_of_ble_eq_true rfl) dX4_about_97 rfl rfl ⟨Nat.le_refl _, Nat.le_refl _⟩ rfl (fun H locs M => ?_)
                obtain rfl := Option.some.inj h
                exact rt_i C0 M hr hk dX4_about_100
            · rw [if_pos c_12] at h
              refine lv_aload_n hx hb dX4_about_65 rfl (lv_at hl 1 rfl) ?_
              refine lv_aload_n hx hb dX4_about_66 rfl (lv_at hl 1 rfl) ?_
              refine lv_aload_n hx hb dX4_about_67 rfl (lv_at hl 0 rfl) ?_
              obtain ⟨x_29, hc_28, h⟩ := bnd_s h
              refine kV (As := [.ref (sb (400 + n_8))]) (rest := [.ref (sb 0)]) (stk := [.int x_29, .ref (sb 0)]) (val := (some (.int x_29))) (c1 := 0) (s1 := 0) C0 M (k_X4_itemsOf hc_28) kw_26_19 Y_X4_itemsOf (rv_X4 C0 M) ⟨Nat.le_of_ble_eq_true rfl, Nat.le_of_ble_eq_true rfl⟩ rfl hl.1 rfl (Nat.le_of_ble_eq_true rfl) dX4_about_68 rfl rfl ⟨Nat.le_refl _, Nat.le_refl _⟩ rfl (fun H locs M => ?_)
              obtain ⟨⟨x_31, g_32⟩, hc_30, h⟩ := bnd_s h
              try dsimp only at h
              refine kV (As := [.int x_29]) (rest := []) (stk := [.int x_31]) (val := (some (.int x_31))) (c1 := 0) (s1 := 0) C0 M (k_X4_done hc_30) kw_5_23 Y_X4_done (rv_X4 C0 M) ⟨Nat.le_of_ble_eq_true rfl, Nat.le_of_ble_eq_true rfl⟩ rfl hl.1 rfl (Nat.le_of_ble_eq_true rfl) dX4_about_71 rfl rfl ⟨Nat.le_refl _, Nat.le_refl _⟩ rfl (fun H locs M => ?_)
              obtain rfl := Option.some.inj h
              exact rt_i C0 M hr hk dX4_about_74
          · rw [if_pos c_11] at h
            refine lv_aload_n hx hb dX4_about_48 rfl (lv_at hl 1 rfl) ?_
            refine lv_aload_n hx hb dX4_about_49 rfl (lv_at hl 0 rfl) ?_
            refine gf_RX4_88 C0 M hB_9 dX4_about_50 ?_
            refine gf_RX4_51 C0 M (Nat.succ_lt_succ hB_9) dX4_about_53 ?_
            obtain ⟨⟨x_34, g_35⟩, hc_33, h⟩ := bnd_s h
            try dsimp only at h
            refine kV (As := [.int (g.1 4 (n_8 + 1) 0)]) (rest := []) (stk := [.int x_34]) (val := (some (.int x_34))) (c1 := 0) (s1 := 0) C0 M (k_X4_done hc_33) kw_5_23 Y_X4_done (rv_X4 C0 M) ⟨Nat.le_of_ble_eq_true rfl, Nat.le_of_ble_eq_true rfl⟩ rfl hl.1 rfl (Nat.le_of_ble_eq_true rfl) dX4_about_56 rfl rfl ⟨Nat.le_refl _, Nat.le_refl _⟩ rfl (fun H locs M => ?_)
            obtain rfl := Option.some.inj h
            exact rt_i C0 M hr hk dX4_about_59
        · rw [if_pos c_10] at h
          refine lv_aload_n hx hb dX4_about_34 rfl (lv_at hl 1 rfl) ?_
          refine lv_aload_n hx hb dX4_about_35 rfl (lv_at hl 0 rfl) ?_
          refine gf_RX4_106 C0 M hB_9 dX4_about_36 ?_
          obtain ⟨⟨x_37, g_38⟩, hc_36, h⟩ := bnd_s h
          try dsimp only at h
          refine kV (As := [.int (g.1 16 n_8 0)]) (rest := []) (stk := [.int x_37]) (val := (some (.int x_37))) (c1 := 0) (s1 := 0) C0 M (k_X4_done hc_36) kw_5_23 Y_X4_done (rv_X4 C0 M) ⟨Nat.le_of_ble_eq_true rfl, Nat.le_of_ble_eq_true rfl⟩ rfl hl.1 rfl (Nat.le_of_ble_eq_true rfl) dX4_about_39 rfl rfl ⟨Nat.le_refl _, Nat.le_refl _⟩ rfl (fun H locs M => ?_)
          obtain rfl := Option.some.inj h
          exact rt_i C0 M hr hk dX4_about_42
    · rw [if_neg c_2] at h
      exact w_X4_about_J10 C0 hr hk (lv_sub hl [] rfl) M h
theorem k_X4_about {x1 : Int32} {x2 : Int32} {res : Int32 × Gs} (h : m_X4_about x1 x2 g = some res) : CM l yX4_about cX4_about 6 (some .int) ({ frames := 4, cells := 0, slots := 0, locals := 87 } : Room) [.ref (sb 0), .int x1, .int x2] (some (.int res.1)) D b0 cy sb db g res.2 := by
  refine Met.ofW (cc := cX4_about) (maxL := 6) (ret := (some .int)) (by decide) rfl ?_
  intro p e s m args below meth c s₁ B hml hv
  obtain ⟨rfl, hW, hK⟩ := hv
  have hl := lv_entry [.ref (sb 0), .int x1, .int x2] (n := 6) (Nat.le_of_ble_eq_true rfl)
  rw [lg_entry_eq]
  generalize (lg_sl [.ref (sb 0), .int x1, .int x2] ++ List.replicate (6 - (lg_sl [.ref (sb 0), .int x1, .int x2]).length) Slot.unset).toArray = ls at hl ⊢
  have hl : lv_has ls 6 [(0, .ref (sb 0)), (1, .int x1), (2, .int x2)] := hl
  exact w_X4_about ⟨B.exec, B.bytes, hml, findClass_of_methodNamed B.named, fun w hw => atoms_spec (ws := Cond.code yX4_about cX4_about 6 (some .int) :: wsL_law) B.pre w (List.mem_cons_of_mem _ hw), hK⟩ B.returns B.notSynchronized hl ⟨hW, va_S.rf⟩ h
theorem Y_X4_about : Yv yX4_about RX4 cX4_about 6 (some .int) 2 := ⟨⟨kw_26_17, kw_1_2, by decide +kernel, by decide +kernel, by decide +kernel⟩, kw_26_15, kw_26_16⟩
-- X4_haveSameRows
def m_X4_haveSameRows_J32 (xs0 : Int32) (g : Gs) : Option (Int32) :=
  chk (xs0 &&& 1 = xs0) (some xs0)
def m_X4_haveSameRows_J16 (n0 : Nat) (n1 : Nat) (g : Gs) : Option (Int32) :=
  if (g.1 17 n0 0) = (g.1 17 n1 0) then (m_X4_haveSameRows_J32 (1 : Int32) g) else (m_X4_haveSameRows_J32 (0 : Int32) g)
def m_X4_haveSameRows_L48 (n0 : Nat) (n1 : Nat) (g : Gs) : Nat → Int32 → Option ((Int32) ⊕ (Unit))
  | 0, _ => none
  | fu + 1, x2 =>
  (m_X1_rowCount n0 g).bind fun x_13 => if x_13 ≤ x2 then (some (.inr ())) else (chk (inb x2 (g.2.2 (500 + n0))) (chk (inb x2 (g.2.2 (500 + n1))) (if (g.1 18 n0 x2.toNatClampNeg) = (g.1 18 n1 x2.toNatClampNeg) then (lett (x2 + 1) fun x_18 => m_X4_haveSameRows_L48 n0 n1 g fu x_18) else (chk ((0 : Int32) &&& 1 = (0 : Int32)) (some (.inl (0 : Int32)))))))
def m_X4_haveSameRows (n0 : Nat) (n1 : Nat) (g : Gs) : Option (Int32) :=
  chk (n0 < 24) (chk (n1 < 24) (if (g.1 16 n0 0) = (4 : Int32) then (if (g.1 16 n1 0) = (4 : Int32) then ((m_X1_rowCount n0 g).bind fun x_6 => (m_X1_rowCount n1 g).bind fun x_8 => if x_6 = x_8 then (lett (0 : Int32) fun x_10 => (m_X4_haveSameRows_L48 n0 n1 g FU x_10).bind fun q_22 => exi q_22 (fun r => some r) fun _ => chk ((1 : Int32) &&& 1 = (1 : Int32)) (some (1 : Int32))) else (chk ((0 : Int32) &&& 1 = (0 : Int32)) (some (0 : Int32)))) else (m_X4_haveSameRows_J16 n0 n1 g)) else (m_X4_haveSameRows_J16 n0 n1 g)))
set_option maxHeartbeats 4000000 in
set_option maxRecDepth 100000 in
theorem w_X4_haveSameRows_J32 {xs0 : Int32} (C0 : Cx p s m args c cX4_haveSameRows 3 RX4 D cy) (hr : meth.sig.returnType = (some .boolean)) (hk : meth.locks = false) {res : Int32} (hl : lv_has ls 3 []) (M : Ws D b0 cy sb db g s H locs) (h : m_X4_haveSameRows_J32 xs0 g = some res) : W p l e ({ frames := 3, cells := 0, slots := 0, locals := 64 } : Room) s m args below meth c H locs 0 0 (MQ below (QX (some (.int res)) D b0 cy sb db g) args s 0 0 (fun q => b0 ≤ q)) (F0 m 32 ls [.int xs0]) := by
  obtain ⟨hx, hb, hml, hown, hts, hK⟩ := id C0
  rw [m_X4_haveSameRows_J32] at h
  obtain ⟨hz_3, h⟩ := chk_s h
  obtain rfl := Option.some.inj h
  exact rt_z C0 M hr hk hz_3 dX4_haveSameRows_32
set_option maxHeartbeats 4000000 in
set_option maxRecDepth 100000 in
theorem w_X4_haveSameRows_J16 {n0 : Nat} {n1 : Nat} (hB0 : n0 < 24) (hB1 : n1 < 24) (C0 : Cx p s m args c cX4_haveSameRows 3 RX4 D cy) (hr : meth.sig.returnType = (some .boolean)) (hk : meth.locks = false) {res : Int32} (hl : lv_has ls 3 [(0, .ref (sb (400 + n0))), (1, .ref (sb (400 + n1)))]) (M : Ws D b0 cy sb db g s H locs) (h : m_X4_haveSameRows_J16 n0 n1 g = some res) : W p l e ({ frames := 3, cells := 0, slots := 0, locals := 64 } : Room) s m args below meth c H locs 0 0 (MQ below (QX (some (.int res)) D b0 cy sb db g) args s 0 0 (fun q => b0 ≤ q)) (F0 m 16 ls []) := by
  obtain ⟨hx, hb, hml, hown, hts, hK⟩ := id C0
  rw [m_X4_haveSameRows_J16] at h
  refine lv_aload_n hx hb dX4_haveSameRows_16 rfl (lv_at hl 0 rfl) ?_
  refine gf_RX4_100 C0 M hB0 dX4_haveSameRows_17 ?_
  refine lv_aload_n hx hb dX4_haveSameRows_20 rfl (lv_at hl 1 rfl) ?_
  refine gf_RX4_100 C0 M hB1 dX4_haveSameRows_21 ?_
  refine lv_icmp_ne (tgt := 31) hx hb dX4_haveSameRows_24 (by decide) (fun c_2 => ?_) (fun c_2 => ?_)
  · rw [if_neg c_2] at h
    refine lv_iconst (v := 0) hx hb dX4_haveSameRows_31 (by decide) ?_
    exact w_X4_haveSameRows_J32 C0 hr hk (lv_sub hl [] rfl) M h
  · rw [if_pos c_2] at h
    refine lv_iconst (v := 1) hx hb dX4_haveSameRows_27 (by decide) ?_
    refine lv_goto (tgt := 32) hx hb dX4_haveSameRows_28 (by decide) ?_
    exact w_X4_haveSameRows_J32 C0 hr hk (lv_sub hl [] rfl) M h
set_option maxHeartbeats 4000000 in
set_option maxRecDepth 100000 in
theorem w_X4_haveSameRows_L48 {n0 : Nat} {n1 : Nat} (hB0 : n0 < 24) (hB1 : n1 < 24) (C0 : Cx p s m args c cX4_haveSameRows 3 RX4 D cy) (hr : meth.sig.returnType = (some .boolean)) (hk : meth.locks = false) {res : Int32} {q : (Int32) ⊕ (Unit)} (hret : ∀ r, q = .inl r → r = res) (kk : ∀  (H : Heap) (locs : List Loc) (ls : Array Slot), q = .inr () → lv_has ls 3 [] → Ws D b0 cy sb db g s H locs → W p l e ({ frames := 3, cells := 0, slots := 0, locals := 64 } : Room) s m args below meth c H locs 0 0 (MQ below (QX (some (.int res)) D b0 cy sb db g) args s 0 0 (fun q => b0 ≤ q)) (F0 m 79 ls [])) : ∀ (fu : Nat) (x2 : Int32) (H : Heap) (locs : List Loc) (ls : Array Slot), lv_has ls 3 [(0, .ref (sb (400 + n0))), (1, .ref (sb (400 + n1))), (2, .int x2)] → Ws D b0 cy sb db g s H locs → m_X4_haveSameRows_L48 n0 n1 g fu x2 = some q → W p l e ({ frames := 3, cells := 0, slots := 0, locals := 64 } : Room) s m args below meth c H locs 0 0 (MQ below (QX (some (.int res)) D b0 cy sb db g) args s 0 0 (fun q => b0 ≤ q)) (F0 m 48 ls []) := by
  obtain ⟨hx, hb, hml, hown, hts, hK⟩ := id C0
  intro fu
  induction fu with
  | zero =>
    intro x2 H locs ls hl M h
    cases h
  | succ fu ih =>
    intro x2 H locs ls hl M h
    rw [m_X4_haveSameRows_L48] at h
    refine lv_iload_n hx hb dX4_haveSameRows_48 rfl (lv_at hl 2 rfl) ?_
    refine lv_aload_n hx hb dX4_haveSameRows_49 rfl (lv_at hl 0 rfl) ?_
    obtain ⟨x_13, hc_12, h⟩ := bnd_s h
    refine kV (As := []) (rest := [.int x2]) (stk := [.int x_13, .int x2]) (val := (some (.int x_13))) (c1 := 0) (s1 := 0) C0 M (k_X1_rowCount hc_12) kw_11_1 Y_X1_rowCount (rv_X1 C0 M hB0) ⟨Nat.le_of_ble_eq_true rfl, Nat.le_of_ble_eq_true rfl⟩ rfl hl.1 rfl (Nat.le_of_ble_eq_true rfl) dX4_haveSameRows_50 rfl rfl ⟨Nat.le_refl _, Nat.le_refl _⟩ rfl (fun H locs M => ?_)
    refine lv_icmp_ge (tgt := 79) hx hb dX4_haveSameRows_53 (by decide) (fun c_14 => ?_) (fun c_14 => ?_)
    · rw [if_pos c_14] at h
      exact kk _ _ _ (Option.some.inj h).symm (lv_sub hl [] rfl) M
    · rw [if_neg c_14] at h
      refine lv_aload_n hx hb dX4_haveSameRows_56 rfl (lv_at hl 0 rfl) ?_
      refine gf_RX4_133 C0 M hB0 dX4_haveSameRows_57 ?_
      refine lv_iload_n hx hb dX4_haveSameRows_60 rfl (lv_at hl 2 rfl) ?_
      obtain ⟨hi_15, h⟩ := chk_s h
      refine al_ROWS C0 M hB0 hi_15 dX4_haveSameRows_61 ?_
      refine lv_aload_n hx hb dX4_haveSameRows_62 rfl (lv_at hl 1 rfl) ?_
      refine gf_RX4_133 C0 M hB1 dX4_haveSameRows_63 ?_
      refine lv_iload_n hx hb dX4_haveSameRows_66 rfl (lv_at hl 2 rfl) ?_
      obtain ⟨hi_16, h⟩ := chk_s h
      refine al_ROWS C0 M hB1 hi_16 dX4_haveSameRows_67 ?_
      refine lv_icmp_eq (tgt := 73) hx hb dX4_haveSameRows_68 (by decide) (fun c_17 => ?_) (fun c_17 => ?_)
      · rw [if_pos c_17] at h
        obtain ⟨x_18, hn_19, h⟩ := lett_s h
        refine lv_iinc (v := x_18) (lv' := [(2, .int x_18), (0, .ref (sb (400 + n0))), (1, .ref (sb (400 + n1)))]) hx hb dX4_haveSameRows_73 hl (k := 2) rfl (by rw [hn_19]; rfl) (by decide) rfl (fun ls hl => ?_)
        refine lv_goto (tgt := 48) hx hb dX4_haveSameRows_76 (by decide) ?_
        exact ih _ _ _ _ (lv_sub hl [1, 2, 0] rfl) M h
      · rw [if_neg c_17] at h
        refine lv_iconst (v := 0) hx hb dX4_haveSameRows_71 (by decide) ?_
        obtain ⟨hz_20, h⟩ := chk_s h
        obtain rfl := Option.some.inj h
        obtain rfl := hret _ rfl
        exact rt_z C0 M hr hk hz_20 dX4_haveSameRows_72
set_option maxHeartbeats 4000000 in
set_option maxRecDepth 100000 in
theorem w_X4_haveSameRows {n0 : Nat} {n1 : Nat} (C0 : Cx p s m args c cX4_haveSameRows 3 RX4 D cy) (hr : meth.sig.returnType = (some .boolean)) (hk : meth.locks = false) {res : Int32} (hl : lv_has ls 3 [(0, .ref (sb (400 + n0))), (1, .ref (sb (400 + n1)))]) (M : Ws D b0 cy sb db g s H locs) (h : m_X4_haveSameRows n0 n1 g = some res) : W p l e ({ frames := 3, cells := 0, slots := 0, locals := 64 } : Room) s m args below meth c H locs 0 0 (MQ below (QX (some (.int res)) D b0 cy sb db g) args s 0 0 (fun q => b0 ≤ q)) (F0 m 0 ls []) := by
  obtain ⟨hx, hb, hml, hown, hts, hK⟩ := id C0
  rw [m_X4_haveSameRows] at h
  obtain ⟨hB0, h⟩ := chk_s h
  obtain ⟨hB1, h⟩ := chk_s h
  refine lv_aload_n hx hb dX4_haveSameRows_0 rfl (lv_at hl 0 rfl) ?_
  refine gf_RX4_106 C0 M hB0 dX4_haveSameRows_1 ?_
  refine lv_iconst (v := 4) hx hb dX4_haveSameRows_4 (by decide) ?_
  refine lv_icmp_ne (tgt := 16) hx hb dX4_haveSameRows_5 (by decide) (fun c_1 => ?_) (fun c_1 => ?_)
  · rw [if_neg c_1] at h
    exact w_X4_haveSameRows_J16 hB0 hB1 C0 hr hk hl M h
  · rw [if_pos c_1] at h
    refine lv_aload_n hx hb dX4_haveSameRows_8 rfl (lv_at hl 1 rfl) ?_
    refine gf_RX4_106 C0 M hB1 dX4_haveSameRows_9 ?_
    refine lv_iconst (v := 4) hx hb dX4_haveSameRows_12 (by decide) ?_
    refine lv_icmp_eq (tgt := 33) hx hb dX4_haveSameRows_13 (by decide) (fun c_4 => ?_) (fun c_4 => ?_)
    · rw [if_pos c_4] at h
      refine lv_aload_n hx hb dX4_haveSameRows_33 rfl (lv_at hl 0 rfl) ?_
      obtain ⟨x_6, hc_5, h⟩ := bnd_s h
      refine kV (As := []) (rest := []) (stk := [.int x_6]) (val := (some (.int x_6))) (c1 := 0) (s1 := 0) C0 M (k_X1_rowCount hc_5) kw_11_1 Y_X1_rowCount (rv_X1 C0 M hB0) ⟨Nat.le_of_ble_eq_true rfl, Nat.le_of_ble_eq_true rfl⟩ rfl hl.1 rfl (Nat.le_of_ble_eq_true rfl) dX4_haveSameRows_34 rfl rfl ⟨Nat.le_refl _, Nat.le_refl _⟩ rfl (fun H locs M => ?_)
      refine lv_aload_n hx hb dX4_haveSameRows_37 rfl (lv_at hl 1 rfl) ?_
      obtain ⟨x_8, hc_7, h⟩ := bnd_s h
      refine kV (As := []) (rest := [.int x_6]) (stk := [.int x_8, .int x_6]) (val := (some (.int x_8))) (c1 := 0) (s1 := 0) C0 M (k_X1_rowCount hc_7) kw_11_1 Y_X1_rowCount (rv_X1 C0 M hB1) ⟨Nat.le_of_ble_eq_true rfl, Nat.le_of_ble_eq_true rfl⟩ rfl hl.1 rfl (Nat.le_of_ble_eq_true rfl) dX4_haveSameRows_38 rfl rfl ⟨Nat.le_refl _, Nat.le_refl _⟩ rfl (fun H locs M => ?_)
      refine lv_icmp_eq (tgt := 46) hx hb dX4_haveSameRows_41 (by decide) (fun c_9 => ?_) (fun c_9 => ?_)
      · rw [if_pos c_9] at h
        refine lv_iconst (v := 0) hx hb dX4_haveSameRows_46 (by decide) ?_
        obtain ⟨x_10, hn_11, h⟩ := lett_s h
        refine nm_i hn_11 ?_
        refine lv_istore_n (lv' := [(2, .int x_10), (0, .ref (sb (400 + n0))), (1, .ref (sb (400 + n1)))]) hx hb dX4_haveSameRows_47 rfl hl (by decide) rfl (fun ls hl => ?_)
        obtain ⟨q_22, hq_23, h⟩ := bnd_s h
        refine w_X4_haveSameRows_L48 hB0 hB1 C0 hr hk (q := q_22) (fun r hq => ?_) (fun  H locs ls hq hl M => ?_) FU _ _ _ _ (lv_sub hl [1, 2, 0] rfl) M hq_23
        · subst hq
          exact Option.some.inj h
        subst q_22
        try dsimp only [exi] at h
        refine lv_iconst (v := 1) hx hb dX4_haveSameRows_79 (by decide) ?_
        obtain ⟨hz_21, h⟩ := chk_s h
        obtain rfl := Option.some.inj h
        exact rt_z C0 M hr hk hz_21 dX4_haveSameRows_80
      · rw [if_neg c_9] at h
        refine lv_iconst (v := 0) hx hb dX4_haveSameRows_44 (by decide) ?_
        obtain ⟨hz_24, h⟩ := chk_s h
        obtain rfl := Option.some.inj h
        exact rt_z C0 M hr hk hz_24 dX4_haveSameRows_45
    · rw [if_neg c_4] at h
      exact w_X4_haveSameRows_J16 hB0 hB1 C0 hr hk hl M h
theorem k_X4_haveSameRows {n0 : Nat} {n1 : Nat} {res : Int32} (h : m_X4_haveSameRows n0 n1 g = some res) : CM l yX4_haveSameRows cX4_haveSameRows 3 (some .boolean) ({ frames := 3, cells := 0, slots := 0, locals := 64 } : Room) [.ref (sb (400 + n0)), .ref (sb (400 + n1))] (some (.int res)) D b0 cy sb db g g := by
  refine Met.ofW (cc := cX4_haveSameRows) (maxL := 3) (ret := (some .boolean)) (by decide) rfl ?_
  intro p e s m args below meth c s₁ B hml hv
  obtain ⟨rfl, hW, hK⟩ := hv
  have hl := lv_entry [.ref (sb (400 + n0)), .ref (sb (400 + n1))] (n := 3) (Nat.le_of_ble_eq_true rfl)
  rw [lg_entry_eq]
  generalize (lg_sl [.ref (sb (400 + n0)), .ref (sb (400 + n1))] ++ List.replicate (3 - (lg_sl [.ref (sb (400 + n0)), .ref (sb (400 + n1))]).length) Slot.unset).toArray = ls at hl ⊢
  have hl : lv_has ls 3 [(0, .ref (sb (400 + n0))), (1, .ref (sb (400 + n1)))] := hl
  exact w_X4_haveSameRows ⟨B.exec, B.bytes, hml, findClass_of_methodNamed B.named, fun w hw => atoms_spec (ws := Cond.code yX4_haveSameRows cX4_haveSameRows 3 (some .boolean) :: wsL_law) B.pre w (List.mem_cons_of_mem _ hw), hK⟩ B.returns B.notSynchronized hl ⟨hW, va_S.rf⟩ h
theorem Y_X4_haveSameRows : Ys yX4_haveSameRows cX4_haveSameRows 3 (some .boolean) 2 := ⟨⟨kw_27_10, kw_1_2, by decide +kernel, by decide +kernel, by decide +kernel⟩, kw_27_9⟩
-- X4_same
def m_X4_same_J22  (g : Gs) : Option (Int32 × Gs) :=
  (m_X4_stop (7 : Int32) g).bind fun (x_6, g_7) => some (x_6, g_7)
def m_X4_same_J44 (xs1 : Int32) (g : Gs) : Option (Int32 × Gs) :=
  (m_X4_done xs1 g).bind fun (x_16, g_17) => some (x_16, g_17)
def m_X4_same (x1 : Int32) (x2 : Int32) (g : Gs) : Option (Int32 × Gs) :=
  (m_X4_arrayOf x1 g).bind fun o_2 => (m_X4_arrayOf x2 g).bind fun o_4 => cas o_2 (m_X4_same_J22  g) fun n_8 => cas o_4 (m_X4_same_J22  g) fun n_10 => (m_X4_haveSameRows n_8 n_10 g).bind fun x_13 => if x_13 = 0 then (m_X4_same_J44 (0 : Int32) g) else (m_X4_same_J44 (1 : Int32) g)
set_option maxHeartbeats 4000000 in
set_option maxRecDepth 100000 in
theorem w_X4_same_J22  (C0 : Cx p s m args c cX4_same 5 RX4 D cy) (hr : meth.sig.returnType = (some .int)) (hk : meth.locks = false) {res : Int32 × Gs} (hl : lv_has ls 5 [(0, .ref (sb 0))]) (M : Ws D b0 cy sb db g s H locs) (h : m_X4_same_J22  g = some res) : W p l e ({ frames := 4, cells := 0, slots := 0, locals := 86 } : Room) s m args below meth c H locs 0 0 (MQ below (QX (some (.int res.1)) D b0 cy sb db res.2) args s 0 0 (fun q => b0 ≤ q)) (F0 m 22 ls []) := by
  obtain ⟨hx, hb, hml, hown, hts, hK⟩ := id C0
  rw [m_X4_same_J22] at h
  refine lv_aload_n hx hb dX4_same_22 rfl (lv_at hl 0 rfl) ?_
  refine lv_bipush (v := 7) hx hb dX4_same_23 (by decide) ?_
  obtain ⟨⟨x_6, g_7⟩, hc_5, h⟩ := bnd_s h
  try dsimp only at h
  refine kV (As := [.int (7 : Int32)]) (rest := []) (stk := [.int x_6]) (val := (some (.int x_6))) (c1 := 0) (s1 := 0) C0 M (k_X4_stop hc_5) kw_5_10 Y_X4_stop (rv_X4 C0 M) ⟨Nat.le_of_ble_eq_true rfl, Nat.le_of_ble_eq_true rfl⟩ rfl hl.1 rfl (Nat.le_of_ble_eq_true rfl) dX4_same_25 rfl rfl ⟨Nat.le_refl _, Nat.le_refl _⟩ rfl (fun H locs M => ?_)
  obtain rfl := Option.some.inj h
  exact rt_i C0 M hr hk dX4_same_28
set_option maxHeartbeats 4000000 in
set_option maxRecDepth 100000 in
theorem w_X4_same_J44 {xs1 : Int32} (C0 : Cx p s m args c cX4_same 5 RX4 D cy) (hr : meth.sig.returnType = (some .int)) (hk : meth.locks = false) {res : Int32 × Gs} (hl : lv_has ls 5 []) (M : Ws D b0 cy sb db g s H locs) (h : m_X4_same_J44 xs1 g = some res) : W p l e ({ frames := 4, cells := 0, slots := 0, locals := 86 } : Room) s m args below meth c H locs 0 0 (MQ below (QX (some (.int res.1)) D b0 cy sb db res.2) args s 0 0 (fun q => b0 ≤ q)) (F0 m 44 ls [.int xs1, .ref (sb 0)]) := by
  obtain ⟨hx, hb, hml, hown, hts, hK⟩ := id C0
  rw [m_X4_same_J44] at h
  obtain ⟨⟨x_16, g_17⟩, hc_15, h⟩ := bnd_s h
  try dsimp only at h
  refine kV (As := [.int xs1]) (rest := []) (stk := [.int x_16]) (val := (some (.int x_16))) (c1 := 0) (s1 := 0) C0 M (k_X4_done hc_15) kw_5_23 Y_X4_done (rv_X4 C0 M) ⟨Nat.le_of_ble_eq_true rfl, Nat.le_of_ble_eq_true rfl⟩ rfl hl.1 rfl (Nat.le_of_ble_eq_true rfl) dX4_same_44 rfl rfl ⟨Nat.le_refl _, Nat.le_refl _⟩ rfl (fun H locs M => ?_)
  obtain rfl := Option.some.inj h
  exact rt_i C0 M hr hk dX4_same_47
set_option maxHeartbeats 4000000 in
set_option maxRecDepth 100000 in
theorem w_X4_same {x1 : Int32} {x2 : Int32} (C0 : Cx p s m args c cX4_same 5 RX4 D cy) (hr : meth.sig.returnType = (some .int)) (hk : meth.locks = false) {res : Int32 × Gs} (hl : lv_has ls 5 [(0, .ref (sb 0)), (1, .int x1), (2, .int x2)]) (M : Ws D b0 cy sb db g s H locs) (h : m_X4_same x1 x2 g = some res) : W p l e ({ frames := 4, cells := 0, slots := 0, locals := 86 } : Room) s m args below meth c H locs 0 0 (MQ below (QX (some (.int res.1)) D b0 cy sb db res.2) args s 0 0 (fun q => b0 ≤ q)) (F0 m 0 ls []) := by
  obtain ⟨hx, hb, hml, hown, hts, hK⟩ := id C0
  rw [m_X4_same] at h
  refine lv_aload_n hx hb dX4_same_0 rfl (lv_at hl 0 rfl) ?_
  refine lv_iload_n hx hb dX4_same_1 rfl (lv_at hl 1 rfl) ?_
  obtain ⟨o_2, hc_1, h⟩ := bnd_s h
  refine kV (As := [.int x1]) (rest := []) (stk := [rfA sb o_2]) (val := (some (rfA sb o_2))) (c1 := 0) (s1 := 0) C0 M (k_X4_arrayOf hc_1) kw_13_17 Y_X4_arrayOf (rv_X4 C0 M) ⟨Nat.le_of_ble_eq_true rfl, Nat.le_of_ble_eq_true rfl⟩ rfl hl.1 rfl (Nat.le_of_ble_eq_true rfl) dX4_same_2 rfl rfl ⟨Nat.le_refl _, Nat.le_refl _⟩ rfl (fun H locs M => ?_)
  refine lq_astore_n (lv' := [(3, rfA sb o_2), (0, .ref (sb 0)), (1, .int x1), (2, .int x2)]) hx hb o_2 dX4_same_5 rfl hl (by decide) rfl (fun ls hl => ?_)
  refine lv_aload_n hx hb dX4_same_6 rfl (lv_at hl 1 rfl) ?_
  refine lv_iload_n hx hb dX4_same_7 rfl (lv_at hl 3 rfl) ?_
  obtain ⟨o_4, hc_3, h⟩ := bnd_s h
  refine kV (As := [.int x2]) (rest := []) (stk := [rfA sb o_4]) (val := (some (rfA sb o_4))) (c1 := 0) (s1 := 0) C0 M (k_X4_arrayOf hc_3) kw_13_17 Y_X4_arrayOf (rv_X4 C0 M) ⟨Nat.le_of_ble_eq_true rfl, Nat.le_of_ble_eq_true rfl⟩ rfl hl.1 rfl (Nat.le_of_ble_eq_true rfl) dX4_same_8 rfl rfl ⟨Nat.le_refl _, Nat.le_refl _⟩ rfl (fun H locs M => ?_)
  refine lq_astore (lv' := [(4, rfA sb o_4), (3, rfA sb o_2), (0, .ref (sb 0)), (1, .int x1), (2, .int x2)]) hx hb o_4 dX4_same_11 hl (by decide) (by cases o_2 <;> rfl) (fun ls hl => ?_)
  refine lq_aload_n hx hb o_2 dX4_same_13 rfl (lv_at hl 1 rfl) ?_
  cases o_2 with
  | none =>
    try dsimp only [cas] at h
    refine lv_ifnullN (tgt := 22) hx hb dX4_same_14 (by decide) ?_
    exact w_X4_same_J22 C0 hr hk (lv_sub hl [2] rfl) M h
  | some n_8 =>
    obtain ⟨hB_9, h⟩ := chk_s (show chk _ _ = _ from h)
    try dsimp only at h
    have hl : lv_has ls 5 [(4, rfA sb o_4), (3, .ref (sb (400 + n_8))), (0, .ref (sb 0)), (1, .int x1), (2, .int x2)] := hl
    refine lv_ifnull hx hb dX4_same_14 ?_
    refine lq_aload hx hb o_4 dX4_same_17 (lv_at hl 0 rfl) ?_
    cases o_4 with
    | none =>
      try dsimp only [cas] at h
      refine lv_ifnonnullN hx hb dX4_same_19 ?_
      exact w_X4_same_J22 C0 hr hk (lv_sub hl [2] rfl) M h
    | some n_10 =>
      obtain ⟨hB_11, h⟩ := chk_s (show chk _ _ = _ from h)
      try dsimp only at h
      have hl : lv_has ls 5 [(4, .ref (sb (400 + n_10))), (3, .ref (sb (400 + n_8))), (0, .ref (sb 0)), (1, .int x1), (2, .int x2)] := hl
      refine lv_ifnonnull (tgt := 29) hx hb dX4_same_19 (by decide) ?_
      refine lv_aload_n hx hb dX4_same_29 rfl (lv_at hl 2 rfl) ?_
      refine lv_aload_n hx hb dX4_same_30 rfl (lv_at hl 1 rfl) ?_
      refine lv_aload hx hb dX4_same_31 (lv_at hl 0 rfl) ?_
      obtain ⟨x_13, hc_12, h⟩ := bnd_s h
      refine kS (As := [.ref (sb (400 + n_8)), .ref (sb (400 + n_10))]) (rest := [.ref (sb 0)]) (stk := [.int x_13, .ref (sb 0)]) (val := (some (.int x_13))) (c1 := 0) (s1 := 0) C0 M (k_X4_haveSameRows hc_12) kw_27_8 Y_X4_haveSameRows ⟨Nat.le_of_ble_eq_true rfl, Nat.le_of_ble_eq_true rfl⟩ rfl hl.1 rfl (Nat.le_of_ble_eq_true rfl) dX4_same_33 rfl rfl ⟨Nat.le_refl _, Nat.le_refl _⟩ rfl (fun H locs M => ?_)
      refine lv_if_eq (tgt := 43) hx hb dX4_same_36 (by decide) (fun c_14 => ?_) (fun c_14 => ?_)
      · rw [if_pos c_14] at h
        refine lv_iconst (v := 0) hx hb dX4_same_43 (by decide) ?_
        exact w_X4_same_J44 C0 hr hk (lv_sub hl [] rfl) M h
      · rw [if_neg c_14] at h
        refine lv_iconst (v := 1) hx hb dX4_same_39 (by decide) ?_
        refine lv_goto (tgt := 44) hx hb dX4_same_40 (by decide) ?_
        exact w_X4_same_J44 C0 hr hk (lv_sub hl [] rfl) M h
theorem k_X4_same {x1 : Int32} {x2 : Int32} {res : Int32 × Gs} (h : m_X4_same x1 x2 g = some res) : CM l yX4_same cX4_same 5 (some .int) ({ frames := 4, cells := 0, slots := 0, locals := 86 } : Room) [.ref (sb 0), .int x1, .int x2] (some (.int res.1)) D b0 cy sb db g res.2 := by
  refine Met.ofW (cc := cX4_same) (maxL := 5) (ret := (some .int)) (by decide) rfl ?_
  intro p e s m args below meth c s₁ B hml hv
  obtain ⟨rfl, hW, hK⟩ := hv
  have hl := lv_entry [.ref (sb 0), .int x1, .int x2] (n := 5) (Nat.le_of_ble_eq_true rfl)
  rw [lg_entry_eq]
  generalize (lg_sl [.ref (sb 0), .int x1, .int x2] ++ List.replicate (5 - (lg_sl [.ref (sb 0), .int x1, .int x2]).length) Slot.unset).toArray = ls at hl ⊢
  have hl : lv_has ls 5 [(0, .ref (sb 0)), (1, .int x1), (2, .int x2)] := hl
  exact w_X4_same ⟨B.exec, B.bytes, hml, findClass_of_methodNamed B.named, fun w hw => atoms_spec (ws := Cond.code yX4_same cX4_same 5 (some .int) :: wsL_law) B.pre w (List.mem_cons_of_mem _ hw), hK⟩ B.returns B.notSynchronized hl ⟨hW, va_S.rf⟩ h
theorem Y_X4_same : Yv yX4_same RX4 cX4_same 5 (some .int) 2 := ⟨⟨kw_27_7, kw_1_2, by decide +kernel, by decide +kernel, by decide +kernel⟩, kw_27_5, kw_27_6⟩
-- X4_compare
def m_X4_compare_J22  (g : Gs) : Option (Int32 × Gs) :=
  (m_X4_stop (7 : Int32) g).bind fun (x_6, g_7) => some (x_6, g_7)
def m_X4_compare_J49  (g : Gs) : Option (Int32 × Gs) :=
  (m_X4_stop (2 : Int32) g).bind fun (x_14, g_15) => some (x_14, g_15)
def m_X4_compare (x1 : Int32) (x2 : Int32) (g : Gs) : Option (Int32 × Gs) :=
  (m_X4_arrayOf x1 g).bind fun o_2 => (m_X4_arrayOf x2 g).bind fun o_4 => cas o_2 (m_X4_compare_J22  g) fun n_8 => cas o_4 (m_X4_compare_J22  g) fun n_10 => if (g.1 16 n_8 0) = (g.1 16 n_10 0) then (if (g.1 16 n_8 0) ≤ (2 : Int32) then ((m_X3_orderOf (g.1 17 n_8 0) (g.1 17 n_10 0) g).bind fun x_18 => (m_X4_done x_18 g).bind fun (x_20, g_21) => some (x_20, g_21)) else (m_X4_compare_J49  g)) else (m_X4_compare_J49  g)
set_option maxHeartbeats 4000000 in
set_option maxRecDepth 100000 in
theorem w_X4_compare_J22  (C0 : Cx p s m args c cX4_compare 5 RX4 D cy) (hr : meth.sig.returnType = (some .int)) (hk : meth.locks = false) {res : Int32 × Gs} (hl : lv_has ls 5 [(0, .ref (sb 0))]) (M : Ws D b0 cy sb db g s H locs) (h : m_X4_compare_J22  g = some res) : W p l e ({ frames := 2, cells := 0, slots := 0, locals := 48 } : Room) s m args below meth c H locs 0 0 (MQ below (QX (some (.int res.1)) D b0 cy sb db res.2) args s 0 0 (fun q => b0 ≤ q)) (F0 m 22 ls []) := by
  obtain ⟨hx, hb, hml, hown, hts, hK⟩ := id C0
  rw [m_X4_compare_J22] at h
  refine lv_aload_n hx hb dX4_compare_22 rfl (lv_at hl 0 rfl) ?_
  refine lv_bipush (v := 7) hx hb dX4_compare_23 (by decide) ?_
  obtain ⟨⟨x_6, g_7⟩, hc_5, h⟩ := bnd_s h
  try dsimp only at h
  refine kV (As := [.int (7 : Int32)]) (rest := []) (stk := [.int x_6]) (val := (some (.int x_6))) (c1 := 0) (s1 := 0) C0 M (k_X4_stop hc_5) kw_5_10 Y_X4_stop (rv_X4 C0 M) ⟨Nat.le_of_ble_eq_true rfl, Nat.le_of_ble_eq_true rfl⟩ rfl hl.1 rfl (Nat.le_of_ble_eq_true rfl) dX4_compare_25 rfl rfl ⟨Nat.le_refl _, Nat.le_refl _⟩ rfl (fun H locs M => ?_)
  obtain rfl := Option.some.inj h
  exact rt_i C0 M hr hk dX4_compare_28
set_option maxHeartbeats 4000000 in
set_option maxRecDepth 100000 in
theorem w_X4_compare_J49  (C0 : Cx p s m args c cX4_compare 5 RX4 D cy) (hr : meth.sig.returnType = (some .int)) (hk : meth.locks = false) {res : Int32 × Gs} (hl : lv_has ls 5 [(0, .ref (sb 0))]) (M : Ws D b0 cy sb db g s H locs) (h : m_X4_compare_J49  g = some res) : W p l e ({ frames := 2, cells := 0, slots := 0, locals := 48 } : Room) s m args below meth c H locs 0 0 (MQ below (QX (some (.int res.1)) D b0 cy sb db res.2) args s 0 0 (fun q => b0 ≤ q)) (F0 m 49 ls []) := by
  obtain ⟨hx, hb, hml, hown, hts, hK⟩ := id C0
  rw [m_X4_compare_J49] at h
  refine lv_aload_n hx hb dX4_compare_49 rfl (lv_at hl 0 rfl) ?_
  refine lv_iconst (v := 2) hx hb dX4_compare_50 (by decide) ?_
  obtain ⟨⟨x_14, g_15⟩, hc_13, h⟩ := bnd_s h
  try dsimp only at h
  refine kV (As := [.int (2 : Int32)]) (rest := []) (stk := [.int x_14]) (val := (some (.int x_14))) (c1 := 0) (s1 := 0) C0 M (k_X4_stop hc_13) kw_5_10 Y_X4_stop (rv_X4 C0 M) ⟨Nat.le_of_ble_eq_true rfl, Nat.le_of_ble_eq_true rfl⟩ rfl hl.1 rfl (Nat.le_of_ble_eq_true rfl) dX4_compare_51 rfl rfl ⟨Nat.le_refl _, Nat.le_refl _⟩ rfl (fun H locs M => ?_)
  obtain rfl := Option.some.inj h
  exact rt_i C0 M hr hk dX4_compare_54
set_option maxHeartbeats 4000000 in
set_option maxRecDepth 100000 in
theorem w_X4_compare {x1 : Int32} {x2 : Int32} (C0 : Cx p s m args c cX4_compare 5 RX4 D cy) (hr : meth.sig.returnType = (some .int)) (hk : meth.locks = false) {res : Int32 × Gs} (hl : lv_has ls 5 [(0, .ref (sb 0)), (1, .int x1), (2, .int x2)]) (M : Ws D b0 cy sb db g s H locs) (h : m_X4_compare x1 x2 g = some res) : W p l e ({ frames := 2, cells := 0, slots := 0, locals := 48 } : Room) s m args below meth c H locs 0 0 (MQ below (QX (some (.int res.1)) D b0 cy sb db res.2) args s 0 0 (fun q => b0 ≤ q)) (F0 m 0 ls []) := by
  obtain ⟨hx, hb, hml, hown, hts, hK⟩ := id C0
  rw [m_X4_compare] at h
  refine lv_aload_n hx hb dX4_compare_0 rfl (lv_at hl 0 rfl) ?_
  refine lv_iload_n hx hb dX4_compare_1 rfl (lv_at hl 1 rfl) ?_
  obtain ⟨o_2, hc_1, h⟩ := bnd_s h
  refine kV (As := [.int x1]) (rest := []) (stk := [rfA sb o_2]) (val := (some (rfA sb o_2))) (c1 := 0) (s1 := 0) C0 M (k_X4_arrayOf hc_1) kw_13_17 Y_X4_arrayOf (rv_X4 C0 M) ⟨Nat.le_of_ble_eq_true rfl, Nat.le_of_ble_eq_true rfl⟩ rfl hl.1 rfl (Nat.le_of_ble_eq_true rfl) dX4_compare_2 rfl rfl ⟨Nat.le_refl _, Nat.le_refl _⟩ rfl (fun H locs M => ?_)
  refine lq_astore_n (lv' := [(3, rfA sb o_2), (0, .ref (sb 0)), (1, .int x1), (2, .int x2)]) hx hb o_2 dX4_compare_5 rfl hl (by decide) rfl (fun ls hl => ?_)
  refine lv_aload_n hx hb dX4_compare_6 rfl (lv_at hl 1 rfl) ?_
  refine lv_iload_n hx hb dX4_compare_7 rfl (lv_at hl 3 rfl) ?_
  obtain ⟨o_4, hc_3, h⟩ := bnd_s h
  refine kV (As := [.int x2]) (rest := []) (stk := [rfA sb o_4]) (val := (some (rfA sb o_4))) (c1 := 0) (s1 := 0) C0 M (k_X4_arrayOf hc_3) kw_13_17 Y_X4_arrayOf (rv_X4 C0 M) ⟨Nat.le_of_ble_eq_true rfl, Nat.le_of_ble_eq_true rfl⟩ rfl hl.1 rfl (Nat.le_of_ble_eq_true rfl) dX4_compare_8 rfl rfl ⟨Nat.le_refl _, Nat.le_refl _⟩ rfl (fun H locs M => ?_)
  refine lq_astore (lv' := [(4, rfA sb o_4), (3, rfA sb o_2), (0, .ref (sb 0)), (1, .int x1), (2, .int x2)]) hx hb o_4 dX4_compare_11 hl (by decide) (by cases o_2 <;> rfl) (fun ls hl => ?_)
  refine lq_aload_n hx hb o_2 dX4_compare_13 rfl (lv_at hl 1 rfl) ?_
  cases o_2 with
  | none =>
    try dsimp only [cas] at h
    refine lv_ifnullN (tgt := 22) hx hb dX4_compare_14 (by decide) ?_
    exact w_X4_compare_J22 C0 hr hk (lv_sub hl [2] rfl) M h
  | some n_8 =>
    obtain ⟨hB_9, h⟩ := chk_s (show chk _ _ = _ from h)
    try dsimp only at h
    have hl : lv_has ls 5 [(4, rfA sb o_4), (3, .ref (sb (400 + n_8))), (0, .ref (sb 0)), (1, .int x1), (2, .int x2)] := hl
    refine lv_ifnull hx hb dX4_compare_14 ?_
    refine lq_aload hx hb o_4 dX4_compare_17 (lv_at hl 0 rfl) ?_
    cases o_4 with
    | none =>
      try dsimp only [cas] at h
      refine lv_ifnonnullN hx hb dX4_compare_19 ?_
      exact w_X4_compare_J22 C0 hr hk (lv_sub hl [2] rfl) M h
    | some n_10 =>
      obtain ⟨hB_11, h⟩ := chk_s (show chk _ _ = _ from h)
      try dsimp only at h
      have hl : lv_has ls 5 [(4, .ref (sb (400 + n_10))), (3, .ref (sb (400 + n_8))), (0, .ref (sb 0)), (1, .int x1), (2, .int x2)] := hl
      refine lv_ifnonnull (tgt := 29) hx hb dX4_compare_19 (by decide) ?_
      refine lv_aload_n hx hb dX4_compare_29 rfl (lv_at hl 1 rfl) ?_
      refine gf_RX4_106 C0 M hB_9 dX4_compare_30 ?_
      refine lv_aload hx hb dX4_compare_33 (lv_at hl 0 rfl) ?_
      refine gf_RX4_106 C0 M hB_11 dX4_compare_35 ?_
      refine lv_icmp_ne (tgt := 49) hx hb dX4_compare_38 (by decide) (fun c_12 => ?_) (fun c_12 => ?_)
      · rw [if_neg c_12] at h
        exact w_X4_compare_J49 C0 hr hk (lv_sub hl [2] rfl) M h
      · rw [if_pos c_12] at h
        refine lv_aload_n hx hb dX4_compare_41 rfl (lv_at hl 1 rfl) ?_
        refine gf_RX4_106 C0 M hB_9 dX4_compare_42 ?_
        refine lv_iconst (v := 2) hx hb dX4_compare_45 (by decide) ?_
        refine lv_icmp_le (tgt := 55) hx hb dX4_compare_46 (by decide) (fun c_16 => ?_) (fun c_16 => ?_)
        · rw [if_pos c_16] at h
          refine lv_aload_n hx hb dX4_compare_55 rfl (lv_at hl 2 rfl) ?_
          refine lv_aload_n hx hb dX4_compare_56 rfl (lv_at hl 2 rfl) ?_
          refine gf_RX4_26 C0 M dX4_compare_57 ?_
          refine lv_aload_n hx hb dX4_compare_60 rfl (lv_at hl 1 rfl) ?_
          refine gf_RX4_100 C0 M hB_9 dX4_compare_61 ?_
          refine lv_aload hx hb dX4_compare_64 (lv_at hl 0 rfl) ?_
          refine gf_RX4_100 C0 M hB_11 dX4_compare_66 ?_
          obtain ⟨x_18, hc_17, h⟩ := bnd_s h
          refine kV (As := [.int (g.1 17 n_8 0), .int (g.1 17 n_10 0)]) (rest := [.ref (sb 0)]) (stk := [.int x_18, .ref (sb 0)]) (val := (some (.int x_18))) (c1 := 0) (s1 := 0) C0 M (k_X3_orderOf hc_17) kw_27_19 Y_X3_orderOf (rv_X3 C0 M) ⟨Nat.le_of_ble_eq_true rfl, Nat.le_of_ble_eq_true rfl⟩ rfl hl.1 rfl (Nat.le_of_ble_eq_true rfl) dX4_compare_69 rfl rfl ⟨Nat.le_refl _, Nat.le_refl _⟩ rfl (fun H locs M => ?_)
          obtain ⟨⟨x_20, g_21⟩, hc_19, h⟩ := bnd_s h
          try dsimp only at h
          refine kV (As := [.int x_18]) (rest := []) (stk := [.int x_20]) (val := (some (.int x_20))) (c1 := 0) (s1 := 0) C0 M (k_X4_done hc_19) kw_5_23 Y_X4_done (rv_X4 C0 M) ⟨Nat.le_of_ble_eq_true rfl, Nat.le_of_ble_eq_true rfl⟩ rfl hl.1 rfl (Nat.le_of_ble_eq_true rfl) dX4_compare_72 rfl rfl ⟨Nat.le_refl _, Nat.le_refl _⟩ rfl (fun H locs M => ?_)
          obtain rfl := Option.some.inj h
          exact rt_i C0 M hr hk dX4_compare_75
        · rw [if_neg c_16] at h
          exact w_X4_compare_J49 C0 hr hk (lv_sub hl [2] rfl) M h
theorem k_X4_compare {x1 : Int32} {x2 : Int32} {res : Int32 × Gs} (h : m_X4_compare x1 x2 g = some res) : CM l yX4_compare cX4_compare 5 (some .int) ({ frames := 2, cells := 0, slots := 0, locals := 48 } : Room) [.ref (sb 0), .int x1, .int x2] (some (.int res.1)) D b0 cy sb db g res.2 := by
  refine Met.ofW (cc := cX4_compare) (maxL := 5) (ret := (some .int)) (by decide) rfl ?_
  intro p e s m args below meth c s₁ B hml hv
  obtain ⟨rfl, hW, hK⟩ := hv
  have hl := lv_entry [.ref (sb 0), .int x1, .int x2] (n := 5) (Nat.le_of_ble_eq_true rfl)
  rw [lg_entry_eq]
  generalize (lg_sl [.ref (sb 0), .int x1, .int x2] ++ List.replicate (5 - (lg_sl [.ref (sb 0), .int x1, .int x2]).length) Slot.unset).toArray = ls at hl ⊢
  have hl : lv_has ls 5 [(0, .ref (sb 0)), (1, .int x1), (2, .int x2)] := hl
  exact w_X4_compare ⟨B.exec, B.bytes, hml, findClass_of_methodNamed B.named, fun w hw => atoms_spec (ws := Cond.code yX4_compare cX4_compare 5 (some .int) :: wsL_law) B.pre w (List.mem_cons_of_mem _ hw), hK⟩ B.returns B.notSynchronized hl ⟨hW, va_S.rf⟩ h
theorem Y_X4_compare : Yv yX4_compare RX4 cX4_compare 5 (some .int) 2 := ⟨⟨kw_27_18, kw_1_2, by decide +kernel, by decide +kernel, by decide +kernel⟩, kw_27_16, kw_27_17⟩
-- X4_clear
def m_X4_clear  (g : Gs) : Option (Int32 × Gs) :=
  lett (g.1 0 0 0) fun x_1 => lett (sI g 0 0 0 (0 : Int32)) fun g_3 => lett (sI g_3 4 0 0 (0 : Int32)) fun g_5 => lett (sI g_5 7 0 0 (0 : Int32)) fun g_7 => (m_X3_forget  g_7).bind fun g_10 => lett (sI g_10 1 0 0 (0 : Int32)) fun g_11 => lett (sI g_11 2 0 0 (-1 : Int32)) fun g_13 => some (x_1, g_13)
set_option maxHeartbeats 4000000 in
set_option maxRecDepth 100000 in
theorem w_X4_clear  (C0 : Cx p s m args c cX4_clear 2 RX4 D cy) (hr : meth.sig.returnType = (some .int)) (hk : meth.locks = false) {res : Int32 × Gs} (hl : lv_has ls 2 [(0, .ref (sb 0))]) (M : Ws D b0 cy sb db g s H locs) (h : m_X4_clear  g = some res) : W p l e ({ frames := 1, cells := 0, slots := 0, locals := 20 } : Room) s m args below meth c H locs 0 0 (MQ below (QX (some (.int res.1)) D b0 cy sb db res.2) args s 0 0 (fun q => b0 ≤ q)) (F0 m 0 ls []) := by
  obtain ⟨hx, hb, hml, hown, hts, hK⟩ := id C0
  rw [m_X4_clear] at h
  refine lv_aload_n hx hb dX4_clear_0 rfl (lv_at hl 0 rfl) ?_
  refine gf_RX4_40 C0 M dX4_clear_1 ?_
  obtain ⟨x_1, hn_2, h⟩ := lett_s h
  refine nm_i hn_2 ?_
  refine lv_istore_n (lv' := [(1, .int x_1), (0, .ref (sb 0))]) hx hb dX4_clear_4 rfl hl (by decide) rfl (fun ls hl => ?_)
  refine lv_aload_n hx hb dX4_clear_5 rfl (lv_at hl 1 rfl) ?_
  refine lv_iconst (v := 0) hx hb dX4_clear_6 (by decide) ?_
  obtain ⟨g_3, hg_4, h⟩ := lett_s h
  refine pf_RX4_40 C0 M hg_4 dX4_clear_7 (fun H locs M => ?_)
  refine lv_aload_n hx hb dX4_clear_10 rfl (lv_at hl 1 rfl) ?_
  refine gf_RX4_12 C0 M dX4_clear_11 ?_
  refine lv_iconst (v := 0) hx hb dX4_clear_14 (by decide) ?_
  obtain ⟨g_5, hg_6, h⟩ := lett_s h
  refine pf_RX4_51 C0 M (by decide) hg_6 dX4_clear_15 (fun H locs M => ?_)
  refine lv_aload_n hx hb dX4_clear_18 rfl (lv_at hl 1 rfl) ?_
  refine gf_RX4_19 C0 M dX4_clear_19 ?_
  refine lv_iconst (v := 0) hx hb dX4_clear_22 (by decide) ?_
  obtain ⟨g_7, hg_8, h⟩ := lett_s h
  refine pf_RX4_185 C0 M hg_8 dX4_clear_23 (fun H locs M => ?_)
  refine lv_aload_n hx hb dX4_clear_26 rfl (lv_at hl 1 rfl) ?_
  refine gf_RX4_26 C0 M dX4_clear_27 ?_
  obtain ⟨g_10, hc_9, h⟩ := bnd_s h
  refine kV (As := []) (rest := []) (stk := []) (val := none) (c1 := 0) (s1 := 0) C0 M (k_X3_forget hc_9) kw_28_16 Y_X3_forget (rv_X3 C0 M) ⟨Nat.le_of_ble_eq_true rfl, Nat.le_of_ble_eq_true rfl⟩ rfl hl.1 rfl (Nat.le_of_ble_eq_true rfl) dX4_clear_30 rfl rfl ⟨Nat.le_refl _, Nat.le_refl _⟩ rfl (fun H locs M => ?_)
  refine lv_aload_n hx hb dX4_clear_33 rfl (lv_at hl 1 rfl) ?_
  refine lv_iconst (v := 0) hx hb dX4_clear_34 (by decide) ?_
  obtain ⟨g_11, hg_12, h⟩ := lett_s h
  refine pf_RX4_44 C0 M hg_12 dX4_clear_35 (fun H locs M => ?_)
  refine lv_aload_n hx hb dX4_clear_38 rfl (lv_at hl 1 rfl) ?_
  refine lv_iconst (v := -1) hx hb dX4_clear_39 (by decide) ?_
  obtain ⟨g_13, hg_14, h⟩ := lett_s h
  refine pf_RX4_47 C0 M hg_14 dX4_clear_40 (fun H locs M => ?_)
  refine lv_iload_n hx hb dX4_clear_43 rfl (lv_at hl 0 rfl) ?_
  obtain rfl := Option.some.inj h
  exact rt_i C0 M hr hk dX4_clear_44
theorem k_X4_clear  {res : Int32 × Gs} (h : m_X4_clear  g = some res) : CM l yX4_clear cX4_clear 2 (some .int) ({ frames := 1, cells := 0, slots := 0, locals := 20 } : Room) [.ref (sb 0)] (some (.int res.1)) D b0 cy sb db g res.2 := by
  refine Met.ofW (cc := cX4_clear) (maxL := 2) (ret := (some .int)) (by decide) rfl ?_
  intro p e s m args below meth c s₁ B hml hv
  obtain ⟨rfl, hW, hK⟩ := hv
  have hl := lv_entry [.ref (sb 0)] (n := 2) (Nat.le_of_ble_eq_true rfl)
  rw [lg_entry_eq]
  generalize (lg_sl [.ref (sb 0)] ++ List.replicate (2 - (lg_sl [.ref (sb 0)]).length) Slot.unset).toArray = ls at hl ⊢
  have hl : lv_has ls 2 [(0, .ref (sb 0))] := hl
  exact w_X4_clear ⟨B.exec, B.bytes, hml, findClass_of_methodNamed B.named, fun w hw => atoms_spec (ws := Cond.code yX4_clear cX4_clear 2 (some .int) :: wsL_law) B.pre w (List.mem_cons_of_mem _ hw), hK⟩ B.returns B.notSynchronized hl ⟨hW, va_S.rf⟩ h
theorem Y_X4_clear : Yv yX4_clear RX4 cX4_clear 2 (some .int) 0 := ⟨⟨kw_28_15, kw_1_2, by decide +kernel, by decide +kernel, by decide +kernel⟩, kw_28_13, kw_28_14⟩
end WALK
