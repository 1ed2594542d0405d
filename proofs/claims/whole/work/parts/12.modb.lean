section WALK
variable {p : Program} {l : Launch} {e : Env} {s : State} {m : MethodId} {args : Array Value} {below : List Frame} {meth : Method} {c : Code} {H : Heap} {locs : List Loc}
variable {ls : Array Slot} {D : va_G} {b0 : Nat} {cy : Cy} {sb db : Nat → Nat} {g : Gs}
-- X5_newArray
def m_X5_newArray_L39 (x2 : Int32) : Nat → Int32 → Gs → Option (Gs)
  | 0, _, _ => none
  | fu + 1, x3, g =>
  if (3 : Int32) ≤ x3 then (some g) else (if x2 = (-1 : Int32) then (chk (inb x3 3) (chk (inb (((3 : Int32) * (g.1 25 0 0)) + x3) 72) (lett (sI g 28 0 (((3 : Int32) * (g.1 25 0 0)) + x3).toNatClampNeg (g.1 23 0 x3.toNatClampNeg)) fun g_32 => if x2 = (-1 : Int32) then (chk (inb x3 3) (chk (inb (((3 : Int32) * (g_32.1 25 0 0)) + x3) 72) (lett (sI g_32 29 0 (((3 : Int32) * (g_32.1 25 0 0)) + x3).toNatClampNeg (g_32.1 24 0 x3.toNatClampNeg)) fun g_43 => lett (x3 + 1) fun x_45 => m_X5_newArray_L39 x2 fu x_45 g_43))) else (chk (inb (((3 : Int32) * x2) + x3) 72) (chk (inb (((3 : Int32) * (g_32.1 25 0 0)) + x3) 72) (lett (sI g_32 29 0 (((3 : Int32) * (g_32.1 25 0 0)) + x3).toNatClampNeg (g_32.1 29 0 (((3 : Int32) * x2) + x3).toNatClampNeg)) fun g_37 => lett (x3 + 1) fun x_39 => m_X5_newArray_L39 x2 fu x_39 g_37)))))) else (chk (inb (((3 : Int32) * x2) + x3) 72) (chk (inb (((3 : Int32) * (g.1 25 0 0)) + x3) 72) (lett (sI g 28 0 (((3 : Int32) * (g.1 25 0 0)) + x3).toNatClampNeg (g.1 28 0 (((3 : Int32) * x2) + x3).toNatClampNeg)) fun g_15 => if x2 = (-1 : Int32) then (chk (inb x3 3) (chk (inb (((3 : Int32) * (g_15.1 25 0 0)) + x3) 72) (lett (sI g_15 29 0 (((3 : Int32) * (g_15.1 25 0 0)) + x3).toNatClampNeg (g_15.1 24 0 x3.toNatClampNeg)) fun g_26 => lett (x3 + 1) fun x_28 => m_X5_newArray_L39 x2 fu x_28 g_26))) else (chk (inb (((3 : Int32) * x2) + x3) 72) (chk (inb (((3 : Int32) * (g_15.1 25 0 0)) + x3) 72) (lett (sI g_15 29 0 (((3 : Int32) * (g_15.1 25 0 0)) + x3).toNatClampNeg (g_15.1 29 0 (((3 : Int32) * x2) + x3).toNatClampNeg)) fun g_20 => lett (x3 + 1) fun x_22 => m_X5_newArray_L39 x2 fu x_22 g_20)))))))
def m_X5_newArray_J36 (x2 : Int32) (xs1 : Int32) (xs2 : Int32) (g : Gs) : Option (Int32 × Gs) :=
  chk (inb xs1 24) (lett (sI g 27 0 xs1.toNatClampNeg xs2) fun g_7 => lett (0 : Int32) fun x_9 => (m_X5_newArray_L39 x2 FU x_9 g_7).bind fun g_47 => lett (sI g_47 25 0 0 ((g_47.1 25 0 0) + (1 : Int32))) fun g_48 => some (((g_48.1 25 0 0) - (1 : Int32)), g_48))
def m_X5_newArray (x1 : Int32) (x2 : Int32) (g : Gs) : Option (Int32 × Gs) :=
  chk (inb (g.1 25 0 0) 24) (lett (sI g 26 0 (g.1 25 0 0).toNatClampNeg x1) fun g_2 => if x2 = (-1 : Int32) then (m_X5_newArray_J36 x2 (g_2.1 25 0 0) (g_2.1 22 0 0) g_2) else (chk (inb x2 24) (m_X5_newArray_J36 x2 (g_2.1 25 0 0) (g_2.1 27 0 x2.toNatClampNeg) g_2)))
set_option maxHeartbeats 4000000 in
set_option maxRecDepth 100000 in
theorem w_X5_newArray_L39 {x2 : Int32} (C0 : Cx p s m args c cX5_newArray 4 RX5 D cy) (hr : meth.sig.returnType = (some .int)) (hk : meth.locks = false) {res : Int32 × Gs} {q : Gs} (kk : ∀ (g : Gs) (H : Heap) (locs : List Loc) (ls : Array Slot), q = g → lv_has ls 4 [(0, .ref (sb 13))] → Ws D b0 cy sb db g s H locs → W p l e ({ frames := 0, cells := 0, slots := 0, locals := 0 } : Room) s m args below meth c H locs 0 0 (MQ below (QX (some (.int res.1)) D b0 cy sb db res.2) args s 0 0 (fun q => b0 ≤ q)) (F0 m 124 ls [])) : ∀ (fu : Nat) (x3 : Int32) (g : Gs) (H : Heap) (locs : List Loc) (ls : Array Slot), lv_has ls 4 [(0, .ref (sb 13)), (2, .int x2), (3, .int x3)] → Ws D b0 cy sb db g s H locs → m_X5_newArray_L39 x2 fu x3 g = some q → W p l e ({ frames := 0, cells := 0, slots := 0, locals := 0 } : Room) s m args below meth c H locs 0 0 (MQ below (QX (some (.int res.1)) D b0 cy sb db res.2) args s 0 0 (fun q => b0 ≤ q)) (F0 m 39 ls []) := by
  obtain ⟨hx, hb, hml, hown, hts, hK⟩ := id C0
  intro fu
  induction fu with
  | zero =>
    intro x3 g H locs ls hl M h
    cases h
  | succ fu ih =>
    intro x3 g H locs ls hl M h
    rw [m_X5_newArray_L39] at h
    refine lv_iload_n hx hb dX5_newArray_39 rfl (lv_at hl 2 rfl) ?_
    refine lv_iconst (v := 3) hx hb dX5_newArray_40 (by decide) ?_
    refine lv_icmp_ge (tgt := 124) hx hb dX5_newArray_41 (by decide) (fun c_11 => ?_) (fun c_11 => ?_)
    · rw [if_pos c_11] at h
      exact kk _ _ _ _ (Option.some.inj h).symm (lv_sub hl [0] rfl) M
    · rw [if_neg c_11] at h
      refine lv_aload_n hx hb dX5_newArray_44 rfl (lv_at hl 0 rfl) ?_
      refine gf_RX5_26 C0 M dX5_newArray_45 ?_
      refine lv_iconst (v := 3) hx hb dX5_newArray_48 (by decide) ?_
      refine lv_aload_n hx hb dX5_newArray_49 rfl (lv_at hl 0 rfl) ?_
      refine gf_RX5_98 C0 M dX5_newArray_50 ?_
      refine lv_imul hx hb dX5_newArray_53 ?_
      refine lv_iload_n hx hb dX5_newArray_54 rfl (lv_at hl 2 rfl) ?_
      refine lv_iadd hx hb dX5_newArray_55 ?_
      refine lv_iload_n hx hb dX5_newArray_56 rfl (lv_at hl 1 rfl) ?_
      refine lv_iconst (v := -1) hx hb dX5_newArray_57 (by decide) ?_
      refine lv_icmp_ne (tgt := 70) hx hb dX5_newArray_58 (by decide) (fun c_12 => ?_) (fun c_12 => ?_)
      · rw [if_neg c_12] at h
        refine lv_aload_n hx hb dX5_newArray_70 rfl (lv_at hl 0 rfl) ?_
        refine gf_RX5_26 C0 M dX5_newArray_71 ?_
        refine lv_iconst (v := 3) hx hb dX5_newArray_74 (by decide) ?_
        refine lv_iload_n hx hb dX5_newArray_75 rfl (lv_at hl 1 rfl) ?_
        refine lv_imul hx hb dX5_newArray_76 ?_
        refine lv_iload_n hx hb dX5_newArray_77 rfl (lv_at hl 2 rfl) ?_
        refine lv_iadd hx hb dX5_newArray_78 ?_
        obtain ⟨hi_13, h⟩ := chk_s h
        refine al_Mlows C0 M hi_13 dX5_newArray_79 ?_
        obtain ⟨hi_14, h⟩ := chk_s h
        obtain ⟨g_15, hg_16, h⟩ := lett_s h
        refine as_Mlows C0 M hi_14 hg_16 dX5_newArray_80 (fun H locs M => ?_)
        refine lv_aload_n hx hb dX5_newArray_81 rfl (lv_at hl 0 rfl) ?_
        refine gf_RX5_29 C0 M dX5_newArray_82 ?_
        refine lv_iconst (v := 3) hx hb dX5_newArray_85 (by decide) ?_
        refine lv_aload_n hx hb dX5_newArray_86 rfl (lv_at hl 0 rfl) ?_
        refine gf_RX5_98 C0 M dX5_newArray_87 ?_
        refine lv_imul hx hb dX5_newArray_90 ?_
        refine lv_iload_n hx hb dX5_newArray_91 rfl (lv_at hl 2 rfl) ?_
        refine lv_iadd hx hb dX5_newArray_92 ?_
        refine lv_iload_n hx hb dX5_newArray_93 rfl (lv_at hl 1 rfl) ?_
        refine lv_iconst (v := -1) hx hb dX5_newArray_94 (by decide) ?_
        refine lv_icmp_ne (tgt := 107) hx hb dX5_newArray_95 (by decide) (fun c_17 => ?_) (fun c_17 => ?_)
        · rw [if_neg c_17] at h
          refine lv_aload_n hx hb dX5_newArray_107 rfl (lv_at hl 0 rfl) ?_
          refine gf_RX5_29 C0 M dX5_newArray_108 ?_
          refine lv_iconst (v := 3) hx hb dX5_newArray_111 (by decide) ?_
          refine lv_iload_n hx hb dX5_newArray_112 rfl (lv_at hl 1 rfl) ?_
          refine lv_imul hx hb dX5_newArray_113 ?_
          refine lv_iload_n hx hb dX5_newArray_114 rfl (lv_at hl 2 rfl) ?_
          refine lv_iadd hx hb dX5_newArray_115 ?_
          obtain ⟨hi_18, h⟩ := chk_s h
          refine al_Mhighs C0 M hi_18 dX5_newArray_116 ?_
          obtain ⟨hi_19, h⟩ := chk_s h
          obtain ⟨g_20, hg_21, h⟩ := lett_s h
          refine as_Mhighs C0 M hi_19 hg_21 dX5_newArray_117 (fun H locs M => ?_)
          obtain ⟨x_22, hn_23, h⟩ := lett_s h
          refine lv_iinc (v := x_22) (lv' := [(3, .int x_22), (0, .ref (sb 13)), (2, .int x2)]) hx hb dX5_newArray_118 hl (k := 2) rfl (by rw [hn_23]; rfl) (by decide) rfl (fun ls hl => ?_)
          refine lv_goto (tgt := 39) hx hb dX5_newArray_121 (by decide) ?_
          exact ih _ _ _ _ _ (lv_sub hl [1, 2, 0] rfl) M h
        · rw [if_pos c_17] at h
          refine lv_aload_n hx hb dX5_newArray_98 rfl (lv_at hl 0 rfl) ?_
          refine gf_RX5_17 C0 M dX5_newArray_99 ?_
          refine lv_iload_n hx hb dX5_newArray_102 rfl (lv_at hl 2 rfl) ?_
          obtain ⟨hi_24, h⟩ := chk_s h
          refine al_Mhigh C0 M hi_24 dX5_newArray_103 ?_
          refine lv_goto (tgt := 117) hx hb dX5_newArray_104 (by decide) ?_
          obtain ⟨hi_25, h⟩ := chk_s h
          obtain ⟨g_26, hg_27, h⟩ := lett_s h
          refine as_Mhighs C0 M hi_25 hg_27 dX5_newArray_117 (fun H locs M => ?_)
          obtain ⟨x_28, hn_29, h⟩ := lett_s h
          refine lv_iinc (v := x_28) (lv' := [(3, .int x_28), (0, .ref (sb 13)), (2, .int x2)]) hx hb dX5_newArray_118 hl (k := 2) rfl (by rw [hn_29]; rfl) (by decide) rfl (fun ls hl => ?_)
          refine lv_goto (tgt := 39) hx hb dX5_newArray_121 (by decide) ?_
          exact ih _ _ _ _ _ (lv_sub hl [1, 2, 0] rfl) M h
      · rw [if_pos c_12] at h
        refine lv_aload_n hx hb dX5_newArray_61 rfl (lv_at hl 0 rfl) ?_
        refine gf_RX5_13 C0 M dX5_newArray_62 ?_
        refine lv_iload_n hx hb dX5_newArray_65 rfl (lv_at hl 2 rfl) ?_
        obtain ⟨hi_30, h⟩ := chk_s h
        refine al_Mlow C0 M hi_30 dX5_newArray_66 ?_
        refine lv_goto (tgt := 80) hx hb dX5_newArray_67 (by decide) ?_
        obtain ⟨hi_31, h⟩ := chk_s h
        obtain ⟨g_32, hg_33, h⟩ := lett_s h
        refine as_Mlows C0 M hi_31 hg_33 dX5_newArray_80 (fun H locs M => ?_)
        refine lv_aload_n hx hb dX5_newArray_81 rfl (lv_at hl 0 rfl) ?_
        refine gf_RX5_29 C0 M dX5_newArray_82 ?_
        refine lv_iconst (v := 3) hx hb dX5_newArray_85 (by decide) ?_
        refine lv_aload_n hx hb dX5_newArray_86 rfl (lv_at hl 0 rfl) ?_
        refine gf_RX5_98 C0 M dX5_newArray_87 ?_
        refine lv_imul hx hb dX5_newArray_90 ?_
        refine lv_iload_n hx hb dX5_newArray_91 rfl (lv_at hl 2 rfl) ?_
        refine lv_iadd hx hb dX5_newArray_92 ?_
        refine lv_iload_n hx hb dX5_newArray_93 rfl (lv_at hl 1 rfl) ?_
        refine lv_iconst (v := -1) hx hb dX5_newArray_94 (by decide) ?_
        refine lv_icmp_ne (tgt := 107) hx hb dX5_newArray_95 (by decide) (fun c_34 => ?_) (fun c_34 => ?_)
        · rw [if_neg c_34] at h
          refine lv_aload_n hx hb dX5_newArray_107 rfl (lv_at hl 0 rfl) ?_
          refine gf_RX5_29 C0 M dX5_newArray_108 ?_
          refine lv_iconst (v := 3) hx hb dX5_newArray_111 (by decide) ?_
          refine lv_iload_n hx hb dX5_newArray_112 rfl (lv_at hl 1 rfl) ?_
          refine lv_imul hx hb dX5_newArray_113 ?_
          refine lv_iload_n hx hb dX5_newArray_114 rfl (lv_at hl 2 rfl) ?_
          refine lv_iadd hx hb dX5_newArray_115 ?_
          obtain ⟨hi_35, h⟩ := chk_s h
          refine al_Mhighs C0 M hi_35 dX5_newArray_116 ?_
          obtain ⟨hi_36, h⟩ := chk_s h
          obtain ⟨g_37, hg_38, h⟩ := lett_s h
          refine as_Mhighs C0 M hi_36 hg_38 dX5_newArray_117 (fun H locs M => ?_)
          obtain ⟨x_39, hn_40, h⟩ := lett_s h
          refine lv_iinc (v := x_39) (lv' := [(3, .int x_39), (0, .ref (sb 13)), (2, .int x2)]) hx hb dX5_newArray_118 hl (k := 2) rfl (by rw [hn_40]; rfl) (by decide) rfl (fun ls hl => ?_)
          refine lv_goto (tgt := 39) hx hb dX5_newArray_121 (by decide) ?_
          exact ih _ _ _ _ _ (lv_sub hl [1, 2, 0] rfl) M h
        · rw [if_pos c_34] at h
          refine lv_aload_n hx hb dX5_newArray_98 rfl (lv_at hl 0 rfl) ?_
          refine gf_RX5_17 C0 M dX5_newArray_99 ?_
          refine lv_iload_n hx hb dX5_newArray_102 rfl (lv_at hl 2 rfl) ?_
          obtain ⟨hi_41, h⟩ := chk_s h
          refine al_Mhigh C0 M hi_41 dX5_newArray_103 ?_
          refine lv_goto (tgt := 117) hx hb dX5_newArray_104 (by decide) ?_
          obtain ⟨hi_42, h⟩ := chk_s h
          obtain ⟨g_43, hg_44, h⟩ := lett_s h
          refine as_Mhighs C0 M hi_42 hg_44 dX5_newArray_117 (fun H locs M => ?_)
          obtain ⟨x_45, hn_46, h⟩ := lett_s h
          refine lv_iinc (v := x_45) (lv' := [(3, .int x_45), (0, .ref (sb 13)), (2, .int x2)]) hx hb dX5_newArray_118 hl (k := 2) rfl (by rw [hn_46]; rfl) (by decide) rfl (fun ls hl => ?_)
          refine lv_goto (tgt := 39) hx hb dX5_newArray_121 (by decide) ?_
          exact ih _ _ _ _ _ (lv_sub hl [1, 2, 0] rfl) M h
set_option maxHeartbeats 4000000 in
set_option maxRecDepth 100000 in
theorem w_X5_newArray_J36 {x2 : Int32} {xs1 : Int32} {xs2 : Int32} (C0 : Cx p s m args c cX5_newArray 4 RX5 D cy) (hr : meth.sig.returnType = (some .int)) (hk : meth.locks = false) {res : Int32 × Gs} (hl : lv_has ls 4 [(0, .ref (sb 13)), (2, .int x2)]) (M : Ws D b0 cy sb db g s H locs) (h : m_X5_newArray_J36 x2 xs1 xs2 g = some res) : W p l e ({ frames := 0, cells := 0, slots := 0, locals := 0 } : Room) s m args below meth c H locs 0 0 (MQ below (QX (some (.int res.1)) D b0 cy sb db res.2) args s 0 0 (fun q => b0 ≤ q)) (F0 m 36 ls [.int xs2, .int xs1, .ref (sb 17)]) := by
  obtain ⟨hx, hb, hml, hown, hts, hK⟩ := id C0
  rw [m_X5_newArray_J36] at h
  obtain ⟨hi_6, h⟩ := chk_s h
  obtain ⟨g_7, hg_8, h⟩ := lett_s h
  refine as_Mranks C0 M hi_6 hg_8 dX5_newArray_36 (fun H locs M => ?_)
  refine lv_iconst (v := 0) hx hb dX5_newArray_37 (by decide) ?_
  obtain ⟨x_9, hn_10, h⟩ := lett_s h
  refine nm_i hn_10 ?_
  refine lv_istore_n (lv' := [(3, .int x_9), (0, .ref (sb 13)), (2, .int x2)]) hx hb dX5_newArray_38 rfl hl (by decide) rfl (fun ls hl => ?_)
  obtain ⟨q_50, hq_51, h⟩ := bnd_s h
  refine w_X5_newArray_L39 C0 hr hk (q := q_50) (fun g_47 H locs ls hq hl M => ?_) FU _ _ _ _ _ (lv_sub hl [1, 2, 0] rfl) M hq_51
  subst q_50
  try dsimp only at h
  refine lv_aload_n hx hb dX5_newArray_124 rfl (lv_at hl 0 rfl) ?_
  refine lv_dup hx hb dX5_newArray_125 rfl ?_
  refine gf_RX5_98 C0 M dX5_newArray_126 ?_
  refine lv_iconst (v := 1) hx hb dX5_newArray_129 (by decide) ?_
  refine lv_iadd hx hb dX5_newArray_130 ?_
  obtain ⟨g_48, hg_49, h⟩ := lett_s h
  refine pf_RX5_98 C0 M hg_49 dX5_newArray_131 (fun H locs M => ?_)
  refine lv_aload_n hx hb dX5_newArray_134 rfl (lv_at hl 0 rfl) ?_
  refine gf_RX5_98 C0 M dX5_newArray_135 ?_
  refine lv_iconst (v := 1) hx hb dX5_newArray_138 (by decide) ?_
  refine lv_isub hx hb dX5_newArray_139 ?_
  obtain rfl := Option.some.inj h
  exact rt_i C0 M hr hk dX5_newArray_140
set_option maxHeartbeats 4000000 in
set_option maxRecDepth 100000 in
theorem w_X5_newArray {x1 : Int32} {x2 : Int32} (C0 : Cx p s m args c cX5_newArray 4 RX5 D cy) (hr : meth.sig.returnType = (some .int)) (hk : meth.locks = false) {res : Int32 × Gs} (hl : lv_has ls 4 [(0, .ref (sb 13)), (1, .int x1), (2, .int x2)]) (M : Ws D b0 cy sb db g s H locs) (h : m_X5_newArray x1 x2 g = some res) : W p l e ({ frames := 0, cells := 0, slots := 0, locals := 0 } : Room) s m args below meth c H locs 0 0 (MQ below (QX (some (.int res.1)) D b0 cy sb db res.2) args s 0 0 (fun q => b0 ≤ q)) (F0 m 0 ls []) := by
  obtain ⟨hx, hb, hml, hown, hts, hK⟩ := id C0
  rw [m_X5_newArray] at h
  refine lv_aload_n hx hb dX5_newArray_0 rfl (lv_at hl 0 rfl) ?_
  refine gf_RX5_20 C0 M dX5_newArray_1 ?_
  refine lv_aload_n hx hb dX5_newArray_4 rfl (lv_at hl 0 rfl) ?_
  refine gf_RX5_98 C0 M dX5_newArray_5 ?_
  refine lv_iload_n hx hb dX5_newArray_8 rfl (lv_at hl 1 rfl) ?_
  obtain ⟨hi_1, h⟩ := chk_s h
  obtain ⟨g_2, hg_3, h⟩ := lett_s h
  refine as_Mkinds C0 M hi_1 hg_3 dX5_newArray_9 (fun H locs M => ?_)
  refine lv_aload_n hx hb dX5_newArray_10 rfl (lv_at hl 0 rfl) ?_
  refine gf_RX5_23 C0 M dX5_newArray_11 ?_
  refine lv_aload_n hx hb dX5_newArray_14 rfl (lv_at hl 0 rfl) ?_
  refine gf_RX5_98 C0 M dX5_newArray_15 ?_
  refine lv_iload_n hx hb dX5_newArray_18 rfl (lv_at hl 2 rfl) ?_
  refine lv_iconst (v := -1) hx hb dX5_newArray_19 (by decide) ?_
  refine lv_icmp_ne (tgt := 30) hx hb dX5_newArray_20 (by decide) (fun c_4 => ?_) (fun c_4 => ?_)
  · rw [if_neg c_4] at h
    refine lv_aload_n hx hb dX5_newArray_30 rfl (lv_at hl 0 rfl) ?_
    refine gf_RX5_23 C0 M dX5_newArray_31 ?_
    refine lv_iload_n hx hb dX5_newArray_34 rfl (lv_at hl 2 rfl) ?_
    obtain ⟨hi_5, h⟩ := chk_s h
    refine al_Mranks C0 M hi_5 dX5_newArray_35 ?_
    exact w_X5_newArray_J36 C0 hr hk (lv_sub hl [0, 2] rfl) M h
  · rw [if_pos c_4] at h
    refine lv_aload_n hx hb dX5_newArray_23 rfl (lv_at hl 0 rfl) ?_
    refine gf_RX5_72 C0 M dX5_newArray_24 ?_
    refine lv_goto (tgt := 36) hx hb dX5_newArray_27 (by decide) ?_
    exact w_X5_newArray_J36 C0 hr hk (lv_sub hl [0, 2] rfl) M h
theorem k_X5_newArray {x1 : Int32} {x2 : Int32} {res : Int32 × Gs} (h : m_X5_newArray x1 x2 g = some res) : CM l yX5_newArray cX5_newArray 4 (some .int) ({ frames := 0, cells := 0, slots := 0, locals := 0 } : Room) [.ref (sb 13), .int x1, .int x2] (some (.int res.1)) D b0 cy sb db g res.2 := by
  refine Met.ofW (cc := cX5_newArray) (maxL := 4) (ret := (some .int)) (by decide) rfl ?_
  intro p e s m args below meth c s₁ B hml hv
  obtain ⟨rfl, hW, hK⟩ := hv
  have hl := lv_entry [.ref (sb 13), .int x1, .int x2] (n := 4) (Nat.le_of_ble_eq_true rfl)
  rw [lg_entry_eq]
  generalize (lg_sl [.ref (sb 13), .int x1, .int x2] ++ List.replicate (4 - (lg_sl [.ref (sb 13), .int x1, .int x2]).length) Slot.unset).toArray = ls at hl ⊢
  have hl : lv_has ls 4 [(0, .ref (sb 13)), (1, .int x1), (2, .int x2)] := hl
  exact w_X5_newArray ⟨B.exec, B.bytes, hml, findClass_of_methodNamed B.named, fun w hw => atoms_spec (ws := Cond.code yX5_newArray cX5_newArray 4 (some .int) :: wsL_law) B.pre w (List.mem_cons_of_mem _ hw), hK⟩ B.returns B.notSynchronized hl ⟨hW, va_S.rf⟩ h
theorem Y_X5_newArray : Yv yX5_newArray RX5 cX5_newArray 4 (some .int) 2 := ⟨⟨kw_12_12, kw_1_5, by decide +kernel, by decide +kernel, by decide +kernel⟩, kw_12_10, kw_12_11⟩
-- X5_newTable
def m_X5_newTable_L37 (x2 : Int32) (x3 : Int32) : Nat → Int32 → Gs → Option (Gs)
  | 0, _, _ => none
  | fu + 1, x4, g =>
  if x2 ≤ x4 then (some g) else ((m_X5_newRow x3 g).bind fun (x_17, g_18) => chk (inb (g.1 37 0 0) 12100) (lett (sI g_18 38 0 (g.1 37 0 0).toNatClampNeg x_17) fun g_20 => lett (sI g_20 37 0 0 ((g_20.1 37 0 0) + (1 : Int32))) fun g_22 => lett (x4 + 1) fun x_24 => m_X5_newTable_L37 x2 x3 fu x_24 g_22))
def m_X5_newTable_J32 (x2 : Int32) (ys0 : Int64) (g : Gs) : Option (Gs) :=
  lett ys0.toInt32 fun x_11 => lett (0 : Int32) fun x_13 => (m_X5_newTable_L37 x2 x_11 FU x_13 g).bind fun g_26 => some g_26
def m_X5_newTable (x1 : Int32) (g : Gs) : Option (Gs) :=
  chk (inb x1 24) (lett (sI g 30 0 x1.toNatClampNeg (g.1 37 0 0)) fun g_2 => (m_X5_lengthOf x1 (0 : Int32) g_2).bind fun y_5 => lett y_5.toInt32 fun x_6 => if x_6 = 0 then (m_X5_newTable_J32 x_6 (0 : Int64) g_2) else ((m_X5_lengthOf x1 (1 : Int32) g_2).bind fun y_10 => m_X5_newTable_J32 x_6 y_10 g_2))
set_option maxHeartbeats 4000000 in
set_option maxRecDepth 100000 in
theorem w_X5_newTable_L37 {x2 : Int32} {x3 : Int32} (C0 : Cx p s m args c cX5_newTable 5 RX5 D cy) (hr : meth.sig.returnType = none) (hk : meth.locks = false) {res : Gs} {q : Gs} (kk : ∀ (g : Gs) (H : Heap) (locs : List Loc) (ls : Array Slot), q = g → lv_has ls 5 [] → Ws D b0 cy sb db g s H locs → W p l e ({ frames := 2, cells := 0, slots := 0, locals := 45 } : Room) s m args below meth c H locs 0 0 (MQ below (QX none D b0 cy sb db res) args s 0 0 (fun q => b0 ≤ q)) (F0 m 73 ls [])) : ∀ (fu : Nat) (x4 : Int32) (g : Gs) (H : Heap) (locs : List Loc) (ls : Array Slot), lv_has ls 5 [(0, .ref (sb 13)), (2, .int x2), (3, .int x3), (4, .int x4)] → Ws D b0 cy sb db g s H locs → m_X5_newTable_L37 x2 x3 fu x4 g = some q → W p l e ({ frames := 2, cells := 0, slots := 0, locals := 45 } : Room) s m args below meth c H locs 0 0 (MQ below (QX none D b0 cy sb db res) args s 0 0 (fun q => b0 ≤ q)) (F0 m 37 ls []) := by
  obtain ⟨hx, hb, hml, hown, hts, hK⟩ := id C0
  intro fu
  induction fu with
  | zero =>
    intro x4 g H locs ls hl M h
    cases h
  | succ fu ih =>
    intro x4 g H locs ls hl M h
    rw [m_X5_newTable_L37] at h
    refine lv_iload hx hb dX5_newTable_37 (lv_at hl 3 rfl) ?_
    refine lv_iload_n hx hb dX5_newTable_39 rfl (lv_at hl 1 rfl) ?_
    refine lv_icmp_ge (tgt := 73) hx hb dX5_newTable_40 (by decide) (fun c_15 => ?_) (fun c_15 => ?_)
    · rw [if_pos c_15] at h
      exact kk _ _ _ _ (Option.some.inj h).symm (lv_sub hl [] rfl) M
    · rw [if_neg c_15] at h
      refine lv_aload_n hx hb dX5_newTable_43 rfl (lv_at hl 0 rfl) ?_
      refine gf_RX5_50 C0 M dX5_newTable_44 ?_
      refine lv_aload_n hx hb dX5_newTable_47 rfl (lv_at hl 0 rfl) ?_
      refine gf_RX5_105 C0 M dX5_newTable_48 ?_
      refine lv_aload_n hx hb dX5_newTable_51 rfl (lv_at hl 0 rfl) ?_
      refine lv_iload_n hx hb dX5_newTable_52 rfl (lv_at hl 2 rfl) ?_
      obtain ⟨⟨x_17, g_18⟩, hc_16, h⟩ := bnd_s h
      try dsimp only at h
      refine kV (As := [.int x3]) (rest := [.int (g.1 37 0 0), .ref (sb 25)]) (stk := [.int x_17, .int (g.1 37 0 0), .ref (sb 25)]) (val := (some (.int x_17))) (c1 := 0) (s1 := 0) C0 M (k_X5_newRow hc_16) kw_12_22 Y_X5_newRow (rv_X5 C0 M) ⟨Nat.le_of_ble_eq_true rfl, Nat.le_of_ble_eq_true rfl⟩ rfl hl.1 rfl (Nat.le_of_ble_eq_true rfl) dX5_newTable_53 rfl rfl ⟨Nat.le_refl _, Nat.le_refl _⟩ rfl (fun H locs M => ?_)
      obtain ⟨hi_19, h⟩ := chk_s h
      obtain ⟨g_20, hg_21, h⟩ := lett_s h
      refine as_Mslot C0 M hi_19 hg_21 dX5_newTable_56 (fun H locs M => ?_)
      refine lv_aload_n hx hb dX5_newTable_57 rfl (lv_at hl 0 rfl) ?_
      refine lv_dup hx hb dX5_newTable_58 rfl ?_
      refine gf_RX5_105 C0 M dX5_newTable_59 ?_
      refine lv_iconst (v := 1) hx hb dX5_newTable_62 (by decide) ?_
      refine lv_iadd hx hb dX5_newTable_63 ?_
      obtain ⟨g_22, hg_23, h⟩ := lett_s h
      refine pf_RX5_105 C0 M hg_23 dX5_newTable_64 (fun H locs M => ?_)
      obtain ⟨x_24, hn_25, h⟩ := lett_s h
      refine lv_iinc (v := x_24) (lv' := [(4, .int x_24), (0, .ref (sb 13)), (2, .int x2), (3, .int x3)]) hx hb dX5_newTable_67 hl (k := 3) rfl (by rw [hn_25]; rfl) (by decide) rfl (fun ls hl => ?_)
      refine lv_goto (tgt := 37) hx hb dX5_newTable_70 (by decide) ?_
      exact ih _ _ _ _ _ (lv_sub hl [1, 2, 3, 0] rfl) M h
set_option maxHeartbeats 4000000 in
set_option maxRecDepth 100000 in
theorem w_X5_newTable_J32 {x2 : Int32} {ys0 : Int64} (C0 : Cx p s m args c cX5_newTable 5 RX5 D cy) (hr : meth.sig.returnType = none) (hk : meth.locks = false) {res : Gs} (hl : lv_has ls 5 [(0, .ref (sb 13)), (2, .int x2)]) (M : Ws D b0 cy sb db g s H locs) (h : m_X5_newTable_J32 x2 ys0 g = some res) : W p l e ({ frames := 2, cells := 0, slots := 0, locals := 45 } : Room) s m args below meth c H locs 0 0 (MQ below (QX none D b0 cy sb db res) args s 0 0 (fun q => b0 ≤ q)) (F0 m 32 ls [.long ys0]) := by
  obtain ⟨hx, hb, hml, hown, hts, hK⟩ := id C0
  rw [m_X5_newTable_J32] at h
  refine lv_l2i hx hb dX5_newTable_32 rfl ?_
  obtain ⟨x_11, hn_12, h⟩ := lett_s h
  refine nm_i hn_12 ?_
  refine lv_istore_n (lv' := [(3, .int x_11), (0, .ref (sb 13)), (2, .int x2)]) hx hb dX5_newTable_33 rfl hl (by decide) rfl (fun ls hl => ?_)
  refine lv_iconst (v := 0) hx hb dX5_newTable_34 (by decide) ?_
  obtain ⟨x_13, hn_14, h⟩ := lett_s h
  refine nm_i hn_14 ?_
  refine lv_istore (lv' := [(4, .int x_13), (3, .int x_11), (0, .ref (sb 13)), (2, .int x2)]) hx hb dX5_newTable_35 hl (by decide) rfl (fun ls hl => ?_)
  obtain ⟨q_27, hq_28, h⟩ := bnd_s h
  refine w_X5_newTable_L37 C0 hr hk (q := q_27) (fun g_26 H locs ls hq hl M => ?_) FU _ _ _ _ _ (lv_sub hl [2, 3, 1, 0] rfl) M hq_28
  subst q_27
  try dsimp only at h
  obtain rfl := Option.some.inj h
  exact rt_v C0 M hr hk dX5_newTable_73
set_option maxHeartbeats 4000000 in
set_option maxRecDepth 100000 in
theorem w_X5_newTable {x1 : Int32} (C0 : Cx p s m args c cX5_newTable 5 RX5 D cy) (hr : meth.sig.returnType = none) (hk : meth.locks = false) {res : Gs} (hl : lv_has ls 5 [(0, .ref (sb 13)), (1, .int x1)]) (M : Ws D b0 cy sb db g s H locs) (h : m_X5_newTable x1 g = some res) : W p l e ({ frames := 2, cells := 0, slots := 0, locals := 45 } : Room) s m args below meth c H locs 0 0 (MQ below (QX none D b0 cy sb db res) args s 0 0 (fun q => b0 ≤ q)) (F0 m 0 ls []) := by
  obtain ⟨hx, hb, hml, hown, hts, hK⟩ := id C0
  rw [m_X5_newTable] at h
  refine lv_aload_n hx hb dX5_newTable_0 rfl (lv_at hl 0 rfl) ?_
  refine gf_RX5_32 C0 M dX5_newTable_1 ?_
  refine lv_iload_n hx hb dX5_newTable_4 rfl (lv_at hl 1 rfl) ?_
  refine lv_aload_n hx hb dX5_newTable_5 rfl (lv_at hl 0 rfl) ?_
  refine gf_RX5_105 C0 M dX5_newTable_6 ?_
  obtain ⟨hi_1, h⟩ := chk_s h
  obtain ⟨g_2, hg_3, h⟩ := lett_s h
  refine as_MrowOf C0 M hi_1 hg_3 dX5_newTable_9 (fun H locs M => ?_)
  refine lv_aload_n hx hb dX5_newTable_10 rfl (lv_at hl 0 rfl) ?_
  refine lv_iload_n hx hb dX5_newTable_11 rfl (lv_at hl 1 rfl) ?_
  refine lv_iconst (v := 0) hx hb dX5_newTable_12 (by decide) ?_
  obtain ⟨y_5, hc_4, h⟩ := bnd_s h
  refine kV (As := [.int x1, .int (0 : Int32)]) (rest := []) (stk := [.long y_5]) (val := (some (.long y_5))) (c1 := 0) (s1 := 0) C0 M (k_X5_lengthOf hc_4) kw_12_18 Y_X5_lengthOf (rv_X5 C0 M) ⟨Nat.le_of_ble_eq_true rfl, Nat.le_of_ble_eq_true rfl⟩ rfl hl.1 rfl (Nat.le_of_ble_eq_true rfl) dX5_newTable_13 rfl rfl ⟨Nat.le_refl _, Nat.le_refl _⟩ rfl (fun H locs M => ?_)
  refine lv_l2i hx hb dX5_newTable_16 rfl ?_
  obtain ⟨x_6, hn_7, h⟩ := lett_s h
  refine nm_i hn_7 ?_
  refine lv_istore_n (lv' := [(2, .int x_6), (0, .ref (sb 13)), (1, .int x1)]) hx hb dX5_newTable_17 rfl hl (by decide) rfl (fun ls hl => ?_)
  refine lv_iload_n hx hb dX5_newTable_18 rfl (lv_at hl 0 rfl) ?_
  refine lv_if_ne (tgt := 26) hx hb dX5_newTable_19 (by decide) (fun c_8 => ?_) (fun c_8 => ?_)
  · rw [if_neg c_8] at h
    refine lv_aload_n hx hb dX5_newTable_26 rfl (lv_at hl 1 rfl) ?_
    refine lv_iload_n hx hb dX5_newTable_27 rfl (lv_at hl 2 rfl) ?_
    refine lv_iconst (v := 1) hx hb dX5_newTable_28 (by decide) ?_
    obtain ⟨y_10, hc_9, h⟩ := bnd_s h
    refine kV (As := [.int x1, .int (1 : Int32)]) (rest := []) (stk := [.long y_10]) (val := (some (.long y_10))) (c1 := 0) (s1 := 0) C0 M (k_X5_lengthOf hc_9) kw_12_18 Y_X5_lengthOf (rv_X5 C0 M) ⟨Nat.le_of_ble_eq_true rfl, Nat.le_of_ble_eq_true rfl⟩ rfl hl.1 rfl (Nat.le_of_ble_eq_true rfl) dX5_newTable_29 rfl rfl ⟨Nat.le_refl _, Nat.le_refl _⟩ rfl (fun H locs M => ?_)
    exact w_X5_newTable_J32 C0 hr hk (lv_sub hl [1, 0] rfl) M h
  · rw [if_pos c_8] at h
    refine lv_lconst (v := 0) hx hb dX5_newTable_22 (by decide) ?_
    refine lv_goto (tgt := 32) hx hb dX5_newTable_23 (by decide) ?_
    exact w_X5_newTable_J32 C0 hr hk (lv_sub hl [1, 0] rfl) M h
theorem k_X5_newTable {x1 : Int32} {res : Gs} (h : m_X5_newTable x1 g = some res) : CM l yX5_newTable cX5_newTable 5 none ({ frames := 2, cells := 0, slots := 0, locals := 45 } : Room) [.ref (sb 13), .int x1] none D b0 cy sb db g res := by
  refine Met.ofW (cc := cX5_newTable) (maxL := 5) (ret := none) (by decide) rfl ?_
  intro p e s m args below meth c s₁ B hml hv
  obtain ⟨rfl, hW, hK⟩ := hv
  have hl := lv_entry [.ref (sb 13), .int x1] (n := 5) (Nat.le_of_ble_eq_true rfl)
  rw [lg_entry_eq]
  generalize (lg_sl [.ref (sb 13), .int x1] ++ List.replicate (5 - (lg_sl [.ref (sb 13), .int x1]).length) Slot.unset).toArray = ls at hl ⊢
  have hl : lv_has ls 5 [(0, .ref (sb 13)), (1, .int x1)] := hl
  exact w_X5_newTable ⟨B.exec, B.bytes, hml, findClass_of_methodNamed B.named, fun w hw => atoms_spec (ws := Cond.code yX5_newTable cX5_newTable 5 none :: wsL_law) B.pre w (List.mem_cons_of_mem _ hw), hK⟩ B.returns B.notSynchronized hl ⟨hW, va_S.rf⟩ h
theorem Y_X5_newTable : Yv yX5_newTable RX5 cX5_newTable 5 none 1 := ⟨⟨kw_12_16, kw_1_5, by decide +kernel, by decide +kernel, by decide +kernel⟩, kw_12_14, kw_12_15⟩
-- X5_make
def m_X5_make_J35  (g : Gs) : Option (Int32 × Gs) :=
  (m_X5_no (9 : Int32) g).bind fun (x_6, g_7) => some (x_6, g_7)
def m_X5_make_J81  (g : Gs) : Option (Int32 × Gs) :=
  (m_X5_no (5 : Int32) g).bind fun (x_13, g_14) => some (x_13, g_14)
def m_X5_make_J134 (x3 : Int32) (g : Gs) : Option (Int32 × Gs) :=
  lett (sI g 22 0 0 (0 : Int32)) fun g_27 => (m_X5_yes x3 g_27).bind fun (x_30, g_31) => some (x_30, g_31)
def m_X5_make_J87 (x1 : Int32) (x2 : Int32) (g : Gs) : Option (Int32 × Gs) :=
  if (g.1 25 0 0) = (24 : Int32) then ((m_X5_no (8 : Int32) g).bind fun (x_35, g_36) => some (x_35, g_36)) else ((m_X5_newArray x1 (-1 : Int32) g).bind fun (x_18, g_19) => if x1 = (4 : Int32) then ((m_X5_newTable x_18 g_19).bind fun g_33 => m_X5_make_J134 x_18 g_33) else ((m_X5_newRow x2 g_19).bind fun (x_22, g_23) => chk (inb x_18 24) (lett (sI g_23 30 0 x_18.toNatClampNeg x_22) fun g_25 => m_X5_make_J134 x_18 g_25)))
def m_X5_make_J42 (x1 : Int32) (g : Gs) : Option (Int32 × Gs) :=
  (m_X5_shapeItems  g).bind fun x_10 => if (500 : Int32) < x_10 then (m_X5_make_J81  g) else (if x1 = (4 : Int32) then (chk (inb (0 : Int32) 3) (chk (inb (0 : Int32) 3) ((m_X5_length (g.1 23 0 (0 : Int32).toNatClampNeg) (g.1 24 0 (0 : Int32).toNatClampNeg) g).bind fun y_40 => if (lg_cmp y_40 (500 : Int64)) ≤ 0 then (m_X5_make_J87 x1 x_10 g) else (m_X5_make_J81  g)))) else (m_X5_make_J87 x1 x_10 g))
def m_X5_make (x1 : Int32) (g : Gs) : Option (Int32 × Gs) :=
  (m_X5_within x1.toInt64 (0 : Int64) (4 : Int64) g).bind fun x_2 => if x_2 = 0 then (some ((-2000000001 : Int32), g)) else (if (g.1 22 0 0) = 0 then (m_X5_make_J35  g) else (if x1 = (4 : Int32) then (if (g.1 22 0 0) = (2 : Int32) then (m_X5_make_J42 x1 g) else (m_X5_make_J35  g)) else (m_X5_make_J42 x1 g)))
set_option maxHeartbeats 4000000 in
set_option maxRecDepth 100000 in
theorem w_X5_make_J35  (C0 : Cx p s m args c cX5_make 4 RX5 D cy) (hr : meth.sig.returnType = (some .int)) (hk : meth.locks = false) {res : Int32 × Gs} (hl : lv_has ls 4 [(0, .ref (sb 13))]) (M : Ws D b0 cy sb db g s H locs) (h : m_X5_make_J35  g = some res) : W p l e ({ frames := 3, cells := 0, slots := 0, locals := 69 } : Room) s m args below meth c H locs 0 0 (MQ below (QX (some (.int res.1)) D b0 cy sb db res.2) args s 0 0 (fun q => b0 ≤ q)) (F0 m 35 ls []) := by
  obtain ⟨hx, hb, hml, hown, hts, hK⟩ := id C0
  rw [m_X5_make_J35] at h
  refine lv_aload_n hx hb dX5_make_35 rfl (lv_at hl 0 rfl) ?_
  refine lv_bipush (v := 9) hx hb dX5_make_36 (by decide) ?_
  obtain ⟨⟨x_6, g_7⟩, hc_5, h⟩ := bnd_s h
  try dsimp only at h
  refine kV (As := [.int (9 : Int32)]) (rest := []) (stk := [.int x_6]) (val := (some (.int x_6))) (c1 := 0) (s1 := 0) C0 M (k_X5_no hc_5) kw_6_8 Y_X5_no (rv_X5 C0 M) ⟨Nat.le_of_ble_eq_true rfl, Nat.le_of_ble_eq_true rfl⟩ rfl hl.1 rfl (Nat.le_of_ble_eq_true rfl) dX5_make_38 rfl rfl ⟨Nat.le_refl _, Nat.le_refl _⟩ rfl (fun H locs M => ?_)
  obtain rfl := Option.some.inj h
  exact rt_i C0 M hr hk dX5_make_41
set_option maxHeartbeats 4000000 in
set_option maxRecDepth 100000 in
theorem w_X5_make_J81  (C0 : Cx p s m args c cX5_make 4 RX5 D cy) (hr : meth.sig.returnType = (some .int)) (hk : meth.locks = false) {res : Int32 × Gs} (hl : lv_has ls 4 [(0, .ref (sb 13))]) (M : Ws D b0 cy sb db g s H locs) (h : m_X5_make_J81  g = some res) : W p l e ({ frames := 3, cells := 0, slots := 0, locals := 69 } : Room) s m args below meth c H locs 0 0 (MQ below (QX (some (.int res.1)) D b0 cy sb db res.2) args s 0 0 (fun q => b0 ≤ q)) (F0 m 81 ls []) := by
  obtain ⟨hx, hb, hml, hown, hts, hK⟩ := id C0
  rw [m_X5_make_J81] at h
  refine lv_aload_n hx hb dX5_make_81 rfl (lv_at hl 0 rfl) ?_
  refine lv_iconst (v := 5) hx hb dX5_make_82 (by decide) ?_
  obtain ⟨⟨x_13, g_14⟩, hc_12, h⟩ := bnd_s h
  try dsimp only at h
  refine kV (As := [.int (5 : Int32)]) (rest := []) (stk := [.int x_13]) (val := (some (.int x_13))) (c1 := 0) (s1 := 0) C0 M (k_X5_no hc_12) kw_6_8 Y_X5_no (rv_X5 C0 M) ⟨Nat.le_of_ble_eq_true rfl, Nat.le_of_ble_eq_true rfl⟩ rfl hl.1 rfl (Nat.le_of_ble_eq_true rfl) dX5_make_83 rfl rfl ⟨Nat.le_refl _, Nat.le_refl _⟩ rfl (fun H locs M => ?_)
  obtain rfl := Option.some.inj h
  exact rt_i C0 M hr hk dX5_make_86
set_option maxHeartbeats 4000000 in
set_option maxRecDepth 100000 in
theorem w_X5_make_J134 {x3 : Int32} (C0 : Cx p s m args c cX5_make 4 RX5 D cy) (hr : meth.sig.returnType = (some .int)) (hk : meth.locks = false) {res : Int32 × Gs} (hl : lv_has ls 4 [(0, .ref (sb 13)), (3, .int x3)]) (M : Ws D b0 cy sb db g s H locs) (h : m_X5_make_J134 x3 g = some res) : W p l e ({ frames := 3, cells := 0, slots := 0, locals := 69 } : Room) s m args below meth c H locs 0 0 (MQ below (QX (some (.int res.1)) D b0 cy sb db res.2) args s 0 0 (fun q => b0 ≤ q)) (F0 m 134 ls []) := by
  obtain ⟨hx, hb, hml, hown, hts, hK⟩ := id C0
  rw [m_X5_make_J134] at h
  refine lv_aload_n hx hb dX5_make_134 rfl (lv_at hl 0 rfl) ?_
  refine lv_iconst (v := 0) hx hb dX5_make_135 (by decide) ?_
  obtain ⟨g_27, hg_28, h⟩ := lett_s h
  refine pf_RX5_72 C0 M hg_28 dX5_make_136 (fun H locs M => ?_)
  refine lv_aload_n hx hb dX5_make_139 rfl (lv_at hl 0 rfl) ?_
  refine lv_iload_n hx hb dX5_make_140 rfl (lv_at hl 1 rfl) ?_
  obtain ⟨⟨x_30, g_31⟩, hc_29, h⟩ := bnd_s h
  try dsimp only at h
  refine kV (As := [.int x3]) (rest := []) (stk := [.int x_30]) (val := (some (.int x_30))) (c1 := 0) (s1 := 0) C0 M (k_X5_yes hc_29) kw_6_12 Y_X5_yes (rv_X5 C0 M) ⟨Nat.le_of_ble_eq_true rfl, Nat.le_of_ble_eq_true rfl⟩ rfl hl.1 rfl (Nat.le_of_ble_eq_true rfl) dX5_make_141 rfl rfl ⟨Nat.le_refl _, Nat.le_refl _⟩ rfl (fun H locs M => ?_)
  obtain rfl := Option.some.inj h
  exact rt_i C0 M hr hk dX5_make_144
set_option maxHeartbeats 4000000 in
set_option maxRecDepth 100000 in
theorem w_X5_make_J87 {x1 : Int32} {x2 : Int32} (C0 : Cx p s m args c cX5_make 4 RX5 D cy) (hr : meth.sig.returnType = (some .int)) (hk : meth.locks = false) {res : Int32 × Gs} (hl : lv_has ls 4 [(0, .ref (sb 13)), (1, .int x1), (2, .int x2)]) (M : Ws D b0 cy sb db g s H locs) (h : m_X5_make_J87 x1 x2 g = some res) : W p l e ({ frames := 3, cells := 0, slots := 0, locals := 69 } : Room) s m args below meth c H locs 0 0 (MQ below (QX (some (.int res.1)) D b0 cy sb db res.2) args s 0 0 (fun q => b0 ≤ q)) (F0 m 87 ls []) := by
  obtain ⟨hx, hb, hml, hown, hts, hK⟩ := id C0
  rw [m_X5_make_J87] at h
  refine lv_aload_n hx hb dX5_make_87 rfl (lv_at hl 0 rfl) ?_
  refine gf_RX5_98 C0 M dX5_make_88 ?_
  refine lv_bipush (v := 24) hx hb dX5_make_91 (by decide) ?_
  refine lv_icmp_ne (tgt := 103) hx hb dX5_make_93 (by decide) (fun c_16 => ?_) (fun c_16 => ?_)
  · rw [if_neg c_16] at h
    refine lv_aload_n hx hb dX5_make_103 rfl (lv_at hl 0 rfl) ?_
    refine lv_iload_n hx hb dX5_make_104 rfl (lv_at hl 1 rfl) ?_
    refine lv_iconst (v := -1) hx hb dX5_make_105 (by decide) ?_
    obtain ⟨⟨x_18, g_19⟩, hc_17, h⟩ := bnd_s h
    try dsimp only at h
    refine kV (As := [.int x1, .int (-1 : Int32)]) (rest := []) (stk := [.int x_18]) (val := (some (.int x_18))) (c1 := 0) (s1 := 0) C0 M (k_X5_newArray hc_17) kw_12_9 Y_X5_newArray (rv_X5 C0 M) ⟨Nat.le_of_ble_eq_true rfl, Nat.le_of_ble_eq_true rfl⟩ rfl hl.1 rfl (Nat.le_of_ble_eq_true rfl) dX5_make_106 rfl rfl ⟨Nat.le_refl _, Nat.le_refl _⟩ rfl (fun H locs M => ?_)
    refine lv_istore_n (lv' := [(3, .int x_18), (0, .ref (sb 13)), (1, .int x1), (2, .int x2)]) hx hb dX5_make_109 rfl hl (by decide) rfl (fun ls hl => ?_)
    refine lv_iload_n hx hb dX5_make_110 rfl (lv_at hl 2 rfl) ?_
    refine lv_iconst (v := 4) hx hb dX5_make_111 (by decide) ?_
    refine lv_icmp_ne (tgt := 123) hx hb dX5_make_112 (by decide) (fun c_20 => ?_) (fun c_20 => ?_)
    · rw [if_neg c_20] at h
      refine lv_aload_n hx hb dX5_make_123 rfl (lv_at hl 1 rfl) ?_
      refine gf_RX5_32 C0 M dX5_make_124 ?_
      refine lv_iload_n hx hb dX5_make_127 rfl (lv_at hl 0 rfl) ?_
      refine lv_aload_n hx hb dX5_make_128 rfl (lv_at hl 1 rfl) ?_
      refine lv_iload_n hx hb dX5_make_129 rfl (lv_at hl 3 rfl) ?_
      obtain ⟨⟨x_22, g_23⟩, hc_21, h⟩ := bnd_s h
      try dsimp only at h
      refine kV (As := [.int x2]) (rest := [.int x_18, .ref (sb 20)]) (stk := [.int x_22, .int x_18, .ref (sb 20)]) (val := (some (.int x_22))) (c1 := 0) (s1 := 0) C0 M (k_X5_newRow hc_21) kw_12_22 Y_X5_newRow (rv_X5 C0 M) ⟨Nat.le_of_ble_eq_true rfl, Nat.le_of_ble_eq_true rfl⟩ rfl hl.1 rfl (Nat.le_of_ble_eq_true rfl) dX5_make_130 rfl rfl ⟨Nat.le_refl _, Nat.le_refl _⟩ rfl (fun H locs M => ?_)
      obtain ⟨hi_24, h⟩ := chk_s h
      obtain ⟨g_25, hg_26, h⟩ := lett_s h
      refine as_MrowOf C0 M hi_24 hg_26 dX5_make_133 (fun H locs M => ?_)
      exact w_X5_make_J134 C0 hr hk (lv_sub hl [1, 0] rfl) M h
    · rw [if_pos c_20] at h
      refine lv_aload_n hx hb dX5_make_115 rfl (lv_at hl 1 rfl) ?_
      refine lv_iload_n hx hb dX5_make_116 rfl (lv_at hl 0 rfl) ?_
      obtain ⟨g_33, hc_32, h⟩ := bnd_s h
      refine kV (As := [.int x_18]) (rest := []) (stk := []) (val := none) (c1 := 0) (s1 := 0) C0 M (k_X5_newTable hc_32) kw_12_13 Y_X5_newTable (rv_X5 C0 M) ⟨Nat.le_of_ble_eq_true rfl, Nat.le_of_ble_eq_true rfl⟩ rfl hl.1 rfl (Nat.le_of_ble_eq_true rfl) dX5_make_117 rfl rfl ⟨Nat.le_refl _, Nat.le_refl _⟩ rfl (fun H locs M => ?_)
      refine lv_goto (tgt := 134) hx hb dX5_make_120 (by decide) ?_
      exact w_X5_make_J134 C0 hr hk (lv_sub hl [1, 0] rfl) M h
  · rw [if_pos c_16] at h
    refine lv_aload_n hx hb dX5_make_96 rfl (lv_at hl 0 rfl) ?_
    refine lv_bipush (v := 8) hx hb dX5_make_97 (by decide) ?_
    obtain ⟨⟨x_35, g_36⟩, hc_34, h⟩ := bnd_s h
    try dsimp only at h
    refine kV (As := [.int (8 : Int32)]) (rest := []) (stk := [.int x_35]) (val := (some (.int x_35))) (c1 := 0) (s1 := 0) C0 M (k_X5_no hc_34) kw_6_8 Y_X5_no (rv_X5 C0 M) ⟨Nat.le_of_ble_eq_true rfl, Nat.le_of_ble_eq_true rfl⟩ rfl hl.1 rfl (Nat.le_of_ble_eq_true rfl) dX5_make_99 rfl rfl ⟨Nat.le_refl _, Nat.le_refl _⟩ rfl (fun H locs M => ?_)
    obtain rfl := Option.some.inj h
    exact rt_i C0 M hr hk dX5_make_102
set_option maxHeartbeats 4000000 in
set_option maxRecDepth 100000 in
theorem w_X5_make_J42 {x1 : Int32} (C0 : Cx p s m args c cX5_make 4 RX5 D cy) (hr : meth.sig.returnType = (some .int)) (hk : meth.locks = false) {res : Int32 × Gs} (hl : lv_has ls 4 [(0, .ref (sb 13)), (1, .int x1)]) (M : Ws D b0 cy sb db g s H locs) (h : m_X5_make_J42 x1 g = some res) : W p l e ({ frames := 3, cells := 0, slots := 0, locals := 69 } : Room) s m args below meth c H locs 0 0 (MQ below (QX (some (.int res.1)) D b0 cy sb db res.2) args s 0 0 (fun q => b0 ≤ q)) (F0 m 42 ls []) := by
  obtain ⟨hx, hb, hml, hown, hts, hK⟩ := id C0
  rw [m_X5_make_J42] at h
  refine lv_aload_n hx hb dX5_make_42 rfl (lv_at hl 0 rfl) ?_
  obtain ⟨x_10, hc_9, h⟩ := bnd_s h
  refine kV (As := []) (rest := []) (stk := [.int x_10]) (val := (some (.int x_10))) (c1 := 0) (s1 := 0) C0 M (k_X5_shapeItems hc_9) kw_12_1 Y_X5_shapeItems (rv_X5 C0 M) ⟨Nat.le_of_ble_eq_true rfl, Nat.le_of_ble_eq_true rfl⟩ rfl hl.1 rfl (Nat.le_of_ble_eq_true rfl) dX5_make_43 rfl rfl ⟨Nat.le_refl _, Nat.le_refl _⟩ rfl (fun H locs M => ?_)
  refine lv_istore_n (lv' := [(2, .int x_10), (0, .ref (sb 13)), (1, .int x1)]) hx hb dX5_make_46 rfl hl (by decide) rfl (fun ls hl => ?_)
  refine lv_iload_n hx hb dX5_make_47 rfl (lv_at hl 0 rfl) ?_
  refine lv_sipush (v := 500) hx hb dX5_make_48 (by decide) ?_
  refine lv_icmp_gt (tgt := 81) hx hb dX5_make_51 (by decide) (fun c_11 => ?_) (fun c_11 => ?_)
  · rw [if_pos c_11] at h
    exact w_X5_make_J81 C0 hr hk (lv_sub hl [1] rfl) M h
  · rw [if_neg c_11] at h
    refine lv_iload_n hx hb dX5_make_54 rfl (lv_at hl 2 rfl) ?_
    refine lv_iconst (v := 4) hx hb dX5_make_55 (by decide) ?_
    refine lv_icmp_ne (tgt := 87) hx hb dX5_make_56 (by decide) (fun c_15 => ?_) (fun c_15 => ?_)
    · rw [if_neg c_15] at h
      exact w_X5_make_J87 C0 hr hk (lv_sub hl [1, 2, 0] rfl) M h
    · rw [if_pos c_15] at h
      refine lv_aload_n hx hb dX5_make_59 rfl (lv_at hl 1 rfl) ?_
      refine gf_RX5_13 C0 M dX5_make_60 ?_
      refine lv_iconst (v := 0) hx hb dX5_make_63 (by decide) ?_
      obtain ⟨hi_37, h⟩ := chk_s h
      refine al_Mlow C0 M hi_37 dX5_make_64 ?_
      refine lv_aload_n hx hb dX5_make_65 rfl (lv_at hl 1 rfl) ?_
      refine gf_RX5_17 C0 M dX5_make_66 ?_
      refine lv_iconst (v := 0) hx hb dX5_make_69 (by decide) ?_
      obtain ⟨hi_38, h⟩ := chk_s h
      refine al_Mhigh C0 M hi_38 dX5_make_70 ?_
      obtain ⟨y_40, hc_39, h⟩ := bnd_s h
      refine kS (As := [.int (g.1 23 0 (0 : Int32).toNatClampNeg), .int (g.1 24 0 (0 : Int32).toNatClampNeg)]) (rest := []) (stk := [.long y_40]) (val := (some (.long y_40))) (c1 := 0) (s1 := 0) C0 M (k_X5_length hc_39) kw_12_6 Y_X5_length ⟨Nat.le_of_ble_eq_true rfl, Nat.le_of_ble_eq_true rfl⟩ rfl hl.1 rfl (Nat.le_of_ble_eq_true rfl) dX5_make_71 rfl rfl ⟨Nat.le_refl _, Nat.le_refl _⟩ rfl (fun H locs M => ?_)
      refine lv_ldc2 (v := 500) hx hb hown (hts _ kw_11_20) dX5_make_74 ?_
      refine W.lcmp hx hb dX5_make_77 ?_
      refine lv_if_le (tgt := 87) hx hb dX5_make_78 (by decide) (fun c_41 => ?_) (fun c_41 => ?_)
      · rw [if_pos c_41] at h
        exact w_X5_make_J87 C0 hr hk (lv_sub hl [1, 2, 0] rfl) M h
      · rw [if_neg c_41] at h
        exact w_X5_make_J81 C0 hr hk (lv_sub hl [1] rfl) M h
set_option maxHeartbeats 4000000 in
set_option maxRecDepth 100000 in
theorem w_X5_make {x1 : Int32} (C0 : Cx p s m args c cX5_make 4 RX5 D cy) (hr : meth.sig.returnType = (some .int)) (hk : meth.locks = false) {res : Int32 × Gs} (hl : lv_has ls 4 [(0, .ref (sb 13)), (1, .int x1)]) (M : Ws D b0 cy sb db g s H locs) (h : m_X5_make x1 g = some res) : W p l e ({ frames := 3, cells := 0, slots := 0, locals := 69 } : Room) s m args below meth c H locs 0 0 (MQ below (QX (some (.int res.1)) D b0 cy sb db res.2) args s 0 0 (fun q => b0 ≤ q)) (F0 m 0 ls []) := by
  obtain ⟨hx, hb, hml, hown, hts, hK⟩ := id C0
  rw [m_X5_make] at h
  refine lv_iload_n hx hb dX5_make_0 rfl (lv_at hl 1 rfl) ?_
  refine lv_i2l hx hb dX5_make_1 rfl ?_
  refine lv_lconst (v := 0) hx hb dX5_make_2 (by decide) ?_
  refine lv_ldc2 (v := 4) hx hb hown (hts _ kw_11_18) dX5_make_3 ?_
  obtain ⟨x_2, hc_1, h⟩ := bnd_s h
  refine kS (As := [.long x1.toInt64, .long (0 : Int64), .long (4 : Int64)]) (rest := []) (stk := [.int x_2]) (val := (some (.int x_2))) (c1 := 0) (s1 := 0) C0 M (k_X5_within hc_1) kw_11_22 Y_X5_within ⟨Nat.le_of_ble_eq_true rfl, Nat.le_of_ble_eq_true rfl⟩ rfl hl.1 rfl (Nat.le_of_ble_eq_true rfl) dX5_make_6 rfl rfl ⟨Nat.le_refl _, Nat.le_refl _⟩ rfl (fun H locs M => ?_)
  refine lv_if_ne (tgt := 15) hx hb dX5_make_9 (by decide) (fun c_3 => ?_) (fun c_3 => ?_)
  · rw [if_neg c_3] at h
    refine lv_aload_n hx hb dX5_make_15 rfl (lv_at hl 0 rfl) ?_
    refine gf_RX5_72 C0 M dX5_make_16 ?_
    refine lv_if_eq (tgt := 35) hx hb dX5_make_19 (by decide) (fun c_4 => ?_) (fun c_4 => ?_)
    · rw [if_pos c_4] at h
      exact w_X5_make_J35 C0 hr hk (lv_sub hl [0] rfl) M h
    · rw [if_neg c_4] at h
      refine lv_iload_n hx hb dX5_make_22 rfl (lv_at hl 1 rfl) ?_
      refine lv_iconst (v := 4) hx hb dX5_make_23 (by decide) ?_
      refine lv_icmp_ne (tgt := 42) hx hb dX5_make_24 (by decide) (fun c_8 => ?_) (fun c_8 => ?_)
      · rw [if_neg c_8] at h
        exact w_X5_make_J42 C0 hr hk hl M h
      · rw [if_pos c_8] at h
        refine lv_aload_n hx hb dX5_make_27 rfl (lv_at hl 0 rfl) ?_
        refine gf_RX5_72 C0 M dX5_make_28 ?_
        refine lv_iconst (v := 2) hx hb dX5_make_31 (by decide) ?_
        refine lv_icmp_eq (tgt := 42) hx hb dX5_make_32 (by decide) (fun c_42 => ?_) (fun c_42 => ?_)
        · rw [if_pos c_42] at h
          exact w_X5_make_J42 C0 hr hk hl M h
        · rw [if_neg c_42] at h
          exact w_X5_make_J35 C0 hr hk (lv_sub hl [0] rfl) M h
  · rw [if_pos c_3] at h
    refine lv_ldc (v := -2000000001) hx hb hown (hts _ kw_11_19) dX5_make_12 ?_
    obtain rfl := Option.some.inj h
    exact rt_i C0 M hr hk dX5_make_14
theorem k_X5_make {x1 : Int32} {res : Int32 × Gs} (h : m_X5_make x1 g = some res) : CM l yX5_make cX5_make 4 (some .int) ({ frames := 3, cells := 0, slots := 0, locals := 69 } : Room) [.ref (sb 13), .int x1] (some (.int res.1)) D b0 cy sb db g res.2 := by
  refine Met.ofW (cc := cX5_make) (maxL := 4) (ret := (some .int)) (by decide) rfl ?_
  intro p e s m args below meth c s₁ B hml hv
  obtain ⟨rfl, hW, hK⟩ := hv
  have hl := lv_entry [.ref (sb 13), .int x1] (n := 4) (Nat.le_of_ble_eq_true rfl)
  rw [lg_entry_eq]
  generalize (lg_sl [.ref (sb 13), .int x1] ++ List.replicate (4 - (lg_sl [.ref (sb 13), .int x1]).length) Slot.unset).toArray = ls at hl ⊢
  have hl : lv_has ls 4 [(0, .ref (sb 13)), (1, .int x1)] := hl
  exact w_X5_make ⟨B.exec, B.bytes, hml, findClass_of_methodNamed B.named, fun w hw => atoms_spec (ws := Cond.code yX5_make cX5_make 4 (some .int) :: wsL_law) B.pre w (List.mem_cons_of_mem _ hw), hK⟩ B.returns B.notSynchronized hl ⟨hW, va_S.rf⟩ h
theorem Y_X5_make : Yv yX5_make RX5 cX5_make 4 (some .int) 1 := ⟨⟨kw_11_17, kw_1_5, by decide +kernel, by decide +kernel, by decide +kernel⟩, kw_11_15, kw_11_16⟩
-- X5_raw
def m_X5_raw (x1 : Int32) (x2 : Int32) (g : Gs) : Option (Int32 × Gs) :=
  (m_X5_within x1.toInt64 (0 : Int64) (3 : Int64) g).bind fun x_2 => if x_2 = 0 then (some ((-2000000001 : Int32), g)) else (if 0 ≤ x2 then (if x2 ≤ (500 : Int32) then (if (g.1 25 0 0) = (24 : Int32) then ((m_X5_no (8 : Int32) g).bind fun (x_31, g_32) => some (x_31, g_32)) else (chk (inb (g.1 25 0 0) 24) (lett (sI g 26 0 (g.1 25 0 0).toNatClampNeg x1) fun g_8 => chk (inb (g_8.1 25 0 0) 24) (lett (sI g_8 27 0 (g_8.1 25 0 0).toNatClampNeg (1 : Int32)) fun g_11 => chk (inb ((3 : Int32) * (g_11.1 25 0 0)) 72) (lett (sI g_11 28 0 ((3 : Int32) * (g_11.1 25 0 0)).toNatClampNeg (0 : Int32)) fun g_14 => chk (inb ((3 : Int32) * (g_14.1 25 0 0)) 72) (lett (sI g_14 29 0 ((3 : Int32) * (g_14.1 25 0 0)).toNatClampNeg (x2 - (1 : Int32))) fun g_17 => (m_X5_newRow x2 g_17).bind fun (x_20, g_21) => chk (inb (g_17.1 25 0 0) 24) (lett (sI g_21 30 0 (g_17.1 25 0 0).toNatClampNeg x_20) fun g_23 => lett (sI g_23 25 0 0 ((g_23.1 25 0 0) + (1 : Int32))) fun g_25 => (m_X5_yes ((g_25.1 25 0 0) - (1 : Int32)) g_25).bind fun (x_28, g_29) => some (x_28, g_29)))))))) else ((m_X5_no (5 : Int32) g).bind fun (x_34, g_35) => some (x_34, g_35))) else ((m_X5_no (4 : Int32) g).bind fun (x_37, g_38) => some (x_37, g_38)))
set_option maxHeartbeats 4000000 in
set_option maxRecDepth 100000 in
theorem w_X5_raw {x1 : Int32} {x2 : Int32} (C0 : Cx p s m args c cX5_raw 3 RX5 D cy) (hr : meth.sig.returnType = (some .int)) (hk : meth.locks = false) {res : Int32 × Gs} (hl : lv_has ls 3 [(0, .ref (sb 13)), (1, .int x1), (2, .int x2)]) (M : Ws D b0 cy sb db g s H locs) (h : m_X5_raw x1 x2 g = some res) : W p l e ({ frames := 1, cells := 0, slots := 0, locals := 25 } : Room) s m args below meth c H locs 0 0 (MQ below (QX (some (.int res.1)) D b0 cy sb db res.2) args s 0 0 (fun q => b0 ≤ q)) (F0 m 0 ls []) := by
  obtain ⟨hx, hb, hml, hown, hts, hK⟩ := id C0
  rw [m_X5_raw] at h
  refine lv_iload_n hx hb dX5_raw_0 rfl (lv_at hl 1 rfl) ?_
  refine lv_i2l hx hb dX5_raw_1 rfl ?_
  refine lv_lconst (v := 0) hx hb dX5_raw_2 (by decide) ?_
  refine lv_ldc2 (v := 3) hx hb hown (hts _ kw_13_12) dX5_raw_3 ?_
  obtain ⟨x_2, hc_1, h⟩ := bnd_s h
  refine kS (As := [.long x1.toInt64, .long (0 : Int64), .long (3 : Int64)]) (rest := []) (stk := [.int x_2]) (val := (some (.int x_2))) (c1 := 0) (s1 := 0) C0 M (k_X5_within hc_1) kw_11_22 Y_X5_within ⟨Nat.le_of_ble_eq_true rfl, Nat.le_of_ble_eq_true rfl⟩ rfl hl.1 rfl (Nat.le_of_ble_eq_true rfl) dX5_raw_6 rfl rfl ⟨Nat.le_refl _, Nat.le_refl _⟩ rfl (fun H locs M => ?_)
  refine lv_if_ne (tgt := 15) hx hb dX5_raw_9 (by decide) (fun c_3 => ?_) (fun c_3 => ?_)
  · rw [if_neg c_3] at h
    refine lv_iload_n hx hb dX5_raw_15 rfl (lv_at hl 2 rfl) ?_
    refine lv_if_ge (tgt := 25) hx hb dX5_raw_16 (by decide) (fun c_4 => ?_) (fun c_4 => ?_)
    · rw [if_pos c_4] at h
      refine lv_iload_n hx hb dX5_raw_25 rfl (lv_at hl 2 rfl) ?_
      refine lv_sipush (v := 500) hx hb dX5_raw_26 (by decide) ?_
      refine lv_icmp_le (tgt := 38) hx hb dX5_raw_29 (by decide) (fun c_5 => ?_) (fun c_5 => ?_)
      · rw [if_pos c_5] at h
        refine lv_aload_n hx hb dX5_raw_38 rfl (lv_at hl 0 rfl) ?_
        refine gf_RX5_98 C0 M dX5_raw_39 ?_
        refine lv_bipush (v := 24) hx hb dX5_raw_42 (by decide) ?_
        refine lv_icmp_ne (tgt := 54) hx hb dX5_raw_44 (by decide) (fun c_6 => ?_) (fun c_6 => ?_)
        · rw [if_neg c_6] at h
          refine lv_aload_n hx hb dX5_raw_54 rfl (lv_at hl 0 rfl) ?_
          refine gf_RX5_20 C0 M dX5_raw_55 ?_
          refine lv_aload_n hx hb dX5_raw_58 rfl (lv_at hl 0 rfl) ?_
          refine gf_RX5_98 C0 M dX5_raw_59 ?_
          refine lv_iload_n hx hb dX5_raw_62 rfl (lv_at hl 1 rfl) ?_
          obtain ⟨hi_7, h⟩ := chk_s h
          obtain ⟨g_8, hg_9, h⟩ := lett_s h
          refine as_Mkinds C0 M hi_7 hg_9 dX5_raw_63 (fun H locs M => ?_)
          refine lv_aload_n hx hb dX5_raw_64 rfl (lv_at hl 0 rfl) ?_
          refine gf_RX5_23 C0 M dX5_raw_65 ?_
          refine lv_aload_n hx hb dX5_raw_68 rfl (lv_at hl 0 rfl) ?_
          refine gf_RX5_98 C0 M dX5_raw_69 ?_
          refine lv_iconst (v := 1) hx hb dX5_raw_72 (by decide) ?_
          obtain ⟨hi_10, h⟩ := chk_s h
          obtain ⟨g_11, hg_12, h⟩ := lett_s h
          refine as_Mranks C0 M hi_10 hg_12 dX5_raw_73 (fun H locs M => ?_)
          refine lv_aload_n hx hb dX5_raw_74 rfl (lv_at hl 0 rfl) ?_
          refine gf_RX5_26 C0 M dX5_raw_75 ?_
          refine lv_iconst (v := 3) hx hb dX5_raw_78 (by decide) ?_
          refine lv_aload_n hx hb dX5_raw_79 rfl (lv_at hl 0 rfl) ?_
          refine gf_RX5_98 C0 M dX5_raw_80 ?_
          refine lv_imul hx hb dX5_raw_83 ?_
          refine lv_iconst (v := 0) hx hb dX5_raw_84 (by decide) ?_
          obtain ⟨hi_13, h⟩ := chk_s h
          obtain ⟨g_14, hg_15, h⟩ := lett_s h
          refine as_Mlows C0 M hi_13 hg_15 dX5_raw_85 (fun H locs M => ?_)
          refine lv_aload_n hx hb dX5_raw_86 rfl (lv_at hl 0 rfl) ?_
          refine gf_RX5_29 C0 M dX5_raw_87 ?_
          refine lv_iconst (v := 3) hx hb dX5_raw_90 (by decide) ?_
          refine lv_aload_n hx hb dX5_raw_91 rfl (lv_at hl 0 rfl) ?_
          refine gf_RX5_98 C0 M dX5_raw_92 ?_
          refine lv_imul hx hb dX5_raw_95 ?_
          refine lv_iload_n hx hb dX5_raw_96 rfl (lv_at hl 2 rfl) ?_
          refine lv_iconst (v := 1) hx hb dX5_raw_97 (by decide) ?_
          refine lv_isub hx hb dX5_raw_98 ?_
          obtain ⟨hi_16, h⟩ := chk_s h
          obtain ⟨g_17, hg_18, h⟩ := lett_s h
          refine as_Mhighs C0 M hi_16 hg_18 dX5_raw_99 (fun H locs M => ?_)
          refine lv_aload_n hx hb dX5_raw_100 rfl (lv_at hl 0 rfl) ?_
          refine gf_RX5_32 C0 M dX5_raw_101 ?_
          refine lv_aload_n hx hb dX5_raw_104 rfl (lv_at hl 0 rfl) ?_
          refine gf_RX5_98 C0 M dX5_raw_105 ?_
          refine lv_aload_n hx hb dX5_raw_108 rfl (lv_at hl 0 rfl) ?_
          refine lv_iload_n hx hb dX5_raw_109 rfl (lv_at hl 2 rfl) ?_
          obtain ⟨⟨x_20, g_21⟩, hc_19, h⟩ := bnd_s h
          try dsimp only at h
          refine kV (As := [.int x2]) (rest := [.int (g_17.1 25 0 0), .ref (sb 20)]) (stk := [.int x_20, .int (g_17.1 25 0 0), .ref (sb 20)]) (val := (some (.int x_20))) (c1 := 0) (s1 := 0) C0 M (k_X5_newRow hc_19) kw_12_22 Y_X5_newRow (rv_X5 C0 M) ⟨Nat.le_of_ble_eq_true rfl, Nat.le_of_ble_eq_true rfl⟩ rfl hl.1 rfl (Nat.le_of_ble_eq_true rfl) dX5_raw_110 rfl rfl ⟨Nat.le_refl _, Nat.le_refl _⟩ rfl (fun H locs M => ?_)
          obtain ⟨hi_22, h⟩ := chk_s h
          obtain ⟨g_23, hg_24, h⟩ := lett_s h
          refine as_MrowOf C0 M hi_22 hg_24 dX5_raw_113 (fun H locs M => ?_)
          refine lv_aload_n hx hb dX5_raw_114 rfl (lv_at hl 0 rfl) ?_
          refine lv_dup hx hb dX5_raw_115 rfl ?_
          refine gf_RX5_98 C0 M dX5_raw_116 ?_
          refine lv_iconst (v := 1) hx hb dX5_raw_119 (by decide) ?_
          refine lv_iadd hx hb dX5_raw_120 ?_
          obtain ⟨g_25, hg_26, h⟩ := lett_s h
          refine pf_RX5_98 C0 M hg_26 dX5_raw_121 (fun H locs M => ?_)
          refine lv_aload_n hx hb dX5_raw_124 rfl (lv_at hl 0 rfl) ?_
          refine lv_aload_n hx hb dX5_raw_125 rfl (lv_at hl 0 rfl) ?_
          refine gf_RX5_98 C0 M dX5_raw_126 ?_
          refine lv_iconst (v := 1) hx hb dX5_raw_129 (by decide) ?_
          refine lv_isub hx hb dX5_raw_130 ?_
          obtain ⟨⟨x_28, g_29⟩, hc_27, h⟩ := bnd_s h
          try dsimp only at h
          refine kV (As := [.int ((g_25.1 25 0 0) - (1 : Int32))]) (rest := []) (stk := [.int x_28]) (val := (some (.int x_28))) (c1 := 0) (s1 := 0) C0 M (k_X5_yes hc_27) kw_6_12 Y_X5_yes (rv_X5 C0 M) ⟨Nat.le_of_ble_eq_true rfl, Nat.le_of_ble_eq_true rfl⟩ rfl hl.1 rfl (Nat.le_of_ble_eq_true rfl) dX5_raw_131 rfl rfl ⟨Nat.le_refl _, Nat.le_refl _⟩ rfl (fun H locs M => ?_)
          obtain rfl := Option.some.inj h
          exact rt_i C0 M hr hk dX5_raw_134
        · rw [if_pos c_6] at h
          refine lv_aload_n hx hb dX5_raw_47 rfl (lv_at hl 0 rfl) ?_
          refine lv_bipush (v := 8) hx hb dX5_raw_48 (by decide) ?_
          obtain ⟨⟨x_31, g_32⟩, hc_30, h⟩ := bnd_s h
          try dsimp only at h
          refine kV (As := [.int (8 : Int32)]) (rest := []) (stk := [.int x_31]) (val := (some (.int x_31))) (c1 := 0) (s1 := 0) C0 M (k_X5_no hc_30) kw_6_8 Y_X5_no (rv_X5 C0 M) ⟨Nat.le_of_ble_eq_true rfl, Nat.le_of_ble_eq_true rfl⟩ rfl hl.1 rfl (Nat.le_of_ble_eq_true rfl) dX5_raw_50 rfl rfl ⟨Nat.le_refl _, Nat.le_refl _⟩ rfl (fun H locs M => ?_)
          obtain rfl := Option.some.inj h
          exact rt_i C0 M hr hk dX5_raw_53
      · rw [if_neg c_5] at h
        refine lv_aload_n hx hb dX5_raw_32 rfl (lv_at hl 0 rfl) ?_
        refine lv_iconst (v := 5) hx hb dX5_raw_33 (by decide) ?_
        obtain ⟨⟨x_34, g_35⟩, hc_33, h⟩ := bnd_s h
        try dsimp only at h
        refine kV (As := [.int (5 : Int32)]) (rest := []) (stk := [.int x_34]) (val := (some (.int x_34))) (c1 := 0) (s1 := 0) C0 M (k_X5_no hc_33) kw_6_8 Y_X5_no (rv_X5 C0 M) ⟨Nat.le_of_ble_eq_true rfl, Nat.le_of_ble_eq_true rfl⟩ rfl hl.1 rfl (Nat.le_of_ble_eq_true rfl) dX5_raw_34 rfl rfl ⟨Nat.le_refl _, Nat.le_refl _⟩ rfl (fun H locs M => ?_)
        obtain rfl := Option.some.inj h
        exact rt_i C0 M hr hk dX5_raw_37
    · rw [if_neg c_4] at h
      refine lv_aload_n hx hb dX5_raw_19 rfl (lv_at hl 0 rfl) ?_
      refine lv_iconst (v := 4) hx hb dX5_raw_20 (by decide) ?_
      obtain ⟨⟨x_37, g_38⟩, hc_36, h⟩ := bnd_s h
      try dsimp only at h
      refine kV (As := [.int (4 : Int32)]) (rest := []) (stk := [.int x_37]) (val := (some (.int x_37))) (c1 := 0) (s1 := 0) C0 M (k_X5_no hc_36) kw_6_8 Y_X5_no (rv_X5 C0 M) ⟨Nat.le_of_ble_eq_true rfl, Nat.le_of_ble_eq_true rfl⟩ rfl hl.1 rfl (Nat.le_of_ble_eq_true rfl) dX5_raw_21 rfl rfl ⟨Nat.le_refl _, Nat.le_refl _⟩ rfl (fun H locs M => ?_)
      obtain rfl := Option.some.inj h
      exact rt_i C0 M hr hk dX5_raw_24
  · rw [if_pos c_3] at h
    refine lv_ldc (v := -2000000001) hx hb hown (hts _ kw_11_19) dX5_raw_12 ?_
    obtain rfl := Option.some.inj h
    exact rt_i C0 M hr hk dX5_raw_14
theorem k_X5_raw {x1 : Int32} {x2 : Int32} {res : Int32 × Gs} (h : m_X5_raw x1 x2 g = some res) : CM l yX5_raw cX5_raw 3 (some .int) ({ frames := 1, cells := 0, slots := 0, locals := 25 } : Room) [.ref (sb 13), .int x1, .int x2] (some (.int res.1)) D b0 cy sb db g res.2 := by
  refine Met.ofW (cc := cX5_raw) (maxL := 3) (ret := (some .int)) (by decide) rfl ?_
  intro p e s m args below meth c s₁ B hml hv
  obtain ⟨rfl, hW, hK⟩ := hv
  have hl := lv_entry [.ref (sb 13), .int x1, .int x2] (n := 3) (Nat.le_of_ble_eq_true rfl)
  rw [lg_entry_eq]
  generalize (lg_sl [.ref (sb 13), .int x1, .int x2] ++ List.replicate (3 - (lg_sl [.ref (sb 13), .int x1, .int x2]).length) Slot.unset).toArray = ls at hl ⊢
  have hl : lv_has ls 3 [(0, .ref (sb 13)), (1, .int x1), (2, .int x2)] := hl
  exact w_X5_raw ⟨B.exec, B.bytes, hml, findClass_of_methodNamed B.named, fun w hw => atoms_spec (ws := Cond.code yX5_raw cX5_raw 3 (some .int) :: wsL_law) B.pre w (List.mem_cons_of_mem _ hw), hK⟩ B.returns B.notSynchronized hl ⟨hW, va_S.rf⟩ h
theorem Y_X5_raw : Yv yX5_raw RX5 cX5_raw 3 (some .int) 2 := ⟨⟨kw_13_11, kw_1_5, by decide +kernel, by decide +kernel, by decide +kernel⟩, kw_13_9, kw_13_10⟩
-- X5_wants
def m_X5_wants_J28 (xs0 : Int32) (g : Gs) : Option (Int32) :=
  some xs0
def m_X5_wants (x1 : Int32) (g : Gs) : Option (Int32) :=
  (m_X5_isArray x1 g).bind fun x_2 => if x_2 = 0 then (m_X5_wants_J28 (7 : Int32) g) else (chk (inb x1 24) (if (g.1 26 0 x1.toNatClampNeg) = (4 : Int32) then (m_X5_wants_J28 (2 : Int32) g) else (m_X5_wants_J28 (0 : Int32) g)))
set_option maxHeartbeats 4000000 in
set_option maxRecDepth 100000 in
theorem w_X5_wants_J28 {xs0 : Int32} (C0 : Cx p s m args c cX5_wants 2 RX5 D cy) (hr : meth.sig.returnType = (some .int)) (hk : meth.locks = false) {res : Int32} (hl : lv_has ls 2 []) (M : Ws D b0 cy sb db g s H locs) (h : m_X5_wants_J28 xs0 g = some res) : W p l e ({ frames := 2, cells := 0, slots := 0, locals := 46 } : Room) s m args below meth c H locs 0 0 (MQ below (QX (some (.int res)) D b0 cy sb db g) args s 0 0 (fun q => b0 ≤ q)) (F0 m 28 ls [.int xs0]) := by
  obtain ⟨hx, hb, hml, hown, hts, hK⟩ := id C0
  rw [m_X5_wants_J28] at h
  obtain rfl := Option.some.inj h
  exact rt_i C0 M hr hk dX5_wants_28
set_option maxHeartbeats 4000000 in
set_option maxRecDepth 100000 in
theorem w_X5_wants {x1 : Int32} (C0 : Cx p s m args c cX5_wants 2 RX5 D cy) (hr : meth.sig.returnType = (some .int)) (hk : meth.locks = false) {res : Int32} (hl : lv_has ls 2 [(0, .ref (sb 13)), (1, .int x1)]) (M : Ws D b0 cy sb db g s H locs) (h : m_X5_wants x1 g = some res) : W p l e ({ frames := 2, cells := 0, slots := 0, locals := 46 } : Room) s m args below meth c H locs 0 0 (MQ below (QX (some (.int res)) D b0 cy sb db g) args s 0 0 (fun q => b0 ≤ q)) (F0 m 0 ls []) := by
  obtain ⟨hx, hb, hml, hown, hts, hK⟩ := id C0
  rw [m_X5_wants] at h
  refine lv_aload_n hx hb dX5_wants_0 rfl (lv_at hl 0 rfl) ?_
  refine lv_iload_n hx hb dX5_wants_1 rfl (lv_at hl 1 rfl) ?_
  obtain ⟨x_2, hc_1, h⟩ := bnd_s h
  refine kV (As := [.int x1]) (rest := []) (stk := [.int x_2]) (val := (some (.int x_2))) (c1 := 0) (s1 := 0) C0 M (k_X5_isArray hc_1) kw_14_13 Y_X5_isArray (rv_X5 C0 M) ⟨Nat.le_of_ble_eq_true rfl, Nat.le_of_ble_eq_true rfl⟩ rfl hl.1 rfl (Nat.le_of_ble_eq_true rfl) dX5_wants_2 rfl rfl ⟨Nat.le_refl _, Nat.le_refl _⟩ rfl (fun H locs M => ?_)
  refine lv_if_ne (tgt := 13) hx hb dX5_wants_5 (by decide) (fun c_3 => ?_) (fun c_3 => ?_)
  · rw [if_neg c_3] at h
    refine lv_aload_n hx hb dX5_wants_13 rfl (lv_at hl 0 rfl) ?_
    refine gf_RX5_20 C0 M dX5_wants_14 ?_
    refine lv_iload_n hx hb dX5_wants_17 rfl (lv_at hl 1 rfl) ?_
    obtain ⟨hi_4, h⟩ := chk_s h
    refine al_Mkinds C0 M hi_4 dX5_wants_18 ?_
    refine lv_iconst (v := 4) hx hb dX5_wants_19 (by decide) ?_
    refine lv_icmp_ne (tgt := 27) hx hb dX5_wants_20 (by decide) (fun c_5 => ?_) (fun c_5 => ?_)
    · rw [if_neg c_5] at h
      refine lv_iconst (v := 0) hx hb dX5_wants_27 (by decide) ?_
      exact w_X5_wants_J28 C0 hr hk (lv_sub hl [] rfl) M h
    · rw [if_pos c_5] at h
      refine lv_iconst (v := 2) hx hb dX5_wants_23 (by decide) ?_
      refine lv_goto (tgt := 28) hx hb dX5_wants_24 (by decide) ?_
      exact w_X5_wants_J28 C0 hr hk (lv_sub hl [] rfl) M h
  · rw [if_pos c_3] at h
    refine lv_bipush (v := 7) hx hb dX5_wants_8 (by decide) ?_
    refine lv_goto (tgt := 28) hx hb dX5_wants_10 (by decide) ?_
    exact w_X5_wants_J28 C0 hr hk (lv_sub hl [] rfl) M h
theorem k_X5_wants {x1 : Int32} {res : Int32} (h : m_X5_wants x1 g = some res) : CM l yX5_wants cX5_wants 2 (some .int) ({ frames := 2, cells := 0, slots := 0, locals := 46 } : Room) [.ref (sb 13), .int x1] (some (.int res)) D b0 cy sb db g g := by
  refine Met.ofW (cc := cX5_wants) (maxL := 2) (ret := (some .int)) (by decide) rfl ?_
  intro p e s m args below meth c s₁ B hml hv
  obtain ⟨rfl, hW, hK⟩ := hv
  have hl := lv_entry [.ref (sb 13), .int x1] (n := 2) (Nat.le_of_ble_eq_true rfl)
  rw [lg_entry_eq]
  generalize (lg_sl [.ref (sb 13), .int x1] ++ List.replicate (2 - (lg_sl [.ref (sb 13), .int x1]).length) Slot.unset).toArray = ls at hl ⊢
  have hl : lv_has ls 2 [(0, .ref (sb 13)), (1, .int x1)] := hl
  exact w_X5_wants ⟨B.exec, B.bytes, hml, findClass_of_methodNamed B.named, fun w hw => atoms_spec (ws := Cond.code yX5_wants cX5_wants 2 (some .int) :: wsL_law) B.pre w (List.mem_cons_of_mem _ hw), hK⟩ B.returns B.notSynchronized hl ⟨hW, va_S.rf⟩ h
theorem Y_X5_wants : Yv yX5_wants RX5 cX5_wants 2 (some .int) 1 := ⟨⟨kw_14_12, kw_1_5, by decide +kernel, by decide +kernel, by decide +kernel⟩, kw_14_10, kw_14_11⟩
-- X5_see
def m_X5_see_J61 (x1 : Int32) (x2 : Int32) (g : Gs) : Option (Int32 × Gs) :=
  if x2 = 0 then (chk (inb x1 24) ((m_X5_newArray (g.1 26 0 x1.toNatClampNeg) (-1 : Int32) g).bind fun (x_9, g_10) => chk (inb x1 24) (chk (inb x_9 24) (lett (sI g_10 30 0 x_9.toNatClampNeg (g_10.1 30 0 x1.toNatClampNeg)) fun g_13 => lett (sI g_13 22 0 0 (0 : Int32)) fun g_15 => (m_X5_yes x_9 g_15).bind fun (x_18, g_19) => some (x_18, g_19))))) else ((m_X5_no x2 g).bind fun (x_21, g_22) => some (x_21, g_22))
def m_X5_see_J45 (x1 : Int32) (x2 : Int32) (g : Gs) : Option (Int32 × Gs) :=
  if x2 = 0 then (if (g.1 25 0 0) = (24 : Int32) then (lett (8 : Int32) fun x_24 => m_X5_see_J61 x1 x_24 g) else (m_X5_see_J61 x1 x2 g)) else (m_X5_see_J61 x1 x2 g)
def m_X5_see_J20 (x1 : Int32) (x2 : Int32) (g : Gs) : Option (Int32 × Gs) :=
  if x2 = 0 then ((m_X5_shapeItems  g).bind fun x_27 => chk (inb x1 24) (chk (inb (g.1 30 0 x1.toNatClampNeg) 13000) (if x_27 = (g.1 33 0 (g.1 30 0 x1.toNatClampNeg).toNatClampNeg) then (m_X5_see_J45 x1 x2 g) else (lett (10 : Int32) fun x_31 => m_X5_see_J45 x1 x_31 g)))) else (m_X5_see_J45 x1 x2 g)
def m_X5_see (x1 : Int32) (g : Gs) : Option (Int32 × Gs) :=
  (m_X5_wants x1 g).bind fun x_2 => if x_2 = 0 then (if (g.1 22 0 0) = 0 then (lett (9 : Int32) fun x_34 => m_X5_see_J20 x1 x_34 g) else (m_X5_see_J20 x1 x_2 g)) else (m_X5_see_J20 x1 x_2 g)
set_option maxHeartbeats 4000000 in
set_option maxRecDepth 100000 in
theorem w_X5_see_J61 {x1 : Int32} {x2 : Int32} (C0 : Cx p s m args c cX5_see 4 RX5 D cy) (hr : meth.sig.returnType = (some .int)) (hk : meth.locks = false) {res : Int32 × Gs} (hl : lv_has ls 4 [(0, .ref (sb 13)), (1, .int x1), (2, .int x2)]) (M : Ws D b0 cy sb db g s H locs) (h : m_X5_see_J61 x1 x2 g = some res) : W p l e ({ frames := 3, cells := 0, slots := 0, locals := 67 } : Room) s m args below meth c H locs 0 0 (MQ below (QX (some (.int res.1)) D b0 cy sb db res.2) args s 0 0 (fun q => b0 ≤ q)) (F0 m 61 ls []) := by
  obtain ⟨hx, hb, hml, hown, hts, hK⟩ := id C0
  rw [m_X5_see_J61] at h
  refine lv_iload_n hx hb dX5_see_61 rfl (lv_at hl 2 rfl) ?_
  refine lv_if_eq (tgt := 71) hx hb dX5_see_62 (by decide) (fun c_6 => ?_) (fun c_6 => ?_)
  · rw [if_pos c_6] at h
    refine lv_aload_n hx hb dX5_see_71 rfl (lv_at hl 0 rfl) ?_
    refine lv_aload_n hx hb dX5_see_72 rfl (lv_at hl 0 rfl) ?_
    refine gf_RX5_20 C0 M dX5_see_73 ?_
    refine lv_iload_n hx hb dX5_see_76 rfl (lv_at hl 1 rfl) ?_
    obtain ⟨hi_7, h⟩ := chk_s h
    refine al_Mkinds C0 M hi_7 dX5_see_77 ?_
    refine lv_iconst (v := -1) hx hb dX5_see_78 (by decide) ?_
    obtain ⟨⟨x_9, g_10⟩, hc_8, h⟩ := bnd_s h
    try dsimp only at h
    refine kV (As := [.int (g.1 26 0 x1.toNatClampNeg), .int (-1 : Int32)]) (rest := []) (stk := [.int x_9]) (val := (some (.int x_9))) (c1 := 0) (s1 := 0) C0 M (k_X5_newArray hc_8) kw_12_9 Y_X5_newArray (rv_X5 C0 M) ⟨Nat.le_of_ble_eq_true rfl, Nat.le_of_ble_eq_true rfl⟩ rfl hl.1 rfl (Nat.le_of_ble_eq_true rfl) dX5_see_79 rfl rfl ⟨Nat.le_refl _, Nat.le_refl _⟩ rfl (fun H locs M => ?_)
    refine lv_istore_n (lv' := [(3, .int x_9), (0, .ref (sb 13)), (1, .int x1), (2, .int x2)]) hx hb dX5_see_82 rfl hl (by decide) rfl (fun ls hl => ?_)
    refine lv_aload_n hx hb dX5_see_83 rfl (lv_at hl 1 rfl) ?_
    refine gf_RX5_32 C0 M dX5_see_84 ?_
    refine lv_iload_n hx hb dX5_see_87 rfl (lv_at hl 0 rfl) ?_
    refine lv_aload_n hx hb dX5_see_88 rfl (lv_at hl 1 rfl) ?_
    refine gf_RX5_32 C0 M dX5_see_89 ?_
    refine lv_iload_n hx hb dX5_see_92 rfl (lv_at hl 2 rfl) ?_
    obtain ⟨hi_11, h⟩ := chk_s h
    refine al_MrowOf C0 M hi_11 dX5_see_93 ?_
    obtain ⟨hi_12, h⟩ := chk_s h
    obtain ⟨g_13, hg_14, h⟩ := lett_s h
    refine as_MrowOf C0 M hi_12 hg_14 dX5_see_94 (fun H locs M => ?_)
    refine lv_aload_n hx hb dX5_see_95 rfl (lv_at hl 1 rfl) ?_
    refine lv_iconst (v := 0) hx hb dX5_see_96 (by decide) ?_
    obtain ⟨g_15, hg_16, h⟩ := lett_s h
    refine pf_RX5_72 C0 M hg_16 dX5_see_97 (fun H locs M => ?_)
    refine lv_aload_n hx hb dX5_see_100 rfl (lv_at hl 1 rfl) ?_
    refine lv_iload_n hx hb dX5_see_101 rfl (lv_at hl 0 rfl) ?_
    obtain ⟨⟨x_18, g_19⟩, hc_17, h⟩ := bnd_s h
    try dsimp only at h
    refine kV (As := [.int x_9]) (rest := []) (stk := [.int x_18]) (val := (some (.int x_18))) (c1 := 0) (s1 := 0) C0 M (k_X5_yes hc_17) kw_6_12 Y_X5_yes (rv_X5 C0 M) ⟨Nat.le_of_ble_eq_true rfl, Nat.le_of_ble_eq_true rfl⟩ rfl hl.1 rfl (Nat.le_of_ble_eq_true rfl) dX5_see_102 rfl rfl ⟨Nat.le_refl _, Nat.le_refl _⟩ rfl (fun H locs M => ?_)
    obtain rfl := Option.some.inj h
    exact rt_i C0 M hr hk dX5_see_105
  · rw [if_neg c_6] at h
    refine lv_aload_n hx hb dX5_see_65 rfl (lv_at hl 0 rfl) ?_
    refine lv_iload_n hx hb dX5_see_66 rfl (lv_at hl 2 rfl) ?_
    obtain ⟨⟨x_21, g_22⟩, hc_20, h⟩ := bnd_s h
    try dsimp only at h
    refine kV (As := [.int x2]) (rest := []) (stk := [.int x_21]) (val := (some (.int x_21))) (c1 := 0) (s1 := 0) C0 M (k_X5_no hc_20) kw_6_8 Y_X5_no (rv_X5 C0 M) ⟨Nat.le_of_ble_eq_true rfl, Nat.le_of_ble_eq_true rfl⟩ rfl hl.1 rfl (Nat.le_of_ble_eq_true rfl) dX5_see_67 rfl rfl ⟨Nat.le_refl _, Nat.le_refl _⟩ rfl (fun H locs M => ?_)
    obtain rfl := Option.some.inj h
    exact rt_i C0 M hr hk dX5_see_70
set_option maxHeartbeats 4000000 in
set_option maxRecDepth 100000 in
theorem w_X5_see_J45 {x1 : Int32} {x2 : Int32} (C0 : Cx p s m args c cX5_see 4 RX5 D cy) (hr : meth.sig.returnType = (some .int)) (hk : meth.locks = false) {res : Int32 × Gs} (hl : lv_has ls 4 [(0, .ref (sb 13)), (1, .int x1), (2, .int x2)]) (M : Ws D b0 cy sb db g s H locs) (h : m_X5_see_J45 x1 x2 g = some res) : W p l e ({ frames := 3, cells := 0, slots := 0, locals := 67 } : Room) s m args below meth c H locs 0 0 (MQ below (QX (some (.int res.1)) D b0 cy sb db res.2) args s 0 0 (fun q => b0 ≤ q)) (F0 m 45 ls []) := by
  obtain ⟨hx, hb, hml, hown, hts, hK⟩ := id C0
  rw [m_X5_see_J45] at h
  refine lv_iload_n hx hb dX5_see_45 rfl (lv_at hl 2 rfl) ?_
  refine lv_if_ne (tgt := 61) hx hb dX5_see_46 (by decide) (fun c_5 => ?_) (fun c_5 => ?_)
  · rw [if_neg c_5] at h
    exact w_X5_see_J61 C0 hr hk hl M h
  · rw [if_pos c_5] at h
    refine lv_aload_n hx hb dX5_see_49 rfl (lv_at hl 0 rfl) ?_
    refine gf_RX5_98 C0 M dX5_see_50 ?_
    refine lv_bipush (v := 24) hx hb dX5_see_53 (by decide) ?_
    refine lv_icmp_ne (tgt := 61) hx hb dX5_see_55 (by decide) (fun c_23 => ?_) (fun c_23 => ?_)
    · rw [if_neg c_23] at h
      exact w_X5_see_J61 C0 hr hk hl M h
    · rw [if_pos c_23] at h
      refine lv_bipush (v := 8) hx hb dX5_see_58 (by decide) ?_
      obtain ⟨x_24, hn_25, h⟩ := lett_s h
      refine nm_i hn_25 ?_
      refine lv_istore_n (lv' := [(2, .int x_24), (0, .ref (sb 13)), (1, .int x1)]) hx hb dX5_see_60 rfl hl (by decide) rfl (fun ls hl => ?_)
      exact w_X5_see_J61 C0 hr hk (lv_sub hl [1, 2, 0] rfl) M h
set_option maxHeartbeats 4000000 in
set_option maxRecDepth 100000 in
theorem w_X5_see_J20 {x1 : Int32} {x2 : Int32} (C0 : Cx p s m args c cX5_see 4 RX5 D cy) (hr : meth.sig.returnType = (some .int)) (hk : meth.locks = false) {res : Int32 × Gs} (hl : lv_has ls 4 [(0, .ref (sb 13)), (1, .int x1), (2, .int x2)]) (M : Ws D b0 cy sb db g s H locs) (h : m_X5_see_J20 x1 x2 g = some res) : W p l e ({ frames := 3, cells := 0, slots := 0, locals := 67 } : Room) s m args below meth c H locs 0 0 (MQ below (QX (some (.int res.1)) D b0 cy sb db res.2) args s 0 0 (fun q => b0 ≤ q)) (F0 m 20 ls []) := by
  obtain ⟨hx, hb, hml, hown, hts, hK⟩ := id C0
  rw [m_X5_see_J20] at h
  refine lv_iload_n hx hb dX5_see_20 rfl (lv_at hl 2 rfl) ?_
  refine lv_if_ne (tgt := 45) hx hb dX5_see_21 (by decide) (fun c_4 => ?_) (fun c_4 => ?_)
  · rw [if_neg c_4] at h
    exact w_X5_see_J45 C0 hr hk hl M h
  · rw [if_pos c_4] at h
    refine lv_aload_n hx hb dX5_see_24 rfl (lv_at hl 0 rfl) ?_
    obtain ⟨x_27, hc_26, h⟩ := bnd_s h
    refine kV (As := []) (rest := []) (stk := [.int x_27]) (val := (some (.int x_27))) (c1 := 0) (s1 := 0) C0 M (k_X5_shapeItems hc_26) kw_12_1 Y_X5_shapeItems (rv_X5 C0 M) ⟨Nat.le_of_ble_eq_true rfl, Nat.le_of_ble_eq_true rfl⟩ rfl hl.1 rfl (Nat.le_of_ble_eq_true rfl) dX5_see_25 rfl rfl ⟨Nat.le_refl _, Nat.le_refl _⟩ rfl (fun H locs M => ?_)
    refine lv_aload_n hx hb dX5_see_28 rfl (lv_at hl 0 rfl) ?_
    refine gf_RX5_38 C0 M dX5_see_29 ?_
    refine lv_aload_n hx hb dX5_see_32 rfl (lv_at hl 0 rfl) ?_
    refine gf_RX5_32 C0 M dX5_see_33 ?_
    refine lv_iload_n hx hb dX5_see_36 rfl (lv_at hl 1 rfl) ?_
    obtain ⟨hi_28, h⟩ := chk_s h
    refine al_MrowOf C0 M hi_28 dX5_see_37 ?_
    obtain ⟨hi_29, h⟩ := chk_s h
    refine al_MrowSize C0 M hi_29 dX5_see_38 ?_
    refine lv_icmp_eq (tgt := 45) hx hb dX5_see_39 (by decide) (fun c_30 => ?_) (fun c_30 => ?_)
    · rw [if_pos c_30] at h
      exact w_X5_see_J45 C0 hr hk hl M h
    · rw [if_neg c_30] at h
      refine lv_bipush (v := 10) hx hb dX5_see_42 (by decide) ?_
      obtain ⟨x_31, hn_32, h⟩ := lett_s h
      refine nm_i hn_32 ?_
      refine lv_istore_n (lv' := [(2, .int x_31), (0, .ref (sb 13)), (1, .int x1)]) hx hb dX5_see_44 rfl hl (by decide) rfl (fun ls hl => ?_)
      exact w_X5_see_J45 C0 hr hk (lv_sub hl [1, 2, 0] rfl) M h
set_option maxHeartbeats 4000000 in
set_option maxRecDepth 100000 in
theorem w_X5_see {x1 : Int32} (C0 : Cx p s m args c cX5_see 4 RX5 D cy) (hr : meth.sig.returnType = (some .int)) (hk : meth.locks = false) {res : Int32 × Gs} (hl : lv_has ls 4 [(0, .ref (sb 13)), (1, .int x1)]) (M : Ws D b0 cy sb db g s H locs) (h : m_X5_see x1 g = some res) : W p l e ({ frames := 3, cells := 0, slots := 0, locals := 67 } : Room) s m args below meth c H locs 0 0 (MQ below (QX (some (.int res.1)) D b0 cy sb db res.2) args s 0 0 (fun q => b0 ≤ q)) (F0 m 0 ls []) := by
  obtain ⟨hx, hb, hml, hown, hts, hK⟩ := id C0
  rw [m_X5_see] at h
  refine lv_aload_n hx hb dX5_see_0 rfl (lv_at hl 0 rfl) ?_
  refine lv_iload_n hx hb dX5_see_1 rfl (lv_at hl 1 rfl) ?_
  obtain ⟨x_2, hc_1, h⟩ := bnd_s h
  refine kV (As := [.int x1]) (rest := []) (stk := [.int x_2]) (val := (some (.int x_2))) (c1 := 0) (s1 := 0) C0 M (k_X5_wants hc_1) kw_14_9 Y_X5_wants (rv_X5 C0 M) ⟨Nat.le_of_ble_eq_true rfl, Nat.le_of_ble_eq_true rfl⟩ rfl hl.1 rfl (Nat.le_of_ble_eq_true rfl) dX5_see_2 rfl rfl ⟨Nat.le_refl _, Nat.le_refl _⟩ rfl (fun H locs M => ?_)
  refine lv_istore_n (lv' := [(2, .int x_2), (0, .ref (sb 13)), (1, .int x1)]) hx hb dX5_see_5 rfl hl (by decide) rfl (fun ls hl => ?_)
  refine lv_iload_n hx hb dX5_see_6 rfl (lv_at hl 0 rfl) ?_
  refine lv_if_ne (tgt := 20) hx hb dX5_see_7 (by decide) (fun c_3 => ?_) (fun c_3 => ?_)
  · rw [if_neg c_3] at h
    exact w_X5_see_J20 C0 hr hk (lv_sub hl [1, 2, 0] rfl) M h
  · rw [if_pos c_3] at h
    refine lv_aload_n hx hb dX5_see_10 rfl (lv_at hl 1 rfl) ?_
    refine gf_RX5_72 C0 M dX5_see_11 ?_
    refine lv_if_ne (tgt := 20) hx hb dX5_see_14 (by decide) (fun c_33 => ?_) (fun c_33 => ?_)
    · rw [if_neg c_33] at h
      exact w_X5_see_J20 C0 hr hk (lv_sub hl [1, 2, 0] rfl) M h
    · rw [if_pos c_33] at h
      refine lv_bipush (v := 9) hx hb dX5_see_17 (by decide) ?_
      obtain ⟨x_34, hn_35, h⟩ := lett_s h
      refine nm_i hn_35 ?_
      refine lv_istore_n (lv' := [(2, .int x_34), (0, .ref (sb 13)), (1, .int x1)]) hx hb dX5_see_19 rfl hl (by decide) rfl (fun ls hl => ?_)
      exact w_X5_see_J20 C0 hr hk (lv_sub hl [1, 2, 0] rfl) M h
theorem k_X5_see {x1 : Int32} {res : Int32 × Gs} (h : m_X5_see x1 g = some res) : CM l yX5_see cX5_see 4 (some .int) ({ frames := 3, cells := 0, slots := 0, locals := 67 } : Room) [.ref (sb 13), .int x1] (some (.int res.1)) D b0 cy sb db g res.2 := by
  refine Met.ofW (cc := cX5_see) (maxL := 4) (ret := (some .int)) (by decide) rfl ?_
  intro p e s m args below meth c s₁ B hml hv
  obtain ⟨rfl, hW, hK⟩ := hv
  have hl := lv_entry [.ref (sb 13), .int x1] (n := 4) (Nat.le_of_ble_eq_true rfl)
  rw [lg_entry_eq]
  generalize (lg_sl [.ref (sb 13), .int x1] ++ List.replicate (4 - (lg_sl [.ref (sb 13), .int x1]).length) Slot.unset).toArray = ls at hl ⊢
  have hl : lv_has ls 4 [(0, .ref (sb 13)), (1, .int x1)] := hl
  exact w_X5_see ⟨B.exec, B.bytes, hml, findClass_of_methodNamed B.named, fun w hw => atoms_spec (ws := Cond.code yX5_see cX5_see 4 (some .int) :: wsL_law) B.pre w (List.mem_cons_of_mem _ hw), hK⟩ B.returns B.notSynchronized hl ⟨hW, va_S.rf⟩ h
theorem Y_X5_see : Yv yX5_see RX5 cX5_see 4 (some .int) 1 := ⟨⟨kw_14_8, kw_1_5, by decide +kernel, by decide +kernel, by decide +kernel⟩, kw_14_6, kw_14_7⟩
-- X5_copy
def m_X5_copy (x1 : Int32) (x2 : Int32) (g : Gs) : Option (Gs) :=
  chk (inb x1 300000) (chk (inb x2 300000) (lett (sL g 2 x2.toNatClampNeg (g.2.1 2 x1.toNatClampNeg)) fun g_3 => chk (inb x1 300000) (chk (inb x2 300000) (lett (sI g_3 36 0 x2.toNatClampNeg (vp_nar .boolean (g_3.1 36 0 x1.toNatClampNeg))) fun g_7 => some g_7))))
set_option maxHeartbeats 4000000 in
set_option maxRecDepth 100000 in
theorem w_X5_copy {x1 : Int32} {x2 : Int32} (C0 : Cx p s m args c cX5_copy 3 RX5 D cy) (hr : meth.sig.returnType = none) (hk : meth.locks = false) {res : Gs} (hl : lv_has ls 3 [(0, .ref (sb 13)), (1, .int x1), (2, .int x2)]) (M : Ws D b0 cy sb db g s H locs) (h : m_X5_copy x1 x2 g = some res) : W p l e ({ frames := 0, cells := 0, slots := 0, locals := 0 } : Room) s m args below meth c H locs 0 0 (MQ below (QX none D b0 cy sb db res) args s 0 0 (fun q => b0 ≤ q)) (F0 m 0 ls []) := by
  obtain ⟨hx, hb, hml, hown, hts, hK⟩ := id C0
  rw [m_X5_copy] at h
  refine lv_aload_n hx hb dX5_copy_0 rfl (lv_at hl 0 rfl) ?_
  refine gf_RX5_42 C0 M dX5_copy_1 ?_
  refine lv_iload_n hx hb dX5_copy_4 rfl (lv_at hl 2 rfl) ?_
  refine lv_aload_n hx hb dX5_copy_5 rfl (lv_at hl 0 rfl) ?_
  refine gf_RX5_42 C0 M dX5_copy_6 ?_
  refine lv_iload_n hx hb dX5_copy_9 rfl (lv_at hl 1 rfl) ?_
  obtain ⟨hi_1, h⟩ := chk_s h
  refine al_Mpool C0 M hi_1 dX5_copy_10 ?_
  obtain ⟨hi_2, h⟩ := chk_s h
  obtain ⟨g_3, hg_4, h⟩ := lett_s h
  refine as_Mpool C0 M hi_2 hg_4 dX5_copy_11 (fun H locs M => ?_)
  refine lv_aload_n hx hb dX5_copy_12 rfl (lv_at hl 0 rfl) ?_
  refine gf_RX5_46 C0 M dX5_copy_13 ?_
  refine lv_iload_n hx hb dX5_copy_16 rfl (lv_at hl 2 rfl) ?_
  refine lv_aload_n hx hb dX5_copy_17 rfl (lv_at hl 0 rfl) ?_
  refine gf_RX5_46 C0 M dX5_copy_18 ?_
  refine lv_iload_n hx hb dX5_copy_21 rfl (lv_at hl 1 rfl) ?_
  obtain ⟨hi_5, h⟩ := chk_s h
  refine al_MhasBox C0 M hi_5 dX5_copy_22 ?_
  obtain ⟨hi_6, h⟩ := chk_s h
  obtain ⟨g_7, hg_8, h⟩ := lett_s h
  refine as_MhasBox C0 M hi_6 hg_8 dX5_copy_23 (fun H locs M => ?_)
  obtain rfl := Option.some.inj h
  exact rt_v C0 M hr hk dX5_copy_24
theorem k_X5_copy {x1 : Int32} {x2 : Int32} {res : Gs} (h : m_X5_copy x1 x2 g = some res) : CM l yX5_copy cX5_copy 3 none ({ frames := 0, cells := 0, slots := 0, locals := 0 } : Room) [.ref (sb 13), .int x1, .int x2] none D b0 cy sb db g res := by
  refine Met.ofW (cc := cX5_copy) (maxL := 3) (ret := none) (by decide) rfl ?_
  intro p e s m args below meth c s₁ B hml hv
  obtain ⟨rfl, hW, hK⟩ := hv
  have hl := lv_entry [.ref (sb 13), .int x1, .int x2] (n := 3) (Nat.le_of_ble_eq_true rfl)
  rw [lg_entry_eq]
  generalize (lg_sl [.ref (sb 13), .int x1, .int x2] ++ List.replicate (3 - (lg_sl [.ref (sb 13), .int x1, .int x2]).length) Slot.unset).toArray = ls at hl ⊢
  have hl : lv_has ls 3 [(0, .ref (sb 13)), (1, .int x1), (2, .int x2)] := hl
  exact w_X5_copy ⟨B.exec, B.bytes, hml, findClass_of_methodNamed B.named, fun w hw => atoms_spec (ws := Cond.code yX5_copy cX5_copy 3 none :: wsL_law) B.pre w (List.mem_cons_of_mem _ hw), hK⟩ B.returns B.notSynchronized hl ⟨hW, va_S.rf⟩ h
theorem Y_X5_copy : Yv yX5_copy RX5 cX5_copy 3 none 2 := ⟨⟨kw_16_0, kw_1_5, by decide +kernel, by decide +kernel, by decide +kernel⟩, kw_15_22, kw_15_23⟩
-- X5_turn
def m_X5_turn_L225 (x1 : Int32) (x3 : Int32) (x4 : Int32) (x5 : Int32) (x6 : Int32) (x7 : Int32) : Nat → Int32 → Gs → Option (Gs)
  | 0, _, _ => none
  | fu + 1, x8, g =>
  if x4 ≤ x8 then (some g) else (chk (¬ x6 = 0) (lett (x8 - x8 / x6 * x6) fun x_47 => chk (¬ x6 = 0) (chk (¬ x5 = 0) (lett ((x8 / x6) - (x8 / x6) / x5 * x5) fun x_51 => chk (¬ x6 = 0) (chk (¬ x5 = 0) (lett ((x8 / x6) / x5) fun x_55 => chk (inb x1 24) (chk (inb (g.1 30 0 x1.toNatClampNeg) 13000) (chk (inb x3 24) (chk (inb (g.1 30 0 x3.toNatClampNeg) 13000) ((m_X5_copy ((g.1 32 0 (g.1 30 0 x1.toNatClampNeg).toNatClampNeg) + x8) (((g.1 32 0 (g.1 30 0 x3.toNatClampNeg).toNatClampNeg) + (((x_51 * x7) + x_55) * x6)) + x_47) g).bind fun g_62 => lett (x8 + 1) fun x_63 => m_X5_turn_L225 x1 x3 x4 x5 x6 x7 fu x_63 g_62))))))))))
def m_X5_turn_J220 (x1 : Int32) (x3 : Int32) (x4 : Int32) (x5 : Int32) (x6 : Int32) (xs0 : Int32) (g : Gs) : Option (Int32 × Gs) :=
  lett (0 : Int32) fun x_43 => (m_X5_turn_L225 x1 x3 x4 x5 x6 xs0 FU x_43 g).bind fun g_65 => (m_X5_yes x3 g_65).bind fun (x_67, g_68) => some (x_67, g_68)
def m_X5_turn_J202 (x1 : Int32) (x3 : Int32) (x4 : Int32) (x5 : Int32) (xs0 : Int32) (g : Gs) : Option (Int32 × Gs) :=
  if x4 = 0 then (m_X5_turn_J220 x1 x3 x4 x5 xs0 (1 : Int32) g) else ((m_X5_lengthOf x1 (0 : Int32) g).bind fun y_42 => m_X5_turn_J220 x1 x3 x4 x5 xs0 y_42.toInt32 g)
def m_X5_turn_J191 (x1 : Int32) (x3 : Int32) (x4 : Int32) (x5 : Int32) (g : Gs) : Option (Int32 × Gs) :=
  m_X5_turn_J202 x1 x3 x4 x5 (1 : Int32) g
def m_X5_turn_J174 (x1 : Int32) (x3 : Int32) (x4 : Int32) (xs0 : Int32) (g : Gs) : Option (Int32 × Gs) :=
  if x4 = 0 then (m_X5_turn_J191 x1 x3 x4 xs0 g) else (chk (inb x1 24) (if (g.1 27 0 x1.toNatClampNeg) = (2 : Int32) then (m_X5_turn_J191 x1 x3 x4 xs0 g) else ((m_X5_lengthOf x1 (2 : Int32) g).bind fun y_74 => m_X5_turn_J202 x1 x3 x4 xs0 y_74.toInt32 g)))
def m_X5_turn_J39 (x1 : Int32) (x2 : Int32) (g : Gs) : Option (Int32 × Gs) :=
  if x2 = 0 then (chk (inb x1 24) ((m_X5_newArray (g.1 26 0 x1.toNatClampNeg) x1 g).bind fun (x_8, g_9) => chk (inb (((3 : Int32) * x1) + (1 : Int32)) 72) (chk (inb ((3 : Int32) * x_8) 72) (lett (sI g_9 28 0 ((3 : Int32) * x_8).toNatClampNeg (g_9.1 28 0 (((3 : Int32) * x1) + (1 : Int32)).toNatClampNeg)) fun g_12 => chk (inb (((3 : Int32) * x1) + (1 : Int32)) 72) (chk (inb ((3 : Int32) * x_8) 72) (lett (sI g_12 29 0 ((3 : Int32) * x_8).toNatClampNeg (g_12.1 29 0 (((3 : Int32) * x1) + (1 : Int32)).toNatClampNeg)) fun g_16 => chk (inb ((3 : Int32) * x1) 72) (chk (inb (((3 : Int32) * x_8) + (1 : Int32)) 72) (lett (sI g_16 28 0 (((3 : Int32) * x_8) + (1 : Int32)).toNatClampNeg (g_16.1 28 0 ((3 : Int32) * x1).toNatClampNeg)) fun g_20 => chk (inb ((3 : Int32) * x1) 72) (chk (inb (((3 : Int32) * x_8) + (1 : Int32)) 72) (lett (sI g_20 29 0 (((3 : Int32) * x_8) + (1 : Int32)).toNatClampNeg (g_20.1 29 0 ((3 : Int32) * x1).toNatClampNeg)) fun g_24 => chk (inb x1 24) (chk (inb (g_24.1 30 0 x1.toNatClampNeg) 13000) (lett (g_24.1 33 0 (g_24.1 30 0 x1.toNatClampNeg).toNatClampNeg) fun x_28 => (m_X5_newRow x_28 g_24).bind fun (x_31, g_32) => chk (inb x_8 24) (lett (sI g_32 30 0 x_8.toNatClampNeg x_31) fun g_34 => if x_28 = 0 then (m_X5_turn_J174 x1 x_8 x_28 (1 : Int32) g_34) else ((m_X5_lengthOf x1 (1 : Int32) g_34).bind fun y_38 => m_X5_turn_J174 x1 x_8 x_28 y_38.toInt32 g_34)))))))))))))) else ((m_X5_no x2 g).bind fun (x_76, g_77) => some (x_76, g_77))
def m_X5_turn_J23 (x1 : Int32) (x2 : Int32) (g : Gs) : Option (Int32 × Gs) :=
  if x2 = 0 then (if (g.1 25 0 0) = (24 : Int32) then (lett (8 : Int32) fun x_79 => m_X5_turn_J39 x1 x_79 g) else (m_X5_turn_J39 x1 x2 g)) else (m_X5_turn_J39 x1 x2 g)
def m_X5_turn (x1 : Int32) (g : Gs) : Option (Int32 × Gs) :=
  (m_X5_wants x1 g).bind fun x_2 => if x_2 = 0 then (chk (inb x1 24) (if (g.1 27 0 x1.toNatClampNeg) = (1 : Int32) then (lett (9 : Int32) fun x_83 => m_X5_turn_J23 x1 x_83 g) else (m_X5_turn_J23 x1 x_2 g))) else (m_X5_turn_J23 x1 x_2 g)
set_option maxHeartbeats 4000000 in
set_option maxRecDepth 100000 in
theorem w_X5_turn_L225 {x1 : Int32} {x3 : Int32} {x4 : Int32} {x5 : Int32} {x6 : Int32} {x7 : Int32} (C0 : Cx p s m args c cX5_turn 12 RX5 D cy) (hr : meth.sig.returnType = (some .int)) (hk : meth.locks = false) {res : Int32 × Gs} {q : Gs} (kk : ∀ (g : Gs) (H : Heap) (locs : List Loc) (ls : Array Slot), q = g → lv_has ls 12 [(0, .ref (sb 13)), (3, .int x3)] → Ws D b0 cy sb db g s H locs → W p l e ({ frames := 3, cells := 0, slots := 0, locals := 67 } : Room) s m args below meth c H locs 0 0 (MQ below (QX (some (.int res.1)) D b0 cy sb db res.2) args s 0 0 (fun q => b0 ≤ q)) (F0 m 309 ls [])) : ∀ (fu : Nat) (x8 : Int32) (g : Gs) (H : Heap) (locs : List Loc) (ls : Array Slot), lv_has ls 12 [(0, .ref (sb 13)), (1, .int x1), (3, .int x3), (4, .int x4), (5, .int x5), (6, .int x6), (7, .int x7), (8, .int x8)] → Ws D b0 cy sb db g s H locs → m_X5_turn_L225 x1 x3 x4 x5 x6 x7 fu x8 g = some q → W p l e ({ frames := 3, cells := 0, slots := 0, locals := 67 } : Room) s m args below meth c H locs 0 0 (MQ below (QX (some (.int res.1)) D b0 cy sb db res.2) args s 0 0 (fun q => b0 ≤ q)) (F0 m 225 ls []) := by
  obtain ⟨hx, hb, hml, hown, hts, hK⟩ := id C0
  intro fu
  induction fu with
  | zero =>
    intro x8 g H locs ls hl M h
    cases h
  | succ fu ih =>
    intro x8 g H locs ls hl M h
    rw [m_X5_turn_L225] at h
    refine lv_iload hx hb dX5_turn_225 (lv_at hl 7 rfl) ?_
    refine lv_iload hx hb dX5_turn_227 (lv_at hl 3 rfl) ?_
    refine lv_icmp_ge (tgt := 309) hx hb dX5_turn_229 (by decide) (fun c_45 => ?_) (fun c_45 => ?_)
    · rw [if_pos c_45] at h
      exact kk _ _ _ _ (Option.some.inj h).symm (lv_sub hl [0, 2] rfl) M
    · rw [if_neg c_45] at h
      refine lv_iload hx hb dX5_turn_232 (lv_at hl 7 rfl) ?_
      refine lv_iload hx hb dX5_turn_234 (lv_at hl 5 rfl) ?_
      obtain ⟨hd_46, h⟩ := chk_s h
      refine lv_irem hx hb dX5_turn_236 hd_46 ?_
      obtain ⟨x_47, hn_48, h⟩ := lett_s h
      refine nm_i hn_48 ?_
      refine lv_istore (lv' := [(9, .int x_47), (0, .ref (sb 13)), (1, .int x1), (3, .int x3), (4, .int x4), (5, .int x5), (6, .int x6), (7, .int x7), (8, .int x8)]) hx hb dX5_turn_237 hl (by decide) rfl (fun ls hl => ?_)
      refine lv_iload hx hb dX5_turn_239 (lv_at hl 8 rfl) ?_
      refine lv_iload hx hb dX5_turn_241 (lv_at hl 6 rfl) ?_
      obtain ⟨hd_49, h⟩ := chk_s h
      refine lv_idiv hx hb dX5_turn_243 hd_49 ?_
      refine lv_iload hx hb dX5_turn_244 (lv_at hl 5 rfl) ?_
      obtain ⟨hd_50, h⟩ := chk_s h
      refine lv_irem hx hb dX5_turn_246 hd_50 ?_
      obtain ⟨x_51, hn_52, h⟩ := lett_s h
      refine nm_i hn_52 ?_
      refine lv_istore (lv' := [(10, .int x_51), (9, .int x_47), (0, .ref (sb 13)), (1, .int x1), (3, .int x3), (4, .int x4), (5, .int x5), (6, .int x6), (7, .int x7), (8, .int x8)]) hx hb dX5_turn_247 hl (by decide) rfl (fun ls hl => ?_)
      refine lv_iload hx hb dX5_turn_249 (lv_at hl 9 rfl) ?_
      refine lv_iload hx hb dX5_turn_251 (lv_at hl 7 rfl) ?_
      obtain ⟨hd_53, h⟩ := chk_s h
      refine lv_idiv hx hb dX5_turn_253 hd_53 ?_
      refine lv_iload hx hb dX5_turn_254 (lv_at hl 6 rfl) ?_
      obtain ⟨hd_54, h⟩ := chk_s h
      refine lv_idiv hx hb dX5_turn_256 hd_54 ?_
      obtain ⟨x_55, hn_56, h⟩ := lett_s h
      refine nm_i hn_56 ?_
      refine lv_istore (lv' := [(11, .int x_55), (10, .int x_51), (9, .int x_47), (0, .ref (sb 13)), (1, .int x1), (3, .int x3), (4, .int x4), (5, .int x5), (6, .int x6), (7, .int x7), (8, .int x8)]) hx hb dX5_turn_257 hl (by decide) rfl (fun ls hl => ?_)
      refine lv_aload_n hx hb dX5_turn_259 rfl (lv_at hl 3 rfl) ?_
      refine lv_aload_n hx hb dX5_turn_260 rfl (lv_at hl 3 rfl) ?_
      refine gf_RX5_35 C0 M dX5_turn_261 ?_
      refine lv_aload_n hx hb dX5_turn_264 rfl (lv_at hl 3 rfl) ?_
      refine gf_RX5_32 C0 M dX5_turn_265 ?_
      refine lv_iload_n hx hb dX5_turn_268 rfl (lv_at hl 4 rfl) ?_
      obtain ⟨hi_57, h⟩ := chk_s h
      refine al_MrowOf C0 M hi_57 dX5_turn_269 ?_
      obtain ⟨hi_58, h⟩ := chk_s h
      refine al_MrowAt C0 M hi_58 dX5_turn_270 ?_
      refine lv_iload hx hb dX5_turn_271 (lv_at hl 10 rfl) ?_
      refine lv_iadd hx hb dX5_turn_273 ?_
      refine lv_aload_n hx hb dX5_turn_274 rfl (lv_at hl 3 rfl) ?_
      refine gf_RX5_35 C0 M dX5_turn_275 ?_
      refine lv_aload_n hx hb dX5_turn_278 rfl (lv_at hl 3 rfl) ?_
      refine gf_RX5_32 C0 M dX5_turn_279 ?_
      refine lv_iload_n hx hb dX5_turn_282 rfl (lv_at hl 5 rfl) ?_
      obtain ⟨hi_59, h⟩ := chk_s h
      refine al_MrowOf C0 M hi_59 dX5_turn_283 ?_
      obtain ⟨hi_60, h⟩ := chk_s h
      refine al_MrowAt C0 M hi_60 dX5_turn_284 ?_
      refine lv_iload hx hb dX5_turn_285 (lv_at hl 1 rfl) ?_
      refine lv_iload hx hb dX5_turn_287 (lv_at hl 9 rfl) ?_
      refine lv_imul hx hb dX5_turn_289 ?_
      refine lv_iload hx hb dX5_turn_290 (lv_at hl 0 rfl) ?_
      refine lv_iadd hx hb dX5_turn_292 ?_
      refine lv_iload hx hb dX5_turn_293 (lv_at hl 8 rfl) ?_
      refine lv_imul hx hb dX5_turn_295 ?_
      refine lv_iadd hx hb dX5_turn_296 ?_
      refine lv_iload hx hb dX5_turn_297 (lv_at hl 2 rfl) ?_
      refine lv_iadd hx hb dX5_turn_299 ?_
      obtain ⟨g_62, hc_61, h⟩ := bnd_s h
      refine kV (As := [.int ((g.1 32 0 (g.1 30 0 x1.toNatClampNeg).toNatClampNeg) + x8), .int (((g.1 32 0 (g.1 30 0 x3.toNatClampNeg).toNatClampNeg) + (((x_51 * x7) + x_55) * x6)) + x_47)]) (rest := []) (stk := []) (val := none) (c1 := 0) (s1 := 0) C0 M (k_X5_copy hc_61) kw_15_21 Y_X5_copy (rv_X5 C0 M) ⟨Nat.le_of_ble_eq_true rfl, Nat.le_of_ble_eq_true rfl⟩ rfl hl.1 rfl (Nat.le_of_ble_eq_true rfl) dX5_turn_300 rfl rfl ⟨Nat.le_refl _, Nat.le_refl _⟩ rfl (fun H locs M => ?_)
      obtain ⟨x_63, hn_64, h⟩ := lett_s h
      refine lv_iinc (v := x_63) (lv' := [(8, .int x_63), (11, .int x_55), (10, .int x_51), (9, .int x_47), (0, .ref (sb 13)), (1, .int x1), (3, .int x3), (4, .int x4), (5, .int x5), (6, .int x6), (7, .int x7)]) hx hb dX5_turn_303 hl (k := 10) rfl (by rw [hn_64]; rfl) (by decide) rfl (fun ls hl => ?_)
      refine lv_goto (tgt := 225) hx hb dX5_turn_306 (by decide) ?_
      exact ih _ _ _ _ _ (lv_sub hl [4, 5, 6, 7, 8, 9, 10, 0] rfl) M h
set_option maxHeartbeats 4000000 in
set_option maxRecDepth 100000 in
theorem w_X5_turn_J220 {x1 : Int32} {x3 : Int32} {x4 : Int32} {x5 : Int32} {x6 : Int32} {xs0 : Int32} (C0 : Cx p s m args c cX5_turn 12 RX5 D cy) (hr : meth.sig.returnType = (some .int)) (hk : meth.locks = false) {res : Int32 × Gs} (hl : lv_has ls 12 [(0, .ref (sb 13)), (1, .int x1), (3, .int x3), (4, .int x4), (5, .int x5), (6, .int x6)]) (M : Ws D b0 cy sb db g s H locs) (h : m_X5_turn_J220 x1 x3 x4 x5 x6 xs0 g = some res) : W p l e ({ frames := 3, cells := 0, slots := 0, locals := 67 } : Room) s m args below meth c H locs 0 0 (MQ below (QX (some (.int res.1)) D b0 cy sb db res.2) args s 0 0 (fun q => b0 ≤ q)) (F0 m 220 ls [.int xs0]) := by
  obtain ⟨hx, hb, hml, hown, hts, hK⟩ := id C0
  rw [m_X5_turn_J220] at h
  refine lv_istore (lv' := [(7, .int xs0), (0, .ref (sb 13)), (1, .int x1), (3, .int x3), (4, .int x4), (5, .int x5), (6, .int x6)]) hx hb dX5_turn_220 hl (by decide) rfl (fun ls hl => ?_)
  refine lv_iconst (v := 0) hx hb dX5_turn_222 (by decide) ?_
  obtain ⟨x_43, hn_44, h⟩ := lett_s h
  refine nm_i hn_44 ?_
  refine lv_istore (lv' := [(8, .int x_43), (7, .int xs0), (0, .ref (sb 13)), (1, .int x1), (3, .int x3), (4, .int x4), (5, .int x5), (6, .int x6)]) hx hb dX5_turn_223 hl (by decide) rfl (fun ls hl => ?_)
  obtain ⟨q_69, hq_70, h⟩ := bnd_s h
  refine w_X5_turn_L225 C0 hr hk (q := q_69) (fun g_65 H locs ls hq hl M => ?_) FU _ _ _ _ _ (lv_sub hl [2, 3, 4, 5, 6, 7, 1, 0] rfl) M hq_70
  subst q_69
  try dsimp only at h
  refine lv_aload_n hx hb dX5_turn_309 rfl (lv_at hl 0 rfl) ?_
  refine lv_iload_n hx hb dX5_turn_310 rfl (lv_at hl 1 rfl) ?_
  obtain ⟨⟨x_67, g_68⟩, hc_66, h⟩ := bnd_s h
  try dsimp only at h
  refine kV (As := [.int x3]) (rest := []) (stk := [.int x_67]) (val := (some (.int x_67))) (c1 := 0) (s1 := 0) C0 M (k_X5_yes hc_66) kw_6_12 Y_X5_yes (rv_X5 C0 M) ⟨Nat.le_of_ble_eq_true rfl, Nat.le_of_ble_eq_true rfl⟩ rfl hl.1 rfl (Nat.le_of_ble_eq_true rfl) dX5_turn_311 rfl rfl ⟨Nat.le_refl _, Nat.le_refl _⟩ rfl (fun H locs M => ?_)
  obtain rfl := Option.some.inj h
  exact rt_i C0 M hr hk dX5_turn_314
set_option maxHeartbeats 4000000 in
set_option maxRecDepth 100000 in
theorem w_X5_turn_J202 {x1 : Int32} {x3 : Int32} {x4 : Int32} {x5 : Int32} {xs0 : Int32} (C0 : Cx p s m args c cX5_turn 12 RX5 D cy) (hr : meth.sig.returnType = (some .int)) (hk : meth.locks = false) {res : Int32 × Gs} (hl : lv_has ls 12 [(0, .ref (sb 13)), (1, .int x1), (3, .int x3), (4, .int x4), (5, .int x5)]) (M : Ws D b0 cy sb db g s H locs) (h : m_X5_turn_J202 x1 x3 x4 x5 xs0 g = some res) : W p l e ({ frames := 3, cells := 0, slots := 0, locals := 67 } : Room) s m args below meth c H locs 0 0 (MQ below (QX (some (.int res.1)) D b0 cy sb db res.2) args s 0 0 (fun q => b0 ≤ q)) (F0 m 202 ls [.int xs0]) := by
  obtain ⟨hx, hb, hml, hown, hts, hK⟩ := id C0
  rw [m_X5_turn_J202] at h
  refine lv_istore (lv' := [(6, .int xs0), (0, .ref (sb 13)), (1, .int x1), (3, .int x3), (4, .int x4), (5, .int x5)]) hx hb dX5_turn_202 hl (by decide) rfl (fun ls hl => ?_)
  refine lv_iload hx hb dX5_turn_204 (lv_at hl 4 rfl) ?_
  refine lv_if_ne (tgt := 213) hx hb dX5_turn_206 (by decide) (fun c_40 => ?_) (fun c_40 => ?_)
  · rw [if_neg c_40] at h
    refine lv_aload_n hx hb dX5_turn_213 rfl (lv_at hl 1 rfl) ?_
    refine lv_iload_n hx hb dX5_turn_214 rfl (lv_at hl 2 rfl) ?_
    refine lv_iconst (v := 0) hx hb dX5_turn_215 (by decide) ?_
    obtain ⟨y_42, hc_41, h⟩ := bnd_s h
    refine kV (As := [.int x1, .int (0 : Int32)]) (rest := []) (stk := [.long y_42]) (val := (some (.long y_42))) (c1 := 0) (s1 := 0) C0 M (k_X5_lengthOf hc_41) kw_12_18 Y_X5_lengthOf (rv_X5 C0 M) ⟨Nat.le_of_ble_eq_true rfl, Nat.le_of_ble_eq_true rfl⟩ rfl hl.1 rfl (Nat.le_of_ble_eq_true rfl) dX5_turn_216 rfl rfl ⟨Nat.le_refl _, Nat.le_refl _⟩ rfl (fun H locs M => ?_)
    refine lv_l2i hx hb dX5_turn_219 rfl ?_
    exact w_X5_turn_J220 C0 hr hk (lv_sub hl [1, 2, 3, 4, 5, 0] rfl) M h
  · rw [if_pos c_40] at h
    refine lv_iconst (v := 1) hx hb dX5_turn_209 (by decide) ?_
    refine lv_goto (tgt := 220) hx hb dX5_turn_210 (by decide) ?_
    exact w_X5_turn_J220 C0 hr hk (lv_sub hl [1, 2, 3, 4, 5, 0] rfl) M h
set_option maxHeartbeats 4000000 in
set_option maxRecDepth 100000 in
theorem w_X5_turn_J191 {x1 : Int32} {x3 : Int32} {x4 : Int32} {x5 : Int32} (C0 : Cx p s m args c cX5_turn 12 RX5 D cy) (hr : meth.sig.returnType = (some .int)) (hk : meth.locks = false) {res : Int32 × Gs} (hl : lv_has ls 12 [(0, .ref (sb 13)), (1, .int x1), (3, .int x3), (4, .int x4), (5, .int x5)]) (M : Ws D b0 cy sb db g s H locs) (h : m_X5_turn_J191 x1 x3 x4 x5 g = some res) : W p l e ({ frames := 3, cells := 0, slots := 0, locals := 67 } : Room) s m args below meth c H locs 0 0 (MQ below (QX (some (.int res.1)) D b0 cy sb db res.2) args s 0 0 (fun q => b0 ≤ q)) (F0 m 191 ls []) := by
  obtain ⟨hx, hb, hml, hown, hts, hK⟩ := id C0
  rw [m_X5_turn_J191] at h
  refine lv_iconst (v := 1) hx hb dX5_turn_191 (by decide) ?_
  refine lv_goto (tgt := 202) hx hb dX5_turn_192 (by decide) ?_
  exact w_X5_turn_J202 C0 hr hk hl M h
set_option maxHeartbeats 4000000 in
set_option maxRecDepth 100000 in
theorem w_X5_turn_J174 {x1 : Int32} {x3 : Int32} {x4 : Int32} {xs0 : Int32} (C0 : Cx p s m args c cX5_turn 12 RX5 D cy) (hr : meth.sig.returnType = (some .int)) (hk : meth.locks = false) {res : Int32 × Gs} (hl : lv_has ls 12 [(0, .ref (sb 13)), (1, .int x1), (3, .int x3), (4, .int x4)]) (M : Ws D b0 cy sb db g s H locs) (h : m_X5_turn_J174 x1 x3 x4 xs0 g = some res) : W p l e ({ frames := 3, cells := 0, slots := 0, locals := 67 } : Room) s m args below meth c H locs 0 0 (MQ below (QX (some (.int res.1)) D b0 cy sb db res.2) args s 0 0 (fun q => b0 ≤ q)) (F0 m 174 ls [.int xs0]) := by
  obtain ⟨hx, hb, hml, hown, hts, hK⟩ := id C0
  rw [m_X5_turn_J174] at h
  refine lv_istore (lv' := [(5, .int xs0), (0, .ref (sb 13)), (1, .int x1), (3, .int x3), (4, .int x4)]) hx hb dX5_turn_174 hl (by decide) rfl (fun ls hl => ?_)
  refine lv_iload hx hb dX5_turn_176 (lv_at hl 4 rfl) ?_
  refine lv_if_eq (tgt := 191) hx hb dX5_turn_178 (by decide) (fun c_39 => ?_) (fun c_39 => ?_)
  · rw [if_pos c_39] at h
    exact w_X5_turn_J191 C0 hr hk (lv_sub hl [1, 2, 3, 4, 0] rfl) M h
  · rw [if_neg c_39] at h
    refine lv_aload_n hx hb dX5_turn_181 rfl (lv_at hl 1 rfl) ?_
    refine gf_RX5_23 C0 M dX5_turn_182 ?_
    refine lv_iload_n hx hb dX5_turn_185 rfl (lv_at hl 2 rfl) ?_
    obtain ⟨hi_71, h⟩ := chk_s h
    refine al_Mranks C0 M hi_71 dX5_turn_186 ?_
    refine lv_iconst (v := 2) hx hb dX5_turn_187 (by decide) ?_
    refine lv_icmp_ne (tgt := 195) hx hb dX5_turn_188 (by decide) (fun c_72 => ?_) (fun c_72 => ?_)
    · rw [if_neg c_72] at h
      refine lv_aload_n hx hb dX5_turn_195 rfl (lv_at hl 1 rfl) ?_
      refine lv_iload_n hx hb dX5_turn_196 rfl (lv_at hl 2 rfl) ?_
      refine lv_iconst (v := 2) hx hb dX5_turn_197 (by decide) ?_
      obtain ⟨y_74, hc_73, h⟩ := bnd_s h
      refine kV (As := [.int x1, .int (2 : Int32)]) (rest := []) (stk := [.long y_74]) (val := (some (.long y_74))) (c1 := 0) (s1 := 0) C0 M (k_X5_lengthOf hc_73) kw_12_18 Y_X5_lengthOf (rv_X5 C0 M) ⟨Nat.le_of_ble_eq_true rfl, Nat.le_of_ble_eq_true rfl⟩ rfl hl.1 rfl (Nat.le_of_ble_eq_true rfl) dX5_turn_198 rfl rfl ⟨Nat.le_refl _, Nat.le_refl _⟩ rfl (fun H locs M => ?_)
      refine lv_l2i hx hb dX5_turn_201 rfl ?_
      exact w_X5_turn_J202 C0 hr hk (lv_sub hl [1, 2, 3, 4, 0] rfl) M h
    · rw [if_pos c_72] at h
      exact w_X5_turn_J191 C0 hr hk (lv_sub hl [1, 2, 3, 4, 0] rfl) M h
set_option maxHeartbeats 4000000 in
set_option maxRecDepth 100000 in
theorem w_X5_turn_J39 {x1 : Int32} {x2 : Int32} (C0 : Cx p s m args c cX5_turn 12 RX5 D cy) (hr : meth.sig.returnType = (some .int)) (hk : meth.locks = false) {res : Int32 × Gs} (hl : lv_has ls 12 [(0, .ref (sb 13)), (1, .int x1), (2, .int x2)]) (M : Ws D b0 cy sb db g s H locs) (h : m_X5_turn_J39 x1 x2 g = some res) : W p l e ({ frames := 3, cells := 0, slots := 0, locals := 67 } : Room) s m args below meth c H locs 0 0 (MQ below (QX (some (.int res.1)) D b0 cy sb db res.2) args s 0 0 (fun q => b0 ≤ q)) (F0 m 39 ls []) := by
  obtain ⟨hx, hb, hml, hown, hts, hK⟩ := id C0
  rw [m_X5_turn_J39] at h
  refine lv_iload_n hx hb dX5_turn_39 rfl (lv_at hl 2 rfl) ?_
  refine lv_if_eq (tgt := 49) hx hb dX5_turn_40 (by decide) (fun c_5 => ?_) (fun c_5 => ?_)
  · rw [if_pos c_5] at h
    refine lv_aload_n hx hb dX5_turn_49 rfl (lv_at hl 0 rfl) ?_
    refine lv_aload_n hx hb dX5_turn_50 rfl (lv_at hl 0 rfl) ?_
    refine gf_RX5_20 C0 M dX5_turn_51 ?_
    refine lv_iload_n hx hb dX5_turn_54 rfl (lv_at hl 1 rfl) ?_
    obtain ⟨hi_6, h⟩ := chk_s h
    refine al_Mkinds C0 M hi_6 dX5_turn_55 ?_
    refine lv_iload_n hx hb dX5_turn_56 rfl (lv_at hl 1 rfl) ?_
    obtain ⟨⟨x_8, g_9⟩, hc_7, h⟩ := bnd_s h
    try dsimp only at h
    refine kV (As := [.int (g.1 26 0 x1.toNatClampNeg), .int x1]) (rest := []) (stk := [.int x_8]) (val := (some (.int x_8))) (c1 := 0) (s1 := 0) C0 M (k_X5_newArray hc_7) kw_12_9 Y_X5_newArray (rv_X5 C0 M) ⟨Nat.le_of_ble_eq_true rfl, Nat.le_of_ble_eq_true rfl⟩ rfl hl.1 rfl (Nat.le_of_ble_eq_true rfl) dX5_turn_57 rfl rfl ⟨Nat.le_refl _, Nat.le_refl _⟩ rfl (fun H locs M => ?_)
    refine lv_istore_n (lv' := [(3, .int x_8), (0, .ref (sb 13)), (1, .int x1), (2, .int x2)]) hx hb dX5_turn_60 rfl hl (by decide) rfl (fun ls hl => ?_)
    refine lv_aload_n hx hb dX5_turn_61 rfl (lv_at hl 1 rfl) ?_
    refine gf_RX5_26 C0 M dX5_turn_62 ?_
    refine lv_iconst (v := 3) hx hb dX5_turn_65 (by decide) ?_
    refine lv_iload_n hx hb dX5_turn_66 rfl (lv_at hl 0 rfl) ?_
    refine lv_imul hx hb dX5_turn_67 ?_
    refine lv_aload_n hx hb dX5_turn_68 rfl (lv_at hl 1 rfl) ?_
    refine gf_RX5_26 C0 M dX5_turn_69 ?_
    refine lv_iconst (v := 3) hx hb dX5_turn_72 (by decide) ?_
    refine lv_iload_n hx hb dX5_turn_73 rfl (lv_at hl 2 rfl) ?_
    refine lv_imul hx hb dX5_turn_74 ?_
    refine lv_iconst (v := 1) hx hb dX5_turn_75 (by decide) ?_
    refine lv_iadd hx hb dX5_turn_76 ?_
    obtain ⟨hi_10, h⟩ := chk_s h
    refine al_Mlows C0 M hi_10 dX5_turn_77 ?_
    obtain ⟨hi_11, h⟩ := chk_s h
    obtain ⟨g_12, hg_13, h⟩ := lett_s h
    refine as_Mlows C0 M hi_11 hg_13 dX5_turn_78 (fun H locs M => ?_)
    refine lv_aload_n hx hb dX5_turn_79 rfl (lv_at hl 1 rfl) ?_
    refine gf_RX5_29 C0 M dX5_turn_80 ?_
    refine lv_iconst (v := 3) hx hb dX5_turn_83 (by decide) ?_
    refine lv_iload_n hx hb dX5_turn_84 rfl (lv_at hl 0 rfl) ?_
    refine lv_imul hx hb dX5_turn_85 ?_
    refine lv_aload_n hx hb dX5_turn_86 rfl (lv_at hl 1 rfl) ?_
    refine gf_RX5_29 C0 M dX5_turn_87 ?_
    refine lv_iconst (v := 3) hx hb dX5_turn_90 (by decide) ?_
    refine lv_iload_n hx hb dX5_turn_91 rfl (lv_at hl 2 rfl) ?_
    refine lv_imul hx hb dX5_turn_92 ?_
    refine lv_iconst (v := 1) hx hb dX5_turn_93 (by decide) ?_
    refine lv_iadd hx hb dX5_turn_94 ?_
    obtain ⟨hi_14, h⟩ := chk_s h
    refine al_Mhighs C0 M hi_14 dX5_turn_95 ?_
    obtain ⟨hi_15, h⟩ := chk_s h
    obtain ⟨g_16, hg_17, h⟩ := lett_s h
    refine as_Mhighs C0 M hi_15 hg_17 dX5_turn_96 (fun H locs M => ?_)
    refine lv_aload_n hx hb dX5_turn_97 rfl (lv_at hl 1 rfl) ?_
    refine gf_RX5_26 C0 M dX5_turn_98 ?_
    refine lv_iconst (v := 3) hx hb dX5_turn_101 (by decide) ?_
    refine lv_iload_n hx hb dX5_turn_102 rfl (lv_at hl 0 rfl) ?_
    refine lv_imul hx hb dX5_turn_103 ?_
    refine lv_iconst (v := 1) hx hb dX5_turn_104 (by decide) ?_
    refine lv_iadd hx hb dX5_turn_105 ?_
    refine lv_aload_n hx hb dX5_turn_106 rfl (lv_at hl 1 rfl) ?_
    refine gf_RX5_26 C0 M dX5_turn_107 ?_
    refine lv_iconst (v := 3) hx hb dX5_turn_110 (by decide) ?_
    refine lv_iload_n hx hb dX5_turn_111 rfl (lv_at hl 2 rfl) ?_
    refine lv_imul hx hb dX5_turn_112 ?_
    obtain ⟨hi_18, h⟩ := chk_s h
    refine al_Mlows C0 M hi_18 dX5_turn_113 ?_
    obtain ⟨hi_19, h⟩ := chk_s h
    obtain ⟨g_20, hg_21, h⟩ := lett_s h
    refine as_Mlows C0 M hi_19 hg_21 dX5_turn_114 (fun H locs M => ?_)
    refine lv_aload_n hx hb dX5_turn_115 rfl (lv_at hl 1 rfl) ?_
    refine gf_RX5_29 C0 M dX5_turn_116 ?_
    refine lv_iconst (v := 3) hx hb dX5_turn_119 (by decide) ?_
    refine lv_iload_n hx hb dX5_turn_120 rfl (lv_at hl 0 rfl) ?_
    refine lv_imul hx hb dX5_turn_121 ?_
    refine lv_iconst (v := 1) hx hb dX5_turn_122 (by decide) ?_
    refine lv_iadd hx hb dX5_turn_123 ?_
    refine lv_aload_n hx hb dX5_turn_124 rfl (lv_at hl 1 rfl) ?_
    refine gf_RX5_29 C0 M dX5_turn_125 ?_
    refine lv_iconst (v := 3) hx hb dX5_turn_128 (by decide) ?_
    refine lv_iload_n hx hb dX5_turn_129 rfl (lv_at hl 2 rfl) ?_
    refine lv_imul hx hb dX5_turn_130 ?_
    obtain ⟨hi_22, h⟩ := chk_s h
    refine al_Mhighs C0 M hi_22 dX5_turn_131 ?_
    obtain ⟨hi_23, h⟩ := chk_s h
    obtain ⟨g_24, hg_25, h⟩ := lett_s h
    refine as_Mhighs C0 M hi_23 hg_25 dX5_turn_132 (fun H locs M => ?_)
    refine lv_aload_n hx hb dX5_turn_133 rfl (lv_at hl 1 rfl) ?_
    refine gf_RX5_38 C0 M dX5_turn_134 ?_
    refine lv_aload_n hx hb dX5_turn_137 rfl (lv_at hl 1 rfl) ?_
    refine gf_RX5_32 C0 M dX5_turn_138 ?_
    refine lv_iload_n hx hb dX5_turn_141 rfl (lv_at hl 2 rfl) ?_
    obtain ⟨hi_26, h⟩ := chk_s h
    refine al_MrowOf C0 M hi_26 dX5_turn_142 ?_
    obtain ⟨hi_27, h⟩ := chk_s h
    refine al_MrowSize C0 M hi_27 dX5_turn_143 ?_
    obtain ⟨x_28, hn_29, h⟩ := lett_s h
    refine nm_i hn_29 ?_
    refine lv_istore (lv' := [(4, .int x_28), (3, .int x_8), (0, .ref (sb 13)), (1, .int x1), (2, .int x2)]) hx hb dX5_turn_144 hl (by decide) rfl (fun ls hl => ?_)
    refine lv_aload_n hx hb dX5_turn_146 rfl (lv_at hl 2 rfl) ?_
    refine gf_RX5_32 C0 M dX5_turn_147 ?_
    refine lv_iload_n hx hb dX5_turn_150 rfl (lv_at hl 1 rfl) ?_
    refine lv_aload_n hx hb dX5_turn_151 rfl (lv_at hl 2 rfl) ?_
    refine lv_iload hx hb dX5_turn_152 (lv_at hl 0 rfl) ?_
    obtain ⟨⟨x_31, g_32⟩, hc_30, h⟩ := bnd_s h
    try dsimp only at h
    refine kV (As := [.int x_28]) (rest := [.int x_8, .ref (sb 20)]) (stk := [.int x_31, .int x_8, .ref (sb 20)]) (val := (some (.int x_31))) (c1 := 0) (s1 := 0) C0 M (k_X5_newRow hc_30) kw_12_22 Y_X5_newRow (rv_X5 C0 M) ⟨Nat.le_of_ble_eq_true rfl, Nat.le_of_ble_eq_true rfl⟩ rfl hl.1 rfl (Nat.le_of_ble_eq_true rfl) dX5_turn_154 rfl rfl ⟨Nat.le_refl _, Nat.le_refl _⟩ rfl (fun H locs M => ?_)
    obtain ⟨hi_33, h⟩ := chk_s h
    obtain ⟨g_34, hg_35, h⟩ := lett_s h
    refine as_MrowOf C0 M hi_33 hg_35 dX5_turn_157 (fun H locs M => ?_)
    refine lv_iload hx hb dX5_turn_158 (lv_at hl 0 rfl) ?_
    refine lv_if_ne (tgt := 167) hx hb dX5_turn_160 (by decide) (fun c_36 => ?_) (fun c_36 => ?_)
    · rw [if_neg c_36] at h
      refine lv_aload_n hx hb dX5_turn_167 rfl (lv_at hl 2 rfl) ?_
      refine lv_iload_n hx hb dX5_turn_168 rfl (lv_at hl 3 rfl) ?_
      refine lv_iconst (v := 1) hx hb dX5_turn_169 (by decide) ?_
      obtain ⟨y_38, hc_37, h⟩ := bnd_s h
      refine kV (As := [.int x1, .int (1 : Int32)]) (rest := []) (stk := [.long y_38]) (val := (some (.long y_38))) (c1 := 0) (s1 := 0) C0 M (k_X5_lengthOf hc_37) kw_12_18 Y_X5_lengthOf (rv_X5 C0 M) ⟨Nat.le_of_ble_eq_true rfl, Nat.le_of_ble_eq_true rfl⟩ rfl hl.1 rfl (Nat.le_of_ble_eq_true rfl) dX5_turn_170 rfl rfl ⟨Nat.le_refl _, Nat.le_refl _⟩ rfl (fun H locs M => ?_)
      refine lv_l2i hx hb dX5_turn_173 rfl ?_
      exact w_X5_turn_J174 C0 hr hk (lv_sub hl [2, 3, 1, 0] rfl) M h
    · rw [if_pos c_36] at h
      refine lv_iconst (v := 1) hx hb dX5_turn_163 (by decide) ?_
      refine lv_goto (tgt := 174) hx hb dX5_turn_164 (by decide) ?_
      exact w_X5_turn_J174 C0 hr hk (lv_sub hl [2, 3, 1, 0] rfl) M h
  · rw [if_neg c_5] at h
    refine lv_aload_n hx hb dX5_turn_43 rfl (lv_at hl 0 rfl) ?_
    refine lv_iload_n hx hb dX5_turn_44 rfl (lv_at hl 2 rfl) ?_
    obtain ⟨⟨x_76, g_77⟩, hc_75, h⟩ := bnd_s h
    try dsimp only at h
    refine kV (As := [.int x2]) (rest := []) (stk := [.int x_76]) (val := (some (.int x_76))) (c1 := 0) (s1 := 0) C0 M (k_X5_no hc_75) kw_6_8 Y_X5_no (rv_X5 C0 M) ⟨Nat.le_of_ble_eq_true rfl, Nat.le_of_ble_eq_true rfl⟩ rfl hl.1 rfl (Nat.le_of_ble_eq_true rfl) dX5_turn_45 rfl rfl ⟨Nat.le_refl _, Nat.le_refl _⟩ rfl (fun H locs M => ?_)
    obtain rfl := Option.some.inj h
    exact rt_i C0 M hr hk dX5_turn_48
set_option maxHeartbeats 4000000 in
set_option maxRecDepth 100000 in
theorem w_X5_turn_J23 {x1 : Int32} {x2 : Int32} (C0 : Cx p s m args c cX5_turn 12 RX5 D cy) (hr : meth.sig.returnType = (some .int)) (hk : meth.locks = false) {res : Int32 × Gs} (hl : lv_has ls 12 [(0, .ref (sb 13)), (1, .int x1), (2, .int x2)]) (M : Ws D b0 cy sb db g s H locs) (h : m_X5_turn_J23 x1 x2 g = some res) : W p l e ({ frames := 3, cells := 0, slots := 0, locals := 67 } : Room) s m args below meth c H locs 0 0 (MQ below (QX (some (.int res.1)) D b0 cy sb db res.2) args s 0 0 (fun q => b0 ≤ q)) (F0 m 23 ls []) := by
  obtain ⟨hx, hb, hml, hown, hts, hK⟩ := id C0
  rw [m_X5_turn_J23] at h
  refine lv_iload_n hx hb dX5_turn_23 rfl (lv_at hl 2 rfl) ?_
  refine lv_if_ne (tgt := 39) hx hb dX5_turn_24 (by decide) (fun c_4 => ?_) (fun c_4 => ?_)
  · rw [if_neg c_4] at h
    exact w_X5_turn_J39 C0 hr hk hl M h
  · rw [if_pos c_4] at h
    refine lv_aload_n hx hb dX5_turn_27 rfl (lv_at hl 0 rfl) ?_
    refine gf_RX5_98 C0 M dX5_turn_28 ?_
    refine lv_bipush (v := 24) hx hb dX5_turn_31 (by decide) ?_
    refine lv_icmp_ne (tgt := 39) hx hb dX5_turn_33 (by decide) (fun c_78 => ?_) (fun c_78 => ?_)
    · rw [if_neg c_78] at h
      exact w_X5_turn_J39 C0 hr hk hl M h
    · rw [if_pos c_78] at h
      refine lv_bipush (v := 8) hx hb dX5_turn_36 (by decide) ?_
      obtain ⟨x_79, hn_80, h⟩ := lett_s h
      refine nm_i hn_80 ?_
      refine lv_istore_n (lv' := [(2, .int x_79), (0, .ref (sb 13)), (1, .int x1)]) hx hb dX5_turn_38 rfl hl (by decide) rfl (fun ls hl => ?_)
      exact w_X5_turn_J39 C0 hr hk (lv_sub hl [1, 2, 0] rfl) M h
set_option maxHeartbeats 4000000 in
set_option maxRecDepth 100000 in
theorem w_X5_turn {x1 : Int32} (C0 : Cx p s m args c cX5_turn 12 RX5 D cy) (hr : meth.sig.returnType = (some .int)) (hk : meth.locks = false) {res : Int32 × Gs} (hl : lv_has ls 12 [(0, .ref (sb 13)), (1, .int x1)]) (M : Ws D b0 cy sb db g s H locs) (h : m_X5_turn x1 g = some res) : W p l e ({ frames := 3, cells := 0, slots := 0, locals := 67 } : Room) s m args below meth c H locs 0 0 (MQ below (QX (some (.int res.1)) D b0 cy sb db res.2) args s 0 0 (fun q => b0 ≤ q)) (F0 m 0 ls []) := by
  obtain ⟨hx, hb, hml, hown, hts, hK⟩ := id C0
  rw [m_X5_turn] at h
  refine lv_aload_n hx hb dX5_turn_0 rfl (lv_at hl 0 rfl) ?_
  refine lv_iload_n hx hb dX5_turn_1 rfl (lv_at hl 1 rfl) ?_
  obtain ⟨x_2, hc_1, h⟩ := bnd_s h
  refine kV (As := [.int x1]) (rest := []) (stk := [.int x_2]) (val := (some (.int x_2))) (c1 := 0) (s1 := 0) C0 M (k_X5_wants hc_1) kw_14_9 Y_X5_wants (rv_X5 C0 M) ⟨Nat.le_of_ble_eq_true rfl, Nat.le_of_ble_eq_true rfl⟩ rfl hl.1 rfl (Nat.le_of_ble_eq_true rfl) dX5_turn_2 rfl rfl ⟨Nat.le_refl _, Nat.le_refl _⟩ rfl (fun H locs M => ?_)
  refine lv_istore_n (lv' := [(2, .int x_2), (0, .ref (sb 13)), (1, .int x1)]) hx hb dX5_turn_5 rfl hl (by decide) rfl (fun ls hl => ?_)
  refine lv_iload_n hx hb dX5_turn_6 rfl (lv_at hl 0 rfl) ?_
  refine lv_if_ne (tgt := 23) hx hb dX5_turn_7 (by decide) (fun c_3 => ?_) (fun c_3 => ?_)
  · rw [if_neg c_3] at h
    exact w_X5_turn_J23 C0 hr hk (lv_sub hl [1, 2, 0] rfl) M h
  · rw [if_pos c_3] at h
    refine lv_aload_n hx hb dX5_turn_10 rfl (lv_at hl 1 rfl) ?_
    refine gf_RX5_23 C0 M dX5_turn_11 ?_
    refine lv_iload_n hx hb dX5_turn_14 rfl (lv_at hl 2 rfl) ?_
    obtain ⟨hi_81, h⟩ := chk_s h
    refine al_Mranks C0 M hi_81 dX5_turn_15 ?_
    refine lv_iconst (v := 1) hx hb dX5_turn_16 (by decide) ?_
    refine lv_icmp_ne (tgt := 23) hx hb dX5_turn_17 (by decide) (fun c_82 => ?_) (fun c_82 => ?_)
    · rw [if_neg c_82] at h
      exact w_X5_turn_J23 C0 hr hk (lv_sub hl [1, 2, 0] rfl) M h
    · rw [if_pos c_82] at h
      refine lv_bipush (v := 9) hx hb dX5_turn_20 (by decide) ?_
      obtain ⟨x_83, hn_84, h⟩ := lett_s h
      refine nm_i hn_84 ?_
      refine lv_istore_n (lv' := [(2, .int x_83), (0, .ref (sb 13)), (1, .int x1)]) hx hb dX5_turn_22 rfl hl (by decide) rfl (fun ls hl => ?_)
      exact w_X5_turn_J23 C0 hr hk (lv_sub hl [1, 2, 0] rfl) M h
theorem k_X5_turn {x1 : Int32} {res : Int32 × Gs} (h : m_X5_turn x1 g = some res) : CM l yX5_turn cX5_turn 12 (some .int) ({ frames := 3, cells := 0, slots := 0, locals := 67 } : Room) [.ref (sb 13), .int x1] (some (.int res.1)) D b0 cy sb db g res.2 := by
  refine Met.ofW (cc := cX5_turn) (maxL := 12) (ret := (some .int)) (by decide) rfl ?_
  intro p e s m args below meth c s₁ B hml hv
  obtain ⟨rfl, hW, hK⟩ := hv
  have hl := lv_entry [.ref (sb 13), .int x1] (n := 12) (Nat.le_of_ble_eq_true rfl)
  rw [lg_entry_eq]
  generalize (lg_sl [.ref (sb 13), .int x1] ++ List.replicate (12 - (lg_sl [.ref (sb 13), .int x1]).length) Slot.unset).toArray = ls at hl ⊢
  have hl : lv_has ls 12 [(0, .ref (sb 13)), (1, .int x1)] := hl
  exact w_X5_turn ⟨B.exec, B.bytes, hml, findClass_of_methodNamed B.named, fun w hw => atoms_spec (ws := Cond.code yX5_turn cX5_turn 12 (some .int) :: wsL_law) B.pre w (List.mem_cons_of_mem _ hw), hK⟩ B.returns B.notSynchronized hl ⟨hW, va_S.rf⟩ h
theorem Y_X5_turn : Yv yX5_turn RX5 cX5_turn 12 (some .int) 1 := ⟨⟨kw_15_20, kw_1_5, by decide +kernel, by decide +kernel, by decide +kernel⟩, kw_15_18, kw_15_19⟩
-- X5_placeOf
def m_X5_placeOf_L6 (x1 : Int32) (x2 : Int32) (x3 : Int32) (x4 : Int32) : Nat → Int64 → Int32 → Gs → Option ((Int32 × Gs) ⊕ (Int64 × Gs))
  | 0, _, _, _ => none
  | fu + 1, y5, x7, g =>
  chk (inb x1 24) (if (g.1 27 0 x1.toNatClampNeg) ≤ x7 then (some (.inr (y5, g))) else (if x7 = 0 then (chk (inb (((3 : Int32) * x1) + x7) 72) (chk (inb (((3 : Int32) * x1) + x7) 72) ((m_X5_within x2.toInt64 ((g.1 28 0 (((3 : Int32) * x1) + x7).toNatClampNeg).toInt64) ((g.1 29 0 (((3 : Int32) * x1) + x7).toNatClampNeg).toInt64) g).bind fun x_40 => if x_40 = 0 then (lett (sI g 44 0 0 x7) fun g_49 => some (.inl ((-1 : Int32), g_49))) else ((m_X5_lengthOf x1 x7 g).bind fun y_43 => chk (inb (((3 : Int32) * x1) + x7) 72) (lett ((y5 * y_43) + (x2.toInt64 - (g.1 28 0 (((3 : Int32) * x1) + x7).toNatClampNeg).toInt64)) fun y_45 => lett (x7 + 1) fun x_47 => m_X5_placeOf_L6 x1 x2 x3 x4 fu y_45 x_47 g))))) else (if x7 = (1 : Int32) then (chk (inb (((3 : Int32) * x1) + x7) 72) (chk (inb (((3 : Int32) * x1) + x7) 72) ((m_X5_within x3.toInt64 ((g.1 28 0 (((3 : Int32) * x1) + x7).toNatClampNeg).toInt64) ((g.1 29 0 (((3 : Int32) * x1) + x7).toNatClampNeg).toInt64) g).bind fun x_26 => if x_26 = 0 then (lett (sI g 44 0 0 x7) fun g_35 => some (.inl ((-1 : Int32), g_35))) else ((m_X5_lengthOf x1 x7 g).bind fun y_29 => chk (inb (((3 : Int32) * x1) + x7) 72) (lett ((y5 * y_29) + (x3.toInt64 - (g.1 28 0 (((3 : Int32) * x1) + x7).toNatClampNeg).toInt64)) fun y_31 => lett (x7 + 1) fun x_33 => m_X5_placeOf_L6 x1 x2 x3 x4 fu y_31 x_33 g))))) else (chk (inb (((3 : Int32) * x1) + x7) 72) (chk (inb (((3 : Int32) * x1) + x7) 72) ((m_X5_within x4.toInt64 ((g.1 28 0 (((3 : Int32) * x1) + x7).toNatClampNeg).toInt64) ((g.1 29 0 (((3 : Int32) * x1) + x7).toNatClampNeg).toInt64) g).bind fun x_12 => if x_12 = 0 then (lett (sI g 44 0 0 x7) fun g_21 => some (.inl ((-1 : Int32), g_21))) else ((m_X5_lengthOf x1 x7 g).bind fun y_15 => chk (inb (((3 : Int32) * x1) + x7) 72) (lett ((y5 * y_15) + (x4.toInt64 - (g.1 28 0 (((3 : Int32) * x1) + x7).toNatClampNeg).toInt64)) fun y_17 => lett (x7 + 1) fun x_19 => m_X5_placeOf_L6 x1 x2 x3 x4 fu y_17 x_19 g))))))))
def m_X5_placeOf (x1 : Int32) (x2 : Int32) (x3 : Int32) (x4 : Int32) (g : Gs) : Option (Int32 × Gs) :=
  lett (0 : Int64) fun y_1 => lett (0 : Int32) fun x_3 => (m_X5_placeOf_L6 x1 x2 x3 x4 FU y_1 x_3 g).bind fun q_53 => exi q_53 (fun r => some r) fun (y_51, g_52) => some (y_51.toInt32, g_52)
set_option maxHeartbeats 4000000 in
set_option maxRecDepth 100000 in
theorem w_X5_placeOf_L6 {x1 : Int32} {x2 : Int32} {x3 : Int32} {x4 : Int32} (C0 : Cx p s m args c cX5_placeOf 9 RX5 D cy) (hr : meth.sig.returnType = (some .int)) (hk : meth.locks = false) {res : Int32 × Gs} {q : (Int32 × Gs) ⊕ (Int64 × Gs)} (hret : ∀ r, q = .inl r → r = res) (kk : ∀ (y5 : Int64) (g : Gs) (H : Heap) (locs : List Loc) (ls : Array Slot), q = .inr (y5, g) → lv_has ls 9 [(5, .long y5)] → Ws D b0 cy sb db g s H locs → W p l e ({ frames := 2, cells := 0, slots := 0, locals := 45 } : Room) s m args below meth c H locs 0 0 (MQ below (QX (some (.int res.1)) D b0 cy sb db res.2) args s 0 0 (fun q => b0 ≤ q)) (F0 m 116 ls [])) : ∀ (fu : Nat) (y5 : Int64) (x7 : Int32) (g : Gs) (H : Heap) (locs : List Loc) (ls : Array Slot), lv_has ls 9 [(0, .ref (sb 13)), (1, .int x1), (2, .int x2), (3, .int x3), (4, .int x4), (5, .long y5), (7, .int x7)] → Ws D b0 cy sb db g s H locs → m_X5_placeOf_L6 x1 x2 x3 x4 fu y5 x7 g = some q → W p l e ({ frames := 2, cells := 0, slots := 0, locals := 45 } : Room) s m args below meth c H locs 0 0 (MQ below (QX (some (.int res.1)) D b0 cy sb db res.2) args s 0 0 (fun q => b0 ≤ q)) (F0 m 6 ls []) := by
  obtain ⟨hx, hb, hml, hown, hts, hK⟩ := id C0
  intro fu
  induction fu with
  | zero =>
    intro y5 x7 g H locs ls hl M h
    cases h
  | succ fu ih =>
    intro y5 x7 g H locs ls hl M h
    rw [m_X5_placeOf_L6] at h
    refine lv_iload hx hb dX5_placeOf_6 (lv_at hl 6 rfl) ?_
    refine lv_aload_n hx hb dX5_placeOf_8 rfl (lv_at hl 0 rfl) ?_
    refine gf_RX5_23 C0 M dX5_placeOf_9 ?_
    refine lv_iload_n hx hb dX5_placeOf_12 rfl (lv_at hl 1 rfl) ?_
    obtain ⟨hi_5, h⟩ := chk_s h
    refine al_Mranks C0 M hi_5 dX5_placeOf_13 ?_
    refine lv_icmp_ge (tgt := 116) hx hb dX5_placeOf_14 (by decide) (fun c_6 => ?_) (fun c_6 => ?_)
    · rw [if_pos c_6] at h
      exact kk _ _ _ _ _ (Option.some.inj h).symm (lv_sub hl [5] rfl) M
    · rw [if_neg c_6] at h
      refine lv_iload hx hb dX5_placeOf_17 (lv_at hl 6 rfl) ?_
      refine lv_if_ne (tgt := 26) hx hb dX5_placeOf_19 (by decide) (fun c_7 => ?_) (fun c_7 => ?_)
      · rw [if_neg c_7] at h
        refine lv_iload hx hb dX5_placeOf_26 (lv_at hl 6 rfl) ?_
        refine lv_iconst (v := 1) hx hb dX5_placeOf_28 (by decide) ?_
        refine lv_icmp_ne (tgt := 36) hx hb dX5_placeOf_29 (by decide) (fun c_8 => ?_) (fun c_8 => ?_)
        · rw [if_neg c_8] at h
          refine lv_iload hx hb dX5_placeOf_36 (lv_at hl 4 rfl) ?_
          refine lv_istore (lv' := [(8, .int x4), (0, .ref (sb 13)), (1, .int x1), (2, .int x2), (3, .int x3), (4, .int x4), (5, .long y5), (7, .int x7)]) hx hb dX5_placeOf_38 hl (by decide) rfl (fun ls hl => ?_)
          refine lv_iload hx hb dX5_placeOf_40 (lv_at hl 0 rfl) ?_
          refine lv_i2l hx hb dX5_placeOf_42 rfl ?_
          refine lv_aload_n hx hb dX5_placeOf_43 rfl (lv_at hl 1 rfl) ?_
          refine gf_RX5_26 C0 M dX5_placeOf_44 ?_
          refine lv_iconst (v := 3) hx hb dX5_placeOf_47 (by decide) ?_
          refine lv_iload_n hx hb dX5_placeOf_48 rfl (lv_at hl 2 rfl) ?_
          refine lv_imul hx hb dX5_placeOf_49 ?_
          refine lv_iload hx hb dX5_placeOf_50 (lv_at hl 7 rfl) ?_
          refine lv_iadd hx hb dX5_placeOf_52 ?_
          obtain ⟨hi_9, h⟩ := chk_s h
          refine al_Mlows C0 M hi_9 dX5_placeOf_53 ?_
          refine lv_i2l hx hb dX5_placeOf_54 rfl ?_
          refine lv_aload_n hx hb dX5_placeOf_55 rfl (lv_at hl 1 rfl) ?_
          refine gf_RX5_29 C0 M dX5_placeOf_56 ?_
          refine lv_iconst (v := 3) hx hb dX5_placeOf_59 (by decide) ?_
          refine lv_iload_n hx hb dX5_placeOf_60 rfl (lv_at hl 2 rfl) ?_
          refine lv_imul hx hb dX5_placeOf_61 ?_
          refine lv_iload hx hb dX5_placeOf_62 (lv_at hl 7 rfl) ?_
          refine lv_iadd hx hb dX5_placeOf_64 ?_
          obtain ⟨hi_10, h⟩ := chk_s h
          refine al_Mhighs C0 M hi_10 dX5_placeOf_65 ?_
          refine lv_i2l hx hb dX5_placeOf_66 rfl ?_
          obtain ⟨x_12, hc_11, h⟩ := bnd_s h
          refine kS (As := [.long x4.toInt64, .long ((g.1 28 0 (((3 : Int32) * x1) + x7).toNatClampNeg).toInt64), .long ((g.1 29 0 (((3 : Int32) * x1) + x7).toNatClampNeg).toInt64)]) (rest := []) (stk := [.int x_12]) (val := (some (.int x_12))) (c1 := 0) (s1 := 0) C0 M (k_X5_within hc_11) kw_11_22 Y_X5_within ⟨Nat.le_of_ble_eq_true rfl, Nat.le_of_ble_eq_true rfl⟩ rfl hl.1 rfl (Nat.le_of_ble_eq_true rfl) dX5_placeOf_67 rfl rfl ⟨Nat.le_refl _, Nat.le_refl _⟩ rfl (fun H locs M => ?_)
          refine lv_if_ne (tgt := 81) hx hb dX5_placeOf_70 (by decide) (fun c_13 => ?_) (fun c_13 => ?_)
          · rw [if_neg c_13] at h
            refine lv_lload hx hb dX5_placeOf_81 (lv_at hl 6 rfl) ?_
            refine lv_aload_n hx hb dX5_placeOf_83 rfl (lv_at hl 1 rfl) ?_
            refine lv_iload_n hx hb dX5_placeOf_84 rfl (lv_at hl 2 rfl) ?_
            refine lv_iload hx hb dX5_placeOf_85 (lv_at hl 7 rfl) ?_
            obtain ⟨y_15, hc_14, h⟩ := bnd_s h
            refine kV (As := [.int x1, .int x7]) (rest := [.long y5]) (stk := [.long y_15, .long y5]) (val := (some (.long y_15))) (c1 := 0) (s1 := 0) C0 M (k_X5_lengthOf hc_14) kw_12_18 Y_X5_lengthOf (rv_X5 C0 M) ⟨Nat.le_of_ble_eq_true rfl, Nat.le_of_ble_eq_true rfl⟩ rfl hl.1 rfl (Nat.le_of_ble_eq_true rfl) dX5_placeOf_87 rfl rfl ⟨Nat.le_refl _, Nat.le_refl _⟩ rfl (fun H locs M => ?_)
            refine lv_lmul hx hb dX5_placeOf_90 ?_
            refine lv_iload hx hb dX5_placeOf_91 (lv_at hl 0 rfl) ?_
            refine lv_i2l hx hb dX5_placeOf_93 rfl ?_
            refine lv_aload_n hx hb dX5_placeOf_94 rfl (lv_at hl 1 rfl) ?_
            refine gf_RX5_26 C0 M dX5_placeOf_95 ?_
            refine lv_iconst (v := 3) hx hb dX5_placeOf_98 (by decide) ?_
            refine lv_iload_n hx hb dX5_placeOf_99 rfl (lv_at hl 2 rfl) ?_
            refine lv_imul hx hb dX5_placeOf_100 ?_
            refine lv_iload hx hb dX5_placeOf_101 (lv_at hl 7 rfl) ?_
            refine lv_iadd hx hb dX5_placeOf_103 ?_
            obtain ⟨hi_16, h⟩ := chk_s h
            refine al_Mlows C0 M hi_16 dX5_placeOf_104 ?_
            refine lv_i2l hx hb dX5_placeOf_105 rfl ?_
            refine lv_lsub hx hb dX5_placeOf_106 ?_
            refine lv_ladd hx hb dX5_placeOf_107 ?_
            obtain ⟨y_17, hn_18, h⟩ := lett_s h
            refine nm_l hn_18 ?_
            refine lv_lstore (lv' := [(5, .long y_17), (8, .int x4), (0, .ref (sb 13)), (1, .int x1), (2, .int x2), (3, .int x3), (4, .int x4), (7, .int x7)]) hx hb dX5_placeOf_108 hl (by decide) rfl (fun ls hl => ?_)
            obtain ⟨x_19, hn_20, h⟩ := lett_s h
            refine lv_iinc (v := x_19) (lv' := [(7, .int x_19), (5, .long y_17), (8, .int x4), (0, .ref (sb 13)), (1, .int x1), (2, .int x2), (3, .int x3), (4, .int x4)]) hx hb dX5_placeOf_110 hl (k := 7) rfl (by rw [hn_20]; rfl) (by decide) rfl (fun ls hl => ?_)
            refine lv_goto (tgt := 6) hx hb dX5_placeOf_113 (by decide) ?_
            exact ih _ _ _ _ _ _ (lv_sub hl [3, 4, 5, 6, 7, 1, 0] rfl) M h
          · rw [if_pos c_13] at h
            refine lv_aload_n hx hb dX5_placeOf_73 rfl (lv_at hl 1 rfl) ?_
            refine lv_iload hx hb dX5_placeOf_74 (lv_at hl 7 rfl) ?_
            obtain ⟨g_21, hg_22, h⟩ := lett_s h
            refine pf_RX5_142 C0 M hg_22 dX5_placeOf_76 (fun H locs M => ?_)
            refine lv_iconst (v := -1) hx hb dX5_placeOf_79 (by decide) ?_
            obtain rfl := Option.some.inj h
            obtain rfl := hret _ rfl
            exact rt_i C0 M hr hk dX5_placeOf_80
        · rw [if_pos c_8] at h
          refine lv_iload_n hx hb dX5_placeOf_32 rfl (lv_at hl 3 rfl) ?_
          refine lv_goto (tgt := 38) hx hb dX5_placeOf_33 (by decide) ?_
          refine lv_istore (lv' := [(8, .int x3), (0, .ref (sb 13)), (1, .int x1), (2, .int x2), (3, .int x3), (4, .int x4), (5, .long y5), (7, .int x7)]) hx hb dX5_placeOf_38 hl (by decide) rfl (fun ls hl => ?_)
          refine lv_iload hx hb dX5_placeOf_40 (lv_at hl 0 rfl) ?_
          refine lv_i2l hx hb dX5_placeOf_42 rfl ?_
          refine lv_aload_n hx hb dX5_placeOf_43 rfl (lv_at hl 1 rfl) ?_
          refine gf_RX5_26 C0 M dX5_placeOf_44 ?_
          refine lv_iconst (v := 3) hx hb dX5_placeOf_47 (by decide) ?_
          refine lv_iload_n hx hb dX5_placeOf_48 rfl (lv_at hl 2 rfl) ?_
          refine lv_imul hx hb dX5_placeOf_49 ?_
          refine lv_iload hx hb dX5_placeOf_50 (lv_at hl 7 rfl) ?_
          refine lv_iadd hx hb dX5_placeOf_52 ?_
          obtain ⟨hi_23, h⟩ := chk_s h
          refine al_Mlows C0 M hi_23 dX5_placeOf_53 ?_
          refine lv_i2l hx hb dX5_placeOf_54 rfl ?_
          refine lv_aload_n hx hb dX5_placeOf_55 rfl (lv_at hl 1 rfl) ?_
          refine gf_RX5_29 C0 M dX5_placeOf_56 ?_
          refine lv_iconst (v := 3) hx hb dX5_placeOf_59 (by decide) ?_
          refine lv_iload_n hx hb dX5_placeOf_60 rfl (lv_at hl 2 rfl) ?_
          refine lv_imul hx hb dX5_placeOf_61 ?_
          refine lv_iload hx hb dX5_placeOf_62 (lv_at hl 7 rfl) ?_
          refine lv_iadd hx hb dX5_placeOf_64 ?_
          obtain ⟨hi_24, h⟩ := chk_s h
          refine al_Mhighs C0 M hi_24 dX5_placeOf_65 ?_
          refine lv_i2l hx hb dX5_placeOf_66 rfl ?_
          obtain ⟨x_26, hc_25, h⟩ := bnd_s h
          refine kS (As := [.long x3.toInt64, .long ((g.1 28 0 (((3 : Int32) * x1) + x7).toNatClampNeg).toInt64), .long ((g.1 29 0 (((3 : Int32) * x1) + x7).toNatClampNeg).toInt64)]) (rest := []) (stk := [.int x_26]) (val := (some (.int x_26))) (c1 := 0) (s1 := 0) C0 M (k_X5_within hc_25) kw_11_22 Y_X5_within ⟨Nat.le_of_ble_eq_true rfl, Nat.le_of_ble_eq_true rfl⟩ rfl hl.1 rfl (Nat.le_of_ble_eq_true rfl) dX5_placeOf_67 rfl rfl ⟨Nat.le_refl _, Nat.le_refl _⟩ rfl (fun H locs M => ?_)
          refine lv_if_ne (tgt := 81) hx hb dX5_placeOf_70 (by decide) (fun c_27 => ?_) (fun c_27 => ?_)
          · rw [if_neg c_27] at h
            refine lv_lload hx hb dX5_placeOf_81 (lv_at hl 6 rfl) ?_
            refine lv_aload_n hx hb dX5_placeOf_83 rfl (lv_at hl 1 rfl) ?_
            refine lv_iload_n hx hb dX5_placeOf_84 rfl (lv_at hl 2 rfl) ?_
            refine lv_iload hx hb dX5_placeOf_85 (lv_at hl 7 rfl) ?_
            obtain ⟨y_29, hc_28, h⟩ := bnd_s h
            refine kV (As := [.int x1, .int x7]) (rest := [.long y5]) (stk := [.long y_29, .long y5]) (val := (some (.long y_29))) (c1 := 0) (s1 := 0) C0 M (k_X5_lengthOf hc_28) kw_12_18 Y_X5_lengthOf (rv_X5 C0 M) ⟨Nat.le_of_ble_eq_true rfl, Nat.le_of_ble_eq_true rfl⟩ rfl hl.1 rfl (Nat.le_of_ble_eq_true rfl) dX5_placeOf_87 rfl rfl ⟨Nat.le_refl _, Nat.le_refl _⟩ rfl (fun H locs M => ?_)
            refine lv_lmul hx hb dX5_placeOf_90 ?_
            refine lv_iload hx hb dX5_placeOf_91 (lv_at hl 0 rfl) ?_
            refine lv_i2l hx hb dX5_placeOf_93 rfl ?_
            refine lv_aload_n hx hb dX5_placeOf_94 rfl (lv_at hl 1 rfl) ?_
            refine gf_RX5_26 C0 M dX5_placeOf_95 ?_
            refine lv_iconst (v := 3) hx hb dX5_placeOf_98 (by decide) ?_
            refine lv_iload_n hx hb dX5_placeOf_99 rfl (lv_at hl 2 rfl) ?_
            refine lv_imul hx hb dX5_placeOf_100 ?_
            refine lv_iload hx hb dX5_placeOf_101 (lv_at hl 7 rfl) ?_
            refine lv_iadd hx hb dX5_placeOf_103 ?_
            obtain ⟨hi_30, h⟩ := chk_s h
            refine al_Mlows C0 M hi_30 dX5_placeOf_104 ?_
            refine lv_i2l hx hb dX5_placeOf_105 rfl ?_
            refine lv_lsub hx hb dX5_placeOf_106 ?_
            refine lv_ladd hx hb dX5_placeOf_107 ?_
            obtain ⟨y_31, hn_32, h⟩ := lett_s h
            refine nm_l hn_32 ?_
            refine lv_lstore (lv' := [(5, .long y_31), (8, .int x3), (0, .ref (sb 13)), (1, .int x1), (2, .int x2), (3, .int x3), (4, .int x4), (7, .int x7)]) hx hb dX5_placeOf_108 hl (by decide) rfl (fun ls hl => ?_)
            obtain ⟨x_33, hn_34, h⟩ := lett_s h
            refine lv_iinc (v := x_33) (lv' := [(7, .int x_33), (5, .long y_31), (8, .int x3), (0, .ref (sb 13)), (1, .int x1), (2, .int x2), (3, .int x3), (4, .int x4)]) hx hb dX5_placeOf_110 hl (k := 7) rfl (by rw [hn_34]; rfl) (by decide) rfl (fun ls hl => ?_)
            refine lv_goto (tgt := 6) hx hb dX5_placeOf_113 (by decide) ?_
            exact ih _ _ _ _ _ _ (lv_sub hl [3, 4, 5, 6, 7, 1, 0] rfl) M h
          · rw [if_pos c_27] at h
            refine lv_aload_n hx hb dX5_placeOf_73 rfl (lv_at hl 1 rfl) ?_
            refine lv_iload hx hb dX5_placeOf_74 (lv_at hl 7 rfl) ?_
            obtain ⟨g_35, hg_36, h⟩ := lett_s h
            refine pf_RX5_142 C0 M hg_36 dX5_placeOf_76 (fun H locs M => ?_)
            refine lv_iconst (v := -1) hx hb dX5_placeOf_79 (by decide) ?_
            obtain rfl := Option.some.inj h
            obtain rfl := hret _ rfl
            exact rt_i C0 M hr hk dX5_placeOf_80
      · rw [if_pos c_7] at h
        refine lv_iload_n hx hb dX5_placeOf_22 rfl (lv_at hl 2 rfl) ?_
        refine lv_goto (tgt := 38) hx hb dX5_placeOf_23 (by decide) ?_
        refine lv_istore (lv' := [(8, .int x2), (0, .ref (sb 13)), (1, .int x1), (2, .int x2), (3, .int x3), (4, .int x4), (5, .long y5), (7, .int x7)]) hx hb dX5_placeOf_38 hl (by decide) rfl (fun ls hl => ?_)
        refine lv_iload hx hb dX5_placeOf_40 (lv_at hl 0 rfl) ?_
        refine lv_i2l hx hb dX5_placeOf_42 rfl ?_
        refine lv_aload_n hx hb dX5_placeOf_43 rfl (lv_at hl 1 rfl) ?_
        refine gf_RX5_26 C0 M dX5_placeOf_44 ?_
        refine lv_iconst (v := 3) hx hb dX5_placeOf_47 (by decide) ?_
        refine lv_iload_n hx hb dX5_placeOf_48 rfl (lv_at hl 2 rfl) ?_
        refine lv_imul hx hb dX5_placeOf_49 ?_
        refine lv_iload hx hb dX5_placeOf_50 (lv_at hl 7 rfl) ?_
        refine lv_iadd hx hb dX5_placeOf_52 ?_
        obtain ⟨hi_37, h⟩ := chk_s h
        refine al_Mlows C0 M hi_37 dX5_placeOf_53 ?_
        refine lv_i2l hx hb dX5_placeOf_54 rfl ?_
        refine lv_aload_n hx hb dX5_placeOf_55 rfl (lv_at hl 1 rfl) ?_
        refine gf_RX5_29 C0 M dX5_placeOf_56 ?_
        refine lv_iconst (v := 3) hx hb dX5_placeOf_59 (by decide) ?_
        refine lv_iload_n hx hb dX5_placeOf_60 rfl (lv_at hl 2 rfl) ?_
        refine lv_imul hx hb dX5_placeOf_61 ?_
        refine lv_iload hx hb dX5_placeOf_62 (lv_at hl 7 rfl) ?_
        refine lv_iadd hx hb dX5_placeOf_64 ?_
        obtain ⟨hi_38, h⟩ := chk_s h
        refine al_Mhighs C0 M hi_38 dX5_placeOf_65 ?_
        refine lv_i2l hx hb dX5_placeOf_66 rfl ?_
        obtain ⟨x_40, hc_39, h⟩ := bnd_s h
        refine kS (As := [.long x2.toInt64, .long ((g.1 28 0 (((3 : Int32) * x1) + x7).toNatClampNeg).toInt64), .long ((g.1 29 0 (((3 : Int32) * x1) + x7).toNatClampNeg).toInt64)]) (rest := []) (stk := [.int x_40]) (val := (some (.int x_40))) (c1 := 0) (s1 := 0) C0 M (k_X5_within hc_39) kw_11_22 Y_X5_within ⟨Nat.le_of_ble_eq_true rfl, Nat.le_of_ble_eq_true rfl⟩ rfl hl.1 rfl (Nat.le_of_ble_eq_true rfl) dX5_placeOf_67 rfl rfl ⟨Nat.le_refl _, Nat.le_refl _⟩ rfl (fun H locs M => ?_)
        refine lv_if_ne (tgt := 81) hx hb dX5_placeOf_70 (by decide) (fun c_41 => ?_) (fun c_41 => ?_)
        · rw [if_neg c_41] at h
          refine lv_lload hx hb dX5_placeOf_81 (lv_at hl 6 rfl) ?_
          refine lv_aload_n hx hb dX5_placeOf_83 rfl (lv_at hl 1 rfl) ?_
          refine lv_iload_n hx hb dX5_placeOf_84 rfl (lv_at hl 2 rfl) ?_
          refine lv_iload hx hb dX5_placeOf_85 (lv_at hl 7 rfl) ?_
          obtain ⟨y_43, hc_42, h⟩ := bnd_s h
          refine kV (As := [.int x1, .int x7]) (rest := [.long y5]) (stk := [.long y_43, .long y5]) (val := (some (.long y_43))) (c1 := 0) (s1 := 0) C0 M (k_X5_lengthOf hc_42) kw_12_18 Y_X5_lengthOf (rv_X5 C0 M) ⟨Nat.le_of_ble_eq_true rfl, Nat.le_of_ble_eq_true rfl⟩ rfl hl.1 rfl (Nat.le_of_ble_eq_true rfl) dX5_placeOf_87 rfl rfl ⟨Nat.le_refl _, Nat.le_refl _⟩ rfl (fun H locs M => ?_)
          refine lv_lmul hx hb dX5_placeOf_90 ?_
          refine lv_iload hx hb dX5_placeOf_91 (lv_at hl 0 rfl) ?_
          refine lv_i2l hx hb dX5_placeOf_93 rfl ?_
          refine lv_aload_n hx hb dX5_placeOf_94 rfl (lv_at hl 1 rfl) ?_
          refine gf_RX5_26 C0 M dX5_placeOf_95 ?_
          refine lv_iconst (v := 3) hx hb dX5_placeOf_98 (by decide) ?_
          refine lv_iload_n hx hb dX5_placeOf_99 rfl (lv_at hl 2 rfl) ?_
          refine lv_imul hx hb dX5_placeOf_100 ?_
          refine lv_iload hx hb dX5_placeOf_101 (lv_at hl 7 rfl) ?_
          refine lv_iadd hx hb dX5_placeOf_103 ?_
          obtain ⟨hi_44, h⟩ := chk_s h
          refine al_Mlows C0 M hi_44 dX5_placeOf_104 ?_
          refine lv_i2l hx hb dX5_placeOf_105 rfl ?_
          refine lv_lsub hx hb dX5_placeOf_106 ?_
          refine lv_ladd hx hb dX5_placeOf_107 ?_
          obtain ⟨y_45, hn_46, h⟩ := lett_s h
          refine nm_l hn_46 ?_
          refine lv_lstore (lv' := [(5, .long y_45), (8, .int x2), (0, .ref (sb 13)), (1, .int x1), (2, .int x2), (3, .int x3), (4, .int x4), (7, .int x7)]) hx hb dX5_placeOf_108 hl (by decide) rfl (fun ls hl => ?_)
          obtain ⟨x_47, hn_48, h⟩ := lett_s h
          refine lv_iinc (v := x_47) (lv' := [(7, .int x_47), (5, .long y_45), (8, .int x2), (0, .ref (sb 13)), (1, .int x1), (2, .int x2), (3, .int x3), (4, .int x4)]) hx hb dX5_placeOf_110 hl (k := 7) rfl (by rw [hn_48]; rfl) (by decide) rfl (fun ls hl => ?_)
          refine lv_goto (tgt := 6) hx hb dX5_placeOf_113 (by decide) ?_
          exact ih _ _ _ _ _ _ (lv_sub hl [3, 4, 5, 6, 7, 1, 0] rfl) M h
        · rw [if_pos c_41] at h
          refine lv_aload_n hx hb dX5_placeOf_73 rfl (lv_at hl 1 rfl) ?_
          refine lv_iload hx hb dX5_placeOf_74 (lv_at hl 7 rfl) ?_
          obtain ⟨g_49, hg_50, h⟩ := lett_s h
          refine pf_RX5_142 C0 M hg_50 dX5_placeOf_76 (fun H locs M => ?_)
          refine lv_iconst (v := -1) hx hb dX5_placeOf_79 (by decide) ?_
          obtain rfl := Option.some.inj h
          obtain rfl := hret _ rfl
          exact rt_i C0 M hr hk dX5_placeOf_80
set_option maxHeartbeats 4000000 in
set_option maxRecDepth 100000 in
theorem w_X5_placeOf {x1 : Int32} {x2 : Int32} {x3 : Int32} {x4 : Int32} (C0 : Cx p s m args c cX5_placeOf 9 RX5 D cy) (hr : meth.sig.returnType = (some .int)) (hk : meth.locks = false) {res : Int32 × Gs} (hl : lv_has ls 9 [(0, .ref (sb 13)), (1, .int x1), (2, .int x2), (3, .int x3), (4, .int x4)]) (M : Ws D b0 cy sb db g s H locs) (h : m_X5_placeOf x1 x2 x3 x4 g = some res) : W p l e ({ frames := 2, cells := 0, slots := 0, locals := 45 } : Room) s m args below meth c H locs 0 0 (MQ below (QX (some (.int res.1)) D b0 cy sb db res.2) args s 0 0 (fun q => b0 ≤ q)) (F0 m 0 ls []) := by
  obtain ⟨hx, hb, hml, hown, hts, hK⟩ := id C0
  rw [m_X5_placeOf] at h
  refine lv_lconst (v := 0) hx hb dX5_placeOf_0 (by decide) ?_
  obtain ⟨y_1, hn_2, h⟩ := lett_s h
  refine nm_l hn_2 ?_
  refine lv_lstore (lv' := [(5, .long y_1), (0, .ref (sb 13)), (1, .int x1), (2, .int x2), (3, .int x3), (4, .int x4)]) hx hb dX5_placeOf_1 hl (by decide) rfl (fun ls hl => ?_)
  refine lv_iconst (v := 0) hx hb dX5_placeOf_3 (by decide) ?_
  obtain ⟨x_3, hn_4, h⟩ := lett_s h
  refine nm_i hn_4 ?_
  refine lv_istore (lv' := [(7, .int x_3), (5, .long y_1), (0, .ref (sb 13)), (1, .int x1), (2, .int x2), (3, .int x3), (4, .int x4)]) hx hb dX5_placeOf_4 hl (by decide) rfl (fun ls hl => ?_)
  obtain ⟨q_53, hq_54, h⟩ := bnd_s h
  refine w_X5_placeOf_L6 C0 hr hk (q := q_53) (fun r hq => ?_) (fun y_51 g_52 H locs ls hq hl M => ?_) FU _ _ _ _ _ _ (lv_sub hl [2, 3, 4, 5, 6, 1, 0] rfl) M hq_54
  · subst hq
    exact Option.some.inj h
  subst q_53
  try dsimp only [exi] at h
  refine lv_lload hx hb dX5_placeOf_116 (lv_at hl 0 rfl) ?_
  refine lv_l2i hx hb dX5_placeOf_118 rfl ?_
  obtain rfl := Option.some.inj h
  exact rt_i C0 M hr hk dX5_placeOf_119
theorem k_X5_placeOf {x1 : Int32} {x2 : Int32} {x3 : Int32} {x4 : Int32} {res : Int32 × Gs} (h : m_X5_placeOf x1 x2 x3 x4 g = some res) : CM l yX5_placeOf cX5_placeOf 9 (some .int) ({ frames := 2, cells := 0, slots := 0, locals := 45 } : Room) [.ref (sb 13), .int x1, .int x2, .int x3, .int x4] (some (.int res.1)) D b0 cy sb db g res.2 := by
  refine Met.ofW (cc := cX5_placeOf) (maxL := 9) (ret := (some .int)) (by decide) rfl ?_
  intro p e s m args below meth c s₁ B hml hv
  obtain ⟨rfl, hW, hK⟩ := hv
  have hl := lv_entry [.ref (sb 13), .int x1, .int x2, .int x3, .int x4] (n := 9) (Nat.le_of_ble_eq_true rfl)
  rw [lg_entry_eq]
  generalize (lg_sl [.ref (sb 13), .int x1, .int x2, .int x3, .int x4] ++ List.replicate (9 - (lg_sl [.ref (sb 13), .int x1, .int x2, .int x3, .int x4]).length) Slot.unset).toArray = ls at hl ⊢
  have hl : lv_has ls 9 [(0, .ref (sb 13)), (1, .int x1), (2, .int x2), (3, .int x3), (4, .int x4)] := hl
  exact w_X5_placeOf ⟨B.exec, B.bytes, hml, findClass_of_methodNamed B.named, fun w hw => atoms_spec (ws := Cond.code yX5_placeOf cX5_placeOf 9 (some .int) :: wsL_law) B.pre w (List.mem_cons_of_mem _ hw), hK⟩ B.returns B.notSynchronized hl ⟨hW, va_S.rf⟩ h
theorem Y_X5_placeOf : Yv yX5_placeOf RX5 cX5_placeOf 9 (some .int) 4 := ⟨⟨kw_17_20, kw_1_5, by decide +kernel, by decide +kernel, by decide +kernel⟩, kw_17_18, kw_17_19⟩
-- X5_index
def m_X5_index (x0 : Int32) (x1 : Int32) (g : Gs) : Option (Int32) :=
  some (x0 + x1)
set_option maxHeartbeats 4000000 in
set_option maxRecDepth 100000 in
theorem w_X5_index {x0 : Int32} {x1 : Int32} (C0 : Cx p s m args c cX5_index 2 RX5 D cy) (hr : meth.sig.returnType = (some .int)) (hk : meth.locks = false) {res : Int32} (hl : lv_has ls 2 [(0, .int x0), (1, .int x1)]) (M : Ws D b0 cy sb db g s H locs) (h : m_X5_index x0 x1 g = some res) : W p l e ({ frames := 0, cells := 0, slots := 0, locals := 0 } : Room) s m args below meth c H locs 0 0 (MQ below (QX (some (.int res)) D b0 cy sb db g) args s 0 0 (fun q => b0 ≤ q)) (F0 m 0 ls []) := by
  obtain ⟨hx, hb, hml, hown, hts, hK⟩ := id C0
  rw [m_X5_index] at h
  refine lv_iload_n hx hb dX5_index_0 rfl (lv_at hl 0 rfl) ?_
  refine lv_iload_n hx hb dX5_index_1 rfl (lv_at hl 1 rfl) ?_
  refine lv_iadd hx hb dX5_index_2 ?_
  obtain rfl := Option.some.inj h
  exact rt_i C0 M hr hk dX5_index_3
theorem k_X5_index {x0 : Int32} {x1 : Int32} {res : Int32} (h : m_X5_index x0 x1 g = some res) : CM l yX5_index cX5_index 2 (some .int) ({ frames := 0, cells := 0, slots := 0, locals := 0 } : Room) [.int x0, .int x1] (some (.int res)) D b0 cy sb db g g := by
  refine Met.ofW (cc := cX5_index) (maxL := 2) (ret := (some .int)) (by decide) rfl ?_
  intro p e s m args below meth c s₁ B hml hv
  obtain ⟨rfl, hW, hK⟩ := hv
  have hl := lv_entry [.int x0, .int x1] (n := 2) (Nat.le_of_ble_eq_true rfl)
  rw [lg_entry_eq]
  generalize (lg_sl [.int x0, .int x1] ++ List.replicate (2 - (lg_sl [.int x0, .int x1]).length) Slot.unset).toArray = ls at hl ⊢
  have hl : lv_has ls 2 [(0, .int x0), (1, .int x1)] := hl
  exact w_X5_index ⟨B.exec, B.bytes, hml, findClass_of_methodNamed B.named, fun w hw => atoms_spec (ws := Cond.code yX5_index cX5_index 2 (some .int) :: wsL_law) B.pre w (List.mem_cons_of_mem _ hw), hK⟩ B.returns B.notSynchronized hl ⟨hW, va_S.rf⟩ h
theorem Y_X5_index : Ys yX5_index cX5_index 2 (some .int) 2 := ⟨⟨kw_17_16, kw_1_5, by decide +kernel, by decide +kernel, by decide +kernel⟩, kw_17_15⟩
-- X5_cut
def m_X5_cut_L125 (x1 : Int32) (x3 : Int32) (x4 : Int32) (x5 : Int32) : Nat → Int32 → Gs → Option ((Int32 × Gs) ⊕ (Gs))
  | 0, _, _ => none
  | fu + 1, x6, g =>
  if x3 ≤ x6 then (some (.inr g)) else (chk (inb (0 : Int32) 3) (chk (¬ x5 = 0) (chk (¬ x4 = 0) ((m_X5_index (g.1 23 0 (0 : Int32).toNatClampNeg) ((x6 / x5) / x4) g).bind fun x_17 => chk (inb (1 : Int32) 3) (chk (¬ x5 = 0) (chk (¬ x4 = 0) ((m_X5_index (g.1 23 0 (1 : Int32).toNatClampNeg) ((x6 / x5) - (x6 / x5) / x4 * x4) g).bind fun x_22 => chk (inb (2 : Int32) 3) (chk (¬ x5 = 0) ((m_X5_index (g.1 23 0 (2 : Int32).toNatClampNeg) (x6 - x6 / x5 * x5) g).bind fun x_26 => (m_X5_placeOf x1 x_17 x_22 x_26 g).bind fun (x_28, g_29) => if x_28 = (-1 : Int32) then ((m_X5_noItem (g_29.1 44 0 0) g_29).bind fun (x_34, g_35) => some (.inl (x_34, g_35))) else (lett (x6 + 1) fun x_31 => m_X5_cut_L125 x1 x3 x4 x5 fu x_31 g_29))))))))))
def m_X5_cut_L247 (x1 : Int32) (x3 : Int32) (x4 : Int32) (x5 : Int32) (x6 : Int32) : Nat → Int32 → Gs → Option (Gs)
  | 0, _, _ => none
  | fu + 1, x7, g =>
  if x3 ≤ x7 then (some g) else (chk (inb (0 : Int32) 3) (chk (¬ x5 = 0) (chk (¬ x4 = 0) ((m_X5_index (g.1 23 0 (0 : Int32).toNatClampNeg) ((x7 / x5) / x4) g).bind fun x_55 => chk (inb (1 : Int32) 3) (chk (¬ x5 = 0) (chk (¬ x4 = 0) ((m_X5_index (g.1 23 0 (1 : Int32).toNatClampNeg) ((x7 / x5) - (x7 / x5) / x4 * x4) g).bind fun x_60 => chk (inb (2 : Int32) 3) (chk (¬ x5 = 0) ((m_X5_index (g.1 23 0 (2 : Int32).toNatClampNeg) (x7 - x7 / x5 * x5) g).bind fun x_64 => (m_X5_placeOf x1 x_55 x_60 x_64 g).bind fun (x_66, g_67) => chk (inb x1 24) (chk (inb (g_67.1 30 0 x1.toNatClampNeg) 13000) (chk (inb x6 24) (chk (inb (g_67.1 30 0 x6.toNatClampNeg) 13000) ((m_X5_copy ((g_67.1 32 0 (g_67.1 30 0 x1.toNatClampNeg).toNatClampNeg) + x_66) ((g_67.1 32 0 (g_67.1 30 0 x6.toNatClampNeg).toNatClampNeg) + x7) g_67).bind fun g_73 => lett (x7 + 1) fun x_74 => m_X5_cut_L247 x1 x3 x4 x5 x6 fu x_74 g_73)))))))))))))
def m_X5_cut_J120 (x1 : Int32) (x3 : Int32) (x4 : Int32) (xs0 : Int32) (g : Gs) : Option (Int32 × Gs) :=
  lett (0 : Int32) fun x_10 => (m_X5_cut_L125 x1 x3 x4 xs0 FU x_10 g).bind fun q_87 => exi q_87 (fun r => some r) fun g_36 => if (g_36.1 25 0 0) = (24 : Int32) then ((m_X5_no (8 : Int32) g_36).bind fun (x_85, g_86) => some (x_85, g_86)) else (chk (inb x1 24) ((m_X5_newArray (g_36.1 26 0 x1.toNatClampNeg) (-1 : Int32) g_36).bind fun (x_40, g_41) => (m_X5_newRow x3 g_41).bind fun (x_43, g_44) => chk (inb x_40 24) (lett (sI g_44 30 0 x_40.toNatClampNeg x_43) fun g_46 => lett (0 : Int32) fun x_48 => (m_X5_cut_L247 x1 x3 x4 xs0 x_40 FU x_48 g_46).bind fun g_76 => lett (sI g_76 22 0 0 (0 : Int32)) fun g_77 => (m_X5_yes x_40 g_77).bind fun (x_80, g_81) => some (x_80, g_81))))
def m_X5_cut_J100 (x1 : Int32) (x3 : Int32) (x4 : Int32) (g : Gs) : Option (Int32 × Gs) :=
  m_X5_cut_J120 x1 x3 x4 (1 : Int32) g
def m_X5_cut_J86 (x1 : Int32) (x3 : Int32) (xs0 : Int32) (g : Gs) : Option (Int32 × Gs) :=
  if x3 = 0 then (m_X5_cut_J100 x1 x3 xs0 g) else (if (3 : Int32) ≤ (g.1 22 0 0) then (chk (inb (2 : Int32) 3) (chk (inb (2 : Int32) 3) ((m_X5_length (g.1 23 0 (2 : Int32).toNatClampNeg) (g.1 24 0 (2 : Int32).toNatClampNeg) g).bind fun y_93 => m_X5_cut_J120 x1 x3 xs0 y_93.toInt32 g))) else (m_X5_cut_J100 x1 x3 xs0 g))
def m_X5_cut_J66 (x1 : Int32) (x3 : Int32) (g : Gs) : Option (Int32 × Gs) :=
  m_X5_cut_J86 x1 x3 (1 : Int32) g
def m_X5_cut_J44 (x1 : Int32) (x2 : Int32) (x3 : Int32) (g : Gs) : Option (Int32 × Gs) :=
  if x2 = 0 then (if x3 = 0 then (m_X5_cut_J66 x1 x3 g) else (if (2 : Int32) ≤ (g.1 22 0 0) then (chk (inb (1 : Int32) 3) (chk (inb (1 : Int32) 3) ((m_X5_length (g.1 23 0 (1 : Int32).toNatClampNeg) (g.1 24 0 (1 : Int32).toNatClampNeg) g).bind fun y_98 => m_X5_cut_J86 x1 x3 y_98.toInt32 g))) else (m_X5_cut_J66 x1 x3 g))) else ((m_X5_no x2 g).bind fun (x_100, g_101) => some (x_100, g_101))
def m_X5_cut_J26 (x1 : Int32) (x2 : Int32) (g : Gs) : Option (Int32 × Gs) :=
  (m_X5_shapeItems  g).bind fun x_5 => if x2 = 0 then (if x_5 ≤ (500 : Int32) then (m_X5_cut_J44 x1 x2 x_5 g) else (lett (5 : Int32) fun x_103 => m_X5_cut_J44 x1 x_103 x_5 g)) else (m_X5_cut_J44 x1 x2 x_5 g)
def m_X5_cut (x1 : Int32) (g : Gs) : Option (Int32 × Gs) :=
  (m_X5_wants x1 g).bind fun x_2 => if x_2 = 0 then (chk (inb x1 24) (if (g.1 22 0 0) = (g.1 27 0 x1.toNatClampNeg) then (m_X5_cut_J26 x1 x_2 g) else (lett (9 : Int32) fun x_107 => m_X5_cut_J26 x1 x_107 g))) else (m_X5_cut_J26 x1 x_2 g)
set_option maxHeartbeats 4000000 in
set_option maxRecDepth 100000 in
theorem w_X5_cut_L125 {x1 : Int32} {x3 : Int32} {x4 : Int32} {x5 : Int32} (C0 : Cx p s m args c cX5_cut 9 RX5 D cy) (hr : meth.sig.returnType = (some .int)) (hk : meth.locks = false) {res : Int32 × Gs} {q : (Int32 × Gs) ⊕ (Gs)} (hret : ∀ r, q = .inl r → r = res) (kk : ∀ (g : Gs) (H : Heap) (locs : List Loc) (ls : Array Slot), q = .inr g → lv_has ls 9 [(0, .ref (sb 13)), (1, .int x1), (3, .int x3), (4, .int x4), (5, .int x5)] → Ws D b0 cy sb db g s H locs → W p l e ({ frames := 3, cells := 0, slots := 0, locals := 73 } : Room) s m args below meth c H locs 0 0 (MQ below (QX (some (.int res.1)) D b0 cy sb db res.2) args s 0 0 (fun q => b0 ≤ q)) (F0 m 203 ls [])) : ∀ (fu : Nat) (x6 : Int32) (g : Gs) (H : Heap) (locs : List Loc) (ls : Array Slot), lv_has ls 9 [(0, .ref (sb 13)), (1, .int x1), (3, .int x3), (4, .int x4), (5, .int x5), (6, .int x6)] → Ws D b0 cy sb db g s H locs → m_X5_cut_L125 x1 x3 x4 x5 fu x6 g = some q → W p l e ({ frames := 3, cells := 0, slots := 0, locals := 73 } : Room) s m args below meth c H locs 0 0 (MQ below (QX (some (.int res.1)) D b0 cy sb db res.2) args s 0 0 (fun q => b0 ≤ q)) (F0 m 125 ls []) := by
  obtain ⟨hx, hb, hml, hown, hts, hK⟩ := id C0
  intro fu
  induction fu with
  | zero =>
    intro x6 g H locs ls hl M h
    cases h
  | succ fu ih =>
    intro x6 g H locs ls hl M h
    rw [m_X5_cut_L125] at h
    refine lv_iload hx hb dX5_cut_125 (lv_at hl 5 rfl) ?_
    refine lv_iload_n hx hb dX5_cut_127 rfl (lv_at hl 2 rfl) ?_
    refine lv_icmp_ge (tgt := 203) hx hb dX5_cut_128 (by decide) (fun c_12 => ?_) (fun c_12 => ?_)
    · rw [if_pos c_12] at h
      exact kk _ _ _ _ (Option.some.inj h).symm (lv_sub hl [0, 1, 2, 3, 4] rfl) M
    · rw [if_neg c_12] at h
      refine lv_aload_n hx hb dX5_cut_131 rfl (lv_at hl 0 rfl) ?_
      refine lv_iload_n hx hb dX5_cut_132 rfl (lv_at hl 1 rfl) ?_
      refine lv_aload_n hx hb dX5_cut_133 rfl (lv_at hl 0 rfl) ?_
      refine gf_RX5_13 C0 M dX5_cut_134 ?_
      refine lv_iconst (v := 0) hx hb dX5_cut_137 (by decide) ?_
      obtain ⟨hi_13, h⟩ := chk_s h
      refine al_Mlow C0 M hi_13 dX5_cut_138 ?_
      refine lv_iload hx hb dX5_cut_139 (lv_at hl 5 rfl) ?_
      refine lv_iload hx hb dX5_cut_141 (lv_at hl 4 rfl) ?_
      obtain ⟨hd_14, h⟩ := chk_s h
      refine lv_idiv hx hb dX5_cut_143 hd_14 ?_
      refine lv_iload hx hb dX5_cut_144 (lv_at hl 3 rfl) ?_
      obtain ⟨hd_15, h⟩ := chk_s h
      refine lv_idiv hx hb dX5_cut_146 hd_15 ?_
      obtain ⟨x_17, hc_16, h⟩ := bnd_s h
      refine kS (As := [.int (g.1 23 0 (0 : Int32).toNatClampNeg), .int ((x6 / x5) / x4)]) (rest := [.int x1, .ref (sb 13)]) (stk := [.int x_17, .int x1, .ref (sb 13)]) (val := (some (.int x_17))) (c1 := 0) (s1 := 0) C0 M (k_X5_index hc_16) kw_17_14 Y_X5_index ⟨Nat.le_of_ble_eq_true rfl, Nat.le_of_ble_eq_true rfl⟩ rfl hl.1 rfl (Nat.le_of_ble_eq_true rfl) dX5_cut_147 rfl rfl ⟨Nat.le_refl _, Nat.le_refl _⟩ rfl (fun H locs M => ?_)
      refine lv_aload_n hx hb dX5_cut_150 rfl (lv_at hl 0 rfl) ?_
      refine gf_RX5_13 C0 M dX5_cut_151 ?_
      refine lv_iconst (v := 1) hx hb dX5_cut_154 (by decide) ?_
      obtain ⟨hi_18, h⟩ := chk_s h
      refine al_Mlow C0 M hi_18 dX5_cut_155 ?_
      refine lv_iload hx hb dX5_cut_156 (lv_at hl 5 rfl) ?_
      refine lv_iload hx hb dX5_cut_158 (lv_at hl 4 rfl) ?_
      obtain ⟨hd_19, h⟩ := chk_s h
      refine lv_idiv hx hb dX5_cut_160 hd_19 ?_
      refine lv_iload hx hb dX5_cut_161 (lv_at hl 3 rfl) ?_
      obtain ⟨hd_20, h⟩ := chk_s h
      refine lv_irem hx hb dX5_cut_163 hd_20 ?_
      obtain ⟨x_22, hc_21, h⟩ := bnd_s h
      refine kS (As := [.int (g.1 23 0 (1 : Int32).toNatClampNeg), .int ((x6 / x5) - (x6 / x5) / x4 * x4)]) (rest := [.int x_17, .int x1, .ref (sb 13)]) (stk := [.int x_22, .int x_17, .int x1, .ref (sb 13)]) (val := (some (.int x_22))) (c1 := 0) (s1 := 0) C0 M (k_X5_index hc_21) kw_17_14 Y_X5_index ⟨Nat.le_of_ble_eq_true rfl, Nat.le_of_ble_eq_true rfl⟩ rfl hl.1 rfl (Nat.le_of_ble_eq_true rfl) dX5_cut_164 rfl rfl ⟨Nat.le_refl _, Nat.le_refl _⟩ rfl (fun H locs M => ?_)
      refine lv_aload_n hx hb dX5_cut_167 rfl (lv_at hl 0 rfl) ?_
      refine gf_RX5_13 C0 M dX5_cut_168 ?_
      refine lv_iconst (v := 2) hx hb dX5_cut_171 (by decide) ?_
      obtain ⟨hi_23, h⟩ := chk_s h
      refine al_Mlow C0 M hi_23 dX5_cut_172 ?_
      refine lv_iload hx hb dX5_cut_173 (lv_at hl 5 rfl) ?_
      refine lv_iload hx hb dX5_cut_175 (lv_at hl 4 rfl) ?_
      obtain ⟨hd_24, h⟩ := chk_s h
      refine lv_irem hx hb dX5_cut_177 hd_24 ?_
      obtain ⟨x_26, hc_25, h⟩ := bnd_s h
      refine kS (As := [.int (g.1 23 0 (2 : Int32).toNatClampNeg), .int (x6 - x6 / x5 * x5)]) (rest := [.int x_22, .int x_17, .int x1, .ref (sb 13)]) (stk := [.int x_26, .int x_22, .int x_17, .int x1, .ref (sb 13)]) (val := (some (.int x_26))) (c1 := 0) (s1 := 0) C0 M (k_X5_index hc_25) kw_17_14 Y_X5_index ⟨Nat.le_of_ble_eq_true rfl, Nat.le_of_ble_eq_true rfl⟩ rfl hl.1 rfl (Nat.le_of_ble_eq_true rfl) dX5_cut_178 rfl rfl ⟨Nat.le_refl _, Nat.le_refl _⟩ rfl (fun H locs M => ?_)
      obtain ⟨⟨x_28, g_29⟩, hc_27, h⟩ := bnd_s h
      try dsimp only at h
      refine kV (As := [.int x1, .int x_17, .int x_22, .int x_26]) (rest := []) (stk := [.int x_28]) (val := (some (.int x_28))) (c1 := 0) (s1 := 0) C0 M (k_X5_placeOf hc_27) kw_17_17 Y_X5_placeOf (rv_X5 C0 M) ⟨Nat.le_of_ble_eq_true rfl, Nat.le_of_ble_eq_true rfl⟩ rfl hl.1 rfl (Nat.le_of_ble_eq_true rfl) dX5_cut_181 rfl rfl ⟨Nat.le_refl _, Nat.le_refl _⟩ rfl (fun H locs M => ?_)
      refine lv_iconst (v := -1) hx hb dX5_cut_184 (by decide) ?_
      refine lv_icmp_ne (tgt := 197) hx hb dX5_cut_185 (by decide) (fun c_30 => ?_) (fun c_30 => ?_)
      · rw [if_neg c_30] at h
        obtain ⟨x_31, hn_32, h⟩ := lett_s h
        refine lv_iinc (v := x_31) (lv' := [(6, .int x_31), (0, .ref (sb 13)), (1, .int x1), (3, .int x3), (4, .int x4), (5, .int x5)]) hx hb dX5_cut_197 hl (k := 5) rfl (by rw [hn_32]; rfl) (by decide) rfl (fun ls hl => ?_)
        refine lv_goto (tgt := 125) hx hb dX5_cut_200 (by decide) ?_
        exact ih _ _ _ _ _ (lv_sub hl [1, 2, 3, 4, 5, 0] rfl) M h
      · rw [if_pos c_30] at h
        refine lv_aload_n hx hb dX5_cut_188 rfl (lv_at hl 0 rfl) ?_
        refine lv_aload_n hx hb dX5_cut_189 rfl (lv_at hl 0 rfl) ?_
        refine gf_RX5_142 C0 M dX5_cut_190 ?_
        obtain ⟨⟨x_34, g_35⟩, hc_33, h⟩ := bnd_s h
        try dsimp only at h
        refine kV (As := [.int (g_29.1 44 0 0)]) (rest := []) (stk := [.int x_34]) (val := (some (.int x_34))) (c1 := 0) (s1 := 0) C0 M (k_X5_noItem hc_33) kw_17_21 Y_X5_noItem (rv_X5 C0 M) ⟨Nat.le_of_ble_eq_true rfl, Nat.le_of_ble_eq_true rfl⟩ rfl hl.1 rfl (Nat.le_of_ble_eq_true rfl) dX5_cut_193 rfl rfl ⟨Nat.le_refl _, Nat.le_refl _⟩ rfl (fun H locs M => ?_)
        obtain rfl := Option.some.inj h
        obtain rfl := hret _ rfl
        exact rt_i C0 M hr hk dX5_cut_196
set_option maxHeartbeats 4000000 in
set_option maxRecDepth 100000 in
theorem w_X5_cut_L247 {x1 : Int32} {x3 : Int32} {x4 : Int32} {x5 : Int32} {x6 : Int32} (C0 : Cx p s m args c cX5_cut 9 RX5 D cy) (hr : meth.sig.returnType = (some .int)) (hk : meth.locks = false) {res : Int32 × Gs} {q : Gs} (kk : ∀ (g : Gs) (H : Heap) (locs : List Loc) (ls : Array Slot), q = g → lv_has ls 9 [(0, .ref (sb 13)), (6, .int x6)] → Ws D b0 cy sb db g s H locs → W p l e ({ frames := 3, cells := 0, slots := 0, locals := 73 } : Room) s m args below meth c H locs 0 0 (MQ below (QX (some (.int res.1)) D b0 cy sb db res.2) args s 0 0 (fun q => b0 ≤ q)) (F0 m 347 ls [])) : ∀ (fu : Nat) (x7 : Int32) (g : Gs) (H : Heap) (locs : List Loc) (ls : Array Slot), lv_has ls 9 [(0, .ref (sb 13)), (1, .int x1), (3, .int x3), (4, .int x4), (5, .int x5), (6, .int x6), (7, .int x7)] → Ws D b0 cy sb db g s H locs → m_X5_cut_L247 x1 x3 x4 x5 x6 fu x7 g = some q → W p l e ({ frames := 3, cells := 0, slots := 0, locals := 73 } : Room) s m args below meth c H locs 0 0 (MQ below (QX (some (.int res.1)) D b0 cy sb db res.2) args s 0 0 (fun q => b0 ≤ q)) (F0 m 247 ls []) := by
  obtain ⟨hx, hb, hml, hown, hts, hK⟩ := id C0
  intro fu
  induction fu with
  | zero =>
    intro x7 g H locs ls hl M h
    cases h
  | succ fu ih =>
    intro x7 g H locs ls hl M h
    rw [m_X5_cut_L247] at h
    refine lv_iload hx hb dX5_cut_247 (lv_at hl 6 rfl) ?_
    refine lv_iload_n hx hb dX5_cut_249 rfl (lv_at hl 2 rfl) ?_
    refine lv_icmp_ge (tgt := 347) hx hb dX5_cut_250 (by decide) (fun c_50 => ?_) (fun c_50 => ?_)
    · rw [if_pos c_50] at h
      exact kk _ _ _ _ (Option.some.inj h).symm (lv_sub hl [0, 5] rfl) M
    · rw [if_neg c_50] at h
      refine lv_aload_n hx hb dX5_cut_253 rfl (lv_at hl 0 rfl) ?_
      refine lv_iload_n hx hb dX5_cut_254 rfl (lv_at hl 1 rfl) ?_
      refine lv_aload_n hx hb dX5_cut_255 rfl (lv_at hl 0 rfl) ?_
      refine gf_RX5_13 C0 M dX5_cut_256 ?_
      refine lv_iconst (v := 0) hx hb dX5_cut_259 (by decide) ?_
      obtain ⟨hi_51, h⟩ := chk_s h
      refine al_Mlow C0 M hi_51 dX5_cut_260 ?_
      refine lv_iload hx hb dX5_cut_261 (lv_at hl 6 rfl) ?_
      refine lv_iload hx hb dX5_cut_263 (lv_at hl 4 rfl) ?_
      obtain ⟨hd_52, h⟩ := chk_s h
      refine lv_idiv hx hb dX5_cut_265 hd_52 ?_
      refine lv_iload hx hb dX5_cut_266 (lv_at hl 3 rfl) ?_
      obtain ⟨hd_53, h⟩ := chk_s h
      refine lv_idiv hx hb dX5_cut_268 hd_53 ?_
      obtain ⟨x_55, hc_54, h⟩ := bnd_s h
      refine kS (As := [.int (g.1 23 0 (0 : Int32).toNatClampNeg), .int ((x7 / x5) / x4)]) (rest := [.int x1, .ref (sb 13)]) (stk := [.int x_55, .int x1, .ref (sb 13)]) (val := (some (.int x_55))) (c1 := 0) (s1 := 0) C0 M (k_X5_index hc_54) kw_17_14 Y_X5_index ⟨Nat.le_of_ble_eq_true rfl, Nat.le_of_ble_eq_true rfl⟩ rfl hl.1 rfl (Nat.le_of_ble_eq_true rfl) dX5_cut_269 rfl rfl ⟨Nat.le_refl _, Nat.le_refl _⟩ rfl (fun H locs M => ?_)
      refine lv_aload_n hx hb dX5_cut_272 rfl (lv_at hl 0 rfl) ?_
      refine gf_RX5_13 C0 M dX5_cut_273 ?_
      refine lv_iconst (v := 1) hx hb dX5_cut_276 (by decide) ?_
      obtain ⟨hi_56, h⟩ := chk_s h
      refine al_Mlow C0 M hi_56 dX5_cut_277 ?_
      refine lv_iload hx hb dX5_cut_278 (lv_at hl 6 rfl) ?_
      refine lv_iload hx hb dX5_cut_280 (lv_at hl 4 rfl) ?_
      obtain ⟨hd_57, h⟩ := chk_s h
      refine lv_idiv hx hb dX5_cut_282 hd_57 ?_
      refine lv_iload hx hb dX5_cut_283 (lv_at hl 3 rfl) ?_
      obtain ⟨hd_58, h⟩ := chk_s h
      refine lv_irem hx hb dX5_cut_285 hd_58 ?_
      obtain ⟨x_60, hc_59, h⟩ := bnd_s h
      refine kS (As := [.int (g.1 23 0 (1 : Int32).toNatClampNeg), .int ((x7 / x5) - (x7 / x5) / x4 * x4)]) (rest := [.int x_55, .int x1, .ref (sb 13)]) (stk := [.int x_60, .int x_55, .int x1, .ref (sb 13)]) (val := (some (.int x_60))) (c1 := 0) (s1 := 0) C0 M (k_X5_index hc_59) kw_17_14 Y_X5_index ⟨Nat.le_of_ble_eq_true rfl, Nat.le_of_ble_eq_true rfl⟩ rfl hl.1 rfl (Nat.le_of_ble_eq_true rfl) dX5_cut_286 rfl rfl ⟨Nat.le_refl _, Nat.le_refl _⟩ rfl (fun H locs M => ?_)
      refine lv_aload_n hx hb dX5_cut_289 rfl (lv_at hl 0 rfl) ?_
      refine gf_RX5_13 C0 M dX5_cut_290 ?_
      refine lv_iconst (v := 2) hx hb dX5_cut_293 (by decide) ?_
      obtain ⟨hi_61, h⟩ := chk_s h
      refine al_Mlow C0 M hi_61 dX5_cut_294 ?_
      refine lv_iload hx hb dX5_cut_295 (lv_at hl 6 rfl) ?_
      refine lv_iload hx hb dX5_cut_297 (lv_at hl 4 rfl) ?_
      obtain ⟨hd_62, h⟩ := chk_s h
      refine lv_irem hx hb dX5_cut_299 hd_62 ?_
      obtain ⟨x_64, hc_63, h⟩ := bnd_s h
      refine kS (As := [.int (g.1 23 0 (2 : Int32).toNatClampNeg), .int (x7 - x7 / x5 * x5)]) (rest := [.int x_60, .int x_55, .int x1, .ref (sb 13)]) (stk := [.int x_64, .int x_60, .int x_55, .int x1, .ref (sb 13)]) (val := (some (.int x_64))) (c1 := 0) (s1 := 0) C0 M (k_X5_index hc_63) kw_17_14 Y_X5_index ⟨Nat.le_of_ble_eq_true rfl, Nat.le_of_ble_eq_true rfl⟩ rfl hl.1 rfl (Nat.le_of_ble_eq_true rfl) dX5_cut_300 rfl rfl ⟨Nat.le_refl _, Nat.le_refl _⟩ rfl (fun H locs M => ?_)
      obtain ⟨⟨x_66, g_67⟩, hc_65, h⟩ := bnd_s h
      try dsimp only at h
      refine kV (As := [.int x1, .int x_55, .int x_60, .int x_64]) (rest := []) (stk := [.int x_66]) (val := (some (.int x_66))) (c1 := 0) (s1 := 0) C0 M (k_X5_placeOf hc_65) kw_17_17 Y_X5_placeOf (rv_X5 C0 M) ⟨Nat.le_of_ble_eq_true rfl, Nat.le_of_ble_eq_true rfl⟩ rfl hl.1 rfl (Nat.le_of_ble_eq_true rfl) dX5_cut_303 rfl rfl ⟨Nat.le_refl _, Nat.le_refl _⟩ rfl (fun H locs M => ?_)
      refine lv_istore (lv' := [(8, .int x_66), (0, .ref (sb 13)), (1, .int x1), (3, .int x3), (4, .int x4), (5, .int x5), (6, .int x6), (7, .int x7)]) hx hb dX5_cut_306 hl (by decide) rfl (fun ls hl => ?_)
      refine lv_aload_n hx hb dX5_cut_308 rfl (lv_at hl 1 rfl) ?_
      refine lv_aload_n hx hb dX5_cut_309 rfl (lv_at hl 1 rfl) ?_
      refine gf_RX5_35 C0 M dX5_cut_310 ?_
      refine lv_aload_n hx hb dX5_cut_313 rfl (lv_at hl 1 rfl) ?_
      refine gf_RX5_32 C0 M dX5_cut_314 ?_
      refine lv_iload_n hx hb dX5_cut_317 rfl (lv_at hl 2 rfl) ?_
      obtain ⟨hi_68, h⟩ := chk_s h
      refine al_MrowOf C0 M hi_68 dX5_cut_318 ?_
      obtain ⟨hi_69, h⟩ := chk_s h
      refine al_MrowAt C0 M hi_69 dX5_cut_319 ?_
      refine lv_iload hx hb dX5_cut_320 (lv_at hl 0 rfl) ?_
      refine lv_iadd hx hb dX5_cut_322 ?_
      refine lv_aload_n hx hb dX5_cut_323 rfl (lv_at hl 1 rfl) ?_
      refine gf_RX5_35 C0 M dX5_cut_324 ?_
      refine lv_aload_n hx hb dX5_cut_327 rfl (lv_at hl 1 rfl) ?_
      refine gf_RX5_32 C0 M dX5_cut_328 ?_
      refine lv_iload hx hb dX5_cut_331 (lv_at hl 6 rfl) ?_
      obtain ⟨hi_70, h⟩ := chk_s h
      refine al_MrowOf C0 M hi_70 dX5_cut_333 ?_
      obtain ⟨hi_71, h⟩ := chk_s h
      refine al_MrowAt C0 M hi_71 dX5_cut_334 ?_
      refine lv_iload hx hb dX5_cut_335 (lv_at hl 7 rfl) ?_
      refine lv_iadd hx hb dX5_cut_337 ?_
      obtain ⟨g_73, hc_72, h⟩ := bnd_s h
      refine kV (As := [.int ((g_67.1 32 0 (g_67.1 30 0 x1.toNatClampNeg).toNatClampNeg) + x_66), .int ((g_67.1 32 0 (g_67.1 30 0 x6.toNatClampNeg).toNatClampNeg) + x7)]) (rest := []) (stk := []) (val := none) (c1 := 0) (s1 := 0) C0 M (k_X5_copy hc_72) kw_15_21 Y_X5_copy (rv_X5 C0 M) ⟨Nat.le_of_ble_eq_true rfl, Nat.le_of_ble_eq_true rfl⟩ rfl hl.1 rfl (Nat.le_of_ble_eq_true rfl) dX5_cut_338 rfl rfl ⟨Nat.le_refl _, Nat.le_refl _⟩ rfl (fun H locs M => ?_)
      obtain ⟨x_74, hn_75, h⟩ := lett_s h
      refine lv_iinc (v := x_74) (lv' := [(7, .int x_74), (8, .int x_66), (0, .ref (sb 13)), (1, .int x1), (3, .int x3), (4, .int x4), (5, .int x5), (6, .int x6)]) hx hb dX5_cut_341 hl (k := 7) rfl (by rw [hn_75]; rfl) (by decide) rfl (fun ls hl => ?_)
      refine lv_goto (tgt := 247) hx hb dX5_cut_344 (by decide) ?_
      exact ih _ _ _ _ _ (lv_sub hl [2, 3, 4, 5, 6, 7, 0] rfl) M h
set_option maxHeartbeats 4000000 in
set_option maxRecDepth 100000 in
theorem w_X5_cut_J120 {x1 : Int32} {x3 : Int32} {x4 : Int32} {xs0 : Int32} (C0 : Cx p s m args c cX5_cut 9 RX5 D cy) (hr : meth.sig.returnType = (some .int)) (hk : meth.locks = false) {res : Int32 × Gs} (hl : lv_has ls 9 [(0, .ref (sb 13)), (1, .int x1), (3, .int x3), (4, .int x4)]) (M : Ws D b0 cy sb db g s H locs) (h : m_X5_cut_J120 x1 x3 x4 xs0 g = some res) : W p l e ({ frames := 3, cells := 0, slots := 0, locals := 73 } : Room) s m args below meth c H locs 0 0 (MQ below (QX (some (.int res.1)) D b0 cy sb db res.2) args s 0 0 (fun q => b0 ≤ q)) (F0 m 120 ls [.int xs0]) := by
  obtain ⟨hx, hb, hml, hown, hts, hK⟩ := id C0
  rw [m_X5_cut_J120] at h
  refine lv_istore (lv' := [(5, .int xs0), (0, .ref (sb 13)), (1, .int x1), (3, .int x3), (4, .int x4)]) hx hb dX5_cut_120 hl (by decide) rfl (fun ls hl => ?_)
  refine lv_iconst (v := 0) hx hb dX5_cut_122 (by decide) ?_
  obtain ⟨x_10, hn_11, h⟩ := lett_s h
  refine nm_i hn_11 ?_
  refine lv_istore (lv' := [(6, .int x_10), (5, .int xs0), (0, .ref (sb 13)), (1, .int x1), (3, .int x3), (4, .int x4)]) hx hb dX5_cut_123 hl (by decide) rfl (fun ls hl => ?_)
  obtain ⟨q_87, hq_88, h⟩ := bnd_s h
  refine w_X5_cut_L125 C0 hr hk (q := q_87) (fun r hq => ?_) (fun g_36 H locs ls hq hl M => ?_) FU _ _ _ _ _ (lv_sub hl [2, 3, 4, 5, 1, 0] rfl) M hq_88
  · subst hq
    exact Option.some.inj h
  subst q_87
  try dsimp only [exi] at h
  refine lv_aload_n hx hb dX5_cut_203 rfl (lv_at hl 0 rfl) ?_
  refine gf_RX5_98 C0 M dX5_cut_204 ?_
  refine lv_bipush (v := 24) hx hb dX5_cut_207 (by decide) ?_
  refine lv_icmp_ne (tgt := 219) hx hb dX5_cut_209 (by decide) (fun c_37 => ?_) (fun c_37 => ?_)
  · rw [if_neg c_37] at h
    refine lv_aload_n hx hb dX5_cut_219 rfl (lv_at hl 0 rfl) ?_
    refine lv_aload_n hx hb dX5_cut_220 rfl (lv_at hl 0 rfl) ?_
    refine gf_RX5_20 C0 M dX5_cut_221 ?_
    refine lv_iload_n hx hb dX5_cut_224 rfl (lv_at hl 1 rfl) ?_
    obtain ⟨hi_38, h⟩ := chk_s h
    refine al_Mkinds C0 M hi_38 dX5_cut_225 ?_
    refine lv_iconst (v := -1) hx hb dX5_cut_226 (by decide) ?_
    obtain ⟨⟨x_40, g_41⟩, hc_39, h⟩ := bnd_s h
    try dsimp only at h
    refine kV (As := [.int (g_36.1 26 0 x1.toNatClampNeg), .int (-1 : Int32)]) (rest := []) (stk := [.int x_40]) (val := (some (.int x_40))) (c1 := 0) (s1 := 0) C0 M (k_X5_newArray hc_39) kw_12_9 Y_X5_newArray (rv_X5 C0 M) ⟨Nat.le_of_ble_eq_true rfl, Nat.le_of_ble_eq_true rfl⟩ rfl hl.1 rfl (Nat.le_of_ble_eq_true rfl) dX5_cut_227 rfl rfl ⟨Nat.le_refl _, Nat.le_refl _⟩ rfl (fun H locs M => ?_)
    refine lv_istore (lv' := [(6, .int x_40), (0, .ref (sb 13)), (1, .int x1), (3, .int x3), (4, .int x4), (5, .int xs0)]) hx hb dX5_cut_230 hl (by decide) rfl (fun ls hl => ?_)
    refine lv_aload_n hx hb dX5_cut_232 rfl (lv_at hl 1 rfl) ?_
    refine gf_RX5_32 C0 M dX5_cut_233 ?_
    refine lv_iload hx hb dX5_cut_236 (lv_at hl 0 rfl) ?_
    refine lv_aload_n hx hb dX5_cut_238 rfl (lv_at hl 1 rfl) ?_
    refine lv_iload_n hx hb dX5_cut_239 rfl (lv_at hl 3 rfl) ?_
    obtain ⟨⟨x_43, g_44⟩, hc_42, h⟩ := bnd_s h
    try dsimp only at h
    refine kV (As := [.int x3]) (rest := [.int x_40, .ref (sb 20)]) (stk := [.int x_43, .int x_40, .ref (sb 20)]) (val := (some (.int x_43))) (c1 := 0) (s1 := 0) C0 M (k_X5_newRow hc_42) kw_12_22 Y_X5_newRow (rv_X5 C0 M) ⟨Nat.le_of_ble_eq_true rfl, Nat.le_of_ble_eq_true rfl⟩ rfl hl.1 rfl (Nat.le_of_ble_eq_true rfl) dX5_cut_240 rfl rfl ⟨Nat.le_refl _, Nat.le_refl _⟩ rfl (fun H locs M => ?_)
    obtain ⟨hi_45, h⟩ := chk_s h
    obtain ⟨g_46, hg_47, h⟩ := lett_s h
    refine as_MrowOf C0 M hi_45 hg_47 dX5_cut_243 (fun H locs M => ?_)
    refine lv_iconst (v := 0) hx hb dX5_cut_244 (by decide) ?_
    obtain ⟨x_48, hn_49, h⟩ := lett_s h
    refine nm_i hn_49 ?_
    refine lv_istore (lv' := [(7, .int x_48), (6, .int x_40), (0, .ref (sb 13)), (1, .int x1), (3, .int x3), (4, .int x4), (5, .int xs0)]) hx hb dX5_cut_245 hl (by decide) rfl (fun ls hl => ?_)
    obtain ⟨q_82, hq_83, h⟩ := bnd_s h
    refine w_X5_cut_L247 C0 hr hk (q := q_82) (fun g_76 H locs ls hq hl M => ?_) FU _ _ _ _ _ (lv_sub hl [2, 3, 4, 5, 6, 1, 0] rfl) M hq_83
    subst q_82
    try dsimp only at h
    refine lv_aload_n hx hb dX5_cut_347 rfl (lv_at hl 0 rfl) ?_
    refine lv_iconst (v := 0) hx hb dX5_cut_348 (by decide) ?_
    obtain ⟨g_77, hg_78, h⟩ := lett_s h
    refine pf_RX5_72 C0 M hg_78 dX5_cut_349 (fun H locs M => ?_)
    refine lv_aload_n hx hb dX5_cut_352 rfl (lv_at hl 0 rfl) ?_
    refine lv_iload hx hb dX5_cut_353 (lv_at hl 1 rfl) ?_
    obtain ⟨⟨x_80, g_81⟩, hc_79, h⟩ := bnd_s h
    try dsimp only at h
    refine kV (As := [.int x_40]) (rest := []) (stk := [.int x_80]) (val := (some (.int x_80))) (c1 := 0) (s1 := 0) C0 M (k_X5_yes hc_79) kw_6_12 Y_X5_yes (rv_X5 C0 M) ⟨Nat.le_of_ble_eq_true rfl, Nat.le_of_ble_eq_true rfl⟩ rfl hl.1 rfl (Nat.le_of_ble_eq_true rfl) dX5_cut_355 rfl rfl ⟨Nat.le_refl _, Nat.le_refl _⟩ rfl (fun H locs M => ?_)
    obtain rfl := Option.some.inj h
    exact rt_i C0 M hr hk dX5_cut_358
  · rw [if_pos c_37] at h
    refine lv_aload_n hx hb dX5_cut_212 rfl (lv_at hl 0 rfl) ?_
    refine lv_bipush (v := 8) hx hb dX5_cut_213 (by decide) ?_
    obtain ⟨⟨x_85, g_86⟩, hc_84, h⟩ := bnd_s h
    try dsimp only at h
    refine kV (As := [.int (8 : Int32)]) (rest := []) (stk := [.int x_85]) (val := (some (.int x_85))) (c1 := 0) (s1 := 0) C0 M (k_X5_no hc_84) kw_6_8 Y_X5_no (rv_X5 C0 M) ⟨Nat.le_of_ble_eq_true rfl, Nat.le_of_ble_eq_true rfl⟩ rfl hl.1 rfl (Nat.le_of_ble_eq_true rfl) dX5_cut_215 rfl rfl ⟨Nat.le_refl _, Nat.le_refl _⟩ rfl (fun H locs M => ?_)
    obtain rfl := Option.some.inj h
    exact rt_i C0 M hr hk dX5_cut_218
set_option maxHeartbeats 4000000 in
set_option maxRecDepth 100000 in
theorem w_X5_cut_J100 {x1 : Int32} {x3 : Int32} {x4 : Int32} (C0 : Cx p s m args c cX5_cut 9 RX5 D cy) (hr : meth.sig.returnType = (some .int)) (hk : meth.locks = false) {res : Int32 × Gs} (hl : lv_has ls 9 [(0, .ref (sb 13)), (1, .int x1), (3, .int x3), (4, .int x4)]) (M : Ws D b0 cy sb db g s H locs) (h : m_X5_cut_J100 x1 x3 x4 g = some res) : W p l e ({ frames := 3, cells := 0, slots := 0, locals := 73 } : Room) s m args below meth c H locs 0 0 (MQ below (QX (some (.int res.1)) D b0 cy sb db res.2) args s 0 0 (fun q => b0 ≤ q)) (F0 m 100 ls []) := by
  obtain ⟨hx, hb, hml, hown, hts, hK⟩ := id C0
  rw [m_X5_cut_J100] at h
  refine lv_iconst (v := 1) hx hb dX5_cut_100 (by decide) ?_
  refine lv_goto (tgt := 120) hx hb dX5_cut_101 (by decide) ?_
  exact w_X5_cut_J120 C0 hr hk hl M h
set_option maxHeartbeats 4000000 in
set_option maxRecDepth 100000 in
theorem w_X5_cut_J86 {x1 : Int32} {x3 : Int32} {xs0 : Int32} (C0 : Cx p s m args c cX5_cut 9 RX5 D cy) (hr : meth.sig.returnType = (some .int)) (hk : meth.locks = false) {res : Int32 × Gs} (hl : lv_has ls 9 [(0, .ref (sb 13)), (1, .int x1), (3, .int x3)]) (M : Ws D b0 cy sb db g s H locs) (h : m_X5_cut_J86 x1 x3 xs0 g = some res) : W p l e ({ frames := 3, cells := 0, slots := 0, locals := 73 } : Room) s m args below meth c H locs 0 0 (MQ below (QX (some (.int res.1)) D b0 cy sb db res.2) args s 0 0 (fun q => b0 ≤ q)) (F0 m 86 ls [.int xs0]) := by
  obtain ⟨hx, hb, hml, hown, hts, hK⟩ := id C0
  rw [m_X5_cut_J86] at h
  refine lv_istore (lv' := [(4, .int xs0), (0, .ref (sb 13)), (1, .int x1), (3, .int x3)]) hx hb dX5_cut_86 hl (by decide) rfl (fun ls hl => ?_)
  refine lv_iload_n hx hb dX5_cut_88 rfl (lv_at hl 3 rfl) ?_
  refine lv_if_eq (tgt := 100) hx hb dX5_cut_89 (by decide) (fun c_9 => ?_) (fun c_9 => ?_)
  · rw [if_pos c_9] at h
    exact w_X5_cut_J100 C0 hr hk (lv_sub hl [1, 2, 3, 0] rfl) M h
  · rw [if_neg c_9] at h
    refine lv_aload_n hx hb dX5_cut_92 rfl (lv_at hl 1 rfl) ?_
    refine gf_RX5_72 C0 M dX5_cut_93 ?_
    refine lv_iconst (v := 3) hx hb dX5_cut_96 (by decide) ?_
    refine lv_icmp_ge (tgt := 104) hx hb dX5_cut_97 (by decide) (fun c_89 => ?_) (fun c_89 => ?_)
    · rw [if_pos c_89] at h
      refine lv_aload_n hx hb dX5_cut_104 rfl (lv_at hl 1 rfl) ?_
      refine gf_RX5_13 C0 M dX5_cut_105 ?_
      refine lv_iconst (v := 2) hx hb dX5_cut_108 (by decide) ?_
      obtain ⟨hi_90, h⟩ := chk_s h
      refine al_Mlow C0 M hi_90 dX5_cut_109 ?_
      refine lv_aload_n hx hb dX5_cut_110 rfl (lv_at hl 1 rfl) ?_
      refine gf_RX5_17 C0 M dX5_cut_111 ?_
      refine lv_iconst (v := 2) hx hb dX5_cut_114 (by decide) ?_
      obtain ⟨hi_91, h⟩ := chk_s h
      refine al_Mhigh C0 M hi_91 dX5_cut_115 ?_
      obtain ⟨y_93, hc_92, h⟩ := bnd_s h
      refine kS (As := [.int (g.1 23 0 (2 : Int32).toNatClampNeg), .int (g.1 24 0 (2 : Int32).toNatClampNeg)]) (rest := []) (stk := [.long y_93]) (val := (some (.long y_93))) (c1 := 0) (s1 := 0) C0 M (k_X5_length hc_92) kw_12_6 Y_X5_length ⟨Nat.le_of_ble_eq_true rfl, Nat.le_of_ble_eq_true rfl⟩ rfl hl.1 rfl (Nat.le_of_ble_eq_true rfl) dX5_cut_116 rfl rfl ⟨Nat.le_refl _, Nat.le_refl _⟩ rfl (fun H locs M => ?_)
      refine lv_l2i hx hb dX5_cut_119 rfl ?_
      exact w_X5_cut_J120 C0 hr hk (lv_sub hl [1, 2, 3, 0] rfl) M h
    · rw [if_neg c_89] at h
      exact w_X5_cut_J100 C0 hr hk (lv_sub hl [1, 2, 3, 0] rfl) M h
set_option maxHeartbeats 4000000 in
set_option maxRecDepth 100000 in
theorem w_X5_cut_J66 {x1 : Int32} {x3 : Int32} (C0 : Cx p s m args c cX5_cut 9 RX5 D cy) (hr : meth.sig.returnType = (some .int)) (hk : meth.locks = false) {res : Int32 × Gs} (hl : lv_has ls 9 [(0, .ref (sb 13)), (1, .int x1), (3, .int x3)]) (M : Ws D b0 cy sb db g s H locs) (h : m_X5_cut_J66 x1 x3 g = some res) : W p l e ({ frames := 3, cells := 0, slots := 0, locals := 73 } : Room) s m args below meth c H locs 0 0 (MQ below (QX (some (.int res.1)) D b0 cy sb db res.2) args s 0 0 (fun q => b0 ≤ q)) (F0 m 66 ls []) := by
  obtain ⟨hx, hb, hml, hown, hts, hK⟩ := id C0
  rw [m_X5_cut_J66] at h
  refine lv_iconst (v := 1) hx hb dX5_cut_66 (by decide) ?_
  refine lv_goto (tgt := 86) hx hb dX5_cut_67 (by decide) ?_
  exact w_X5_cut_J86 C0 hr hk hl M h
set_option maxHeartbeats 4000000 in
set_option maxRecDepth 100000 in
theorem w_X5_cut_J44 {x1 : Int32} {x2 : Int32} {x3 : Int32} (C0 : Cx p s m args c cX5_cut 9 RX5 D cy) (hr : meth.sig.returnType = (some .int)) (hk : meth.locks = false) {res : Int32 × Gs} (hl : lv_has ls 9 [(0, .ref (sb 13)), (1, .int x1), (2, .int x2), (3, .int x3)]) (M : Ws D b0 cy sb db g s H locs) (h : m_X5_cut_J44 x1 x2 x3 g = some res) : W p l e ({ frames := 3, cells := 0, slots := 0, locals := 73 } : Room) s m args below meth c H locs 0 0 (MQ below (QX (some (.int res.1)) D b0 cy sb db res.2) args s 0 0 (fun q => b0 ≤ q)) (F0 m 44 ls []) := by
  obtain ⟨hx, hb, hml, hown, hts, hK⟩ := id C0
  rw [m_X5_cut_J44] at h
  refine lv_iload_n hx hb dX5_cut_44 rfl (lv_at hl 2 rfl) ?_
  refine lv_if_eq (tgt := 54) hx hb dX5_cut_45 (by decide) (fun c_7 => ?_) (fun c_7 => ?_)
  · rw [if_pos c_7] at h
    refine lv_iload_n hx hb dX5_cut_54 rfl (lv_at hl 3 rfl) ?_
    refine lv_if_eq (tgt := 66) hx hb dX5_cut_55 (by decide) (fun c_8 => ?_) (fun c_8 => ?_)
    · rw [if_pos c_8] at h
      exact w_X5_cut_J66 C0 hr hk (lv_sub hl [0, 1, 3] rfl) M h
    · rw [if_neg c_8] at h
      refine lv_aload_n hx hb dX5_cut_58 rfl (lv_at hl 0 rfl) ?_
      refine gf_RX5_72 C0 M dX5_cut_59 ?_
      refine lv_iconst (v := 2) hx hb dX5_cut_62 (by decide) ?_
      refine lv_icmp_ge (tgt := 70) hx hb dX5_cut_63 (by decide) (fun c_94 => ?_) (fun c_94 => ?_)
      · rw [if_pos c_94] at h
        refine lv_aload_n hx hb dX5_cut_70 rfl (lv_at hl 0 rfl) ?_
        refine gf_RX5_13 C0 M dX5_cut_71 ?_
        refine lv_iconst (v := 1) hx hb dX5_cut_74 (by decide) ?_
        obtain ⟨hi_95, h⟩ := chk_s h
        refine al_Mlow C0 M hi_95 dX5_cut_75 ?_
        refine lv_aload_n hx hb dX5_cut_76 rfl (lv_at hl 0 rfl) ?_
        refine gf_RX5_17 C0 M dX5_cut_77 ?_
        refine lv_iconst (v := 1) hx hb dX5_cut_80 (by decide) ?_
        obtain ⟨hi_96, h⟩ := chk_s h
        refine al_Mhigh C0 M hi_96 dX5_cut_81 ?_
        obtain ⟨y_98, hc_97, h⟩ := bnd_s h
        refine kS (As := [.int (g.1 23 0 (1 : Int32).toNatClampNeg), .int (g.1 24 0 (1 : Int32).toNatClampNeg)]) (rest := []) (stk := [.long y_98]) (val := (some (.long y_98))) (c1 := 0) (s1 := 0) C0 M (k_X5_length hc_97) kw_12_6 Y_X5_length ⟨Nat.le_of_ble_eq_true rfl, Nat.le_of_ble_eq_true rfl⟩ rfl hl.1 rfl (Nat.le_of_ble_eq_true rfl) dX5_cut_82 rfl rfl ⟨Nat.le_refl _, Nat.le_refl _⟩ rfl (fun H locs M => ?_)
        refine lv_l2i hx hb dX5_cut_85 rfl ?_
        exact w_X5_cut_J86 C0 hr hk (lv_sub hl [0, 1, 3] rfl) M h
      · rw [if_neg c_94] at h
        exact w_X5_cut_J66 C0 hr hk (lv_sub hl [0, 1, 3] rfl) M h
  · rw [if_neg c_7] at h
    refine lv_aload_n hx hb dX5_cut_48 rfl (lv_at hl 0 rfl) ?_
    refine lv_iload_n hx hb dX5_cut_49 rfl (lv_at hl 2 rfl) ?_
    obtain ⟨⟨x_100, g_101⟩, hc_99, h⟩ := bnd_s h
    try dsimp only at h
    refine kV (As := [.int x2]) (rest := []) (stk := [.int x_100]) (val := (some (.int x_100))) (c1 := 0) (s1 := 0) C0 M (k_X5_no hc_99) kw_6_8 Y_X5_no (rv_X5 C0 M) ⟨Nat.le_of_ble_eq_true rfl, Nat.le_of_ble_eq_true rfl⟩ rfl hl.1 rfl (Nat.le_of_ble_eq_true rfl) dX5_cut_50 rfl rfl ⟨Nat.le_refl _, Nat.le_refl _⟩ rfl (fun H locs M => ?_)
    obtain rfl := Option.some.inj h
    exact rt_i C0 M hr hk dX5_cut_53
set_option maxHeartbeats 4000000 in
set_option maxRecDepth 100000 in
theorem w_X5_cut_J26 {x1 : Int32} {x2 : Int32} (C0 : Cx p s m args c cX5_cut 9 RX5 D cy) (hr : meth.sig.returnType = (some .int)) (hk : meth.locks = false) {res : Int32 × Gs} (hl : lv_has ls 9 [(0, .ref (sb 13)), (1, .int x1), (2, .int x2)]) (M : Ws D b0 cy sb db g s H locs) (h : m_X5_cut_J26 x1 x2 g = some res) : W p l e ({ frames := 3, cells := 0, slots := 0, locals := 73 } : Room) s m args below meth c H locs 0 0 (MQ below (QX (some (.int res.1)) D b0 cy sb db res.2) args s 0 0 (fun q => b0 ≤ q)) (F0 m 26 ls []) := by
  obtain ⟨hx, hb, hml, hown, hts, hK⟩ := id C0
  rw [m_X5_cut_J26] at h
  refine lv_aload_n hx hb dX5_cut_26 rfl (lv_at hl 0 rfl) ?_
  obtain ⟨x_5, hc_4, h⟩ := bnd_s h
  refine kV (As := []) (rest := []) (stk := [.int x_5]) (val := (some (.int x_5))) (c1 := 0) (s1 := 0) C0 M (k_X5_shapeItems hc_4) kw_12_1 Y_X5_shapeItems (rv_X5 C0 M) ⟨Nat.le_of_ble_eq_true rfl, Nat.le_of_ble_eq_true rfl⟩ rfl hl.1 rfl (Nat.le_of_ble_eq_true rfl) dX5_cut_27 rfl rfl ⟨Nat.le_refl _, Nat.le_refl _⟩ rfl (fun H locs M => ?_)
  refine lv_istore_n (lv' := [(3, .int x_5), (0, .ref (sb 13)), (1, .int x1), (2, .int x2)]) hx hb dX5_cut_30 rfl hl (by decide) rfl (fun ls hl => ?_)
  refine lv_iload_n hx hb dX5_cut_31 rfl (lv_at hl 3 rfl) ?_
  refine lv_if_ne (tgt := 44) hx hb dX5_cut_32 (by decide) (fun c_6 => ?_) (fun c_6 => ?_)
  · rw [if_neg c_6] at h
    exact w_X5_cut_J44 C0 hr hk (lv_sub hl [1, 2, 3, 0] rfl) M h
  · rw [if_pos c_6] at h
    refine lv_iload_n hx hb dX5_cut_35 rfl (lv_at hl 0 rfl) ?_
    refine lv_sipush (v := 500) hx hb dX5_cut_36 (by decide) ?_
    refine lv_icmp_le (tgt := 44) hx hb dX5_cut_39 (by decide) (fun c_102 => ?_) (fun c_102 => ?_)
    · rw [if_pos c_102] at h
      exact w_X5_cut_J44 C0 hr hk (lv_sub hl [1, 2, 3, 0] rfl) M h
    · rw [if_neg c_102] at h
      refine lv_iconst (v := 5) hx hb dX5_cut_42 (by decide) ?_
      obtain ⟨x_103, hn_104, h⟩ := lett_s h
      refine nm_i hn_104 ?_
      refine lv_istore_n (lv' := [(2, .int x_103), (3, .int x_5), (0, .ref (sb 13)), (1, .int x1)]) hx hb dX5_cut_43 rfl hl (by decide) rfl (fun ls hl => ?_)
      exact w_X5_cut_J44 C0 hr hk (lv_sub hl [2, 3, 0, 1] rfl) M h
set_option maxHeartbeats 4000000 in
set_option maxRecDepth 100000 in
theorem w_X5_cut {x1 : Int32} (C0 : Cx p s m args c cX5_cut 9 RX5 D cy) (hr : meth.sig.returnType = (some .int)) (hk : meth.locks = false) {res : Int32 × Gs} (hl : lv_has ls 9 [(0, .ref (sb 13)), (1, .int x1)]) (M : Ws D b0 cy sb db g s H locs) (h : m_X5_cut x1 g = some res) : W p l e ({ frames := 3, cells := 0, slots := 0, locals := 73 } : Room) s m args below meth c H locs 0 0 (MQ below (QX (some (.int res.1)) D b0 cy sb db res.2) args s 0 0 (fun q => b0 ≤ q)) (F0 m 0 ls []) := by
  obtain ⟨hx, hb, hml, hown, hts, hK⟩ := id C0
  rw [m_X5_cut] at h
  refine lv_aload_n hx hb dX5_cut_0 rfl (lv_at hl 0 rfl) ?_
  refine lv_iload_n hx hb dX5_cut_1 rfl (lv_at hl 1 rfl) ?_
  obtain ⟨x_2, hc_1, h⟩ := bnd_s h
  refine kV (As := [.int x1]) (rest := []) (stk := [.int x_2]) (val := (some (.int x_2))) (c1 := 0) (s1 := 0) C0 M (k_X5_wants hc_1) kw_14_9 Y_X5_wants (rv_X5 C0 M) ⟨Nat.le_of_ble_eq_true rfl, Nat.le_of_ble_eq_true rfl⟩ rfl hl.1 rfl (Nat.le_of_ble_eq_true rfl) dX5_cut_2 rfl rfl ⟨Nat.le_refl _, Nat.le_refl _⟩ rfl (fun H locs M => ?_)
  refine lv_istore_n (lv' := [(2, .int x_2), (0, .ref (sb 13)), (1, .int x1)]) hx hb dX5_cut_5 rfl hl (by decide) rfl (fun ls hl => ?_)
  refine lv_iload_n hx hb dX5_cut_6 rfl (lv_at hl 0 rfl) ?_
  refine lv_if_ne (tgt := 26) hx hb dX5_cut_7 (by decide) (fun c_3 => ?_) (fun c_3 => ?_)
  · rw [if_neg c_3] at h
    exact w_X5_cut_J26 C0 hr hk (lv_sub hl [1, 2, 0] rfl) M h
  · rw [if_pos c_3] at h
    refine lv_aload_n hx hb dX5_cut_10 rfl (lv_at hl 1 rfl) ?_
    refine gf_RX5_72 C0 M dX5_cut_11 ?_
    refine lv_aload_n hx hb dX5_cut_14 rfl (lv_at hl 1 rfl) ?_
    refine gf_RX5_23 C0 M dX5_cut_15 ?_
    refine lv_iload_n hx hb dX5_cut_18 rfl (lv_at hl 2 rfl) ?_
    obtain ⟨hi_105, h⟩ := chk_s h
    refine al_Mranks C0 M hi_105 dX5_cut_19 ?_
    refine lv_icmp_eq (tgt := 26) hx hb dX5_cut_20 (by decide) (fun c_106 => ?_) (fun c_106 => ?_)
    · rw [if_pos c_106] at h
      exact w_X5_cut_J26 C0 hr hk (lv_sub hl [1, 2, 0] rfl) M h
    · rw [if_neg c_106] at h
      refine lv_bipush (v := 9) hx hb dX5_cut_23 (by decide) ?_
      obtain ⟨x_107, hn_108, h⟩ := lett_s h
      refine nm_i hn_108 ?_
      refine lv_istore_n (lv' := [(2, .int x_107), (0, .ref (sb 13)), (1, .int x1)]) hx hb dX5_cut_25 rfl hl (by decide) rfl (fun ls hl => ?_)
      exact w_X5_cut_J26 C0 hr hk (lv_sub hl [1, 2, 0] rfl) M h
theorem k_X5_cut {x1 : Int32} {res : Int32 × Gs} (h : m_X5_cut x1 g = some res) : CM l yX5_cut cX5_cut 9 (some .int) ({ frames := 3, cells := 0, slots := 0, locals := 73 } : Room) [.ref (sb 13), .int x1] (some (.int res.1)) D b0 cy sb db g res.2 := by
  refine Met.ofW (cc := cX5_cut) (maxL := 9) (ret := (some .int)) (by decide) rfl ?_
  intro p e s m args below meth c s₁ B hml hv
  obtain ⟨rfl, hW, hK⟩ := hv
  have hl := lv_entry [.ref (sb 13), .int x1] (n := 9) (Nat.le_of_ble_eq_true rfl)
  rw [lg_entry_eq]
  generalize (lg_sl [.ref (sb 13), .int x1] ++ List.replicate (9 - (lg_sl [.ref (sb 13), .int x1]).length) Slot.unset).toArray = ls at hl ⊢
  have hl : lv_has ls 9 [(0, .ref (sb 13)), (1, .int x1)] := hl
  exact w_X5_cut ⟨B.exec, B.bytes, hml, findClass_of_methodNamed B.named, fun w hw => atoms_spec (ws := Cond.code yX5_cut cX5_cut 9 (some .int) :: wsL_law) B.pre w (List.mem_cons_of_mem _ hw), hK⟩ B.returns B.notSynchronized hl ⟨hW, va_S.rf⟩ h
theorem Y_X5_cut : Yv yX5_cut RX5 cX5_cut 9 (some .int) 1 := ⟨⟨kw_17_12, kw_1_5, by decide +kernel, by decide +kernel, by decide +kernel⟩, kw_17_10, kw_17_11⟩
-- X5_deep
def m_X5_deep_L127 (x1 : Int32) (x3 : Int32) (x4 : Int32) : Nat → Int32 → Gs → Option (Gs)
  | 0, _, _ => none
  | fu + 1, x5, g =>
  chk (inb x1 24) (chk (inb (g.1 30 0 x1.toNatClampNeg) 13000) (if (g.1 33 0 (g.1 30 0 x1.toNatClampNeg).toNatClampNeg) ≤ x5 then (some g) else (chk (inb x1 24) (chk (inb (g.1 30 0 x1.toNatClampNeg) 13000) (chk (inb x3 24) (chk (¬ x4 = 0) (chk (inb ((g.1 30 0 x3.toNatClampNeg) + (x5 / x4)) 12100) (chk (inb (g.1 38 0 ((g.1 30 0 x3.toNatClampNeg) + (x5 / x4)).toNatClampNeg) 13000) (chk (¬ x4 = 0) ((m_X5_copy ((g.1 32 0 (g.1 30 0 x1.toNatClampNeg).toNatClampNeg) + x5) ((g.1 32 0 (g.1 38 0 ((g.1 30 0 x3.toNatClampNeg) + (x5 / x4)).toNatClampNeg).toNatClampNeg) + (x5 - x5 / x4 * x4)) g).bind fun g_38 => lett (x5 + 1) fun x_39 => m_X5_deep_L127 x1 x3 x4 fu x_39 g_38))))))))))
def m_X5_deep_J121 (x1 : Int32) (x3 : Int32) (ys0 : Int64) (g : Gs) : Option (Int32 × Gs) :=
  lett ys0.toInt32 fun x_23 => lett (0 : Int32) fun x_25 => (m_X5_deep_L127 x1 x3 x_23 FU x_25 g).bind fun g_41 => (m_X5_yes x3 g_41).bind fun (x_43, g_44) => some (x_43, g_44)
def m_X5_deep_J74 (x1 : Int32) (xs0 : Int32) (g : Gs) : Option (Int32 × Gs) :=
  if xs0 = 0 then ((m_X5_newArray (4 : Int32) x1 g).bind fun (x_14, g_15) => (m_X5_newTable x_14 g_15).bind fun g_17 => chk (inb x1 24) (chk (inb (g_17.1 30 0 x1.toNatClampNeg) 13000) (if (g_17.1 33 0 (g_17.1 30 0 x1.toNatClampNeg).toNatClampNeg) = 0 then (m_X5_deep_J121 x1 x_14 (0 : Int64) g_17) else ((m_X5_lengthOf x1 (1 : Int32) g_17).bind fun y_22 => m_X5_deep_J121 x1 x_14 y_22 g_17)))) else ((m_X5_no xs0 g).bind fun (x_48, g_49) => some (x_48, g_49))
def m_X5_deep (x1 : Int32) (g : Gs) : Option (Int32 × Gs) :=
  (m_X5_isArray x1 g).bind fun x_2 => if x_2 = 0 then (m_X5_deep_J74 x1 (7 : Int32) g) else (chk (inb x1 24) (if (g.1 26 0 x1.toNatClampNeg) = (1 : Int32) then (chk (inb x1 24) (if (g.1 27 0 x1.toNatClampNeg) = (2 : Int32) then ((m_X5_lengthOf x1 (0 : Int32) g).bind fun y_9 => if (lg_cmp y_9 (500 : Int64)) ≤ 0 then (if (g.1 25 0 0) = (24 : Int32) then (m_X5_deep_J74 x1 (8 : Int32) g) else (m_X5_deep_J74 x1 (0 : Int32) g)) else (m_X5_deep_J74 x1 (5 : Int32) g)) else (m_X5_deep_J74 x1 (9 : Int32) g))) else (m_X5_deep_J74 x1 (2 : Int32) g)))
set_option maxHeartbeats 4000000 in
set_option maxRecDepth 100000 in
theorem w_X5_deep_L127 {x1 : Int32} {x3 : Int32} {x4 : Int32} (C0 : Cx p s m args c cX5_deep 6 RX5 D cy) (hr : meth.sig.returnType = (some .int)) (hk : meth.locks = false) {res : Int32 × Gs} {q : Gs} (kk : ∀ (g : Gs) (H : Heap) (locs : List Loc) (ls : Array Slot), q = g → lv_has ls 6 [(0, .ref (sb 13)), (3, .int x3)] → Ws D b0 cy sb db g s H locs → W p l e ({ frames := 3, cells := 0, slots := 0, locals := 69 } : Room) s m args below meth c H locs 0 0 (MQ below (QX (some (.int res.1)) D b0 cy sb db res.2) args s 0 0 (fun q => b0 ≤ q)) (F0 m 195 ls [])) : ∀ (fu : Nat) (x5 : Int32) (g : Gs) (H : Heap) (locs : List Loc) (ls : Array Slot), lv_has ls 6 [(0, .ref (sb 13)), (1, .int x1), (3, .int x3), (4, .int x4), (5, .int x5)] → Ws D b0 cy sb db g s H locs → m_X5_deep_L127 x1 x3 x4 fu x5 g = some q → W p l e ({ frames := 3, cells := 0, slots := 0, locals := 69 } : Room) s m args below meth c H locs 0 0 (MQ below (QX (some (.int res.1)) D b0 cy sb db res.2) args s 0 0 (fun q => b0 ≤ q)) (F0 m 127 ls []) := by
  obtain ⟨hx, hb, hml, hown, hts, hK⟩ := id C0
  intro fu
  induction fu with
  | zero =>
    intro x5 g H locs ls hl M h
    cases h
  | succ fu ih =>
    intro x5 g H locs ls hl M h
    rw [m_X5_deep_L127] at h
    refine lv_iload hx hb dX5_deep_127 (lv_at hl 4 rfl) ?_
    refine lv_aload_n hx hb dX5_deep_129 rfl (lv_at hl 0 rfl) ?_
    refine gf_RX5_38 C0 M dX5_deep_130 ?_
    refine lv_aload_n hx hb dX5_deep_133 rfl (lv_at hl 0 rfl) ?_
    refine gf_RX5_32 C0 M dX5_deep_134 ?_
    refine lv_iload_n hx hb dX5_deep_137 rfl (lv_at hl 1 rfl) ?_
    obtain ⟨hi_27, h⟩ := chk_s h
    refine al_MrowOf C0 M hi_27 dX5_deep_138 ?_
    obtain ⟨hi_28, h⟩ := chk_s h
    refine al_MrowSize C0 M hi_28 dX5_deep_139 ?_
    refine lv_icmp_ge (tgt := 195) hx hb dX5_deep_140 (by decide) (fun c_29 => ?_) (fun c_29 => ?_)
    · rw [if_pos c_29] at h
      exact kk _ _ _ _ (Option.some.inj h).symm (lv_sub hl [0, 2] rfl) M
    · rw [if_neg c_29] at h
      refine lv_aload_n hx hb dX5_deep_143 rfl (lv_at hl 0 rfl) ?_
      refine lv_aload_n hx hb dX5_deep_144 rfl (lv_at hl 0 rfl) ?_
      refine gf_RX5_35 C0 M dX5_deep_145 ?_
      refine lv_aload_n hx hb dX5_deep_148 rfl (lv_at hl 0 rfl) ?_
      refine gf_RX5_32 C0 M dX5_deep_149 ?_
      refine lv_iload_n hx hb dX5_deep_152 rfl (lv_at hl 1 rfl) ?_
      obtain ⟨hi_30, h⟩ := chk_s h
      refine al_MrowOf C0 M hi_30 dX5_deep_153 ?_
      obtain ⟨hi_31, h⟩ := chk_s h
      refine al_MrowAt C0 M hi_31 dX5_deep_154 ?_
      refine lv_iload hx hb dX5_deep_155 (lv_at hl 4 rfl) ?_
      refine lv_iadd hx hb dX5_deep_157 ?_
      refine lv_aload_n hx hb dX5_deep_158 rfl (lv_at hl 0 rfl) ?_
      refine gf_RX5_35 C0 M dX5_deep_159 ?_
      refine lv_aload_n hx hb dX5_deep_162 rfl (lv_at hl 0 rfl) ?_
      refine gf_RX5_50 C0 M dX5_deep_163 ?_
      refine lv_aload_n hx hb dX5_deep_166 rfl (lv_at hl 0 rfl) ?_
      refine gf_RX5_32 C0 M dX5_deep_167 ?_
      refine lv_iload_n hx hb dX5_deep_170 rfl (lv_at hl 2 rfl) ?_
      obtain ⟨hi_32, h⟩ := chk_s h
      refine al_MrowOf C0 M hi_32 dX5_deep_171 ?_
      refine lv_iload hx hb dX5_deep_172 (lv_at hl 4 rfl) ?_
      refine lv_iload hx hb dX5_deep_174 (lv_at hl 3 rfl) ?_
      obtain ⟨hd_33, h⟩ := chk_s h
      refine lv_idiv hx hb dX5_deep_176 hd_33 ?_
      refine lv_iadd hx hb dX5_deep_177 ?_
      obtain ⟨hi_34, h⟩ := chk_s h
      refine al_Mslot C0 M hi_34 dX5_deep_178 ?_
      obtain ⟨hi_35, h⟩ := chk_s h
      refine al_MrowAt C0 M hi_35 dX5_deep_179 ?_
      refine lv_iload hx hb dX5_deep_180 (lv_at hl 4 rfl) ?_
      refine lv_iload hx hb dX5_deep_182 (lv_at hl 3 rfl) ?_
      obtain ⟨hd_36, h⟩ := chk_s h
      refine lv_irem hx hb dX5_deep_184 hd_36 ?_
      refine lv_iadd hx hb dX5_deep_185 ?_
      obtain ⟨g_38, hc_37, h⟩ := bnd_s h
      refine kV (As := [.int ((g.1 32 0 (g.1 30 0 x1.toNatClampNeg).toNatClampNeg) + x5), .int ((g.1 32 0 (g.1 38 0 ((g.1 30 0 x3.toNatClampNeg) + (x5 / x4)).toNatClampNeg).toNatClampNeg) + (x5 - x5 / x4 * x4))]) (rest := []) (stk := []) (val := none) (c1 := 0) (s1 := 0) C0 M (k_X5_copy hc_37) kw_15_21 Y_X5_copy (rv_X5 C0 M) ⟨Nat.le_of_ble_eq_true rfl, Nat.le_of_ble_eq_true rfl⟩ rfl hl.1 rfl (Nat.le_of_ble_eq_true rfl) dX5_deep_186 rfl rfl ⟨Nat.le_refl _, Nat.le_refl _⟩ rfl (fun H locs M => ?_)
      obtain ⟨x_39, hn_40, h⟩ := lett_s h
      refine lv_iinc (v := x_39) (lv' := [(5, .int x_39), (0, .ref (sb 13)), (1, .int x1), (3, .int x3), (4, .int x4)]) hx hb dX5_deep_189 hl (k := 4) rfl (by rw [hn_40]; rfl) (by decide) rfl (fun ls hl => ?_)
      refine lv_goto (tgt := 127) hx hb dX5_deep_192 (by decide) ?_
      exact ih _ _ _ _ _ (lv_sub hl [1, 2, 3, 4, 0] rfl) M h
set_option maxHeartbeats 4000000 in
set_option maxRecDepth 100000 in
theorem w_X5_deep_J121 {x1 : Int32} {x3 : Int32} {ys0 : Int64} (C0 : Cx p s m args c cX5_deep 6 RX5 D cy) (hr : meth.sig.returnType = (some .int)) (hk : meth.locks = false) {res : Int32 × Gs} (hl : lv_has ls 6 [(0, .ref (sb 13)), (1, .int x1), (3, .int x3)]) (M : Ws D b0 cy sb db g s H locs) (h : m_X5_deep_J121 x1 x3 ys0 g = some res) : W p l e ({ frames := 3, cells := 0, slots := 0, locals := 69 } : Room) s m args below meth c H locs 0 0 (MQ below (QX (some (.int res.1)) D b0 cy sb db res.2) args s 0 0 (fun q => b0 ≤ q)) (F0 m 121 ls [.long ys0]) := by
  obtain ⟨hx, hb, hml, hown, hts, hK⟩ := id C0
  rw [m_X5_deep_J121] at h
  refine lv_l2i hx hb dX5_deep_121 rfl ?_
  obtain ⟨x_23, hn_24, h⟩ := lett_s h
  refine nm_i hn_24 ?_
  refine lv_istore (lv' := [(4, .int x_23), (0, .ref (sb 13)), (1, .int x1), (3, .int x3)]) hx hb dX5_deep_122 hl (by decide) rfl (fun ls hl => ?_)
  refine lv_iconst (v := 0) hx hb dX5_deep_124 (by decide) ?_
  obtain ⟨x_25, hn_26, h⟩ := lett_s h
  refine nm_i hn_26 ?_
  refine lv_istore (lv' := [(5, .int x_25), (4, .int x_23), (0, .ref (sb 13)), (1, .int x1), (3, .int x3)]) hx hb dX5_deep_125 hl (by decide) rfl (fun ls hl => ?_)
  obtain ⟨q_45, hq_46, h⟩ := bnd_s h
  refine w_X5_deep_L127 C0 hr hk (q := q_45) (fun g_41 H locs ls hq hl M => ?_) FU _ _ _ _ _ (lv_sub hl [2, 3, 4, 1, 0] rfl) M hq_46
  subst q_45
  try dsimp only at h
  refine lv_aload_n hx hb dX5_deep_195 rfl (lv_at hl 0 rfl) ?_
  refine lv_iload_n hx hb dX5_deep_196 rfl (lv_at hl 1 rfl) ?_
  obtain ⟨⟨x_43, g_44⟩, hc_42, h⟩ := bnd_s h
  try dsimp only at h
  refine kV (As := [.int x3]) (rest := []) (stk := [.int x_43]) (val := (some (.int x_43))) (c1 := 0) (s1 := 0) C0 M (k_X5_yes hc_42) kw_6_12 Y_X5_yes (rv_X5 C0 M) ⟨Nat.le_of_ble_eq_true rfl, Nat.le_of_ble_eq_true rfl⟩ rfl hl.1 rfl (Nat.le_of_ble_eq_true rfl) dX5_deep_197 rfl rfl ⟨Nat.le_refl _, Nat.le_refl _⟩ rfl (fun H locs M => ?_)
  obtain rfl := Option.some.inj h
  exact rt_i C0 M hr hk dX5_deep_200
set_option maxHeartbeats 4000000 in
set_option maxRecDepth 100000 in
theorem w_X5_deep_J74 {x1 : Int32} {xs0 : Int32} (C0 : Cx p s m args c cX5_deep 6 RX5 D cy) (hr : meth.sig.returnType = (some .int)) (hk : meth.locks = false) {res : Int32 × Gs} (hl : lv_has ls 6 [(0, .ref (sb 13)), (1, .int x1)]) (M : Ws D b0 cy sb db g s H locs) (h : m_X5_deep_J74 x1 xs0 g = some res) : W p l e ({ frames := 3, cells := 0, slots := 0, locals := 69 } : Room) s m args below meth c H locs 0 0 (MQ below (QX (some (.int res.1)) D b0 cy sb db res.2) args s 0 0 (fun q => b0 ≤ q)) (F0 m 74 ls [.int xs0]) := by
  obtain ⟨hx, hb, hml, hown, hts, hK⟩ := id C0
  rw [m_X5_deep_J74] at h
  refine lv_istore_n (lv' := [(2, .int xs0), (0, .ref (sb 13)), (1, .int x1)]) hx hb dX5_deep_74 rfl hl (by decide) rfl (fun ls hl => ?_)
  refine lv_iload_n hx hb dX5_deep_75 rfl (lv_at hl 0 rfl) ?_
  refine lv_if_eq (tgt := 85) hx hb dX5_deep_76 (by decide) (fun c_12 => ?_) (fun c_12 => ?_)
  · rw [if_pos c_12] at h
    refine lv_aload_n hx hb dX5_deep_85 rfl (lv_at hl 1 rfl) ?_
    refine lv_iconst (v := 4) hx hb dX5_deep_86 (by decide) ?_
    refine lv_iload_n hx hb dX5_deep_87 rfl (lv_at hl 2 rfl) ?_
    obtain ⟨⟨x_14, g_15⟩, hc_13, h⟩ := bnd_s h
    try dsimp only at h
    refine kV (As := [.int (4 : Int32), .int x1]) (rest := []) (stk := [.int x_14]) (val := (some (.int x_14))) (c1 := 0) (s1 := 0) C0 M (k_X5_newArray hc_13) kw_12_9 Y_X5_newArray (rv_X5 C0 M) ⟨Nat.le_of_ble_eq_true rfl, Nat.le_of_ble_eq_true rfl⟩ rfl hl.1 rfl (Nat.le_of_ble_eq_true rfl) dX5_deep_88 rfl rfl ⟨Nat.le_refl _, Nat.le_refl _⟩ rfl (fun H locs M => ?_)
    refine lv_istore_n (lv' := [(3, .int x_14), (2, .int xs0), (0, .ref (sb 13)), (1, .int x1)]) hx hb dX5_deep_91 rfl hl (by decide) rfl (fun ls hl => ?_)
    refine lv_aload_n hx hb dX5_deep_92 rfl (lv_at hl 2 rfl) ?_
    refine lv_iload_n hx hb dX5_deep_93 rfl (lv_at hl 0 rfl) ?_
    obtain ⟨g_17, hc_16, h⟩ := bnd_s h
    refine kV (As := [.int x_14]) (rest := []) (stk := []) (val := none) (c1 := 0) (s1 := 0) C0 M (k_X5_newTable hc_16) kw_12_13 Y_X5_newTable (rv_X5 C0 M) ⟨Nat.le_of_ble_eq_true rfl, Nat.le_of_ble_eq_true rfl⟩ rfl hl.1 rfl (Nat.le_of_ble_eq_true rfl) dX5_deep_94 rfl rfl ⟨Nat.le_refl _, Nat.le_refl _⟩ rfl (fun H locs M => ?_)
    refine lv_aload_n hx hb dX5_deep_97 rfl (lv_at hl 2 rfl) ?_
    refine gf_RX5_38 C0 M dX5_deep_98 ?_
    refine lv_aload_n hx hb dX5_deep_101 rfl (lv_at hl 2 rfl) ?_
    refine gf_RX5_32 C0 M dX5_deep_102 ?_
    refine lv_iload_n hx hb dX5_deep_105 rfl (lv_at hl 3 rfl) ?_
    obtain ⟨hi_18, h⟩ := chk_s h
    refine al_MrowOf C0 M hi_18 dX5_deep_106 ?_
    obtain ⟨hi_19, h⟩ := chk_s h
    refine al_MrowSize C0 M hi_19 dX5_deep_107 ?_
    refine lv_if_ne (tgt := 115) hx hb dX5_deep_108 (by decide) (fun c_20 => ?_) (fun c_20 => ?_)
    · rw [if_neg c_20] at h
      refine lv_aload_n hx hb dX5_deep_115 rfl (lv_at hl 2 rfl) ?_
      refine lv_iload_n hx hb dX5_deep_116 rfl (lv_at hl 3 rfl) ?_
      refine lv_iconst (v := 1) hx hb dX5_deep_117 (by decide) ?_
      obtain ⟨y_22, hc_21, h⟩ := bnd_s h
      refine kV (As := [.int x1, .int (1 : Int32)]) (rest := []) (stk := [.long y_22]) (val := (some (.long y_22))) (c1 := 0) (s1 := 0) C0 M (k_X5_lengthOf hc_21) kw_12_18 Y_X5_lengthOf (rv_X5 C0 M) ⟨Nat.le_of_ble_eq_true rfl, Nat.le_of_ble_eq_true rfl⟩ rfl hl.1 rfl (Nat.le_of_ble_eq_true rfl) dX5_deep_118 rfl rfl ⟨Nat.le_refl _, Nat.le_refl _⟩ rfl (fun H locs M => ?_)
      exact w_X5_deep_J121 C0 hr hk (lv_sub hl [2, 3, 0] rfl) M h
    · rw [if_pos c_20] at h
      refine lv_lconst (v := 0) hx hb dX5_deep_111 (by decide) ?_
      refine lv_goto (tgt := 121) hx hb dX5_deep_112 (by decide) ?_
      exact w_X5_deep_J121 C0 hr hk (lv_sub hl [2, 3, 0] rfl) M h
  · rw [if_neg c_12] at h
    refine lv_aload_n hx hb dX5_deep_79 rfl (lv_at hl 1 rfl) ?_
    refine lv_iload_n hx hb dX5_deep_80 rfl (lv_at hl 0 rfl) ?_
    obtain ⟨⟨x_48, g_49⟩, hc_47, h⟩ := bnd_s h
    try dsimp only at h
    refine kV (As := [.int xs0]) (rest := []) (stk := [.int x_48]) (val := (some (.int x_48))) (c1 := 0) (s1 := 0) C0 M (k_X5_no hc_47) kw_6_8 Y_X5_no (rv_X5 C0 M) ⟨Nat.le_of_ble_eq_true rfl, Nat.le_of_ble_eq_true rfl⟩ rfl hl.1 rfl (Nat.le_of_ble_eq_true rfl) dX5_deep_81 rfl rfl ⟨Nat.le_refl _, Nat.le_refl _⟩ rfl (fun H locs M => ?_)
    obtain rfl := Option.some.inj h
    exact rt_i C0 M hr hk dX5_deep_84
set_option maxHeartbeats 4000000 in
set_option maxRecDepth 100000 in
theorem w_X5_deep {x1 : Int32} (C0 : Cx p s m args c cX5_deep 6 RX5 D cy) (hr : meth.sig.returnType = (some .int)) (hk : meth.locks = false) {res : Int32 × Gs} (hl : lv_has ls 6 [(0, .ref (sb 13)), (1, .int x1)]) (M : Ws D b0 cy sb db g s H locs) (h : m_X5_deep x1 g = some res) : W p l e ({ frames := 3, cells := 0, slots := 0, locals := 69 } : Room) s m args below meth c H locs 0 0 (MQ below (QX (some (.int res.1)) D b0 cy sb db res.2) args s 0 0 (fun q => b0 ≤ q)) (F0 m 0 ls []) := by
  obtain ⟨hx, hb, hml, hown, hts, hK⟩ := id C0
  rw [m_X5_deep] at h
  refine lv_aload_n hx hb dX5_deep_0 rfl (lv_at hl 0 rfl) ?_
  refine lv_iload_n hx hb dX5_deep_1 rfl (lv_at hl 1 rfl) ?_
  obtain ⟨x_2, hc_1, h⟩ := bnd_s h
  refine kV (As := [.int x1]) (rest := []) (stk := [.int x_2]) (val := (some (.int x_2))) (c1 := 0) (s1 := 0) C0 M (k_X5_isArray hc_1) kw_14_13 Y_X5_isArray (rv_X5 C0 M) ⟨Nat.le_of_ble_eq_true rfl, Nat.le_of_ble_eq_true rfl⟩ rfl hl.1 rfl (Nat.le_of_ble_eq_true rfl) dX5_deep_2 rfl rfl ⟨Nat.le_refl _, Nat.le_refl _⟩ rfl (fun H locs M => ?_)
  refine lv_if_ne (tgt := 13) hx hb dX5_deep_5 (by decide) (fun c_3 => ?_) (fun c_3 => ?_)
  · rw [if_neg c_3] at h
    refine lv_aload_n hx hb dX5_deep_13 rfl (lv_at hl 0 rfl) ?_
    refine gf_RX5_20 C0 M dX5_deep_14 ?_
    refine lv_iload_n hx hb dX5_deep_17 rfl (lv_at hl 1 rfl) ?_
    obtain ⟨hi_4, h⟩ := chk_s h
    refine al_Mkinds C0 M hi_4 dX5_deep_18 ?_
    refine lv_iconst (v := 1) hx hb dX5_deep_19 (by decide) ?_
    refine lv_icmp_eq (tgt := 27) hx hb dX5_deep_20 (by decide) (fun c_5 => ?_) (fun c_5 => ?_)
    · rw [if_pos c_5] at h
      refine lv_aload_n hx hb dX5_deep_27 rfl (lv_at hl 0 rfl) ?_
      refine gf_RX5_23 C0 M dX5_deep_28 ?_
      refine lv_iload_n hx hb dX5_deep_31 rfl (lv_at hl 1 rfl) ?_
      obtain ⟨hi_6, h⟩ := chk_s h
      refine al_Mranks C0 M hi_6 dX5_deep_32 ?_
      refine lv_iconst (v := 2) hx hb dX5_deep_33 (by decide) ?_
      refine lv_icmp_eq (tgt := 42) hx hb dX5_deep_34 (by decide) (fun c_7 => ?_) (fun c_7 => ?_)
      · rw [if_pos c_7] at h
        refine lv_aload_n hx hb dX5_deep_42 rfl (lv_at hl 0 rfl) ?_
        refine lv_iload_n hx hb dX5_deep_43 rfl (lv_at hl 1 rfl) ?_
        refine lv_iconst (v := 0) hx hb dX5_deep_44 (by decide) ?_
        obtain ⟨y_9, hc_8, h⟩ := bnd_s h
        refine kV (As := [.int x1, .int (0 : Int32)]) (rest := []) (stk := [.long y_9]) (val := (some (.long y_9))) (c1 := 0) (s1 := 0) C0 M (k_X5_lengthOf hc_8) kw_12_18 Y_X5_lengthOf (rv_X5 C0 M) ⟨Nat.le_of_ble_eq_true rfl, Nat.le_of_ble_eq_true rfl⟩ rfl hl.1 rfl (Nat.le_of_ble_eq_true rfl) dX5_deep_45 rfl rfl ⟨Nat.le_refl _, Nat.le_refl _⟩ rfl (fun H locs M => ?_)
        refine lv_ldc2 (v := 500) hx hb hown (hts _ kw_11_20) dX5_deep_48 ?_
        refine W.lcmp hx hb dX5_deep_51 ?_
        refine lv_if_le (tgt := 59) hx hb dX5_deep_52 (by decide) (fun c_10 => ?_) (fun c_10 => ?_)
        · rw [if_pos c_10] at h
          refine lv_aload_n hx hb dX5_deep_59 rfl (lv_at hl 0 rfl) ?_
          refine gf_RX5_98 C0 M dX5_deep_60 ?_
          refine lv_bipush (v := 24) hx hb dX5_deep_63 (by decide) ?_
          refine lv_icmp_ne (tgt := 73) hx hb dX5_deep_65 (by decide) (fun c_11 => ?_) (fun c_11 => ?_)
          · rw [if_neg c_11] at h
            refine lv_iconst (v := 0) hx hb dX5_deep_73 (by decide) ?_
            exact w_X5_deep_J74 C0 hr hk hl M h
          · rw [if_pos c_11] at h
            refine lv_bipush (v := 8) hx hb dX5_deep_68 (by decide) ?_
            refine lv_goto (tgt := 74) hx hb dX5_deep_70 (by decide) ?_
            exact w_X5_deep_J74 C0 hr hk hl M h
        · rw [if_neg c_10] at h
          refine lv_iconst (v := 5) hx hb dX5_deep_55 (by decide) ?_
          refine lv_goto (tgt := 74) hx hb dX5_deep_56 (by decide) ?_
          exact w_X5_deep_J74 C0 hr hk hl M h
      · rw [if_neg c_7] at h
        refine lv_bipush (v := 9) hx hb dX5_deep_37 (by decide) ?_
        refine lv_goto (tgt := 74) hx hb dX5_deep_39 (by decide) ?_
        exact w_X5_deep_J74 C0 hr hk hl M h
    · rw [if_neg c_5] at h
      refine lv_iconst (v := 2) hx hb dX5_deep_23 (by decide) ?_
      refine lv_goto (tgt := 74) hx hb dX5_deep_24 (by decide) ?_
      exact w_X5_deep_J74 C0 hr hk hl M h
  · rw [if_pos c_3] at h
    refine lv_bipush (v := 7) hx hb dX5_deep_8 (by decide) ?_
    refine lv_goto (tgt := 74) hx hb dX5_deep_10 (by decide) ?_
    exact w_X5_deep_J74 C0 hr hk hl M h
theorem k_X5_deep {x1 : Int32} {res : Int32 × Gs} (h : m_X5_deep x1 g = some res) : CM l yX5_deep cX5_deep 6 (some .int) ({ frames := 3, cells := 0, slots := 0, locals := 69 } : Room) [.ref (sb 13), .int x1] (some (.int res.1)) D b0 cy sb db g res.2 := by
  refine Met.ofW (cc := cX5_deep) (maxL := 6) (ret := (some .int)) (by decide) rfl ?_
  intro p e s m args below meth c s₁ B hml hv
  obtain ⟨rfl, hW, hK⟩ := hv
  have hl := lv_entry [.ref (sb 13), .int x1] (n := 6) (Nat.le_of_ble_eq_true rfl)
  rw [lg_entry_eq]
  generalize (lg_sl [.ref (sb 13), .int x1] ++ List.replicate (6 - (lg_sl [.ref (sb 13), .int x1]).length) Slot.unset).toArray = ls at hl ⊢
  have hl : lv_has ls 6 [(0, .ref (sb 13)), (1, .int x1)] := hl
  exact w_X5_deep ⟨B.exec, B.bytes, hml, findClass_of_methodNamed B.named, fun w hw => atoms_spec (ws := Cond.code yX5_deep cX5_deep 6 (some .int) :: wsL_law) B.pre w (List.mem_cons_of_mem _ hw), hK⟩ B.returns B.notSynchronized hl ⟨hW, va_S.rf⟩ h
theorem Y_X5_deep : Yv yX5_deep RX5 cX5_deep 6 (some .int) 1 := ⟨⟨kw_18_12, kw_1_5, by decide +kernel, by decide +kernel, by decide +kernel⟩, kw_18_10, kw_18_11⟩
-- X5_tableRows
def m_X5_tableRows (x1 : Int32) (g : Gs) : Option (Int32) :=
  (m_X5_lengthOf x1 (0 : Int32) g).bind fun y_2 => some y_2.toInt32
set_option maxHeartbeats 4000000 in
set_option maxRecDepth 100000 in
theorem w_X5_tableRows {x1 : Int32} (C0 : Cx p s m args c cX5_tableRows 2 RX5 D cy) (hr : meth.sig.returnType = (some .int)) (hk : meth.locks = false) {res : Int32} (hl : lv_has ls 2 [(0, .ref (sb 13)), (1, .int x1)]) (M : Ws D b0 cy sb db g s H locs) (h : m_X5_tableRows x1 g = some res) : W p l e ({ frames := 2, cells := 0, slots := 0, locals := 45 } : Room) s m args below meth c H locs 0 0 (MQ below (QX (some (.int res)) D b0 cy sb db g) args s 0 0 (fun q => b0 ≤ q)) (F0 m 0 ls []) := by
  obtain ⟨hx, hb, hml, hown, hts, hK⟩ := id C0
  rw [m_X5_tableRows] at h
  refine lv_aload_n hx hb dX5_tableRows_0 rfl (lv_at hl 0 rfl) ?_
  refine lv_iload_n hx hb dX5_tableRows_1 rfl (lv_at hl 1 rfl) ?_
  refine lv_iconst (v := 0) hx hb dX5_tableRows_2 (by decide) ?_
  obtain ⟨y_2, hc_1, h⟩ := bnd_s h
  refine kV (As := [.int x1, .int (0 : Int32)]) (rest := []) (stk := [.long y_2]) (val := (some (.long y_2))) (c1 := 0) (s1 := 0) C0 M (k_X5_lengthOf hc_1) kw_12_18 Y_X5_lengthOf (rv_X5 C0 M) ⟨Nat.le_of_ble_eq_true rfl, Nat.le_of_ble_eq_true rfl⟩ rfl hl.1 rfl (Nat.le_of_ble_eq_true rfl) dX5_tableRows_3 rfl rfl ⟨Nat.le_refl _, Nat.le_refl _⟩ rfl (fun H locs M => ?_)
  refine lv_l2i hx hb dX5_tableRows_6 rfl ?_
  obtain rfl := Option.some.inj h
  exact rt_i C0 M hr hk dX5_tableRows_7
theorem k_X5_tableRows {x1 : Int32} {res : Int32} (h : m_X5_tableRows x1 g = some res) : CM l yX5_tableRows cX5_tableRows 2 (some .int) ({ frames := 2, cells := 0, slots := 0, locals := 45 } : Room) [.ref (sb 13), .int x1] (some (.int res)) D b0 cy sb db g g := by
  refine Met.ofW (cc := cX5_tableRows) (maxL := 2) (ret := (some .int)) (by decide) rfl ?_
  intro p e s m args below meth c s₁ B hml hv
  obtain ⟨rfl, hW, hK⟩ := hv
  have hl := lv_entry [.ref (sb 13), .int x1] (n := 2) (Nat.le_of_ble_eq_true rfl)
  rw [lg_entry_eq]
  generalize (lg_sl [.ref (sb 13), .int x1] ++ List.replicate (2 - (lg_sl [.ref (sb 13), .int x1]).length) Slot.unset).toArray = ls at hl ⊢
  have hl : lv_has ls 2 [(0, .ref (sb 13)), (1, .int x1)] := hl
  exact w_X5_tableRows ⟨B.exec, B.bytes, hml, findClass_of_methodNamed B.named, fun w hw => atoms_spec (ws := Cond.code yX5_tableRows cX5_tableRows 2 (some .int) :: wsL_law) B.pre w (List.mem_cons_of_mem _ hw), hK⟩ B.returns B.notSynchronized hl ⟨hW, va_S.rf⟩ h
theorem Y_X5_tableRows : Yv yX5_tableRows RX5 cX5_tableRows 2 (some .int) 1 := ⟨⟨kw_19_4, kw_1_5, by decide +kernel, by decide +kernel, by decide +kernel⟩, kw_19_2, kw_19_3⟩
-- X5_flat
def m_X5_flat_L34 (x1 : Int32) (g : Gs) : Nat → Int32 → Int32 → Int32 → Option (Int32 × Int32)
  | 0, _, _, _ => none
  | fu + 1, x2, x3, x4 =>
  if x2 = 0 then ((m_X5_tableRows x1 g).bind fun x_12 => if x_12 ≤ x4 then (some (x2, x3)) else (chk (inb x1 24) (chk (inb ((g.1 30 0 x1.toNatClampNeg) + x4) 12100) (lett (g.1 38 0 ((g.1 30 0 x1.toNatClampNeg) + x4).toNatClampNeg) fun x_16 => if x_16 = (-1 : Int32) then (lett (1 : Int32) fun x_47 => if x_47 = 0 then (chk (inb x_16 13000) (lett (x3 + (g.1 33 0 x_16.toNatClampNeg)) fun x_55 => lett (x4 + 1) fun x_57 => m_X5_flat_L34 x1 g fu x_47 x_55 x_57)) else (lett (x3 + (0 : Int32)) fun x_50 => lett (x4 + 1) fun x_52 => m_X5_flat_L34 x1 g fu x_47 x_50 x_52)) else (chk (inb x_16 13000) ((m_X5_lengthOf x1 (1 : Int32) g).bind fun y_21 => if (lg_cmp ((g.1 33 0 x_16.toNatClampNeg).toInt64) y_21) = 0 then (lett (0 : Int32) fun x_23 => if x_23 = 0 then (chk (inb x_16 13000) (lett (x3 + (g.1 33 0 x_16.toNatClampNeg)) fun x_31 => lett (x4 + 1) fun x_33 => m_X5_flat_L34 x1 g fu x_23 x_31 x_33)) else (lett (x3 + (0 : Int32)) fun x_26 => lett (x4 + 1) fun x_28 => m_X5_flat_L34 x1 g fu x_23 x_26 x_28)) else (lett (11 : Int32) fun x_35 => if x_35 = 0 then (chk (inb x_16 13000) (lett (x3 + (g.1 33 0 x_16.toNatClampNeg)) fun x_43 => lett (x4 + 1) fun x_45 => m_X5_flat_L34 x1 g fu x_35 x_43 x_45)) else (lett (x3 + (0 : Int32)) fun x_38 => lett (x4 + 1) fun x_40 => m_X5_flat_L34 x1 g fu x_35 x_38 x_40)))))))) else (some (x2, x3))
def m_X5_flat_L215 (x1 : Int32) (x4 : Int32) (x6 : Int32) (x7 : Int32) : Nat → Int32 → Int32 → Gs → Option (Int32 × Gs)
  | 0, _, _, _ => none
  | fu + 1, x5, x8, g =>
  chk (inb x7 13000) (if (g.1 33 0 x7.toNatClampNeg) ≤ x8 then (some (x5, g)) else (chk (inb x7 13000) ((m_X5_copy ((g.1 32 0 x7.toNatClampNeg) + x8) x5 g).bind fun g_91 => lett (x5 + 1) fun x_92 => lett (x8 + 1) fun x_94 => m_X5_flat_L215 x1 x4 x6 x7 fu x_92 x_94 g_91)))
def m_X5_flat_L186 (x1 : Int32) (x4 : Int32) : Nat → Int32 → Int32 → Gs → Option (Gs)
  | 0, _, _, _ => none
  | fu + 1, x5, x6, g =>
  (m_X5_tableRows x1 g).bind fun x_79 => if x_79 ≤ x6 then (some g) else (chk (inb x1 24) (chk (inb ((g.1 30 0 x1.toNatClampNeg) + x6) 12100) (lett (g.1 38 0 ((g.1 30 0 x1.toNatClampNeg) + x6).toNatClampNeg) fun x_83 => lett (0 : Int32) fun x_85 => (m_X5_flat_L215 x1 x4 x6 x_83 FU x5 x_85 g).bind fun (x_96, g_97) => lett (x6 + 1) fun x_98 => m_X5_flat_L186 x1 x4 fu x_96 x_98 g_97)))
def m_X5_flat_J139 (x1 : Int32) (x2 : Int32) (x3 : Int32) (g : Gs) : Option (Int32 × Gs) :=
  if x2 = 0 then ((m_X5_newArray (1 : Int32) x1 g).bind fun (x_64, g_65) => (m_X5_newRow x3 g_65).bind fun (x_67, g_68) => chk (inb x_64 24) (lett (sI g_68 30 0 x_64.toNatClampNeg x_67) fun g_70 => chk (inb x_64 24) (chk (inb (g_70.1 30 0 x_64.toNatClampNeg) 13000) (lett (g_70.1 32 0 (g_70.1 30 0 x_64.toNatClampNeg).toNatClampNeg) fun x_74 => lett (0 : Int32) fun x_76 => (m_X5_flat_L186 x1 x_64 FU x_74 x_76 g_70).bind fun g_102 => (m_X5_yes x_64 g_102).bind fun (x_104, g_105) => some (x_104, g_105))))) else ((m_X5_no x2 g).bind fun (x_109, g_110) => some (x_109, g_110))
def m_X5_flat_J28 (x1 : Int32) (xs0 : Int32) (g : Gs) : Option (Int32 × Gs) :=
  lett (0 : Int32) fun x_6 => lett (0 : Int32) fun x_8 => (m_X5_flat_L34 x1 g FU xs0 x_6 x_8).bind fun (x_59, x_60) => if x_59 = 0 then (if (g.1 25 0 0) = (24 : Int32) then (lett (8 : Int32) fun x_112 => m_X5_flat_J139 x1 x_112 x_60 g) else (m_X5_flat_J139 x1 x_59 x_60 g)) else (m_X5_flat_J139 x1 x_59 x_60 g)
def m_X5_flat (x1 : Int32) (g : Gs) : Option (Int32 × Gs) :=
  (m_X5_isArray x1 g).bind fun x_2 => if x_2 = 0 then (m_X5_flat_J28 x1 (7 : Int32) g) else (chk (inb x1 24) (if (g.1 26 0 x1.toNatClampNeg) = (4 : Int32) then (m_X5_flat_J28 x1 (0 : Int32) g) else (m_X5_flat_J28 x1 (2 : Int32) g)))
set_option maxHeartbeats 4000000 in
set_option maxRecDepth 100000 in
theorem w_X5_flat_L34 {x1 : Int32} (C0 : Cx p s m args c cX5_flat 9 RX5 D cy) (hr : meth.sig.returnType = (some .int)) (hk : meth.locks = false) {res : Int32 × Gs} {q : Int32 × Int32} (kk : ∀ (x2 : Int32) (x3 : Int32) (H : Heap) (locs : List Loc) (ls : Array Slot), q = (x2, x3) → lv_has ls 9 [(0, .ref (sb 13)), (1, .int x1), (2, .int x2), (3, .int x3)] → Ws D b0 cy sb db g s H locs → W p l e ({ frames := 3, cells := 0, slots := 0, locals := 66 } : Room) s m args below meth c H locs 0 0 (MQ below (QX (some (.int res.1)) D b0 cy sb db res.2) args s 0 0 (fun q => b0 ≤ q)) (F0 m 123 ls [])) : ∀ (fu : Nat) (x2 : Int32) (x3 : Int32) (x4 : Int32) (H : Heap) (locs : List Loc) (ls : Array Slot), lv_has ls 9 [(0, .ref (sb 13)), (1, .int x1), (2, .int x2), (3, .int x3), (4, .int x4)] → Ws D b0 cy sb db g s H locs → m_X5_flat_L34 x1 g fu x2 x3 x4 = some q → W p l e ({ frames := 3, cells := 0, slots := 0, locals := 66 } : Room) s m args below meth c H locs 0 0 (MQ below (QX (some (.int res.1)) D b0 cy sb db res.2) args s 0 0 (fun q => b0 ≤ q)) (F0 m 34 ls []) := by
  obtain ⟨hx, hb, hml, hown, hts, hK⟩ := id C0
  intro fu
  induction fu with
  | zero =>
    intro x2 x3 x4 H locs ls hl M h
    cases h
  | succ fu ih =>
    intro x2 x3 x4 H locs ls hl M h
    rw [m_X5_flat_L34] at h
    refine lv_iload_n hx hb dX5_flat_34 rfl (lv_at hl 2 rfl) ?_
    refine lv_if_ne (tgt := 123) hx hb dX5_flat_35 (by decide) (fun c_10 => ?_) (fun c_10 => ?_)
    · rw [if_neg c_10] at h
      exact kk _ _ _ _ _ (Option.some.inj h).symm (lv_sub hl [0, 1, 2, 3] rfl) M
    · rw [if_pos c_10] at h
      refine lv_iload hx hb dX5_flat_38 (lv_at hl 4 rfl) ?_
      refine lv_aload_n hx hb dX5_flat_40 rfl (lv_at hl 0 rfl) ?_
      refine lv_iload_n hx hb dX5_flat_41 rfl (lv_at hl 1 rfl) ?_
      obtain ⟨x_12, hc_11, h⟩ := bnd_s h
      refine kV (As := [.int x1]) (rest := [.int x4]) (stk := [.int x_12, .int x4]) (val := (some (.int x_12))) (c1 := 0) (s1 := 0) C0 M (k_X5_tableRows hc_11) kw_19_1 Y_X5_tableRows (rv_X5 C0 M) ⟨Nat.le_of_ble_eq_true rfl, Nat.le_of_ble_eq_true rfl⟩ rfl hl.1 rfl (Nat.le_of_ble_eq_true rfl) dX5_flat_42 rfl rfl ⟨Nat.le_refl _, Nat.le_refl _⟩ rfl (fun H locs M => ?_)
      refine lv_icmp_ge (tgt := 123) hx hb dX5_flat_45 (by decide) (fun c_13 => ?_) (fun c_13 => ?_)
      · rw [if_pos c_13] at h
        exact kk _ _ _ _ _ (Option.some.inj h).symm (lv_sub hl [0, 1, 2, 3] rfl) M
      · rw [if_neg c_13] at h
        refine lv_aload_n hx hb dX5_flat_48 rfl (lv_at hl 0 rfl) ?_
        refine gf_RX5_50 C0 M dX5_flat_49 ?_
        refine lv_aload_n hx hb dX5_flat_52 rfl (lv_at hl 0 rfl) ?_
        refine gf_RX5_32 C0 M dX5_flat_53 ?_
        refine lv_iload_n hx hb dX5_flat_56 rfl (lv_at hl 1 rfl) ?_
        obtain ⟨hi_14, h⟩ := chk_s h
        refine al_MrowOf C0 M hi_14 dX5_flat_57 ?_
        refine lv_iload hx hb dX5_flat_58 (lv_at hl 4 rfl) ?_
        refine lv_iadd hx hb dX5_flat_60 ?_
        obtain ⟨hi_15, h⟩ := chk_s h
        refine al_Mslot C0 M hi_15 dX5_flat_61 ?_
        obtain ⟨x_16, hn_17, h⟩ := lett_s h
        refine nm_i hn_17 ?_
        refine lv_istore (lv' := [(5, .int x_16), (0, .ref (sb 13)), (1, .int x1), (2, .int x2), (3, .int x3), (4, .int x4)]) hx hb dX5_flat_62 hl (by decide) rfl (fun ls hl => ?_)
        refine lv_iload hx hb dX5_flat_64 (lv_at hl 0 rfl) ?_
        refine lv_iconst (v := -1) hx hb dX5_flat_66 (by decide) ?_
        refine lv_icmp_ne (tgt := 74) hx hb dX5_flat_67 (by decide) (fun c_18 => ?_) (fun c_18 => ?_)
        · rw [if_neg c_18] at h
          refine lv_aload_n hx hb dX5_flat_74 rfl (lv_at hl 1 rfl) ?_
          refine gf_RX5_38 C0 M dX5_flat_75 ?_
          refine lv_iload hx hb dX5_flat_78 (lv_at hl 0 rfl) ?_
          obtain ⟨hi_19, h⟩ := chk_s h
          refine al_MrowSize C0 M hi_19 dX5_flat_80 ?_
          refine lv_i2l hx hb dX5_flat_81 rfl ?_
          refine lv_aload_n hx hb dX5_flat_82 rfl (lv_at hl 1 rfl) ?_
          refine lv_iload_n hx hb dX5_flat_83 rfl (lv_at hl 2 rfl) ?_
          refine lv_iconst (v := 1) hx hb dX5_flat_84 (by decide) ?_
          obtain ⟨y_21, hc_20, h⟩ := bnd_s h
          refine kV (As := [.int x1, .int (1 : Int32)]) (rest := [.long ((g.1 33 0 x_16.toNatClampNeg).toInt64)]) (stk := [.long y_21, .long ((g.1 33 0 x_16.toNatClampNeg).toInt64)]) (val := (some (.long y_21))) (c1 := 0) (s1 := 0) C0 M (k_X5_lengthOf hc_20) kw_12_18 Y_X5_lengthOf (rv_X5 C0 M) ⟨Nat.le_of_ble_eq_true rfl, Nat.le_of_ble_eq_true rfl⟩ rfl hl.1 rfl (Nat.le_of_ble_eq_true rfl) dX5_flat_85 rfl rfl ⟨Nat.le_refl _, Nat.le_refl _⟩ rfl (fun H locs M => ?_)
          refine W.lcmp hx hb dX5_flat_88 ?_
          refine lv_if_eq (tgt := 97) hx hb dX5_flat_89 (by decide) (fun c_22 => ?_) (fun c_22 => ?_)
          · rw [if_pos c_22] at h
            refine lv_iconst (v := 0) hx hb dX5_flat_97 (by decide) ?_
            obtain ⟨x_23, hn_24, h⟩ := lett_s h
            refine nm_i hn_24 ?_
            refine lv_istore_n (lv' := [(2, .int x_23), (5, .int x_16), (0, .ref (sb 13)), (1, .int x1), (3, .int x3), (4, .int x4)]) hx hb dX5_flat_98 rfl hl (by decide) rfl (fun ls hl => ?_)
            refine lv_iload_n hx hb dX5_flat_99 rfl (lv_at hl 4 rfl) ?_
            refine lv_iload_n hx hb dX5_flat_100 rfl (lv_at hl 0 rfl) ?_
            refine lv_if_ne (tgt := 114) hx hb dX5_flat_101 (by decide) (fun c_25 => ?_) (fun c_25 => ?_)
            · rw [if_neg c_25] at h
              refine lv_iconst (v := 0) hx hb dX5_flat_114 (by decide) ?_
              refine lv_iadd hx hb dX5_flat_115 ?_
              obtain ⟨x_26, hn_27, h⟩ := lett_s h
              refine nm_i hn_27 ?_
              refine lv_istore_n (lv' := [(3, .int x_26), (2, .int x_23), (5, .int x_16), (0, .ref (sb 13)), (1, .int x1), (4, .int x4)]) hx hb dX5_flat_116 rfl hl (by decide) rfl (fun ls hl => ?_)
              obtain ⟨x_28, hn_29, h⟩ := lett_s h
              refine lv_iinc (v := x_28) (lv' := [(4, .int x_28), (3, .int x_26), (2, .int x_23), (5, .int x_16), (0, .ref (sb 13)), (1, .int x1)]) hx hb dX5_flat_117 hl (k := 5) rfl (by rw [hn_29]; rfl) (by decide) rfl (fun ls hl => ?_)
              refine lv_goto (tgt := 34) hx hb dX5_flat_120 (by decide) ?_
              exact ih _ _ _ _ _ _ (lv_sub hl [4, 5, 2, 1, 0] rfl) M h
            · rw [if_pos c_25] at h
              refine lv_aload_n hx hb dX5_flat_104 rfl (lv_at hl 2 rfl) ?_
              refine gf_RX5_38 C0 M dX5_flat_105 ?_
              refine lv_iload hx hb dX5_flat_108 (lv_at hl 1 rfl) ?_
              obtain ⟨hi_30, h⟩ := chk_s h
              refine al_MrowSize C0 M hi_30 dX5_flat_110 ?_
              refine lv_goto (tgt := 115) hx hb dX5_flat_111 (by decide) ?_
              refine lv_iadd hx hb dX5_flat_115 ?_
              obtain ⟨x_31, hn_32, h⟩ := lett_s h
              refine nm_i hn_32 ?_
              refine lv_istore_n (lv' := [(3, .int x_31), (2, .int x_23), (5, .int x_16), (0, .ref (sb 13)), (1, .int x1), (4, .int x4)]) hx hb dX5_flat_116 rfl hl (by decide) rfl (fun ls hl => ?_)
              obtain ⟨x_33, hn_34, h⟩ := lett_s h
              refine lv_iinc (v := x_33) (lv' := [(4, .int x_33), (3, .int x_31), (2, .int x_23), (5, .int x_16), (0, .ref (sb 13)), (1, .int x1)]) hx hb dX5_flat_117 hl (k := 5) rfl (by rw [hn_34]; rfl) (by decide) rfl (fun ls hl => ?_)
              refine lv_goto (tgt := 34) hx hb dX5_flat_120 (by decide) ?_
              exact ih _ _ _ _ _ _ (lv_sub hl [4, 5, 2, 1, 0] rfl) M h
          · rw [if_neg c_22] at h
            refine lv_bipush (v := 11) hx hb dX5_flat_92 (by decide) ?_
            refine lv_goto (tgt := 98) hx hb dX5_flat_94 (by decide) ?_
            obtain ⟨x_35, hn_36, h⟩ := lett_s h
            refine nm_i hn_36 ?_
            refine lv_istore_n (lv' := [(2, .int x_35), (5, .int x_16), (0, .ref (sb 13)), (1, .int x1), (3, .int x3), (4, .int x4)]) hx hb dX5_flat_98 rfl hl (by decide) rfl (fun ls hl => ?_)
            refine lv_iload_n hx hb dX5_flat_99 rfl (lv_at hl 4 rfl) ?_
            refine lv_iload_n hx hb dX5_flat_100 rfl (lv_at hl 0 rfl) ?_
            refine lv_if_ne (tgt := 114) hx hb dX5_flat_101 (by decide) (fun c_37 => ?_) (fun c_37 => ?_)
            · rw [if_neg c_37] at h
              refine lv_iconst (v := 0) hx hb dX5_flat_114 (by decide) ?_
              refine lv_iadd hx hb dX5_flat_115 ?_
              obtain ⟨x_38, hn_39, h⟩ := lett_s h
              refine nm_i hn_39 ?_
              refine lv_istore_n (lv' := [(3, .int x_38), (2, .int x_35), (5, .int x_16), (0, .ref (sb 13)), (1, .int x1), (4, .int x4)]) hx hb dX5_flat_116 rfl hl (by decide) rfl (fun ls hl => ?_)
              obtain ⟨x_40, hn_41, h⟩ := lett_s h
              refine lv_iinc (v := x_40) (lv' := [(4, .int x_40), (3, .int x_38), (2, .int x_35), (5, .int x_16), (0, .ref (sb 13)), (1, .int x1)]) hx hb dX5_flat_117 hl (k := 5) rfl (by rw [hn_41]; rfl) (by decide) rfl (fun ls hl => ?_)
              refine lv_goto (tgt := 34) hx hb dX5_flat_120 (by decide) ?_
              exact ih _ _ _ _ _ _ (lv_sub hl [4, 5, 2, 1, 0] rfl) M h
            · rw [if_pos c_37] at h
              refine lv_aload_n hx hb dX5_flat_104 rfl (lv_at hl 2 rfl) ?_
              refine gf_RX5_38 C0 M dX5_flat_105 ?_
              refine lv_iload hx hb dX5_flat_108 (lv_at hl 1 rfl) ?_
              obtain ⟨hi_42, h⟩ := chk_s h
              refine al_MrowSize C0 M hi_42 dX5_flat_110 ?_
              refine lv_goto (tgt := 115) hx hb dX5_flat_111 (by decide) ?_
              refine lv_iadd hx hb dX5_flat_115 ?_
              obtain ⟨x_43, hn_44, h⟩ := lett_s h
              refine nm_i hn_44 ?_
              refine lv_istore_n (lv' := [(3, .int x_43), (2, .int x_35), (5, .int x_16), (0, .ref (sb 13)), (1, .int x1), (4, .int x4)]) hx hb dX5_flat_116 rfl hl (by decide) rfl (fun ls hl => ?_)
              obtain ⟨x_45, hn_46, h⟩ := lett_s h
              refine lv_iinc (v := x_45) (lv' := [(4, .int x_45), (3, .int x_43), (2, .int x_35), (5, .int x_16), (0, .ref (sb 13)), (1, .int x1)]) hx hb dX5_flat_117 hl (k := 5) rfl (by rw [hn_46]; rfl) (by decide) rfl (fun ls hl => ?_)
              refine lv_goto (tgt := 34) hx hb dX5_flat_120 (by decide) ?_
              exact ih _ _ _ _ _ _ (lv_sub hl [4, 5, 2, 1, 0] rfl) M h
        · rw [if_pos c_18] at h
          refine lv_iconst (v := 1) hx hb dX5_flat_70 (by decide) ?_
          refine lv_goto (tgt := 98) hx hb dX5_flat_71 (by decide) ?_
          obtain ⟨x_47, hn_48, h⟩ := lett_s h
          refine nm_i hn_48 ?_
          refine lv_istore_n (lv' := [(2, .int x_47), (5, .int x_16), (0, .ref (sb 13)), (1, .int x1), (3, .int x3), (4, .int x4)]) hx hb dX5_flat_98 rfl hl (by decide) rfl (fun ls hl => ?_)
          refine lv_iload_n hx hb dX5_flat_99 rfl (lv_at hl 4 rfl) ?_
          refine lv_iload_n hx hb dX5_flat_100 rfl (lv_at hl 0 rfl) ?_
          refine lv_if_ne (tgt := 114) hx hb dX5_flat_101 (by decide) (fun c_49 => ?_) (fun c_49 => ?_)
          · rw [if_neg c_49] at h
            refine lv_iconst (v := 0) hx hb dX5_flat_114 (by decide) ?_
            refine lv_iadd hx hb dX5_flat_115 ?_
            obtain ⟨x_50, hn_51, h⟩ := lett_s h
            refine nm_i hn_51 ?_
            refine lv_istore_n (lv' := [(3, .int x_50), (2, .int x_47), (5, .int x_16), (0, .ref (sb 13)), (1, .int x1), (4, .int x4)]) hx hb dX5_flat_116 rfl hl (by decide) rfl (fun ls hl => ?_)
            obtain ⟨x_52, hn_53, h⟩ := lett_s h
            refine lv_iinc (v := x_52) (lv' := [(4, .int x_52), (3, .int x_50), (2, .int x_47), (5, .int x_16), (0, .ref (sb 13)), (1, .int x1)]) hx hb dX5_flat_117 hl (k := 5) rfl (by rw [hn_53]; rfl) (by decide) rfl (fun ls hl => ?_)
            refine lv_goto (tgt := 34) hx hb dX5_flat_120 (by decide) ?_
            exact ih _ _ _ _ _ _ (lv_sub hl [4, 5, 2, 1, 0] rfl) M h
          · rw [if_pos c_49] at h
            refine lv_aload_n hx hb dX5_flat_104 rfl (lv_at hl 2 rfl) ?_
            refine gf_RX5_38 C0 M dX5_flat_105 ?_
            refine lv_iload hx hb dX5_flat_108 (lv_at hl 1 rfl) ?_
            obtain ⟨hi_54, h⟩ := chk_s h
            refine al_MrowSize C0 M hi_54 dX5_flat_110 ?_
            refine lv_goto (tgt := 115) hx hb dX5_flat_111 (by decide) ?_
            refine lv_iadd hx hb dX5_flat_115 ?_
            obtain ⟨x_55, hn_56, h⟩ := lett_s h
            refine nm_i hn_56 ?_
            refine lv_istore_n (lv' := [(3, .int x_55), (2, .int x_47), (5, .int x_16), (0, .ref (sb 13)), (1, .int x1), (4, .int x4)]) hx hb dX5_flat_116 rfl hl (by decide) rfl (fun ls hl => ?_)
            obtain ⟨x_57, hn_58, h⟩ := lett_s h
            refine lv_iinc (v := x_57) (lv' := [(4, .int x_57), (3, .int x_55), (2, .int x_47), (5, .int x_16), (0, .ref (sb 13)), (1, .int x1)]) hx hb dX5_flat_117 hl (k := 5) rfl (by rw [hn_58]; rfl) (by decide) rfl (fun ls hl => ?_)
            refine lv_goto (tgt := 34) hx hb dX5_flat_120 (by decide) ?_
            exact ih _ _ _ _ _ _ (lv_sub hl [4, 5, 2, 1, 0] rfl) M h
set_option maxHeartbeats 4000000 in
set_option maxRecDepth 100000 in
theorem w_X5_flat_L215 {x1 : Int32} {x4 : Int32} {x6 : Int32} {x7 : Int32} (C0 : Cx p s m args c cX5_flat 9 RX5 D cy) (hr : meth.sig.returnType = (some .int)) (hk : meth.locks = false) {res : Int32 × Gs} {q : Int32 × Gs} (kk : ∀ (x5 : Int32) (g : Gs) (H : Heap) (locs : List Loc) (ls : Array Slot), q = (x5, g) → lv_has ls 9 [(0, .ref (sb 13)), (1, .int x1), (4, .int x4), (5, .int x5), (6, .int x6)] → Ws D b0 cy sb db g s H locs → W p l e ({ frames := 3, cells := 0, slots := 0, locals := 66 } : Room) s m args below meth c H locs 0 0 (MQ below (QX (some (.int res.1)) D b0 cy sb db res.2) args s 0 0 (fun q => b0 ≤ q)) (F0 m 252 ls [])) : ∀ (fu : Nat) (x5 : Int32) (x8 : Int32) (g : Gs) (H : Heap) (locs : List Loc) (ls : Array Slot), lv_has ls 9 [(0, .ref (sb 13)), (1, .int x1), (4, .int x4), (5, .int x5), (6, .int x6), (7, .int x7), (8, .int x8)] → Ws D b0 cy sb db g s H locs → m_X5_flat_L215 x1 x4 x6 x7 fu x5 x8 g = some q → W p l e ({ frames := 3, cells := 0, slots := 0, locals := 66 } : Room) s m args below meth c H locs 0 0 (MQ below (QX (some (.int res.1)) D b0 cy sb db res.2) args s 0 0 (fun q => b0 ≤ q)) (F0 m 215 ls []) := by
  obtain ⟨hx, hb, hml, hown, hts, hK⟩ := id C0
  intro fu
  induction fu with
  | zero =>
    intro x5 x8 g H locs ls hl M h
    cases h
  | succ fu ih =>
    intro x5 x8 g H locs ls hl M h
    rw [m_X5_flat_L215] at h
    refine lv_iload hx hb dX5_flat_215 (lv_at hl 6 rfl) ?_
    refine lv_aload_n hx hb dX5_flat_217 rfl (lv_at hl 0 rfl) ?_
    refine gf_RX5_38 C0 M dX5_flat_218 ?_
    refine lv_iload hx hb dX5_flat_221 (lv_at hl 5 rfl) ?_
    obtain ⟨hi_87, h⟩ := chk_s h
    refine al_MrowSize C0 M hi_87 dX5_flat_223 ?_
    refine lv_icmp_ge (tgt := 252) hx hb dX5_flat_224 (by decide) (fun c_88 => ?_) (fun c_88 => ?_)
    · rw [if_pos c_88] at h
      exact kk _ _ _ _ _ (Option.some.inj h).symm (lv_sub hl [0, 1, 2, 3, 4] rfl) M
    · rw [if_neg c_88] at h
      refine lv_aload_n hx hb dX5_flat_227 rfl (lv_at hl 0 rfl) ?_
      refine lv_aload_n hx hb dX5_flat_228 rfl (lv_at hl 0 rfl) ?_
      refine gf_RX5_35 C0 M dX5_flat_229 ?_
      refine lv_iload hx hb dX5_flat_232 (lv_at hl 5 rfl) ?_
      obtain ⟨hi_89, h⟩ := chk_s h
      refine al_MrowAt C0 M hi_89 dX5_flat_234 ?_
      refine lv_iload hx hb dX5_flat_235 (lv_at hl 6 rfl) ?_
      refine lv_iadd hx hb dX5_flat_237 ?_
      refine lv_iload hx hb dX5_flat_238 (lv_at hl 3 rfl) ?_
      obtain ⟨g_91, hc_90, h⟩ := bnd_s h
      refine kV (As := [.int ((g.1 32 0 x7.toNatClampNeg) + x8), .int x5]) (rest := []) (stk := []) (val := none) (c1 := 0) (s1 := 0) C0 M (k_X5_copy hc_90) kw_15_21 Y_X5_copy (rv_X5 C0 M) ⟨Nat.le_of_ble_eq_true rfl, Nat.le_of_ble_eq_true rfl⟩ rfl hl.1 rfl (Nat.le_of_ble_eq_true rfl) dX5_flat_240 rfl rfl ⟨Nat.le_refl _, Nat.le_refl _⟩ rfl (fun H locs M => ?_)
      obtain ⟨x_92, hn_93, h⟩ := lett_s h
      refine lv_iinc (v := x_92) (lv' := [(5, .int x_92), (0, .ref (sb 13)), (1, .int x1), (4, .int x4), (6, .int x6), (7, .int x7), (8, .int x8)]) hx hb dX5_flat_243 hl (k := 3) rfl (by rw [hn_93]; rfl) (by decide) rfl (fun ls hl => ?_)
      obtain ⟨x_94, hn_95, h⟩ := lett_s h
      refine lv_iinc (v := x_94) (lv' := [(8, .int x_94), (5, .int x_92), (0, .ref (sb 13)), (1, .int x1), (4, .int x4), (6, .int x6), (7, .int x7)]) hx hb dX5_flat_246 hl (k := 6) rfl (by rw [hn_95]; rfl) (by decide) rfl (fun ls hl => ?_)
      refine lv_goto (tgt := 215) hx hb dX5_flat_249 (by decide) ?_
      exact ih _ _ _ _ _ _ (lv_sub hl [2, 3, 4, 1, 5, 6, 0] rfl) M h
set_option maxHeartbeats 4000000 in
set_option maxRecDepth 100000 in
theorem w_X5_flat_L186 {x1 : Int32} {x4 : Int32} (C0 : Cx p s m args c cX5_flat 9 RX5 D cy) (hr : meth.sig.returnType = (some .int)) (hk : meth.locks = false) {res : Int32 × Gs} {q : Gs} (kk : ∀ (g : Gs) (H : Heap) (locs : List Loc) (ls : Array Slot), q = g → lv_has ls 9 [(0, .ref (sb 13)), (4, .int x4)] → Ws D b0 cy sb db g s H locs → W p l e ({ frames := 3, cells := 0, slots := 0, locals := 66 } : Room) s m args below meth c H locs 0 0 (MQ below (QX (some (.int res.1)) D b0 cy sb db res.2) args s 0 0 (fun q => b0 ≤ q)) (F0 m 258 ls [])) : ∀ (fu : Nat) (x5 : Int32) (x6 : Int32) (g : Gs) (H : Heap) (locs : List Loc) (ls : Array Slot), lv_has ls 9 [(0, .ref (sb 13)), (1, .int x1), (4, .int x4), (5, .int x5), (6, .int x6)] → Ws D b0 cy sb db g s H locs → m_X5_flat_L186 x1 x4 fu x5 x6 g = some q → W p l e ({ frames := 3, cells := 0, slots := 0, locals := 66 } : Room) s m args below meth c H locs 0 0 (MQ below (QX (some (.int res.1)) D b0 cy sb db res.2) args s 0 0 (fun q => b0 ≤ q)) (F0 m 186 ls []) := by
  obtain ⟨hx, hb, hml, hown, hts, hK⟩ := id C0
  intro fu
  induction fu with
  | zero =>
    intro x5 x6 g H locs ls hl M h
    cases h
  | succ fu ih =>
    intro x5 x6 g H locs ls hl M h
    rw [m_X5_flat_L186] at h
    refine lv_iload hx hb dX5_flat_186 (lv_at hl 4 rfl) ?_
    refine lv_aload_n hx hb dX5_flat_188 rfl (lv_at hl 0 rfl) ?_
    refine lv_iload_n hx hb dX5_flat_189 rfl (lv_at hl 1 rfl) ?_
    obtain ⟨x_79, hc_78, h⟩ := bnd_s h
    refine kV (As := [.int x1]) (rest := [.int x6]) (stk := [.int x_79, .int x6]) (val := (some (.int x_79))) (c1 := 0) (s1 := 0) C0 M (k_X5_tableRows hc_78) kw_19_1 Y_X5_tableRows (rv_X5 C0 M) ⟨Nat.le_of_ble_eq_true rfl, Nat.le_of_ble_eq_true rfl⟩ rfl hl.1 rfl (Nat.le_of_ble_eq_true rfl) dX5_flat_190 rfl rfl ⟨Nat.le_refl _, Nat.le_refl _⟩ rfl (fun H locs M => ?_)
    refine lv_icmp_ge (tgt := 258) hx hb dX5_flat_193 (by decide) (fun c_80 => ?_) (fun c_80 => ?_)
    · rw [if_pos c_80] at h
      exact kk _ _ _ _ (Option.some.inj h).symm (lv_sub hl [0, 2] rfl) M
    · rw [if_neg c_80] at h
      refine lv_aload_n hx hb dX5_flat_196 rfl (lv_at hl 0 rfl) ?_
      refine gf_RX5_50 C0 M dX5_flat_197 ?_
      refine lv_aload_n hx hb dX5_flat_200 rfl (lv_at hl 0 rfl) ?_
      refine gf_RX5_32 C0 M dX5_flat_201 ?_
      refine lv_iload_n hx hb dX5_flat_204 rfl (lv_at hl 1 rfl) ?_
      obtain ⟨hi_81, h⟩ := chk_s h
      refine al_MrowOf C0 M hi_81 dX5_flat_205 ?_
      refine lv_iload hx hb dX5_flat_206 (lv_at hl 4 rfl) ?_
      refine lv_iadd hx hb dX5_flat_208 ?_
      obtain ⟨hi_82, h⟩ := chk_s h
      refine al_Mslot C0 M hi_82 dX5_flat_209 ?_
      obtain ⟨x_83, hn_84, h⟩ := lett_s h
      refine nm_i hn_84 ?_
      refine lv_istore (lv' := [(7, .int x_83), (0, .ref (sb 13)), (1, .int x1), (4, .int x4), (5, .int x5), (6, .int x6)]) hx hb dX5_flat_210 hl (by decide) rfl (fun ls hl => ?_)
      refine lv_iconst (v := 0) hx hb dX5_flat_212 (by decide) ?_
      obtain ⟨x_85, hn_86, h⟩ := lett_s h
      refine nm_i hn_86 ?_
      refine lv_istore (lv' := [(8, .int x_85), (7, .int x_83), (0, .ref (sb 13)), (1, .int x1), (4, .int x4), (5, .int x5), (6, .int x6)]) hx hb dX5_flat_213 hl (by decide) rfl (fun ls hl => ?_)
      obtain ⟨q_100, hq_101, h⟩ := bnd_s h
      refine w_X5_flat_L215 C0 hr hk (q := q_100) (fun x_96 g_97 H locs ls hq hl M => ?_) FU _ _ _ _ _ _ (lv_sub hl [2, 3, 4, 5, 6, 1, 0] rfl) M hq_101
      subst q_100
      try dsimp only at h
      obtain ⟨x_98, hn_99, h⟩ := lett_s h
      refine lv_iinc (v := x_98) (lv' := [(6, .int x_98), (0, .ref (sb 13)), (1, .int x1), (4, .int x4), (5, .int x_96)]) hx hb dX5_flat_252 hl (k := 4) rfl (by rw [hn_99]; rfl) (by decide) rfl (fun ls hl => ?_)
      refine lv_goto (tgt := 186) hx hb dX5_flat_255 (by decide) ?_
      exact ih _ _ _ _ _ _ (lv_sub hl [1, 2, 3, 4, 0] rfl) M h
set_option maxHeartbeats 4000000 in
set_option maxRecDepth 100000 in
theorem w_X5_flat_J139 {x1 : Int32} {x2 : Int32} {x3 : Int32} (C0 : Cx p s m args c cX5_flat 9 RX5 D cy) (hr : meth.sig.returnType = (some .int)) (hk : meth.locks = false) {res : Int32 × Gs} (hl : lv_has ls 9 [(0, .ref (sb 13)), (1, .int x1), (2, .int x2), (3, .int x3)]) (M : Ws D b0 cy sb db g s H locs) (h : m_X5_flat_J139 x1 x2 x3 g = some res) : W p l e ({ frames := 3, cells := 0, slots := 0, locals := 66 } : Room) s m args below meth c H locs 0 0 (MQ below (QX (some (.int res.1)) D b0 cy sb db res.2) args s 0 0 (fun q => b0 ≤ q)) (F0 m 139 ls []) := by
  obtain ⟨hx, hb, hml, hown, hts, hK⟩ := id C0
  rw [m_X5_flat_J139] at h
  refine lv_iload_n hx hb dX5_flat_139 rfl (lv_at hl 2 rfl) ?_
  refine lv_if_eq (tgt := 149) hx hb dX5_flat_140 (by decide) (fun c_62 => ?_) (fun c_62 => ?_)
  · rw [if_pos c_62] at h
    refine lv_aload_n hx hb dX5_flat_149 rfl (lv_at hl 0 rfl) ?_
    refine lv_iconst (v := 1) hx hb dX5_flat_150 (by decide) ?_
    refine lv_iload_n hx hb dX5_flat_151 rfl (lv_at hl 1 rfl) ?_
    obtain ⟨⟨x_64, g_65⟩, hc_63, h⟩ := bnd_s h
    try dsimp only at h
    refine kV (As := [.int (1 : Int32), .int x1]) (rest := []) (stk := [.int x_64]) (val := (some (.int x_64))) (c1 := 0) (s1 := 0) C0 M (k_X5_newArray hc_63) kw_12_9 Y_X5_newArray (rv_X5 C0 M) ⟨Nat.le_of_ble_eq_true rfl, Nat.le_of_ble_eq_true rfl⟩ rfl hl.1 rfl (Nat.le_of_ble_eq_true rfl) dX5_flat_152 rfl rfl ⟨Nat.le_refl _, Nat.le_refl _⟩ rfl (fun H locs M => ?_)
    refine lv_istore (lv' := [(4, .int x_64), (0, .ref (sb 13)), (1, .int x1), (2, .int x2), (3, .int x3)]) hx hb dX5_flat_155 hl (by decide) rfl (fun ls hl => ?_)
    refine lv_aload_n hx hb dX5_flat_157 rfl (lv_at hl 1 rfl) ?_
    refine gf_RX5_32 C0 M dX5_flat_158 ?_
    refine lv_iload hx hb dX5_flat_161 (lv_at hl 0 rfl) ?_
    refine lv_aload_n hx hb dX5_flat_163 rfl (lv_at hl 1 rfl) ?_
    refine lv_iload_n hx hb dX5_flat_164 rfl (lv_at hl 4 rfl) ?_
    obtain ⟨⟨x_67, g_68⟩, hc_66, h⟩ := bnd_s h
    try dsimp only at h
    refine kV (As := [.int x3]) (rest := [.int x_64, .ref (sb 20)]) (stk := [.int x_67, .int x_64, .ref (sb 20)]) (val := (some (.int x_67))) (c1 := 0) (s1 := 0) C0 M (k_X5_newRow hc_66) kw_12_22 Y_X5_newRow (rv_X5 C0 M) ⟨Nat.le_of_ble_eq_true rfl, Nat.le_of_ble_eq_true rfl⟩ rfl hl.1 rfl (Nat.le_of_ble_eq_true rfl) dX5_flat_165 rfl rfl ⟨Nat.le_refl _, Nat.le_refl _⟩ rfl (fun H locs M => ?_)
    obtain ⟨hi_69, h⟩ := chk_s h
    obtain ⟨g_70, hg_71, h⟩ := lett_s h
    refine as_MrowOf C0 M hi_69 hg_71 dX5_flat_168 (fun H locs M => ?_)
    refine lv_aload_n hx hb dX5_flat_169 rfl (lv_at hl 1 rfl) ?_
    refine gf_RX5_35 C0 M dX5_flat_170 ?_
    refine lv_aload_n hx hb dX5_flat_173 rfl (lv_at hl 1 rfl) ?_
    refine gf_RX5_32 C0 M dX5_flat_174 ?_
    refine lv_iload hx hb dX5_flat_177 (lv_at hl 0 rfl) ?_
    obtain ⟨hi_72, h⟩ := chk_s h
    refine al_MrowOf C0 M hi_72 dX5_flat_179 ?_
    obtain ⟨hi_73, h⟩ := chk_s h
    refine al_MrowAt C0 M hi_73 dX5_flat_180 ?_
    obtain ⟨x_74, hn_75, h⟩ := lett_s h
    refine nm_i hn_75 ?_
    refine lv_istore (lv' := [(5, .int x_74), (4, .int x_64), (0, .ref (sb 13)), (1, .int x1), (2, .int x2), (3, .int x3)]) hx hb dX5_flat_181 hl (by decide) rfl (fun ls hl => ?_)
    refine lv_iconst (v := 0) hx hb dX5_flat_183 (by decide) ?_
    obtain ⟨x_76, hn_77, h⟩ := lett_s h
    refine nm_i hn_77 ?_
    refine lv_istore (lv' := [(6, .int x_76), (5, .int x_74), (4, .int x_64), (0, .ref (sb 13)), (1, .int x1), (2, .int x2), (3, .int x3)]) hx hb dX5_flat_184 hl (by decide) rfl (fun ls hl => ?_)
    obtain ⟨q_106, hq_107, h⟩ := bnd_s h
    refine w_X5_flat_L186 C0 hr hk (q := q_106) (fun g_102 H locs ls hq hl M => ?_) FU _ _ _ _ _ _ (lv_sub hl [3, 4, 2, 1, 0] rfl) M hq_107
    subst q_106
    try dsimp only at h
    refine lv_aload_n hx hb dX5_flat_258 rfl (lv_at hl 0 rfl) ?_
    refine lv_iload hx hb dX5_flat_259 (lv_at hl 1 rfl) ?_
    obtain ⟨⟨x_104, g_105⟩, hc_103, h⟩ := bnd_s h
    try dsimp only at h
    refine kV (As := [.int x_64]) (rest := []) (stk := [.int x_104]) (val := (some (.int x_104))) (c1 := 0) (s1 := 0) C0 M (k_X5_yes hc_103) kw_6_12 Y_X5_yes (rv_X5 C0 M) ⟨Nat.le_of_ble_eq_true rfl, Nat.le_of_ble_eq_true rfl⟩ rfl hl.1 rfl (Nat.le_of_ble_eq_true rfl) dX5_flat_261 rfl rfl ⟨Nat.le_refl _, Nat.le_refl _⟩ rfl (fun H locs M => ?_)
    obtain rfl := Option.some.inj h
    exact rt_i C0 M hr hk dX5_flat_264
  · rw [if_neg c_62] at h
    refine lv_aload_n hx hb dX5_flat_143 rfl (lv_at hl 0 rfl) ?_
    refine lv_iload_n hx hb dX5_flat_144 rfl (lv_at hl 2 rfl) ?_
    obtain ⟨⟨x_109, g_110⟩, hc_108, h⟩ := bnd_s h
    try dsimp only at h
    refine kV (As := [.int x2]) (rest := []) (stk := [.int x_109]) (val := (some (.int x_109))) (c1 := 0) (s1 := 0) C0 M (k_X5_no hc_108) kw_6_8 Y_X5_no (rv_X5 C0 M) ⟨Nat.le_of_ble_eq_true rfl, Nat.le_of_ble_eq_true rfl⟩ rfl hl.1 rfl (Nat.le_of_ble_eq_true rfl) dX5_flat_145 rfl rfl ⟨Nat.le_refl _, Nat.le_refl _⟩ rfl (fun H locs M => ?_)
    obtain rfl := Option.some.inj h
    exact rt_i C0 M hr hk dX5_flat_148
set_option maxHeartbeats 4000000 in
set_option maxRecDepth 100000 in
theorem w_X5_flat_J28 {x1 : Int32} {xs0 : Int32} (C0 : Cx p s m args c cX5_flat 9 RX5 D cy) (hr : meth.sig.returnType = (some .int)) (hk : meth.locks = false) {res : Int32 × Gs} (hl : lv_has ls 9 [(0, .ref (sb 13)), (1, .int x1)]) (M : Ws D b0 cy sb db g s H locs) (h : m_X5_flat_J28 x1 xs0 g = some res) : W p l e ({ frames := 3, cells := 0, slots := 0, locals := 66 } : Room) s m args below meth c H locs 0 0 (MQ below (QX (some (.int res.1)) D b0 cy sb db res.2) args s 0 0 (fun q => b0 ≤ q)) (F0 m 28 ls [.int xs0]) := by
  obtain ⟨hx, hb, hml, hown, hts, hK⟩ := id C0
  rw [m_X5_flat_J28] at h
  refine lv_istore_n (lv' := [(2, .int xs0), (0, .ref (sb 13)), (1, .int x1)]) hx hb dX5_flat_28 rfl hl (by decide) rfl (fun ls hl => ?_)
  refine lv_iconst (v := 0) hx hb dX5_flat_29 (by decide) ?_
  obtain ⟨x_6, hn_7, h⟩ := lett_s h
  refine nm_i hn_7 ?_
  refine lv_istore_n (lv' := [(3, .int x_6), (2, .int xs0), (0, .ref (sb 13)), (1, .int x1)]) hx hb dX5_flat_30 rfl hl (by decide) rfl (fun ls hl => ?_)
  refine lv_iconst (v := 0) hx hb dX5_flat_31 (by decide) ?_
  obtain ⟨x_8, hn_9, h⟩ := lett_s h
  refine nm_i hn_9 ?_
  refine lv_istore (lv' := [(4, .int x_8), (3, .int x_6), (2, .int xs0), (0, .ref (sb 13)), (1, .int x1)]) hx hb dX5_flat_32 hl (by decide) rfl (fun ls hl => ?_)
  obtain ⟨q_114, hq_115, h⟩ := bnd_s h
  refine w_X5_flat_L34 C0 hr hk (q := q_114) (fun x_59 x_60 H locs ls hq hl M => ?_) FU _ _ _ _ _ _ (lv_sub hl [3, 4, 2, 1, 0] rfl) M hq_115
  subst q_114
  try dsimp only at h
  refine lv_iload_n hx hb dX5_flat_123 rfl (lv_at hl 2 rfl) ?_
  refine lv_if_ne (tgt := 139) hx hb dX5_flat_124 (by decide) (fun c_61 => ?_) (fun c_61 => ?_)
  · rw [if_neg c_61] at h
    exact w_X5_flat_J139 C0 hr hk hl M h
  · rw [if_pos c_61] at h
    refine lv_aload_n hx hb dX5_flat_127 rfl (lv_at hl 0 rfl) ?_
    refine gf_RX5_98 C0 M dX5_flat_128 ?_
    refine lv_bipush (v := 24) hx hb dX5_flat_131 (by decide) ?_
    refine lv_icmp_ne (tgt := 139) hx hb dX5_flat_133 (by decide) (fun c_111 => ?_) (fun c_111 => ?_)
    · rw [if_neg c_111] at h
      exact w_X5_flat_J139 C0 hr hk hl M h
    · rw [if_pos c_111] at h
      refine lv_bipush (v := 8) hx hb dX5_flat_136 (by decide) ?_
      obtain ⟨x_112, hn_113, h⟩ := lett_s h
      refine nm_i hn_113 ?_
      refine lv_istore_n (lv' := [(2, .int x_112), (0, .ref (sb 13)), (1, .int x1), (3, .int x_60)]) hx hb dX5_flat_138 rfl hl (by decide) rfl (fun ls hl => ?_)
      exact w_X5_flat_J139 C0 hr hk (lv_sub hl [1, 2, 0, 3] rfl) M h
set_option maxHeartbeats 4000000 in
set_option maxRecDepth 100000 in
theorem w_X5_flat {x1 : Int32} (C0 : Cx p s m args c cX5_flat 9 RX5 D cy) (hr : meth.sig.returnType = (some .int)) (hk : meth.locks = false) {res : Int32 × Gs} (hl : lv_has ls 9 [(0, .ref (sb 13)), (1, .int x1)]) (M : Ws D b0 cy sb db g s H locs) (h : m_X5_flat x1 g = some res) : W p l e ({ frames := 3, cells := 0, slots := 0, locals := 66 } : Room) s m args below meth c H locs 0 0 (MQ below (QX (some (.int res.1)) D b0 cy sb db res.2) args s 0 0 (fun q => b0 ≤ q)) (F0 m 0 ls []) := by
  obtain ⟨hx, hb, hml, hown, hts, hK⟩ := id C0
  rw [m_X5_flat] at h
  refine lv_aload_n hx hb dX5_flat_0 rfl (lv_at hl 0 rfl) ?_
  refine lv_iload_n hx hb dX5_flat_1 rfl (lv_at hl 1 rfl) ?_
  obtain ⟨x_2, hc_1, h⟩ := bnd_s h
  refine kV (As := [.int x1]) (rest := []) (stk := [.int x_2]) (val := (some (.int x_2))) (c1 := 0) (s1 := 0) C0 M (k_X5_isArray hc_1) kw_14_13 Y_X5_isArray (rv_X5 C0 M) ⟨Nat.le_of_ble_eq_true rfl, Nat.le_of_ble_eq_true rfl⟩ rfl hl.1 rfl (Nat.le_of_ble_eq_true rfl) dX5_flat_2 rfl rfl ⟨Nat.le_refl _, Nat.le_refl _⟩ rfl (fun H locs M => ?_)
  refine lv_if_ne (tgt := 13) hx hb dX5_flat_5 (by decide) (fun c_3 => ?_) (fun c_3 => ?_)
  · rw [if_neg c_3] at h
    refine lv_aload_n hx hb dX5_flat_13 rfl (lv_at hl 0 rfl) ?_
    refine gf_RX5_20 C0 M dX5_flat_14 ?_
    refine lv_iload_n hx hb dX5_flat_17 rfl (lv_at hl 1 rfl) ?_
    obtain ⟨hi_4, h⟩ := chk_s h
    refine al_Mkinds C0 M hi_4 dX5_flat_18 ?_
    refine lv_iconst (v := 4) hx hb dX5_flat_19 (by decide) ?_
    refine lv_icmp_eq (tgt := 27) hx hb dX5_flat_20 (by decide) (fun c_5 => ?_) (fun c_5 => ?_)
    · rw [if_pos c_5] at h
      refine lv_iconst (v := 0) hx hb dX5_flat_27 (by decide) ?_
      exact w_X5_flat_J28 C0 hr hk hl M h
    · rw [if_neg c_5] at h
      refine lv_iconst (v := 2) hx hb dX5_flat_23 (by decide) ?_
      refine lv_goto (tgt := 28) hx hb dX5_flat_24 (by decide) ?_
      exact w_X5_flat_J28 C0 hr hk hl M h
  · rw [if_pos c_3] at h
    refine lv_bipush (v := 7) hx hb dX5_flat_8 (by decide) ?_
    refine lv_goto (tgt := 28) hx hb dX5_flat_10 (by decide) ?_
    exact w_X5_flat_J28 C0 hr hk hl M h
theorem k_X5_flat {x1 : Int32} {res : Int32 × Gs} (h : m_X5_flat x1 g = some res) : CM l yX5_flat cX5_flat 9 (some .int) ({ frames := 3, cells := 0, slots := 0, locals := 66 } : Room) [.ref (sb 13), .int x1] (some (.int res.1)) D b0 cy sb db g res.2 := by
  refine Met.ofW (cc := cX5_flat) (maxL := 9) (ret := (some .int)) (by decide) rfl ?_
  intro p e s m args below meth c s₁ B hml hv
  obtain ⟨rfl, hW, hK⟩ := hv
  have hl := lv_entry [.ref (sb 13), .int x1] (n := 9) (Nat.le_of_ble_eq_true rfl)
  rw [lg_entry_eq]
  generalize (lg_sl [.ref (sb 13), .int x1] ++ List.replicate (9 - (lg_sl [.ref (sb 13), .int x1]).length) Slot.unset).toArray = ls at hl ⊢
  have hl : lv_has ls 9 [(0, .ref (sb 13)), (1, .int x1)] := hl
  exact w_X5_flat ⟨B.exec, B.bytes, hml, findClass_of_methodNamed B.named, fun w hw => atoms_spec (ws := Cond.code yX5_flat cX5_flat 9 (some .int) :: wsL_law) B.pre w (List.mem_cons_of_mem _ hw), hK⟩ B.returns B.notSynchronized hl ⟨hW, va_S.rf⟩ h
theorem Y_X5_flat : Yv yX5_flat RX5 cX5_flat 9 (some .int) 1 := ⟨⟨kw_19_0, kw_1_5, by decide +kernel, by decide +kernel, by decide +kernel⟩, kw_18_22, kw_18_23⟩
end WALK
