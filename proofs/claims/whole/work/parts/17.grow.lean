/-! Arrays.copyOf, Store.growRows, Store.growCells, a table's new rows. -/
section GROW
variable {p : Program} {l : Launch} {e : Env} {R : Room} {s : State} {m : MethodId} {args : Array Value} {below : List Frame} {meth : Method} {c : Code} {H : Heap} {locs : List Loc} {cells slots : Nat} {Q : State → Prop}
variable {cc : ByteArray} {pc nL : Nat} {ls : Array Slot} {rest : List Value} {D : va_G} {b0 : Nat} {cy : Cy} {sb db : Nat → Nat} {g g2 : Gs} {own : String}
theorem wx_list {q : Nat} {x : ClassId × vp_A} (Mx : Wx D b0 cy sb db g s H locs q x) : va_P D vwCl (lk_w (adr sb db) (cont cy sb db g) ++ [(q, .inl x)]) H ∧ va_D (fun q => b0 ≤ q) (lk_w (adr sb db) (cont cy sb db g) ++ [(q, .inl x)]) := by
  obtain ⟨M, hq, hfq, hb0⟩ := Mx
  obtain ⟨hP, hD⟩ := mp_list M.1
  have h1 : ∀ (i : Nat) (y : Nat × va_E), ([(q, .inl x)] : va_W)[i]? = some y → i = 0 ∧ y = (q, .inl x) := by
    intro i y hy
    cases i with
    | zero => cases hy; exact ⟨rfl, rfl⟩
    | succ i => simp at hy
  refine ⟨hP.app (mp_one hq), hD.app ⟨fun i j y z hy hz _ => ?_, fun i y hy => ?_⟩ (fun i j y z hy hz h => ?_)⟩
  · rw [(h1 i y hy).1, (h1 j z hz).1]
  · rw [(h1 i y hy).2]
    exact hb0
  · obtain ⟨k, -, hk, rfl⟩ := lk_get hy
    rw [(h1 j z hz).2] at h
    exact hfq k hk h
theorem wx_back {q : Nat} {x y : ClassId × vp_A} {H1 : Heap} {locs1 : List Loc} (Mx : Wx D b0 cy sb db g s H locs q x) (hP : va_P D vwCl ((lk_w (adr sb db) (cont cy sb db g) ++ ([(q, Sum.inl x)] : va_W)).set (lk_w (adr sb db) (cont cy sb db g)).length (q, Sum.inl y)) H1) (hS : va_S (fun q => b0 ≤ q) s.heap H1 locs1) : Wx D b0 cy sb db g s H1 locs1 q y := by
  obtain ⟨M, hq, hfq, hb0⟩ := Mx
  refine ⟨⟨⟨fun k hk => ?_, M.1.2⟩, hS⟩, ?_, hfq, hb0⟩
  · obtain ⟨i, hi⟩ := lk_at (ad := adr sb db) (ct := cont cy sb db g) hk
    have hl := (List.getElem?_eq_some_iff.mp hi).1
    exact hP i _ (by rw [List.getElem?_set_ne (by omega), List.getElem?_append_left hl]; exact hi)
  · exact hP (lk_w (adr sb db) (cont cy sb db g)).length (q, .inl y) (by rw [List.getElem?_set_self (by simp)])
theorem cpx_i {q a k n0 n1 t0 index : Nat} {cA : ClassId} {f f1 : Nat → Int32} {ty : FieldType} (C0 : Cx p s m args c cc nL own D cy) (Mx : Wx D b0 cy sb db g s H locs q (cA, n1, .inl f1)) (hk : lvk k) (ha : adr sb db k = a) (hct : cont cy sb db g k = .inl (cA, n0, .inl f)) (ht : (tyL cy)[t0]? = some (cA, ty)) (hprim : refKind ty = false) {sp dp n : Int32} (h1 : ¬ sp < 0) (h2 : ¬ dp < 0) (h3 : ¬ n < 0) (h4 : sp.toNatClampNeg + n.toNatClampNeg ≤ n0) (h5 : dp.toNatClampNeg + n.toNatClampNeg ≤ n1) (hfit : ∀ i, i < n.toNatClampNeg → fits ty (.int (f (sp.toNatClampNeg + i))) = true)
    (hlink : Cond.methodLink own index arraycopyName ∈ wsL_law) (hsz : ls.size = nL) (hframes : 1 ≤ R.frames) (hlocals : (rest.map fun v => v.category).sum + 18 ≤ R.locals) (hdg : decode cc pc = .ok (.invokestatic index, 3))
    (kk : ∀ (H1 : Heap) (locs1 : List Loc), Wx D b0 cy sb db g s H1 locs1 q (cA, n1, .inl (va_cpy f f1 sp.toNatClampNeg dp.toNatClampNeg n.toNatClampNeg)) → W p l e R s m args below meth c H1 locs1 cells slots Q (F0 m (pc + 3) ls rest)) : W p l e R s m args below meth c H locs cells slots Q (F0 m pc ls (.int n :: .int dp :: .ref q :: .int sp :: .ref a :: rest)) := by
  obtain ⟨hx, hb, hml, hown, hts, hK⟩ := C0
  obtain ⟨hP, hD⟩ := wx_list Mx
  obtain ⟨i, hi⟩ := lk_at (ad := adr sb db) (ct := cont cy sb db g) hk
  have hl := (List.getElem?_eq_some_iff.mp hi).1
  rw [ha, hct] at hi
  exact va_copyi hx hb (hml.trans hsz.symm) hown (hts _ hlink) (hts _ kw_9_11) (hts _ kw_9_12) (hts _ kw_9_13) hK hP hD Mx.1.2 i (lk_w (adr sb db) (cont cy sb db g)).length t0 t0 (by rw [List.getElem?_append_left hl]; exact hi) (by rw [List.getElem?_append_right (Nat.le_refl _), Nat.sub_self]; rfl) ht ht hprim h1 h2 h3 h4 h5 hfit hframes hlocals hdg (fun H1 locs1 hP1 _ hS1 => kk H1 locs1 (wx_back Mx hP1 hS1))
theorem cpx_l {q a k n0 n1 t0 index : Nat} {cA : ClassId} {f f1 : Nat → Int64} {ty : FieldType} (C0 : Cx p s m args c cc nL own D cy) (Mx : Wx D b0 cy sb db g s H locs q (cA, n1, .inr (.inl f1))) (hk : lvk k) (ha : adr sb db k = a) (hct : cont cy sb db g k = .inl (cA, n0, .inr (.inl f))) (ht : (tyL cy)[t0]? = some (cA, ty)) (hprim : refKind ty = false) {sp dp n : Int32} (h1 : ¬ sp < 0) (h2 : ¬ dp < 0) (h3 : ¬ n < 0) (h4 : sp.toNatClampNeg + n.toNatClampNeg ≤ n0) (h5 : dp.toNatClampNeg + n.toNatClampNeg ≤ n1) (hfit : ∀ i, i < n.toNatClampNeg → fits ty (.long (f (sp.toNatClampNeg + i))) = true)
    (hlink : Cond.methodLink own index arraycopyName ∈ wsL_law) (hsz : ls.size = nL) (hframes : 1 ≤ R.frames) (hlocals : (rest.map fun v => v.category).sum + 18 ≤ R.locals) (hdg : decode cc pc = .ok (.invokestatic index, 3))
    (kk : ∀ (H1 : Heap) (locs1 : List Loc), Wx D b0 cy sb db g s H1 locs1 q (cA, n1, .inr (.inl (va_cpy f f1 sp.toNatClampNeg dp.toNatClampNeg n.toNatClampNeg))) → W p l e R s m args below meth c H1 locs1 cells slots Q (F0 m (pc + 3) ls rest)) : W p l e R s m args below meth c H locs cells slots Q (F0 m pc ls (.int n :: .int dp :: .ref q :: .int sp :: .ref a :: rest)) := by
  obtain ⟨hx, hb, hml, hown, hts, hK⟩ := C0
  obtain ⟨hP, hD⟩ := wx_list Mx
  obtain ⟨i, hi⟩ := lk_at (ad := adr sb db) (ct := cont cy sb db g) hk
  have hl := (List.getElem?_eq_some_iff.mp hi).1
  rw [ha, hct] at hi
  exact va_copyl hx hb (hml.trans hsz.symm) hown (hts _ hlink) (hts _ kw_9_11) (hts _ kw_9_12) (hts _ kw_9_13) hK hP hD Mx.1.2 i (lk_w (adr sb db) (cont cy sb db g)).length t0 t0 (by rw [List.getElem?_append_left hl]; exact hi) (by rw [List.getElem?_append_right (Nat.le_refl _), Nat.sub_self]; rfl) ht ht hprim h1 h2 h3 h4 h5 hfit hframes hlocals hdg (fun H1 locs1 hP1 _ hS1 => kk H1 locs1 (wx_back Mx hP1 hS1))
/-- Arrays.copyOf(int[], n), n above the row's length -/
theorem k_copyI {k n0 N : Nat} {a : Nat} {f : Nat → Int32} {z : Int32} (hk : lvk k) (ha : adr sb db k = a) (hct : cont cy sb db g k = .inl (cy.1, n0, .inl f)) (hz : z = nI N) (hN : n0 < N) (hN2 : N ≤ 200000) :
    Met l yJ7_copyOf_59c91 (Cond.code yJ7_copyOf_59c91 cJ7_copyOf_59c91 3 (some (.array .int)) :: wsL_law) { frames := 1, cells := 1, slots := N, locals := 40 } (va_Pc [.ref a, .int z] (WK D b0 cy sb db g)) (QC D b0 cy sb db g (cy.1, N, .inl (va_cpy f (fun _ => 0) 0 0 n0))) 1 N (fun q => b0 ≤ q) := by
  refine Met.ofW (cc := cJ7_copyOf_59c91) (maxL := 3) (ret := some (.array .int)) (by decide) rfl ?_
  intro p e s m args below meth c s₁ B hml hv
  obtain ⟨rfl, hW, hK⟩ := hv
  have C0 : Cx p s m [Value.ref a, .int z].toArray c cJ7_copyOf_59c91 3 RJ7 D cy := ⟨B.exec, B.bytes, hml, findClass_of_methodNamed B.named, fun w hw => atoms_spec (ws := Cond.code yJ7_copyOf_59c91 cJ7_copyOf_59c91 3 (some (.array .int)) :: wsL_law) B.pre w (List.mem_cons_of_mem _ hw), hK⟩
  have M : Ws D b0 cy sb db g s s.heap [] := ⟨hW, va_S.rf⟩
  have hl := lv_entry ([.ref a, .int z]) (n := 3) (Nat.le_of_ble_eq_true rfl)
  rw [lg_entry_eq]
  generalize (lg_sl ([.ref a, .int z]) ++ List.replicate (3 - (lg_sl ([.ref a, .int z])).length) Slot.unset).toArray = ls at hl ⊢
  have hl : lv_has ls 3 [(0, .ref a), (1, .int z)] := hl
  have hr := B.returns
  have hlk := B.notSynchronized
  obtain ⟨hx, hb, hml, hown, hts, hK⟩ := id C0
  have hzz : ¬ z < 0 := by rw [hz]; exact nI_pos (by omega)
  have hzc : z.toNatClampNeg = N := by rw [hz]; exact nI_clamp (by omega)
  refine lv_iload_n hx hb dJ7_copyOf_59c91_0 rfl (lv_at hl 1 rfl) ?_
  refine lv_aload_n hx hb dJ7_copyOf_59c91_1 rfl (lv_at hl 0 rfl) ?_
  refine mg_alen hx hb hK M.1 hk ha 0 hct rfl dJ7_copyOf_59c91_2 ?_
  refine lv_icmp_ne (tgt := 14) hx hb dJ7_copyOf_59c91_3 (by decide) (fun _ => ?_) (fun c1 => ?_)
  · refine lv_iload_n hx hb dJ7_copyOf_59c91_14 rfl (lv_at hl 1 rfl) ?_
    refine nx_newa C0 M (ty := .int) (N := N) (a0 := (N, .inl (fun _ => 0))) (cA := cy.1) (t0 := 0) rfl kw_2_3 rfl (fun h => h) (fun cA => rfl) hzz hzc (by show N * 4 ≤ _; omega) (Nat.le_refl _) (by show 0 + N ≤ N; omega) dJ7_copyOf_59c91_15 (fun q H Mx => ?_)
    refine W.widen (k := 1) (n := N) (by omega) (by omega) ?_
    refine lv_astore_n (lv' := [(2, .ref q), (0, .ref a), (1, .int z)]) hx hb dJ7_copyOf_59c91_17 rfl hl (by decide) rfl (fun ls hl => ?_)
    refine lv_aload_n hx hb dJ7_copyOf_59c91_18 rfl (lv_at hl 1 rfl) ?_
    refine lv_iconst (v := 0) hx hb dJ7_copyOf_59c91_19 (by decide) ?_
    refine lv_aload_n hx hb dJ7_copyOf_59c91_20 rfl (lv_at hl 0 rfl) ?_
    refine lv_iconst (v := 0) hx hb dJ7_copyOf_59c91_21 (by decide) ?_
    refine lv_aload_n hx hb dJ7_copyOf_59c91_22 rfl (lv_at hl 1 rfl) ?_
    refine mg_alen hx hb hK Mx.1.1 hk ha 0 hct rfl dJ7_copyOf_59c91_23 ?_
    refine lv_iload_n hx hb dJ7_copyOf_59c91_24 rfl (lv_at hl 2 rfl) ?_
    refine va_mmin hx hb (hml.trans hl.1.symm) hown (hts _ kw_9_7) (hts _ kw_9_8) (hts _ kw_7_17) (hts _ kw_9_9) (Nat.le_of_ble_eq_true rfl) (Nat.le_of_ble_eq_true rfl) (Nat.le_refl _) (Nat.le_refl _) dJ7_copyOf_59c91_25 ?_
    have hmin : (if z < nI n0 then z else nI n0) = nI n0 := if_neg (by rw [hz]; exact nI_nlt (Nat.le_of_lt hN) (by omega))
    show W p l e _ s m _ below meth c H [] 1 N _ (F0 m _ ls [.int (if z < nI n0 then z else nI n0), .int 0, .ref q, .int 0, .ref a])
    rw [hmin]
    refine cpx_i C0 Mx hk ha hct (t0 := 0) (ty := .int) rfl rfl (by decide) (by decide) (nI_pos (by omega)) (by rw [nI_clamp (by omega)]; show 0 + n0 ≤ n0; omega) (by rw [nI_clamp (by omega)]; show 0 + n0 ≤ N; omega) (fun _ _ => rfl) kw_9_10 hl.1 (Nat.le_of_ble_eq_true rfl) (Nat.le_of_ble_eq_true rfl) dJ7_copyOf_59c91_28 (fun H locs Mx => ?_)
    rw [nI_clamp (by omega)] at Mx
    refine lv_aload_n hx hb dJ7_copyOf_59c91_31 rfl (lv_at hl 0 rfl) ?_
    exact W.aret hx hb hr (Or.inr ⟨_, rfl⟩) (Or.inr ⟨_, rfl⟩) (fun t ht hW => ⟨q, rfl, ⟨by rw [ht]; exact Mx.1.1, va_K.moved hW.alike hK⟩, by rw [ht]; exact Mx.2.1, Mx.2.2.1, Mx.2.2.2, Mx.1.2.F ht⟩) Mx.1.2.2.2 dJ7_copyOf_59c91_32 hlk
  · exact absurd c1 (by rw [hz]; exact fun h => by rw [nI_eq (by omega) (by omega)] at h; omega)
/-- Arrays.copyOf(long[], n), n above the row's length -/
theorem k_copyL {k n0 N : Nat} {a : Nat} {f : Nat → Int64} {z : Int32} (hk : lvk k) (ha : adr sb db k = a) (hct : cont cy sb db g k = .inl (cy.2.1, n0, .inr (.inl f))) (hz : z = nI N) (hN : n0 < N) (hN2 : N ≤ 200000) :
    Met l yJ7_copyOf_c38d5 (Cond.code yJ7_copyOf_c38d5 cJ7_copyOf_c38d5 3 (some (.array .long)) :: wsL_law) { frames := 1, cells := 1, slots := N, locals := 40 } (va_Pc [.ref a, .int z] (WK D b0 cy sb db g)) (QC D b0 cy sb db g (cy.2.1, N, .inr (.inl (va_cpy f (fun _ => 0) 0 0 n0)))) 1 N (fun q => b0 ≤ q) := by
  refine Met.ofW (cc := cJ7_copyOf_c38d5) (maxL := 3) (ret := some (.array .long)) (by decide) rfl ?_
  intro p e s m args below meth c s₁ B hml hv
  obtain ⟨rfl, hW, hK⟩ := hv
  have C0 : Cx p s m [Value.ref a, .int z].toArray c cJ7_copyOf_c38d5 3 RJ7 D cy := ⟨B.exec, B.bytes, hml, findClass_of_methodNamed B.named, fun w hw => atoms_spec (ws := Cond.code yJ7_copyOf_c38d5 cJ7_copyOf_c38d5 3 (some (.array .long)) :: wsL_law) B.pre w (List.mem_cons_of_mem _ hw), hK⟩
  have M : Ws D b0 cy sb db g s s.heap [] := ⟨hW, va_S.rf⟩
  have hl := lv_entry ([.ref a, .int z]) (n := 3) (Nat.le_of_ble_eq_true rfl)
  rw [lg_entry_eq]
  generalize (lg_sl ([.ref a, .int z]) ++ List.replicate (3 - (lg_sl ([.ref a, .int z])).length) Slot.unset).toArray = ls at hl ⊢
  have hl : lv_has ls 3 [(0, .ref a), (1, .int z)] := hl
  have hr := B.returns
  have hlk := B.notSynchronized
  obtain ⟨hx, hb, hml, hown, hts, hK⟩ := id C0
  have hzz : ¬ z < 0 := by rw [hz]; exact nI_pos (by omega)
  have hzc : z.toNatClampNeg = N := by rw [hz]; exact nI_clamp (by omega)
  refine lv_iload_n hx hb dJ7_copyOf_c38d5_0 rfl (lv_at hl 1 rfl) ?_
  refine lv_aload_n hx hb dJ7_copyOf_c38d5_1 rfl (lv_at hl 0 rfl) ?_
  refine mg_alen hx hb hK M.1 hk ha 1 hct rfl dJ7_copyOf_c38d5_2 ?_
  refine lv_icmp_ne (tgt := 14) hx hb dJ7_copyOf_c38d5_3 (by decide) (fun _ => ?_) (fun c1 => ?_)
  · refine lv_iload_n hx hb dJ7_copyOf_c38d5_14 rfl (lv_at hl 1 rfl) ?_
    refine nx_newa C0 M (ty := .long) (N := N) (a0 := (N, .inr (.inl (fun _ => 0)))) (cA := cy.2.1) (t0 := 1) rfl kw_2_21 rfl (fun h => h) (fun cA => rfl) hzz hzc (by show N * 8 ≤ _; omega) (Nat.le_refl _) (by show 0 + N ≤ N; omega) dJ7_copyOf_c38d5_15 (fun q H Mx => ?_)
    refine W.widen (k := 1) (n := N) (by omega) (by omega) ?_
    refine lv_astore_n (lv' := [(2, .ref q), (0, .ref a), (1, .int z)]) hx hb dJ7_copyOf_c38d5_17 rfl hl (by decide) rfl (fun ls hl => ?_)
    refine lv_aload_n hx hb dJ7_copyOf_c38d5_18 rfl (lv_at hl 1 rfl) ?_
    refine lv_iconst (v := 0) hx hb dJ7_copyOf_c38d5_19 (by decide) ?_
    refine lv_aload_n hx hb dJ7_copyOf_c38d5_20 rfl (lv_at hl 0 rfl) ?_
    refine lv_iconst (v := 0) hx hb dJ7_copyOf_c38d5_21 (by decide) ?_
    refine lv_aload_n hx hb dJ7_copyOf_c38d5_22 rfl (lv_at hl 1 rfl) ?_
    refine mg_alen hx hb hK Mx.1.1 hk ha 1 hct rfl dJ7_copyOf_c38d5_23 ?_
    refine lv_iload_n hx hb dJ7_copyOf_c38d5_24 rfl (lv_at hl 2 rfl) ?_
    refine va_mmin hx hb (hml.trans hl.1.symm) hown (hts _ kw_9_7) (hts _ kw_9_8) (hts _ kw_7_17) (hts _ kw_9_9) (Nat.le_of_ble_eq_true rfl) (Nat.le_of_ble_eq_true rfl) (Nat.le_refl _) (Nat.le_refl _) dJ7_copyOf_c38d5_25 ?_
    have hmin : (if z < nI n0 then z else nI n0) = nI n0 := if_neg (by rw [hz]; exact nI_nlt (Nat.le_of_lt hN) (by omega))
    show W p l e _ s m _ below meth c H [] 1 N _ (F0 m _ ls [.int (if z < nI n0 then z else nI n0), .int 0, .ref q, .int 0, .ref a])
    rw [hmin]
    refine cpx_l C0 Mx hk ha hct (t0 := 1) (ty := .long) rfl rfl (by decide) (by decide) (nI_pos (by omega)) (by rw [nI_clamp (by omega)]; show 0 + n0 ≤ n0; omega) (by rw [nI_clamp (by omega)]; show 0 + n0 ≤ N; omega) (fun _ _ => rfl) kw_9_10 hl.1 (Nat.le_of_ble_eq_true rfl) (Nat.le_of_ble_eq_true rfl) dJ7_copyOf_c38d5_28 (fun H locs Mx => ?_)
    rw [nI_clamp (by omega)] at Mx
    refine lv_aload_n hx hb dJ7_copyOf_c38d5_31 rfl (lv_at hl 0 rfl) ?_
    exact W.aret hx hb hr (Or.inr ⟨_, rfl⟩) (Or.inr ⟨_, rfl⟩) (fun t ht hW => ⟨q, rfl, ⟨by rw [ht]; exact Mx.1.1, va_K.moved hW.alike hK⟩, by rw [ht]; exact Mx.2.1, Mx.2.2.1, Mx.2.2.2, Mx.1.2.F ht⟩) Mx.1.2.2.2 dJ7_copyOf_c38d5_32 hlk
  · exact absurd c1 (by rw [hz]; exact fun h => by rw [nI_eq (by omega) (by omega)] at h; omega)
theorem Y_copyI : Ys yJ7_copyOf_59c91 cJ7_copyOf_59c91 3 (some (.array .int)) 2 := ⟨⟨kw_9_0, kw_8_23, by decide +kernel, by decide +kernel, by decide +kernel⟩, kw_8_22⟩
theorem Y_copyL : Ys yJ7_copyOf_c38d5 cJ7_copyOf_c38d5 3 (some (.array .long)) 2 := ⟨⟨kw_9_20, kw_8_23, by decide +kernel, by decide +kernel, by decide +kernel⟩, kw_9_19⟩
theorem kSC {index : Nat} {y : MethodName} {cc2 : ByteArray} {maxL n : Nat} {ret : Option FieldType} {rm : Room} {As st0 : List Value} {x : ClassId × vp_A} (C0 : Cx p s m args c cc nL own D cy) (M : Ws D b0 cy sb db g s H locs) (hM : Met l y (Cond.code y cc2 maxL ret :: wsL_law) rm (va_Pc As (WK D b0 cy sb db g)) (QC D b0 cy sb db g x) rm.cells rm.slots (fun q => b0 ≤ q)) (hl : Cond.methodLink own index y ∈ wsL_law) (Y : Ys y cc2 maxL ret n)
    (hR : rm.frames + 1 ≤ R.frames ∧ 8 + (maxL + 11) + rm.locals ≤ R.locals) (hn : As.length = n) (hsz : ls.size = nL) (hst : st0 = As.reverse ++ rest) (hW : (rest.map fun v => v.category).sum ≤ 8) (hdg : decode cc pc = .ok (.invokestatic index, 3)) (hf : cells + rm.cells ≤ R.cells ∧ slots + rm.slots ≤ R.slots)
    (kk : ∀ (q : Nat) (H1 : Heap) (locs1 : List Loc), Wx D b0 cy sb db g s H1 locs1 q x → W p l e R s m args below meth c H1 locs1 (cells + rm.cells) (slots + rm.slots) Q (F0 m (pc + 3) ls (.ref q :: rest))) : W p l e R s m args below meth c H locs cells slots Q (F0 m pc ls st0) :=
  kr_C (va_runS (bytes := cc2) (maxL := maxL) (ret := ret) (n := n) (As := As) (rest := rest) ⟨C0.1, C0.2.1, C0.2.2.1, C0.2.2.2.1, C0.2.2.2.2.1⟩ hM ⟨kB C0.2.2.2.2.1 Y.1 hl hR, C0.2.2.2.2.1 _ Y.2⟩ ⟨wk_blind, fun U hU hW => ⟨rfl, by rw [hU]; exact M.1, va_K.moved hW.alike C0.2.2.2.2.2⟩⟩ rfl hn hsz hst (lv_room hW) hdg hf) M kk
def nrZ (f : Nat → Int32) : Nat → Int32 := fun i => vp_nar .boolean (f i)
theorem zc_upd {f h : Nat → Int32} {j : Nat} : upd (va_cpy f h 0 0 j) j (f j) = va_cpy f h 0 0 (j + 1) := by
  funext i
  by_cases hi : i = j
  · subst hi
    rw [pk_cpy_in (by omega) (by omega)]
    simp [upd]
  · have e : upd (va_cpy f h 0 0 j) j (f j) i = va_cpy f h 0 0 j i := by simp [upd, hi]
    rw [e]
    unfold va_cpy
    by_cases h5 : i < j
    · rw [if_pos ⟨by omega, by omega⟩, if_pos ⟨by omega, by omega⟩]
    · rw [if_neg (by omega), if_neg (by omega)]
theorem zc_nil {f h : Nat → Int32} : va_cpy f h 0 0 0 = h := by
  funext i
  unfold va_cpy
  rw [if_neg (by omega)]
/-- a mark set in a new row beside the world -/
theorem wx_zast {q n t0 : Nat} {cA : ClassId} {f : Nat → Int32} {i x : Int32} (C0 : Cx p s m args c cc nL own D cy) (Mx : Wx D b0 cy sb db g s H locs q (cA, n, .inl f)) (ht : (tyL cy)[t0]? = some (cA, .boolean)) (hin : vp_in i n) (hdg : decode cc pc = .ok (.bastore, 1))
    (kk : ∀ (H1 : Heap) (locs1 : List Loc), Wx D b0 cy sb db g s H1 locs1 q (cA, n, .inl (upd f i.toNatClampNeg (vp_nar .boolean x))) → W p l e R s m args below meth c H1 locs1 cells slots Q (F0 m (pc + 1) ls rest)) : W p l e R s m args below meth c H locs cells slots Q (F0 m pc ls (.int x :: .int i :: .ref q :: rest)) := by
  obtain ⟨hx, hb, hml, hown, hts, hK⟩ := C0
  obtain ⟨M, hq, hfq, hb0⟩ := Mx
  refine W.zast hx hb hq ((hK.2 t0 _ ht).1 n (fun j => .int (f j))) (fun q => by cases q) (by show ¬ (i < 0 ∨ (arrV _ _ _).slots.size ≤ _); rw [arrV_size]; exact hin) rfl rfl hdg fun H1 e z oq => ?_
  refine kk H1 _ ⟨⟨⟨fun k hk => (M.1.1 k hk).kept (oq _ (hfq k hk)), M.1.2⟩, M.2.put z oq hb0⟩, ?_, hfq, hb0⟩
  show H1[q]? = some (vp_cell _ _)
  rw [e]
  show some ((vp_cell cA (n, .inl f)).setSlot _ _) = _
  rw [vp_cell_i, vp_cell_i, arrV_store]
  congr 2
  funext q
  by_cases hq : q = i.toNatClampNeg
  · subst hq
    simp [updV, upd, vp_nar, narrow]
  · simp [updV, upd, hq]
/-- the loop of Store.grown: the first j marks are copied -/
theorem w_grown_L {k n0 N a q : Nat} {f : Nat → Int32} {z : Int32} (C0 : Cx p s m args c cX3_grown 4 RX3 D cy) (hk : lvk k) (ha : adr sb db k = a) (hct : cont cy sb db g k = .inl (cy.2.2.1, n0, .inl f)) (hz : z = nI N) (hN : n0 ≤ N) (hN2 : N ≤ 200000)
    (kk : ∀ (H : Heap) (locs : List Loc) (ls : Array Slot), lv_has ls 4 [(2, .ref q)] → Wx D b0 cy sb db g s H locs q (cy.2.2.1, N, .inl (va_cpy (nrZ f) (fun _ => 0) 0 0 n0)) → W p l e R s m args below meth c H locs cells slots Q (F0 m 29 ls [])) :
    ∀ (d j : Nat) (H : Heap) (locs : List Loc) (ls : Array Slot), j + d = n0 → lv_has ls 4 [(3, .int (nI j)), (2, .ref q), (0, .ref a), (1, .int z)] → Wx D b0 cy sb db g s H locs q (cy.2.2.1, N, .inl (va_cpy (nrZ f) (fun _ => 0) 0 0 j)) → W p l e R s m args below meth c H locs cells slots Q (F0 m 6 ls []) := by
  obtain ⟨hx, hb, hml, hown, hts, hK⟩ := id C0
  intro d
  induction d with
  | zero =>
    intro j H locs ls hj hl Mx
    have hj2 : j = n0 := by omega
    rw [hj2] at hl Mx
    refine lv_iload_n hx hb dX3_grown_6 rfl (lv_at hl 0 rfl) ?_
    refine lv_aload_n hx hb dX3_grown_7 rfl (lv_at hl 2 rfl) ?_
    refine mg_alen hx hb hK Mx.1.1 hk ha 2 hct rfl dX3_grown_8 ?_
    refine lv_icmp_ge (tgt := 29) hx hb dX3_grown_9 (by decide) (fun _ => ?_) (fun c1 => ?_)
    · exact kk _ _ _ (lv_sub hl [1] rfl) Mx
    · exact absurd (nI_le (Nat.le_refl n0) (by omega)) c1
  | succ d ih =>
    intro j H locs ls hj hl Mx
    have hlt : j < n0 := by omega
    refine lv_iload_n hx hb dX3_grown_6 rfl (lv_at hl 0 rfl) ?_
    refine lv_aload_n hx hb dX3_grown_7 rfl (lv_at hl 2 rfl) ?_
    refine mg_alen hx hb hK Mx.1.1 hk ha 2 hct rfl dX3_grown_8 ?_
    refine lv_icmp_ge (tgt := 29) hx hb dX3_grown_9 (by decide) (fun c1 => ?_) (fun _ => ?_)
    · exact absurd c1 (nI_ge hlt (by omega))
    · refine lv_iload_n hx hb dX3_grown_12 rfl (lv_at hl 0 rfl) ?_
      refine lv_iload_n hx hb dX3_grown_13 rfl (lv_at hl 3 rfl) ?_
      refine lv_icmp_ge (tgt := 29) hx hb dX3_grown_14 (by decide) (fun c1 => ?_) (fun _ => ?_)
      · exact absurd c1 (by rw [hz]; exact nI_ge (by omega) (by omega))
      · refine lv_aload_n hx hb dX3_grown_17 rfl (lv_at hl 1 rfl) ?_
        refine lv_iload_n hx hb dX3_grown_18 rfl (lv_at hl 0 rfl) ?_
        refine lv_aload_n hx hb dX3_grown_19 rfl (lv_at hl 2 rfl) ?_
        refine lv_iload_n hx hb dX3_grown_20 rfl (lv_at hl 0 rfl) ?_
        refine mg_zald hx hb hK Mx.1.1 hk ha 2 hct rfl (vp_in_nI hlt (by omega)) dX3_grown_21 ?_
        refine wx_zast C0 Mx (t0 := 2) rfl (vp_in_nI (show j < N by omega) (by omega)) dX3_grown_22 (fun H locs Mx => ?_)
        rw [nI_clamp (show j < 2 ^ 31 by omega), show upd (va_cpy (nrZ f) (fun _ => 0) 0 0 j) j (vp_nar .boolean (f j)) = va_cpy (nrZ f) (fun _ => 0) 0 0 (j + 1) from zc_upd (f := nrZ f)] at Mx
        refine lv_iinc (v := nI (j + 1)) (lv' := [(3, .int (nI (j + 1))), (2, .ref q), (0, .ref a), (1, .int z)]) hx hb dX3_grown_23 hl (k := 0) rfl (by rw [nI_succ]; rfl) (by decide) rfl (fun ls hl => ?_)
        refine lv_goto (tgt := 6) hx hb dX3_grown_26 (by decide) ?_
        exact ih (j + 1) _ _ _ (by omega) hl Mx
/-- Store.grown: a row of marks, the old ones and no others -/
theorem k_grown {k n0 N : Nat} {a : Nat} {f : Nat → Int32} {z : Int32} (hk : lvk k) (ha : adr sb db k = a) (hct : cont cy sb db g k = .inl (cy.2.2.1, n0, .inl f)) (hz : z = nI N) (hN : n0 ≤ N) (hN2 : N ≤ 200000) :
    Met l yX3_grown (Cond.code yX3_grown cX3_grown 4 (some (.array .boolean)) :: wsL_law) { frames := 0, cells := 1, slots := N, locals := 0 } (va_Pc [.ref a, .int z] (WK D b0 cy sb db g)) (QC D b0 cy sb db g (cy.2.2.1, N, .inl (va_cpy (nrZ f) (fun _ => 0) 0 0 n0))) 1 N (fun q => b0 ≤ q) := by
  refine Met.ofW (cc := cX3_grown) (maxL := 4) (ret := some (.array .boolean)) (by decide) rfl ?_
  intro p e s m args below meth c s₁ B hml hv
  obtain ⟨rfl, hW, hK⟩ := hv
  have C0 : Cx p s m [Value.ref a, .int z].toArray c cX3_grown 4 RX3 D cy := ⟨B.exec, B.bytes, hml, findClass_of_methodNamed B.named, fun w hw => atoms_spec (ws := Cond.code yX3_grown cX3_grown 4 (some (.array .boolean)) :: wsL_law) B.pre w (List.mem_cons_of_mem _ hw), hK⟩
  have M : Ws D b0 cy sb db g s s.heap [] := ⟨hW, va_S.rf⟩
  have hl := lv_entry ([.ref a, .int z]) (n := 4) (Nat.le_of_ble_eq_true rfl)
  rw [lg_entry_eq]
  generalize (lg_sl ([.ref a, .int z]) ++ List.replicate (4 - (lg_sl ([.ref a, .int z])).length) Slot.unset).toArray = ls at hl ⊢
  have hl : lv_has ls 4 [(0, .ref a), (1, .int z)] := hl
  have hr := B.returns
  have hlk := B.notSynchronized
  obtain ⟨hx, hb, hml, hown, hts, hK⟩ := id C0
  have hzz : ¬ z < 0 := by rw [hz]; exact nI_pos (by omega)
  have hzc : z.toNatClampNeg = N := by rw [hz]; exact nI_clamp (by omega)
  refine lv_iload_n hx hb dX3_grown_0 rfl (lv_at hl 1 rfl) ?_
  refine nx_newa C0 M (ty := .boolean) (N := N) (a0 := (N, .inl (fun _ => 0))) (cA := cy.2.2.1) (t0 := 2) rfl kw_3_3 rfl (fun h => h) (fun cA => rfl) hzz hzc (by show N * 1 ≤ _; omega) (Nat.le_refl _) (by show 0 + N ≤ N; omega) dX3_grown_1 (fun q H Mx => ?_)
  refine W.widen (k := 1) (n := N) (by omega) (by omega) ?_
  refine lv_astore_n (lv' := [(2, .ref q), (0, .ref a), (1, .int z)]) hx hb dX3_grown_3 rfl hl (by decide) rfl (fun ls hl => ?_)
  refine lv_iconst (v := 0) hx hb dX3_grown_4 (by decide) ?_
  refine nm_i nI_0 ?_
  refine lv_istore_n (lv' := [(3, .int (nI 0)), (2, .ref q), (0, .ref a), (1, .int z)]) hx hb dX3_grown_5 rfl hl (by decide) rfl (fun ls hl => ?_)
  refine w_grown_L C0 hk ha hct hz hN hN2 (q := q) (fun H locs ls hl Mx => ?_) n0 0 _ _ _ (by omega) hl (by rw [zc_nil]; exact Mx)
  refine lv_aload_n hx hb dX3_grown_29 rfl (lv_at hl 0 rfl) ?_
  exact W.aret hx hb hr (Or.inr ⟨_, rfl⟩) (Or.inr ⟨_, rfl⟩) (fun t ht hW => ⟨q, rfl, ⟨by rw [ht]; exact Mx.1.1, va_K.moved hW.alike hK⟩, by rw [ht]; exact Mx.2.1, Mx.2.2.1, Mx.2.2.2, Mx.1.2.F ht⟩) Mx.1.2.2.2 dX3_grown_30 hlk
theorem Y_grown : Ys yX3_grown cX3_grown 4 (some (.array .boolean)) 2 := ⟨⟨kw_10_3, kw_1_23, by decide +kernel, by decide +kernel, by decide +kernel⟩, kw_10_2⟩
end GROW
