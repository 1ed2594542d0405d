section GROW2
variable {p : Program} {l : Launch} {e : Env} {R : Room} {s : State} {m : MethodId} {args : Array Value} {below : List Frame} {meth : Method} {c : Code} {H : Heap} {locs : List Loc} {cells slots : Nat} {Q : State → Prop}
variable {cc : ByteArray} {pc nL : Nat} {ls : Array Slot} {rest : List Value} {D : va_G} {b0 : Nat} {cy : Cy} {sb db : Nat → Nat} {g g2 : Gs} {own : String}
def sLA (g : Gs) (c : Nat) (f : Nat → Int64) : Gs := (g.1, fun c1 => if c1 = c then f else g.2.1 c1, g.2.2)
def swI (g : Gs) (c kd N : Nat) : Gs := sN (sA g c 0 (va_cpy (g.1 c 0) (fun _ => 0) 0 0 (g.2.2 kd))) kd N
def swL (g : Gs) (N : Nat) : Gs := sN (sLA g 0 (va_cpy (g.2.1 0) (fun _ => 0) 0 0 (g.2.2 9))) 9 N
def swZ (g : Gs) (N : Nat) : Gs := sN (sA g 13 0 (va_cpy (nrZ (g.1 13 0)) (fun _ => 0) 0 0 (g.2.2 10))) 10 N
def swR (g : Gs) (n N : Nat) : Gs := sN (sA g 18 n (fun _ => 0)) (500 + n) N
theorem fr_A {c o kd N k : Nat} {f : Nat → Int32} (hk : lvk k) (hkd : kof c o = kd) (h : k ≠ kd) : cont cy sb db (sN (sA g c o f) kd N) k = cont cy sb db g k := by
  refine cont_fr hk (fun c1 o1 h1 => ?_) (fun _ _ => rfl) ?_
  · show (if c1 = c ∧ o1 = o then f else g.1 c1 o1) = _
    rw [if_neg (fun q => h (by rw [← h1, q.1, q.2, hkd]))]
  · show (if k = kd then N else g.2.2 k) = _
    rw [if_neg h]
theorem fr_L {N k : Nat} {f : Nat → Int64} (hk : lvk k) (h : k ≠ 9) : cont cy sb db (sN (sLA g 0 f) 9 N) k = cont cy sb db g k := by
  refine cont_fr hk (fun _ _ _ => rfl) (fun c1 h1 => ?_) ?_
  · show (if c1 = 0 then f else g.2.1 c1) = _
    rw [if_neg (fun q => h (by rw [← h1, q]; rfl))]
  · show (if k = 9 then N else g.2.2 k) = _
    rw [if_neg h]
theorem px_gen {own ref C : String} {T : u_T} {kd q j index N ci ao : Nat} {fs : List Value} {x : ClassId × vp_A} (C0 : Cx p s m args c cc nL own D cy) (Mx : Wx D b0 cy sb db g s H locs q x) (hd : (9 ≤ kd ∧ kd ≤ 12) ∨ 500 ≤ kd) (hkd : lvk kd) (hol : lvk (okey kd)) (hao : adr sb db (okey kd) = ao) (ho : cont cy sb db g (okey kd) = .inr (ci, fs)) (hc : vwCl[ci]? = some (C, T, N)) (hin : ∀ w ∈ u_ws C T N, w ∈ wsL_law) (ty0 : Nat → FieldType) (hty : ∀ k, k < N → parseFieldDescriptor (T k).2.2.1 = some (ty0 k)) (hnm : ∀ a, a < N → ∀ b, b < N → a ≠ b → (T a).2.1 ≠ (T b).2.1)
    (hj : j < N) (hlink : Cond.fieldLink own index ref (T j).2.1 (T j).2.2.1 ∈ wsL_law) (hsame : (T j).1 = ref) (hfin : (T j).2.2.2 = false) {ty : FieldType} (hd2 : parseFieldDescriptor (T j).2.2.1 = some ty) (hn : narrow ty (.ref q) = .ref q) (hfit : fits ty (.ref q) = true) (hl : j < fs.length) (hdg : decode cc pc = .ok (.putfield index, 3))
    (h1 : cont cy sb (va_up db kd q) g2 kd = .inl x) (h2 : cont cy sb (va_up db kd q) g2 (okey kd) = .inr (ci, fs.set j (.ref q))) (h3 : ∀ k, lvk k → k ≠ kd → k ≠ okey kd → cont cy sb (va_up db kd q) g2 k = cont cy sb (va_up db kd q) g k)
    (kk : ∀ (db1 : Nat → Nat) (H1 : Heap) (locs1 : List Loc), Ws D b0 cy sb db1 g2 s H1 locs1 → W p l e R s m args below meth c H1 locs1 cells slots Q (F0 m (pc + 3) ls rest)) : W p l e R s m args below meth c H locs cells slots Q (F0 m pc ls (.ref q :: .ref ao :: rest)) := by
  obtain ⟨hx, hb, hml, hown, hts, hK⟩ := C0
  exact mg_put2 hx hb hts hown hK Mx.1.1 Mx.1.2 hol hao ho hc hin ty0 hty hnm j hj hlink hsame hfin hd2 hn hfit hl hdg (fun H1 locs1 oq M1 S1 => kk (va_up db kd q) H1 locs1 ⟨mp_swap hd hkd Mx.1.1 Mx.2.1 Mx.2.2.1 Mx.2.2.2 M1 (by rw [hao]; exact oq) hol h1 h2 h3, S1⟩)
theorem px_sta {q N : Nat} (C0 : Cx p s m args c cc nL RX3 D cy) (Mx : Wx D b0 cy sb db g s H locs q (cy.1, N, .inl (va_cpy (g.1 14 0) (fun _ => 0) 0 0 (g.2.2 11)))) (hdg : decode cc pc = .ok (.putfield 19, 3)) (kk : ∀ (db1 : Nat → Nat) (H1 : Heap) (locs1 : List Loc), Ws D b0 cy sb db1 (swI g 14 11 N) s H1 locs1 → W p l e R s m args below meth c H1 locs1 cells slots Q (F0 m (pc + 3) ls rest)) : W p l e R s m args below meth c H locs cells slots Q (F0 m pc ls (.ref q :: .ref (sb 8) :: rest)) :=
  px_gen (g2 := swI g 14 11 N) (kd := 11) (j := 2) (ci := 3) C0 Mx (Or.inl (by decide)) (Or.inl (by decide)) (Or.inl (by decide)) rfl rfl rfl inlX3 tyX3 tyX3_ok nmX3 (by decide) kw_3_5 rfl rfl (ty := .array .int) (by decide +kernel) rfl rfl (Nat.le_of_ble_eq_true rfl) hdg (by show cnA cy sb (va_up db 11 q) (swI g 14 11 N) 11 = _; simp [cnA, swI, sN, sA]) (by show cnA cy sb (va_up db 11 q) (swI g 14 11 N) 8 = _; simp [cnA, swI, sN, sA, va_up]) (fun k hk h _ => fr_A (c := 14) (o := 0) (kd := 11) hk rfl h) kk
theorem px_len {q N : Nat} (C0 : Cx p s m args c cc nL RX3 D cy) (Mx : Wx D b0 cy sb db g s H locs q (cy.1, N, .inl (va_cpy (g.1 15 0) (fun _ => 0) 0 0 (g.2.2 12)))) (hdg : decode cc pc = .ok (.putfield 23, 3)) (kk : ∀ (db1 : Nat → Nat) (H1 : Heap) (locs1 : List Loc), Ws D b0 cy sb db1 (swI g 15 12 N) s H1 locs1 → W p l e R s m args below meth c H1 locs1 cells slots Q (F0 m (pc + 3) ls rest)) : W p l e R s m args below meth c H locs cells slots Q (F0 m pc ls (.ref q :: .ref (sb 8) :: rest)) :=
  px_gen (g2 := swI g 15 12 N) (kd := 12) (j := 3) (ci := 3) C0 Mx (Or.inl (by decide)) (Or.inl (by decide)) (Or.inl (by decide)) rfl rfl rfl inlX3 tyX3 tyX3_ok nmX3 (by decide) kw_3_6 rfl rfl (ty := .array .int) (by decide +kernel) rfl rfl (Nat.le_of_ble_eq_true rfl) hdg (by show cnA cy sb (va_up db 12 q) (swI g 15 12 N) 12 = _; simp [cnA, swI, sN, sA]) (by show cnA cy sb (va_up db 12 q) (swI g 15 12 N) 8 = _; simp [cnA, swI, sN, sA, va_up]) (fun k hk h _ => fr_A (c := 15) (o := 0) (kd := 12) hk rfl h) kk
theorem px_num {q N : Nat} (C0 : Cx p s m args c cc nL RX3 D cy) (Mx : Wx D b0 cy sb db g s H locs q (cy.2.1, N, .inr (.inl (va_cpy (g.2.1 0) (fun _ => 0) 0 0 (g.2.2 9))))) (hdg : decode cc pc = .ok (.putfield 9, 3)) (kk : ∀ (db1 : Nat → Nat) (H1 : Heap) (locs1 : List Loc), Ws D b0 cy sb db1 (swL g N) s H1 locs1 → W p l e R s m args below meth c H1 locs1 cells slots Q (F0 m (pc + 3) ls rest)) : W p l e R s m args below meth c H locs cells slots Q (F0 m pc ls (.ref q :: .ref (sb 8) :: rest)) :=
  px_gen (g2 := swL g N) (kd := 9) (j := 0) (ci := 3) C0 Mx (Or.inl (by decide)) (Or.inl (by decide)) (Or.inl (by decide)) rfl rfl rfl inlX3 tyX3 tyX3_ok nmX3 (by decide) kw_3_2 rfl rfl (ty := .array .long) (by decide +kernel) rfl rfl (Nat.le_of_ble_eq_true rfl) hdg (by show cnA cy sb (va_up db 9 q) (swL g N) 9 = _; simp [cnA, swL, sN, sLA]) (by show cnA cy sb (va_up db 9 q) (swL g N) 8 = _; simp [cnA, swL, sN, sLA, va_up]) (fun k hk h _ => fr_L hk h) kk
theorem px_fil {q N : Nat} (C0 : Cx p s m args c cc nL RX3 D cy) (Mx : Wx D b0 cy sb db g s H locs q (cy.2.2.1, N, .inl (va_cpy (nrZ (g.1 13 0)) (fun _ => 0) 0 0 (g.2.2 10)))) (hdg : decode cc pc = .ok (.putfield 15, 3)) (kk : ∀ (db1 : Nat → Nat) (H1 : Heap) (locs1 : List Loc), Ws D b0 cy sb db1 (swZ g N) s H1 locs1 → W p l e R s m args below meth c H1 locs1 cells slots Q (F0 m (pc + 3) ls rest)) : W p l e R s m args below meth c H locs cells slots Q (F0 m pc ls (.ref q :: .ref (sb 8) :: rest)) :=
  px_gen (g2 := swZ g N) (kd := 10) (j := 1) (ci := 3) C0 Mx (Or.inl (by decide)) (Or.inl (by decide)) (Or.inl (by decide)) rfl rfl rfl inlX3 tyX3 tyX3_ok nmX3 (by decide) kw_3_4 rfl rfl (ty := .array .boolean) (by decide +kernel) rfl rfl (Nat.le_of_ble_eq_true rfl) hdg (by show cnA cy sb (va_up db 10 q) (swZ g N) 10 = _; simp [cnA, swZ, sN, sA]) (by show cnA cy sb (va_up db 10 q) (swZ g N) 8 = _; simp [cnA, swZ, sN, sA, va_up]) (fun k hk h _ => fr_A (c := 13) (o := 0) (kd := 10) hk rfl h) kk
theorem okey_n (n : Nat) : okey (500 + n) = 400 + n := by unfold okey; rw [if_neg (by omega)]; omega
/-- a table's rows made anew: newarray, putfield -/
theorem nw_rows {n N : Nat} {x : Int32} (C0 : Cx p s m args c cc nL RX4 D cy) (M : Ws D b0 cy sb db g s H locs) (hB : n < 24) (hx0 : ¬ x < 0) (hN : x.toNatClampNeg = N) (hN2 : N ≤ 200000) (hcells : cells + 1 ≤ R.cells) (hslots : slots + N ≤ R.slots) {c1 s1 : Nat} (hc1 : cells + 1 = c1) (hs1 : slots + N = s1) (hdg : decode cc pc = .ok (.newarray .int, 2)) (hdg2 : decode cc (pc + 2) = .ok (.putfield 133, 3)) (hg : g2 = swR g n N)
    (kk : ∀ (db1 : Nat → Nat) (H1 : Heap) (locs1 : List Loc), Ws D b0 cy sb db1 g2 s H1 locs1 → W p l e R s m args below meth c H1 locs1 c1 s1 Q (F0 m (pc + 5) ls rest)) : W p l e R s m args below meth c H locs cells slots Q (F0 m pc ls (.int x :: .ref (sb (400 + n)) :: rest)) := by
  subst hg; subst hc1; subst hs1
  refine nx_newa C0 M (ty := .int) (N := N) (a0 := (N, .inl (fun _ => 0))) (cA := cy.1) (t0 := 0) rfl kw_2_3 rfl (fun h => h) (fun cA => rfl) hx0 hN (by show N * 4 ≤ _; omega) hcells hslots hdg (fun q H1 Mx => ?_)
  exact px_gen (g2 := swR g n N) (kd := 500 + n) (j := 3) (ci := 1) C0 Mx (Or.inr (by omega)) (lv_rows hB) (by rw [okey_n]; exact lv_ma hB) (by rw [okey_n]; exact ad_ma sb db hB) (by rw [okey_n]; exact ct_ma cy sb db g hB) rfl inlX1 tyX1 tyX1_ok nmX1 (by decide) kw_11_0 rfl rfl (ty := .array .int) (by decide +kernel) rfl rfl (Nat.le_of_ble_eq_true rfl) hdg2 (by rw [ct_rows cy sb _ _ hB]; simp [swR, sN, sA]) (by rw [okey_n, ct_ma cy sb _ _ hB]; simp [swR, sN, sA, va_up]) (fun k hk h _ => fr_A (c := 18) (o := n) (kd := 500 + n) hk rfl h) kk
end GROW2
section GROW3
variable {p : Program} {l : Launch} {e : Env} {s : State} {m : MethodId} {args : Array Value} {below : List Frame} {meth : Method} {c : Code} {H : Heap} {locs : List Loc}
variable {ls : Array Slot} {D : va_G} {b0 : Nat} {cy : Cy} {sb db : Nat → Nat} {g : Gs}
def m_X3_growRows (x1 : Int32) (g : Gs) : Option (Gs × Nat × Nat) :=
  if x1 ≤ nI (g.2.2 11) then some (g, 0, 0) else
  lett (if x1 < 2 * nI (g.2.2 11) then 2 * nI (g.2.2 11) else x1) fun z =>
  chk (z = nI z.toNatClampNeg ∧ g.2.2 12 = g.2.2 11 ∧ g.2.2 11 < z.toNatClampNeg ∧ z.toNatClampNeg ≤ 200000) (some (swI (swI g 14 11 z.toNatClampNeg) 15 12 z.toNatClampNeg, 2, z.toNatClampNeg + z.toNatClampNeg))
set_option maxHeartbeats 4000000 in
set_option maxRecDepth 100000 in
theorem k_X3_growRows {x1 : Int32} {res : Gs × Nat × Nat} (h : m_X3_growRows x1 g = some res) : CA l yX3_growRows cX3_growRows 3 none ({ frames := 2, cells := res.2.1, slots := res.2.2, locals := 62 } : Room) [.ref (sb 8), .int x1] none D b0 cy sb db g res.1 := by
  refine Met.ofW (cc := cX3_growRows) (maxL := 3) (ret := none) (by decide) rfl ?_
  intro p e s m args below meth c s₁ B hml hv
  obtain ⟨rfl, hW, hK⟩ := hv
  have C0 : Cx p s m [Value.ref (sb 8), .int x1].toArray c cX3_growRows 3 RX3 D cy := ⟨B.exec, B.bytes, hml, findClass_of_methodNamed B.named, fun w hw => atoms_spec (ws := Cond.code yX3_growRows cX3_growRows 3 none :: wsL_law) B.pre w (List.mem_cons_of_mem _ hw), hK⟩
  have M : Ws D b0 cy sb db g s s.heap [] := ⟨hW, va_S.rf⟩
  have hl := lv_entry [.ref (sb 8), .int x1] (n := 3) (Nat.le_of_ble_eq_true rfl)
  rw [lg_entry_eq]
  generalize (lg_sl [.ref (sb 8), .int x1] ++ List.replicate (3 - (lg_sl [.ref (sb 8), .int x1]).length) Slot.unset).toArray = ls at hl ⊢
  have hl : lv_has ls 3 [(0, .ref (sb 8)), (1, .int x1)] := hl
  have hr := B.returns
  have hlk := B.notSynchronized
  obtain ⟨hx, hb, hml, hown, hts, hK⟩ := id C0
  rw [m_X3_growRows] at h
  refine lv_iload_n hx hb dX3_growRows_0 rfl (lv_at hl 1 rfl) ?_
  refine lv_aload_n hx hb dX3_growRows_1 rfl (lv_at hl 0 rfl) ?_
  refine gf_RX3_19 C0 M dX3_growRows_2 ?_
  refine ln_STA C0 M dX3_growRows_5 ?_
  refine lv_icmp_le (tgt := 45) hx hb dX3_growRows_6 (by decide) (fun c1 => ?_) (fun c1 => ?_)
  · rw [if_pos c1] at h
    obtain rfl := Option.some.inj h
    exact rA_v C0 M hr hlk (Nat.le_refl _) (Nat.le_refl _) dX3_growRows_45
  · rw [if_neg c1] at h
    refine lv_iload_n hx hb dX3_growRows_9 rfl (lv_at hl 1 rfl) ?_
    refine lv_iconst (v := 2) hx hb dX3_growRows_10 (by decide) ?_
    refine lv_aload_n hx hb dX3_growRows_11 rfl (lv_at hl 0 rfl) ?_
    refine gf_RX3_19 C0 M dX3_growRows_12 ?_
    refine ln_STA C0 M dX3_growRows_15 ?_
    refine lv_imul hx hb dX3_growRows_16 ?_
    refine va_mmax hx hb (hml.trans hl.1.symm) hown (hts _ kw_8_18) (hts _ kw_8_19) (hts _ kw_7_17) (hts _ kw_8_20) (Nat.le_of_ble_eq_true rfl) (Nat.le_of_ble_eq_true rfl) (Nat.zero_le _) (Nat.zero_le _) dX3_growRows_17 ?_
    obtain ⟨z, hz, h⟩ := lett_s h
    refine nm_i hz ?_
    refine lv_istore_n (lv' := [(2, .int z), (0, .ref (sb 8)), (1, .int x1)]) hx hb dX3_growRows_20 rfl hl (by decide) rfl (fun ls hl => ?_)
    obtain ⟨⟨hz1, hz2, hz3, hz4⟩, h⟩ := chk_s h
    obtain rfl := Option.some.inj h
    generalize hN : z.toNatClampNeg = N at hz1 hz3 hz4 ⊢
    refine lv_aload_n hx hb dX3_growRows_21 rfl (lv_at hl 1 rfl) ?_
    refine lv_aload_n hx hb dX3_growRows_22 rfl (lv_at hl 1 rfl) ?_
    refine gf_RX3_19 C0 M dX3_growRows_23 ?_
    refine lv_iload_n hx hb dX3_growRows_26 rfl (lv_at hl 0 rfl) ?_
    refine kSC (As := [.ref (db 11), .int z]) (rest := [.ref (sb 8)]) C0 M (k_copyI (k := 11) (a := db 11) (Or.inl (by decide)) rfl rfl hz1 hz3 hz4) kw_8_21 Y_copyI ⟨Nat.le_of_ble_eq_true rfl, Nat.le_of_ble_eq_true rfl⟩ rfl hl.1 rfl (Nat.le_of_ble_eq_true rfl) dX3_growRows_27 ⟨by show 0 + 1 ≤ 2; omega, by show 0 + N ≤ N + N; omega⟩ (fun q H locs Mx => ?_)
    refine px_sta C0 Mx dX3_growRows_30 (fun db H locs M => ?_)
    refine W.widen (k := 1) (n := N) (by show 0 + 1 ≤ 1; omega) (by show 0 + N ≤ N; omega) ?_
    refine lv_aload_n hx hb dX3_growRows_33 rfl (lv_at hl 1 rfl) ?_
    refine lv_aload_n hx hb dX3_growRows_34 rfl (lv_at hl 1 rfl) ?_
    refine gf_RX3_23 C0 M dX3_growRows_35 ?_
    refine lv_iload_n hx hb dX3_growRows_38 rfl (lv_at hl 0 rfl) ?_
    refine kSC (As := [.ref (db 12), .int z]) (rest := [.ref (sb 8)]) C0 M (k_copyI (k := 12) (n0 := g.2.2 11) (f := (swI g 14 11 N).1 15 0) (a := db 12) (Or.inl (by decide)) rfl (by show cnA cy sb db (swI g 14 11 N) 12 = _; simp [cnA, swI, sN, sA, hz2]) hz1 hz3 hz4) kw_8_21 Y_copyI ⟨Nat.le_of_ble_eq_true rfl, Nat.le_of_ble_eq_true rfl⟩ rfl hl.1 rfl (Nat.le_of_ble_eq_true rfl) dX3_growRows_39 ⟨by show 1 + 1 ≤ 2; omega, by show N + N ≤ N + N; omega⟩ (fun q H locs Mx => ?_)
    refine px_len C0 (by rw [show (swI g 14 11 N).2.2 12 = g.2.2 11 by simp [swI, sN, sA, hz2]]; exact Mx) dX3_growRows_42 (fun db H locs M => ?_)
    exact rA_v C0 M hr hlk (by show 1 + 1 ≤ 2; omega) (by show N + N ≤ N + N; omega) dX3_growRows_45
theorem Y_X3_growRows : Yv yX3_growRows RX3 cX3_growRows 3 none 1 := ⟨⟨kw_8_17, kw_1_23, by decide +kernel, by decide +kernel, by decide +kernel⟩, kw_8_15, kw_8_16⟩
def m_X3_growCells (x1 : Int32) (g : Gs) : Option (Gs × Nat × Nat) :=
  if x1 ≤ nI (g.2.2 9) then some (g, 0, 0) else
  lett (if x1 < 2 * nI (g.2.2 9) then 2 * nI (g.2.2 9) else x1) fun z =>
  chk (z = nI z.toNatClampNeg ∧ g.2.2 9 < z.toNatClampNeg ∧ z.toNatClampNeg ≤ 200000 ∧ g.2.2 10 ≤ z.toNatClampNeg) (some (swZ (swL g z.toNatClampNeg) z.toNatClampNeg, 2, z.toNatClampNeg + z.toNatClampNeg))
set_option maxHeartbeats 4000000 in
set_option maxRecDepth 100000 in
theorem k_X3_growCells {x1 : Int32} {res : Gs × Nat × Nat} (h : m_X3_growCells x1 g = some res) : CA l yX3_growCells cX3_growCells 3 none ({ frames := 2, cells := res.2.1, slots := res.2.2, locals := 62 } : Room) [.ref (sb 8), .int x1] none D b0 cy sb db g res.1 := by
  refine Met.ofW (cc := cX3_growCells) (maxL := 3) (ret := none) (by decide) rfl ?_
  intro p e s m args below meth c s₁ B hml hv
  obtain ⟨rfl, hW, hK⟩ := hv
  have C0 : Cx p s m [Value.ref (sb 8), .int x1].toArray c cX3_growCells 3 RX3 D cy := ⟨B.exec, B.bytes, hml, findClass_of_methodNamed B.named, fun w hw => atoms_spec (ws := Cond.code yX3_growCells cX3_growCells 3 none :: wsL_law) B.pre w (List.mem_cons_of_mem _ hw), hK⟩
  have M : Ws D b0 cy sb db g s s.heap [] := ⟨hW, va_S.rf⟩
  have hl := lv_entry [.ref (sb 8), .int x1] (n := 3) (Nat.le_of_ble_eq_true rfl)
  rw [lg_entry_eq]
  generalize (lg_sl [.ref (sb 8), .int x1] ++ List.replicate (3 - (lg_sl [.ref (sb 8), .int x1]).length) Slot.unset).toArray = ls at hl ⊢
  have hl : lv_has ls 3 [(0, .ref (sb 8)), (1, .int x1)] := hl
  have hr := B.returns
  have hlk := B.notSynchronized
  obtain ⟨hx, hb, hml, hown, hts, hK⟩ := id C0
  rw [m_X3_growCells] at h
  refine lv_iload_n hx hb dX3_growCells_0 rfl (lv_at hl 1 rfl) ?_
  refine lv_aload_n hx hb dX3_growCells_1 rfl (lv_at hl 0 rfl) ?_
  refine gf_RX3_9 C0 M dX3_growCells_2 ?_
  refine ln_NUM C0 M dX3_growCells_5 ?_
  refine lv_icmp_le (tgt := 45) hx hb dX3_growCells_6 (by decide) (fun c1 => ?_) (fun c1 => ?_)
  · rw [if_pos c1] at h
    obtain rfl := Option.some.inj h
    exact rA_v C0 M hr hlk (Nat.le_refl _) (Nat.le_refl _) dX3_growCells_45
  · rw [if_neg c1] at h
    refine lv_iload_n hx hb dX3_growCells_9 rfl (lv_at hl 1 rfl) ?_
    refine lv_iconst (v := 2) hx hb dX3_growCells_10 (by decide) ?_
    refine lv_aload_n hx hb dX3_growCells_11 rfl (lv_at hl 0 rfl) ?_
    refine gf_RX3_9 C0 M dX3_growCells_12 ?_
    refine ln_NUM C0 M dX3_growCells_15 ?_
    refine lv_imul hx hb dX3_growCells_16 ?_
    refine va_mmax hx hb (hml.trans hl.1.symm) hown (hts _ kw_8_18) (hts _ kw_8_19) (hts _ kw_7_17) (hts _ kw_8_20) (Nat.le_of_ble_eq_true rfl) (Nat.le_of_ble_eq_true rfl) (Nat.zero_le _) (Nat.zero_le _) dX3_growCells_17 ?_
    obtain ⟨z, hz, h⟩ := lett_s h
    refine nm_i hz ?_
    refine lv_istore_n (lv' := [(2, .int z), (0, .ref (sb 8)), (1, .int x1)]) hx hb dX3_growCells_20 rfl hl (by decide) rfl (fun ls hl => ?_)
    obtain ⟨⟨hz1, hz3, hz4, hz5⟩, h⟩ := chk_s h
    obtain rfl := Option.some.inj h
    generalize hN : z.toNatClampNeg = N at hz1 hz3 hz4 hz5 ⊢
    refine lv_aload_n hx hb dX3_growCells_21 rfl (lv_at hl 1 rfl) ?_
    refine lv_aload_n hx hb dX3_growCells_22 rfl (lv_at hl 1 rfl) ?_
    refine gf_RX3_9 C0 M dX3_growCells_23 ?_
    refine lv_iload_n hx hb dX3_growCells_26 rfl (lv_at hl 0 rfl) ?_
    refine kSC (As := [.ref (db 9), .int z]) (rest := [.ref (sb 8)]) C0 M (k_copyL (k := 9) (a := db 9) (Or.inl (by decide)) rfl rfl hz1 hz3 hz4) kw_9_18 Y_copyL ⟨Nat.le_of_ble_eq_true rfl, Nat.le_of_ble_eq_true rfl⟩ rfl hl.1 rfl (Nat.le_of_ble_eq_true rfl) dX3_growCells_27 ⟨by show 0 + 1 ≤ 2; omega, by show 0 + N ≤ N + N; omega⟩ (fun q H locs Mx => ?_)
    refine px_num C0 Mx dX3_growCells_30 (fun db H locs M => ?_)
    refine W.widen (k := 1) (n := N) (by show 0 + 1 ≤ 1; omega) (by show 0 + N ≤ N; omega) ?_
    have e2 : (swL g N).2.2 10 = g.2.2 10 := by simp [swL, sN, sLA]
    refine lv_aload_n hx hb dX3_growCells_33 rfl (lv_at hl 1 rfl) ?_
    refine lv_aload_n hx hb dX3_growCells_34 rfl (lv_at hl 1 rfl) ?_
    refine gf_RX3_15 C0 M dX3_growCells_35 ?_
    refine lv_iload_n hx hb dX3_growCells_38 rfl (lv_at hl 0 rfl) ?_
    refine kSC (As := [.ref (db 10), .int z]) (rest := [.ref (sb 8)]) C0 M (k_grown (k := 10) (n0 := (swL g N).2.2 10) (f := (swL g N).1 13 0) (a := db 10) (Or.inl (by decide)) rfl rfl hz1 (by rw [e2]; exact hz5) hz4) kw_10_1 Y_grown ⟨Nat.le_of_ble_eq_true rfl, Nat.le_of_ble_eq_true rfl⟩ rfl hl.1 rfl (Nat.le_of_ble_eq_true rfl) dX3_growCells_39 ⟨by show 1 + 1 ≤ 2; omega, by show N + N ≤ N + N; omega⟩ (fun q H locs Mx => ?_)
    refine px_fil C0 Mx dX3_growCells_42 (fun db H locs M => ?_)
    exact rA_v C0 M hr hlk (by show 1 + 1 ≤ 2; omega) (by show N + N ≤ N + N; omega) dX3_growCells_45
theorem Y_X3_growCells : Yv yX3_growCells RX3 cX3_growCells 3 none 1 := ⟨⟨kw_9_17, kw_1_23, by decide +kernel, by decide +kernel, by decide +kernel⟩, kw_9_15, kw_9_16⟩
end GROW3
