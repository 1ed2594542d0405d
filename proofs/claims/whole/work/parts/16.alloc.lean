/-! Cells that are made: arrays that take another's place. -/
def LK : List Nat := List.range 30 ++ ((List.range 25).map (fun i => 100 + i) ++ ((List.range 25).map (fun i => 200 + i) ++ ((List.range 25).map (fun i => 300 + i) ++ ((List.range 24).map (fun i => 400 + i) ++ (List.range 24).map (fun i => 500 + i)))))
theorem LK_mem {k : Nat} : k ∈ LK ↔ lvk k := by
  simp only [LK, lvk, List.mem_append, List.mem_map, List.mem_range]
  constructor
  · rintro (h | ⟨i, h, rfl⟩ | ⟨i, h, rfl⟩ | ⟨i, h, rfl⟩ | ⟨i, h, rfl⟩ | ⟨i, h, rfl⟩) <;> omega
  · rintro (h | h | h | h | h | h)
    · exact Or.inl h
    · exact Or.inr (Or.inl ⟨k - 100, by omega, by omega⟩)
    · exact Or.inr (Or.inr (Or.inl ⟨k - 200, by omega, by omega⟩))
    · exact Or.inr (Or.inr (Or.inr (Or.inl ⟨k - 300, by omega, by omega⟩)))
    · exact Or.inr (Or.inr (Or.inr (Or.inr (Or.inl ⟨k - 400, by omega, by omega⟩))))
    · exact Or.inr (Or.inr (Or.inr (Or.inr (Or.inr ⟨k - 500, by omega, by omega⟩))))
theorem LK_nd : va_nd LK = true := by decide +kernel
def lk_w (ad : Nat → Nat) (ct : Nat → va_E) : va_W := LK.map (fun k => (ad k, ct k))
theorem lk_get {ad : Nat → Nat} {ct : Nat → va_E} {i : Nat} {x : Nat × va_E} (h : (lk_w ad ct)[i]? = some x) : ∃ k, LK[i]? = some k ∧ lvk k ∧ x = (ad k, ct k) := by
  unfold lk_w at h
  rw [List.getElem?_map] at h
  cases hk : LK[i]? with
  | none => rw [hk] at h; cases h
  | some k =>
    rw [hk] at h
    exact ⟨k, rfl, LK_mem.mp (List.mem_of_getElem? hk), (Option.some.inj h).symm⟩
theorem lk_at {ad : Nat → Nat} {ct : Nat → va_E} {k : Nat} (h : lvk k) : ∃ i : Nat, (lk_w ad ct)[i]? = some (ad k, ct k) := by
  obtain ⟨i, hi⟩ := List.getElem?_of_mem (LK_mem.mpr h)
  exact ⟨i, by unfold lk_w; rw [List.getElem?_map, hi]; rfl⟩
theorem mp_list {D : va_G} {A : Nat → Prop} {ad : Nat → Nat} {ct : Nat → va_E} {H : Heap} (M : mp_ D A lvk ad ct H) : va_P D vwCl (lk_w ad ct) H ∧ va_D A (lk_w ad ct) := by
  refine ⟨fun i x hx => ?_, fun i j x y hx hy hxy => ?_, fun i x hx => ?_⟩
  · obtain ⟨k, -, hk, rfl⟩ := lk_get hx
    exact M.1 k hk
  · obtain ⟨k, h1, hk, rfl⟩ := lk_get hx
    obtain ⟨k2, h2, hk2, rfl⟩ := lk_get hy
    have hkk := M.2.1 k k2 hk hk2 hxy
    subst hkk
    exact va_nd_inj LK LK_nd i j k h1 h2
  · obtain ⟨k, -, hk, rfl⟩ := lk_get hx
    exact M.2.2 k hk
/-- the world, and a cell beside it -/
def Wx (D : va_G) (b0 : Nat) (cy : Cy) (sb db : Nat → Nat) (g : Gs) (s : State) (H : Heap) (locs : List Loc) (q : Nat) (x : ClassId × vp_A) : Prop := Ws D b0 cy sb db g s H locs ∧ H[q]? = some (vp_cell x.1 x.2) ∧ (∀ k, lvk k → adr sb db k ≠ q) ∧ b0 ≤ q
theorem ws_b0 {D : va_G} {b0 : Nat} {cy : Cy} {sb db : Nat → Nat} {g : Gs} {H : Heap} (M : mp_ D (fun q => b0 ≤ q) lvk (adr sb db) (cont cy sb db g) H) : b0 ≤ H.size := by
  have h1 := M.2.2 0 (Or.inl (by decide))
  have h2 := (M.1 0 (Or.inl (by decide))).lt
  exact Nat.le_of_lt (Nat.lt_of_le_of_lt h1 h2)
def QC (D : va_G) (b0 : Nat) (cy : Cy) (sb db : Nat → Nat) (g : Gs) (x : ClassId × vp_A) : Array Value → State → Outcome → State → Prop := fun _ st oc t => ∃ q, oc = .returned (some (.ref q)) ∧ WK D b0 cy sb db g t ∧ t.heap[q]? = some (vp_cell x.1 x.2) ∧ (∀ k, lvk k → adr sb db k ≠ q) ∧ b0 ≤ q ∧ va_F (fun q => b0 ≤ q) st t
def QY (val : Option Value) (D : va_G) (b0 : Nat) (cy : Cy) (sb : Nat → Nat) (g : Gs) : Array Value → State → Outcome → State → Prop := fun _ st oc t => oc = .returned val ∧ (∃ db, WK D b0 cy sb db g t) ∧ va_F (fun q => b0 ≤ q) st t
abbrev CA (l : Launch) (y : MethodName) (cc : ByteArray) (maxL : Nat) (ret : Option FieldType) (rm : Room) (av : List Value) (val : Option Value) (D : va_G) (b0 : Nat) (cy : Cy) (sb db : Nat → Nat) (g g2 : Gs) : Prop :=
  Met l y (Cond.code y cc maxL ret :: wsL_law) rm (va_Pc av (WK D b0 cy sb db g)) (QY val D b0 cy sb g2) rm.cells rm.slots (fun q => b0 ≤ q)
def addc {α : Type} (a b : Nat) (x : Option (α × Gs × Nat × Nat)) : Option (α × Gs × Nat × Nat) := x.map fun q => (q.1, q.2.1, a + q.2.2.1, b + q.2.2.2)
def addv (a b : Nat) (x : Option (Gs × Nat × Nat)) : Option (Gs × Nat × Nat) := x.map fun q => (q.1, a + q.2.1, b + q.2.2)
theorem addc_s {α : Type} {a b : Nat} {x : Option (α × Gs × Nat × Nat)} {r : α × Gs × Nat × Nat} (h : addc a b x = some r) : ∃ q, x = some q ∧ r = (q.1, q.2.1, a + q.2.2.1, b + q.2.2.2) := by
  cases x with
  | none => cases h
  | some q => exact ⟨q, rfl, (Option.some.inj h).symm⟩
theorem addv_s {a b : Nat} {x : Option (Gs × Nat × Nat)} {r : Gs × Nat × Nat} (h : addv a b x = some r) : ∃ q, x = some q ∧ r = (q.1, a + q.2.1, b + q.2.2) := by
  cases x with
  | none => cases h
  | some q => exact ⟨q, rfl, (Option.some.inj h).symm⟩
/-- another array stands at a key that the world makes anew -/
def okey (k : Nat) : Nat := if k < 500 then 8 else k - 100
theorem cont_db {cy : Cy} {sb db : Nat → Nat} {g : Gs} {kd q k : Nat} (hd : (9 ≤ kd ∧ kd ≤ 12) ∨ 500 ≤ kd) (hk : lvk k) (h : k ≠ okey kd) : cont cy sb (va_up db kd q) g k = cont cy sb db g k := by
  rcases hk with hk | hk | hk | hk | hk | hk
  · have hk2 : k = 8 ∨ (k = 0 ∨ k = 1 ∨ k = 2 ∨ k = 3 ∨ k = 4 ∨ k = 5 ∨ k = 6 ∨ k = 7 ∨ k = 9 ∨ k = 10 ∨ k = 11 ∨ k = 12 ∨ k = 13 ∨ k = 14 ∨ k = 15 ∨ k = 16 ∨ k = 17 ∨ k = 18 ∨ k = 19 ∨ k = 20 ∨ k = 21 ∨ k = 22 ∨ k = 23 ∨ k = 24 ∨ k = 25 ∨ k = 26 ∨ k = 27 ∨ k = 28 ∨ k = 29) := by omega
    rcases hk2 with rfl | hk2
    · have h5 : 500 ≤ kd := by
        rcases hd with hd | hd
        · exact absurd (show (8 : Nat) = okey kd by unfold okey; rw [if_pos (by omega)]) h
        · exact hd
      show cnA cy sb (va_up db kd q) g 8 = cnA cy sb db g 8
      simp only [cnA, va_up_ne db q (show (9 : Nat) ≠ kd by omega), va_up_ne db q (show (10 : Nat) ≠ kd by omega), va_up_ne db q (show (11 : Nat) ≠ kd by omega), va_up_ne db q (show (12 : Nat) ≠ kd by omega)]
    · rcases hk2 with rfl | rfl | rfl | rfl | rfl | rfl | rfl | rfl | rfl | rfl | rfl | rfl | rfl | rfl | rfl | rfl | rfl | rfl | rfl | rfl | rfl | rfl | rfl | rfl | rfl | rfl | rfl | rfl | rfl <;> rfl
  · obtain ⟨o, rfl⟩ : ∃ o, k = 100 + o := ⟨k - 100, by omega⟩
    rw [ct_sh cy sb _ g (by omega), ct_sh cy sb _ g (by omega)]
  · obtain ⟨o, rfl⟩ : ∃ o, k = 200 + o := ⟨k - 200, by omega⟩
    rw [ct_low cy sb _ g (by omega), ct_low cy sb _ g (by omega)]
  · obtain ⟨o, rfl⟩ : ∃ o, k = 300 + o := ⟨k - 300, by omega⟩
    rw [ct_hig cy sb _ g (by omega), ct_hig cy sb _ g (by omega)]
  · obtain ⟨o, rfl⟩ : ∃ o, k = 400 + o := ⟨k - 400, by omega⟩
    have h5 : 500 + o ≠ kd := by
      intro h6
      subst h6
      exact h (by unfold okey; rw [if_neg (by omega)]; omega)
    rw [ct_ma cy sb _ g (by omega), ct_ma cy sb _ g (by omega), va_up_ne _ _ h5]
  · obtain ⟨o, rfl⟩ : ∃ o, k = 500 + o := ⟨k - 500, by omega⟩
    rw [ct_rows cy sb _ g (by omega), ct_rows cy sb _ g (by omega)]
theorem mp_swap {D : va_G} {b0 : Nat} {cy : Cy} {sb db : Nat → Nat} {g g2 : Gs} {H H2 : Heap} {kd q : Nat} {x : ClassId × vp_A} {eo : va_E} (hd : (9 ≤ kd ∧ kd ≤ 12) ∨ 500 ≤ kd) (hkd : lvk kd) (M : mp_ D (fun q => b0 ≤ q) lvk (adr sb db) (cont cy sb db g) H) (hq : H[q]? = some (vp_cell x.1 x.2)) (hf : ∀ k, lvk k → adr sb db k ≠ q) (hb0 : b0 ≤ q)
    (M2 : mp_ D (fun q => b0 ≤ q) lvk (adr sb db) (va_up (cont cy sb db g) (okey kd) eo) H2) (oq : ∀ p : Nat, p ≠ adr sb db (okey kd) → H2[p]? = H[p]?) (hol : lvk (okey kd))
    (h1 : cont cy sb (va_up db kd q) g2 kd = .inl x) (h2 : cont cy sb (va_up db kd q) g2 (okey kd) = eo) (h3 : ∀ k, lvk k → k ≠ kd → k ≠ okey kd → cont cy sb (va_up db kd q) g2 k = cont cy sb (va_up db kd q) g k) :
    mp_ D (fun q => b0 ≤ q) lvk (adr sb (va_up db kd q)) (cont cy sb (va_up db kd q) g2) H2 := by
  have ha : ∀ k, k ≠ kd → adr sb (va_up db kd q) k = adr sb db k := fun k hk => by
    unfold adr
    split
    · exact va_up_ne _ _ hk
    · rfl
  have hak : adr sb (va_up db kd q) kd = q := by
    unfold adr
    rw [if_pos hd, va_up_self]
  refine ⟨fun k hk => ?_, fun i j hi hj hij => ?_, fun k hk => ?_⟩
  · by_cases h : k = kd
    · subst h
      rw [hak, h1]
      show H2[q]? = some (vp_cell x.1 x.2)
      rw [oq q (fun z => hf _ hol z.symm)]
      exact hq
    · rw [ha k h]
      by_cases h5 : k = okey kd
      · subst h5
        rw [h2]
        have := M2.1 _ hk
        rwa [va_up_self] at this
      · rw [h3 k hk h h5, cont_db hd hk h5]
        have := M2.1 k hk
        rwa [va_up_ne _ _ h5] at this
  · by_cases h : i = kd
    · by_cases h5 : j = kd
      · rw [h, h5]
      · rw [h, hak, ha j h5] at hij
        exact absurd hij.symm (hf j hj)
    · by_cases h5 : j = kd
      · rw [h5, hak, ha i h] at hij
        exact absurd hij (hf i hi)
      · rw [ha i h, ha j h5] at hij
        exact M.2.1 i j hi hj hij
  · by_cases h : k = kd
    · rw [h, hak]
      exact hb0
    · rw [ha k h]
      exact M.2.2 k hk
section ALLOC
variable {p : Program} {l : Launch} {e : Env} {R : Room} {s : State} {m : MethodId} {args : Array Value} {below : List Frame} {meth : Method} {c : Code} {H : Heap} {locs : List Loc} {cells slots : Nat} {Q : State → Prop}
variable {cc : ByteArray} {pc nL : Nat} {ls : Array Slot} {rest : List Value} {D : va_G} {b0 : Nat} {cy : Cy} {sb db : Nat → Nat} {g g2 : Gs} {own : String}
/-- a new array beside the world -/
theorem nx_newa (C0 : Cx p s m args c cc nL own D cy) (M : Ws D b0 cy sb db g s H locs) {atype : ArrayType} {ty : FieldType} (hty : newarray.typeOf atype = ty) (harr : Cond.arrayClass ty ∈ wsL_law) {cA : ClassId} {t0 : Nat} (ht : (tyL cy)[t0]? = some (cA, ty)) (hra : va_RA s cA ty → s.vm.findClass ("[" ++ ty.toString) = some cA) {n : Int32} {N : Nat} {a0 : vp_A} (ha : ∀ cA : ClassId, vp_cell cA a0 = arrV cA N (fun _ => defaultValue ty)) (hn : ¬ n < 0) (hN : n.toNatClampNeg = N) (hbytes : N * componentBytes ty ≤ 536870912) (hcells : cells + 1 ≤ R.cells) (hslots : slots + N ≤ R.slots) (hdg : decode cc pc = .ok (.newarray atype, 2))
    (kk : ∀ (q : Nat) (H1 : Heap), Wx D b0 cy sb db g s H1 locs q (cA, a0) → W p l e R s m args below meth c H1 locs (cells + 1) (slots + N) Q (F0 m (pc + 2) ls (.ref q :: rest))) : W p l e R s m args below meth c H locs cells slots Q (F0 m pc ls (.int n :: rest)) := by
  subst hty
  obtain ⟨hx, hb, hml, hown, hts, hK⟩ := C0
  refine va_newaK hx hb (hts _ harr) rfl hdg rfl hn hN hbytes hcells hslots rfl fun H1 cA1 e1 z1 o1 hAr hNm => ?_
  have hcA : cA1 = cA := Option.some.inj (hNm.symm.trans (hra (hK.2 t0 _ ht).2))
  subst hcA
  have hlt : ∀ k, lvk k → adr sb db k < H.size := fun k hk => (M.1.1 k hk).lt
  refine kk H.size H1 ⟨⟨⟨fun k hk => (M.1.1 k hk).kept (o1 _ (hlt k hk)), M.1.2⟩, Nat.le_trans M.2.1 (by omega), fun x h1 h2 => (o1 x (Nat.lt_of_lt_of_le h1 M.2.1)).trans (M.2.2.1 x h1 h2), M.2.2.2⟩, ?_, fun k hk z => ?_, ws_b0 M.1⟩
  · show H1[H.size]? = some (vp_cell _ _)
    rw [ha]
    exact e1
  · have := hlt k hk
    omega
theorem mg_put2 {A lv : Nat → Prop} {ad : Nat → Nat} {ct : Nat → va_E} {tys : List (ClassId × FieldType)} {H0 : Heap} {a k : Nat} (hexec : p.tables.exec = Jvm.exec) (hb : c.code = cc) {own ref C : String} {T : u_T} {N ci index : Nat} (hts : ∀ w ∈ wsL_law, w.before args s = true) (hown : s.vm.findClass own = some m.cls) (hK : va_K D vwCl tys s) (M : mp_ D A lv ad ct H) (hS0 : va_S A H0 H locs) (hk : lv k) (ha : ad k = a) {fs : List Value} (he : ct k = .inr (ci, fs)) (hc : vwCl[ci]? = some (C, T, N)) (hin : ∀ w ∈ u_ws C T N, w ∈ wsL_law) (ty0 : Nat → FieldType) (hty : ∀ k, k < N → parseFieldDescriptor (T k).2.2.1 = some (ty0 k)) (hnm : ∀ a, a < N → ∀ b, b < N → a ≠ b → (T a).2.1 ≠ (T b).2.1)
    (j : Nat) (hj : j < N) (hlink : Cond.fieldLink own index ref (T j).2.1 (T j).2.2.1 ∈ wsL_law) (hsame : (T j).1 = ref) (hfin : (T j).2.2.2 = false) {ty : FieldType} {v : Value} (hd : parseFieldDescriptor (T j).2.2.1 = some ty) (hn : narrow ty v = v) (hfit : fits ty v = true) (hl : j < fs.length) (hdg : decode cc pc = .ok (.putfield index, 3))
    (kk : ∀ (H1 : Heap) (locs1 : List Loc), (∀ q : Nat, q ≠ a → H1[q]? = H[q]?) → mp_ D A lv ad (va_up ct k (.inr (ci, fs.set j v))) H1 → va_S A H0 H1 locs1 → W p l e R s m args below meth c H1 locs1 cells slots Q (F0 m (pc + 3) ls rest)) : W p l e R s m args below meth c H locs cells slots Q (F0 m pc ls (v :: .ref a :: rest)) := by
  have hap := va_apart (own := own) hts hin ty0 hty hnm hK hc
  obtain ⟨r, h1, cell, q1, q2, q3, q4⟩ := mp_at M hk ha he
  have hr : r = (C, T, N) := Option.some.inj (h1.symm.trans hc)
  subst hr
  obtain ⟨hS, hfc, kC, hkC, hkind⟩ := hK.1 ci _ hc
  obtain ⟨cf, kf, fi, f, hi, hsl⟩ := hS j hj
  have hlay := hts _ (hin _ (u_in_lay hj))
  unfold u_lay at hlay
  rw [if_neg (by rw [hfin]; decide)] at hlay
  have hst := (u_facts hfc hkC (u_lays hts hin hj) hi).1
  have h6 := u_store hfc hkC hkind hlay hi hd hn hfit
  refine W.putK hexec hb (f := f) ⟨hown, hts _ hlink, ⟨_, _, _, by rw [← hsame]; exact hi⟩, hst⟩ (by rw [q2]; exact h6) q1 q3 (by rw [hsl]; exact k2_hasslot (q4 j hj)) rfl rfl hdg fun H' e1 e2 e3 => ?_
  rw [hsl] at e1 ⊢
  exact kk H' _ e3 (mp_set M hk ha ⟨_, hc, t_OB.to (V := updV (vp_V fs) j v) ⟨_, e1, q2, q3, t_set q4 hap hj v⟩ (fun j _ => vp_updV_set hl v j)⟩ e3) (hS0.put e2 e3 (by rw [← ha]; exact M.2.2 k hk))
/-- a call whose answer is a new array -/
theorem kr_C {mc ms : Nat} {a : Array Value} {x : ClassId × vp_A} {st0 : List Value} (hr : va_Run p l e R s m args below meth c H locs cells slots mc ms (F0 m pc ls st0) rest (QC D b0 cy sb db g x a) (fun q => b0 ≤ q)) (M : Ws D b0 cy sb db g s H locs)
    (kk : ∀ (q : Nat) (H1 : Heap) (locs1 : List Loc), Wx D b0 cy sb db g s H1 locs1 q x → W p l e R s m args below meth c H1 locs1 (cells + mc) (slots + ms) Q (F0 m (pc + 3) ls (.ref q :: rest))) : W p l e R s m args below meth c H locs cells slots Q (F0 m pc ls st0) := by
  intro T hT X
  obtain ⟨v, st₀, t, T', L, h0, X', hL, e1, e2, ⟨q, hv, hw, hq, hfq, hb0, hz, hk⟩, st⟩ := hr T hT X
  cases hv
  rw [h0] at hz hk
  have hS := M.2
  obtain ⟨t2, a1, b1⟩ := kk q T'.heap (locs ++ L) ⟨⟨by rw [e1]; exact hw.1, Nat.le_trans hS.1 (by rw [e1]; exact hz), fun q h1 h2 => by rw [e1, hk q (Nat.lt_of_lt_of_le h1 hS.1) h2]; exact hS.2.1 q h1 h2, fun q hq => by
      rcases List.mem_append.mp hq with h | h
      · exact hS.2.2 q h
      · exact hL q h⟩, by rw [e1]; exact hq, hfq, hb0⟩ T' rfl X'
  exact ⟨t2, st t2 a1, b1⟩
theorem kr_A {mc ms : Nat} {a : Array Value} {val : Option Value} {st0 : List Value} (hr : va_Run p l e R s m args below meth c H locs cells slots mc ms (F0 m pc ls st0) rest (QY val D b0 cy sb g2 a) (fun q => b0 ≤ q)) (M : Ws D b0 cy sb db g s H locs)
    (kk : ∀ (db1 : Nat → Nat) (H1 : Heap) (locs1 : List Loc), Ws D b0 cy sb db1 g2 s H1 locs1 → W p l e R s m args below meth c H1 locs1 (cells + mc) (slots + ms) Q (F0 m (pc + 3) ls (val.toList ++ rest))) : W p l e R s m args below meth c H locs cells slots Q (F0 m pc ls st0) := by
  intro T hT X
  obtain ⟨v, st₀, t, T', L, h0, X', hL, e1, e2, ⟨hv, ⟨db1, hw⟩, hz, hk⟩, st⟩ := hr T hT X
  cases hv
  rw [h0] at hz hk
  have hS := M.2
  obtain ⟨t2, a1, b1⟩ := kk db1 T'.heap (locs ++ L) ⟨by rw [e1]; exact hw.1, Nat.le_trans hS.1 (by rw [e1]; exact hz), fun q h1 h2 => by rw [e1, hk q (Nat.lt_of_lt_of_le h1 hS.1) h2]; exact hS.2.1 q h1 h2, fun q hq => by
      rcases List.mem_append.mp hq with h | h
      · exact hS.2.2 q h
      · exact hL q h⟩ T' rfl X'
  exact ⟨t2, st t2 a1, b1⟩
theorem kVA {index : Nat} {y : MethodName} {C : String} {cc2 : ByteArray} {maxL n : Nat} {ret : Option FieldType} {rm : Room} {As st0 stk : List Value} {b c1 s1 : Nat} {val : Option Value} (C0 : Cx p s m args c cc nL own D cy) (M : Ws D b0 cy sb db g s H locs) (hM : CA l y cc2 maxL ret rm (.ref b :: As) val D b0 cy sb db g g2) (hl : Cond.methodLink own index y ∈ wsL_law) (Y : Yv y C cc2 maxL ret n)
    (hrv : ∃ cell : Cell, H[b]? = some cell ∧ cell.vm.isStatics = false ∧ s.vm.findClass C = some cell.cls) (hR : rm.frames + 1 ≤ R.frames ∧ 8 + (maxL + 11) + rm.locals ≤ R.locals) (hn : As.length = n) (hsz : ls.size = nL) (hst : st0 = As.reverse ++ .ref b :: rest) (hW : (rest.map fun v => v.category).sum ≤ 8) (hdg : decode cc pc = .ok (.invokevirtual index, 3)) (hc1 : cells + rm.cells = c1) (hs1 : slots + rm.slots = s1) (hf : c1 ≤ R.cells ∧ s1 ≤ R.slots) (hstk : val.toList ++ rest = stk)
    (kk : ∀ (db1 : Nat → Nat) (H1 : Heap) (locs1 : List Loc), Ws D b0 cy sb db1 g2 s H1 locs1 → W p l e R s m args below meth c H1 locs1 c1 s1 Q (F0 m (pc + 3) ls stk)) : W p l e R s m args below meth c H locs cells slots Q (F0 m pc ls st0) := by
  subst hc1; subst hs1; subst hstk
  exact kr_A (va_runV (C := C) (bytes := cc2) (maxL := maxL) (ret := ret) (n := n) (As := As) (rest := rest) ⟨C0.1, C0.2.1, C0.2.2.1, C0.2.2.2.1, C0.2.2.2.2.1⟩ hM ⟨kB C0.2.2.2.2.1 Y.1 hl hR, C0.2.2.2.2.1 _ Y.2.1, C0.2.2.2.2.1 _ Y.2.2⟩ ⟨wk_blind, hrv, fun U hU hW => ⟨rfl, by rw [hU]; exact M.1, va_K.moved hW.alike C0.2.2.2.2.2⟩⟩ rfl hn hsz hst (lv_room hW) hdg hf) M kk
/-- ends of methods that make cells -/
theorem rA_q (C0 : Cx p s m args c cc nL own D cy) (M : Ws D b0 cy sb db g s H locs) (val : Option Value) : ∀ t : State, t.heap = H → s.WarmedH t.vm → QY val D b0 cy sb g args s (.returned val) t := fun t ht hW => ⟨rfl, ⟨db, by rw [ht]; exact M.1, va_K.moved hW.alike C0.2.2.2.2.2⟩, M.2.F ht⟩
theorem rA_i {mc ms : Nat} (C0 : Cx p s m args c cc nL own D cy) (M : Ws D b0 cy sb db g s H locs) (hr : meth.sig.returnType = some .int) (hk : meth.locks = false) (h1 : cells ≤ mc) (h2 : slots ≤ ms) {v : Int32} (hdg : decode cc pc = .ok (.ireturn, 1)) : W p l e R s m args below meth c H locs cells slots (MQ below (QY (some (.int v)) D b0 cy sb g) args s mc ms (fun q => b0 ≤ q)) (F0 m pc ls [.int v]) := W.widen h1 h2 (W.iret C0.1 C0.2.1 hr (rA_q C0 M _) M.2.2.2 hdg hk)
theorem rA_z {mc ms : Nat} (C0 : Cx p s m args c cc nL own D cy) (M : Ws D b0 cy sb db g s H locs) (hr : meth.sig.returnType = some .boolean) (hk : meth.locks = false) (h1 : cells ≤ mc) (h2 : slots ≤ ms) {v : Int32} (hv : v &&& 1 = v) (hdg : decode cc pc = .ok (.ireturn, 1)) : W p l e R s m args below meth c H locs cells slots (MQ below (QY (some (.int v)) D b0 cy sb g) args s mc ms (fun q => b0 ≤ q)) (F0 m pc ls [.int v]) := W.widen h1 h2 (W.zret C0.1 C0.2.1 hr (show Value.int (v &&& 1) = .int v by rw [hv]) (rA_q C0 M _) M.2.2.2 hdg hk)
theorem rA_v {mc ms : Nat} (C0 : Cx p s m args c cc nL own D cy) (M : Ws D b0 cy sb db g s H locs) (hr : meth.sig.returnType = none) (hk : meth.locks = false) (h1 : cells ≤ mc) (h2 : slots ≤ ms) (hdg : decode cc pc = .ok (.return_, 1)) : W p l e R s m args below meth c H locs cells slots (MQ below (QY none D b0 cy sb g) args s mc ms (fun q => b0 ≤ q)) (F0 m pc ls []) := W.widen h1 h2 (W.vret C0.1 C0.2.1 hr (rA_q C0 M _) M.2.2.2 hdg hk)
end ALLOC
