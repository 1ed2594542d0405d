/-! Words of the functions that the methods are, and the rows of calls and ends. -/
def FU : Nat := 70000
abbrev inb (i : Int32) (n : Nat) : Prop := ¬ (i < 0 ∨ n ≤ i.toNatClampNeg)
def chk {β : Type} (c : Prop) [Decidable c] (k : Option β) : Option β := if c then k else none
theorem chk_s {β : Type} {c : Prop} [Decidable c] {k : Option β} {r : β} (h : chk c k = some r) : c ∧ k = some r := by
  unfold chk at h
  split at h
  · rename_i q
    exact ⟨q, h⟩
  · cases h
def lett {α β : Type} (x : α) (k : α → Option β) : Option β := k x
theorem lett_s {α β : Type} {x : α} {k : α → Option β} {r : β} (h : lett x k = some r) : ∃ v, v = x ∧ k v = some r := ⟨x, rfl, h⟩
def unw {β : Type} (o : Option Nat) (k : Nat → Option β) : Option β := match o with
  | none => none
  | some n => chk (n < 24) (k n)
theorem unw_s {β : Type} {o : Option Nat} {k : Nat → Option β} {r : β} (h : unw o k = some r) : ∃ n, o = some n ∧ n < 24 ∧ k n = some r := by
  cases o with
  | none => cases h
  | some n => exact ⟨n, rfl, (chk_s (show chk _ _ = _ from h)).1, (chk_s (show chk _ _ = _ from h)).2⟩
def cas {β : Type} (o : Option Nat) (a : Option β) (k : Nat → Option β) : Option β := match o with
  | none => a
  | some n => chk (n < 24) (k n)
def exi {β γ ε : Type} (q : β ⊕ ε) (a : β → Option γ) (k : ε → Option γ) : Option γ := match q with
  | .inl r => a r
  | .inr x => k x
theorem bnd_s {α β : Type} {x : Option α} {k : α → Option β} {r : β} (h : x.bind k = some r) : ∃ a, x = some a ∧ k a = some r := by
  cases x with
  | none => cases h
  | some a => exact ⟨a, rfl, h⟩
def rfA (sb : Nat → Nat) (o : Option Nat) : Value := match o with
  | none => .null
  | some n => .ref (sb (400 + n))
def WK (D : va_G) (b0 : Nat) (cy : Cy) (sb db : Nat → Nat) (g : Gs) (U : State) : Prop := mp_ D (fun q => b0 ≤ q) lvk (adr sb db) (cont cy sb db g) U.heap ∧ va_K D vwCl (tyL cy) U
def QX (val : Option Value) (D : va_G) (b0 : Nat) (cy : Cy) (sb db : Nat → Nat) (g : Gs) : Array Value → State → Outcome → State → Prop := fun _ st oc t => oc = .returned val ∧ WK D b0 cy sb db g t ∧ va_F (fun q => b0 ≤ q) st t
abbrev CM (l : Launch) (y : MethodName) (cc : ByteArray) (maxL : Nat) (ret : Option FieldType) (rm : Room) (av : List Value) (val : Option Value) (D : va_G) (b0 : Nat) (cy : Cy) (sb db : Nat → Nat) (g g2 : Gs) : Prop :=
  Met l y (Cond.code y cc maxL ret :: wsL_law) rm (va_Pc av (WK D b0 cy sb db g)) (QX val D b0 cy sb db g2) rm.cells rm.slots (fun q => b0 ≤ q)
def Yb (y : MethodName) (cc : ByteArray) (maxL : Nat) (ret : Option FieldType) (n : Nat) : Prop := Cond.code y cc maxL ret ∈ wsL_law ∧ Cond.initialized y.cls ∈ wsL_law ∧ y.cls ≠ "java/lang/invoke/MethodHandle" ∧ y.cls ≠ "java/lang/invoke/VarHandle" ∧ (parseMethodDescriptor y.desc).map (fun d => d.parameters.length) = some n
def Yv (y : MethodName) (C : String) (cc : ByteArray) (maxL : Nat) (ret : Option FieldType) (n : Nat) : Prop := Yb y cc maxL ret n ∧ Cond.instanceMethod y ∈ wsL_law ∧ Cond.selects C y y ∈ wsL_law
def Ys (y : MethodName) (cc : ByteArray) (maxL : Nat) (ret : Option FieldType) (n : Nat) : Prop := Yb y cc maxL ret n ∧ Cond.static y ∈ wsL_law
theorem wk_blind {av : List Value} {D : va_G} {b0 : Nat} {cy : Cy} {sb db : Nat → Nat} {g : Gs} : FrameBlind (va_Pc av (WK D b0 cy sb db g)) := fun a U g mk q => by
  obtain ⟨q0, q1, q2⟩ := q
  exact ⟨q0, q1, va_K.moved (u := U) (U := U.calling g mk a) (Vm.Alike.refl U.vm) q2⟩
section CALLS
variable {p : Program} {l : Launch} {e : Env} {R : Room} {s : State} {m : MethodId} {args : Array Value} {below : List Frame} {meth : Method} {c : Code} {H : Heap} {locs : List Loc} {cells slots : Nat} {Q : State → Prop}
variable {cc : ByteArray} {pc nL : Nat} {ls : Array Slot} {rest : List Value} {D : va_G} {b0 : Nat} {cy : Cy} {sb db : Nat → Nat} {g g2 : Gs} {own : String}
theorem kr_0 {mc ms : Nat} {a : Array Value} {val : Option Value} {st0 : List Value} (hr : va_Run p l e R s m args below meth c H locs cells slots mc ms (F0 m pc ls st0) rest (QX val D b0 cy sb db g2 a) (fun q => b0 ≤ q)) (M : Ws D b0 cy sb db g s H locs)
    (kk : ∀ (H1 : Heap) (locs1 : List Loc), Ws D b0 cy sb db g2 s H1 locs1 → W p l e R s m args below meth c H1 locs1 (cells + mc) (slots + ms) Q (F0 m (pc + 3) ls (val.toList ++ rest))) : W p l e R s m args below meth c H locs cells slots Q (F0 m pc ls st0) := by
  intro T hT X
  obtain ⟨v, st₀, t, T', L, h0, X', hL, e1, e2, ⟨hv, hw, hz, hk⟩, st⟩ := hr T hT X
  cases hv
  rw [h0] at hz hk
  have hS := M.2
  obtain ⟨t2, a1, b1⟩ := kk T'.heap (locs ++ L) ⟨by rw [e1]; exact hw.1, Nat.le_trans hS.1 (by rw [e1]; exact hz), fun q h1 h2 => by rw [e1, hk q (Nat.lt_of_lt_of_le h1 hS.1) h2]; exact hS.2.1 q h1 h2, fun q hq => by
      rcases List.mem_append.mp hq with h | h
      · exact hS.2.2 q h
      · exact hL q h⟩ T' rfl X'
  exact ⟨t2, st t2 a1, b1⟩
theorem kB {index : Nat} {y : MethodName} {cc2 : ByteArray} {maxL n : Nat} {ret : Option FieldType} {rm : Room} (hts : ∀ w ∈ wsL_law, w.before args s = true) (Y : Yb y cc2 maxL ret n) (hl : Cond.methodLink own index y ∈ wsL_law) (hR : rm.frames + 1 ≤ R.frames ∧ 8 + (maxL + 11) + rm.locals ≤ R.locals) : CallB R s args own index y cc2 maxL ret (Cond.code y cc2 maxL ret :: wsL_law) rm rm.cells rm.slots n :=
  callB_of n hts (gd_law y cc2 maxL ret Y.1) rfl rfl rfl (hts _ Y.2.1) (hts _ hl) Y.2.2 hR
theorem kV {index : Nat} {y : MethodName} {C : String} {cc2 : ByteArray} {maxL n : Nat} {ret : Option FieldType} {rm : Room} {As st0 stk : List Value} {b c1 s1 : Nat} {val : Option Value} (C0 : Cx p s m args c cc nL own D cy) (M : Ws D b0 cy sb db g s H locs) (hM : CM l y cc2 maxL ret rm (.ref b :: As) val D b0 cy sb db g g2) (hl : Cond.methodLink own index y ∈ wsL_law) (Y : Yv y C cc2 maxL ret n)
    (hrv : ∃ cell : Cell, H[b]? = some cell ∧ cell.vm.isStatics = false ∧ s.vm.findClass C = some cell.cls) (hR : rm.frames + 1 ≤ R.frames ∧ 8 + (maxL + 11) + rm.locals ≤ R.locals) (hn : As.length = n) (hsz : ls.size = nL) (hst : st0 = As.reverse ++ .ref b :: rest) (hW : (rest.map fun v => v.category).sum ≤ 8) (hdg : decode cc pc = .ok (.invokevirtual index, 3)) (hc1 : cells + rm.cells = c1) (hs1 : slots + rm.slots = s1) (hf : c1 ≤ R.cells ∧ s1 ≤ R.slots) (hstk : val.toList ++ rest = stk)
    (kk : ∀ (H1 : Heap) (locs1 : List Loc), Ws D b0 cy sb db g2 s H1 locs1 → W p l e R s m args below meth c H1 locs1 c1 s1 Q (F0 m (pc + 3) ls stk)) : W p l e R s m args below meth c H locs cells slots Q (F0 m pc ls st0) := by
  subst hc1; subst hs1; subst hstk
  exact kr_0 (va_runV (C := C) (bytes := cc2) (maxL := maxL) (ret := ret) (n := n) (As := As) (rest := rest) ⟨C0.1, C0.2.1, C0.2.2.1, C0.2.2.2.1, C0.2.2.2.2.1⟩ hM ⟨kB C0.2.2.2.2.1 Y.1 hl hR, C0.2.2.2.2.1 _ Y.2.1, C0.2.2.2.2.1 _ Y.2.2⟩ ⟨wk_blind, hrv, fun U hU hW => ⟨rfl, by rw [hU]; exact M.1, va_K.moved hW.alike C0.2.2.2.2.2⟩⟩ rfl hn hsz hst (lv_room hW) hdg hf) M kk
theorem kS {index : Nat} {y : MethodName} {cc2 : ByteArray} {maxL n : Nat} {ret : Option FieldType} {rm : Room} {As st0 stk : List Value} {c1 s1 : Nat} {val : Option Value} (C0 : Cx p s m args c cc nL own D cy) (M : Ws D b0 cy sb db g s H locs) (hM : CM l y cc2 maxL ret rm As val D b0 cy sb db g g2) (hl : Cond.methodLink own index y ∈ wsL_law) (Y : Ys y cc2 maxL ret n)
    (hR : rm.frames + 1 ≤ R.frames ∧ 8 + (maxL + 11) + rm.locals ≤ R.locals) (hn : As.length = n) (hsz : ls.size = nL) (hst : st0 = As.reverse ++ rest) (hW : (rest.map fun v => v.category).sum ≤ 8) (hdg : decode cc pc = .ok (.invokestatic index, 3)) (hc1 : cells + rm.cells = c1) (hs1 : slots + rm.slots = s1) (hf : c1 ≤ R.cells ∧ s1 ≤ R.slots) (hstk : val.toList ++ rest = stk)
    (kk : ∀ (H1 : Heap) (locs1 : List Loc), Ws D b0 cy sb db g2 s H1 locs1 → W p l e R s m args below meth c H1 locs1 c1 s1 Q (F0 m (pc + 3) ls stk)) : W p l e R s m args below meth c H locs cells slots Q (F0 m pc ls st0) := by
  subst hc1; subst hs1; subst hstk
  exact kr_0 (va_runS (bytes := cc2) (maxL := maxL) (ret := ret) (n := n) (As := As) (rest := rest) ⟨C0.1, C0.2.1, C0.2.2.1, C0.2.2.2.1, C0.2.2.2.2.1⟩ hM ⟨kB C0.2.2.2.2.1 Y.1 hl hR, C0.2.2.2.2.1 _ Y.2⟩ ⟨wk_blind, fun U hU hW => ⟨rfl, by rw [hU]; exact M.1, va_K.moved hW.alike C0.2.2.2.2.2⟩⟩ rfl hn hsz hst (lv_room hW) hdg hf) M kk
/-- who is called -/
theorem rv_X4 (C0 : Cx p s m args c cc nL own D cy) (M : Ws D b0 cy sb db g s H locs) : ∃ cell : Cell, H[sb 0]? = some cell ∧ cell.vm.isStatics = false ∧ s.vm.findClass RX4 = some cell.cls := va_recv (q := (RX4, TX4, 8)) C0.2.2.2.2.2 (mp_one (mp_at M.1 (k := 0) (Or.inl (by decide)) rfl rfl)) (ci := 4) (q0 := 0) rfl rfl
theorem rv_X0 (C0 : Cx p s m args c cc nL own D cy) (M : Ws D b0 cy sb db g s H locs) : ∃ cell : Cell, H[sb 3]? = some cell ∧ cell.vm.isStatics = false ∧ s.vm.findClass RX0 = some cell.cls := va_recv (q := (RX0, TX0, 5)) C0.2.2.2.2.2 (mp_one (mp_at M.1 (k := 3) (Or.inl (by decide)) rfl rfl)) (ci := 0) (q0 := 0) rfl rfl
theorem rv_X3 (C0 : Cx p s m args c cc nL own D cy) (M : Ws D b0 cy sb db g s H locs) : ∃ cell : Cell, H[sb 8]? = some cell ∧ cell.vm.isStatics = false ∧ s.vm.findClass RX3 = some cell.cls := va_recv (q := (RX3, TX3, 6)) C0.2.2.2.2.2 (mp_one (mp_at M.1 (k := 8) (Or.inl (by decide)) rfl rfl)) (ci := 3) (q0 := 0) rfl rfl
theorem rv_X5 (C0 : Cx p s m args c cc nL own D cy) (M : Ws D b0 cy sb db g s H locs) : ∃ cell : Cell, H[sb 13]? = some cell ∧ cell.vm.isStatics = false ∧ s.vm.findClass RX5 = some cell.cls := va_recv (q := (RX5, TX5, 25)) C0.2.2.2.2.2 (mp_one (mp_at M.1 (k := 13) (Or.inl (by decide)) rfl rfl)) (ci := 5) (q0 := 0) rfl rfl
theorem rv_X2 (C0 : Cx p s m args c cc nL own D cy) (M : Ws D b0 cy sb db g s H locs) {o : Nat} (hB : o < 25) : ∃ cell : Cell, H[sb (100 + o)]? = some cell ∧ cell.vm.isStatics = false ∧ s.vm.findClass RX2 = some cell.cls := va_recv (q := (RX2, TX2, 3)) C0.2.2.2.2.2 (mp_one (mp_at M.1 (k := 100 + o) (lv_sh hB) (ad_sh sb db hB) (ct_sh cy sb db g hB))) (ci := 2) (q0 := 0) rfl rfl
theorem rv_X1 (C0 : Cx p s m args c cc nL own D cy) (M : Ws D b0 cy sb db g s H locs) {n : Nat} (hB : n < 24) : ∃ cell : Cell, H[sb (400 + n)]? = some cell ∧ cell.vm.isStatics = false ∧ s.vm.findClass RX1 = some cell.cls := va_recv (q := (RX1, TX1, 4)) C0.2.2.2.2.2 (mp_one (mp_at M.1 (k := 400 + n) (lv_ma hB) (ad_ma sb db hB) (ct_ma cy sb db g hB))) (ci := 1) (q0 := 0) rfl rfl
/-- ends -/
theorem rt_q (C0 : Cx p s m args c cc nL own D cy) (M : Ws D b0 cy sb db g s H locs) (val : Option Value) : ∀ t : State, t.heap = H → s.WarmedH t.vm → QX val D b0 cy sb db g args s (.returned val) t := fun t ht hW => ⟨rfl, ⟨by rw [ht]; exact M.1, va_K.moved hW.alike C0.2.2.2.2.2⟩, M.2.F ht⟩
theorem rt_i (C0 : Cx p s m args c cc nL own D cy) (M : Ws D b0 cy sb db g s H locs) (hr : meth.sig.returnType = some .int) (hk : meth.locks = false) {v : Int32} (hdg : decode cc pc = .ok (.ireturn, 1)) : W p l e R s m args below meth c H locs cells slots (MQ below (QX (some (.int v)) D b0 cy sb db g) args s cells slots (fun q => b0 ≤ q)) (F0 m pc ls [.int v]) := W.iret C0.1 C0.2.1 hr (rt_q C0 M _) M.2.2.2 hdg hk
theorem rt_z (C0 : Cx p s m args c cc nL own D cy) (M : Ws D b0 cy sb db g s H locs) (hr : meth.sig.returnType = some .boolean) (hk : meth.locks = false) {v : Int32} (hv : v &&& 1 = v) (hdg : decode cc pc = .ok (.ireturn, 1)) : W p l e R s m args below meth c H locs cells slots (MQ below (QX (some (.int v)) D b0 cy sb db g) args s cells slots (fun q => b0 ≤ q)) (F0 m pc ls [.int v]) := W.zret C0.1 C0.2.1 hr (show Value.int (v &&& 1) = .int v by rw [hv]) (rt_q C0 M _) M.2.2.2 hdg hk
theorem rt_l (C0 : Cx p s m args c cc nL own D cy) (M : Ws D b0 cy sb db g s H locs) (hr : meth.sig.returnType = some .long) (hk : meth.locks = false) {v : Int64} (hdg : decode cc pc = .ok (.lreturn, 1)) : W p l e R s m args below meth c H locs cells slots (MQ below (QX (some (.long v)) D b0 cy sb db g) args s cells slots (fun q => b0 ≤ q)) (F0 m pc ls [.long v]) := W.lret C0.1 C0.2.1 hr (rt_q C0 M _) M.2.2.2 hdg hk
theorem rt_v (C0 : Cx p s m args c cc nL own D cy) (M : Ws D b0 cy sb db g s H locs) (hr : meth.sig.returnType = none) (hk : meth.locks = false) (hdg : decode cc pc = .ok (.return_, 1)) : W p l e R s m args below meth c H locs cells slots (MQ below (QX none D b0 cy sb db g) args s cells slots (fun q => b0 ≤ q)) (F0 m pc ls []) := W.vret C0.1 C0.2.1 hr (rt_q C0 M _) M.2.2.2 hdg hk
theorem rt_a (C0 : Cx p s m args c cc nL own D cy) (M : Ws D b0 cy sb db g s H locs) {rt : String} (hr : meth.sig.returnType = some (.object rt)) (hk : meth.locks = false) {o : Option Nat} (hdg : decode cc pc = .ok (.areturn, 1)) : W p l e R s m args below meth c H locs cells slots (MQ below (QX (some (rfA sb o)) D b0 cy sb db g) args s cells slots (fun q => b0 ≤ q)) (F0 m pc ls [rfA sb o]) := W.aret C0.1 C0.2.1 hr (Or.inl ⟨_, rfl⟩) (by cases o with
  | none => exact Or.inl rfl
  | some n => exact Or.inr ⟨_, rfl⟩) (rt_q C0 M _) M.2.2.2 hdg hk
/-- names on the stack -/
theorem nm_i {v t : Int32} (hv : v = t) (k : W p l e R s m args below meth c H locs cells slots Q (F0 m pc ls (.int v :: rest))) : W p l e R s m args below meth c H locs cells slots Q (F0 m pc ls (.int t :: rest)) := hv ▸ k
theorem nm_l {v t : Int64} (hv : v = t) (k : W p l e R s m args below meth c H locs cells slots Q (F0 m pc ls (.long v :: rest))) : W p l e R s m args below meth c H locs cells slots Q (F0 m pc ls (.long t :: rest)) := hv ▸ k
/-- references that may be null -/
theorem lq_aload_n (hexec : p.tables.exec = Jvm.exec) (hb : c.code = cc) {k : Fin 4} {i : Nat} (o : Option Nat) (hdg : decode cc pc = .ok (.aload_n k, 1)) (hi : (k : Nat) = i) (hl : ls[i]? = some (.val (rfA sb o))) (kk : W p l e R s m args below meth c H locs cells slots Q (F0 m (pc + 1) ls (rfA sb o :: rest))) : W p l e R s m args below meth c H locs cells slots Q (F0 m pc ls rest) := by
  cases o with
  | none => exact lv_aload_nN hexec hb hdg hi hl kk
  | some n => exact lv_aload_n hexec hb hdg hi hl kk
theorem lq_aload (hexec : p.tables.exec = Jvm.exec) (hb : c.code = cc) {i : Nat} (o : Option Nat) (hdg : decode cc pc = .ok (.aload i, 2)) (hl : ls[i]? = some (.val (rfA sb o))) (kk : W p l e R s m args below meth c H locs cells slots Q (F0 m (pc + 2) ls (rfA sb o :: rest))) : W p l e R s m args below meth c H locs cells slots Q (F0 m pc ls rest) := by
  cases o with
  | none => exact lv_aloadN hexec hb hdg hl kk
  | some n => exact lv_aload hexec hb hdg hl kk
theorem lq_astore_n (hexec : p.tables.exec = Jvm.exec) (hb : c.code = cc) {k : Fin 4} {i nL : Nat} (o : Option Nat) {lv lv' : List (Nat × Value)} (hdg : decode cc pc = .ok (.astore_n k, 1)) (hi : (k : Nat) = i) (h : lv_has ls nL lv) (hn : i < nL) (hl : (i, rfA sb o) :: lv.filter (fun q => !(q.1 == i) && !(q.1 + 1 == i && q.2.category == 2)) = lv')
    (kk : ∀ ls', lv_has ls' nL lv' → W p l e R s m args below meth c H locs cells slots Q (F0 m (pc + 1) ls' rest)) : W p l e R s m args below meth c H locs cells slots Q (F0 m pc ls (rfA sb o :: rest)) := by
  cases o with
  | none => exact lv_astore_nN hexec hb hdg hi h hn hl kk
  | some n => exact lv_astore_n hexec hb hdg hi h hn hl kk
theorem lq_astore (hexec : p.tables.exec = Jvm.exec) (hb : c.code = cc) {i nL : Nat} (o : Option Nat) {lv lv' : List (Nat × Value)} (hdg : decode cc pc = .ok (.astore i, 2)) (h : lv_has ls nL lv) (hn : i < nL) (hl : (i, rfA sb o) :: lv.filter (fun q => !(q.1 == i) && !(q.1 + 1 == i && q.2.category == 2)) = lv')
    (kk : ∀ ls', lv_has ls' nL lv' → W p l e R s m args below meth c H locs cells slots Q (F0 m (pc + 2) ls' rest)) : W p l e R s m args below meth c H locs cells slots Q (F0 m pc ls (rfA sb o :: rest)) := by
  cases o with
  | none => exact lv_astoreN hexec hb hdg h hn hl kk
  | some n => exact lv_astore hexec hb hdg h hn hl kk
end CALLS
