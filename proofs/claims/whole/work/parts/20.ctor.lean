/-! Constructors: the world grows by keys. -/
def lvA (lv : Nat → Prop) (k : Nat) : Nat → Prop := fun j => lv j ∨ j = k
theorem mp_add {D : va_G} {A lv : Nat → Prop} {ad : Nat → Nat} {ct : Nat → va_E} {H H1 : Heap} (M : mp_ D A lv ad ct H) {k q : Nat} {e : va_E} (hk : ¬ lv k) (o1 : ∀ p : Nat, p < H.size → H1[p]? = H[p]?) (hq : H.size ≤ q) (hat : va_at D vwCl (q, e) H1) (hA : A q) : mp_ D A (lvA lv k) (va_up ad k q) (va_up ct k e) H1 := by
  have hlt : ∀ j, lv j → ad j < H.size := fun j hj => (M.1 j hj).lt
  have hne : ∀ j, lv j → j ≠ k := fun j hj h => hk (h ▸ hj)
  refine ⟨fun j hj => ?_, fun i j hi hj hij => ?_, fun j hj => ?_⟩
  · rcases hj with hj | rfl
    · rw [va_up_ne _ _ (hne j hj), va_up_ne _ _ (hne j hj)]
      exact (M.1 j hj).kept (o1 _ (hlt j hj))
    · rw [va_up_self, va_up_self]
      exact hat
  · rcases hi with hi | rfl <;> rcases hj with hj | rfl
    · rw [va_up_ne _ _ (hne i hi), va_up_ne _ _ (hne j hj)] at hij
      exact M.2.1 i j hi hj hij
    · rw [va_up_ne _ _ (hne i hi), va_up_self] at hij
      have := hlt i hi
      omega
    · rw [va_up_ne _ _ (hne j hj), va_up_self] at hij
      have := hlt j hj
      omega
    · rfl
  · rcases hj with hj | rfl
    · rw [va_up_ne _ _ (hne j hj)]
      exact M.2.2 j hj
    · rw [va_up_self]
      exact hA
theorem mp_lv {D : va_G} {A lv lv2 : Nat → Prop} {ad : Nat → Nat} {ct : Nat → va_E} {H : Heap} (M : mp_ D A lv ad ct H) (h : ∀ k, lv2 k → lv k) : mp_ D A lv2 ad ct H := ⟨fun k hk => M.1 k (h k hk), fun i j hi hj => M.2.1 i j (h i hi) (h j hj), fun k hk => M.2.2 k (h k hk)⟩
def PN (D : va_G) (b0 : Nat) (cy : Cy) (lv : Nat → Prop) (ad : Nat → Nat) (ct : Nat → va_E) (E : State → Prop) (U : State) : Prop := (b0 ≤ U.heap.size ∧ mp_ D (fun q => b0 ≤ q) lv ad ct U.heap) ∧ va_K D vwCl (tyL cy) U ∧ E U
def QN (D : va_G) (b0 : Nat) (cy : Cy) (lv lv2 : Nat → Prop) (ad : Nat → Nat) (Z : (Nat → Nat) → (Nat → va_E) → Prop) : Array Value → State → Outcome → State → Prop := fun _ st oc t => oc = .returned none ∧ (∃ (ad1 : Nat → Nat) (ct1 : Nat → va_E), (∀ j, lv j → ad1 j = ad j) ∧ Z ad1 ct1 ∧ mp_ D (fun q => b0 ≤ q) lv2 ad1 ct1 t.heap) ∧ va_K D vwCl (tyL cy) t ∧ va_F (fun q => b0 ≤ q) st t
abbrev CN (l : Launch) (y : MethodName) (cc : ByteArray) (nL : Nat) (rm : Room) (a0 : Nat) (E : State → Prop) (D : va_G) (b0 : Nat) (cy : Cy) (lv lv2 : Nat → Prop) (ad : Nat → Nat) (ct : Nat → va_E) (Z : (Nat → Nat) → (Nat → va_E) → Prop) : Prop :=
  Met l y (Cond.code y cc nL none :: wsL_law) rm (va_Pc [.ref a0] (PN D b0 cy lv ad ct E)) (QN D b0 cy lv lv2 ad Z) rm.cells rm.slots (fun q => b0 ≤ q)
def Yi (y : MethodName) (cc : ByteArray) (maxL n : Nat) : Prop := Yb y cc maxL none n ∧ y.name = "<init>" ∧ Cond.instanceMethod y ∈ wsL_law
section CTOR
variable {p : Program} {l : Launch} {e : Env} {R : Room} {s : State} {m : MethodId} {args : Array Value} {below : List Frame} {meth : Method} {c : Code} {H : Heap} {locs : List Loc} {cells slots : Nat} {Q : State → Prop}
variable {cc : ByteArray} {pc nL : Nat} {ls : Array Slot} {rest : List Value} {D : va_G} {b0 : Nat} {cy : Cy} {own : String} {lv lv2 : Nat → Prop} {ad : Nat → Nat} {ct : Nat → va_E}
theorem mg_putF {A : Nat → Prop} {tys : List (ClassId × FieldType)} {H0 : Heap} {a k : Nat} (hexec : p.tables.exec = Jvm.exec) (hb : c.code = cc) {own ref C : String} {T : u_T} {N ci index : Nat} (hts : ∀ w ∈ wsL_law, w.before args s = true) (hown : s.vm.findClass own = some m.cls) (hK : va_K D vwCl tys s) (M : mp_ D A lv ad ct H) (hS0 : va_S A H0 H locs) (hk : lv k) (ha : ad k = a) {fs : List Value} (he : ct k = .inr (ci, fs)) (hc : vwCl[ci]? = some (C, T, N)) (hin : ∀ w ∈ u_ws C T N, w ∈ wsL_law) (ty0 : Nat → FieldType) (hty : ∀ k, k < N → parseFieldDescriptor (T k).2.2.1 = some (ty0 k)) (hnm : ∀ a, a < N → ∀ b, b < N → a ≠ b → (T a).2.1 ≠ (T b).2.1)
    (j : Nat) (hj : j < N) (hlink : Cond.fieldLink own index ref (T j).2.1 (T j).2.2.1 ∈ wsL_law) (hsame : (T j).1 = ref) (hfin : (T j).2.2.2 = true) (hin2 : meth.name = "<init>") (hdecl : (T j).1 = own) {ty : FieldType} {v : Value} (hd : parseFieldDescriptor (T j).2.2.1 = some ty) (hn : narrow ty v = v) (hfit : fits ty v = true) (hl : j < fs.length) (hdg : decode cc pc = .ok (.putfield index, 3))
    (kk : ∀ (H1 : Heap) (locs1 : List Loc), mp_ D A lv ad (va_up ct k (.inr (ci, fs.set j v))) H1 → va_S A H0 H1 locs1 → W p l e R s m args below meth c H1 locs1 cells slots Q (F0 m (pc + 3) ls rest)) : W p l e R s m args below meth c H locs cells slots Q (F0 m pc ls (v :: .ref a :: rest)) := by
  have hap := va_apart (own := own) hts hin ty0 hty hnm hK hc
  obtain ⟨r, h1, cell, q1, q2, q3, q4⟩ := mp_at M hk ha he
  have hr : r = (C, T, N) := Option.some.inj (h1.symm.trans hc)
  subst hr
  obtain ⟨hS, hfc, kC, hkC, hkind⟩ := hK.1 ci _ hc
  obtain ⟨cf, kf, fi, f, hi, hsl⟩ := hS j hj
  have hlay := hts _ (hin _ (u_in_lay hj))
  unfold u_lay at hlay
  rw [if_pos hfin] at hlay
  have hst := (u_facts hfc hkC (u_lays hts hin hj) hi).1
  have hcf : m.cls = cf := by
    obtain ⟨_, _, c', _, _, _, -, -, hf', -, -, -, hown2, -⟩ := Cond.laysFinal_spec hlay
    have e1 : c' = cf := by have := hi.symm.trans hf'; simp at this; exact this.1.symm
    rw [hdecl] at hown2
    rw [← e1]; exact Option.some.inj (hown.symm.trans hown2)
  have h6 := u_fits hfc hkC hkind (Or.inr hlay) hi hd hn hfit
  refine W.putFinK hexec hb hown (hts _ hlink) (by rw [← hsame]; exact hi) hst hcf hin2 (by rw [q2]; exact h6) q1 q3 (by rw [hsl]; exact k2_hasslot (q4 j hj)) rfl rfl hdg fun H' e1 e2 e3 => ?_
  rw [hsl] at e1 ⊢
  exact kk H' _ (mp_set M hk ha ⟨_, hc, t_OB.to (V := updV (vp_V fs) j v) ⟨_, e1, q2, q3, t_set q4 hap hj v⟩ (fun j _ => vp_updV_set hl v j)⟩ e3) (hS0.put e2 e3 (by rw [← ha]; exact M.2.2 k hk))
theorem mn_newa (C0 : Cx p s m args c cc nL own D cy) (M : mp_ D (fun q => b0 ≤ q) lv ad ct H) (hS : va_S (fun q => b0 ≤ q) s.heap H locs) (hb0 : b0 ≤ s.heap.size) {kn : Nat} (hkn : ¬ lv kn) {atype : ArrayType} {ty : FieldType} (hty : newarray.typeOf atype = ty) (harr : Cond.arrayClass ty ∈ wsL_law) {cA : ClassId} {t0 : Nat} (ht : (tyL cy)[t0]? = some (cA, ty)) (hra : va_RA s cA ty → s.vm.findClass ("[" ++ ty.toString) = some cA) {n : Int32} {N : Nat} {a1 : vp_A} (ha : ∀ cA : ClassId, vp_cell cA a1 = arrV cA N (fun _ => defaultValue ty)) (hn : ¬ n < 0) (hN : n.toNatClampNeg = N) (hbytes : N * componentBytes ty ≤ 536870912) (hcells : cells + 1 ≤ R.cells) (hslots : slots + N ≤ R.slots) {c1 s1 : Nat} (hc1 : cells + 1 = c1) (hs1 : slots + N = s1) (hdg : decode cc pc = .ok (.newarray atype, 2))
    (kk : ∀ (q : Nat) (H1 : Heap), mp_ D (fun q => b0 ≤ q) (lvA lv kn) (va_up ad kn q) (va_up ct kn (.inl (cA, a1))) H1 → va_S (fun q => b0 ≤ q) s.heap H1 locs → W p l e R s m args below meth c H1 locs c1 s1 Q (F0 m (pc + 2) ls (.ref q :: rest))) : W p l e R s m args below meth c H locs cells slots Q (F0 m pc ls (.int n :: rest)) := by
  subst hty; subst hc1; subst hs1
  obtain ⟨hx, hb, hml, hown, hts, hK⟩ := C0
  refine va_newaK hx hb (hts _ harr) rfl hdg rfl hn hN hbytes hcells hslots rfl fun H1 cA1 e1 z1 o1 hAr hNm => ?_
  have hcA : cA1 = cA := Option.some.inj (hNm.symm.trans (hra (hK.2 t0 _ ht).2))
  subst hcA
  refine kk H.size H1 (mp_add M hkn o1 (Nat.le_refl _) ?_ (Nat.le_trans hb0 hS.1)) ⟨Nat.le_trans hS.1 (by omega), fun x h1 h2 => (o1 x (Nat.lt_of_lt_of_le h1 hS.1)).trans (hS.2.1 x h1 h2), hS.2.2⟩
  show H1[H.size]? = some (vp_cell _ _)
  rw [ha]
  exact e1
theorem mn_new (C0 : Cx p s m args c cc nL own D cy) (M : mp_ D (fun q => b0 ≤ q) lv ad ct H) (hS : va_S (fun q => b0 ≤ q) s.heap H locs) (hb0 : b0 ≤ s.heap.size) {kn : Nat} (hkn : ¬ lv kn) {C : String} {T : u_T} {N ci index : Nat} (hc : vwCl[ci]? = some (C, T, N)) (hin : ∀ w ∈ u_ws C T N, w ∈ wsL_law) (ty : Nat → FieldType) (hty : ∀ k, k < N → parseFieldDescriptor (T k).2.2.1 = some (ty k)) (hcl : Cond.classLink own index C ∈ wsL_law) (hinst : Cond.instantiable C N ∈ wsL_law) (hini : Cond.initialized C ∈ wsL_law) {fs : List Value} (hfs : ∀ j, j < N → defaultValue (ty j) = vp_V fs j) (hcells : cells + 1 ≤ R.cells) (hslots : slots + N ≤ R.slots) {c1 s1 : Nat} (hc1 : cells + 1 = c1) (hs1 : slots + N = s1) (hdg : decode cc pc = .ok (.new index, 3))
    (kk : ∀ (q : Nat) (H1 : Heap), mp_ D (fun q => b0 ≤ q) (lvA lv kn) (va_up ad kn q) (va_up ct kn (.inr (ci, fs))) H1 → va_S (fun q => b0 ≤ q) s.heap H1 locs → W p l e R s m args below meth c H1 locs c1 s1 Q (F0 m (pc + 3) ls (.ref q :: rest))) : W p l e R s m args below meth c H locs cells slots Q (F0 m pc ls rest) := by
  subst hc1; subst hs1
  obtain ⟨hx, hb, hml, hown, hts, hK⟩ := C0
  have hKn := hK.1 ci _ hc
  refine W.newcK hx hb hown (hts _ hcl) (hts _ hinst) (hts _ hini) rfl hdg hcells hslots hKn.2.1 rfl fun H1 kC hkC e1 z1 o1 => ?_
  exact kk H.size H1 (mp_add M hkn o1 (Nat.le_refl _) ⟨_, hc, (u_born ty hts hin hKn hkC e1 hty).to hfs⟩ (Nat.le_trans hb0 hS.1)) ⟨Nat.le_trans hS.1 (by omega), fun x h1 h2 => (o1 x (Nat.lt_of_lt_of_le h1 hS.1)).trans (hS.2.1 x h1 h2), hS.2.2⟩
theorem mn_anew (C0 : Cx p s m args c cc nL own D cy) (M : mp_ D (fun q => b0 ≤ q) lv ad ct H) (hS : va_S (fun q => b0 ≤ q) s.heap H locs) (hb0 : b0 ≤ s.heap.size) {kn : Nat} (hkn : ¬ lv kn) {index : Nat} (hcl : Cond.classLink own index RX1 ∈ wsL_law) (hover : va_AO RX1 s) {n : Int32} {N : Nat} (hn : ¬ n < 0) (hN : n.toNatClampNeg = N) (hbytes : N * 4 ≤ 536870912) (hcells : cells + 1 ≤ R.cells) (hslots : slots + N ≤ R.slots) {c1 s1 : Nat} (hc1 : cells + 1 = c1) (hs1 : slots + N = s1) (hdg : decode cc pc = .ok (.anewarray index, 3))
    (kk : ∀ (q : Nat) (H1 : Heap), mp_ D (fun q => b0 ≤ q) (lvA lv kn) (va_up ad kn q) (va_up ct kn (.inl (cy.2.2.2, N, .inr (.inr (.inr (.inr (fun _ => none))))))) H1 → va_S (fun q => b0 ≤ q) s.heap H1 locs → W p l e R s m args below meth c H1 locs c1 s1 Q (F0 m (pc + 3) ls (.ref q :: rest))) : W p l e R s m args below meth c H locs cells slots Q (F0 m pc ls (.int n :: rest)) := by
  subst hc1; subst hs1; subst hN
  obtain ⟨hx, hb, hml, hown, hts, hK⟩ := C0
  refine W.anew hx hb hown (hts _ hcl) (va_AO.use hover) rfl hdg rfl hn hbytes hcells hslots fun cA kA comp f1 f2 f3 f4 => ?_
  obtain ⟨kA2, comp2, -, -, -, f5⟩ := (hK.2 3 _ rfl).2
  have hcA : cA = cy.2.2.2 := Option.some.inj (f1.symm.trans f5)
  generalize hH1 : H.push ({ cls := cA, slots := Array.replicate n.toNatClampNeg .null, vm := .none } : Cell) = H1
  have z1 : H1.size = H.size + 1 := by rw [← hH1, Array.size_push]
  have e1 : H1[H.size]? = some (arrV cA n.toNatClampNeg (fun _ => .null)) := by rw [← hH1, Array.getElem?_push_size, ← arrV_new]
  have o1 : ∀ q : Nat, q < H.size → H1[q]? = H[q]? := fun q hq => by rw [← hH1, Array.getElem?_push, if_neg (Nat.ne_of_lt hq)]
  refine kk H.size H1 (mp_add M hkn o1 (Nat.le_refl _) ?_ (Nat.le_trans hb0 hS.1)) ⟨Nat.le_trans hS.1 (by omega), fun x h1 h2 => (o1 x (Nat.lt_of_lt_of_le h1 hS.1)).trans (hS.2.1 x h1 h2), hS.2.2⟩
  show H1[H.size]? = some (vp_cell _ _)
  rw [vp_cell_q, ← hcA]
  exact e1
theorem mn_aast (C0 : Cx p s m args c cc nL own D cy) (M : mp_ D (fun q => b0 ≤ q) lv ad ct H) (hS : va_S (fun q => b0 ≤ q) s.heap H locs) {k kv a v n : Nat} {f : Nat → Option Nat} {vs : List Value} (hk : lv k) (ha : ad k = a) (he : ct k = .inl (cy.2.2.2, n, .inr (.inr (.inr (.inr f))))) (hkv : lv kv) (hv : ad kv = v) (hev : ct kv = .inr (1, vs)) {i : Int32} (hin : vp_in i n) (hdg : decode cc pc = .ok (.aastore, 1))
    (kk : ∀ (H1 : Heap) (locs1 : List Loc), mp_ D (fun q => b0 ≤ q) lv ad (va_up ct k (.inl (cy.2.2.2, n, .inr (.inr (.inr (.inr (va_up f i.toNatClampNeg (some v)))))))) H1 → va_S (fun q => b0 ≤ q) s.heap H1 locs1 → W p l e R s m args below meth c H1 locs1 cells slots Q (F0 m (pc + 1) ls rest)) : W p l e R s m args below meth c H locs cells slots Q (F0 m pc ls (.ref v :: .int i :: .ref a :: rest)) := by
  obtain ⟨hx, hb, hml, hown, hts, hK⟩ := C0
  have hlt : i.toNatClampNeg < n := Nat.not_le.mp fun q => hin (Or.inr q)
  have h0 : ¬ i < 0 := fun q => hin (Or.inl q)
  obtain ⟨r', hr', cellV, g1, g2, g3, -⟩ := mp_at M hkv hv hev
  have hcls := (hK.1 1 (RX1, TX1, 4) rfl).2
  obtain ⟨kA, comp, k1, k2, k3, -⟩ := (hK.2 3 _ rfl).2
  have hcomp : comp = D.1 1 := Option.some.inj (k3.symm.trans hcls.1)
  subst hcomp
  obtain ⟨kC, hkC, -⟩ := hcls.2
  have hcell : H[a]? = some (vp_cell cy.2.2.2 (n, .inr (.inr (.inr (.inr f))))) := mp_at M hk ha he
  refine W.aast hx hb hcell (fun q h => by cases h) (fun h => by cases h) k1 k2 rfl hkC ⟨h0, by show _ < (arrV _ _ _).slots.size; rw [arrV_size]; exact hlt⟩ g1 (fun q h => by rw [g3] at h; cases h) (by rw [g2]; exact hkC) (by rw [g2]; exact va_assign hcls) rfl rfl hdg fun H1 e z oq => ?_
  refine kk H1 _ (mp_set M hk ha ?_ oq) (hS.put z oq (by rw [← ha]; exact M.2.2 k hk))
  show H1[a]? = some (vp_cell _ _)
  rw [e]
  rw [vp_cell_q, vp_cell_q, arrV_store]
  congr 2
  funext q
  by_cases hq : q = i.toNatClampNeg
  · subst hq
    simp [updV, va_up, va_rf]
  · simp [updV, va_up, hq]
/-- the call of a constructor -/
theorem kr_N {mc ms : Nat} {a : Array Value} {st0 : List Value} {Z : (Nat → Nat) → (Nat → va_E) → Prop} (hr : va_Run p l e R s m args below meth c H locs cells slots mc ms (F0 m pc ls st0) rest (QN D b0 cy lv lv2 ad Z a) (fun q => b0 ≤ q)) (hS : va_S (fun q => b0 ≤ q) s.heap H locs) {c1 s1 : Nat} (hc1 : cells + mc = c1) (hs1 : slots + ms = s1)
    (kk : ∀ (ad1 : Nat → Nat) (ct1 : Nat → va_E) (H1 : Heap) (locs1 : List Loc), (∀ j, lv j → ad1 j = ad j) → Z ad1 ct1 → mp_ D (fun q => b0 ≤ q) lv2 ad1 ct1 H1 → va_S (fun q => b0 ≤ q) s.heap H1 locs1 → W p l e R s m args below meth c H1 locs1 c1 s1 Q (F0 m (pc + 3) ls rest)) : W p l e R s m args below meth c H locs cells slots Q (F0 m pc ls st0) := by
  subst hc1; subst hs1
  intro T hT X
  obtain ⟨v, st₀, t, T', L, h0, X', hL, e1, e2, ⟨hv, ⟨ad1, ct1, w1, w2, w3⟩, -, hz, hk⟩, st⟩ := hr T hT X
  cases hv
  rw [h0] at hz hk
  obtain ⟨t2, a1, b1⟩ := kk ad1 ct1 T'.heap (locs ++ L) w1 w2 (by rw [e1]; exact w3) ⟨Nat.le_trans hS.1 (by rw [e1]; exact hz), fun q h1 h2 => by rw [e1, hk q (Nat.lt_of_lt_of_le h1 hS.1) h2]; exact hS.2.1 q h1 h2, fun q hq => by
      rcases List.mem_append.mp hq with h | h
      · exact hS.2.2 q h
      · exact hL q h⟩ T' rfl X'
  exact ⟨t2, st t2 a1, b1⟩
theorem pn_blind {av : List Value} {E : State → Prop} (hE : ∀ (U : State) (g : JFrame) (mk : MethodId) (a : Array Value), E U → E (U.calling g mk a)) : FrameBlind (va_Pc av (PN D b0 cy lv ad ct E)) := fun a U g mk q => by
  obtain ⟨q0, q1, q2, q3⟩ := q
  exact ⟨q0, q1, va_K.moved (u := U) (U := U.calling g mk a) (Vm.Alike.refl U.vm) q2, hE U g mk a q3⟩
theorem kI {index : Nat} {y : MethodName} {cc2 : ByteArray} {maxL : Nat} {rm : Room} {a0 : Nat} {E : State → Prop} {Z : (Nat → Nat) → (Nat → va_E) → Prop} (C0 : Cx p s m args c cc nL own D cy) (M : mp_ D (fun q => b0 ≤ q) lv ad ct H) (hS : va_S (fun q => b0 ≤ q) s.heap H locs) (hb0 : b0 ≤ s.heap.size) (hM : CN l y cc2 maxL rm a0 E D b0 cy lv lv2 ad ct Z) (hl : Cond.methodLink own index y ∈ wsL_law) (Y : Yi y cc2 maxL 0) (hE : ∀ (U : State) (g : JFrame) (mk : MethodId) (a : Array Value), E U → E (U.calling g mk a)) (hE2 : ∀ U : State, s.WarmedH U.vm → E U)
    (hR : rm.frames + 1 ≤ R.frames ∧ 8 + (maxL + 11) + rm.locals ≤ R.locals) (hsz : ls.size = nL) (hW : (rest.map fun v => v.category).sum ≤ 8) (hdg : decode cc pc = .ok (.invokespecial index, 3)) {c1 s1 : Nat} (hc1 : cells + rm.cells = c1) (hs1 : slots + rm.slots = s1) (hf : c1 ≤ R.cells ∧ s1 ≤ R.slots)
    (kk : ∀ (ad1 : Nat → Nat) (ct1 : Nat → va_E) (H1 : Heap) (locs1 : List Loc), (∀ j, lv j → ad1 j = ad j) → Z ad1 ct1 → mp_ D (fun q => b0 ≤ q) lv2 ad1 ct1 H1 → va_S (fun q => b0 ≤ q) s.heap H1 locs1 → W p l e R s m args below meth c H1 locs1 c1 s1 Q (F0 m (pc + 3) ls rest)) : W p l e R s m args below meth c H locs cells slots Q (F0 m pc ls (.ref a0 :: rest)) :=
  kr_N (va_runI (bytes := cc2) (maxL := maxL) (n := 0) (As := []) (rest := rest) ⟨C0.1, C0.2.1, C0.2.2.1, C0.2.2.2.1, C0.2.2.2.2.1⟩ hM ⟨kB C0.2.2.2.2.1 Y.1 hl hR, Y.2.1, C0.2.2.2.2.1 _ Y.2.2⟩ ⟨pn_blind hE, fun U hU hW => ⟨rfl, ⟨by rw [hU]; exact Nat.le_trans hb0 hS.1, by rw [hU]; exact M⟩, va_K.moved hW.alike C0.2.2.2.2.2, hE2 U hW⟩⟩ rfl rfl hsz rfl (lv_room hW) hdg (by rw [hc1, hs1]; exact hf)) hS hc1 hs1 kk
theorem kIN {index : Nat} {y : MethodName} {cc2 : ByteArray} {maxL : Nat} {rm : Room} {a0 : Nat} {E : State → Prop} {Z : (Nat → Nat) → (Nat → va_E) → Prop} {host : String} (C0 : Cx p s m args c cc nL own D cy) (M : mp_ D (fun q => b0 ≤ q) lv ad ct H) (hS : va_S (fun q => b0 ≤ q) s.heap H locs) (hb0 : b0 ≤ s.heap.size) (hM : CN l y cc2 maxL rm a0 E D b0 cy lv lv2 ad ct Z) (hl : va_Nw (.methodLinkNest own index y host) s) (Y : Yi y cc2 maxL 0) (hE : ∀ (U : State) (g : JFrame) (mk : MethodId) (a : Array Value), E U → E (U.calling g mk a)) (hE2 : ∀ U : State, s.WarmedH U.vm → E U)
    (hR : rm.frames + 1 ≤ R.frames ∧ 8 + (maxL + 11) + rm.locals ≤ R.locals) (hsz : ls.size = nL) (hW : (rest.map fun v => v.category).sum ≤ 8) (hdg : decode cc pc = .ok (.invokespecial index, 3)) {c1 s1 : Nat} (hc1 : cells + rm.cells = c1) (hs1 : slots + rm.slots = s1) (hf : c1 ≤ R.cells ∧ s1 ≤ R.slots)
    (kk : ∀ (ad1 : Nat → Nat) (ct1 : Nat → va_E) (H1 : Heap) (locs1 : List Loc), (∀ j, lv j → ad1 j = ad j) → Z ad1 ct1 → mp_ D (fun q => b0 ≤ q) lv2 ad1 ct1 H1 → va_S (fun q => b0 ≤ q) s.heap H1 locs1 → W p l e R s m args below meth c H1 locs1 c1 s1 Q (F0 m (pc + 3) ls rest)) : W p l e R s m args below meth c H locs cells slots Q (F0 m pc ls (.ref a0 :: rest)) :=
  kr_N (va_runIN (bytes := cc2) (maxL := maxL) (n := 0) (As := []) (rest := rest) ⟨C0.1, C0.2.1, C0.2.2.1, C0.2.2.2.1, C0.2.2.2.2.1⟩ hM ⟨va_cnB 0 C0.2.2.2.2.1 (gd_law y cc2 maxL none Y.1.1) rfl rfl rfl hl (C0.2.2.2.2.1 _ Y.1.2.1) Y.1.2.2 hR, Y.2.1, C0.2.2.2.2.1 _ Y.2.2⟩ ⟨pn_blind hE, fun U hU hW => ⟨rfl, ⟨by rw [hU]; exact Nat.le_trans hb0 hS.1, by rw [hU]; exact M⟩, va_K.moved hW.alike C0.2.2.2.2.2, hE2 U hW⟩⟩ rfl rfl hsz rfl (lv_room hW) hdg (by rw [hc1, hs1]; exact hf)) hS hc1 hs1 kk
theorem rN_v {mc ms : Nat} {lv1 : Nat → Prop} {ad1 : Nat → Nat} {ct1 : Nat → va_E} {Z : (Nat → Nat) → (Nat → va_E) → Prop} (C0 : Cx p s m args c cc nL own D cy) (M : mp_ D (fun q => b0 ≤ q) lv1 ad1 ct1 H) (hS : va_S (fun q => b0 ≤ q) s.heap H locs) (hlv : ∀ j, lv2 j → lv1 j) (h1 : ∀ j, lv j → ad1 j = ad j) (hZ : Z ad1 ct1) (hr : meth.sig.returnType = none) (hk : meth.locks = false) (hm1 : cells ≤ mc) (hm2 : slots ≤ ms) (hdg : decode cc pc = .ok (.return_, 1)) : W p l e R s m args below meth c H locs cells slots (MQ below (QN D b0 cy lv lv2 ad Z) args s mc ms (fun q => b0 ≤ q)) (F0 m pc ls []) :=
  W.widen hm1 hm2 (W.vret C0.1 C0.2.1 hr (fun t ht hW => ⟨rfl, ⟨ad1, ct1, h1, hZ, by rw [ht]; exact mp_lv M hlv⟩, va_K.moved hW.alike C0.2.2.2.2.2, hS.F ht⟩) hS.2.2 hdg hk)
end CTOR
