/-! The heap as a map: keys k, their addresses ad k, what lies there ct k. Rows of the machine over it. -/
def mp_ (D : va_G) (A : Nat → Prop) (lv : Nat → Prop) (ad : Nat → Nat) (ct : Nat → va_E) (H : Heap) : Prop :=
  (∀ k, lv k → va_at D vwCl (ad k, ct k) H) ∧ (∀ i j, lv i → lv j → ad i = ad j → i = j) ∧ ∀ k, lv k → A (ad k)
theorem mp_set {D : va_G} {A lv : Nat → Prop} {ad : Nat → Nat} {ct : Nat → va_E} {H H1 : Heap} (M : mp_ D A lv ad ct H) {k : Nat} (hk : lv k) {a : Nat} (ha : ad k = a) {e : va_E} (hat : va_at D vwCl (a, e) H1) (oq : ∀ q : Nat, q ≠ a → H1[q]? = H[q]?) : mp_ D A lv ad (va_up ct k e) H1 := by
  subst ha
  refine ⟨fun j hj => ?_, M.2.1, M.2.2⟩
  by_cases h : j = k
  · subst h
    rw [va_up_self]
    exact hat
  · rw [va_up_ne _ _ h]
    exact (M.1 j hj).kept (oq (ad j) (fun z => h (M.2.1 j k hj hk z)))
theorem mp_congr {D : va_G} {A lv : Nat → Prop} {ad : Nat → Nat} {ct ct' : Nat → va_E} {H : Heap} (M : mp_ D A lv ad ct H) (h : ∀ k, lv k → ct k = ct' k) : mp_ D A lv ad ct' H :=
  ⟨fun k hk => by rw [← h k hk]; exact M.1 k hk, M.2.1, M.2.2⟩
theorem mp_one {D : va_G} {a : Nat} {e : va_E} {H : Heap} (h : va_at D vwCl (a, e) H) : va_P D vwCl [(a, e)] H := by
  intro k q hq
  cases k with
  | zero => cases hq; exact h
  | succ k => simp at hq
theorem mp_at {D : va_G} {A lv : Nat → Prop} {ad : Nat → Nat} {ct : Nat → va_E} {H : Heap} (M : mp_ D A lv ad ct H) {k : Nat} (hk : lv k) {a : Nat} (ha : ad k = a) {e : va_E} (he : ct k = e) : va_at D vwCl (a, e) H := by
  subst ha; subst he
  exact M.1 k hk
section MPR
variable {p : Program} {l : Launch} {e : Env} {R : Room} {s : State} {m : MethodId} {args : Array Value} {below : List Frame} {meth : Method} {c : Code} {H : Heap} {locs : List Loc} {cells slots : Nat} {Q : State → Prop}
variable {cc : ByteArray} {pc : Nat} {ls : Array Slot} {rest : List Value} {D : va_G} {A lv : Nat → Prop} {ad : Nat → Nat} {ct : Nat → va_E} {tys : List (ClassId × FieldType)} {H0 : Heap} {a k : Nat}
theorem mg_get (hexec : p.tables.exec = Jvm.exec) (hb : c.code = cc) {own ref C : String} {T : u_T} {N ci index : Nat} (hts : ∀ w ∈ wsL_law, w.before args s = true) (hown : s.vm.findClass own = some m.cls) (hK : va_K D vwCl tys s) (M : mp_ D A lv ad ct H) (hk : lv k) (ha : ad k = a) {fs : List Value} (he : ct k = .inr (ci, fs)) (hc : vwCl[ci]? = some (C, T, N)) (hin : ∀ w ∈ u_ws C T N, w ∈ wsL_law) (f : Nat) (hf : f < N) (hlink : Cond.fieldLink own index ref (T f).2.1 (T f).2.2.1 ∈ wsL_law) (hsame : (T f).1 = ref) {v : Value} (hv : fs[f]? = some v) (hdg : decode cc pc = .ok (.getfield index, 3))
    (kk : W p l e R s m args below meth c H locs cells slots Q (F0 m (pc + 3) ls (v :: rest))) : W p l e R s m args below meth c H locs cells slots Q (F0 m pc ls (.ref a :: rest)) :=
  va_get (ws := [(a, .inr (ci, fs))]) hexec hb hts hin hown hK (mp_one (mp_at M hk ha he)) 0 rfl hc f hf (hts _ hlink) (fun _ h => by rw [← hsame]; exact h) hv hdg kk
theorem mg_put (hexec : p.tables.exec = Jvm.exec) (hb : c.code = cc) {own ref C : String} {T : u_T} {N ci index : Nat} (hts : ∀ w ∈ wsL_law, w.before args s = true) (hown : s.vm.findClass own = some m.cls) (hK : va_K D vwCl tys s) (M : mp_ D A lv ad ct H) (hS0 : va_S A H0 H locs) (hk : lv k) (ha : ad k = a) {fs : List Value} (he : ct k = .inr (ci, fs)) (hc : vwCl[ci]? = some (C, T, N)) (hin : ∀ w ∈ u_ws C T N, w ∈ wsL_law) (ty0 : Nat → FieldType) (hty : ∀ k, k < N → parseFieldDescriptor (T k).2.2.1 = some (ty0 k)) (hnm : ∀ a, a < N → ∀ b, b < N → a ≠ b → (T a).2.1 ≠ (T b).2.1)
    (j : Nat) (hj : j < N) (hlink : Cond.fieldLink own index ref (T j).2.1 (T j).2.2.1 ∈ wsL_law) (hsame : (T j).1 = ref) (hfin : (T j).2.2.2 = false) {ty : FieldType} {v : Value} (hd : parseFieldDescriptor (T j).2.2.1 = some ty) (hn : narrow ty v = v) (hfit : fits ty v = true) (hl : j < fs.length) (hdg : decode cc pc = .ok (.putfield index, 3))
    (kk : ∀ (H1 : Heap) (locs1 : List Loc), mp_ D A lv ad (va_up ct k (.inr (ci, fs.set j v))) H1 → va_S A H0 H1 locs1 → W p l e R s m args below meth c H1 locs1 cells slots Q (F0 m (pc + 3) ls rest)) : W p l e R s m args below meth c H locs cells slots Q (F0 m pc ls (v :: .ref a :: rest)) := by
  have hap := va_apart (own := own) hts hin ty0 hty hnm hK hc
  obtain ⟨r, h1, cell, q1, q2, q3, q4⟩ := mp_at M hk ha he
  have hr : r = (C, T, N) := Option.some.inj (h1.symm.trans hc)
  subst hr
  obtain ⟨hS, hfc, kC, hkC, hkind⟩ := hK.1 ci _ hc
  obtain ⟨cf, kf, fi, f, hi, hsl⟩ := hS j hj
  have hlay := hts _ (hin _ (u_in_lay hj))
  unfold u_lay at hlay
  rw [if_neg (by rw [hfin]; decide)] at hlay
  have hst := (u_facts hfc hkC (u_lays hts hin hj) hi).1
  have h6 := u_store hfc hkC hkind hlay hi hd hn hfit
  refine W.putK hexec hb (f := f) ⟨hown, hts _ hlink, ⟨_, _, _, by rw [← hsame]; exact hi⟩, hst⟩ (by rw [q2]; exact h6) q1 q3 (by rw [hsl]; exact k2_hasslot (q4 j hj)) rfl rfl hdg fun H' e1 e2 e3 => ?_
  rw [hsl] at e1 ⊢
  exact kk H' _ (mp_set M hk ha ⟨_, hc, t_OB.to (V := updV (vp_V fs) j v) ⟨_, e1, q2, q3, t_set q4 hap hj v⟩ (fun j _ => vp_updV_set hl v j)⟩ e3) (hS0.put e2 e3 (by rw [← ha]; exact M.2.2 k hk))
theorem mg_iald (hexec : p.tables.exec = Jvm.exec) (hb : c.code = cc) (hK : va_K D vwCl tys s) (M : mp_ D A lv ad ct H) (hk : lv k) (ha : ad k = a) (t0 : Nat) {cA : ClassId} {n : Nat} {f : Nat → Int32} (he : ct k = .inl (cA, n, .inl f)) (ht : tys[t0]? = some (cA, .int)) {i : Int32} (hin : vp_in i n) (hdg : decode cc pc = .ok (.iaload, 1))
    (kk : W p l e R s m args below meth c H locs cells slots Q (F0 m (pc + 1) ls (.int (f i.toNatClampNeg) :: rest))) : W p l e R s m args below meth c H locs cells slots Q (F0 m pc ls (.int i :: .ref a :: rest)) :=
  va_iald (ws := [(a, .inl (cA, n, .inl f))]) hexec hb hK (mp_one (mp_at M hk ha he)) 0 t0 rfl ht hin hdg kk
theorem mg_zald (hexec : p.tables.exec = Jvm.exec) (hb : c.code = cc) (hK : va_K D vwCl tys s) (M : mp_ D A lv ad ct H) (hk : lv k) (ha : ad k = a) (t0 : Nat) {cA : ClassId} {n : Nat} {f : Nat → Int32} (he : ct k = .inl (cA, n, .inl f)) (ht : tys[t0]? = some (cA, .boolean)) {i : Int32} (hin : vp_in i n) (hdg : decode cc pc = .ok (.baload, 1))
    (kk : W p l e R s m args below meth c H locs cells slots Q (F0 m (pc + 1) ls (.int (f i.toNatClampNeg) :: rest))) : W p l e R s m args below meth c H locs cells slots Q (F0 m pc ls (.int i :: .ref a :: rest)) :=
  va_zald (ws := [(a, .inl (cA, n, .inl f))]) hexec hb hK (mp_one (mp_at M hk ha he)) 0 t0 rfl ht hin hdg kk
theorem mg_lald (hexec : p.tables.exec = Jvm.exec) (hb : c.code = cc) (hK : va_K D vwCl tys s) (M : mp_ D A lv ad ct H) (hk : lv k) (ha : ad k = a) (t0 : Nat) {cA : ClassId} {n : Nat} {f : Nat → Int64} (he : ct k = .inl (cA, n, .inr (.inl f))) (ht : tys[t0]? = some (cA, .long)) {i : Int32} (hin : vp_in i n) (hdg : decode cc pc = .ok (.laload, 1))
    (kk : W p l e R s m args below meth c H locs cells slots Q (F0 m (pc + 1) ls (.long (f i.toNatClampNeg) :: rest))) : W p l e R s m args below meth c H locs cells slots Q (F0 m pc ls (.int i :: .ref a :: rest)) :=
  va_lald (ws := [(a, .inl (cA, n, .inr (.inl f)))]) hexec hb hK (mp_one (mp_at M hk ha he)) 0 t0 rfl ht hin hdg kk
theorem mg_aald (hexec : p.tables.exec = Jvm.exec) (hb : c.code = cc) (hK : va_K D vwCl tys s) (M : mp_ D A lv ad ct H) (hk : lv k) (ha : ad k = a) (t0 : Nat) {cA : ClassId} {C : String} {n : Nat} {f : Nat → Option Nat} (he : ct k = .inl (cA, n, .inr (.inr (.inr (.inr f))))) (ht : tys[t0]? = some (cA, .object C)) {i : Int32} (hin : vp_in i n) (hdg : decode cc pc = .ok (.aaload, 1))
    (kk : W p l e R s m args below meth c H locs cells slots Q (F0 m (pc + 1) ls (va_rf (f i.toNatClampNeg) :: rest))) : W p l e R s m args below meth c H locs cells slots Q (F0 m pc ls (.int i :: .ref a :: rest)) :=
  va_aldq (ws := [(a, .inl (cA, n, .inr (.inr (.inr (.inr f)))))]) hexec hb hK (mp_one (mp_at M hk ha he)) 0 t0 rfl ht hin hdg kk
theorem mg_alen (hexec : p.tables.exec = Jvm.exec) (hb : c.code = cc) (hK : va_K D vwCl tys s) (M : mp_ D A lv ad ct H) (hk : lv k) (ha : ad k = a) (t0 : Nat) {cA : ClassId} {x : vp_A} (he : ct k = .inl (cA, x)) {ty : FieldType} (ht : tys[t0]? = some (cA, ty)) (hdg : decode cc pc = .ok (.arraylength, 1))
    (kk : W p l e R s m args below meth c H locs cells slots Q (F0 m (pc + 1) ls (.int (nI x.1) :: rest))) : W p l e R s m args below meth c H locs cells slots Q (F0 m pc ls (.ref a :: rest)) :=
  va_alen (ws := [(a, .inl (cA, x))]) hexec hb hK (mp_one (mp_at M hk ha he)) 0 t0 rfl ht rfl hdg kk
theorem mg_iast (hexec : p.tables.exec = Jvm.exec) (hb : c.code = cc) (hK : va_K D vwCl tys s) (M : mp_ D A lv ad ct H) (hS : va_S A H0 H locs) (hk : lv k) (ha : ad k = a) (t0 : Nat) {cA : ClassId} {n : Nat} {f : Nat → Int32} (he : ct k = .inl (cA, n, .inl f)) (ht : tys[t0]? = some (cA, .int)) {i x : Int32} (hin : vp_in i n) (hdg : decode cc pc = .ok (.iastore, 1))
    (kk : ∀ (H1 : Heap) (locs1 : List Loc), mp_ D A lv ad (va_up ct k (.inl (cA, n, .inl (upd f i.toNatClampNeg x)))) H1 → va_S A H0 H1 locs1 → W p l e R s m args below meth c H1 locs1 cells slots Q (F0 m (pc + 1) ls rest)) : W p l e R s m args below meth c H locs cells slots Q (F0 m pc ls (.int x :: .int i :: .ref a :: rest)) := by
  refine W.iast hexec hb (mp_at M hk ha he) ((hK.2 t0 _ ht).1 n (fun j => .int (f j))) (fun q => by cases q) (by show ¬ (i < 0 ∨ (arrV _ _ _).slots.size ≤ _); rw [arrV_size]; exact hin) rfl rfl hdg fun H1 e z oq => ?_
  refine kk H1 _ (mp_set M hk ha ?_ oq) (hS.put z oq (by rw [← ha]; exact M.2.2 k hk))
  show H1[a]? = some (vp_cell _ _)
  rw [e]
  show some ((vp_cell cA (n, .inl f)).setSlot _ _) = _
  rw [vp_cell_i, vp_cell_i, arrV_store]
  congr 2
  funext q
  by_cases hq : q = i.toNatClampNeg
  · subst hq
    simp [updV, upd]
  · simp [updV, upd, hq]
theorem mg_zast (hexec : p.tables.exec = Jvm.exec) (hb : c.code = cc) (hK : va_K D vwCl tys s) (M : mp_ D A lv ad ct H) (hS : va_S A H0 H locs) (hk : lv k) (ha : ad k = a) (t0 : Nat) {cA : ClassId} {n : Nat} {f : Nat → Int32} (he : ct k = .inl (cA, n, .inl f)) (ht : tys[t0]? = some (cA, .boolean)) {i x : Int32} (hin : vp_in i n) (hdg : decode cc pc = .ok (.bastore, 1))
    (kk : ∀ (H1 : Heap) (locs1 : List Loc), mp_ D A lv ad (va_up ct k (.inl (cA, n, .inl (upd f i.toNatClampNeg (vp_nar .boolean x))))) H1 → va_S A H0 H1 locs1 → W p l e R s m args below meth c H1 locs1 cells slots Q (F0 m (pc + 1) ls rest)) : W p l e R s m args below meth c H locs cells slots Q (F0 m pc ls (.int x :: .int i :: .ref a :: rest)) := by
  refine W.zast hexec hb (mp_at M hk ha he) ((hK.2 t0 _ ht).1 n (fun j => .int (f j))) (fun q => by cases q) (by show ¬ (i < 0 ∨ (arrV _ _ _).slots.size ≤ _); rw [arrV_size]; exact hin) rfl rfl hdg fun H1 e z oq => ?_
  refine kk H1 _ (mp_set M hk ha ?_ oq) (hS.put z oq (by rw [← ha]; exact M.2.2 k hk))
  show H1[a]? = some (vp_cell _ _)
  rw [e]
  show some ((vp_cell cA (n, .inl f)).setSlot _ _) = _
  rw [vp_cell_i, vp_cell_i, arrV_store]
  congr 2
  funext q
  by_cases hq : q = i.toNatClampNeg
  · subst hq
    simp [updV, upd, vp_nar, narrow]
  · simp [updV, upd, hq]
theorem mg_last (hexec : p.tables.exec = Jvm.exec) (hb : c.code = cc) (hK : va_K D vwCl tys s) (M : mp_ D A lv ad ct H) (hS : va_S A H0 H locs) (hk : lv k) (ha : ad k = a) (t0 : Nat) {cA : ClassId} {n : Nat} {f : Nat → Int64} (he : ct k = .inl (cA, n, .inr (.inl f))) (ht : tys[t0]? = some (cA, .long)) {i : Int32} {x : Int64} (hin : vp_in i n) (hdg : decode cc pc = .ok (.lastore, 1))
    (kk : ∀ (H1 : Heap) (locs1 : List Loc), mp_ D A lv ad (va_up ct k (.inl (cA, n, .inr (.inl (vp_updL f i.toNatClampNeg x))))) H1 → va_S A H0 H1 locs1 → W p l e R s m args below meth c H1 locs1 cells slots Q (F0 m (pc + 1) ls rest)) : W p l e R s m args below meth c H locs cells slots Q (F0 m pc ls (.long x :: .int i :: .ref a :: rest)) := by
  refine W.last hexec hb (mp_at M hk ha he) ((hK.2 t0 _ ht).1 n (fun j => .long (f j))) (fun q => by cases q) (by show ¬ (i < 0 ∨ (arrV _ _ _).slots.size ≤ _); rw [arrV_size]; exact hin) rfl rfl hdg fun H1 e z oq => ?_
  refine kk H1 _ (mp_set M hk ha ?_ oq) (hS.put z oq (by rw [← ha]; exact M.2.2 k hk))
  show H1[a]? = some (vp_cell _ _)
  rw [e]
  show some ((vp_cell cA (n, .inr (.inl f))).setSlot _ _) = _
  rw [vp_cell_l, vp_cell_l, arrV_store]
  congr 2
  funext q
  by_cases hq : q = i.toNatClampNeg
  · subst hq
    simp [updV, vp_updL]
  · simp [updV, vp_updL, hq]
end MPR
