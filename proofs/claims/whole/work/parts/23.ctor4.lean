/-! The constructor of MadeArray, and what X4_init rests on. -/
def EX1 (U : State) : Prop := va_Nw (.methodLinkNest RX1 11 yX2_init RX4) U
def EX4 (U : State) : Prop := va_Nw (.methodLinkNest RX4 11 yX2_init RX4) U ∧ va_Nw (.methodLinkNest RX4 18 yX0_init RX4) U ∧ va_Nw (.methodLinkNest RX4 25 yX3_init RX4) U ∧ va_Nw (.methodLinkNest RX4 50 yX1_init RX4) U ∧ EX1 U ∧ va_AO RX1 U
theorem EX1_call (U : State) (g : JFrame) (mk : MethodId) (a : Array Value) (h : EX1 U) : EX1 (U.calling g mk a) := va_Nw.same (u := U) rfl rfl h
theorem EX1_warm {s U : State} (hW : s.WarmedH U.vm) (h : EX1 s) : EX1 U := va_Nw.warmM hW h
theorem EX4_call (U : State) (g : JFrame) (mk : MethodId) (a : Array Value) (h : EX4 U) : EX4 (U.calling g mk a) := ⟨va_Nw.same (u := U) rfl rfl h.1, va_Nw.same (u := U) rfl rfl h.2.1, va_Nw.same (u := U) rfl rfl h.2.2.1, va_Nw.same (u := U) rfl rfl h.2.2.2.1, EX1_call U g mk a h.2.2.2.2.1, va_AO.moved (Vm.Alike.refl U.vm) h.2.2.2.2.2⟩
theorem EX4_warm {s U : State} (hW : s.WarmedH U.vm) (h : EX4 s) : EX4 U := ⟨va_Nw.warmM hW h.1, va_Nw.warmM hW h.2.1, va_Nw.warmM hW h.2.2.1, va_Nw.warmM hW h.2.2.2.1, EX1_warm hW h.2.2.2.2.1, va_AO.moved hW.alike h.2.2.2.2.2⟩
def g0 : Gs := (fun c _ _ => if c = 2 ∨ c = 17 ∨ c = 21 then -1 else 0, fun _ _ => 0, fun k => if k = 9 ∨ k = 10 then 64 else if k = 11 ∨ k = 12 then 32 else 0)
set_option maxHeartbeats 4000000 in
set_option maxRecDepth 100000 in
theorem k_X1_init {l : Launch} {D : va_G} {b0 : Nat} {cy : Cy} {lv : Nat → Prop} {ad : Nat → Nat} {ct : Nat → va_E} {a0 n : Nat} (hk : lv (400 + n)) (hn1 : ¬ lv (100 + (n + 1))) (hn2 : ¬ lv (200 + (n + 1))) (hn3 : ¬ lv (300 + (n + 1))) (hn4 : ¬ lv (500 + n)) (ho : n < 100) (ha : ad (400 + n) = a0) (hct : ct (400 + n) = .inr (1, [.null, .int 0, .int 0, .null])) :
    CN l yX1_init cX1_init 1 { frames := 2, cells := 4, slots := 9, locals := 32 } a0 EX1 D b0 cy lv (fun j => lv j ∨ j = 100 + (n + 1) ∨ j = 200 + (n + 1) ∨ j = 300 + (n + 1) ∨ j = 500 + n) ad ct
      (fun ad1 ct1 => (∀ j, lv j → j ≠ 400 + n → ct1 j = ct j) ∧ ct1 (400 + n) = .inr (1, [.ref (ad1 (100 + (n + 1))), .int 0, .int (-1), .ref (ad1 (500 + n))]) ∧ ct1 (100 + (n + 1)) = .inr (2, [.ref (ad1 (200 + (n + 1))), .ref (ad1 (300 + (n + 1))), .int 0]) ∧ ct1 (200 + (n + 1)) = .inl (cy.1, 3, .inl (fun _ => 0)) ∧ ct1 (300 + (n + 1)) = .inl (cy.1, 3, .inl (fun _ => 0)) ∧ ct1 (500 + n) = .inl (cy.1, 0, .inl (fun _ => 0))) := by
  refine Met.ofW (cc := cX1_init) (maxL := 1) (ret := none) (by decide) rfl ?_
  intro p e s m args below meth c s₁ B hml hv
  obtain ⟨rfl, ⟨hb0, M⟩, hK, hE⟩ := hv
  have C0 : Cx p s m [Value.ref a0].toArray c cX1_init 1 RX1 D cy := ⟨B.exec, B.bytes, hml, findClass_of_methodNamed B.named, fun w hw => atoms_spec (ws := Cond.code yX1_init cX1_init 1 none :: wsL_law) B.pre w (List.mem_cons_of_mem _ hw), hK⟩
  have hr := B.returns
  have hlk := B.notSynchronized
  have hin : meth.name = "<init>" := (name_of_methodNamed B.named B.method).1
  have hS : va_S (fun q => b0 ≤ q) s.heap s.heap [] := va_S.rf
  have hl := lv_entry ([.ref a0]) (n := 1) (Nat.le_of_ble_eq_true rfl)
  rw [lg_entry_eq]
  generalize (lg_sl ([.ref a0]) ++ List.replicate (1 - (lg_sl ([.ref a0])).length) Slot.unset).toArray = ls at hl ⊢
  have hl : lv_has ls 1 [(0, .ref a0)] := hl
  obtain ⟨hx, hb, hml, hown, hts, hK⟩ := id C0
  refine lv_aload_n hx hb dX1_init_0 rfl (lv_at hl 0 rfl) ?_
  refine W.objInit hx hb hown (hts _ kw_3_9) (hts _ kw_1_11) (hts _ kw_1_12) rfl (by rw [hml]; exact hl.1) rfl dX1_init_1 (Nat.le_of_ble_eq_true rfl) (Nat.le_of_ble_eq_true rfl) ?_
  refine W.eq (g2 := F0 m 4 ls []) rfl ?_
  refine lv_aload_n hx hb dX1_init_4 rfl (lv_at hl 0 rfl) ?_
  refine mn_new C0 M hS hb0 (kn := 100 + (n + 1)) hn1 (ci := 2) rfl inlX2 tyX2 tyX2_ok kw_3_10 kw_1_14 kw_1_15 (fs := [.null, .null, .int 0]) (fun j hj => by rcases (show j = 0 ∨ j = 1 ∨ j = 2 by omega) with rfl | rfl | rfl <;> rfl) (Nat.le_of_ble_eq_true rfl) (Nat.le_of_ble_eq_true rfl) (c1 := 1) (s1 := 3) rfl rfl dX1_init_5 (fun q H M hS => ?_)
  refine lv_dup hx hb dX1_init_8 rfl ?_
  refine kIN C0 M hS hb0 (k_X2_init (o := n + 1) (a0 := q) (Or.inr rfl) (not_lvA hn2 (by omega)) (not_lvA hn3 (by omega)) (va_up_self _ _ _) (va_up_self _ _ _)) (host := RX4) hE Y_X2_init (fun _ _ _ _ h => h) (fun _ _ => trivial) ⟨Nat.le_of_ble_eq_true rfl, Nat.le_of_ble_eq_true rfl⟩ hl.1 (Nat.le_of_ble_eq_true rfl) dX1_init_9 (c1 := 3) (s1 := 9) rfl rfl ⟨Nat.le_of_ble_eq_true rfl, Nat.le_of_ble_eq_true rfl⟩ (fun ad1 ct1 H locs w1 hZ M hS => ?_)
  obtain ⟨z1, z2, z3, z4⟩ := hZ
  have hq : ad1 (100 + (n + 1)) = q := (w1 _ (Or.inr rfl)).trans (va_up_self _ _ _)
  have ha1 : ad1 (400 + n) = a0 := (w1 _ (Or.inl hk)).trans ((va_up_ne _ _ (by omega)).trans ha)
  have hct1 : ct1 (400 + n) = .inr (1, [.null, .int 0, .int 0, .null]) := (z1 _ (Or.inl hk) (by omega)).trans ((va_up_ne _ _ (by omega)).trans hct)
  have hold : ∀ j, lv j → ct1 j = ct j := fun j hj => (z1 j (Or.inl hj) (fun h => hn1 (h ▸ hj))).trans (va_up_ne _ _ (fun h => hn1 (h ▸ hj)))
  have hado : ∀ j, lv j → ad1 j = ad j := fun j hj => (w1 j (Or.inl hj)).trans (va_up_ne _ _ (fun h => hn1 (h ▸ hj)))
  refine sp_F C0 hin M hS (k := 400 + n) (Or.inl (Or.inl hk)) ha1 hct1 rfl inlX1 tyX1 tyX1_ok nmX1 0 (by decide) kw_3_11 rfl rfl rfl (fty := .object "ArrayMaker$Shape") (by decide +kernel) rfl rfl (Nat.le_of_ble_eq_true rfl) dX1_init_12 (fun ct2 H locs B2 D2 M hS => ?_)
  have hct2 : ct2 (400 + n) = .inr (1, [.ref q, .int 0, .int 0, .null]) := D2
  refine lv_aload_n hx hb dX1_init_15 rfl (lv_at hl 0 rfl) ?_
  refine lv_iconst (v := -1) hx hb dX1_init_16 (by decide) ?_
  refine sp_I C0 M hS (k := 400 + n) (Or.inl (Or.inl hk)) ha1 hct2 rfl inlX1 tyX1 tyX1_ok nmX1 2 (by decide) kw_3_12 rfl rfl (by decide +kernel) (Nat.le_of_ble_eq_true rfl) dX1_init_17 (fun ct3 H locs B3 D3 M hS => ?_)
  have hct3 : ct3 (400 + n) = .inr (1, [.ref q, .int 0, .int (-1), .null]) := D3
  refine lv_aload_n hx hb dX1_init_20 rfl (lv_at hl 0 rfl) ?_
  refine lv_iconst (v := 0) hx hb dX1_init_21 (by decide) ?_
  refine sa_N C0 M hS hb0 (k := 400 + n) (kn := 500 + n) (Or.inl (Or.inl hk)) (by
    rintro ((h | h) | h | h)
    · exact hn4 h
    · omega
    · omega
    · omega) (by omega) ha1 hct3 rfl inlX1 tyX1 tyX1_ok nmX1 3 (by decide) kw_3_13 rfl rfl (fty := .array .int) (by decide +kernel) (fun _ => rfl) (fun _ => rfl) (Nat.le_of_ble_eq_true rfl) (ty := .int) rfl kw_2_3 (cA := cy.1) 0 rfl (fun h => h) (N2 := 0) (a1 := (0, .inl (fun _ => 0))) (fun _ => rfl) (by decide) (by decide) (by decide) (Nat.le_of_ble_eq_true rfl) (Nat.le_of_ble_eq_true rfl) (c1 := 4) (s1 := 9) rfl rfl dX1_init_22 dX1_init_24 (fun ad4 ct4 H locs A4 B4 C4 D4 M hS => ?_)
  refine rN_v C0 M hS (fun j hj => ?_) (fun j hj => (A4 j (fun h => hn4 (h ▸ hj))).trans (hado j hj)) ⟨fun j hj hjn => ?_, ?_, ?_, ?_, ?_, C4⟩ hr hlk (Nat.le_of_ble_eq_true rfl) (Nat.le_of_ble_eq_true rfl) dX1_init_27
  · rcases hj with hj | rfl | rfl | rfl | rfl
    · exact Or.inl (Or.inl (Or.inl hj))
    · exact Or.inl (Or.inl (Or.inr rfl))
    · exact Or.inl (Or.inr (Or.inl rfl))
    · exact Or.inl (Or.inr (Or.inr rfl))
    · exact Or.inr rfl
  · rw [B4 j (fun h => hn4 (h ▸ hj)) hjn, B3 j hjn, B2 j hjn, hold j hj]
  · rw [D4, A4 (100 + (n + 1)) (by omega), hq]
    rfl
  · rw [B4 _ (by omega) (by omega), B3 _ (by omega), B2 _ (by omega), z2, A4 (200 + (n + 1)) (by omega), A4 (300 + (n + 1)) (by omega)]
  · rw [B4 _ (by omega) (by omega), B3 _ (by omega), B2 _ (by omega), z3]
  · rw [B4 _ (by omega) (by omega), B3 _ (by omega), B2 _ (by omega), z4]
theorem Y_X1_init : Yi yX1_init cX1_init 1 0 := ⟨⟨kw_3_8, kw_2_9, by decide +kernel, by decide +kernel, by decide +kernel⟩, rfl, kw_3_7⟩
/-- the keys of the class with n arrays made -/
def lvC (n j : Nat) : Prop := j ≤ 12 ∨ (100 ≤ j ∧ j < 101 + n) ∨ (200 ≤ j ∧ j < 201 + n) ∨ (300 ≤ j ∧ j < 301 + n) ∨ (400 ≤ j ∧ j < 400 + n) ∨ (500 ≤ j ∧ j < 500 + n)
theorem cont_ad {cy : Cy} {ad ad1 : Nat → Nat} {g : Gs} {n j : Nat} (hn : n ≤ 24) (h : ∀ k, lvC n k → ad1 k = ad k) (hj : lvC n j) (h1 : j ≠ 1) : cont cy ad1 ad1 g j = cont cy ad ad g j := by
  have hle : ∀ k, k ≤ 12 → ad1 k = ad k := fun k hk => h k (Or.inl hk)
  rcases hj with hj | hj | hj | hj | hj | hj
  · have hj2 : j = 0 ∨ j = 2 ∨ j = 3 ∨ j = 4 ∨ j = 5 ∨ j = 6 ∨ j = 7 ∨ j = 8 ∨ j = 9 ∨ j = 10 ∨ j = 11 ∨ j = 12 := by omega
    have h100 : ad1 100 = ad 100 := h 100 (Or.inr (Or.inl (by omega)))
    rcases hj2 with rfl | rfl | rfl | rfl | rfl | rfl | rfl | rfl | rfl | rfl | rfl | rfl
    · show cnA cy ad1 ad1 g 0 = cnA cy ad ad g 0
      simp only [cnA, hle 1 (by omega), hle 2 (by omega), hle 3 (by omega), hle 8 (by omega), Nat.add_zero, h100]
    · rfl
    · show cnA cy ad1 ad1 g 3 = cnA cy ad ad g 3
      simp only [cnA, hle 4 (by omega), hle 5 (by omega), hle 6 (by omega), hle 7 (by omega)]
    · rfl
    · rfl
    · rfl
    · rfl
    · show cnA cy ad1 ad1 g 8 = cnA cy ad ad g 8
      simp only [cnA, hle 9 (by omega), hle 10 (by omega), hle 11 (by omega), hle 12 (by omega)]
    · rfl
    · rfl
    · rfl
    · rfl
  · obtain ⟨o, rfl⟩ : ∃ o, j = 100 + o := ⟨j - 100, by omega⟩
    rw [ct_sh cy _ _ g (by omega), ct_sh cy _ _ g (by omega), h (200 + o) (Or.inr (Or.inr (Or.inl (by omega)))), h (300 + o) (Or.inr (Or.inr (Or.inr (Or.inl (by omega)))))]
  · obtain ⟨o, rfl⟩ : ∃ o, j = 200 + o := ⟨j - 200, by omega⟩
    rw [ct_low cy _ _ g (by omega), ct_low cy _ _ g (by omega)]
  · obtain ⟨o, rfl⟩ : ∃ o, j = 300 + o := ⟨j - 300, by omega⟩
    rw [ct_hig cy _ _ g (by omega), ct_hig cy _ _ g (by omega)]
  · obtain ⟨o, rfl⟩ : ∃ o, j = 400 + o := ⟨j - 400, by omega⟩
    rw [ct_ma cy _ _ g (by omega), ct_ma cy _ _ g (by omega), h (100 + (o + 1)) (Or.inr (Or.inl (by omega))), h (500 + o) (Or.inr (Or.inr (Or.inr (Or.inr (Or.inr (by omega))))))]
  · obtain ⟨o, rfl⟩ : ∃ o, j = 500 + o := ⟨j - 500, by omega⟩
    rw [ct_rows cy _ _ g (by omega), ct_rows cy _ _ g (by omega)]
def arF (ad : Nat → Nat) (n : Nat) : Nat → Option Nat := fun j => if j < n then some (ad (400 + j)) else none
set_option maxHeartbeats 4000000 in
set_option maxRecDepth 100000 in
/-- the loop of ArrayMaker's constructor -/
theorem w_X4_init_L72 {p : Program} {l : Launch} {e : Env} {s : State} {m : MethodId} {args : Array Value} {below : List Frame} {meth : Method} {c : Code} {D : va_G} {b0 : Nat} {cy : Cy} {lv0 : Nat → Prop} {ad0 : Nat → Nat} {a0 : Nat} (C0 : Cx p s m args c cX4_init 2 RX4 D cy) (hE : EX4 s) (hb0 : b0 ≤ s.heap.size) (hr : meth.sig.returnType = none) (hlk : meth.locks = false) (hlv0 : ∀ j, lv0 j → j = 0) (had0 : ad0 0 = a0) :
    ∀ (r n : Nat) (i : Int32) (ad : Nat → Nat) (ct : Nat → va_E) (H : Heap) (locs : List Loc) (ls : Array Slot), n + r = 24 → i = nI n → lv_has ls 2 [(1, .int i), (0, .ref a0)] → mp_ D (fun q => b0 ≤ q) (lvC n) ad ct H → va_S (fun q => b0 ≤ q) s.heap H locs → (∀ j, lvC n j → j ≠ 1 → ct j = cont cy ad ad g0 j) → ct 1 = .inl (cy.2.2.2, 24, .inr (.inr (.inr (.inr (arF ad n))))) → ad 0 = a0 →
      W p l e ({ frames := 3, cells := 135, slots := 1168, locals := 52 } : Room) s m args below meth c H locs (15 + 5 * n) (856 + 13 * n) (MQ below (QN D b0 cy lv0 (lvC 24) ad0 (fun ad1 ct1 => (∀ j, lvC 24 j → j ≠ 1 → ct1 j = cont cy ad1 ad1 g0 j) ∧ ct1 1 = .inl (cy.2.2.2, 24, .inr (.inr (.inr (.inr (arF ad1 24))))))) args s 135 1168 (fun q => b0 ≤ q)) (F0 m 72 ls []) := by
  obtain ⟨hx, hb, hml, hown, hts, hK⟩ := id C0
  intro r
  induction r with
  | zero =>
    intro n i ad ct H locs ls hn hi hl M hS hF hF1 ha
    have h24 : n = 24 := by omega
    subst h24
    refine lv_iload_n hx hb dX4_init_72 rfl (lv_at hl 0 rfl) ?_
    refine lv_bipush (v := 24) hx hb dX4_init_73 (by decide) ?_
    refine lv_icmp_ge (tgt := 97) hx hb dX4_init_75 (by decide) (fun _ => ?_) (fun c1 => ?_)
    · exact rN_v C0 M hS (fun j hj => hj) (fun j hj => by rw [hlv0 j hj, ha, had0]) ⟨hF, hF1⟩ hr hlk (by omega) (by omega) dX4_init_97
    · exact absurd (by rw [hi]; decide) c1
  | succ r ih =>
    intro n i ad ct H locs ls hn hi hl M hS hF hF1 ha
    have hn24 : n < 24 := by omega
    refine lv_iload_n hx hb dX4_init_72 rfl (lv_at hl 0 rfl) ?_
    refine lv_bipush (v := 24) hx hb dX4_init_73 (by decide) ?_
    refine lv_icmp_ge (tgt := 97) hx hb dX4_init_75 (by decide) (fun c1 => ?_) (fun _ => ?_)
    · exact absurd c1 (by rw [hi]; exact nI_ge (b := 24) hn24 (by decide))
    refine lv_aload_n hx hb dX4_init_78 rfl (lv_at hl 1 rfl) ?_
    have hc0 := hF 0 (Or.inl (by omega)) (by omega)
    refine mg_get hx hb hts hown hK M (k := 0) (Or.inl (by omega)) ha (hc0.trans rfl) (ci := 4) rfl inlX4 3 (by decide) kw_2_2 rfl rfl dX4_init_79 ?_
    refine lv_iload_n hx hb dX4_init_82 rfl (lv_at hl 0 rfl) ?_
    refine mn_new C0 M hS hb0 (kn := 400 + n) (by unfold lvC; omega) (ci := 1) rfl inlX1 tyX1 tyX1_ok kw_2_1 kw_2_8 kw_2_9 (fs := [.null, .int 0, .int 0, .null]) (fun j hj => by rcases (show j = 0 ∨ j = 1 ∨ j = 2 ∨ j = 3 by omega) with rfl | rfl | rfl | rfl <;> rfl) (by show 15 + 5 * n + 1 ≤ 135; omega) (by show 856 + 13 * n + 4 ≤ 1168; omega) (c1 := 15 + 5 * n + 1) (s1 := 856 + 13 * n + 4) rfl rfl dX4_init_83 (fun q H M hS => ?_)
    refine lv_dup hx hb dX4_init_86 rfl ?_
    refine kIN C0 M hS hb0 (k_X1_init (n := n) (a0 := q) (Or.inr rfl) (not_lvA (by unfold lvC; omega) (by omega)) (not_lvA (by unfold lvC; omega) (by omega)) (not_lvA (by unfold lvC; omega) (by omega)) (not_lvA (by unfold lvC; omega) (by omega)) (by omega) (va_up_self _ _ _) (va_up_self _ _ _)) (host := RX4) hE.2.2.2.1 Y_X1_init EX1_call (fun U hW => EX1_warm hW hE.2.2.2.2.1) ⟨Nat.le_of_ble_eq_true rfl, Nat.le_of_ble_eq_true rfl⟩ hl.1 (Nat.le_of_ble_eq_true rfl) dX4_init_87 (c1 := 15 + 5 * (n + 1)) (s1 := 856 + 13 * (n + 1)) (by show 15 + 5 * n + 1 + 4 = _; omega) (by show 856 + 13 * n + 4 + 9 = _; omega) ⟨by show 15 + 5 * (n + 1) ≤ 135; omega, by show 856 + 13 * (n + 1) ≤ 1168; omega⟩ (fun ad1 ct1 H locs w1 hZ M hS => ?_)
    obtain ⟨z1, z2, z3, z4, z5, z6⟩ := hZ
    have hado : ∀ j, lvC n j → ad1 j = ad j := fun j hj => (w1 j (Or.inl hj)).trans (va_up_ne _ _ (by unfold lvC at hj; omega))
    have hq : ad1 (400 + n) = q := (w1 _ (Or.inr rfl)).trans (va_up_self _ _ _)
    have hcto : ∀ j, lvC n j → ct1 j = ct j := fun j hj => (z1 j (Or.inl hj) (by unfold lvC at hj; omega)).trans (va_up_ne _ _ (by unfold lvC at hj; omega))
    have h1l : lvC n 1 := Or.inl (by omega)
    refine mn_aast C0 M hS (k := 1) (kv := 400 + n) (Or.inl (Or.inl h1l)) (hado 1 h1l) ((hcto 1 h1l).trans hF1) (Or.inl (Or.inr rfl)) hq z2 (by rw [hi]; exact vp_in_nI hn24 (by decide)) dX4_init_90 (fun H locs M hS => ?_)
    obtain ⟨i2, hi2⟩ : ∃ y : Int32, y = i + 1 := ⟨_, rfl⟩
    refine lv_iinc (v := i2) (lv' := [(1, .int i2), (0, .ref a0)]) hx hb dX4_init_91 hl (k := 0) rfl (by rw [hi2]; rfl) (by decide) rfl (fun ls hl => ?_)
    refine lv_goto (tgt := 72) hx hb dX4_init_94 (by decide) ?_
    refine ih (n + 1) i2 ad1 _ H locs ls (by omega) (by rw [hi2, hi]; exact nI_1 n) hl (mp_lv M (fun j hj => ?_)) hS (fun j hj hj1 => ?_) ?_ ((hado 0 (Or.inl (by omega))).trans ha)
    · have hj2 : lvC n j ∨ j = 400 + n ∨ j = 100 + (n + 1) ∨ j = 200 + (n + 1) ∨ j = 300 + (n + 1) ∨ j = 500 + n := by unfold lvC at hj ⊢; omega
      rcases hj2 with h | h | h | h | h | h
      · exact Or.inl (Or.inl h)
      · exact Or.inl (Or.inr h)
      · exact Or.inr (Or.inl h)
      · exact Or.inr (Or.inr (Or.inl h))
      · exact Or.inr (Or.inr (Or.inr (Or.inl h)))
      · exact Or.inr (Or.inr (Or.inr (Or.inr h)))
    · rw [va_up_ne _ _ hj1]
      have hj2 : lvC n j ∨ j = 400 + n ∨ j = 100 + (n + 1) ∨ j = 200 + (n + 1) ∨ j = 300 + (n + 1) ∨ j = 500 + n := by unfold lvC at hj ⊢; omega
      rcases hj2 with h | rfl | rfl | rfl | rfl | rfl
      · rw [hcto j h, hF j h hj1]
        exact (cont_ad (by omega) hado h hj1).symm
      · rw [z2, ct_ma cy _ _ _ hn24]
        rfl
      · rw [z3, ct_sh cy _ _ _ (by omega)]
        rfl
      · rw [z4, ct_low cy _ _ _ (by omega)]
        rfl
      · rw [z5, ct_hig cy _ _ _ (by omega)]
        rfl
      · rw [z6, ct_rows cy _ _ _ hn24]
        show _ = Sum.inl (cy.1, (if 500 + n = 9 ∨ 500 + n = 10 then 64 else if 500 + n = 11 ∨ 500 + n = 12 then 32 else 0), Sum.inl (g0.1 18 n))
        rw [if_neg (by omega), if_neg (by omega)]
        rfl
    · rw [va_up_self, hi, nI_clamp (by omega)]
      congr 7
      funext j
      unfold va_up arF
      by_cases hjn : j = n
      · subst hjn
        rw [if_pos rfl, if_pos (by omega), hq]
      · rw [if_neg hjn]
        by_cases hlt : j < n
        · rw [if_pos hlt, if_pos (by omega), hado (400 + j) (by unfold lvC; omega)]
        · rw [if_neg hlt, if_neg (by omega)]
