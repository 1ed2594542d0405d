theorem arrV_ext {cA : ClassId} {N : Nat} {f f2 : Nat → Value} (h : ∀ j, j < N → f j = f2 j) : arrV cA N f = arrV cA N f2 := by
  unfold arrV
  congr 1
  apply Array.ext
  · simp
  · intro i h1 h2
    simp only [Array.getElem_ofFn]
    exact h i (by simpa using h1)
set_option maxHeartbeats 4000000 in
set_option maxRecDepth 100000 in
/-- THE LAW, from its entry to its loop -/
theorem lw_start {p : Program} {e : Env} {s : State} {m : MethodId} {below : List Frame} {meth : Method} {c : Code} (l : Launch) {b L : Nat} {xs : Nat → Int32} {RI : Nat → Gs → Prop} (hL : L ≤ 3584) (C0 : lw_At p s m meth c b L xs) (hRI : RI 0 g0) (hdef : ∀ n g, RI n g → n < 512 → RI (n + 1) g) (h_code : S_code RI) (h_which : S_which RI) (h_range : S_range RI) (h_shapeless : S_shapeless RI) (h_make : S_make RI) (h_raw : S_raw RI) (h_see : S_see RI) (h_turn : S_turn RI) (h_cut : S_cut RI) (h_deep : S_deep RI) (h_flat : S_flat RI) (h_ragged : S_ragged RI) (h_without : S_without RI) (h_tie : S_tie RI) (h_get : S_get RI) (h_put : S_put RI) (h_empty : S_empty RI) (h_pair : S_pair RI) (h_gather : S_gather RI) (h_join : S_join RI) (h_sum : S_sum RI) (h_mean : S_mean RI) (h_about : S_about RI) (h_same : S_same RI) (h_compare : S_compare RI) (h_clear : S_clear RI) : W p l e room_1 s m #[Value.ref b] below meth c s.heap [] 0 0 (lw_Z below #[Value.ref b] s) (entryFrame m ([Value.ref b] : List Value).toArray 4) := by
  obtain ⟨hx, hb, hr, hml, hown, hts, hX, hbl, hlocks, hgv⟩ := id C0
  have htl : ∀ w ∈ wsL_law, w.before #[Value.ref b] s = true := fun w h => hts w (wsL_law_in w h)
  obtain ⟨c0, i0, k0⟩ := u_known (C := RX0) (T := TX0) (N := 5) (n := 5) htl inlX0 (htl _ kw_1_18)
  obtain ⟨c1, i1, k1⟩ := u_known (C := RX1) (T := TX1) (N := 4) (n := 4) htl inlX1 (htl _ kw_2_8)
  obtain ⟨c2, i2, k2⟩ := u_known (C := RX2) (T := TX2) (N := 3) (n := 3) htl inlX2 (htl _ kw_1_14)
  obtain ⟨c3, i3, k3⟩ := u_known (C := RX3) (T := TX3) (N := 6) (n := 6) htl inlX3 (htl _ kw_1_22)
  obtain ⟨c4, i4, k4⟩ := u_known (C := RX4) (T := TX4) (N := 8) (n := 8) htl inlX4 (htl _ kw_1_1)
  obtain ⟨c5, i5, k5⟩ := u_known (C := RX5) (T := TX5) (N := 25) (n := 25) htl inlX5 (htl _ kw_1_4)
  obtain ⟨dC, dI, hKc⟩ : ∃ (dC : Nat → ClassId) (dI : Nat → Nat → Nat), ∀ (k : Nat) (q : vw_C), vwCl[k]? = some q → u_Kn s q.1 q.2.1 q.2.2 (dC k) (dI k) := by
    refine ⟨fun k => if k = 0 then c0 else if k = 1 then c1 else if k = 2 then c2 else if k = 3 then c3 else if k = 4 then c4 else c5, fun k => if k = 0 then i0 else if k = 1 then i1 else if k = 2 then i2 else if k = 3 then i3 else if k = 4 then i4 else i5, ?_⟩
    intro k q hq
    match k, hq with
    | 0, hq => cases hq; exact k0
    | 1, hq => cases hq; exact k1
    | 2, hq => cases hq; exact k2
    | 3, hq => cases hq; exact k3
    | 4, hq => cases hq; exact k4
    | 5, hq => cases hq; exact k5
    | k + 6, hq => simp [vwCl] at hq
  obtain ⟨cI, clI, coI, fI, hkI, hkdI⟩ := Cond.arrayClass_spec (htl _ kw_2_3)
  obtain ⟨cJ, kJ, coJ, fJ, hkJ, hkdJ⟩ := Cond.arrayClass_spec (htl _ kw_2_21)
  obtain ⟨cZ, kZ, coZ, fZ, hkZ, hkdZ⟩ := Cond.arrayClass_spec (htl _ kw_3_3)
  have hov : va_AO RX1 s := hts _ (tb_1 (List.mem_of_getElem? (i := 97) rfl))
  obtain ⟨coO, cO, kO, o1, o2, o3, o4, o5⟩ := Cond.arrayOver_spec hov
  obtain ⟨cy, hcy⟩ : ∃ cy : Cy, cy = (cI, cJ, cZ, cO) := ⟨_, rfl⟩
  have hK : va_K (dC, dI) vwCl (tyL cy) s := by
    subst hcy
    refine ⟨hKc, fun k q hq => ?_⟩
    match k, hq with
    | 0, hq => cases hq; exact ⟨fun N z => ⟨(fun k h => by cases h), clI, hkI, coI, hkdI⟩, fI⟩
    | 1, hq => cases hq; exact ⟨fun N z => ⟨(fun k h => by cases h), kJ, hkJ, coJ, hkdJ⟩, fJ⟩
    | 2, hq => cases hq; exact ⟨fun N z => ⟨(fun k h => by cases h), kZ, hkZ, coZ, hkdZ⟩, fZ⟩
    | 3, hq => cases hq; exact ⟨fun N z => ⟨(fun k h => by cases h), kO, o3, coO, o4⟩, kO, coO, o3, o4, o1, o5⟩
    | k + 4, hq => simp [tyL] at hq
  have C1 : Cx p s m #[Value.ref b] c cL_law 4 RL (dC, dI) cy := ⟨hx, hb, hml, hown, htl, hK⟩
  have hE : EX4 s := ⟨va_Nw.of rfl (hts _ (tb_1 (List.mem_of_getElem? (i := 22) rfl))), va_Nw.of rfl (hts _ (tb_1 (List.mem_of_getElem? (i := 42) rfl))), va_Nw.of rfl (hts _ (tb_1 (List.mem_of_getElem? (i := 70) rfl))), va_Nw.of rfl (hts _ (tb_1 (List.mem_of_getElem? (i := 99) rfl))), va_Nw.of rfl (hts _ (tb_1 (List.mem_of_getElem? (i := 104) rfl))), hov⟩
  have hS : va_S (fun q => s.heap.size ≤ q) s.heap s.heap [] := va_S.rf
  have M : mp_ (dC, dI) (fun q => s.heap.size ≤ q) (fun _ => False) (fun _ => 0) (fun _ => .inr (0, [])) s.heap := ⟨fun _ h => h.elim, fun _ _ h => h.elim, fun _ h => h.elim⟩
  have hl := lv_entry ([.ref b]) (n := 4) (Nat.le_of_ble_eq_true rfl)
  rw [lg_entry_eq]
  generalize (lg_sl ([.ref b]) ++ List.replicate (4 - (lg_sl ([.ref b])).length) Slot.unset).toArray = ls at hl ⊢
  have hl : lv_has ls 4 [(0, .ref b)] := hl
  refine mn_new C1 M hS (Nat.le_refl _) (kn := 0) (fun h => h) (ci := 4) rfl inlX4 tyX4 tyX4_ok kw_1_0 kw_1_1 kw_1_2 (fs := [.null, .null, .null, .null, .null, .int 0, .int 0, .int 0]) (fun j hj => by rcases (show j = 0 ∨ j = 1 ∨ j = 2 ∨ j = 3 ∨ j = 4 ∨ j = 5 ∨ j = 6 ∨ j = 7 by omega) with rfl | rfl | rfl | rfl | rfl | rfl | rfl | rfl <;> rfl) (Nat.le_of_ble_eq_true rfl) (Nat.le_of_ble_eq_true rfl) (c1 := 1) (s1 := 8) rfl rfl dL_law_0 (fun qx H M hS => ?_)
  refine lv_dup hx hb dL_law_3 rfl ?_
  have M := mp_lv (lv2 := fun j => j = 0) M (fun j hj => Or.inr hj)
  refine kI C1 M hS (Nat.le_refl _) (k_X4_init (a0 := qx) (va_up_self _ _ _) (va_up_self _ _ _)) kw_1_7 Y_X4_init EX4_call (fun U hW => EX4_warm hW hE) ⟨Nat.le_of_ble_eq_true rfl, Nat.le_of_ble_eq_true rfl⟩ hl.1 (Nat.le_of_ble_eq_true rfl) dL_law_4 (c1 := 136) (s1 := 1176) rfl rfl ⟨Nat.le_of_ble_eq_true rfl, Nat.le_of_ble_eq_true rfl⟩ (fun ad1 ct1 H locs w1 hZ M hS => ?_)
  obtain ⟨hF, hF1⟩ := hZ
  have hqx : ad1 0 = qx := (w1 0 rfl).trans (va_up_self _ _ _)
  refine lv_astore_n (lv' := [(1, .ref qx), (0, .ref b)]) hx hb dL_law_7 rfl hl (by decide) rfl (fun ls hl => ?_)
  refine mn_new C1 M hS (Nat.le_refl _) (kn := 13) (by unfold lvC; omega) (ci := 5) rfl inlX5 tyX5 tyX5_ok kw_1_3 kw_1_4 kw_1_5 (fs := [.int 0, .int 0, .int 0, .null, .null, .int 0, .null, .null, .null, .null, .null, .int 0, .null, .null, .int 0, .null, .null, .int 0, .null, .int 0, .null, .null, .null, .null, .int 0]) (fun j hj => by
    have hj2 : j = 0 ∨ j = 1 ∨ j = 2 ∨ j = 3 ∨ j = 4 ∨ j = 5 ∨ j = 6 ∨ j = 7 ∨ j = 8 ∨ j = 9 ∨ j = 10 ∨ j = 11 ∨ j = 12 ∨ j = 13 ∨ j = 14 ∨ j = 15 ∨ j = 16 ∨ j = 17 ∨ j = 18 ∨ j = 19 ∨ j = 20 ∨ j = 21 ∨ j = 22 ∨ j = 23 ∨ j = 24 := by omega
    rcases hj2 with rfl | rfl | rfl | rfl | rfl | rfl | rfl | rfl | rfl | rfl | rfl | rfl | rfl | rfl | rfl | rfl | rfl | rfl | rfl | rfl | rfl | rfl | rfl | rfl | rfl <;> rfl) (Nat.le_of_ble_eq_true rfl) (Nat.le_of_ble_eq_true rfl) (c1 := 137) (s1 := 1201) rfl rfl dL_law_8 (fun qm H M hS => ?_)
  refine lv_dup hx hb dL_law_11 rfl ?_
  refine kI C1 M hS (Nat.le_refl _) (k_X5_init (a0 := qm) (Or.inr rfl) (not_lvA (by unfold lvC; omega) (by decide)) (not_lvA (by unfold lvC; omega) (by decide)) (not_lvA (by unfold lvC; omega) (by decide)) (not_lvA (by unfold lvC; omega) (by decide)) (not_lvA (by unfold lvC; omega) (by decide)) (not_lvA (by unfold lvC; omega) (by decide)) (not_lvA (by unfold lvC; omega) (by decide)) (not_lvA (by unfold lvC; omega) (by decide)) (not_lvA (by unfold lvC; omega) (by decide)) (not_lvA (by unfold lvC; omega) (by decide)) (not_lvA (by unfold lvC; omega) (by decide)) (not_lvA (by unfold lvC; omega) (by decide)) (not_lvA (by unfold lvC; omega) (by decide)) (not_lvA (by unfold lvC; omega) (by decide)) (not_lvA (by unfold lvC; omega) (by decide)) (not_lvA (by unfold lvC; omega) (by decide)) (va_up_self _ _ _) (va_up_self _ _ _)) kw_3_14 Y_X5_init (fun _ _ _ _ h => h) (fun _ _ => trivial) ⟨Nat.le_of_ble_eq_true rfl, Nat.le_of_ble_eq_true rfl⟩ hl.1 (Nat.le_of_ble_eq_true rfl) dL_law_12 (c1 := 153) (s1 := 639643) rfl rfl ⟨Nat.le_of_ble_eq_true rfl, Nat.le_of_ble_eq_true rfl⟩ (fun ad2 ct2 H locs w2 hZ M hS => ?_)
  obtain ⟨z0, z13, z14, z15, z16, z17, z18, z19, z20, z21, z22, z23, z24, z25, z26, z27, z28, z29⟩ := hZ
  have hqm : ad2 13 = qm := (w2 13 (Or.inr rfl)).trans (va_up_self _ _ _)
  have hne : ∀ j, lvC 24 j → j ≠ 13 := fun j hj => by unfold lvC at hj; omega
  have hado : ∀ j, lvC 24 j → ad2 j = ad1 j := fun j hj => (w2 j (Or.inl hj)).trans (va_up_ne _ _ (hne j hj))
  have hcto : ∀ j, lvC 24 j → ct2 j = ct1 j := fun j hj => (z0 j (Or.inl hj) (hne j hj)).trans (va_up_ne _ _ (hne j hj))
  have hqx2 : ad2 0 = qx := (hado 0 (Or.inl (by omega))).trans hqx
  have hadr : adr ad2 ad2 = ad2 := by
    funext k
    unfold adr
    split <;> rfl
  have hlvk : ∀ j, lvk j → lvC 24 j ∨ j = 13 ∨ j = 14 ∨ j = 15 ∨ j = 16 ∨ j = 17 ∨ j = 18 ∨ j = 19 ∨ j = 20 ∨ j = 21 ∨ j = 22 ∨ j = 23 ∨ j = 24 ∨ j = 25 ∨ j = 26 ∨ j = 27 ∨ j = 28 ∨ j = 29 := fun j hj => by unfold lvk at hj; unfold lvC; omega
  have MW : mp_ (dC, dI) (fun q => s.heap.size ≤ q) lvk (adr ad2 ad2) (cont cy ad2 ad2 g0) H := by
    rw [hadr]
    have M := mp_lv (lv2 := lvk) M (fun j hj => by
      rcases hlvk j hj with h | h | h | h | h | h | h | h | h | h | h | h | h | h | h | h | h | h
      · exact Or.inl (Or.inl h)
      · exact Or.inl (Or.inr h)
      · exact Or.inr (Or.inl h)
      · exact Or.inr (Or.inr (Or.inl h))
      · exact Or.inr (Or.inr (Or.inr (Or.inl h)))
      · exact Or.inr (Or.inr (Or.inr (Or.inr (Or.inl h))))
      · exact Or.inr (Or.inr (Or.inr (Or.inr (Or.inr (Or.inl h)))))
      · exact Or.inr (Or.inr (Or.inr (Or.inr (Or.inr (Or.inr (Or.inl h))))))
      · exact Or.inr (Or.inr (Or.inr (Or.inr (Or.inr (Or.inr (Or.inr (Or.inl h)))))))
      · exact Or.inr (Or.inr (Or.inr (Or.inr (Or.inr (Or.inr (Or.inr (Or.inr (Or.inl h))))))))
      · exact Or.inr (Or.inr (Or.inr (Or.inr (Or.inr (Or.inr (Or.inr (Or.inr (Or.inr (Or.inl h)))))))))
      · exact Or.inr (Or.inr (Or.inr (Or.inr (Or.inr (Or.inr (Or.inr (Or.inr (Or.inr (Or.inr (Or.inl h))))))))))
      · exact Or.inr (Or.inr (Or.inr (Or.inr (Or.inr (Or.inr (Or.inr (Or.inr (Or.inr (Or.inr (Or.inr (Or.inl h)))))))))))
      · exact Or.inr (Or.inr (Or.inr (Or.inr (Or.inr (Or.inr (Or.inr (Or.inr (Or.inr (Or.inr (Or.inr (Or.inr (Or.inl h))))))))))))
      · exact Or.inr (Or.inr (Or.inr (Or.inr (Or.inr (Or.inr (Or.inr (Or.inr (Or.inr (Or.inr (Or.inr (Or.inr (Or.inr (Or.inl h)))))))))))))
      · exact Or.inr (Or.inr (Or.inr (Or.inr (Or.inr (Or.inr (Or.inr (Or.inr (Or.inr (Or.inr (Or.inr (Or.inr (Or.inr (Or.inr (Or.inl h))))))))))))))
      · exact Or.inr (Or.inr (Or.inr (Or.inr (Or.inr (Or.inr (Or.inr (Or.inr (Or.inr (Or.inr (Or.inr (Or.inr (Or.inr (Or.inr (Or.inr (Or.inl h)))))))))))))))
      · exact Or.inr (Or.inr (Or.inr (Or.inr (Or.inr (Or.inr (Or.inr (Or.inr (Or.inr (Or.inr (Or.inr (Or.inr (Or.inr (Or.inr (Or.inr (Or.inr (h)))))))))))))))))
    refine ⟨fun k hk => ?_, M.2⟩
    by_cases hk1 : k = 1
    · subst hk1
      have h1 := M.1 1 hk
      rw [hcto 1 (Or.inl (by omega)), hF1] at h1
      show H[ad2 1]? = some (vp_cell cy.2.2.2 (24, .inr (.inr (.inr (.inr (fun j => some (ad2 (400 + j))))))))
      refine (show H[ad2 1]? = some (vp_cell cy.2.2.2 (24, .inr (.inr (.inr (.inr (arF ad1 24)))))) from h1).trans ?_
      rw [vp_cell_q, vp_cell_q]
      refine congrArg some (arrV_ext (fun j hj => ?_))
      unfold arF
      rw [if_pos hj, hado (400 + j) (by unfold lvC; omega)]
    · have h1 := M.1 k hk
      have h2 : ct2 k = cont cy ad2 ad2 g0 k := by
        rcases hlvk k hk with h | rfl | rfl | rfl | rfl | rfl | rfl | rfl | rfl | rfl | rfl | rfl | rfl | rfl | rfl | rfl | rfl | rfl
        · rw [hcto k h, hF k h hk1]
          exact (cont_ad (by omega) hado h hk1).symm
        · rw [z13]
          rfl
        · rw [z14]
          rfl
        · rw [z15]
          rfl
        · rw [z16]
          rfl
        · rw [z17]
          rfl
        · rw [z18]
          rfl
        · rw [z19]
          rfl
        · rw [z20]
          rfl
        · rw [z21]
          rfl
        · rw [z22]
          rfl
        · rw [z23]
          rfl
        · rw [z24]
          rfl
        · rw [z25]
          rfl
        · rw [z26]
          rfl
        · rw [z27]
          rfl
        · rw [z28]
          rfl
        · rw [z29]
          rfl
      rw [← h2]
      exact h1
  refine lv_astore_n (lv' := [(2, .ref qm), (1, .ref qx), (0, .ref b)]) hx hb dL_law_15 rfl hl (by decide) rfl (fun ls hl => ?_)
  refine lv_iconst (v := 0) hx hb dL_law_16 (by decide) ?_
  refine lv_istore_n (lv' := [(3, .int 0), (2, .ref qm), (1, .ref qx), (0, .ref b)]) hx hb dL_law_17 rfl hl (by decide) rfl (fun ls hl => ?_)
  rw [← hqx2, ← hqm] at hl
  exact lw_loop (sb := ad2) hL C0 C1 hdef h_code h_which h_range h_shapeless h_make h_raw h_see h_turn h_cut h_deep h_flat h_ragged h_without h_tie h_get h_put h_empty h_pair h_gather h_join h_sum h_mean h_about h_same h_compare h_clear 513 0 0 ad2 g0 H locs 153 639643 ls (by decide) nI_0.symm (by decide) (lv_sub hl [3, 2, 1, 0] rfl) ⟨MW, hS⟩ hRI (by unfold BD g0; decide)
