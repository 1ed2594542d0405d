section LAW
variable {p : Program} {l : Launch} {e : Env} {s : State} {m : MethodId} {below : List Frame} {meth : Method} {c : Code} {H : Heap} {locs : List Loc} {cells slots : Nat} {Q : State → Prop}
variable {ls : Array Slot} {D : va_G} {cy : Cy} {sb db : Nat → Nat} {g : Gs} {b L n : Nat} {xs : Nat → Int32} {x3 : Int32} {RI : Nat → Gs → Prop}
theorem lw_in {k : Nat} (h3 : x3 = nI (7 * n)) (hL : L ≤ 3584) (hn : 7 * n + 7 ≤ L) (hk : k < 7) {y : Int32} (hy : y = nI k) : vp_in (x3 + y) L := by
  rw [h3, hy, nI_add]
  exact vp_in_nI (by omega) (by omega)
set_option maxHeartbeats 4000000 in
set_option maxRecDepth 100000 in
theorem lw_code (hL : L ≤ 3584) (hX : va_X b L xs s s.heap) (hbl : b < s.heap.size) (C1 : Cx p s m #[Value.ref b] c cL_law 4 RL D cy) (hst : S_code RI) (h3 : x3 = nI (7 * n)) (hn : 7 * n + 7 ≤ L) (hl : lv_has ls 4 [(0, .ref b), (1, .ref (sb 0)), (2, .ref (sb 13)), (3, .int x3)]) (M : Ws D s.heap.size cy sb db g s H locs) (hR : RI n g) (hBD : BD n g cells slots) (kk : ∀ (db : Nat → Nat) (g : Gs) (H : Heap) (locs : List Loc) (cells slots : Nat), Ws D s.heap.size cy sb db g s H locs → RI (n + 1) g → BD (n + 1) g cells slots → W p l e room_1 s m #[Value.ref b] below meth c H locs cells slots Q (F0 m 1045 ls [])) : W p l e room_1 s m #[Value.ref b] below meth c H locs cells slots Q (F0 m 152 ls []) := by
  obtain ⟨hx, hb, hml, hown, hts, hK⟩ := id C1
  have hbA : ¬ (fun q : Nat => s.heap.size ≤ q) b := Nat.not_le.mpr hbl
  have hn5 : n < 512 := by omega
  refine lv_aload_n hx hb dL_law_152 rfl (lv_at hl 1 rfl) ?_
  obtain ⟨r, h4, h5, hRI, hCB⟩ := hst n g hR hn5
  have hBD2 := BD_step hBD hCB
  have hrm := BD_room hBD2 (by omega)
  refine kV (As := []) (rest := []) (stk := [.int r]) (val := (some (.int r))) (c1 := cells) (s1 := slots) C1 M (k_X4_code h4) kw_4_12 Y_X4_code (rv_X4 C1 M) ⟨Nat.le_of_ble_eq_true rfl, Nat.le_of_ble_eq_true rfl⟩ rfl hl.1 rfl (Nat.le_of_ble_eq_true rfl) dL_law_153 rfl rfl ⟨hrm.1, hrm.2⟩ rfl (fun H locs M => ?_)
  refine lv_aload_n hx hb dL_law_156 rfl (lv_at hl 2 rfl) ?_
  refine kV (As := []) (rest := [.int r]) (stk := [.int r, .int r]) (val := (some (.int r))) (c1 := cells) (s1 := slots) C1 M (k_X5_code h5) kw_4_16 Y_X5_code (rv_X5 C1 M) ⟨Nat.le_of_ble_eq_true rfl, Nat.le_of_ble_eq_true rfl⟩ rfl hl.1 rfl (Nat.le_of_ble_eq_true rfl) dL_law_157 rfl rfl ⟨hrm.1, hrm.2⟩ rfl (fun H locs M => ?_)
  refine lv_icmp_eq (tgt := 1045) hx hb dL_law_160 (by decide) (fun _ => ?_) (fun c1 => ?_)
  · exact kk _ _ H locs _ _ M hRI hBD2
  · exact absurd rfl c1
set_option maxHeartbeats 4000000 in
set_option maxRecDepth 100000 in
theorem lw_which (hL : L ≤ 3584) (hX : va_X b L xs s s.heap) (hbl : b < s.heap.size) (C1 : Cx p s m #[Value.ref b] c cL_law 4 RL D cy) (hst : S_which RI) (h3 : x3 = nI (7 * n)) (hn : 7 * n + 7 ≤ L) (hl : lv_has ls 4 [(0, .ref b), (1, .ref (sb 0)), (2, .ref (sb 13)), (3, .int x3)]) (M : Ws D s.heap.size cy sb db g s H locs) (hR : RI n g) (hBD : BD n g cells slots) (kk : ∀ (db : Nat → Nat) (g : Gs) (H : Heap) (locs : List Loc) (cells slots : Nat), Ws D s.heap.size cy sb db g s H locs → RI (n + 1) g → BD (n + 1) g cells slots → W p l e room_1 s m #[Value.ref b] below meth c H locs cells slots Q (F0 m 1045 ls [])) : W p l e room_1 s m #[Value.ref b] below meth c H locs cells slots Q (F0 m 165 ls []) := by
  obtain ⟨hx, hb, hml, hown, hts, hK⟩ := id C1
  have hbA : ¬ (fun q : Nat => s.heap.size ≤ q) b := Nat.not_le.mpr hbl
  have hn5 : n < 512 := by omega
  refine lv_aload_n hx hb dL_law_165 rfl (lv_at hl 1 rfl) ?_
  obtain ⟨r, h4, h5, hRI, hCB⟩ := hst n g hR hn5
  have hBD2 := BD_step hBD hCB
  have hrm := BD_room hBD2 (by omega)
  refine kV (As := []) (rest := []) (stk := [.int r]) (val := (some (.int r))) (c1 := cells) (s1 := slots) C1 M (k_X4_which h4) kw_4_21 Y_X4_which (rv_X4 C1 M) ⟨Nat.le_of_ble_eq_true rfl, Nat.le_of_ble_eq_true rfl⟩ rfl hl.1 rfl (Nat.le_of_ble_eq_true rfl) dL_law_166 rfl rfl ⟨hrm.1, hrm.2⟩ rfl (fun H locs M => ?_)
  refine lv_aload_n hx hb dL_law_169 rfl (lv_at hl 2 rfl) ?_
  refine kV (As := []) (rest := [.int r]) (stk := [.int r, .int r]) (val := (some (.int r))) (c1 := cells) (s1 := slots) C1 M (k_X5_which h5) kw_5_1 Y_X5_which (rv_X5 C1 M) ⟨Nat.le_of_ble_eq_true rfl, Nat.le_of_ble_eq_true rfl⟩ rfl hl.1 rfl (Nat.le_of_ble_eq_true rfl) dL_law_170 rfl rfl ⟨hrm.1, hrm.2⟩ rfl (fun H locs M => ?_)
  refine lv_icmp_eq (tgt := 1045) hx hb dL_law_173 (by decide) (fun _ => ?_) (fun c1 => ?_)
  · exact kk _ _ H locs _ _ M hRI hBD2
  · exact absurd rfl c1
set_option maxHeartbeats 4000000 in
set_option maxRecDepth 100000 in
theorem lw_range (hL : L ≤ 3584) (hX : va_X b L xs s s.heap) (hbl : b < s.heap.size) (C1 : Cx p s m #[Value.ref b] c cL_law 4 RL D cy) (hst : S_range RI) (h3 : x3 = nI (7 * n)) (hn : 7 * n + 7 ≤ L) (hl : lv_has ls 4 [(0, .ref b), (1, .ref (sb 0)), (2, .ref (sb 13)), (3, .int x3)]) (M : Ws D s.heap.size cy sb db g s H locs) (hR : RI n g) (hBD : BD n g cells slots) (kk : ∀ (db : Nat → Nat) (g : Gs) (H : Heap) (locs : List Loc) (cells slots : Nat), Ws D s.heap.size cy sb db g s H locs → RI (n + 1) g → BD (n + 1) g cells slots → W p l e room_1 s m #[Value.ref b] below meth c H locs cells slots Q (F0 m 1045 ls [])) : W p l e room_1 s m #[Value.ref b] below meth c H locs cells slots Q (F0 m 178 ls []) := by
  obtain ⟨hx, hb, hml, hown, hts, hK⟩ := id C1
  have hbA : ¬ (fun q : Nat => s.heap.size ≤ q) b := Nat.not_le.mpr hbl
  have hn5 : n < 512 := by omega
  refine lv_aload_n hx hb dL_law_178 rfl (lv_at hl 1 rfl) ?_
  refine lv_aload_n hx hb dL_law_179 rfl (lv_at hl 0 rfl) ?_
  refine lv_iload_n hx hb dL_law_180 rfl (lv_at hl 3 rfl) ?_
  refine lv_iconst (v := 1) hx hb dL_law_181 (by decide) ?_
  refine lv_iadd hx hb dL_law_182 ?_
  refine va_sld hx hb hX hbl hbA M.2 (lw_in h3 hL hn (k := 1) (by decide) rfl) dL_law_183 ?_
  refine lv_aload_n hx hb dL_law_184 rfl (lv_at hl 0 rfl) ?_
  refine lv_iload_n hx hb dL_law_185 rfl (lv_at hl 3 rfl) ?_
  refine lv_iconst (v := 2) hx hb dL_law_186 (by decide) ?_
  refine lv_iadd hx hb dL_law_187 ?_
  refine va_sld hx hb hX hbl hbA M.2 (lw_in h3 hL hn (k := 2) (by decide) rfl) dL_law_188 ?_
  obtain ⟨r, g1, g2, h4, h5, hRI, hCB⟩ := hst n g (xs (x3 + 1).toNatClampNeg) (xs (x3 + 2).toNatClampNeg) hR hn5
  have hBD2 := BD_step hBD hCB
  have hrm := BD_room hBD2 (by omega)
  refine kV (As := [.int (xs (x3 + 1).toNatClampNeg), .int (xs (x3 + 2).toNatClampNeg)]) (rest := []) (stk := [.int r]) (val := (some (.int r))) (c1 := cells) (s1 := slots) C1 M (k_X4_range h4) kw_5_5 Y_X4_range (rv_X4 C1 M) ⟨Nat.le_of_ble_eq_true rfl, Nat.le_of_ble_eq_true rfl⟩ rfl hl.1 rfl (Nat.le_of_ble_eq_true rfl) dL_law_189 rfl rfl ⟨hrm.1, hrm.2⟩ rfl (fun H locs M => ?_)
  refine lv_aload_n hx hb dL_law_192 rfl (lv_at hl 2 rfl) ?_
  refine lv_aload_n hx hb dL_law_193 rfl (lv_at hl 0 rfl) ?_
  refine lv_iload_n hx hb dL_law_194 rfl (lv_at hl 3 rfl) ?_
  refine lv_iconst (v := 1) hx hb dL_law_195 (by decide) ?_
  refine lv_iadd hx hb dL_law_196 ?_
  refine va_sld hx hb hX hbl hbA M.2 (lw_in h3 hL hn (k := 1) (by decide) rfl) dL_law_197 ?_
  refine lv_aload_n hx hb dL_law_198 rfl (lv_at hl 0 rfl) ?_
  refine lv_iload_n hx hb dL_law_199 rfl (lv_at hl 3 rfl) ?_
  refine lv_iconst (v := 2) hx hb dL_law_200 (by decide) ?_
  refine lv_iadd hx hb dL_law_201 ?_
  refine va_sld hx hb hX hbl hbA M.2 (lw_in h3 hL hn (k := 2) (by decide) rfl) dL_law_202 ?_
  refine kV (As := [.int (xs (x3 + 1).toNatClampNeg), .int (xs (x3 + 2).toNatClampNeg)]) (rest := [.int r]) (stk := [.int r, .int r]) (val := (some (.int r))) (c1 := cells) (s1 := slots) C1 M (k_X5_range h5) kw_6_3 Y_X5_range (rv_X5 C1 M) ⟨Nat.le_of_ble_eq_true rfl, Nat.le_of_ble_eq_true rfl⟩ rfl hl.1 rfl (Nat.le_of_ble_eq_true rfl) dL_law_203 rfl rfl ⟨hrm.1, hrm.2⟩ rfl (fun H locs M => ?_)
  refine lv_icmp_eq (tgt := 1045) hx hb dL_law_206 (by decide) (fun _ => ?_) (fun c1 => ?_)
  · exact kk _ _ H locs _ _ M hRI hBD2
  · exact absurd rfl c1
set_option maxHeartbeats 4000000 in
set_option maxRecDepth 100000 in
theorem lw_shapeless (hL : L ≤ 3584) (hX : va_X b L xs s s.heap) (hbl : b < s.heap.size) (C1 : Cx p s m #[Value.ref b] c cL_law 4 RL D cy) (hst : S_shapeless RI) (h3 : x3 = nI (7 * n)) (hn : 7 * n + 7 ≤ L) (hl : lv_has ls 4 [(0, .ref b), (1, .ref (sb 0)), (2, .ref (sb 13)), (3, .int x3)]) (M : Ws D s.heap.size cy sb db g s H locs) (hR : RI n g) (hBD : BD n g cells slots) (kk : ∀ (db : Nat → Nat) (g : Gs) (H : Heap) (locs : List Loc) (cells slots : Nat), Ws D s.heap.size cy sb db g s H locs → RI (n + 1) g → BD (n + 1) g cells slots → W p l e room_1 s m #[Value.ref b] below meth c H locs cells slots Q (F0 m 1045 ls [])) : W p l e room_1 s m #[Value.ref b] below meth c H locs cells slots Q (F0 m 211 ls []) := by
  obtain ⟨hx, hb, hml, hown, hts, hK⟩ := id C1
  have hbA : ¬ (fun q : Nat => s.heap.size ≤ q) b := Nat.not_le.mpr hbl
  have hn5 : n < 512 := by omega
  refine lv_aload_n hx hb dL_law_211 rfl (lv_at hl 1 rfl) ?_
  obtain ⟨r, g1, g2, h4, h5, hRI, hCB⟩ := hst n g  hR hn5
  have hBD2 := BD_step hBD hCB
  have hrm := BD_room hBD2 (by omega)
  refine kV (As := []) (rest := []) (stk := [.int r]) (val := (some (.int r))) (c1 := cells) (s1 := slots) C1 M (k_X4_shapeless h4) kw_6_16 Y_X4_shapeless (rv_X4 C1 M) ⟨Nat.le_of_ble_eq_true rfl, Nat.le_of_ble_eq_true rfl⟩ rfl hl.1 rfl (Nat.le_of_ble_eq_true rfl) dL_law_212 rfl rfl ⟨hrm.1, hrm.2⟩ rfl (fun H locs M => ?_)
  refine lv_aload_n hx hb dL_law_215 rfl (lv_at hl 2 rfl) ?_
  refine kV (As := []) (rest := [.int r]) (stk := [.int r, .int r]) (val := (some (.int r))) (c1 := cells) (s1 := slots) C1 M (k_X5_shapeless h5) kw_6_20 Y_X5_shapeless (rv_X5 C1 M) ⟨Nat.le_of_ble_eq_true rfl, Nat.le_of_ble_eq_true rfl⟩ rfl hl.1 rfl (Nat.le_of_ble_eq_true rfl) dL_law_216 rfl rfl ⟨hrm.1, hrm.2⟩ rfl (fun H locs M => ?_)
  refine lv_icmp_eq (tgt := 1045) hx hb dL_law_219 (by decide) (fun _ => ?_) (fun c1 => ?_)
  · exact kk _ _ H locs _ _ M hRI hBD2
  · exact absurd rfl c1
set_option maxHeartbeats 4000000 in
set_option maxRecDepth 100000 in
theorem lw_make (hL : L ≤ 3584) (hX : va_X b L xs s s.heap) (hbl : b < s.heap.size) (C1 : Cx p s m #[Value.ref b] c cL_law 4 RL D cy) (hst : S_make RI) (h3 : x3 = nI (7 * n)) (hn : 7 * n + 7 ≤ L) (hl : lv_has ls 4 [(0, .ref b), (1, .ref (sb 0)), (2, .ref (sb 13)), (3, .int x3)]) (M : Ws D s.heap.size cy sb db g s H locs) (hR : RI n g) (hBD : BD n g cells slots) (kk : ∀ (db : Nat → Nat) (g : Gs) (H : Heap) (locs : List Loc) (cells slots : Nat), Ws D s.heap.size cy sb db g s H locs → RI (n + 1) g → BD (n + 1) g cells slots → W p l e room_1 s m #[Value.ref b] below meth c H locs cells slots Q (F0 m 1045 ls [])) : W p l e room_1 s m #[Value.ref b] below meth c H locs cells slots Q (F0 m 224 ls []) := by
  obtain ⟨hx, hb, hml, hown, hts, hK⟩ := id C1
  have hbA : ¬ (fun q : Nat => s.heap.size ≤ q) b := Nat.not_le.mpr hbl
  have hn5 : n < 512 := by omega
  refine lv_aload_n hx hb dL_law_224 rfl (lv_at hl 1 rfl) ?_
  refine lv_aload_n hx hb dL_law_225 rfl (lv_at hl 0 rfl) ?_
  refine lv_iload_n hx hb dL_law_226 rfl (lv_at hl 3 rfl) ?_
  refine lv_iconst (v := 1) hx hb dL_law_227 (by decide) ?_
  refine lv_iadd hx hb dL_law_228 ?_
  refine va_sld hx hb hX hbl hbA M.2 (lw_in h3 hL hn (k := 1) (by decide) rfl) dL_law_229 ?_
  obtain ⟨r, g1, g2, a, bb, h4, h5, hRI, hCB⟩ := hst n g (xs (x3 + 1).toNatClampNeg) hR hn5
  have hBD2 := BD_step hBD hCB
  have hrm := BD_room hBD2 (by omega)
  refine kVA (As := [.int (xs (x3 + 1).toNatClampNeg)]) (rest := []) (stk := [.int r]) (val := (some (.int r))) (c1 := (cells + a)) (s1 := (slots + bb)) C1 M (k_X4_make h4) kw_7_0 Y_X4_make (rv_X4 C1 M) ⟨Nat.le_of_ble_eq_true rfl, Nat.le_of_ble_eq_true rfl⟩ rfl hl.1 rfl (Nat.le_of_ble_eq_true rfl) dL_law_230 rfl rfl ⟨hrm.1, hrm.2⟩ rfl (fun db H locs M => ?_)
  refine lv_aload_n hx hb dL_law_233 rfl (lv_at hl 2 rfl) ?_
  refine lv_aload_n hx hb dL_law_234 rfl (lv_at hl 0 rfl) ?_
  refine lv_iload_n hx hb dL_law_235 rfl (lv_at hl 3 rfl) ?_
  refine lv_iconst (v := 1) hx hb dL_law_236 (by decide) ?_
  refine lv_iadd hx hb dL_law_237 ?_
  refine va_sld hx hb hX hbl hbA M.2 (lw_in h3 hL hn (k := 1) (by decide) rfl) dL_law_238 ?_
  refine kV (As := [.int (xs (x3 + 1).toNatClampNeg)]) (rest := [.int r]) (stk := [.int r, .int r]) (val := (some (.int r))) (c1 := (cells + a)) (s1 := (slots + bb)) C1 M (k_X5_make h5) kw_11_14 Y_X5_make (rv_X5 C1 M) ⟨Nat.le_of_ble_eq_true rfl, Nat.le_of_ble_eq_true rfl⟩ rfl hl.1 rfl (Nat.le_of_ble_eq_true rfl) dL_law_239 rfl rfl ⟨hrm.1, hrm.2⟩ rfl (fun H locs M => ?_)
  refine lv_icmp_eq (tgt := 1045) hx hb dL_law_242 (by decide) (fun _ => ?_) (fun c1 => ?_)
  · exact kk _ _ H locs _ _ M hRI hBD2
  · exact absurd rfl c1
set_option maxHeartbeats 4000000 in
set_option maxRecDepth 100000 in
theorem lw_raw (hL : L ≤ 3584) (hX : va_X b L xs s s.heap) (hbl : b < s.heap.size) (C1 : Cx p s m #[Value.ref b] c cL_law 4 RL D cy) (hst : S_raw RI) (h3 : x3 = nI (7 * n)) (hn : 7 * n + 7 ≤ L) (hl : lv_has ls 4 [(0, .ref b), (1, .ref (sb 0)), (2, .ref (sb 13)), (3, .int x3)]) (M : Ws D s.heap.size cy sb db g s H locs) (hR : RI n g) (hBD : BD n g cells slots) (kk : ∀ (db : Nat → Nat) (g : Gs) (H : Heap) (locs : List Loc) (cells slots : Nat), Ws D s.heap.size cy sb db g s H locs → RI (n + 1) g → BD (n + 1) g cells slots → W p l e room_1 s m #[Value.ref b] below meth c H locs cells slots Q (F0 m 1045 ls [])) : W p l e room_1 s m #[Value.ref b] below meth c H locs cells slots Q (F0 m 247 ls []) := by
  obtain ⟨hx, hb, hml, hown, hts, hK⟩ := id C1
  have hbA : ¬ (fun q : Nat => s.heap.size ≤ q) b := Nat.not_le.mpr hbl
  have hn5 : n < 512 := by omega
  refine lv_aload_n hx hb dL_law_247 rfl (lv_at hl 1 rfl) ?_
  refine lv_aload_n hx hb dL_law_248 rfl (lv_at hl 0 rfl) ?_
  refine lv_iload_n hx hb dL_law_249 rfl (lv_at hl 3 rfl) ?_
  refine lv_iconst (v := 1) hx hb dL_law_250 (by decide) ?_
  refine lv_iadd hx hb dL_law_251 ?_
  refine va_sld hx hb hX hbl hbA M.2 (lw_in h3 hL hn (k := 1) (by decide) rfl) dL_law_252 ?_
  refine lv_aload_n hx hb dL_law_253 rfl (lv_at hl 0 rfl) ?_
  refine lv_iload_n hx hb dL_law_254 rfl (lv_at hl 3 rfl) ?_
  refine lv_iconst (v := 2) hx hb dL_law_255 (by decide) ?_
  refine lv_iadd hx hb dL_law_256 ?_
  refine va_sld hx hb hX hbl hbA M.2 (lw_in h3 hL hn (k := 2) (by decide) rfl) dL_law_257 ?_
  obtain ⟨r, g1, g2, a, bb, h4, h5, hRI, hCB⟩ := hst n g (xs (x3 + 1).toNatClampNeg) (xs (x3 + 2).toNatClampNeg) hR hn5
  have hBD2 := BD_step hBD hCB
  have hrm := BD_room hBD2 (by omega)
  refine kVA (As := [.int (xs (x3 + 1).toNatClampNeg), .int (xs (x3 + 2).toNatClampNeg)]) (rest := []) (stk := [.int r]) (val := (some (.int r))) (c1 := (cells + a)) (s1 := (slots + bb)) C1 M (k_X4_raw h4) kw_13_4 Y_X4_raw (rv_X4 C1 M) ⟨Nat.le_of_ble_eq_true rfl, Nat.le_of_ble_eq_true rfl⟩ rfl hl.1 rfl (Nat.le_of_ble_eq_true rfl) dL_law_258 rfl rfl ⟨hrm.1, hrm.2⟩ rfl (fun db H locs M => ?_)
  refine lv_aload_n hx hb dL_law_261 rfl (lv_at hl 2 rfl) ?_
  refine lv_aload_n hx hb dL_law_262 rfl (lv_at hl 0 rfl) ?_
  refine lv_iload_n hx hb dL_law_263 rfl (lv_at hl 3 rfl) ?_
  refine lv_iconst (v := 1) hx hb dL_law_264 (by decide) ?_
  refine lv_iadd hx hb dL_law_265 ?_
  refine va_sld hx hb hX hbl hbA M.2 (lw_in h3 hL hn (k := 1) (by decide) rfl) dL_law_266 ?_
  refine lv_aload_n hx hb dL_law_267 rfl (lv_at hl 0 rfl) ?_
  refine lv_iload_n hx hb dL_law_268 rfl (lv_at hl 3 rfl) ?_
  refine lv_iconst (v := 2) hx hb dL_law_269 (by decide) ?_
  refine lv_iadd hx hb dL_law_270 ?_
  refine va_sld hx hb hX hbl hbA M.2 (lw_in h3 hL hn (k := 2) (by decide) rfl) dL_law_271 ?_
  refine kV (As := [.int (xs (x3 + 1).toNatClampNeg), .int (xs (x3 + 2).toNatClampNeg)]) (rest := [.int r]) (stk := [.int r, .int r]) (val := (some (.int r))) (c1 := (cells + a)) (s1 := (slots + bb)) C1 M (k_X5_raw h5) kw_13_8 Y_X5_raw (rv_X5 C1 M) ⟨Nat.le_of_ble_eq_true rfl, Nat.le_of_ble_eq_true rfl⟩ rfl hl.1 rfl (Nat.le_of_ble_eq_true rfl) dL_law_272 rfl rfl ⟨hrm.1, hrm.2⟩ rfl (fun H locs M => ?_)
  refine lv_icmp_eq (tgt := 1045) hx hb dL_law_275 (by decide) (fun _ => ?_) (fun c1 => ?_)
  · exact kk _ _ H locs _ _ M hRI hBD2
  · exact absurd rfl c1
set_option maxHeartbeats 4000000 in
set_option maxRecDepth 100000 in
theorem lw_see (hL : L ≤ 3584) (hX : va_X b L xs s s.heap) (hbl : b < s.heap.size) (C1 : Cx p s m #[Value.ref b] c cL_law 4 RL D cy) (hst : S_see RI) (h3 : x3 = nI (7 * n)) (hn : 7 * n + 7 ≤ L) (hl : lv_has ls 4 [(0, .ref b), (1, .ref (sb 0)), (2, .ref (sb 13)), (3, .int x3)]) (M : Ws D s.heap.size cy sb db g s H locs) (hR : RI n g) (hBD : BD n g cells slots) (kk : ∀ (db : Nat → Nat) (g : Gs) (H : Heap) (locs : List Loc) (cells slots : Nat), Ws D s.heap.size cy sb db g s H locs → RI (n + 1) g → BD (n + 1) g cells slots → W p l e room_1 s m #[Value.ref b] below meth c H locs cells slots Q (F0 m 1045 ls [])) : W p l e room_1 s m #[Value.ref b] below meth c H locs cells slots Q (F0 m 280 ls []) := by
  obtain ⟨hx, hb, hml, hown, hts, hK⟩ := id C1
  have hbA : ¬ (fun q : Nat => s.heap.size ≤ q) b := Nat.not_le.mpr hbl
  have hn5 : n < 512 := by omega
  refine lv_aload_n hx hb dL_law_280 rfl (lv_at hl 1 rfl) ?_
  refine lv_aload_n hx hb dL_law_281 rfl (lv_at hl 0 rfl) ?_
  refine lv_iload_n hx hb dL_law_282 rfl (lv_at hl 3 rfl) ?_
  refine lv_iconst (v := 1) hx hb dL_law_283 (by decide) ?_
  refine lv_iadd hx hb dL_law_284 ?_
  refine va_sld hx hb hX hbl hbA M.2 (lw_in h3 hL hn (k := 1) (by decide) rfl) dL_law_285 ?_
  obtain ⟨r, g1, g2, a, bb, h4, h5, hRI, hCB⟩ := hst n g (xs (x3 + 1).toNatClampNeg) hR hn5
  have hBD2 := BD_step hBD hCB
  have hrm := BD_room hBD2 (by omega)
  refine kVA (As := [.int (xs (x3 + 1).toNatClampNeg)]) (rest := []) (stk := [.int r]) (val := (some (.int r))) (c1 := (cells + a)) (s1 := (slots + bb)) C1 M (k_X4_see h4) kw_13_13 Y_X4_see (rv_X4 C1 M) ⟨Nat.le_of_ble_eq_true rfl, Nat.le_of_ble_eq_true rfl⟩ rfl hl.1 rfl (Nat.le_of_ble_eq_true rfl) dL_law_286 rfl rfl ⟨hrm.1, hrm.2⟩ rfl (fun db H locs M => ?_)
  refine lv_aload_n hx hb dL_law_289 rfl (lv_at hl 2 rfl) ?_
  refine lv_aload_n hx hb dL_law_290 rfl (lv_at hl 0 rfl) ?_
  refine lv_iload_n hx hb dL_law_291 rfl (lv_at hl 3 rfl) ?_
  refine lv_iconst (v := 1) hx hb dL_law_292 (by decide) ?_
  refine lv_iadd hx hb dL_law_293 ?_
  refine va_sld hx hb hX hbl hbA M.2 (lw_in h3 hL hn (k := 1) (by decide) rfl) dL_law_294 ?_
  refine kV (As := [.int (xs (x3 + 1).toNatClampNeg)]) (rest := [.int r]) (stk := [.int r, .int r]) (val := (some (.int r))) (c1 := (cells + a)) (s1 := (slots + bb)) C1 M (k_X5_see h5) kw_14_5 Y_X5_see (rv_X5 C1 M) ⟨Nat.le_of_ble_eq_true rfl, Nat.le_of_ble_eq_true rfl⟩ rfl hl.1 rfl (Nat.le_of_ble_eq_true rfl) dL_law_295 rfl rfl ⟨hrm.1, hrm.2⟩ rfl (fun H locs M => ?_)
  refine lv_icmp_eq (tgt := 1045) hx hb dL_law_298 (by decide) (fun _ => ?_) (fun c1 => ?_)
  · exact kk _ _ H locs _ _ M hRI hBD2
  · exact absurd rfl c1
set_option maxHeartbeats 4000000 in
set_option maxRecDepth 100000 in
theorem lw_turn (hL : L ≤ 3584) (hX : va_X b L xs s s.heap) (hbl : b < s.heap.size) (C1 : Cx p s m #[Value.ref b] c cL_law 4 RL D cy) (hst : S_turn RI) (h3 : x3 = nI (7 * n)) (hn : 7 * n + 7 ≤ L) (hl : lv_has ls 4 [(0, .ref b), (1, .ref (sb 0)), (2, .ref (sb 13)), (3, .int x3)]) (M : Ws D s.heap.size cy sb db g s H locs) (hR : RI n g) (hBD : BD n g cells slots) (kk : ∀ (db : Nat → Nat) (g : Gs) (H : Heap) (locs : List Loc) (cells slots : Nat), Ws D s.heap.size cy sb db g s H locs → RI (n + 1) g → BD (n + 1) g cells slots → W p l e room_1 s m #[Value.ref b] below meth c H locs cells slots Q (F0 m 1045 ls [])) : W p l e room_1 s m #[Value.ref b] below meth c H locs cells slots Q (F0 m 303 ls []) := by
  obtain ⟨hx, hb, hml, hown, hts, hK⟩ := id C1
  have hbA : ¬ (fun q : Nat => s.heap.size ≤ q) b := Nat.not_le.mpr hbl
  have hn5 : n < 512 := by omega
  refine lv_aload_n hx hb dL_law_303 rfl (lv_at hl 1 rfl) ?_
  refine lv_aload_n hx hb dL_law_304 rfl (lv_at hl 0 rfl) ?_
  refine lv_iload_n hx hb dL_law_305 rfl (lv_at hl 3 rfl) ?_
  refine lv_iconst (v := 1) hx hb dL_law_306 (by decide) ?_
  refine lv_iadd hx hb dL_law_307 ?_
  refine va_sld hx hb hX hbl hbA M.2 (lw_in h3 hL hn (k := 1) (by decide) rfl) dL_law_308 ?_
  obtain ⟨r, g1, g2, a, bb, h4, h5, hRI, hCB⟩ := hst n g (xs (x3 + 1).toNatClampNeg) hR hn5
  have hBD2 := BD_step hBD hCB
  have hrm := BD_room hBD2 (by omega)
  refine kVA (As := [.int (xs (x3 + 1).toNatClampNeg)]) (rest := []) (stk := [.int r]) (val := (some (.int r))) (c1 := (cells + a)) (s1 := (slots + bb)) C1 M (k_X4_turn h4) kw_14_17 Y_X4_turn (rv_X4 C1 M) ⟨Nat.le_of_ble_eq_true rfl, Nat.le_of_ble_eq_true rfl⟩ rfl hl.1 rfl (Nat.le_of_ble_eq_true rfl) dL_law_309 rfl rfl ⟨hrm.1, hrm.2⟩ rfl (fun db H locs M => ?_)
  refine lv_aload_n hx hb dL_law_312 rfl (lv_at hl 2 rfl) ?_
  refine lv_aload_n hx hb dL_law_313 rfl (lv_at hl 0 rfl) ?_
  refine lv_iload_n hx hb dL_law_314 rfl (lv_at hl 3 rfl) ?_
  refine lv_iconst (v := 1) hx hb dL_law_315 (by decide) ?_
  refine lv_iadd hx hb dL_law_316 ?_
  refine va_sld hx hb hX hbl hbA M.2 (lw_in h3 hL hn (k := 1) (by decide) rfl) dL_law_317 ?_
  refine kV (As := [.int (xs (x3 + 1).toNatClampNeg)]) (rest := [.int r]) (stk := [.int r, .int r]) (val := (some (.int r))) (c1 := (cells + a)) (s1 := (slots + bb)) C1 M (k_X5_turn h5) kw_15_17 Y_X5_turn (rv_X5 C1 M) ⟨Nat.le_of_ble_eq_true rfl, Nat.le_of_ble_eq_true rfl⟩ rfl hl.1 rfl (Nat.le_of_ble_eq_true rfl) dL_law_318 rfl rfl ⟨hrm.1, hrm.2⟩ rfl (fun H locs M => ?_)
  refine lv_icmp_eq (tgt := 1045) hx hb dL_law_321 (by decide) (fun _ => ?_) (fun c1 => ?_)
  · exact kk _ _ H locs _ _ M hRI hBD2
  · exact absurd rfl c1
set_option maxHeartbeats 4000000 in
set_option maxRecDepth 100000 in
theorem lw_cut (hL : L ≤ 3584) (hX : va_X b L xs s s.heap) (hbl : b < s.heap.size) (C1 : Cx p s m #[Value.ref b] c cL_law 4 RL D cy) (hst : S_cut RI) (h3 : x3 = nI (7 * n)) (hn : 7 * n + 7 ≤ L) (hl : lv_has ls 4 [(0, .ref b), (1, .ref (sb 0)), (2, .ref (sb 13)), (3, .int x3)]) (M : Ws D s.heap.size cy sb db g s H locs) (hR : RI n g) (hBD : BD n g cells slots) (kk : ∀ (db : Nat → Nat) (g : Gs) (H : Heap) (locs : List Loc) (cells slots : Nat), Ws D s.heap.size cy sb db g s H locs → RI (n + 1) g → BD (n + 1) g cells slots → W p l e room_1 s m #[Value.ref b] below meth c H locs cells slots Q (F0 m 1045 ls [])) : W p l e room_1 s m #[Value.ref b] below meth c H locs cells slots Q (F0 m 326 ls []) := by
  obtain ⟨hx, hb, hml, hown, hts, hK⟩ := id C1
  have hbA : ¬ (fun q : Nat => s.heap.size ≤ q) b := Nat.not_le.mpr hbl
  have hn5 : n < 512 := by omega
  refine lv_aload_n hx hb dL_law_326 rfl (lv_at hl 1 rfl) ?_
  refine lv_aload_n hx hb dL_law_327 rfl (lv_at hl 0 rfl) ?_
  refine lv_iload_n hx hb dL_law_328 rfl (lv_at hl 3 rfl) ?_
  refine lv_iconst (v := 1) hx hb dL_law_329 (by decide) ?_
  refine lv_iadd hx hb dL_law_330 ?_
  refine va_sld hx hb hX hbl hbA M.2 (lw_in h3 hL hn (k := 1) (by decide) rfl) dL_law_331 ?_
  obtain ⟨r, g1, g2, a, bb, h4, h5, hRI, hCB⟩ := hst n g (xs (x3 + 1).toNatClampNeg) hR hn5
  have hBD2 := BD_step hBD hCB
  have hrm := BD_room hBD2 (by omega)
  refine kVA (As := [.int (xs (x3 + 1).toNatClampNeg)]) (rest := []) (stk := [.int r]) (val := (some (.int r))) (c1 := (cells + a)) (s1 := (slots + bb)) C1 M (k_X4_cut h4) kw_16_1 Y_X4_cut (rv_X4 C1 M) ⟨Nat.le_of_ble_eq_true rfl, Nat.le_of_ble_eq_true rfl⟩ rfl hl.1 rfl (Nat.le_of_ble_eq_true rfl) dL_law_332 rfl rfl ⟨hrm.1, hrm.2⟩ rfl (fun db H locs M => ?_)
  refine lv_aload_n hx hb dL_law_335 rfl (lv_at hl 2 rfl) ?_
  refine lv_aload_n hx hb dL_law_336 rfl (lv_at hl 0 rfl) ?_
  refine lv_iload_n hx hb dL_law_337 rfl (lv_at hl 3 rfl) ?_
  refine lv_iconst (v := 1) hx hb dL_law_338 (by decide) ?_
  refine lv_iadd hx hb dL_law_339 ?_
  refine va_sld hx hb hX hbl hbA M.2 (lw_in h3 hL hn (k := 1) (by decide) rfl) dL_law_340 ?_
  refine kV (As := [.int (xs (x3 + 1).toNatClampNeg)]) (rest := [.int r]) (stk := [.int r, .int r]) (val := (some (.int r))) (c1 := (cells + a)) (s1 := (slots + bb)) C1 M (k_X5_cut h5) kw_17_9 Y_X5_cut (rv_X5 C1 M) ⟨Nat.le_of_ble_eq_true rfl, Nat.le_of_ble_eq_true rfl⟩ rfl hl.1 rfl (Nat.le_of_ble_eq_true rfl) dL_law_341 rfl rfl ⟨hrm.1, hrm.2⟩ rfl (fun H locs M => ?_)
  refine lv_icmp_eq (tgt := 1045) hx hb dL_law_344 (by decide) (fun _ => ?_) (fun c1 => ?_)
  · exact kk _ _ H locs _ _ M hRI hBD2
  · exact absurd rfl c1
set_option maxHeartbeats 4000000 in
set_option maxRecDepth 100000 in
theorem lw_deep (hL : L ≤ 3584) (hX : va_X b L xs s s.heap) (hbl : b < s.heap.size) (C1 : Cx p s m #[Value.ref b] c cL_law 4 RL D cy) (hst : S_deep RI) (h3 : x3 = nI (7 * n)) (hn : 7 * n + 7 ≤ L) (hl : lv_has ls 4 [(0, .ref b), (1, .ref (sb 0)), (2, .ref (sb 13)), (3, .int x3)]) (M : Ws D s.heap.size cy sb db g s H locs) (hR : RI n g) (hBD : BD n g cells slots) (kk : ∀ (db : Nat → Nat) (g : Gs) (H : Heap) (locs : List Loc) (cells slots : Nat), Ws D s.heap.size cy sb db g s H locs → RI (n + 1) g → BD (n + 1) g cells slots → W p l e room_1 s m #[Value.ref b] below meth c H locs cells slots Q (F0 m 1045 ls [])) : W p l e room_1 s m #[Value.ref b] below meth c H locs cells slots Q (F0 m 349 ls []) := by
  obtain ⟨hx, hb, hml, hown, hts, hK⟩ := id C1
  have hbA : ¬ (fun q : Nat => s.heap.size ≤ q) b := Nat.not_le.mpr hbl
  have hn5 : n < 512 := by omega
  refine lv_aload_n hx hb dL_law_349 rfl (lv_at hl 1 rfl) ?_
  refine lv_aload_n hx hb dL_law_350 rfl (lv_at hl 0 rfl) ?_
  refine lv_iload_n hx hb dL_law_351 rfl (lv_at hl 3 rfl) ?_
  refine lv_iconst (v := 1) hx hb dL_law_352 (by decide) ?_
  refine lv_iadd hx hb dL_law_353 ?_
  refine va_sld hx hb hX hbl hbA M.2 (lw_in h3 hL hn (k := 1) (by decide) rfl) dL_law_354 ?_
  obtain ⟨r, g1, g2, a, bb, h4, h5, hRI, hCB⟩ := hst n g (xs (x3 + 1).toNatClampNeg) hR hn5
  have hBD2 := BD_step hBD hCB
  have hrm := BD_room hBD2 (by omega)
  refine kVA (As := [.int (xs (x3 + 1).toNatClampNeg)]) (rest := []) (stk := [.int r]) (val := (some (.int r))) (c1 := (cells + a)) (s1 := (slots + bb)) C1 M (k_X4_deep h4) kw_18_1 Y_X4_deep (rv_X4 C1 M) ⟨Nat.le_of_ble_eq_true rfl, Nat.le_of_ble_eq_true rfl⟩ rfl hl.1 rfl (Nat.le_of_ble_eq_true rfl) dL_law_355 rfl rfl ⟨hrm.1, hrm.2⟩ rfl (fun db H locs M => ?_)
  refine lv_aload_n hx hb dL_law_358 rfl (lv_at hl 2 rfl) ?_
  refine lv_aload_n hx hb dL_law_359 rfl (lv_at hl 0 rfl) ?_
  refine lv_iload_n hx hb dL_law_360 rfl (lv_at hl 3 rfl) ?_
  refine lv_iconst (v := 1) hx hb dL_law_361 (by decide) ?_
  refine lv_iadd hx hb dL_law_362 ?_
  refine va_sld hx hb hX hbl hbA M.2 (lw_in h3 hL hn (k := 1) (by decide) rfl) dL_law_363 ?_
  refine kV (As := [.int (xs (x3 + 1).toNatClampNeg)]) (rest := [.int r]) (stk := [.int r, .int r]) (val := (some (.int r))) (c1 := (cells + a)) (s1 := (slots + bb)) C1 M (k_X5_deep h5) kw_18_9 Y_X5_deep (rv_X5 C1 M) ⟨Nat.le_of_ble_eq_true rfl, Nat.le_of_ble_eq_true rfl⟩ rfl hl.1 rfl (Nat.le_of_ble_eq_true rfl) dL_law_364 rfl rfl ⟨hrm.1, hrm.2⟩ rfl (fun H locs M => ?_)
  refine lv_icmp_eq (tgt := 1045) hx hb dL_law_367 (by decide) (fun _ => ?_) (fun c1 => ?_)
  · exact kk _ _ H locs _ _ M hRI hBD2
  · exact absurd rfl c1
set_option maxHeartbeats 4000000 in
set_option maxRecDepth 100000 in
theorem lw_flat (hL : L ≤ 3584) (hX : va_X b L xs s s.heap) (hbl : b < s.heap.size) (C1 : Cx p s m #[Value.ref b] c cL_law 4 RL D cy) (hst : S_flat RI) (h3 : x3 = nI (7 * n)) (hn : 7 * n + 7 ≤ L) (hl : lv_has ls 4 [(0, .ref b), (1, .ref (sb 0)), (2, .ref (sb 13)), (3, .int x3)]) (M : Ws D s.heap.size cy sb db g s H locs) (hR : RI n g) (hBD : BD n g cells slots) (kk : ∀ (db : Nat → Nat) (g : Gs) (H : Heap) (locs : List Loc) (cells slots : Nat), Ws D s.heap.size cy sb db g s H locs → RI (n + 1) g → BD (n + 1) g cells slots → W p l e room_1 s m #[Value.ref b] below meth c H locs cells slots Q (F0 m 1045 ls [])) : W p l e room_1 s m #[Value.ref b] below meth c H locs cells slots Q (F0 m 372 ls []) := by
  obtain ⟨hx, hb, hml, hown, hts, hK⟩ := id C1
  have hbA : ¬ (fun q : Nat => s.heap.size ≤ q) b := Nat.not_le.mpr hbl
  have hn5 : n < 512 := by omega
  refine lv_aload_n hx hb dL_law_372 rfl (lv_at hl 1 rfl) ?_
  refine lv_aload_n hx hb dL_law_373 rfl (lv_at hl 0 rfl) ?_
  refine lv_iload_n hx hb dL_law_374 rfl (lv_at hl 3 rfl) ?_
  refine lv_iconst (v := 1) hx hb dL_law_375 (by decide) ?_
  refine lv_iadd hx hb dL_law_376 ?_
  refine va_sld hx hb hX hbl hbA M.2 (lw_in h3 hL hn (k := 1) (by decide) rfl) dL_law_377 ?_
  obtain ⟨r, g1, g2, a, bb, h4, h5, hRI, hCB⟩ := hst n g (xs (x3 + 1).toNatClampNeg) hR hn5
  have hBD2 := BD_step hBD hCB
  have hrm := BD_room hBD2 (by omega)
  refine kVA (As := [.int (xs (x3 + 1).toNatClampNeg)]) (rest := []) (stk := [.int r]) (val := (some (.int r))) (c1 := (cells + a)) (s1 := (slots + bb)) C1 M (k_X4_flat h4) kw_18_13 Y_X4_flat (rv_X4 C1 M) ⟨Nat.le_of_ble_eq_true rfl, Nat.le_of_ble_eq_true rfl⟩ rfl hl.1 rfl (Nat.le_of_ble_eq_true rfl) dL_law_378 rfl rfl ⟨hrm.1, hrm.2⟩ rfl (fun db H locs M => ?_)
  refine lv_aload_n hx hb dL_law_381 rfl (lv_at hl 2 rfl) ?_
  refine lv_aload_n hx hb dL_law_382 rfl (lv_at hl 0 rfl) ?_
  refine lv_iload_n hx hb dL_law_383 rfl (lv_at hl 3 rfl) ?_
  refine lv_iconst (v := 1) hx hb dL_law_384 (by decide) ?_
  refine lv_iadd hx hb dL_law_385 ?_
  refine va_sld hx hb hX hbl hbA M.2 (lw_in h3 hL hn (k := 1) (by decide) rfl) dL_law_386 ?_
  refine kV (As := [.int (xs (x3 + 1).toNatClampNeg)]) (rest := [.int r]) (stk := [.int r, .int r]) (val := (some (.int r))) (c1 := (cells + a)) (s1 := (slots + bb)) C1 M (k_X5_flat h5) kw_18_21 Y_X5_flat (rv_X5 C1 M) ⟨Nat.le_of_ble_eq_true rfl, Nat.le_of_ble_eq_true rfl⟩ rfl hl.1 rfl (Nat.le_of_ble_eq_true rfl) dL_law_387 rfl rfl ⟨hrm.1, hrm.2⟩ rfl (fun H locs M => ?_)
  refine lv_icmp_eq (tgt := 1045) hx hb dL_law_390 (by decide) (fun _ => ?_) (fun c1 => ?_)
  · exact kk _ _ H locs _ _ M hRI hBD2
  · exact absurd rfl c1
set_option maxHeartbeats 4000000 in
set_option maxRecDepth 100000 in
theorem lw_ragged (hL : L ≤ 3584) (hX : va_X b L xs s s.heap) (hbl : b < s.heap.size) (C1 : Cx p s m #[Value.ref b] c cL_law 4 RL D cy) (hst : S_ragged RI) (h3 : x3 = nI (7 * n)) (hn : 7 * n + 7 ≤ L) (hl : lv_has ls 4 [(0, .ref b), (1, .ref (sb 0)), (2, .ref (sb 13)), (3, .int x3)]) (M : Ws D s.heap.size cy sb db g s H locs) (hR : RI n g) (hBD : BD n g cells slots) (kk : ∀ (db : Nat → Nat) (g : Gs) (H : Heap) (locs : List Loc) (cells slots : Nat), Ws D s.heap.size cy sb db g s H locs → RI (n + 1) g → BD (n + 1) g cells slots → W p l e room_1 s m #[Value.ref b] below meth c H locs cells slots Q (F0 m 1045 ls [])) : W p l e room_1 s m #[Value.ref b] below meth c H locs cells slots Q (F0 m 395 ls []) := by
  obtain ⟨hx, hb, hml, hown, hts, hK⟩ := id C1
  have hbA : ¬ (fun q : Nat => s.heap.size ≤ q) b := Nat.not_le.mpr hbl
  have hn5 : n < 512 := by omega
  refine lv_aload_n hx hb dL_law_395 rfl (lv_at hl 1 rfl) ?_
  refine lv_aload_n hx hb dL_law_396 rfl (lv_at hl 0 rfl) ?_
  refine lv_iload_n hx hb dL_law_397 rfl (lv_at hl 3 rfl) ?_
  refine lv_iconst (v := 1) hx hb dL_law_398 (by decide) ?_
  refine lv_iadd hx hb dL_law_399 ?_
  refine va_sld hx hb hX hbl hbA M.2 (lw_in h3 hL hn (k := 1) (by decide) rfl) dL_law_400 ?_
  refine lv_aload_n hx hb dL_law_401 rfl (lv_at hl 0 rfl) ?_
  refine lv_iload_n hx hb dL_law_402 rfl (lv_at hl 3 rfl) ?_
  refine lv_iconst (v := 2) hx hb dL_law_403 (by decide) ?_
  refine lv_iadd hx hb dL_law_404 ?_
  refine va_sld hx hb hX hbl hbA M.2 (lw_in h3 hL hn (k := 2) (by decide) rfl) dL_law_405 ?_
  refine lv_aload_n hx hb dL_law_406 rfl (lv_at hl 0 rfl) ?_
  refine lv_iload_n hx hb dL_law_407 rfl (lv_at hl 3 rfl) ?_
  refine lv_iconst (v := 3) hx hb dL_law_408 (by decide) ?_
  refine lv_iadd hx hb dL_law_409 ?_
  refine va_sld hx hb hX hbl hbA M.2 (lw_in h3 hL hn (k := 3) (by decide) rfl) dL_law_410 ?_
  obtain ⟨r, g1, g2, a, bb, h4, h5, hRI, hCB⟩ := hst n g (xs (x3 + 1).toNatClampNeg) (xs (x3 + 2).toNatClampNeg) (xs (x3 + 3).toNatClampNeg) hR hn5
  have hBD2 := BD_step hBD hCB
  have hrm := BD_room hBD2 (by omega)
  refine kVA (As := [.int (xs (x3 + 1).toNatClampNeg), .int (xs (x3 + 2).toNatClampNeg), .int (xs (x3 + 3).toNatClampNeg)]) (rest := []) (stk := [.int r]) (val := (some (.int r))) (c1 := (cells + a)) (s1 := (slots + bb)) C1 M (k_X4_ragged h4) kw_19_5 Y_X4_ragged (rv_X4 C1 M) ⟨Nat.le_of_ble_eq_true rfl, Nat.le_of_ble_eq_true rfl⟩ rfl hl.1 rfl (Nat.le_of_ble_eq_true rfl) dL_law_411 rfl rfl ⟨hrm.1, hrm.2⟩ rfl (fun db H locs M => ?_)
  refine lv_aload_n hx hb dL_law_414 rfl (lv_at hl 2 rfl) ?_
  refine lv_aload_n hx hb dL_law_415 rfl (lv_at hl 0 rfl) ?_
  refine lv_iload_n hx hb dL_law_416 rfl (lv_at hl 3 rfl) ?_
  refine lv_iconst (v := 1) hx hb dL_law_417 (by decide) ?_
  refine lv_iadd hx hb dL_law_418 ?_
  refine va_sld hx hb hX hbl hbA M.2 (lw_in h3 hL hn (k := 1) (by decide) rfl) dL_law_419 ?_
  refine lv_aload_n hx hb dL_law_420 rfl (lv_at hl 0 rfl) ?_
  refine lv_iload_n hx hb dL_law_421 rfl (lv_at hl 3 rfl) ?_
  refine lv_iconst (v := 2) hx hb dL_law_422 (by decide) ?_
  refine lv_iadd hx hb dL_law_423 ?_
  refine va_sld hx hb hX hbl hbA M.2 (lw_in h3 hL hn (k := 2) (by decide) rfl) dL_law_424 ?_
  refine lv_aload_n hx hb dL_law_425 rfl (lv_at hl 0 rfl) ?_
  refine lv_iload_n hx hb dL_law_426 rfl (lv_at hl 3 rfl) ?_
  refine lv_iconst (v := 3) hx hb dL_law_427 (by decide) ?_
  refine lv_iadd hx hb dL_law_428 ?_
  refine va_sld hx hb hX hbl hbA M.2 (lw_in h3 hL hn (k := 3) (by decide) rfl) dL_law_429 ?_
  refine kV (As := [.int (xs (x3 + 1).toNatClampNeg), .int (xs (x3 + 2).toNatClampNeg), .int (xs (x3 + 3).toNatClampNeg)]) (rest := [.int r]) (stk := [.int r, .int r]) (val := (some (.int r))) (c1 := (cells + a)) (s1 := (slots + bb)) C1 M (k_X5_ragged h5) kw_19_15 Y_X5_ragged (rv_X5 C1 M) ⟨Nat.le_of_ble_eq_true rfl, Nat.le_of_ble_eq_true rfl⟩ rfl hl.1 rfl (Nat.le_of_ble_eq_true rfl) dL_law_430 rfl rfl ⟨hrm.1, hrm.2⟩ rfl (fun H locs M => ?_)
  refine lv_icmp_eq (tgt := 1045) hx hb dL_law_433 (by decide) (fun _ => ?_) (fun c1 => ?_)
  · exact kk _ _ H locs _ _ M hRI hBD2
  · exact absurd rfl c1
set_option maxHeartbeats 4000000 in
set_option maxRecDepth 100000 in
theorem lw_without (hL : L ≤ 3584) (hX : va_X b L xs s s.heap) (hbl : b < s.heap.size) (C1 : Cx p s m #[Value.ref b] c cL_law 4 RL D cy) (hst : S_without RI) (h3 : x3 = nI (7 * n)) (hn : 7 * n + 7 ≤ L) (hl : lv_has ls 4 [(0, .ref b), (1, .ref (sb 0)), (2, .ref (sb 13)), (3, .int x3)]) (M : Ws D s.heap.size cy sb db g s H locs) (hR : RI n g) (hBD : BD n g cells slots) (kk : ∀ (db : Nat → Nat) (g : Gs) (H : Heap) (locs : List Loc) (cells slots : Nat), Ws D s.heap.size cy sb db g s H locs → RI (n + 1) g → BD (n + 1) g cells slots → W p l e room_1 s m #[Value.ref b] below meth c H locs cells slots Q (F0 m 1045 ls [])) : W p l e room_1 s m #[Value.ref b] below meth c H locs cells slots Q (F0 m 438 ls []) := by
  obtain ⟨hx, hb, hml, hown, hts, hK⟩ := id C1
  have hbA : ¬ (fun q : Nat => s.heap.size ≤ q) b := Nat.not_le.mpr hbl
  have hn5 : n < 512 := by omega
  refine lv_aload_n hx hb dL_law_438 rfl (lv_at hl 1 rfl) ?_
  refine lv_aload_n hx hb dL_law_439 rfl (lv_at hl 0 rfl) ?_
  refine lv_iload_n hx hb dL_law_440 rfl (lv_at hl 3 rfl) ?_
  refine lv_iconst (v := 1) hx hb dL_law_441 (by decide) ?_
  refine lv_iadd hx hb dL_law_442 ?_
  refine va_sld hx hb hX hbl hbA M.2 (lw_in h3 hL hn (k := 1) (by decide) rfl) dL_law_443 ?_
  refine lv_aload_n hx hb dL_law_444 rfl (lv_at hl 0 rfl) ?_
  refine lv_iload_n hx hb dL_law_445 rfl (lv_at hl 3 rfl) ?_
  refine lv_iconst (v := 2) hx hb dL_law_446 (by decide) ?_
  refine lv_iadd hx hb dL_law_447 ?_
  refine va_sld hx hb hX hbl hbA M.2 (lw_in h3 hL hn (k := 2) (by decide) rfl) dL_law_448 ?_
  obtain ⟨r, g1, g2, h4, h5, hRI, hCB⟩ := hst n g (xs (x3 + 1).toNatClampNeg) (xs (x3 + 2).toNatClampNeg) hR hn5
  have hBD2 := BD_step hBD hCB
  have hrm := BD_room hBD2 (by omega)
  refine kV (As := [.int (xs (x3 + 1).toNatClampNeg), .int (xs (x3 + 2).toNatClampNeg)]) (rest := []) (stk := [.int r]) (val := (some (.int r))) (c1 := cells) (s1 := slots) C1 M (k_X4_without h4) kw_20_3 Y_X4_without (rv_X4 C1 M) ⟨Nat.le_of_ble_eq_true rfl, Nat.le_of_ble_eq_true rfl⟩ rfl hl.1 rfl (Nat.le_of_ble_eq_true rfl) dL_law_449 rfl rfl ⟨hrm.1, hrm.2⟩ rfl (fun H locs M => ?_)
  refine lv_aload_n hx hb dL_law_452 rfl (lv_at hl 2 rfl) ?_
  refine lv_aload_n hx hb dL_law_453 rfl (lv_at hl 0 rfl) ?_
  refine lv_iload_n hx hb dL_law_454 rfl (lv_at hl 3 rfl) ?_
  refine lv_iconst (v := 1) hx hb dL_law_455 (by decide) ?_
  refine lv_iadd hx hb dL_law_456 ?_
  refine va_sld hx hb hX hbl hbA M.2 (lw_in h3 hL hn (k := 1) (by decide) rfl) dL_law_457 ?_
  refine lv_aload_n hx hb dL_law_458 rfl (lv_at hl 0 rfl) ?_
  refine lv_iload_n hx hb dL_law_459 rfl (lv_at hl 3 rfl) ?_
  refine lv_iconst (v := 2) hx hb dL_law_460 (by decide) ?_
  refine lv_iadd hx hb dL_law_461 ?_
  refine va_sld hx hb hX hbl hbA M.2 (lw_in h3 hL hn (k := 2) (by decide) rfl) dL_law_462 ?_
  refine kV (As := [.int (xs (x3 + 1).toNatClampNeg), .int (xs (x3 + 2).toNatClampNeg)]) (rest := [.int r]) (stk := [.int r, .int r]) (val := (some (.int r))) (c1 := cells) (s1 := slots) C1 M (k_X5_without h5) kw_20_7 Y_X5_without (rv_X5 C1 M) ⟨Nat.le_of_ble_eq_true rfl, Nat.le_of_ble_eq_true rfl⟩ rfl hl.1 rfl (Nat.le_of_ble_eq_true rfl) dL_law_463 rfl rfl ⟨hrm.1, hrm.2⟩ rfl (fun H locs M => ?_)
  refine lv_icmp_eq (tgt := 1045) hx hb dL_law_466 (by decide) (fun _ => ?_) (fun c1 => ?_)
  · exact kk _ _ H locs _ _ M hRI hBD2
  · exact absurd rfl c1
set_option maxHeartbeats 4000000 in
set_option maxRecDepth 100000 in
theorem lw_tie (hL : L ≤ 3584) (hX : va_X b L xs s s.heap) (hbl : b < s.heap.size) (C1 : Cx p s m #[Value.ref b] c cL_law 4 RL D cy) (hst : S_tie RI) (h3 : x3 = nI (7 * n)) (hn : 7 * n + 7 ≤ L) (hl : lv_has ls 4 [(0, .ref b), (1, .ref (sb 0)), (2, .ref (sb 13)), (3, .int x3)]) (M : Ws D s.heap.size cy sb db g s H locs) (hR : RI n g) (hBD : BD n g cells slots) (kk : ∀ (db : Nat → Nat) (g : Gs) (H : Heap) (locs : List Loc) (cells slots : Nat), Ws D s.heap.size cy sb db g s H locs → RI (n + 1) g → BD (n + 1) g cells slots → W p l e room_1 s m #[Value.ref b] below meth c H locs cells slots Q (F0 m 1045 ls [])) : W p l e room_1 s m #[Value.ref b] below meth c H locs cells slots Q (F0 m 471 ls []) := by
  obtain ⟨hx, hb, hml, hown, hts, hK⟩ := id C1
  have hbA : ¬ (fun q : Nat => s.heap.size ≤ q) b := Nat.not_le.mpr hbl
  have hn5 : n < 512 := by omega
  refine lv_aload_n hx hb dL_law_471 rfl (lv_at hl 1 rfl) ?_
  refine lv_aload_n hx hb dL_law_472 rfl (lv_at hl 0 rfl) ?_
  refine lv_iload_n hx hb dL_law_473 rfl (lv_at hl 3 rfl) ?_
  refine lv_iconst (v := 1) hx hb dL_law_474 (by decide) ?_
  refine lv_iadd hx hb dL_law_475 ?_
  refine va_sld hx hb hX hbl hbA M.2 (lw_in h3 hL hn (k := 1) (by decide) rfl) dL_law_476 ?_
  refine lv_aload_n hx hb dL_law_477 rfl (lv_at hl 0 rfl) ?_
  refine lv_iload_n hx hb dL_law_478 rfl (lv_at hl 3 rfl) ?_
  refine lv_iconst (v := 2) hx hb dL_law_479 (by decide) ?_
  refine lv_iadd hx hb dL_law_480 ?_
  refine va_sld hx hb hX hbl hbA M.2 (lw_in h3 hL hn (k := 2) (by decide) rfl) dL_law_481 ?_
  refine lv_aload_n hx hb dL_law_482 rfl (lv_at hl 0 rfl) ?_
  refine lv_iload_n hx hb dL_law_483 rfl (lv_at hl 3 rfl) ?_
  refine lv_iconst (v := 3) hx hb dL_law_484 (by decide) ?_
  refine lv_iadd hx hb dL_law_485 ?_
  refine va_sld hx hb hX hbl hbA M.2 (lw_in h3 hL hn (k := 3) (by decide) rfl) dL_law_486 ?_
  refine lv_aload_n hx hb dL_law_487 rfl (lv_at hl 0 rfl) ?_
  refine lv_iload_n hx hb dL_law_488 rfl (lv_at hl 3 rfl) ?_
  refine lv_iconst (v := 4) hx hb dL_law_489 (by decide) ?_
  refine lv_iadd hx hb dL_law_490 ?_
  refine va_sld hx hb hX hbl hbA M.2 (lw_in h3 hL hn (k := 4) (by decide) rfl) dL_law_491 ?_
  obtain ⟨r, g1, g2, h4, h5, hRI, hCB⟩ := hst n g (xs (x3 + 1).toNatClampNeg) (xs (x3 + 2).toNatClampNeg) (xs (x3 + 3).toNatClampNeg) (xs (x3 + 4).toNatClampNeg) hR hn5
  have hBD2 := BD_step hBD hCB
  have hrm := BD_room hBD2 (by omega)
  refine kV (As := [.int (xs (x3 + 1).toNatClampNeg), .int (xs (x3 + 2).toNatClampNeg), .int (xs (x3 + 3).toNatClampNeg), .int (xs (x3 + 4).toNatClampNeg)]) (rest := []) (stk := [.int r]) (val := (some (.int r))) (c1 := cells) (s1 := slots) C1 M (k_X4_tie h4) kw_20_11 Y_X4_tie (rv_X4 C1 M) ⟨Nat.le_of_ble_eq_true rfl, Nat.le_of_ble_eq_true rfl⟩ rfl hl.1 rfl (Nat.le_of_ble_eq_true rfl) dL_law_492 rfl rfl ⟨hrm.1, hrm.2⟩ rfl (fun H locs M => ?_)
  refine lv_aload_n hx hb dL_law_495 rfl (lv_at hl 2 rfl) ?_
  refine lv_aload_n hx hb dL_law_496 rfl (lv_at hl 0 rfl) ?_
  refine lv_iload_n hx hb dL_law_497 rfl (lv_at hl 3 rfl) ?_
  refine lv_iconst (v := 1) hx hb dL_law_498 (by decide) ?_
  refine lv_iadd hx hb dL_law_499 ?_
  refine va_sld hx hb hX hbl hbA M.2 (lw_in h3 hL hn (k := 1) (by decide) rfl) dL_law_500 ?_
  refine lv_aload_n hx hb dL_law_501 rfl (lv_at hl 0 rfl) ?_
  refine lv_iload_n hx hb dL_law_502 rfl (lv_at hl 3 rfl) ?_
  refine lv_iconst (v := 2) hx hb dL_law_503 (by decide) ?_
  refine lv_iadd hx hb dL_law_504 ?_
  refine va_sld hx hb hX hbl hbA M.2 (lw_in h3 hL hn (k := 2) (by decide) rfl) dL_law_505 ?_
  refine lv_aload_n hx hb dL_law_506 rfl (lv_at hl 0 rfl) ?_
  refine lv_iload_n hx hb dL_law_507 rfl (lv_at hl 3 rfl) ?_
  refine lv_iconst (v := 3) hx hb dL_law_508 (by decide) ?_
  refine lv_iadd hx hb dL_law_509 ?_
  refine va_sld hx hb hX hbl hbA M.2 (lw_in h3 hL hn (k := 3) (by decide) rfl) dL_law_510 ?_
  refine lv_aload_n hx hb dL_law_511 rfl (lv_at hl 0 rfl) ?_
  refine lv_iload_n hx hb dL_law_512 rfl (lv_at hl 3 rfl) ?_
  refine lv_iconst (v := 4) hx hb dL_law_513 (by decide) ?_
  refine lv_iadd hx hb dL_law_514 ?_
  refine va_sld hx hb hX hbl hbA M.2 (lw_in h3 hL hn (k := 4) (by decide) rfl) dL_law_515 ?_
  refine kV (As := [.int (xs (x3 + 1).toNatClampNeg), .int (xs (x3 + 2).toNatClampNeg), .int (xs (x3 + 3).toNatClampNeg), .int (xs (x3 + 4).toNatClampNeg)]) (rest := [.int r]) (stk := [.int r, .int r]) (val := (some (.int r))) (c1 := cells) (s1 := slots) C1 M (k_X5_tie h5) kw_20_15 Y_X5_tie (rv_X5 C1 M) ⟨Nat.le_of_ble_eq_true rfl, Nat.le_of_ble_eq_true rfl⟩ rfl hl.1 rfl (Nat.le_of_ble_eq_true rfl) dL_law_516 rfl rfl ⟨hrm.1, hrm.2⟩ rfl (fun H locs M => ?_)
  refine lv_icmp_eq (tgt := 1045) hx hb dL_law_519 (by decide) (fun _ => ?_) (fun c1 => ?_)
  · exact kk _ _ H locs _ _ M hRI hBD2
  · exact absurd rfl c1
set_option maxHeartbeats 4000000 in
set_option maxRecDepth 100000 in
theorem lw_get (hL : L ≤ 3584) (hX : va_X b L xs s s.heap) (hbl : b < s.heap.size) (C1 : Cx p s m #[Value.ref b] c cL_law 4 RL D cy) (hst : S_get RI) (h3 : x3 = nI (7 * n)) (hn : 7 * n + 7 ≤ L) (hl : lv_has ls 4 [(0, .ref b), (1, .ref (sb 0)), (2, .ref (sb 13)), (3, .int x3)]) (M : Ws D s.heap.size cy sb db g s H locs) (hR : RI n g) (hBD : BD n g cells slots) (kk : ∀ (db : Nat → Nat) (g : Gs) (H : Heap) (locs : List Loc) (cells slots : Nat), Ws D s.heap.size cy sb db g s H locs → RI (n + 1) g → BD (n + 1) g cells slots → W p l e room_1 s m #[Value.ref b] below meth c H locs cells slots Q (F0 m 1045 ls [])) : W p l e room_1 s m #[Value.ref b] below meth c H locs cells slots Q (F0 m 524 ls []) := by
  obtain ⟨hx, hb, hml, hown, hts, hK⟩ := id C1
  have hbA : ¬ (fun q : Nat => s.heap.size ≤ q) b := Nat.not_le.mpr hbl
  have hn5 : n < 512 := by omega
  refine lv_aload_n hx hb dL_law_524 rfl (lv_at hl 1 rfl) ?_
  refine lv_aload_n hx hb dL_law_525 rfl (lv_at hl 0 rfl) ?_
  refine lv_iload_n hx hb dL_law_526 rfl (lv_at hl 3 rfl) ?_
  refine lv_iconst (v := 1) hx hb dL_law_527 (by decide) ?_
  refine lv_iadd hx hb dL_law_528 ?_
  refine va_sld hx hb hX hbl hbA M.2 (lw_in h3 hL hn (k := 1) (by decide) rfl) dL_law_529 ?_
  refine lv_aload_n hx hb dL_law_530 rfl (lv_at hl 0 rfl) ?_
  refine lv_iload_n hx hb dL_law_531 rfl (lv_at hl 3 rfl) ?_
  refine lv_iconst (v := 2) hx hb dL_law_532 (by decide) ?_
  refine lv_iadd hx hb dL_law_533 ?_
  refine va_sld hx hb hX hbl hbA M.2 (lw_in h3 hL hn (k := 2) (by decide) rfl) dL_law_534 ?_
  refine lv_aload_n hx hb dL_law_535 rfl (lv_at hl 0 rfl) ?_
  refine lv_iload_n hx hb dL_law_536 rfl (lv_at hl 3 rfl) ?_
  refine lv_iconst (v := 3) hx hb dL_law_537 (by decide) ?_
  refine lv_iadd hx hb dL_law_538 ?_
  refine va_sld hx hb hX hbl hbA M.2 (lw_in h3 hL hn (k := 3) (by decide) rfl) dL_law_539 ?_
  refine lv_aload_n hx hb dL_law_540 rfl (lv_at hl 0 rfl) ?_
  refine lv_iload_n hx hb dL_law_541 rfl (lv_at hl 3 rfl) ?_
  refine lv_iconst (v := 4) hx hb dL_law_542 (by decide) ?_
  refine lv_iadd hx hb dL_law_543 ?_
  refine va_sld hx hb hX hbl hbA M.2 (lw_in h3 hL hn (k := 4) (by decide) rfl) dL_law_544 ?_
  obtain ⟨r, g1, g2, h4, h5, hRI, hCB⟩ := hst n g (xs (x3 + 1).toNatClampNeg) (xs (x3 + 2).toNatClampNeg) (xs (x3 + 3).toNatClampNeg) (xs (x3 + 4).toNatClampNeg) hR hn5
  have hBD2 := BD_step hBD hCB
  have hrm := BD_room hBD2 (by omega)
  refine kV (As := [.int (xs (x3 + 1).toNatClampNeg), .int (xs (x3 + 2).toNatClampNeg), .int (xs (x3 + 3).toNatClampNeg), .int (xs (x3 + 4).toNatClampNeg)]) (rest := []) (stk := [.long r]) (val := (some (.long r))) (c1 := cells) (s1 := slots) C1 M (k_X4_get h4) kw_20_19 Y_X4_get (rv_X4 C1 M) ⟨Nat.le_of_ble_eq_true rfl, Nat.le_of_ble_eq_true rfl⟩ rfl hl.1 rfl (Nat.le_of_ble_eq_true rfl) dL_law_545 rfl rfl ⟨hrm.1, hrm.2⟩ rfl (fun H locs M => ?_)
  refine lv_aload_n hx hb dL_law_548 rfl (lv_at hl 2 rfl) ?_
  refine lv_aload_n hx hb dL_law_549 rfl (lv_at hl 0 rfl) ?_
  refine lv_iload_n hx hb dL_law_550 rfl (lv_at hl 3 rfl) ?_
  refine lv_iconst (v := 1) hx hb dL_law_551 (by decide) ?_
  refine lv_iadd hx hb dL_law_552 ?_
  refine va_sld hx hb hX hbl hbA M.2 (lw_in h3 hL hn (k := 1) (by decide) rfl) dL_law_553 ?_
  refine lv_aload_n hx hb dL_law_554 rfl (lv_at hl 0 rfl) ?_
  refine lv_iload_n hx hb dL_law_555 rfl (lv_at hl 3 rfl) ?_
  refine lv_iconst (v := 2) hx hb dL_law_556 (by decide) ?_
  refine lv_iadd hx hb dL_law_557 ?_
  refine va_sld hx hb hX hbl hbA M.2 (lw_in h3 hL hn (k := 2) (by decide) rfl) dL_law_558 ?_
  refine lv_aload_n hx hb dL_law_559 rfl (lv_at hl 0 rfl) ?_
  refine lv_iload_n hx hb dL_law_560 rfl (lv_at hl 3 rfl) ?_
  refine lv_iconst (v := 3) hx hb dL_law_561 (by decide) ?_
  refine lv_iadd hx hb dL_law_562 ?_
  refine va_sld hx hb hX hbl hbA M.2 (lw_in h3 hL hn (k := 3) (by decide) rfl) dL_law_563 ?_
  refine lv_aload_n hx hb dL_law_564 rfl (lv_at hl 0 rfl) ?_
  refine lv_iload_n hx hb dL_law_565 rfl (lv_at hl 3 rfl) ?_
  refine lv_iconst (v := 4) hx hb dL_law_566 (by decide) ?_
  refine lv_iadd hx hb dL_law_567 ?_
  refine va_sld hx hb hX hbl hbA M.2 (lw_in h3 hL hn (k := 4) (by decide) rfl) dL_law_568 ?_
  refine kV (As := [.int (xs (x3 + 1).toNatClampNeg), .int (xs (x3 + 2).toNatClampNeg), .int (xs (x3 + 3).toNatClampNeg), .int (xs (x3 + 4).toNatClampNeg)]) (rest := [.long r]) (stk := [.long r, .long r]) (val := (some (.long r))) (c1 := cells) (s1 := slots) C1 M (k_X5_get h5) kw_21_9 Y_X5_get (rv_X5 C1 M) ⟨Nat.le_of_ble_eq_true rfl, Nat.le_of_ble_eq_true rfl⟩ rfl hl.1 rfl (Nat.le_of_ble_eq_true rfl) dL_law_569 rfl rfl ⟨hrm.1, hrm.2⟩ rfl (fun H locs M => ?_)
  refine W.lcmp hx hb dL_law_572 ?_
  refine lv_if_eq (tgt := 1045) hx hb dL_law_573 (by decide) (fun _ => ?_) (fun c1 => ?_)
  · exact kk _ _ H locs _ _ M hRI hBD2
  · exact absurd (by simp [lg_cmp]) c1
set_option maxHeartbeats 4000000 in
set_option maxRecDepth 100000 in
theorem lw_put (hL : L ≤ 3584) (hX : va_X b L xs s s.heap) (hbl : b < s.heap.size) (C1 : Cx p s m #[Value.ref b] c cL_law 4 RL D cy) (hst : S_put RI) (h3 : x3 = nI (7 * n)) (hn : 7 * n + 7 ≤ L) (hl : lv_has ls 4 [(0, .ref b), (1, .ref (sb 0)), (2, .ref (sb 13)), (3, .int x3)]) (M : Ws D s.heap.size cy sb db g s H locs) (hR : RI n g) (hBD : BD n g cells slots) (kk : ∀ (db : Nat → Nat) (g : Gs) (H : Heap) (locs : List Loc) (cells slots : Nat), Ws D s.heap.size cy sb db g s H locs → RI (n + 1) g → BD (n + 1) g cells slots → W p l e room_1 s m #[Value.ref b] below meth c H locs cells slots Q (F0 m 1045 ls [])) : W p l e room_1 s m #[Value.ref b] below meth c H locs cells slots Q (F0 m 578 ls []) := by
  obtain ⟨hx, hb, hml, hown, hts, hK⟩ := id C1
  have hbA : ¬ (fun q : Nat => s.heap.size ≤ q) b := Nat.not_le.mpr hbl
  have hn5 : n < 512 := by omega
  refine lv_aload_n hx hb dL_law_578 rfl (lv_at hl 1 rfl) ?_
  refine lv_aload_n hx hb dL_law_579 rfl (lv_at hl 0 rfl) ?_
  refine lv_iload_n hx hb dL_law_580 rfl (lv_at hl 3 rfl) ?_
  refine lv_iconst (v := 1) hx hb dL_law_581 (by decide) ?_
  refine lv_iadd hx hb dL_law_582 ?_
  refine va_sld hx hb hX hbl hbA M.2 (lw_in h3 hL hn (k := 1) (by decide) rfl) dL_law_583 ?_
  refine lv_aload_n hx hb dL_law_584 rfl (lv_at hl 0 rfl) ?_
  refine lv_iload_n hx hb dL_law_585 rfl (lv_at hl 3 rfl) ?_
  refine lv_iconst (v := 2) hx hb dL_law_586 (by decide) ?_
  refine lv_iadd hx hb dL_law_587 ?_
  refine va_sld hx hb hX hbl hbA M.2 (lw_in h3 hL hn (k := 2) (by decide) rfl) dL_law_588 ?_
  refine lv_aload_n hx hb dL_law_589 rfl (lv_at hl 0 rfl) ?_
  refine lv_iload_n hx hb dL_law_590 rfl (lv_at hl 3 rfl) ?_
  refine lv_iconst (v := 3) hx hb dL_law_591 (by decide) ?_
  refine lv_iadd hx hb dL_law_592 ?_
  refine va_sld hx hb hX hbl hbA M.2 (lw_in h3 hL hn (k := 3) (by decide) rfl) dL_law_593 ?_
  refine lv_aload_n hx hb dL_law_594 rfl (lv_at hl 0 rfl) ?_
  refine lv_iload_n hx hb dL_law_595 rfl (lv_at hl 3 rfl) ?_
  refine lv_iconst (v := 4) hx hb dL_law_596 (by decide) ?_
  refine lv_iadd hx hb dL_law_597 ?_
  refine va_sld hx hb hX hbl hbA M.2 (lw_in h3 hL hn (k := 4) (by decide) rfl) dL_law_598 ?_
  refine lv_aload_n hx hb dL_law_599 rfl (lv_at hl 0 rfl) ?_
  refine lv_iload_n hx hb dL_law_600 rfl (lv_at hl 3 rfl) ?_
  refine lv_iconst (v := 5) hx hb dL_law_601 (by decide) ?_
  refine lv_iadd hx hb dL_law_602 ?_
  refine va_sld hx hb hX hbl hbA M.2 (lw_in h3 hL hn (k := 5) (by decide) rfl) dL_law_603 ?_
  refine lv_i2l hx hb dL_law_604 rfl ?_
  refine lv_bipush (v := 32) hx hb dL_law_605 (by decide) ?_
  refine lv_lshl hx hb dL_law_607 rfl ?_
  refine lv_aload_n hx hb dL_law_608 rfl (lv_at hl 0 rfl) ?_
  refine lv_iload_n hx hb dL_law_609 rfl (lv_at hl 3 rfl) ?_
  refine lv_bipush (v := 6) hx hb dL_law_610 (by decide) ?_
  refine lv_iadd hx hb dL_law_612 ?_
  refine va_sld hx hb hX hbl hbA M.2 (lw_in h3 hL hn (k := 6) (by decide) rfl) dL_law_613 ?_
  refine lv_i2l hx hb dL_law_614 rfl ?_
  refine lv_ldc2 (v := 4294967295) hx hb hown (hts _ kw_1_6) dL_law_615 ?_
  refine lv_land hx hb dL_law_618 ?_
  refine lv_lor hx hb dL_law_619 ?_
  obtain ⟨r, g1, g2, h4, h5, hRI, hCB⟩ := hst n g (xs (x3 + 1).toNatClampNeg) (xs (x3 + 2).toNatClampNeg) (xs (x3 + 3).toNatClampNeg) (xs (x3 + 4).toNatClampNeg) ((((xs (x3 + 5).toNatClampNeg).toInt64) <<< ((32 : Int32).toInt64 &&& 63)) ||| (((xs (x3 + 6).toNatClampNeg).toInt64) &&& (4294967295 : Int64))) hR hn5
  have hBD2 := BD_step hBD hCB
  have hrm := BD_room hBD2 (by omega)
  refine kV (As := [.int (xs (x3 + 1).toNatClampNeg), .int (xs (x3 + 2).toNatClampNeg), .int (xs (x3 + 3).toNatClampNeg), .int (xs (x3 + 4).toNatClampNeg), .long ((((xs (x3 + 5).toNatClampNeg).toInt64) <<< ((32 : Int32).toInt64 &&& 63)) ||| (((xs (x3 + 6).toNatClampNeg).toInt64) &&& (4294967295 : Int64)))]) (rest := []) (stk := [.int r]) (val := (some (.int r))) (c1 := cells) (s1 := slots) C1 M (k_X4_put h4) kw_21_17 Y_X4_put (rv_X4 C1 M) ⟨Nat.le_of_ble_eq_true rfl, Nat.le_of_ble_eq_true rfl⟩ rfl hl.1 rfl (Nat.le_of_ble_eq_true rfl) dL_law_620 rfl rfl ⟨hrm.1, hrm.2⟩ rfl (fun H locs M => ?_)
  refine lv_aload_n hx hb dL_law_623 rfl (lv_at hl 2 rfl) ?_
  refine lv_aload_n hx hb dL_law_624 rfl (lv_at hl 0 rfl) ?_
  refine lv_iload_n hx hb dL_law_625 rfl (lv_at hl 3 rfl) ?_
  refine lv_iconst (v := 1) hx hb dL_law_626 (by decide) ?_
  refine lv_iadd hx hb dL_law_627 ?_
  refine va_sld hx hb hX hbl hbA M.2 (lw_in h3 hL hn (k := 1) (by decide) rfl) dL_law_628 ?_
  refine lv_aload_n hx hb dL_law_629 rfl (lv_at hl 0 rfl) ?_
  refine lv_iload_n hx hb dL_law_630 rfl (lv_at hl 3 rfl) ?_
  refine lv_iconst (v := 2) hx hb dL_law_631 (by decide) ?_
  refine lv_iadd hx hb dL_law_632 ?_
  refine va_sld hx hb hX hbl hbA M.2 (lw_in h3 hL hn (k := 2) (by decide) rfl) dL_law_633 ?_
  refine lv_aload_n hx hb dL_law_634 rfl (lv_at hl 0 rfl) ?_
  refine lv_iload_n hx hb dL_law_635 rfl (lv_at hl 3 rfl) ?_
  refine lv_iconst (v := 3) hx hb dL_law_636 (by decide) ?_
  refine lv_iadd hx hb dL_law_637 ?_
  refine va_sld hx hb hX hbl hbA M.2 (lw_in h3 hL hn (k := 3) (by decide) rfl) dL_law_638 ?_
  refine lv_aload_n hx hb dL_law_639 rfl (lv_at hl 0 rfl) ?_
  refine lv_iload_n hx hb dL_law_640 rfl (lv_at hl 3 rfl) ?_
  refine lv_iconst (v := 4) hx hb dL_law_641 (by decide) ?_
  refine lv_iadd hx hb dL_law_642 ?_
  refine va_sld hx hb hX hbl hbA M.2 (lw_in h3 hL hn (k := 4) (by decide) rfl) dL_law_643 ?_
  refine lv_aload_n hx hb dL_law_644 rfl (lv_at hl 0 rfl) ?_
  refine lv_iload_n hx hb dL_law_645 rfl (lv_at hl 3 rfl) ?_
  refine lv_iconst (v := 5) hx hb dL_law_646 (by decide) ?_
  refine lv_iadd hx hb dL_law_647 ?_
  refine va_sld hx hb hX hbl hbA M.2 (lw_in h3 hL hn (k := 5) (by decide) rfl) dL_law_648 ?_
  refine lv_i2l hx hb dL_law_649 rfl ?_
  refine lv_bipush (v := 32) hx hb dL_law_650 (by decide) ?_
  refine lv_lshl hx hb dL_law_652 rfl ?_
  refine lv_aload_n hx hb dL_law_653 rfl (lv_at hl 0 rfl) ?_
  refine lv_iload_n hx hb dL_law_654 rfl (lv_at hl 3 rfl) ?_
  refine lv_bipush (v := 6) hx hb dL_law_655 (by decide) ?_
  refine lv_iadd hx hb dL_law_657 ?_
  refine va_sld hx hb hX hbl hbA M.2 (lw_in h3 hL hn (k := 6) (by decide) rfl) dL_law_658 ?_
  refine lv_i2l hx hb dL_law_659 rfl ?_
  refine lv_ldc2 (v := 4294967295) hx hb hown (hts _ kw_1_6) dL_law_660 ?_
  refine lv_land hx hb dL_law_663 ?_
  refine lv_lor hx hb dL_law_664 ?_
  refine kV (As := [.int (xs (x3 + 1).toNatClampNeg), .int (xs (x3 + 2).toNatClampNeg), .int (xs (x3 + 3).toNatClampNeg), .int (xs (x3 + 4).toNatClampNeg), .long ((((xs (x3 + 5).toNatClampNeg).toInt64) <<< ((32 : Int32).toInt64 &&& 63)) ||| (((xs (x3 + 6).toNatClampNeg).toInt64) &&& (4294967295 : Int64)))]) (rest := [.int r]) (stk := [.int r, .int r]) (val := (some (.int r))) (c1 := cells) (s1 := slots) C1 M (k_X5_put h5) kw_22_4 Y_X5_put (rv_X5 C1 M) ⟨Nat.le_of_ble_eq_true rfl, Nat.le_of_ble_eq_true rfl⟩ rfl hl.1 rfl (Nat.le_of_ble_eq_true rfl) dL_law_665 rfl rfl ⟨hrm.1, hrm.2⟩ rfl (fun H locs M => ?_)
  refine lv_icmp_eq (tgt := 1045) hx hb dL_law_668 (by decide) (fun _ => ?_) (fun c1 => ?_)
  · exact kk _ _ H locs _ _ M hRI hBD2
  · exact absurd rfl c1
set_option maxHeartbeats 4000000 in
set_option maxRecDepth 100000 in
theorem lw_empty (hL : L ≤ 3584) (hX : va_X b L xs s s.heap) (hbl : b < s.heap.size) (C1 : Cx p s m #[Value.ref b] c cL_law 4 RL D cy) (hst : S_empty RI) (h3 : x3 = nI (7 * n)) (hn : 7 * n + 7 ≤ L) (hl : lv_has ls 4 [(0, .ref b), (1, .ref (sb 0)), (2, .ref (sb 13)), (3, .int x3)]) (M : Ws D s.heap.size cy sb db g s H locs) (hR : RI n g) (hBD : BD n g cells slots) (kk : ∀ (db : Nat → Nat) (g : Gs) (H : Heap) (locs : List Loc) (cells slots : Nat), Ws D s.heap.size cy sb db g s H locs → RI (n + 1) g → BD (n + 1) g cells slots → W p l e room_1 s m #[Value.ref b] below meth c H locs cells slots Q (F0 m 1045 ls [])) : W p l e room_1 s m #[Value.ref b] below meth c H locs cells slots Q (F0 m 673 ls []) := by
  obtain ⟨hx, hb, hml, hown, hts, hK⟩ := id C1
  have hbA : ¬ (fun q : Nat => s.heap.size ≤ q) b := Nat.not_le.mpr hbl
  have hn5 : n < 512 := by omega
  refine lv_aload_n hx hb dL_law_673 rfl (lv_at hl 1 rfl) ?_
  refine lv_aload_n hx hb dL_law_674 rfl (lv_at hl 0 rfl) ?_
  refine lv_iload_n hx hb dL_law_675 rfl (lv_at hl 3 rfl) ?_
  refine lv_iconst (v := 1) hx hb dL_law_676 (by decide) ?_
  refine lv_iadd hx hb dL_law_677 ?_
  refine va_sld hx hb hX hbl hbA M.2 (lw_in h3 hL hn (k := 1) (by decide) rfl) dL_law_678 ?_
  refine lv_aload_n hx hb dL_law_679 rfl (lv_at hl 0 rfl) ?_
  refine lv_iload_n hx hb dL_law_680 rfl (lv_at hl 3 rfl) ?_
  refine lv_iconst (v := 2) hx hb dL_law_681 (by decide) ?_
  refine lv_iadd hx hb dL_law_682 ?_
  refine va_sld hx hb hX hbl hbA M.2 (lw_in h3 hL hn (k := 2) (by decide) rfl) dL_law_683 ?_
  refine lv_aload_n hx hb dL_law_684 rfl (lv_at hl 0 rfl) ?_
  refine lv_iload_n hx hb dL_law_685 rfl (lv_at hl 3 rfl) ?_
  refine lv_iconst (v := 3) hx hb dL_law_686 (by decide) ?_
  refine lv_iadd hx hb dL_law_687 ?_
  refine va_sld hx hb hX hbl hbA M.2 (lw_in h3 hL hn (k := 3) (by decide) rfl) dL_law_688 ?_
  refine lv_aload_n hx hb dL_law_689 rfl (lv_at hl 0 rfl) ?_
  refine lv_iload_n hx hb dL_law_690 rfl (lv_at hl 3 rfl) ?_
  refine lv_iconst (v := 4) hx hb dL_law_691 (by decide) ?_
  refine lv_iadd hx hb dL_law_692 ?_
  refine va_sld hx hb hX hbl hbA M.2 (lw_in h3 hL hn (k := 4) (by decide) rfl) dL_law_693 ?_
  obtain ⟨r, g1, g2, h4, h5, hRI, hCB⟩ := hst n g (xs (x3 + 1).toNatClampNeg) (xs (x3 + 2).toNatClampNeg) (xs (x3 + 3).toNatClampNeg) (xs (x3 + 4).toNatClampNeg) hR hn5
  have hBD2 := BD_step hBD hCB
  have hrm := BD_room hBD2 (by omega)
  refine kV (As := [.int (xs (x3 + 1).toNatClampNeg), .int (xs (x3 + 2).toNatClampNeg), .int (xs (x3 + 3).toNatClampNeg), .int (xs (x3 + 4).toNatClampNeg)]) (rest := []) (stk := [.int r]) (val := (some (.int r))) (c1 := cells) (s1 := slots) C1 M (k_X4_empty h4) kw_22_18 Y_X4_empty (rv_X4 C1 M) ⟨Nat.le_of_ble_eq_true rfl, Nat.le_of_ble_eq_true rfl⟩ rfl hl.1 rfl (Nat.le_of_ble_eq_true rfl) dL_law_694 rfl rfl ⟨hrm.1, hrm.2⟩ rfl (fun H locs M => ?_)
  refine lv_aload_n hx hb dL_law_697 rfl (lv_at hl 2 rfl) ?_
  refine lv_aload_n hx hb dL_law_698 rfl (lv_at hl 0 rfl) ?_
  refine lv_iload_n hx hb dL_law_699 rfl (lv_at hl 3 rfl) ?_
  refine lv_iconst (v := 1) hx hb dL_law_700 (by decide) ?_
  refine lv_iadd hx hb dL_law_701 ?_
  refine va_sld hx hb hX hbl hbA M.2 (lw_in h3 hL hn (k := 1) (by decide) rfl) dL_law_702 ?_
  refine lv_aload_n hx hb dL_law_703 rfl (lv_at hl 0 rfl) ?_
  refine lv_iload_n hx hb dL_law_704 rfl (lv_at hl 3 rfl) ?_
  refine lv_iconst (v := 2) hx hb dL_law_705 (by decide) ?_
  refine lv_iadd hx hb dL_law_706 ?_
  refine va_sld hx hb hX hbl hbA M.2 (lw_in h3 hL hn (k := 2) (by decide) rfl) dL_law_707 ?_
  refine lv_aload_n hx hb dL_law_708 rfl (lv_at hl 0 rfl) ?_
  refine lv_iload_n hx hb dL_law_709 rfl (lv_at hl 3 rfl) ?_
  refine lv_iconst (v := 3) hx hb dL_law_710 (by decide) ?_
  refine lv_iadd hx hb dL_law_711 ?_
  refine va_sld hx hb hX hbl hbA M.2 (lw_in h3 hL hn (k := 3) (by decide) rfl) dL_law_712 ?_
  refine lv_aload_n hx hb dL_law_713 rfl (lv_at hl 0 rfl) ?_
  refine lv_iload_n hx hb dL_law_714 rfl (lv_at hl 3 rfl) ?_
  refine lv_iconst (v := 4) hx hb dL_law_715 (by decide) ?_
  refine lv_iadd hx hb dL_law_716 ?_
  refine va_sld hx hb hX hbl hbA M.2 (lw_in h3 hL hn (k := 4) (by decide) rfl) dL_law_717 ?_
  refine kV (As := [.int (xs (x3 + 1).toNatClampNeg), .int (xs (x3 + 2).toNatClampNeg), .int (xs (x3 + 3).toNatClampNeg), .int (xs (x3 + 4).toNatClampNeg)]) (rest := [.int r]) (stk := [.int r, .int r]) (val := (some (.int r))) (c1 := cells) (s1 := slots) C1 M (k_X5_empty h5) kw_23_2 Y_X5_empty (rv_X5 C1 M) ⟨Nat.le_of_ble_eq_true rfl, Nat.le_of_ble_eq_true rfl⟩ rfl hl.1 rfl (Nat.le_of_ble_eq_true rfl) dL_law_718 rfl rfl ⟨hrm.1, hrm.2⟩ rfl (fun H locs M => ?_)
  refine lv_icmp_eq (tgt := 1045) hx hb dL_law_721 (by decide) (fun _ => ?_) (fun c1 => ?_)
  · exact kk _ _ H locs _ _ M hRI hBD2
  · exact absurd rfl c1
set_option maxHeartbeats 4000000 in
set_option maxRecDepth 100000 in
theorem lw_pair (hL : L ≤ 3584) (hX : va_X b L xs s s.heap) (hbl : b < s.heap.size) (C1 : Cx p s m #[Value.ref b] c cL_law 4 RL D cy) (hst : S_pair RI) (h3 : x3 = nI (7 * n)) (hn : 7 * n + 7 ≤ L) (hl : lv_has ls 4 [(0, .ref b), (1, .ref (sb 0)), (2, .ref (sb 13)), (3, .int x3)]) (M : Ws D s.heap.size cy sb db g s H locs) (hR : RI n g) (hBD : BD n g cells slots) (kk : ∀ (db : Nat → Nat) (g : Gs) (H : Heap) (locs : List Loc) (cells slots : Nat), Ws D s.heap.size cy sb db g s H locs → RI (n + 1) g → BD (n + 1) g cells slots → W p l e room_1 s m #[Value.ref b] below meth c H locs cells slots Q (F0 m 1045 ls [])) : W p l e room_1 s m #[Value.ref b] below meth c H locs cells slots Q (F0 m 726 ls []) := by
  obtain ⟨hx, hb, hml, hown, hts, hK⟩ := id C1
  have hbA : ¬ (fun q : Nat => s.heap.size ≤ q) b := Nat.not_le.mpr hbl
  have hn5 : n < 512 := by omega
  refine lv_aload_n hx hb dL_law_726 rfl (lv_at hl 1 rfl) ?_
  refine lv_aload_n hx hb dL_law_727 rfl (lv_at hl 0 rfl) ?_
  refine lv_iload_n hx hb dL_law_728 rfl (lv_at hl 3 rfl) ?_
  refine lv_iconst (v := 1) hx hb dL_law_729 (by decide) ?_
  refine lv_iadd hx hb dL_law_730 ?_
  refine va_sld hx hb hX hbl hbA M.2 (lw_in h3 hL hn (k := 1) (by decide) rfl) dL_law_731 ?_
  refine lv_aload_n hx hb dL_law_732 rfl (lv_at hl 0 rfl) ?_
  refine lv_iload_n hx hb dL_law_733 rfl (lv_at hl 3 rfl) ?_
  refine lv_iconst (v := 2) hx hb dL_law_734 (by decide) ?_
  refine lv_iadd hx hb dL_law_735 ?_
  refine va_sld hx hb hX hbl hbA M.2 (lw_in h3 hL hn (k := 2) (by decide) rfl) dL_law_736 ?_
  refine lv_aload_n hx hb dL_law_737 rfl (lv_at hl 0 rfl) ?_
  refine lv_iload_n hx hb dL_law_738 rfl (lv_at hl 3 rfl) ?_
  refine lv_iconst (v := 3) hx hb dL_law_739 (by decide) ?_
  refine lv_iadd hx hb dL_law_740 ?_
  refine va_sld hx hb hX hbl hbA M.2 (lw_in h3 hL hn (k := 3) (by decide) rfl) dL_law_741 ?_
  refine lv_aload_n hx hb dL_law_742 rfl (lv_at hl 0 rfl) ?_
  refine lv_iload_n hx hb dL_law_743 rfl (lv_at hl 3 rfl) ?_
  refine lv_iconst (v := 4) hx hb dL_law_744 (by decide) ?_
  refine lv_iadd hx hb dL_law_745 ?_
  refine va_sld hx hb hX hbl hbA M.2 (lw_in h3 hL hn (k := 4) (by decide) rfl) dL_law_746 ?_
  refine lv_i2l hx hb dL_law_747 rfl ?_
  refine lv_bipush (v := 32) hx hb dL_law_748 (by decide) ?_
  refine lv_lshl hx hb dL_law_750 rfl ?_
  refine lv_aload_n hx hb dL_law_751 rfl (lv_at hl 0 rfl) ?_
  refine lv_iload_n hx hb dL_law_752 rfl (lv_at hl 3 rfl) ?_
  refine lv_iconst (v := 5) hx hb dL_law_753 (by decide) ?_
  refine lv_iadd hx hb dL_law_754 ?_
  refine va_sld hx hb hX hbl hbA M.2 (lw_in h3 hL hn (k := 5) (by decide) rfl) dL_law_755 ?_
  refine lv_i2l hx hb dL_law_756 rfl ?_
  refine lv_ldc2 (v := 4294967295) hx hb hown (hts _ kw_1_6) dL_law_757 ?_
  refine lv_land hx hb dL_law_760 ?_
  refine lv_lor hx hb dL_law_761 ?_
  obtain ⟨r, g1, g2, h4, h5, hRI, hCB⟩ := hst n g (xs (x3 + 1).toNatClampNeg) (xs (x3 + 2).toNatClampNeg) (xs (x3 + 3).toNatClampNeg) ((((xs (x3 + 4).toNatClampNeg).toInt64) <<< ((32 : Int32).toInt64 &&& 63)) ||| (((xs (x3 + 5).toNatClampNeg).toInt64) &&& (4294967295 : Int64))) hR hn5
  have hBD2 := BD_step hBD hCB
  have hrm := BD_room hBD2 (by omega)
  refine kV (As := [.int (xs (x3 + 1).toNatClampNeg), .int (xs (x3 + 2).toNatClampNeg), .int (xs (x3 + 3).toNatClampNeg), .long ((((xs (x3 + 4).toNatClampNeg).toInt64) <<< ((32 : Int32).toInt64 &&& 63)) ||| (((xs (x3 + 5).toNatClampNeg).toInt64) &&& (4294967295 : Int64)))]) (rest := []) (stk := [.int r]) (val := (some (.int r))) (c1 := cells) (s1 := slots) C1 M (k_X4_pair h4) kw_23_6 Y_X4_pair (rv_X4 C1 M) ⟨Nat.le_of_ble_eq_true rfl, Nat.le_of_ble_eq_true rfl⟩ rfl hl.1 rfl (Nat.le_of_ble_eq_true rfl) dL_law_762 rfl rfl ⟨hrm.1, hrm.2⟩ rfl (fun H locs M => ?_)
  refine lv_aload_n hx hb dL_law_765 rfl (lv_at hl 2 rfl) ?_
  refine lv_aload_n hx hb dL_law_766 rfl (lv_at hl 0 rfl) ?_
  refine lv_iload_n hx hb dL_law_767 rfl (lv_at hl 3 rfl) ?_
  refine lv_iconst (v := 1) hx hb dL_law_768 (by decide) ?_
  refine lv_iadd hx hb dL_law_769 ?_
  refine va_sld hx hb hX hbl hbA M.2 (lw_in h3 hL hn (k := 1) (by decide) rfl) dL_law_770 ?_
  refine lv_aload_n hx hb dL_law_771 rfl (lv_at hl 0 rfl) ?_
  refine lv_iload_n hx hb dL_law_772 rfl (lv_at hl 3 rfl) ?_
  refine lv_iconst (v := 2) hx hb dL_law_773 (by decide) ?_
  refine lv_iadd hx hb dL_law_774 ?_
  refine va_sld hx hb hX hbl hbA M.2 (lw_in h3 hL hn (k := 2) (by decide) rfl) dL_law_775 ?_
  refine lv_aload_n hx hb dL_law_776 rfl (lv_at hl 0 rfl) ?_
  refine lv_iload_n hx hb dL_law_777 rfl (lv_at hl 3 rfl) ?_
  refine lv_iconst (v := 3) hx hb dL_law_778 (by decide) ?_
  refine lv_iadd hx hb dL_law_779 ?_
  refine va_sld hx hb hX hbl hbA M.2 (lw_in h3 hL hn (k := 3) (by decide) rfl) dL_law_780 ?_
  refine lv_aload_n hx hb dL_law_781 rfl (lv_at hl 0 rfl) ?_
  refine lv_iload_n hx hb dL_law_782 rfl (lv_at hl 3 rfl) ?_
  refine lv_iconst (v := 4) hx hb dL_law_783 (by decide) ?_
  refine lv_iadd hx hb dL_law_784 ?_
  refine va_sld hx hb hX hbl hbA M.2 (lw_in h3 hL hn (k := 4) (by decide) rfl) dL_law_785 ?_
  refine lv_i2l hx hb dL_law_786 rfl ?_
  refine lv_bipush (v := 32) hx hb dL_law_787 (by decide) ?_
  refine lv_lshl hx hb dL_law_789 rfl ?_
  refine lv_aload_n hx hb dL_law_790 rfl (lv_at hl 0 rfl) ?_
  refine lv_iload_n hx hb dL_law_791 rfl (lv_at hl 3 rfl) ?_
  refine lv_iconst (v := 5) hx hb dL_law_792 (by decide) ?_
  refine lv_iadd hx hb dL_law_793 ?_
  refine va_sld hx hb hX hbl hbA M.2 (lw_in h3 hL hn (k := 5) (by decide) rfl) dL_law_794 ?_
  refine lv_i2l hx hb dL_law_795 rfl ?_
  refine lv_ldc2 (v := 4294967295) hx hb hown (hts _ kw_1_6) dL_law_796 ?_
  refine lv_land hx hb dL_law_799 ?_
  refine lv_lor hx hb dL_law_800 ?_
  refine kV (As := [.int (xs (x3 + 1).toNatClampNeg), .int (xs (x3 + 2).toNatClampNeg), .int (xs (x3 + 3).toNatClampNeg), .long ((((xs (x3 + 4).toNatClampNeg).toInt64) <<< ((32 : Int32).toInt64 &&& 63)) ||| (((xs (x3 + 5).toNatClampNeg).toInt64) &&& (4294967295 : Int64)))]) (rest := [.int r]) (stk := [.int r, .int r]) (val := (some (.int r))) (c1 := cells) (s1 := slots) C1 M (k_X5_pair h5) kw_23_16 Y_X5_pair (rv_X5 C1 M) ⟨Nat.le_of_ble_eq_true rfl, Nat.le_of_ble_eq_true rfl⟩ rfl hl.1 rfl (Nat.le_of_ble_eq_true rfl) dL_law_801 rfl rfl ⟨hrm.1, hrm.2⟩ rfl (fun H locs M => ?_)
  refine lv_icmp_eq (tgt := 1045) hx hb dL_law_804 (by decide) (fun _ => ?_) (fun c1 => ?_)
  · exact kk _ _ H locs _ _ M hRI hBD2
  · exact absurd rfl c1
set_option maxHeartbeats 4000000 in
set_option maxRecDepth 100000 in
theorem lw_gather (hL : L ≤ 3584) (hX : va_X b L xs s s.heap) (hbl : b < s.heap.size) (C1 : Cx p s m #[Value.ref b] c cL_law 4 RL D cy) (hst : S_gather RI) (h3 : x3 = nI (7 * n)) (hn : 7 * n + 7 ≤ L) (hl : lv_has ls 4 [(0, .ref b), (1, .ref (sb 0)), (2, .ref (sb 13)), (3, .int x3)]) (M : Ws D s.heap.size cy sb db g s H locs) (hR : RI n g) (hBD : BD n g cells slots) (kk : ∀ (db : Nat → Nat) (g : Gs) (H : Heap) (locs : List Loc) (cells slots : Nat), Ws D s.heap.size cy sb db g s H locs → RI (n + 1) g → BD (n + 1) g cells slots → W p l e room_1 s m #[Value.ref b] below meth c H locs cells slots Q (F0 m 1045 ls [])) : W p l e room_1 s m #[Value.ref b] below meth c H locs cells slots Q (F0 m 809 ls []) := by
  obtain ⟨hx, hb, hml, hown, hts, hK⟩ := id C1
  have hbA : ¬ (fun q : Nat => s.heap.size ≤ q) b := Nat.not_le.mpr hbl
  have hn5 : n < 512 := by omega
  refine lv_aload_n hx hb dL_law_809 rfl (lv_at hl 1 rfl) ?_
  refine lv_aload_n hx hb dL_law_810 rfl (lv_at hl 0 rfl) ?_
  refine lv_iload_n hx hb dL_law_811 rfl (lv_at hl 3 rfl) ?_
  refine lv_iconst (v := 1) hx hb dL_law_812 (by decide) ?_
  refine lv_iadd hx hb dL_law_813 ?_
  refine va_sld hx hb hX hbl hbA M.2 (lw_in h3 hL hn (k := 1) (by decide) rfl) dL_law_814 ?_
  refine lv_aload_n hx hb dL_law_815 rfl (lv_at hl 0 rfl) ?_
  refine lv_iload_n hx hb dL_law_816 rfl (lv_at hl 3 rfl) ?_
  refine lv_iconst (v := 2) hx hb dL_law_817 (by decide) ?_
  refine lv_iadd hx hb dL_law_818 ?_
  refine va_sld hx hb hX hbl hbA M.2 (lw_in h3 hL hn (k := 2) (by decide) rfl) dL_law_819 ?_
  obtain ⟨r, g1, g2, h4, h5, hRI, hCB⟩ := hst n g (xs (x3 + 1).toNatClampNeg) (xs (x3 + 2).toNatClampNeg) hR hn5
  have hBD2 := BD_step hBD hCB
  have hrm := BD_room hBD2 (by omega)
  refine kV (As := [.int (xs (x3 + 1).toNatClampNeg), .int (xs (x3 + 2).toNatClampNeg)]) (rest := []) (stk := [.int r]) (val := (some (.int r))) (c1 := cells) (s1 := slots) C1 M (k_X4_gather h4) kw_23_21 Y_X4_gather (rv_X4 C1 M) ⟨Nat.le_of_ble_eq_true rfl, Nat.le_of_ble_eq_true rfl⟩ rfl hl.1 rfl (Nat.le_of_ble_eq_true rfl) dL_law_820 rfl rfl ⟨hrm.1, hrm.2⟩ rfl (fun H locs M => ?_)
  refine lv_aload_n hx hb dL_law_823 rfl (lv_at hl 2 rfl) ?_
  refine lv_aload_n hx hb dL_law_824 rfl (lv_at hl 0 rfl) ?_
  refine lv_iload_n hx hb dL_law_825 rfl (lv_at hl 3 rfl) ?_
  refine lv_iconst (v := 1) hx hb dL_law_826 (by decide) ?_
  refine lv_iadd hx hb dL_law_827 ?_
  refine va_sld hx hb hX hbl hbA M.2 (lw_in h3 hL hn (k := 1) (by decide) rfl) dL_law_828 ?_
  refine lv_aload_n hx hb dL_law_829 rfl (lv_at hl 0 rfl) ?_
  refine lv_iload_n hx hb dL_law_830 rfl (lv_at hl 3 rfl) ?_
  refine lv_iconst (v := 2) hx hb dL_law_831 (by decide) ?_
  refine lv_iadd hx hb dL_law_832 ?_
  refine va_sld hx hb hX hbl hbA M.2 (lw_in h3 hL hn (k := 2) (by decide) rfl) dL_law_833 ?_
  refine kV (As := [.int (xs (x3 + 1).toNatClampNeg), .int (xs (x3 + 2).toNatClampNeg)]) (rest := [.int r]) (stk := [.int r, .int r]) (val := (some (.int r))) (c1 := cells) (s1 := slots) C1 M (k_X5_gather h5) kw_24_14 Y_X5_gather (rv_X5 C1 M) ⟨Nat.le_of_ble_eq_true rfl, Nat.le_of_ble_eq_true rfl⟩ rfl hl.1 rfl (Nat.le_of_ble_eq_true rfl) dL_law_834 rfl rfl ⟨hrm.1, hrm.2⟩ rfl (fun H locs M => ?_)
  refine lv_icmp_eq (tgt := 1045) hx hb dL_law_837 (by decide) (fun _ => ?_) (fun c1 => ?_)
  · exact kk _ _ H locs _ _ M hRI hBD2
  · exact absurd rfl c1
set_option maxHeartbeats 4000000 in
set_option maxRecDepth 100000 in
theorem lw_join (hL : L ≤ 3584) (hX : va_X b L xs s s.heap) (hbl : b < s.heap.size) (C1 : Cx p s m #[Value.ref b] c cL_law 4 RL D cy) (hst : S_join RI) (h3 : x3 = nI (7 * n)) (hn : 7 * n + 7 ≤ L) (hl : lv_has ls 4 [(0, .ref b), (1, .ref (sb 0)), (2, .ref (sb 13)), (3, .int x3)]) (M : Ws D s.heap.size cy sb db g s H locs) (hR : RI n g) (hBD : BD n g cells slots) (kk : ∀ (db : Nat → Nat) (g : Gs) (H : Heap) (locs : List Loc) (cells slots : Nat), Ws D s.heap.size cy sb db g s H locs → RI (n + 1) g → BD (n + 1) g cells slots → W p l e room_1 s m #[Value.ref b] below meth c H locs cells slots Q (F0 m 1045 ls [])) : W p l e room_1 s m #[Value.ref b] below meth c H locs cells slots Q (F0 m 842 ls []) := by
  obtain ⟨hx, hb, hml, hown, hts, hK⟩ := id C1
  have hbA : ¬ (fun q : Nat => s.heap.size ≤ q) b := Nat.not_le.mpr hbl
  have hn5 : n < 512 := by omega
  refine lv_aload_n hx hb dL_law_842 rfl (lv_at hl 1 rfl) ?_
  refine lv_aload_n hx hb dL_law_843 rfl (lv_at hl 0 rfl) ?_
  refine lv_iload_n hx hb dL_law_844 rfl (lv_at hl 3 rfl) ?_
  refine lv_iconst (v := 1) hx hb dL_law_845 (by decide) ?_
  refine lv_iadd hx hb dL_law_846 ?_
  refine va_sld hx hb hX hbl hbA M.2 (lw_in h3 hL hn (k := 1) (by decide) rfl) dL_law_847 ?_
  refine lv_aload_n hx hb dL_law_848 rfl (lv_at hl 0 rfl) ?_
  refine lv_iload_n hx hb dL_law_849 rfl (lv_at hl 3 rfl) ?_
  refine lv_iconst (v := 2) hx hb dL_law_850 (by decide) ?_
  refine lv_iadd hx hb dL_law_851 ?_
  refine va_sld hx hb hX hbl hbA M.2 (lw_in h3 hL hn (k := 2) (by decide) rfl) dL_law_852 ?_
  refine lv_aload_n hx hb dL_law_853 rfl (lv_at hl 0 rfl) ?_
  refine lv_iload_n hx hb dL_law_854 rfl (lv_at hl 3 rfl) ?_
  refine lv_iconst (v := 3) hx hb dL_law_855 (by decide) ?_
  refine lv_iadd hx hb dL_law_856 ?_
  refine va_sld hx hb hX hbl hbA M.2 (lw_in h3 hL hn (k := 3) (by decide) rfl) dL_law_857 ?_
  obtain ⟨r, g1, g2, h4, h5, hRI, hCB⟩ := hst n g (xs (x3 + 1).toNatClampNeg) (xs (x3 + 2).toNatClampNeg) (xs (x3 + 3).toNatClampNeg) hR hn5
  have hBD2 := BD_step hBD hCB
  have hrm := BD_room hBD2 (by omega)
  refine kV (As := [.int (xs (x3 + 1).toNatClampNeg), .int (xs (x3 + 2).toNatClampNeg), .int (xs (x3 + 3).toNatClampNeg)]) (rest := []) (stk := [.int r]) (val := (some (.int r))) (c1 := cells) (s1 := slots) C1 M (k_X4_join h4) kw_25_0 Y_X4_join (rv_X4 C1 M) ⟨Nat.le_of_ble_eq_true rfl, Nat.le_of_ble_eq_true rfl⟩ rfl hl.1 rfl (Nat.le_of_ble_eq_true rfl) dL_law_858 rfl rfl ⟨hrm.1, hrm.2⟩ rfl (fun H locs M => ?_)
  refine lv_aload_n hx hb dL_law_861 rfl (lv_at hl 2 rfl) ?_
  refine lv_aload_n hx hb dL_law_862 rfl (lv_at hl 0 rfl) ?_
  refine lv_iload_n hx hb dL_law_863 rfl (lv_at hl 3 rfl) ?_
  refine lv_iconst (v := 1) hx hb dL_law_864 (by decide) ?_
  refine lv_iadd hx hb dL_law_865 ?_
  refine va_sld hx hb hX hbl hbA M.2 (lw_in h3 hL hn (k := 1) (by decide) rfl) dL_law_866 ?_
  refine lv_aload_n hx hb dL_law_867 rfl (lv_at hl 0 rfl) ?_
  refine lv_iload_n hx hb dL_law_868 rfl (lv_at hl 3 rfl) ?_
  refine lv_iconst (v := 2) hx hb dL_law_869 (by decide) ?_
  refine lv_iadd hx hb dL_law_870 ?_
  refine va_sld hx hb hX hbl hbA M.2 (lw_in h3 hL hn (k := 2) (by decide) rfl) dL_law_871 ?_
  refine lv_aload_n hx hb dL_law_872 rfl (lv_at hl 0 rfl) ?_
  refine lv_iload_n hx hb dL_law_873 rfl (lv_at hl 3 rfl) ?_
  refine lv_iconst (v := 3) hx hb dL_law_874 (by decide) ?_
  refine lv_iadd hx hb dL_law_875 ?_
  refine va_sld hx hb hX hbl hbA M.2 (lw_in h3 hL hn (k := 3) (by decide) rfl) dL_law_876 ?_
  refine kV (As := [.int (xs (x3 + 1).toNatClampNeg), .int (xs (x3 + 2).toNatClampNeg), .int (xs (x3 + 3).toNatClampNeg)]) (rest := [.int r]) (stk := [.int r, .int r]) (val := (some (.int r))) (c1 := cells) (s1 := slots) C1 M (k_X5_join h5) kw_25_8 Y_X5_join (rv_X5 C1 M) ⟨Nat.le_of_ble_eq_true rfl, Nat.le_of_ble_eq_true rfl⟩ rfl hl.1 rfl (Nat.le_of_ble_eq_true rfl) dL_law_877 rfl rfl ⟨hrm.1, hrm.2⟩ rfl (fun H locs M => ?_)
  refine lv_icmp_eq (tgt := 1045) hx hb dL_law_880 (by decide) (fun _ => ?_) (fun c1 => ?_)
  · exact kk _ _ H locs _ _ M hRI hBD2
  · exact absurd rfl c1
set_option maxHeartbeats 4000000 in
set_option maxRecDepth 100000 in
theorem lw_sum (hL : L ≤ 3584) (hX : va_X b L xs s s.heap) (hbl : b < s.heap.size) (C1 : Cx p s m #[Value.ref b] c cL_law 4 RL D cy) (hst : S_sum RI) (h3 : x3 = nI (7 * n)) (hn : 7 * n + 7 ≤ L) (hl : lv_has ls 4 [(0, .ref b), (1, .ref (sb 0)), (2, .ref (sb 13)), (3, .int x3)]) (M : Ws D s.heap.size cy sb db g s H locs) (hR : RI n g) (hBD : BD n g cells slots) (kk : ∀ (db : Nat → Nat) (g : Gs) (H : Heap) (locs : List Loc) (cells slots : Nat), Ws D s.heap.size cy sb db g s H locs → RI (n + 1) g → BD (n + 1) g cells slots → W p l e room_1 s m #[Value.ref b] below meth c H locs cells slots Q (F0 m 1045 ls [])) : W p l e room_1 s m #[Value.ref b] below meth c H locs cells slots Q (F0 m 885 ls []) := by
  obtain ⟨hx, hb, hml, hown, hts, hK⟩ := id C1
  have hbA : ¬ (fun q : Nat => s.heap.size ≤ q) b := Nat.not_le.mpr hbl
  have hn5 : n < 512 := by omega
  refine lv_aload_n hx hb dL_law_885 rfl (lv_at hl 1 rfl) ?_
  refine lv_aload_n hx hb dL_law_886 rfl (lv_at hl 0 rfl) ?_
  refine lv_iload_n hx hb dL_law_887 rfl (lv_at hl 3 rfl) ?_
  refine lv_iconst (v := 1) hx hb dL_law_888 (by decide) ?_
  refine lv_iadd hx hb dL_law_889 ?_
  refine va_sld hx hb hX hbl hbA M.2 (lw_in h3 hL hn (k := 1) (by decide) rfl) dL_law_890 ?_
  obtain ⟨r, g1, g2, h4, h5, hRI, hCB⟩ := hst n g (xs (x3 + 1).toNatClampNeg) hR hn5
  have hBD2 := BD_step hBD hCB
  have hrm := BD_room hBD2 (by omega)
  refine kV (As := [.int (xs (x3 + 1).toNatClampNeg)]) (rest := []) (stk := [.long r]) (val := (some (.long r))) (c1 := cells) (s1 := slots) C1 M (k_X4_sum h4) kw_25_12 Y_X4_sum (rv_X4 C1 M) ⟨Nat.le_of_ble_eq_true rfl, Nat.le_of_ble_eq_true rfl⟩ rfl hl.1 rfl (Nat.le_of_ble_eq_true rfl) dL_law_891 rfl rfl ⟨hrm.1, hrm.2⟩ rfl (fun H locs M => ?_)
  refine lv_aload_n hx hb dL_law_894 rfl (lv_at hl 2 rfl) ?_
  refine lv_aload_n hx hb dL_law_895 rfl (lv_at hl 0 rfl) ?_
  refine lv_iload_n hx hb dL_law_896 rfl (lv_at hl 3 rfl) ?_
  refine lv_iconst (v := 1) hx hb dL_law_897 (by decide) ?_
  refine lv_iadd hx hb dL_law_898 ?_
  refine va_sld hx hb hX hbl hbA M.2 (lw_in h3 hL hn (k := 1) (by decide) rfl) dL_law_899 ?_
  refine kV (As := [.int (xs (x3 + 1).toNatClampNeg)]) (rest := [.long r]) (stk := [.long r, .long r]) (val := (some (.long r))) (c1 := cells) (s1 := slots) C1 M (k_X5_sum h5) kw_25_22 Y_X5_sum (rv_X5 C1 M) ⟨Nat.le_of_ble_eq_true rfl, Nat.le_of_ble_eq_true rfl⟩ rfl hl.1 rfl (Nat.le_of_ble_eq_true rfl) dL_law_900 rfl rfl ⟨hrm.1, hrm.2⟩ rfl (fun H locs M => ?_)
  refine W.lcmp hx hb dL_law_903 ?_
  refine lv_if_eq (tgt := 1045) hx hb dL_law_904 (by decide) (fun _ => ?_) (fun c1 => ?_)
  · exact kk _ _ H locs _ _ M hRI hBD2
  · exact absurd (by simp [lg_cmp]) c1
set_option maxHeartbeats 4000000 in
set_option maxRecDepth 100000 in
theorem lw_mean (hL : L ≤ 3584) (hX : va_X b L xs s s.heap) (hbl : b < s.heap.size) (C1 : Cx p s m #[Value.ref b] c cL_law 4 RL D cy) (hst : S_mean RI) (h3 : x3 = nI (7 * n)) (hn : 7 * n + 7 ≤ L) (hl : lv_has ls 4 [(0, .ref b), (1, .ref (sb 0)), (2, .ref (sb 13)), (3, .int x3)]) (M : Ws D s.heap.size cy sb db g s H locs) (hR : RI n g) (hBD : BD n g cells slots) (kk : ∀ (db : Nat → Nat) (g : Gs) (H : Heap) (locs : List Loc) (cells slots : Nat), Ws D s.heap.size cy sb db g s H locs → RI (n + 1) g → BD (n + 1) g cells slots → W p l e room_1 s m #[Value.ref b] below meth c H locs cells slots Q (F0 m 1045 ls [])) : W p l e room_1 s m #[Value.ref b] below meth c H locs cells slots Q (F0 m 909 ls []) := by
  obtain ⟨hx, hb, hml, hown, hts, hK⟩ := id C1
  have hbA : ¬ (fun q : Nat => s.heap.size ≤ q) b := Nat.not_le.mpr hbl
  have hn5 : n < 512 := by omega
  refine lv_aload_n hx hb dL_law_909 rfl (lv_at hl 1 rfl) ?_
  refine lv_aload_n hx hb dL_law_910 rfl (lv_at hl 0 rfl) ?_
  refine lv_iload_n hx hb dL_law_911 rfl (lv_at hl 3 rfl) ?_
  refine lv_iconst (v := 1) hx hb dL_law_912 (by decide) ?_
  refine lv_iadd hx hb dL_law_913 ?_
  refine va_sld hx hb hX hbl hbA M.2 (lw_in h3 hL hn (k := 1) (by decide) rfl) dL_law_914 ?_
  obtain ⟨r, g1, g2, h4, h5, hRI, hCB⟩ := hst n g (xs (x3 + 1).toNatClampNeg) hR hn5
  have hBD2 := BD_step hBD hCB
  have hrm := BD_room hBD2 (by omega)
  refine kV (As := [.int (xs (x3 + 1).toNatClampNeg)]) (rest := []) (stk := [.long r]) (val := (some (.long r))) (c1 := cells) (s1 := slots) C1 M (k_X4_mean h4) kw_26_6 Y_X4_mean (rv_X4 C1 M) ⟨Nat.le_of_ble_eq_true rfl, Nat.le_of_ble_eq_true rfl⟩ rfl hl.1 rfl (Nat.le_of_ble_eq_true rfl) dL_law_915 rfl rfl ⟨hrm.1, hrm.2⟩ rfl (fun H locs M => ?_)
  refine lv_aload_n hx hb dL_law_918 rfl (lv_at hl 2 rfl) ?_
  refine lv_aload_n hx hb dL_law_919 rfl (lv_at hl 0 rfl) ?_
  refine lv_iload_n hx hb dL_law_920 rfl (lv_at hl 3 rfl) ?_
  refine lv_iconst (v := 1) hx hb dL_law_921 (by decide) ?_
  refine lv_iadd hx hb dL_law_922 ?_
  refine va_sld hx hb hX hbl hbA M.2 (lw_in h3 hL hn (k := 1) (by decide) rfl) dL_law_923 ?_
  refine kV (As := [.int (xs (x3 + 1).toNatClampNeg)]) (rest := [.long r]) (stk := [.long r, .long r]) (val := (some (.long r))) (c1 := cells) (s1 := slots) C1 M (k_X5_mean h5) kw_26_10 Y_X5_mean (rv_X5 C1 M) ⟨Nat.le_of_ble_eq_true rfl, Nat.le_of_ble_eq_true rfl⟩ rfl hl.1 rfl (Nat.le_of_ble_eq_true rfl) dL_law_924 rfl rfl ⟨hrm.1, hrm.2⟩ rfl (fun H locs M => ?_)
  refine W.lcmp hx hb dL_law_927 ?_
  refine lv_if_eq (tgt := 1045) hx hb dL_law_928 (by decide) (fun _ => ?_) (fun c1 => ?_)
  · exact kk _ _ H locs _ _ M hRI hBD2
  · exact absurd (by simp [lg_cmp]) c1
set_option maxHeartbeats 4000000 in
set_option maxRecDepth 100000 in
theorem lw_about (hL : L ≤ 3584) (hX : va_X b L xs s s.heap) (hbl : b < s.heap.size) (C1 : Cx p s m #[Value.ref b] c cL_law 4 RL D cy) (hst : S_about RI) (h3 : x3 = nI (7 * n)) (hn : 7 * n + 7 ≤ L) (hl : lv_has ls 4 [(0, .ref b), (1, .ref (sb 0)), (2, .ref (sb 13)), (3, .int x3)]) (M : Ws D s.heap.size cy sb db g s H locs) (hR : RI n g) (hBD : BD n g cells slots) (kk : ∀ (db : Nat → Nat) (g : Gs) (H : Heap) (locs : List Loc) (cells slots : Nat), Ws D s.heap.size cy sb db g s H locs → RI (n + 1) g → BD (n + 1) g cells slots → W p l e room_1 s m #[Value.ref b] below meth c H locs cells slots Q (F0 m 1045 ls [])) : W p l e room_1 s m #[Value.ref b] below meth c H locs cells slots Q (F0 m 933 ls []) := by
  obtain ⟨hx, hb, hml, hown, hts, hK⟩ := id C1
  have hbA : ¬ (fun q : Nat => s.heap.size ≤ q) b := Nat.not_le.mpr hbl
  have hn5 : n < 512 := by omega
  refine lv_aload_n hx hb dL_law_933 rfl (lv_at hl 1 rfl) ?_
  refine lv_aload_n hx hb dL_law_934 rfl (lv_at hl 0 rfl) ?_
  refine lv_iload_n hx hb dL_law_935 rfl (lv_at hl 3 rfl) ?_
  refine lv_iconst (v := 1) hx hb dL_law_936 (by decide) ?_
  refine lv_iadd hx hb dL_law_937 ?_
  refine va_sld hx hb hX hbl hbA M.2 (lw_in h3 hL hn (k := 1) (by decide) rfl) dL_law_938 ?_
  refine lv_aload_n hx hb dL_law_939 rfl (lv_at hl 0 rfl) ?_
  refine lv_iload_n hx hb dL_law_940 rfl (lv_at hl 3 rfl) ?_
  refine lv_iconst (v := 2) hx hb dL_law_941 (by decide) ?_
  refine lv_iadd hx hb dL_law_942 ?_
  refine va_sld hx hb hX hbl hbA M.2 (lw_in h3 hL hn (k := 2) (by decide) rfl) dL_law_943 ?_
  obtain ⟨r, g1, g2, h4, h5, hRI, hCB⟩ := hst n g (xs (x3 + 1).toNatClampNeg) (xs (x3 + 2).toNatClampNeg) hR hn5
  have hBD2 := BD_step hBD hCB
  have hrm := BD_room hBD2 (by omega)
  refine kV (As := [.int (xs (x3 + 1).toNatClampNeg), .int (xs (x3 + 2).toNatClampNeg)]) (rest := []) (stk := [.int r]) (val := (some (.int r))) (c1 := cells) (s1 := slots) C1 M (k_X4_about h4) kw_26_14 Y_X4_about (rv_X4 C1 M) ⟨Nat.le_of_ble_eq_true rfl, Nat.le_of_ble_eq_true rfl⟩ rfl hl.1 rfl (Nat.le_of_ble_eq_true rfl) dL_law_944 rfl rfl ⟨hrm.1, hrm.2⟩ rfl (fun H locs M => ?_)
  refine lv_aload_n hx hb dL_law_947 rfl (lv_at hl 2 rfl) ?_
  refine lv_aload_n hx hb dL_law_948 rfl (lv_at hl 0 rfl) ?_
  refine lv_iload_n hx hb dL_law_949 rfl (lv_at hl 3 rfl) ?_
  refine lv_iconst (v := 1) hx hb dL_law_950 (by decide) ?_
  refine lv_iadd hx hb dL_law_951 ?_
  refine va_sld hx hb hX hbl hbA M.2 (lw_in h3 hL hn (k := 1) (by decide) rfl) dL_law_952 ?_
  refine lv_aload_n hx hb dL_law_953 rfl (lv_at hl 0 rfl) ?_
  refine lv_iload_n hx hb dL_law_954 rfl (lv_at hl 3 rfl) ?_
  refine lv_iconst (v := 2) hx hb dL_law_955 (by decide) ?_
  refine lv_iadd hx hb dL_law_956 ?_
  refine va_sld hx hb hX hbl hbA M.2 (lw_in h3 hL hn (k := 2) (by decide) rfl) dL_law_957 ?_
  refine kV (As := [.int (xs (x3 + 1).toNatClampNeg), .int (xs (x3 + 2).toNatClampNeg)]) (rest := [.int r]) (stk := [.int r, .int r]) (val := (some (.int r))) (c1 := cells) (s1 := slots) C1 M (k_X5_about h5) kw_26_23 Y_X5_about (rv_X5 C1 M) ⟨Nat.le_of_ble_eq_true rfl, Nat.le_of_ble_eq_true rfl⟩ rfl hl.1 rfl (Nat.le_of_ble_eq_true rfl) dL_law_958 rfl rfl ⟨hrm.1, hrm.2⟩ rfl (fun H locs M => ?_)
  refine lv_icmp_eq (tgt := 1045) hx hb dL_law_961 (by decide) (fun _ => ?_) (fun c1 => ?_)
  · exact kk _ _ H locs _ _ M hRI hBD2
  · exact absurd rfl c1
set_option maxHeartbeats 4000000 in
set_option maxRecDepth 100000 in
theorem lw_same (hL : L ≤ 3584) (hX : va_X b L xs s s.heap) (hbl : b < s.heap.size) (C1 : Cx p s m #[Value.ref b] c cL_law 4 RL D cy) (hst : S_same RI) (h3 : x3 = nI (7 * n)) (hn : 7 * n + 7 ≤ L) (hl : lv_has ls 4 [(0, .ref b), (1, .ref (sb 0)), (2, .ref (sb 13)), (3, .int x3)]) (M : Ws D s.heap.size cy sb db g s H locs) (hR : RI n g) (hBD : BD n g cells slots) (kk : ∀ (db : Nat → Nat) (g : Gs) (H : Heap) (locs : List Loc) (cells slots : Nat), Ws D s.heap.size cy sb db g s H locs → RI (n + 1) g → BD (n + 1) g cells slots → W p l e room_1 s m #[Value.ref b] below meth c H locs cells slots Q (F0 m 1045 ls [])) : W p l e room_1 s m #[Value.ref b] below meth c H locs cells slots Q (F0 m 966 ls []) := by
  obtain ⟨hx, hb, hml, hown, hts, hK⟩ := id C1
  have hbA : ¬ (fun q : Nat => s.heap.size ≤ q) b := Nat.not_le.mpr hbl
  have hn5 : n < 512 := by omega
  refine lv_aload_n hx hb dL_law_966 rfl (lv_at hl 1 rfl) ?_
  refine lv_aload_n hx hb dL_law_967 rfl (lv_at hl 0 rfl) ?_
  refine lv_iload_n hx hb dL_law_968 rfl (lv_at hl 3 rfl) ?_
  refine lv_iconst (v := 1) hx hb dL_law_969 (by decide) ?_
  refine lv_iadd hx hb dL_law_970 ?_
  refine va_sld hx hb hX hbl hbA M.2 (lw_in h3 hL hn (k := 1) (by decide) rfl) dL_law_971 ?_
  refine lv_aload_n hx hb dL_law_972 rfl (lv_at hl 0 rfl) ?_
  refine lv_iload_n hx hb dL_law_973 rfl (lv_at hl 3 rfl) ?_
  refine lv_iconst (v := 2) hx hb dL_law_974 (by decide) ?_
  refine lv_iadd hx hb dL_law_975 ?_
  refine va_sld hx hb hX hbl hbA M.2 (lw_in h3 hL hn (k := 2) (by decide) rfl) dL_law_976 ?_
  obtain ⟨r, g1, g2, h4, h5, hRI, hCB⟩ := hst n g (xs (x3 + 1).toNatClampNeg) (xs (x3 + 2).toNatClampNeg) hR hn5
  have hBD2 := BD_step hBD hCB
  have hrm := BD_room hBD2 (by omega)
  refine kV (As := [.int (xs (x3 + 1).toNatClampNeg), .int (xs (x3 + 2).toNatClampNeg)]) (rest := []) (stk := [.int r]) (val := (some (.int r))) (c1 := cells) (s1 := slots) C1 M (k_X4_same h4) kw_27_4 Y_X4_same (rv_X4 C1 M) ⟨Nat.le_of_ble_eq_true rfl, Nat.le_of_ble_eq_true rfl⟩ rfl hl.1 rfl (Nat.le_of_ble_eq_true rfl) dL_law_977 rfl rfl ⟨hrm.1, hrm.2⟩ rfl (fun H locs M => ?_)
  refine lv_aload_n hx hb dL_law_980 rfl (lv_at hl 2 rfl) ?_
  refine lv_aload_n hx hb dL_law_981 rfl (lv_at hl 0 rfl) ?_
  refine lv_iload_n hx hb dL_law_982 rfl (lv_at hl 3 rfl) ?_
  refine lv_iconst (v := 1) hx hb dL_law_983 (by decide) ?_
  refine lv_iadd hx hb dL_law_984 ?_
  refine va_sld hx hb hX hbl hbA M.2 (lw_in h3 hL hn (k := 1) (by decide) rfl) dL_law_985 ?_
  refine lv_aload_n hx hb dL_law_986 rfl (lv_at hl 0 rfl) ?_
  refine lv_iload_n hx hb dL_law_987 rfl (lv_at hl 3 rfl) ?_
  refine lv_iconst (v := 2) hx hb dL_law_988 (by decide) ?_
  refine lv_iadd hx hb dL_law_989 ?_
  refine va_sld hx hb hX hbl hbA M.2 (lw_in h3 hL hn (k := 2) (by decide) rfl) dL_law_990 ?_
  refine kV (As := [.int (xs (x3 + 1).toNatClampNeg), .int (xs (x3 + 2).toNatClampNeg)]) (rest := [.int r]) (stk := [.int r, .int r]) (val := (some (.int r))) (c1 := cells) (s1 := slots) C1 M (k_X5_same h5) kw_27_11 Y_X5_same (rv_X5 C1 M) ⟨Nat.le_of_ble_eq_true rfl, Nat.le_of_ble_eq_true rfl⟩ rfl hl.1 rfl (Nat.le_of_ble_eq_true rfl) dL_law_991 rfl rfl ⟨hrm.1, hrm.2⟩ rfl (fun H locs M => ?_)
  refine lv_icmp_eq (tgt := 1045) hx hb dL_law_994 (by decide) (fun _ => ?_) (fun c1 => ?_)
  · exact kk _ _ H locs _ _ M hRI hBD2
  · exact absurd rfl c1
set_option maxHeartbeats 4000000 in
set_option maxRecDepth 100000 in
theorem lw_compare (hL : L ≤ 3584) (hX : va_X b L xs s s.heap) (hbl : b < s.heap.size) (C1 : Cx p s m #[Value.ref b] c cL_law 4 RL D cy) (hst : S_compare RI) (h3 : x3 = nI (7 * n)) (hn : 7 * n + 7 ≤ L) (hl : lv_has ls 4 [(0, .ref b), (1, .ref (sb 0)), (2, .ref (sb 13)), (3, .int x3)]) (M : Ws D s.heap.size cy sb db g s H locs) (hR : RI n g) (hBD : BD n g cells slots) (kk : ∀ (db : Nat → Nat) (g : Gs) (H : Heap) (locs : List Loc) (cells slots : Nat), Ws D s.heap.size cy sb db g s H locs → RI (n + 1) g → BD (n + 1) g cells slots → W p l e room_1 s m #[Value.ref b] below meth c H locs cells slots Q (F0 m 1045 ls [])) : W p l e room_1 s m #[Value.ref b] below meth c H locs cells slots Q (F0 m 999 ls []) := by
  obtain ⟨hx, hb, hml, hown, hts, hK⟩ := id C1
  have hbA : ¬ (fun q : Nat => s.heap.size ≤ q) b := Nat.not_le.mpr hbl
  have hn5 : n < 512 := by omega
  refine lv_aload_n hx hb dL_law_999 rfl (lv_at hl 1 rfl) ?_
  refine lv_aload_n hx hb dL_law_1000 rfl (lv_at hl 0 rfl) ?_
  refine lv_iload_n hx hb dL_law_1001 rfl (lv_at hl 3 rfl) ?_
  refine lv_iconst (v := 1) hx hb dL_law_1002 (by decide) ?_
  refine lv_iadd hx hb dL_law_1003 ?_
  refine va_sld hx hb hX hbl hbA M.2 (lw_in h3 hL hn (k := 1) (by decide) rfl) dL_law_1004 ?_
  refine lv_aload_n hx hb dL_law_1005 rfl (lv_at hl 0 rfl) ?_
  refine lv_iload_n hx hb dL_law_1006 rfl (lv_at hl 3 rfl) ?_
  refine lv_iconst (v := 2) hx hb dL_law_1007 (by decide) ?_
  refine lv_iadd hx hb dL_law_1008 ?_
  refine va_sld hx hb hX hbl hbA M.2 (lw_in h3 hL hn (k := 2) (by decide) rfl) dL_law_1009 ?_
  obtain ⟨r, g1, g2, h4, h5, hRI, hCB⟩ := hst n g (xs (x3 + 1).toNatClampNeg) (xs (x3 + 2).toNatClampNeg) hR hn5
  have hBD2 := BD_step hBD hCB
  have hrm := BD_room hBD2 (by omega)
  refine kV (As := [.int (xs (x3 + 1).toNatClampNeg), .int (xs (x3 + 2).toNatClampNeg)]) (rest := []) (stk := [.int r]) (val := (some (.int r))) (c1 := cells) (s1 := slots) C1 M (k_X4_compare h4) kw_27_15 Y_X4_compare (rv_X4 C1 M) ⟨Nat.le_of_ble_eq_true rfl, Nat.le_of_ble_eq_true rfl⟩ rfl hl.1 rfl (Nat.le_of_ble_eq_true rfl) dL_law_1010 rfl rfl ⟨hrm.1, hrm.2⟩ rfl (fun H locs M => ?_)
  refine lv_aload_n hx hb dL_law_1013 rfl (lv_at hl 2 rfl) ?_
  refine lv_aload_n hx hb dL_law_1014 rfl (lv_at hl 0 rfl) ?_
  refine lv_iload_n hx hb dL_law_1015 rfl (lv_at hl 3 rfl) ?_
  refine lv_iconst (v := 1) hx hb dL_law_1016 (by decide) ?_
  refine lv_iadd hx hb dL_law_1017 ?_
  refine va_sld hx hb hX hbl hbA M.2 (lw_in h3 hL hn (k := 1) (by decide) rfl) dL_law_1018 ?_
  refine lv_aload_n hx hb dL_law_1019 rfl (lv_at hl 0 rfl) ?_
  refine lv_iload_n hx hb dL_law_1020 rfl (lv_at hl 3 rfl) ?_
  refine lv_iconst (v := 2) hx hb dL_law_1021 (by decide) ?_
  refine lv_iadd hx hb dL_law_1022 ?_
  refine va_sld hx hb hX hbl hbA M.2 (lw_in h3 hL hn (k := 2) (by decide) rfl) dL_law_1023 ?_
  refine kV (As := [.int (xs (x3 + 1).toNatClampNeg), .int (xs (x3 + 2).toNatClampNeg)]) (rest := [.int r]) (stk := [.int r, .int r]) (val := (some (.int r))) (c1 := cells) (s1 := slots) C1 M (k_X5_compare h5) kw_28_8 Y_X5_compare (rv_X5 C1 M) ⟨Nat.le_of_ble_eq_true rfl, Nat.le_of_ble_eq_true rfl⟩ rfl hl.1 rfl (Nat.le_of_ble_eq_true rfl) dL_law_1024 rfl rfl ⟨hrm.1, hrm.2⟩ rfl (fun H locs M => ?_)
  refine lv_icmp_eq (tgt := 1045) hx hb dL_law_1027 (by decide) (fun _ => ?_) (fun c1 => ?_)
  · exact kk _ _ H locs _ _ M hRI hBD2
  · exact absurd rfl c1
set_option maxHeartbeats 4000000 in
set_option maxRecDepth 100000 in
theorem lw_clear (hL : L ≤ 3584) (hX : va_X b L xs s s.heap) (hbl : b < s.heap.size) (C1 : Cx p s m #[Value.ref b] c cL_law 4 RL D cy) (hst : S_clear RI) (h3 : x3 = nI (7 * n)) (hn : 7 * n + 7 ≤ L) (hl : lv_has ls 4 [(0, .ref b), (1, .ref (sb 0)), (2, .ref (sb 13)), (3, .int x3)]) (M : Ws D s.heap.size cy sb db g s H locs) (hR : RI n g) (hBD : BD n g cells slots) (kk : ∀ (db : Nat → Nat) (g : Gs) (H : Heap) (locs : List Loc) (cells slots : Nat), Ws D s.heap.size cy sb db g s H locs → RI (n + 1) g → BD (n + 1) g cells slots → W p l e room_1 s m #[Value.ref b] below meth c H locs cells slots Q (F0 m 1045 ls [])) : W p l e room_1 s m #[Value.ref b] below meth c H locs cells slots Q (F0 m 1032 ls []) := by
  obtain ⟨hx, hb, hml, hown, hts, hK⟩ := id C1
  have hbA : ¬ (fun q : Nat => s.heap.size ≤ q) b := Nat.not_le.mpr hbl
  have hn5 : n < 512 := by omega
  refine lv_aload_n hx hb dL_law_1032 rfl (lv_at hl 1 rfl) ?_
  obtain ⟨r, g1, g2, h4, h5, hRI, hCB⟩ := hst n g  hR hn5
  have hBD2 := BD_step hBD hCB
  have hrm := BD_room hBD2 (by omega)
  refine kV (As := []) (rest := []) (stk := [.int r]) (val := (some (.int r))) (c1 := cells) (s1 := slots) C1 M (k_X4_clear h4) kw_28_12 Y_X4_clear (rv_X4 C1 M) ⟨Nat.le_of_ble_eq_true rfl, Nat.le_of_ble_eq_true rfl⟩ rfl hl.1 rfl (Nat.le_of_ble_eq_true rfl) dL_law_1033 rfl rfl ⟨hrm.1, hrm.2⟩ rfl (fun H locs M => ?_)
  refine lv_aload_n hx hb dL_law_1036 rfl (lv_at hl 2 rfl) ?_
  refine kV (As := []) (rest := [.int r]) (stk := [.int r, .int r]) (val := (some (.int r))) (c1 := cells) (s1 := slots) C1 M (k_X5_clear h5) kw_28_20 Y_X5_clear (rv_X5 C1 M) ⟨Nat.le_of_ble_eq_true rfl, Nat.le_of_ble_eq_true rfl⟩ rfl hl.1 rfl (Nat.le_of_ble_eq_true rfl) dL_law_1037 rfl rfl ⟨hrm.1, hrm.2⟩ rfl (fun H locs M => ?_)
  refine lv_icmp_eq (tgt := 1045) hx hb dL_law_1040 (by decide) (fun _ => ?_) (fun c1 => ?_)
  · exact kk _ _ H locs _ _ M hRI hBD2
  · exact absurd rfl c1
set_option maxHeartbeats 4000000 in
set_option maxRecDepth 100000 in
/-- the law's loop -/
theorem lw_loop (hL : L ≤ 3584) (C0 : lw_At p s m meth c b L xs) (C1 : Cx p s m #[Value.ref b] c cL_law 4 RL D cy) (hdef : ∀ n g, RI n g → n < 512 → RI (n + 1) g) (h_code : S_code RI) (h_which : S_which RI) (h_range : S_range RI) (h_shapeless : S_shapeless RI) (h_make : S_make RI) (h_raw : S_raw RI) (h_see : S_see RI) (h_turn : S_turn RI) (h_cut : S_cut RI) (h_deep : S_deep RI) (h_flat : S_flat RI) (h_ragged : S_ragged RI) (h_without : S_without RI) (h_tie : S_tie RI) (h_get : S_get RI) (h_put : S_put RI) (h_empty : S_empty RI) (h_pair : S_pair RI) (h_gather : S_gather RI) (h_join : S_join RI) (h_sum : S_sum RI) (h_mean : S_mean RI) (h_about : S_about RI) (h_same : S_same RI) (h_compare : S_compare RI) (h_clear : S_clear RI) :
    ∀ (f n : Nat) (x3 : Int32) (db : Nat → Nat) (g : Gs) (H : Heap) (locs : List Loc) (cells slots : Nat) (ls : Array Slot), 513 ≤ f + n → x3 = nI (7 * n) → 7 * n ≤ 3584 → lv_has ls 4 [(0, .ref b), (1, .ref (sb 0)), (2, .ref (sb 13)), (3, .int x3)] → Ws D s.heap.size cy sb db g s H locs → RI n g → BD n g cells slots → W p l e room_1 s m #[Value.ref b] below meth c H locs cells slots (lw_Z below #[Value.ref b] s) (F0 m 18 ls []) := by
  obtain ⟨hx, hb, hr, hml, hown0, hts0, hX, hbl, hlocks, hgv⟩ := id C0
  obtain ⟨-, -, -, hown, hts, hK⟩ := id C1
  have hbA : ¬ (fun q : Nat => s.heap.size ≤ q) b := Nat.not_le.mpr hbl
  intro f
  induction f with
  | zero =>
    intro n x3 db g H locs cells slots ls hf h3 hn
    omega
  | succ f ih =>
    intro n x3 db g H locs cells slots ls hf h3 hn0 hl M hR hBD
    refine lv_iload_n hx hb dL_law_18 rfl (lv_at hl 3 rfl) ?_
    refine lv_aload_n hx hb dL_law_19 rfl (lv_at hl 0 rfl) ?_
    refine va_slen hx hb hX hbl hbA M.2 dL_law_20 ?_
    refine lv_bipush (v := 7) hx hb dL_law_21 (by decide) ?_
    refine lv_isub hx hb dL_law_23 ?_
    have hT : (nI L - 7).toInt = (L : Int) - 7 := pk_sub_toInt (a := L) (b := 7) (by omega) (by omega)
    have h3T : x3.toInt = ((7 * n : Nat) : Int) := by rw [h3]; exact nI_toInt (by omega)
    refine lv_icmp_gt (tgt := 1051) hx hb dL_law_24 (by decide) (fun _ => ?_) (fun c1 => ?_)
    · refine lv_iconst (v := 1) hx hb dL_law_1051 (by decide) ?_
      refine va_forget (fun q hq => M.2.2.2 q hq) ?_
      have hrm := BD_room hBD (by omega)
      refine W.widen (k := 600000) (n := 7302250) hrm.1 hrm.2 ?_
      exact lw_ret hx hb hr hlocks dL_law_1052
    · have hn : 7 * n + 7 ≤ L := by
        have h9 : ¬ (nI L - 7).toInt < x3.toInt := fun q => c1 (Int32.lt_iff_toInt_lt.mpr q)
        rw [hT, h3T] at h9
        omega
      have kk : ∀ (db : Nat → Nat) (g : Gs) (H : Heap) (locs : List Loc) (cells slots : Nat), Ws D s.heap.size cy sb db g s H locs → RI (n + 1) g → BD (n + 1) g cells slots → W p l e room_1 s m #[Value.ref b] below meth c H locs cells slots (lw_Z below #[Value.ref b] s) (F0 m 1045 ls []) := by
        intro db g H locs cells slots M hR hBD
        obtain ⟨x4, hx4⟩ : ∃ y : Int32, y = x3 + 7 := ⟨_, rfl⟩
        refine lv_iinc (v := x4) (lv' := [(3, .int x4), (0, .ref b), (1, .ref (sb 0)), (2, .ref (sb 13))]) hx hb dL_law_1045 hl (k := 3) rfl (by rw [hx4]; rfl) (by decide) rfl (fun ls hl => ?_)
        refine lv_goto (tgt := 18) hx hb dL_law_1048 (by decide) ?_
        exact ih (n + 1) x4 db g H locs cells slots ls (by omega) (by rw [hx4, h3]; exact nI_add (7 * n) 7) (by omega) (lv_sub hl [1, 2, 3, 0] rfl) M hR hBD
      refine lv_aload_n hx hb dL_law_27 rfl (lv_at hl 0 rfl) ?_
      refine lv_iload_n hx hb dL_law_28 rfl (lv_at hl 3 rfl) ?_
      refine va_sld hx hb hX hbl hbA M.2 (by rw [h3]; exact vp_in_nI (by omega) (by omega)) dL_law_29 ?_
      refine lv_bipush (v := 31) hx hb dL_law_30 (by decide) ?_
      refine lv_iand hx hb dL_law_32 ?_
      obtain ⟨j, hj, hjv⟩ := pk_andE (xs x3.toNatClampNeg) (m := 31) 5 (by decide)
      rw [hjv]
      by_cases hj5 : j < 26
      · have hjc : j = 0 ∨ j = 1 ∨ j = 2 ∨ j = 3 ∨ j = 4 ∨ j = 5 ∨ j = 6 ∨ j = 7 ∨ j = 8 ∨ j = 9 ∨ j = 10 ∨ j = 11 ∨ j = 12 ∨ j = 13 ∨ j = 14 ∨ j = 15 ∨ j = 16 ∨ j = 17 ∨ j = 18 ∨ j = 19 ∨ j = 20 ∨ j = 21 ∨ j = 22 ∨ j = 23 ∨ j = 24 ∨ j = 25 := by omega
        rcases hjc with rfl | rfl | rfl | rfl | rfl | rfl | rfl | rfl | rfl | rfl | rfl | rfl | rfl | rfl | rfl | rfl | rfl | rfl | rfl | rfl | rfl | rfl | rfl | rfl | rfl | rfl
        · refine lv_tableIn (tgt := 152) (off := 119) hx hb dL_law_33 (by decide) (by decide) (by decide) (by decide) ?_
          exact lw_code hL hX hbl C1 h_code h3 hn hl M hR hBD kk
        · refine lv_tableIn (tgt := 165) (off := 132) hx hb dL_law_33 (by decide) (by decide) (by decide) (by decide) ?_
          exact lw_which hL hX hbl C1 h_which h3 hn hl M hR hBD kk
        · refine lv_tableIn (tgt := 178) (off := 145) hx hb dL_law_33 (by decide) (by decide) (by decide) (by decide) ?_
          exact lw_range hL hX hbl C1 h_range h3 hn hl M hR hBD kk
        · refine lv_tableIn (tgt := 211) (off := 178) hx hb dL_law_33 (by decide) (by decide) (by decide) (by decide) ?_
          exact lw_shapeless hL hX hbl C1 h_shapeless h3 hn hl M hR hBD kk
        · refine lv_tableIn (tgt := 224) (off := 191) hx hb dL_law_33 (by decide) (by decide) (by decide) (by decide) ?_
          exact lw_make hL hX hbl C1 h_make h3 hn hl M hR hBD kk
        · refine lv_tableIn (tgt := 247) (off := 214) hx hb dL_law_33 (by decide) (by decide) (by decide) (by decide) ?_
          exact lw_raw hL hX hbl C1 h_raw h3 hn hl M hR hBD kk
        · refine lv_tableIn (tgt := 280) (off := 247) hx hb dL_law_33 (by decide) (by decide) (by decide) (by decide) ?_
          exact lw_see hL hX hbl C1 h_see h3 hn hl M hR hBD kk
        · refine lv_tableIn (tgt := 303) (off := 270) hx hb dL_law_33 (by decide) (by decide) (by decide) (by decide) ?_
          exact lw_turn hL hX hbl C1 h_turn h3 hn hl M hR hBD kk
        · refine lv_tableIn (tgt := 326) (off := 293) hx hb dL_law_33 (by decide) (by decide) (by decide) (by decide) ?_
          exact lw_cut hL hX hbl C1 h_cut h3 hn hl M hR hBD kk
        · refine lv_tableIn (tgt := 349) (off := 316) hx hb dL_law_33 (by decide) (by decide) (by decide) (by decide) ?_
          exact lw_deep hL hX hbl C1 h_deep h3 hn hl M hR hBD kk
        · refine lv_tableIn (tgt := 372) (off := 339) hx hb dL_law_33 (by decide) (by decide) (by decide) (by decide) ?_
          exact lw_flat hL hX hbl C1 h_flat h3 hn hl M hR hBD kk
        · refine lv_tableIn (tgt := 395) (off := 362) hx hb dL_law_33 (by decide) (by decide) (by decide) (by decide) ?_
          exact lw_ragged hL hX hbl C1 h_ragged h3 hn hl M hR hBD kk
        · refine lv_tableIn (tgt := 438) (off := 405) hx hb dL_law_33 (by decide) (by decide) (by decide) (by decide) ?_
          exact lw_without hL hX hbl C1 h_without h3 hn hl M hR hBD kk
        · refine lv_tableIn (tgt := 471) (off := 438) hx hb dL_law_33 (by decide) (by decide) (by decide) (by decide) ?_
          exact lw_tie hL hX hbl C1 h_tie h3 hn hl M hR hBD kk
        · refine lv_tableIn (tgt := 524) (off := 491) hx hb dL_law_33 (by decide) (by decide) (by decide) (by decide) ?_
          exact lw_get hL hX hbl C1 h_get h3 hn hl M hR hBD kk
        · refine lv_tableIn (tgt := 578) (off := 545) hx hb dL_law_33 (by decide) (by decide) (by decide) (by decide) ?_
          exact lw_put hL hX hbl C1 h_put h3 hn hl M hR hBD kk
        · refine lv_tableIn (tgt := 673) (off := 640) hx hb dL_law_33 (by decide) (by decide) (by decide) (by decide) ?_
          exact lw_empty hL hX hbl C1 h_empty h3 hn hl M hR hBD kk
        · refine lv_tableIn (tgt := 726) (off := 693) hx hb dL_law_33 (by decide) (by decide) (by decide) (by decide) ?_
          exact lw_pair hL hX hbl C1 h_pair h3 hn hl M hR hBD kk
        · refine lv_tableIn (tgt := 809) (off := 776) hx hb dL_law_33 (by decide) (by decide) (by decide) (by decide) ?_
          exact lw_gather hL hX hbl C1 h_gather h3 hn hl M hR hBD kk
        · refine lv_tableIn (tgt := 842) (off := 809) hx hb dL_law_33 (by decide) (by decide) (by decide) (by decide) ?_
          exact lw_join hL hX hbl C1 h_join h3 hn hl M hR hBD kk
        · refine lv_tableIn (tgt := 885) (off := 852) hx hb dL_law_33 (by decide) (by decide) (by decide) (by decide) ?_
          exact lw_sum hL hX hbl C1 h_sum h3 hn hl M hR hBD kk
        · refine lv_tableIn (tgt := 909) (off := 876) hx hb dL_law_33 (by decide) (by decide) (by decide) (by decide) ?_
          exact lw_mean hL hX hbl C1 h_mean h3 hn hl M hR hBD kk
        · refine lv_tableIn (tgt := 933) (off := 900) hx hb dL_law_33 (by decide) (by decide) (by decide) (by decide) ?_
          exact lw_about hL hX hbl C1 h_about h3 hn hl M hR hBD kk
        · refine lv_tableIn (tgt := 966) (off := 933) hx hb dL_law_33 (by decide) (by decide) (by decide) (by decide) ?_
          exact lw_same hL hX hbl C1 h_same h3 hn hl M hR hBD kk
        · refine lv_tableIn (tgt := 999) (off := 966) hx hb dL_law_33 (by decide) (by decide) (by decide) (by decide) ?_
          exact lw_compare hL hX hbl C1 h_compare h3 hn hl M hR hBD kk
        · refine lv_tableIn (tgt := 1032) (off := 999) hx hb dL_law_33 (by decide) (by decide) (by decide) (by decide) ?_
          exact lw_clear hL hX hbl C1 h_clear h3 hn hl M hR hBD kk
      · refine lv_tableOut (tgt := 1045) hx hb dL_law_33 (Or.inr (by rw [nI_toInt (by omega)]; omega)) (by decide) ?_
        exact kk db g H locs cells slots M (hdef n g hR (by omega)) (by unfold BD at hBD ⊢; omega)
end LAW
