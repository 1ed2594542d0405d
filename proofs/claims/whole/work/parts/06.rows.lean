/-! A row for each field link, each array. Printed by wip/gen/world.py. -/
section ROWS
variable {p : Program} {l : Launch} {e : Env} {R : Room} {s : State} {m : MethodId} {args : Array Value} {below : List Frame} {meth : Method} {c : Code} {H : Heap} {locs : List Loc} {cells slots : Nat} {Q : State → Prop}
variable {cc : ByteArray} {pc nL : Nat} {ls : Array Slot} {rest : List Value} {D : va_G} {b0 : Nat} {cy : Cy} {sb db : Nat → Nat} {g : Gs} {own : String}
theorem gf_RX0_9 (C0 : Cx p s m args c cc nL RX0 D cy) (M : Ws D b0 cy sb db g s H locs) (hdg : decode cc pc = .ok (.getfield 9, 3)) (kk : W p l e R s m args below meth c H locs cells slots Q (F0 m (pc + 3) ls (.ref (sb 4) :: rest))) : W p l e R s m args below meth c H locs cells slots Q (F0 m pc ls (.ref (sb 3) :: rest)) :=
  mg_get C0.1 C0.2.1 C0.2.2.2.2.1 C0.2.2.2.1 C0.2.2.2.2.2 M.1 (k := 3) (Or.inl (by decide)) rfl rfl rfl inlX0 0 (by decide) kw_2_18 rfl rfl hdg kk
theorem gf_RX0_15 (C0 : Cx p s m args c cc nL RX0 D cy) (M : Ws D b0 cy sb db g s H locs) (hdg : decode cc pc = .ok (.getfield 15, 3)) (kk : W p l e R s m args below meth c H locs cells slots Q (F0 m (pc + 3) ls (.ref (sb 5) :: rest))) : W p l e R s m args below meth c H locs cells slots Q (F0 m pc ls (.ref (sb 3) :: rest)) :=
  mg_get C0.1 C0.2.1 C0.2.2.2.2.1 C0.2.2.2.1 C0.2.2.2.2.2 M.1 (k := 3) (Or.inl (by decide)) rfl rfl rfl inlX0 1 (by decide) kw_2_19 rfl rfl hdg kk
theorem gf_RX0_18 (C0 : Cx p s m args c cc nL RX0 D cy) (M : Ws D b0 cy sb db g s H locs) (hdg : decode cc pc = .ok (.getfield 18, 3)) (kk : W p l e R s m args below meth c H locs cells slots Q (F0 m (pc + 3) ls (.ref (sb 6) :: rest))) : W p l e R s m args below meth c H locs cells slots Q (F0 m pc ls (.ref (sb 3) :: rest)) :=
  mg_get C0.1 C0.2.1 C0.2.2.2.2.1 C0.2.2.2.1 C0.2.2.2.2.2 M.1 (k := 3) (Or.inl (by decide)) rfl rfl rfl inlX0 2 (by decide) kw_2_20 rfl rfl hdg kk
theorem gf_RX0_21 (C0 : Cx p s m args c cc nL RX0 D cy) (M : Ws D b0 cy sb db g s H locs) (hdg : decode cc pc = .ok (.getfield 21, 3)) (kk : W p l e R s m args below meth c H locs cells slots Q (F0 m (pc + 3) ls (.ref (sb 7) :: rest))) : W p l e R s m args below meth c H locs cells slots Q (F0 m pc ls (.ref (sb 3) :: rest)) :=
  mg_get C0.1 C0.2.1 C0.2.2.2.2.1 C0.2.2.2.1 C0.2.2.2.2.2 M.1 (k := 3) (Or.inl (by decide)) rfl rfl rfl inlX0 3 (by decide) kw_2_22 rfl rfl hdg kk
theorem gf_RX0_25 (C0 : Cx p s m args c cc nL RX0 D cy) (M : Ws D b0 cy sb db g s H locs) (hdg : decode cc pc = .ok (.getfield 25, 3)) (kk : W p l e R s m args below meth c H locs cells slots Q (F0 m (pc + 3) ls (.int (g.1 7 0 0) :: rest))) : W p l e R s m args below meth c H locs cells slots Q (F0 m pc ls (.ref (sb 3) :: rest)) :=
  mg_get C0.1 C0.2.1 C0.2.2.2.2.1 C0.2.2.2.1 C0.2.2.2.2.2 M.1 (k := 3) (Or.inl (by decide)) rfl rfl rfl inlX0 4 (by decide) kw_23_15 rfl rfl hdg kk
theorem gf_RX1_12 (C0 : Cx p s m args c cc nL RX1 D cy) (M : Ws D b0 cy sb db g s H locs) {n : Nat} (hB : n < 24) (hdg : decode cc pc = .ok (.getfield 12, 3)) (kk : W p l e R s m args below meth c H locs cells slots Q (F0 m (pc + 3) ls (.ref (sb (100 + (n + 1))) :: rest))) : W p l e R s m args below meth c H locs cells slots Q (F0 m pc ls (.ref (sb (400 + n)) :: rest)) :=
  mg_get C0.1 C0.2.1 C0.2.2.2.2.1 C0.2.2.2.1 C0.2.2.2.2.2 M.1 (k := 400 + n) (lv_ma hB) (ad_ma sb db hB) (ct_ma cy sb db g hB) rfl inlX1 0 (by decide) kw_3_11 rfl rfl hdg kk
theorem gf_RX1_18 (C0 : Cx p s m args c cc nL RX1 D cy) (M : Ws D b0 cy sb db g s H locs) {n : Nat} (hB : n < 24) (hdg : decode cc pc = .ok (.getfield 18, 3)) (kk : W p l e R s m args below meth c H locs cells slots Q (F0 m (pc + 3) ls (.int (g.1 17 n 0) :: rest))) : W p l e R s m args below meth c H locs cells slots Q (F0 m pc ls (.ref (sb (400 + n)) :: rest)) :=
  mg_get C0.1 C0.2.1 C0.2.2.2.2.1 C0.2.2.2.1 C0.2.2.2.2.2 M.1 (k := 400 + n) (lv_ma hB) (ad_ma sb db hB) (ct_ma cy sb db g hB) rfl inlX1 2 (by decide) kw_3_12 rfl rfl hdg kk
theorem gf_RX1_22 (C0 : Cx p s m args c cc nL RX1 D cy) (M : Ws D b0 cy sb db g s H locs) {n : Nat} (hB : n < 24) (hdg : decode cc pc = .ok (.getfield 22, 3)) (kk : W p l e R s m args below meth c H locs cells slots Q (F0 m (pc + 3) ls (.ref (db (500 + n)) :: rest))) : W p l e R s m args below meth c H locs cells slots Q (F0 m pc ls (.ref (sb (400 + n)) :: rest)) :=
  mg_get C0.1 C0.2.1 C0.2.2.2.2.1 C0.2.2.2.1 C0.2.2.2.2.2 M.1 (k := 400 + n) (lv_ma hB) (ad_ma sb db hB) (ct_ma cy sb db g hB) rfl inlX1 3 (by decide) kw_3_13 rfl rfl hdg kk
theorem gf_RX2_9 (C0 : Cx p s m args c cc nL RX2 D cy) (M : Ws D b0 cy sb db g s H locs) {o : Nat} (hB : o < 25) (hdg : decode cc pc = .ok (.getfield 9, 3)) (kk : W p l e R s m args below meth c H locs cells slots Q (F0 m (pc + 3) ls (.ref (sb (200 + o)) :: rest))) : W p l e R s m args below meth c H locs cells slots Q (F0 m pc ls (.ref (sb (100 + o)) :: rest)) :=
  mg_get C0.1 C0.2.1 C0.2.2.2.2.1 C0.2.2.2.1 C0.2.2.2.2.2 M.1 (k := 100 + o) (lv_sh hB) (ad_sh sb db hB) (ct_sh cy sb db g hB) rfl inlX2 0 (by decide) kw_2_13 rfl rfl hdg kk
theorem gf_RX2_15 (C0 : Cx p s m args c cc nL RX2 D cy) (M : Ws D b0 cy sb db g s H locs) {o : Nat} (hB : o < 25) (hdg : decode cc pc = .ok (.getfield 15, 3)) (kk : W p l e R s m args below meth c H locs cells slots Q (F0 m (pc + 3) ls (.ref (sb (300 + o)) :: rest))) : W p l e R s m args below meth c H locs cells slots Q (F0 m pc ls (.ref (sb (100 + o)) :: rest)) :=
  mg_get C0.1 C0.2.1 C0.2.2.2.2.1 C0.2.2.2.1 C0.2.2.2.2.2 M.1 (k := 100 + o) (lv_sh hB) (ad_sh sb db hB) (ct_sh cy sb db g hB) rfl inlX2 1 (by decide) kw_2_14 rfl rfl hdg kk
theorem gf_RX2_18 (C0 : Cx p s m args c cc nL RX2 D cy) (M : Ws D b0 cy sb db g s H locs) {o : Nat} (hB : o < 25) (hdg : decode cc pc = .ok (.getfield 18, 3)) (kk : W p l e R s m args below meth c H locs cells slots Q (F0 m (pc + 3) ls (.int (g.1 4 o 0) :: rest))) : W p l e R s m args below meth c H locs cells slots Q (F0 m pc ls (.ref (sb (100 + o)) :: rest)) :=
  mg_get C0.1 C0.2.1 C0.2.2.2.2.1 C0.2.2.2.1 C0.2.2.2.2.2 M.1 (k := 100 + o) (lv_sh hB) (ad_sh sb db hB) (ct_sh cy sb db g hB) rfl inlX2 2 (by decide) kw_5_22 rfl rfl hdg kk
theorem gf_RX3_9 (C0 : Cx p s m args c cc nL RX3 D cy) (M : Ws D b0 cy sb db g s H locs) (hdg : decode cc pc = .ok (.getfield 9, 3)) (kk : W p l e R s m args below meth c H locs cells slots Q (F0 m (pc + 3) ls (.ref (db 9) :: rest))) : W p l e R s m args below meth c H locs cells slots Q (F0 m pc ls (.ref (sb 8) :: rest)) :=
  mg_get C0.1 C0.2.1 C0.2.2.2.2.1 C0.2.2.2.1 C0.2.2.2.2.2 M.1 (k := 8) (Or.inl (by decide)) rfl rfl rfl inlX3 0 (by decide) kw_3_2 rfl rfl hdg kk
theorem gf_RX3_15 (C0 : Cx p s m args c cc nL RX3 D cy) (M : Ws D b0 cy sb db g s H locs) (hdg : decode cc pc = .ok (.getfield 15, 3)) (kk : W p l e R s m args below meth c H locs cells slots Q (F0 m (pc + 3) ls (.ref (db 10) :: rest))) : W p l e R s m args below meth c H locs cells slots Q (F0 m pc ls (.ref (sb 8) :: rest)) :=
  mg_get C0.1 C0.2.1 C0.2.2.2.2.1 C0.2.2.2.1 C0.2.2.2.2.2 M.1 (k := 8) (Or.inl (by decide)) rfl rfl rfl inlX3 1 (by decide) kw_3_4 rfl rfl hdg kk
theorem gf_RX3_19 (C0 : Cx p s m args c cc nL RX3 D cy) (M : Ws D b0 cy sb db g s H locs) (hdg : decode cc pc = .ok (.getfield 19, 3)) (kk : W p l e R s m args below meth c H locs cells slots Q (F0 m (pc + 3) ls (.ref (db 11) :: rest))) : W p l e R s m args below meth c H locs cells slots Q (F0 m pc ls (.ref (sb 8) :: rest)) :=
  mg_get C0.1 C0.2.1 C0.2.2.2.2.1 C0.2.2.2.1 C0.2.2.2.2.2 M.1 (k := 8) (Or.inl (by decide)) rfl rfl rfl inlX3 2 (by decide) kw_3_5 rfl rfl hdg kk
theorem gf_RX3_23 (C0 : Cx p s m args c cc nL RX3 D cy) (M : Ws D b0 cy sb db g s H locs) (hdg : decode cc pc = .ok (.getfield 23, 3)) (kk : W p l e R s m args below meth c H locs cells slots Q (F0 m (pc + 3) ls (.ref (db 12) :: rest))) : W p l e R s m args below meth c H locs cells slots Q (F0 m pc ls (.ref (sb 8) :: rest)) :=
  mg_get C0.1 C0.2.1 C0.2.2.2.2.1 C0.2.2.2.1 C0.2.2.2.2.2 M.1 (k := 8) (Or.inl (by decide)) rfl rfl rfl inlX3 3 (by decide) kw_3_6 rfl rfl hdg kk
theorem gf_RX3_26 (C0 : Cx p s m args c cc nL RX3 D cy) (M : Ws D b0 cy sb db g s H locs) (hdg : decode cc pc = .ok (.getfield 26, 3)) (kk : W p l e R s m args below meth c H locs cells slots Q (F0 m (pc + 3) ls (.int (g.1 12 0 0) :: rest))) : W p l e R s m args below meth c H locs cells slots Q (F0 m pc ls (.ref (sb 8) :: rest)) :=
  mg_get C0.1 C0.2.1 C0.2.2.2.2.1 C0.2.2.2.1 C0.2.2.2.2.2 M.1 (k := 8) (Or.inl (by decide)) rfl rfl rfl inlX3 5 (by decide) kw_8_11 rfl rfl hdg kk
theorem gf_RX3_31 (C0 : Cx p s m args c cc nL RX3 D cy) (M : Ws D b0 cy sb db g s H locs) (hdg : decode cc pc = .ok (.getfield 31, 3)) (kk : W p l e R s m args below meth c H locs cells slots Q (F0 m (pc + 3) ls (.int (g.1 11 0 0) :: rest))) : W p l e R s m args below meth c H locs cells slots Q (F0 m pc ls (.ref (sb 8) :: rest)) :=
  mg_get C0.1 C0.2.1 C0.2.2.2.2.1 C0.2.2.2.1 C0.2.2.2.2.2 M.1 (k := 8) (Or.inl (by decide)) rfl rfl rfl inlX3 4 (by decide) kw_8_13 rfl rfl hdg kk
theorem gf_RX4_12 (C0 : Cx p s m args c cc nL RX4 D cy) (M : Ws D b0 cy sb db g s H locs) (hdg : decode cc pc = .ok (.getfield 12, 3)) (kk : W p l e R s m args below meth c H locs cells slots Q (F0 m (pc + 3) ls (.ref (sb (100 + 0)) :: rest))) : W p l e R s m args below meth c H locs cells slots Q (F0 m pc ls (.ref (sb 0) :: rest)) :=
  mg_get C0.1 C0.2.1 C0.2.2.2.2.1 C0.2.2.2.1 C0.2.2.2.2.2 M.1 (k := 0) (Or.inl (by decide)) rfl rfl rfl inlX4 0 (by decide) kw_1_16 rfl rfl hdg kk
theorem gf_RX4_19 (C0 : Cx p s m args c cc nL RX4 D cy) (M : Ws D b0 cy sb db g s H locs) (hdg : decode cc pc = .ok (.getfield 19, 3)) (kk : W p l e R s m args below meth c H locs cells slots Q (F0 m (pc + 3) ls (.ref (sb 3) :: rest))) : W p l e R s m args below meth c H locs cells slots Q (F0 m pc ls (.ref (sb 0) :: rest)) :=
  mg_get C0.1 C0.2.1 C0.2.2.2.2.1 C0.2.2.2.1 C0.2.2.2.2.2 M.1 (k := 0) (Or.inl (by decide)) rfl rfl rfl inlX4 1 (by decide) kw_1_20 rfl rfl hdg kk
theorem gf_RX4_26 (C0 : Cx p s m args c cc nL RX4 D cy) (M : Ws D b0 cy sb db g s H locs) (hdg : decode cc pc = .ok (.getfield 26, 3)) (kk : W p l e R s m args below meth c H locs cells slots Q (F0 m (pc + 3) ls (.ref (sb 8) :: rest))) : W p l e R s m args below meth c H locs cells slots Q (F0 m pc ls (.ref (sb 0) :: rest)) :=
  mg_get C0.1 C0.2.1 C0.2.2.2.2.1 C0.2.2.2.1 C0.2.2.2.2.2 M.1 (k := 0) (Or.inl (by decide)) rfl rfl rfl inlX4 2 (by decide) kw_2_0 rfl rfl hdg kk
theorem gf_RX4_32 (C0 : Cx p s m args c cc nL RX4 D cy) (M : Ws D b0 cy sb db g s H locs) (hdg : decode cc pc = .ok (.getfield 32, 3)) (kk : W p l e R s m args below meth c H locs cells slots Q (F0 m (pc + 3) ls (.ref (sb 1) :: rest))) : W p l e R s m args below meth c H locs cells slots Q (F0 m pc ls (.ref (sb 0) :: rest)) :=
  mg_get C0.1 C0.2.1 C0.2.2.2.2.1 C0.2.2.2.1 C0.2.2.2.2.2 M.1 (k := 0) (Or.inl (by decide)) rfl rfl rfl inlX4 3 (by decide) kw_2_2 rfl rfl hdg kk
theorem gf_RX4_36 (C0 : Cx p s m args c cc nL RX4 D cy) (M : Ws D b0 cy sb db g s H locs) (hdg : decode cc pc = .ok (.getfield 36, 3)) (kk : W p l e R s m args below meth c H locs cells slots Q (F0 m (pc + 3) ls (.ref (sb 2) :: rest))) : W p l e R s m args below meth c H locs cells slots Q (F0 m pc ls (.ref (sb 0) :: rest)) :=
  mg_get C0.1 C0.2.1 C0.2.2.2.2.1 C0.2.2.2.1 C0.2.2.2.2.2 M.1 (k := 0) (Or.inl (by decide)) rfl rfl rfl inlX4 4 (by decide) kw_2_4 rfl rfl hdg kk
theorem gf_RX4_40 (C0 : Cx p s m args c cc nL RX4 D cy) (M : Ws D b0 cy sb db g s H locs) (hdg : decode cc pc = .ok (.getfield 40, 3)) (kk : W p l e R s m args below meth c H locs cells slots Q (F0 m (pc + 3) ls (.int (g.1 0 0 0) :: rest))) : W p l e R s m args below meth c H locs cells slots Q (F0 m pc ls (.ref (sb 0) :: rest)) :=
  mg_get C0.1 C0.2.1 C0.2.2.2.2.1 C0.2.2.2.1 C0.2.2.2.2.2 M.1 (k := 0) (Or.inl (by decide)) rfl rfl rfl inlX4 5 (by decide) kw_2_5 rfl rfl hdg kk
theorem gf_RX4_44 (C0 : Cx p s m args c cc nL RX4 D cy) (M : Ws D b0 cy sb db g s H locs) (hdg : decode cc pc = .ok (.getfield 44, 3)) (kk : W p l e R s m args below meth c H locs cells slots Q (F0 m (pc + 3) ls (.int (g.1 1 0 0) :: rest))) : W p l e R s m args below meth c H locs cells slots Q (F0 m pc ls (.ref (sb 0) :: rest)) :=
  mg_get C0.1 C0.2.1 C0.2.2.2.2.1 C0.2.2.2.1 C0.2.2.2.2.2 M.1 (k := 0) (Or.inl (by decide)) rfl rfl rfl inlX4 6 (by decide) kw_2_6 rfl rfl hdg kk
theorem gf_RX4_47 (C0 : Cx p s m args c cc nL RX4 D cy) (M : Ws D b0 cy sb db g s H locs) (hdg : decode cc pc = .ok (.getfield 47, 3)) (kk : W p l e R s m args below meth c H locs cells slots Q (F0 m (pc + 3) ls (.int (g.1 2 0 0) :: rest))) : W p l e R s m args below meth c H locs cells slots Q (F0 m pc ls (.ref (sb 0) :: rest)) :=
  mg_get C0.1 C0.2.1 C0.2.2.2.2.1 C0.2.2.2.1 C0.2.2.2.2.2 M.1 (k := 0) (Or.inl (by decide)) rfl rfl rfl inlX4 7 (by decide) kw_2_7 rfl rfl hdg kk
theorem gf_RX4_51 (C0 : Cx p s m args c cc nL RX4 D cy) (M : Ws D b0 cy sb db g s H locs) {o : Nat} (hB : o < 25) (hdg : decode cc pc = .ok (.getfield 51, 3)) (kk : W p l e R s m args below meth c H locs cells slots Q (F0 m (pc + 3) ls (.int (g.1 4 o 0) :: rest))) : W p l e R s m args below meth c H locs cells slots Q (F0 m pc ls (.ref (sb (100 + o)) :: rest)) :=
  mg_get C0.1 C0.2.1 C0.2.2.2.2.1 C0.2.2.2.1 C0.2.2.2.2.2 M.1 (k := 100 + o) (lv_sh hB) (ad_sh sb db hB) (ct_sh cy sb db g hB) rfl inlX2 2 (by decide) kw_5_9 rfl rfl hdg kk
theorem gf_RX4_88 (C0 : Cx p s m args c cc nL RX4 D cy) (M : Ws D b0 cy sb db g s H locs) {n : Nat} (hB : n < 24) (hdg : decode cc pc = .ok (.getfield 88, 3)) (kk : W p l e R s m args below meth c H locs cells slots Q (F0 m (pc + 3) ls (.ref (sb (100 + (n + 1))) :: rest))) : W p l e R s m args below meth c H locs cells slots Q (F0 m pc ls (.ref (sb (400 + n)) :: rest)) :=
  mg_get C0.1 C0.2.1 C0.2.2.2.2.1 C0.2.2.2.1 C0.2.2.2.2.2 M.1 (k := 400 + n) (lv_ma hB) (ad_ma sb db hB) (ct_ma cy sb db g hB) rfl inlX1 0 (by decide) kw_10_8 rfl rfl hdg kk
theorem gf_RX4_100 (C0 : Cx p s m args c cc nL RX4 D cy) (M : Ws D b0 cy sb db g s H locs) {n : Nat} (hB : n < 24) (hdg : decode cc pc = .ok (.getfield 100, 3)) (kk : W p l e R s m args below meth c H locs cells slots Q (F0 m (pc + 3) ls (.int (g.1 17 n 0) :: rest))) : W p l e R s m args below meth c H locs cells slots Q (F0 m pc ls (.ref (sb (400 + n)) :: rest)) :=
  mg_get C0.1 C0.2.1 C0.2.2.2.2.1 C0.2.2.2.1 C0.2.2.2.2.2 M.1 (k := 400 + n) (lv_ma hB) (ad_ma sb db hB) (ct_ma cy sb db g hB) rfl inlX1 2 (by decide) kw_10_14 rfl rfl hdg kk
theorem gf_RX4_106 (C0 : Cx p s m args c cc nL RX4 D cy) (M : Ws D b0 cy sb db g s H locs) {n : Nat} (hB : n < 24) (hdg : decode cc pc = .ok (.getfield 106, 3)) (kk : W p l e R s m args below meth c H locs cells slots Q (F0 m (pc + 3) ls (.int (g.1 16 n 0) :: rest))) : W p l e R s m args below meth c H locs cells slots Q (F0 m pc ls (.ref (sb (400 + n)) :: rest)) :=
  mg_get C0.1 C0.2.1 C0.2.2.2.2.1 C0.2.2.2.1 C0.2.2.2.2.2 M.1 (k := 400 + n) (lv_ma hB) (ad_ma sb db hB) (ct_ma cy sb db g hB) rfl inlX1 1 (by decide) kw_10_13 rfl rfl hdg kk
theorem gf_RX4_133 (C0 : Cx p s m args c cc nL RX4 D cy) (M : Ws D b0 cy sb db g s H locs) {n : Nat} (hB : n < 24) (hdg : decode cc pc = .ok (.getfield 133, 3)) (kk : W p l e R s m args below meth c H locs cells slots Q (F0 m (pc + 3) ls (.ref (db (500 + n)) :: rest))) : W p l e R s m args below meth c H locs cells slots Q (F0 m pc ls (.ref (sb (400 + n)) :: rest)) :=
  mg_get C0.1 C0.2.1 C0.2.2.2.2.1 C0.2.2.2.1 C0.2.2.2.2.2 M.1 (k := 400 + n) (lv_ma hB) (ad_ma sb db hB) (ct_ma cy sb db g hB) rfl inlX1 3 (by decide) kw_11_0 rfl rfl hdg kk
theorem gf_RX4_165 (C0 : Cx p s m args c cc nL RX4 D cy) (M : Ws D b0 cy sb db g s H locs) (hdg : decode cc pc = .ok (.getfield 165, 3)) (kk : W p l e R s m args below meth c H locs cells slots Q (F0 m (pc + 3) ls (.ref (db 10) :: rest))) : W p l e R s m args below meth c H locs cells slots Q (F0 m pc ls (.ref (sb 8) :: rest)) :=
  mg_get C0.1 C0.2.1 C0.2.2.2.2.1 C0.2.2.2.1 C0.2.2.2.2.2 M.1 (k := 8) (Or.inl (by decide)) rfl rfl rfl inlX3 1 (by decide) kw_20_23 rfl rfl hdg kk
theorem gf_RX4_169 (C0 : Cx p s m args c cc nL RX4 D cy) (M : Ws D b0 cy sb db g s H locs) (hdg : decode cc pc = .ok (.getfield 169, 3)) (kk : W p l e R s m args below meth c H locs cells slots Q (F0 m (pc + 3) ls (.ref (db 9) :: rest))) : W p l e R s m args below meth c H locs cells slots Q (F0 m pc ls (.ref (sb 8) :: rest)) :=
  mg_get C0.1 C0.2.1 C0.2.2.2.2.1 C0.2.2.2.1 C0.2.2.2.2.2 M.1 (k := 8) (Or.inl (by decide)) rfl rfl rfl inlX3 0 (by decide) kw_21_0 rfl rfl hdg kk
theorem gf_RX4_185 (C0 : Cx p s m args c cc nL RX4 D cy) (M : Ws D b0 cy sb db g s H locs) (hdg : decode cc pc = .ok (.getfield 185, 3)) (kk : W p l e R s m args below meth c H locs cells slots Q (F0 m (pc + 3) ls (.int (g.1 7 0 0) :: rest))) : W p l e R s m args below meth c H locs cells slots Q (F0 m pc ls (.ref (sb 3) :: rest)) :=
  mg_get C0.1 C0.2.1 C0.2.2.2.2.1 C0.2.2.2.1 C0.2.2.2.2.2 M.1 (k := 3) (Or.inl (by decide)) rfl rfl rfl inlX0 4 (by decide) kw_23_10 rfl rfl hdg kk
theorem gf_RX4_189 (C0 : Cx p s m args c cc nL RX4 D cy) (M : Ws D b0 cy sb db g s H locs) (hdg : decode cc pc = .ok (.getfield 189, 3)) (kk : W p l e R s m args below meth c H locs cells slots Q (F0 m (pc + 3) ls (.ref (sb 4) :: rest))) : W p l e R s m args below meth c H locs cells slots Q (F0 m pc ls (.ref (sb 3) :: rest)) :=
  mg_get C0.1 C0.2.1 C0.2.2.2.2.1 C0.2.2.2.1 C0.2.2.2.2.2 M.1 (k := 3) (Or.inl (by decide)) rfl rfl rfl inlX0 0 (by decide) kw_24_1 rfl rfl hdg kk
theorem gf_RX4_192 (C0 : Cx p s m args c cc nL RX4 D cy) (M : Ws D b0 cy sb db g s H locs) (hdg : decode cc pc = .ok (.getfield 192, 3)) (kk : W p l e R s m args below meth c H locs cells slots Q (F0 m (pc + 3) ls (.ref (sb 5) :: rest))) : W p l e R s m args below meth c H locs cells slots Q (F0 m pc ls (.ref (sb 3) :: rest)) :=
  mg_get C0.1 C0.2.1 C0.2.2.2.2.1 C0.2.2.2.1 C0.2.2.2.2.2 M.1 (k := 3) (Or.inl (by decide)) rfl rfl rfl inlX0 1 (by decide) kw_24_2 rfl rfl hdg kk
theorem gf_RX4_195 (C0 : Cx p s m args c cc nL RX4 D cy) (M : Ws D b0 cy sb db g s H locs) (hdg : decode cc pc = .ok (.getfield 195, 3)) (kk : W p l e R s m args below meth c H locs cells slots Q (F0 m (pc + 3) ls (.ref (sb 6) :: rest))) : W p l e R s m args below meth c H locs cells slots Q (F0 m pc ls (.ref (sb 3) :: rest)) :=
  mg_get C0.1 C0.2.1 C0.2.2.2.2.1 C0.2.2.2.1 C0.2.2.2.2.2 M.1 (k := 3) (Or.inl (by decide)) rfl rfl rfl inlX0 2 (by decide) kw_24_3 rfl rfl hdg kk
theorem gf_RX4_198 (C0 : Cx p s m args c cc nL RX4 D cy) (M : Ws D b0 cy sb db g s H locs) (hdg : decode cc pc = .ok (.getfield 198, 3)) (kk : W p l e R s m args below meth c H locs cells slots Q (F0 m (pc + 3) ls (.ref (sb 7) :: rest))) : W p l e R s m args below meth c H locs cells slots Q (F0 m pc ls (.ref (sb 3) :: rest)) :=
  mg_get C0.1 C0.2.1 C0.2.2.2.2.1 C0.2.2.2.1 C0.2.2.2.2.2 M.1 (k := 3) (Or.inl (by decide)) rfl rfl rfl inlX0 3 (by decide) kw_24_4 rfl rfl hdg kk
theorem gf_RX4_219 (C0 : Cx p s m args c cc nL RX4 D cy) (M : Ws D b0 cy sb db g s H locs) {o : Nat} (hB : o < 25) (hdg : decode cc pc = .ok (.getfield 219, 3)) (kk : W p l e R s m args below meth c H locs cells slots Q (F0 m (pc + 3) ls (.ref (sb (200 + o)) :: rest))) : W p l e R s m args below meth c H locs cells slots Q (F0 m pc ls (.ref (sb (100 + o)) :: rest)) :=
  mg_get C0.1 C0.2.1 C0.2.2.2.2.1 C0.2.2.2.1 C0.2.2.2.2.2 M.1 (k := 100 + o) (lv_sh hB) (ad_sh sb db hB) (ct_sh cy sb db g hB) rfl inlX2 0 (by decide) kw_16_9 rfl rfl hdg kk
theorem gf_RX4_222 (C0 : Cx p s m args c cc nL RX4 D cy) (M : Ws D b0 cy sb db g s H locs) {o : Nat} (hB : o < 25) (hdg : decode cc pc = .ok (.getfield 222, 3)) (kk : W p l e R s m args below meth c H locs cells slots Q (F0 m (pc + 3) ls (.ref (sb (300 + o)) :: rest))) : W p l e R s m args below meth c H locs cells slots Q (F0 m pc ls (.ref (sb (100 + o)) :: rest)) :=
  mg_get C0.1 C0.2.1 C0.2.2.2.2.1 C0.2.2.2.1 C0.2.2.2.2.2 M.1 (k := 100 + o) (lv_sh hB) (ad_sh sb db hB) (ct_sh cy sb db g hB) rfl inlX2 1 (by decide) kw_26_18 rfl rfl hdg kk
theorem gf_RX5_9 (C0 : Cx p s m args c cc nL RX5 D cy) (M : Ws D b0 cy sb db g s H locs) (hdg : decode cc pc = .ok (.getfield 9, 3)) (kk : W p l e R s m args below meth c H locs cells slots Q (F0 m (pc + 3) ls (.int (g.1 21 0 0) :: rest))) : W p l e R s m args below meth c H locs cells slots Q (F0 m pc ls (.ref (sb 13) :: rest)) :=
  mg_get C0.1 C0.2.1 C0.2.2.2.2.1 C0.2.2.2.1 C0.2.2.2.2.2 M.1 (k := 13) (Or.inl (by decide)) rfl rfl rfl inlX5 1 (by decide) kw_3_18 rfl rfl hdg kk
theorem gf_RX5_13 (C0 : Cx p s m args c cc nL RX5 D cy) (M : Ws D b0 cy sb db g s H locs) (hdg : decode cc pc = .ok (.getfield 13, 3)) (kk : W p l e R s m args below meth c H locs cells slots Q (F0 m (pc + 3) ls (.ref (sb 14) :: rest))) : W p l e R s m args below meth c H locs cells slots Q (F0 m pc ls (.ref (sb 13) :: rest)) :=
  mg_get C0.1 C0.2.1 C0.2.2.2.2.1 C0.2.2.2.1 C0.2.2.2.2.2 M.1 (k := 13) (Or.inl (by decide)) rfl rfl rfl inlX5 3 (by decide) kw_3_19 rfl rfl hdg kk
theorem gf_RX5_17 (C0 : Cx p s m args c cc nL RX5 D cy) (M : Ws D b0 cy sb db g s H locs) (hdg : decode cc pc = .ok (.getfield 17, 3)) (kk : W p l e R s m args below meth c H locs cells slots Q (F0 m (pc + 3) ls (.ref (sb 15) :: rest))) : W p l e R s m args below meth c H locs cells slots Q (F0 m pc ls (.ref (sb 13) :: rest)) :=
  mg_get C0.1 C0.2.1 C0.2.2.2.2.1 C0.2.2.2.1 C0.2.2.2.2.2 M.1 (k := 13) (Or.inl (by decide)) rfl rfl rfl inlX5 4 (by decide) kw_3_20 rfl rfl hdg kk
theorem gf_RX5_20 (C0 : Cx p s m args c cc nL RX5 D cy) (M : Ws D b0 cy sb db g s H locs) (hdg : decode cc pc = .ok (.getfield 20, 3)) (kk : W p l e R s m args below meth c H locs cells slots Q (F0 m (pc + 3) ls (.ref (sb 16) :: rest))) : W p l e R s m args below meth c H locs cells slots Q (F0 m pc ls (.ref (sb 13) :: rest)) :=
  mg_get C0.1 C0.2.1 C0.2.2.2.2.1 C0.2.2.2.1 C0.2.2.2.2.2 M.1 (k := 13) (Or.inl (by decide)) rfl rfl rfl inlX5 6 (by decide) kw_3_21 rfl rfl hdg kk
theorem gf_RX5_23 (C0 : Cx p s m args c cc nL RX5 D cy) (M : Ws D b0 cy sb db g s H locs) (hdg : decode cc pc = .ok (.getfield 23, 3)) (kk : W p l e R s m args below meth c H locs cells slots Q (F0 m (pc + 3) ls (.ref (sb 17) :: rest))) : W p l e R s m args below meth c H locs cells slots Q (F0 m pc ls (.ref (sb 13) :: rest)) :=
  mg_get C0.1 C0.2.1 C0.2.2.2.2.1 C0.2.2.2.1 C0.2.2.2.2.2 M.1 (k := 13) (Or.inl (by decide)) rfl rfl rfl inlX5 7 (by decide) kw_3_22 rfl rfl hdg kk
theorem gf_RX5_26 (C0 : Cx p s m args c cc nL RX5 D cy) (M : Ws D b0 cy sb db g s H locs) (hdg : decode cc pc = .ok (.getfield 26, 3)) (kk : W p l e R s m args below meth c H locs cells slots Q (F0 m (pc + 3) ls (.ref (sb 18) :: rest))) : W p l e R s m args below meth c H locs cells slots Q (F0 m pc ls (.ref (sb 13) :: rest)) :=
  mg_get C0.1 C0.2.1 C0.2.2.2.2.1 C0.2.2.2.1 C0.2.2.2.2.2 M.1 (k := 13) (Or.inl (by decide)) rfl rfl rfl inlX5 8 (by decide) kw_3_23 rfl rfl hdg kk
theorem gf_RX5_29 (C0 : Cx p s m args c cc nL RX5 D cy) (M : Ws D b0 cy sb db g s H locs) (hdg : decode cc pc = .ok (.getfield 29, 3)) (kk : W p l e R s m args below meth c H locs cells slots Q (F0 m (pc + 3) ls (.ref (sb 19) :: rest))) : W p l e R s m args below meth c H locs cells slots Q (F0 m pc ls (.ref (sb 13) :: rest)) :=
  mg_get C0.1 C0.2.1 C0.2.2.2.2.1 C0.2.2.2.1 C0.2.2.2.2.2 M.1 (k := 13) (Or.inl (by decide)) rfl rfl rfl inlX5 9 (by decide) kw_4_0 rfl rfl hdg kk
theorem gf_RX5_32 (C0 : Cx p s m args c cc nL RX5 D cy) (M : Ws D b0 cy sb db g s H locs) (hdg : decode cc pc = .ok (.getfield 32, 3)) (kk : W p l e R s m args below meth c H locs cells slots Q (F0 m (pc + 3) ls (.ref (sb 20) :: rest))) : W p l e R s m args below meth c H locs cells slots Q (F0 m pc ls (.ref (sb 13) :: rest)) :=
  mg_get C0.1 C0.2.1 C0.2.2.2.2.1 C0.2.2.2.1 C0.2.2.2.2.2 M.1 (k := 13) (Or.inl (by decide)) rfl rfl rfl inlX5 10 (by decide) kw_4_1 rfl rfl hdg kk
theorem gf_RX5_35 (C0 : Cx p s m args c cc nL RX5 D cy) (M : Ws D b0 cy sb db g s H locs) (hdg : decode cc pc = .ok (.getfield 35, 3)) (kk : W p l e R s m args below meth c H locs cells slots Q (F0 m (pc + 3) ls (.ref (sb 21) :: rest))) : W p l e R s m args below meth c H locs cells slots Q (F0 m pc ls (.ref (sb 13) :: rest)) :=
  mg_get C0.1 C0.2.1 C0.2.2.2.2.1 C0.2.2.2.1 C0.2.2.2.2.2 M.1 (k := 13) (Or.inl (by decide)) rfl rfl rfl inlX5 12 (by decide) kw_4_2 rfl rfl hdg kk
theorem gf_RX5_38 (C0 : Cx p s m args c cc nL RX5 D cy) (M : Ws D b0 cy sb db g s H locs) (hdg : decode cc pc = .ok (.getfield 38, 3)) (kk : W p l e R s m args below meth c H locs cells slots Q (F0 m (pc + 3) ls (.ref (sb 22) :: rest))) : W p l e R s m args below meth c H locs cells slots Q (F0 m pc ls (.ref (sb 13) :: rest)) :=
  mg_get C0.1 C0.2.1 C0.2.2.2.2.1 C0.2.2.2.1 C0.2.2.2.2.2 M.1 (k := 13) (Or.inl (by decide)) rfl rfl rfl inlX5 13 (by decide) kw_4_3 rfl rfl hdg kk
theorem gf_RX5_42 (C0 : Cx p s m args c cc nL RX5 D cy) (M : Ws D b0 cy sb db g s H locs) (hdg : decode cc pc = .ok (.getfield 42, 3)) (kk : W p l e R s m args below meth c H locs cells slots Q (F0 m (pc + 3) ls (.ref (sb 23) :: rest))) : W p l e R s m args below meth c H locs cells slots Q (F0 m pc ls (.ref (sb 13) :: rest)) :=
  mg_get C0.1 C0.2.1 C0.2.2.2.2.1 C0.2.2.2.1 C0.2.2.2.2.2 M.1 (k := 13) (Or.inl (by decide)) rfl rfl rfl inlX5 15 (by decide) kw_4_5 rfl rfl hdg kk
theorem gf_RX5_46 (C0 : Cx p s m args c cc nL RX5 D cy) (M : Ws D b0 cy sb db g s H locs) (hdg : decode cc pc = .ok (.getfield 46, 3)) (kk : W p l e R s m args below meth c H locs cells slots Q (F0 m (pc + 3) ls (.ref (sb 24) :: rest))) : W p l e R s m args below meth c H locs cells slots Q (F0 m pc ls (.ref (sb 13) :: rest)) :=
  mg_get C0.1 C0.2.1 C0.2.2.2.2.1 C0.2.2.2.1 C0.2.2.2.2.2 M.1 (k := 13) (Or.inl (by decide)) rfl rfl rfl inlX5 16 (by decide) kw_4_6 rfl rfl hdg kk
theorem gf_RX5_50 (C0 : Cx p s m args c cc nL RX5 D cy) (M : Ws D b0 cy sb db g s H locs) (hdg : decode cc pc = .ok (.getfield 50, 3)) (kk : W p l e R s m args below meth c H locs cells slots Q (F0 m (pc + 3) ls (.ref (sb 25) :: rest))) : W p l e R s m args below meth c H locs cells slots Q (F0 m pc ls (.ref (sb 13) :: rest)) :=
  mg_get C0.1 C0.2.1 C0.2.2.2.2.1 C0.2.2.2.1 C0.2.2.2.2.2 M.1 (k := 13) (Or.inl (by decide)) rfl rfl rfl inlX5 18 (by decide) kw_4_7 rfl rfl hdg kk
theorem gf_RX5_53 (C0 : Cx p s m args c cc nL RX5 D cy) (M : Ws D b0 cy sb db g s H locs) (hdg : decode cc pc = .ok (.getfield 53, 3)) (kk : W p l e R s m args below meth c H locs cells slots Q (F0 m (pc + 3) ls (.ref (sb 26) :: rest))) : W p l e R s m args below meth c H locs cells slots Q (F0 m pc ls (.ref (sb 13) :: rest)) :=
  mg_get C0.1 C0.2.1 C0.2.2.2.2.1 C0.2.2.2.1 C0.2.2.2.2.2 M.1 (k := 13) (Or.inl (by decide)) rfl rfl rfl inlX5 20 (by decide) kw_4_8 rfl rfl hdg kk
theorem gf_RX5_56 (C0 : Cx p s m args c cc nL RX5 D cy) (M : Ws D b0 cy sb db g s H locs) (hdg : decode cc pc = .ok (.getfield 56, 3)) (kk : W p l e R s m args below meth c H locs cells slots Q (F0 m (pc + 3) ls (.ref (sb 27) :: rest))) : W p l e R s m args below meth c H locs cells slots Q (F0 m pc ls (.ref (sb 13) :: rest)) :=
  mg_get C0.1 C0.2.1 C0.2.2.2.2.1 C0.2.2.2.1 C0.2.2.2.2.2 M.1 (k := 13) (Or.inl (by decide)) rfl rfl rfl inlX5 21 (by decide) kw_4_9 rfl rfl hdg kk
theorem gf_RX5_59 (C0 : Cx p s m args c cc nL RX5 D cy) (M : Ws D b0 cy sb db g s H locs) (hdg : decode cc pc = .ok (.getfield 59, 3)) (kk : W p l e R s m args below meth c H locs cells slots Q (F0 m (pc + 3) ls (.ref (sb 28) :: rest))) : W p l e R s m args below meth c H locs cells slots Q (F0 m pc ls (.ref (sb 13) :: rest)) :=
  mg_get C0.1 C0.2.1 C0.2.2.2.2.1 C0.2.2.2.1 C0.2.2.2.2.2 M.1 (k := 13) (Or.inl (by decide)) rfl rfl rfl inlX5 22 (by decide) kw_4_10 rfl rfl hdg kk
theorem gf_RX5_62 (C0 : Cx p s m args c cc nL RX5 D cy) (M : Ws D b0 cy sb db g s H locs) (hdg : decode cc pc = .ok (.getfield 62, 3)) (kk : W p l e R s m args below meth c H locs cells slots Q (F0 m (pc + 3) ls (.ref (sb 29) :: rest))) : W p l e R s m args below meth c H locs cells slots Q (F0 m pc ls (.ref (sb 13) :: rest)) :=
  mg_get C0.1 C0.2.1 C0.2.2.2.2.1 C0.2.2.2.1 C0.2.2.2.2.2 M.1 (k := 13) (Or.inl (by decide)) rfl rfl rfl inlX5 23 (by decide) kw_4_11 rfl rfl hdg kk
theorem gf_RX5_65 (C0 : Cx p s m args c cc nL RX5 D cy) (M : Ws D b0 cy sb db g s H locs) (hdg : decode cc pc = .ok (.getfield 65, 3)) (kk : W p l e R s m args below meth c H locs cells slots Q (F0 m (pc + 3) ls (.int (g.1 20 0 0) :: rest))) : W p l e R s m args below meth c H locs cells slots Q (F0 m pc ls (.ref (sb 13) :: rest)) :=
  mg_get C0.1 C0.2.1 C0.2.2.2.2.1 C0.2.2.2.1 C0.2.2.2.2.2 M.1 (k := 13) (Or.inl (by decide)) rfl rfl rfl inlX5 0 (by decide) kw_4_20 rfl rfl hdg kk
theorem gf_RX5_72 (C0 : Cx p s m args c cc nL RX5 D cy) (M : Ws D b0 cy sb db g s H locs) (hdg : decode cc pc = .ok (.getfield 72, 3)) (kk : W p l e R s m args below meth c H locs cells slots Q (F0 m (pc + 3) ls (.int (g.1 22 0 0) :: rest))) : W p l e R s m args below meth c H locs cells slots Q (F0 m pc ls (.ref (sb 13) :: rest)) :=
  mg_get C0.1 C0.2.1 C0.2.2.2.2.1 C0.2.2.2.1 C0.2.2.2.2.2 M.1 (k := 13) (Or.inl (by decide)) rfl rfl rfl inlX5 2 (by decide) kw_6_7 rfl rfl hdg kk
theorem gf_RX5_86 (C0 : Cx p s m args c cc nL RX5 D cy) (M : Ws D b0 cy sb db g s H locs) (hdg : decode cc pc = .ok (.getfield 86, 3)) (kk : W p l e R s m args below meth c H locs cells slots Q (F0 m (pc + 3) ls (.int (g.1 31 0 0) :: rest))) : W p l e R s m args below meth c H locs cells slots Q (F0 m pc ls (.ref (sb 13) :: rest)) :=
  mg_get C0.1 C0.2.1 C0.2.2.2.2.1 C0.2.2.2.1 C0.2.2.2.2.2 M.1 (k := 13) (Or.inl (by decide)) rfl rfl rfl inlX5 11 (by decide) kw_13_2 rfl rfl hdg kk
theorem gf_RX5_89 (C0 : Cx p s m args c cc nL RX5 D cy) (M : Ws D b0 cy sb db g s H locs) (hdg : decode cc pc = .ok (.getfield 89, 3)) (kk : W p l e R s m args below meth c H locs cells slots Q (F0 m (pc + 3) ls (.int (g.1 34 0 0) :: rest))) : W p l e R s m args below meth c H locs cells slots Q (F0 m pc ls (.ref (sb 13) :: rest)) :=
  mg_get C0.1 C0.2.1 C0.2.2.2.2.1 C0.2.2.2.1 C0.2.2.2.2.2 M.1 (k := 13) (Or.inl (by decide)) rfl rfl rfl inlX5 14 (by decide) kw_13_3 rfl rfl hdg kk
theorem gf_RX5_98 (C0 : Cx p s m args c cc nL RX5 D cy) (M : Ws D b0 cy sb db g s H locs) (hdg : decode cc pc = .ok (.getfield 98, 3)) (kk : W p l e R s m args below meth c H locs cells slots Q (F0 m (pc + 3) ls (.int (g.1 25 0 0) :: rest))) : W p l e R s m args below meth c H locs cells slots Q (F0 m pc ls (.ref (sb 13) :: rest)) :=
  mg_get C0.1 C0.2.1 C0.2.2.2.2.1 C0.2.2.2.1 C0.2.2.2.2.2 M.1 (k := 13) (Or.inl (by decide)) rfl rfl rfl inlX5 5 (by decide) kw_11_21 rfl rfl hdg kk
theorem gf_RX5_105 (C0 : Cx p s m args c cc nL RX5 D cy) (M : Ws D b0 cy sb db g s H locs) (hdg : decode cc pc = .ok (.getfield 105, 3)) (kk : W p l e R s m args below meth c H locs cells slots Q (F0 m (pc + 3) ls (.int (g.1 37 0 0) :: rest))) : W p l e R s m args below meth c H locs cells slots Q (F0 m pc ls (.ref (sb 13) :: rest)) :=
  mg_get C0.1 C0.2.1 C0.2.2.2.2.1 C0.2.2.2.1 C0.2.2.2.2.2 M.1 (k := 13) (Or.inl (by decide)) rfl rfl rfl inlX5 17 (by decide) kw_12_17 rfl rfl hdg kk
theorem gf_RX5_142 (C0 : Cx p s m args c cc nL RX5 D cy) (M : Ws D b0 cy sb db g s H locs) (hdg : decode cc pc = .ok (.getfield 142, 3)) (kk : W p l e R s m args below meth c H locs cells slots Q (F0 m (pc + 3) ls (.int (g.1 44 0 0) :: rest))) : W p l e R s m args below meth c H locs cells slots Q (F0 m pc ls (.ref (sb 13) :: rest)) :=
  mg_get C0.1 C0.2.1 C0.2.2.2.2.1 C0.2.2.2.1 C0.2.2.2.2.2 M.1 (k := 13) (Or.inl (by decide)) rfl rfl rfl inlX5 24 (by decide) kw_17_13 rfl rfl hdg kk
theorem gf_RX5_175 (C0 : Cx p s m args c cc nL RX5 D cy) (M : Ws D b0 cy sb db g s H locs) (hdg : decode cc pc = .ok (.getfield 175, 3)) (kk : W p l e R s m args below meth c H locs cells slots Q (F0 m (pc + 3) ls (.int (g.1 39 0 0) :: rest))) : W p l e R s m args below meth c H locs cells slots Q (F0 m pc ls (.ref (sb 13) :: rest)) :=
  mg_get C0.1 C0.2.1 C0.2.2.2.2.1 C0.2.2.2.1 C0.2.2.2.2.2 M.1 (k := 13) (Or.inl (by decide)) rfl rfl rfl inlX5 19 (by decide) kw_23_20 rfl rfl hdg kk
theorem su_7 (cy : Cy) (sb db : Nat → Nat) (g : Gs) (v : Int32) : ∀ k, lvk k → va_up (cont cy sb db g) (3) (.inr (0, [.ref (sb 4), .ref (sb 5), .ref (sb 6), .ref (sb 7), .int (g.1 7 0 0)].set 4 (.int v))) k = cont cy sb db (sI g 7 0 0 v) k := by
  intro k hk
  by_cases h : k = 3
  · subst h
    rw [va_up_self]
    show _ = cnA cy sb db _ 3
    simp [cnA, sI_at, upd, List.set]
  · rw [va_up_ne _ _ h]
    exact (cont_sI (c := 7) (o := 0) hk h).symm
theorem pf_RX0_25 (C0 : Cx p s m args c cc nL RX0 D cy) (M : Ws D b0 cy sb db g s H locs) {v : Int32} {g2 : Gs} (hg : g2 = sI g 7 0 0 v) (hdg : decode cc pc = .ok (.putfield 25, 3)) (kk : ∀ (H1 : Heap) (locs1 : List Loc), Ws D b0 cy sb db g2 s H1 locs1 → W p l e R s m args below meth c H1 locs1 cells slots Q (F0 m (pc + 3) ls rest)) : W p l e R s m args below meth c H locs cells slots Q (F0 m pc ls (.int v :: .ref (sb 3) :: rest)) := by
  subst hg
  exact mg_put C0.1 C0.2.1 C0.2.2.2.2.1 C0.2.2.2.1 C0.2.2.2.2.2 M.1 M.2 (k := 3) (Or.inl (by decide)) rfl rfl rfl inlX0 tyX0 tyX0_ok nmX0 4 (by decide) kw_23_15 rfl rfl (ty := .int) (by decide +kernel) rfl rfl (Nat.le_of_ble_eq_true rfl) hdg (fun H1 locs1 M1 S1 => kk H1 locs1 ⟨mp_congr M1 (su_7 cy sb db g v), S1⟩)
theorem su_17 (cy : Cy) (sb db : Nat → Nat) (g : Gs) {n : Nat} (hB : n < 24) (v : Int32) : ∀ k, lvk k → va_up (cont cy sb db g) (400 + n) (.inr (1, [.ref (sb (100 + (n + 1))), .int (g.1 16 n 0), .int (g.1 17 n 0), .ref (db (500 + n))].set 2 (.int v))) k = cont cy sb db (sI g 17 n 0 v) k := by
  intro k hk
  by_cases h : k = 400 + n
  · subst h
    rw [va_up_self, ct_ma cy sb db _ hB]
    simp [sI_at, upd, List.set, sI_nc g 17 n 0 v (c1 := 16) (o1 := n) (by omega)]
  · rw [va_up_ne _ _ h]
    exact (cont_sI (c := 17) (o := n) hk h).symm
theorem pf_RX1_18 (C0 : Cx p s m args c cc nL RX1 D cy) (M : Ws D b0 cy sb db g s H locs) {n : Nat} (hB : n < 24) {v : Int32} {g2 : Gs} (hg : g2 = sI g 17 n 0 v) (hdg : decode cc pc = .ok (.putfield 18, 3)) (kk : ∀ (H1 : Heap) (locs1 : List Loc), Ws D b0 cy sb db g2 s H1 locs1 → W p l e R s m args below meth c H1 locs1 cells slots Q (F0 m (pc + 3) ls rest)) : W p l e R s m args below meth c H locs cells slots Q (F0 m pc ls (.int v :: .ref (sb (400 + n)) :: rest)) := by
  subst hg
  exact mg_put C0.1 C0.2.1 C0.2.2.2.2.1 C0.2.2.2.1 C0.2.2.2.2.2 M.1 M.2 (k := 400 + n) (lv_ma hB) (ad_ma sb db hB) (ct_ma cy sb db g hB) rfl inlX1 tyX1 tyX1_ok nmX1 2 (by decide) kw_3_12 rfl rfl (ty := .int) (by decide +kernel) rfl rfl (Nat.le_of_ble_eq_true rfl) hdg (fun H1 locs1 M1 S1 => kk H1 locs1 ⟨mp_congr M1 (su_17 cy sb db g hB v), S1⟩)
theorem su_4 (cy : Cy) (sb db : Nat → Nat) (g : Gs) {o : Nat} (hB : o < 25) (v : Int32) : ∀ k, lvk k → va_up (cont cy sb db g) (100 + o) (.inr (2, [.ref (sb (200 + o)), .ref (sb (300 + o)), .int (g.1 4 o 0)].set 2 (.int v))) k = cont cy sb db (sI g 4 o 0 v) k := by
  intro k hk
  by_cases h : k = 100 + o
  · subst h
    rw [va_up_self, ct_sh cy sb db _ hB]
    simp [sI_at, upd, List.set]
  · rw [va_up_ne _ _ h]
    exact (cont_sI (c := 4) (o := o) hk h).symm
theorem pf_RX2_18 (C0 : Cx p s m args c cc nL RX2 D cy) (M : Ws D b0 cy sb db g s H locs) {o : Nat} (hB : o < 25) {v : Int32} {g2 : Gs} (hg : g2 = sI g 4 o 0 v) (hdg : decode cc pc = .ok (.putfield 18, 3)) (kk : ∀ (H1 : Heap) (locs1 : List Loc), Ws D b0 cy sb db g2 s H1 locs1 → W p l e R s m args below meth c H1 locs1 cells slots Q (F0 m (pc + 3) ls rest)) : W p l e R s m args below meth c H locs cells slots Q (F0 m pc ls (.int v :: .ref (sb (100 + o)) :: rest)) := by
  subst hg
  exact mg_put C0.1 C0.2.1 C0.2.2.2.2.1 C0.2.2.2.1 C0.2.2.2.2.2 M.1 M.2 (k := 100 + o) (lv_sh hB) (ad_sh sb db hB) (ct_sh cy sb db g hB) rfl inlX2 tyX2 tyX2_ok nmX2 2 (by decide) kw_5_22 rfl rfl (ty := .int) (by decide +kernel) rfl rfl (Nat.le_of_ble_eq_true rfl) hdg (fun H1 locs1 M1 S1 => kk H1 locs1 ⟨mp_congr M1 (su_4 cy sb db g hB v), S1⟩)
theorem su_12 (cy : Cy) (sb db : Nat → Nat) (g : Gs) (v : Int32) : ∀ k, lvk k → va_up (cont cy sb db g) (8) (.inr (3, [.ref (db 9), .ref (db 10), .ref (db 11), .ref (db 12), .int (g.1 11 0 0), .int (g.1 12 0 0)].set 5 (.int v))) k = cont cy sb db (sI g 12 0 0 v) k := by
  intro k hk
  by_cases h : k = 8
  · subst h
    rw [va_up_self]
    show _ = cnA cy sb db _ 8
    simp [cnA, sI_at, upd, List.set, sI_nc g 12 0 0 v (c1 := 11) (o1 := 0) (by omega)]
  · rw [va_up_ne _ _ h]
    exact (cont_sI (c := 12) (o := 0) hk h).symm
theorem pf_RX3_26 (C0 : Cx p s m args c cc nL RX3 D cy) (M : Ws D b0 cy sb db g s H locs) {v : Int32} {g2 : Gs} (hg : g2 = sI g 12 0 0 v) (hdg : decode cc pc = .ok (.putfield 26, 3)) (kk : ∀ (H1 : Heap) (locs1 : List Loc), Ws D b0 cy sb db g2 s H1 locs1 → W p l e R s m args below meth c H1 locs1 cells slots Q (F0 m (pc + 3) ls rest)) : W p l e R s m args below meth c H locs cells slots Q (F0 m pc ls (.int v :: .ref (sb 8) :: rest)) := by
  subst hg
  exact mg_put C0.1 C0.2.1 C0.2.2.2.2.1 C0.2.2.2.1 C0.2.2.2.2.2 M.1 M.2 (k := 8) (Or.inl (by decide)) rfl rfl rfl inlX3 tyX3 tyX3_ok nmX3 5 (by decide) kw_8_11 rfl rfl (ty := .int) (by decide +kernel) rfl rfl (Nat.le_of_ble_eq_true rfl) hdg (fun H1 locs1 M1 S1 => kk H1 locs1 ⟨mp_congr M1 (su_12 cy sb db g v), S1⟩)
theorem su_11 (cy : Cy) (sb db : Nat → Nat) (g : Gs) (v : Int32) : ∀ k, lvk k → va_up (cont cy sb db g) (8) (.inr (3, [.ref (db 9), .ref (db 10), .ref (db 11), .ref (db 12), .int (g.1 11 0 0), .int (g.1 12 0 0)].set 4 (.int v))) k = cont cy sb db (sI g 11 0 0 v) k := by
  intro k hk
  by_cases h : k = 8
  · subst h
    rw [va_up_self]
    show _ = cnA cy sb db _ 8
    simp [cnA, sI_at, upd, List.set, sI_nc g 11 0 0 v (c1 := 12) (o1 := 0) (by omega)]
  · rw [va_up_ne _ _ h]
    exact (cont_sI (c := 11) (o := 0) hk h).symm
theorem pf_RX3_31 (C0 : Cx p s m args c cc nL RX3 D cy) (M : Ws D b0 cy sb db g s H locs) {v : Int32} {g2 : Gs} (hg : g2 = sI g 11 0 0 v) (hdg : decode cc pc = .ok (.putfield 31, 3)) (kk : ∀ (H1 : Heap) (locs1 : List Loc), Ws D b0 cy sb db g2 s H1 locs1 → W p l e R s m args below meth c H1 locs1 cells slots Q (F0 m (pc + 3) ls rest)) : W p l e R s m args below meth c H locs cells slots Q (F0 m pc ls (.int v :: .ref (sb 8) :: rest)) := by
  subst hg
  exact mg_put C0.1 C0.2.1 C0.2.2.2.2.1 C0.2.2.2.1 C0.2.2.2.2.2 M.1 M.2 (k := 8) (Or.inl (by decide)) rfl rfl rfl inlX3 tyX3 tyX3_ok nmX3 4 (by decide) kw_8_13 rfl rfl (ty := .int) (by decide +kernel) rfl rfl (Nat.le_of_ble_eq_true rfl) hdg (fun H1 locs1 M1 S1 => kk H1 locs1 ⟨mp_congr M1 (su_11 cy sb db g v), S1⟩)
theorem su_0 (cy : Cy) (sb db : Nat → Nat) (g : Gs) (v : Int32) : ∀ k, lvk k → va_up (cont cy sb db g) (0) (.inr (4, [.ref (sb (100 + 0)), .ref (sb 3), .ref (sb 8), .ref (sb 1), .ref (sb 2), .int (g.1 0 0 0), .int (g.1 1 0 0), .int (g.1 2 0 0)].set 5 (.int v))) k = cont cy sb db (sI g 0 0 0 v) k := by
  intro k hk
  by_cases h : k = 0
  · subst h
    rw [va_up_self]
    show _ = cnA cy sb db _ 0
    simp [cnA, sI_at, upd, List.set, sI_nc g 0 0 0 v (c1 := 1) (o1 := 0) (by omega), sI_nc g 0 0 0 v (c1 := 2) (o1 := 0) (by omega)]
  · rw [va_up_ne _ _ h]
    exact (cont_sI (c := 0) (o := 0) hk h).symm
theorem pf_RX4_40 (C0 : Cx p s m args c cc nL RX4 D cy) (M : Ws D b0 cy sb db g s H locs) {v : Int32} {g2 : Gs} (hg : g2 = sI g 0 0 0 v) (hdg : decode cc pc = .ok (.putfield 40, 3)) (kk : ∀ (H1 : Heap) (locs1 : List Loc), Ws D b0 cy sb db g2 s H1 locs1 → W p l e R s m args below meth c H1 locs1 cells slots Q (F0 m (pc + 3) ls rest)) : W p l e R s m args below meth c H locs cells slots Q (F0 m pc ls (.int v :: .ref (sb 0) :: rest)) := by
  subst hg
  exact mg_put C0.1 C0.2.1 C0.2.2.2.2.1 C0.2.2.2.1 C0.2.2.2.2.2 M.1 M.2 (k := 0) (Or.inl (by decide)) rfl rfl rfl inlX4 tyX4 tyX4_ok nmX4 5 (by decide) kw_2_5 rfl rfl (ty := .int) (by decide +kernel) rfl rfl (Nat.le_of_ble_eq_true rfl) hdg (fun H1 locs1 M1 S1 => kk H1 locs1 ⟨mp_congr M1 (su_0 cy sb db g v), S1⟩)
theorem su_1 (cy : Cy) (sb db : Nat → Nat) (g : Gs) (v : Int32) : ∀ k, lvk k → va_up (cont cy sb db g) (0) (.inr (4, [.ref (sb (100 + 0)), .ref (sb 3), .ref (sb 8), .ref (sb 1), .ref (sb 2), .int (g.1 0 0 0), .int (g.1 1 0 0), .int (g.1 2 0 0)].set 6 (.int v))) k = cont cy sb db (sI g 1 0 0 v) k := by
  intro k hk
  by_cases h : k = 0
  · subst h
    rw [va_up_self]
    show _ = cnA cy sb db _ 0
    simp [cnA, sI_at, upd, List.set, sI_nc g 1 0 0 v (c1 := 0) (o1 := 0) (by omega), sI_nc g 1 0 0 v (c1 := 2) (o1 := 0) (by omega)]
  · rw [va_up_ne _ _ h]
    exact (cont_sI (c := 1) (o := 0) hk h).symm
theorem pf_RX4_44 (C0 : Cx p s m args c cc nL RX4 D cy) (M : Ws D b0 cy sb db g s H locs) {v : Int32} {g2 : Gs} (hg : g2 = sI g 1 0 0 v) (hdg : decode cc pc = .ok (.putfield 44, 3)) (kk : ∀ (H1 : Heap) (locs1 : List Loc), Ws D b0 cy sb db g2 s H1 locs1 → W p l e R s m args below meth c H1 locs1 cells slots Q (F0 m (pc + 3) ls rest)) : W p l e R s m args below meth c H locs cells slots Q (F0 m pc ls (.int v :: .ref (sb 0) :: rest)) := by
  subst hg
  exact mg_put C0.1 C0.2.1 C0.2.2.2.2.1 C0.2.2.2.1 C0.2.2.2.2.2 M.1 M.2 (k := 0) (Or.inl (by decide)) rfl rfl rfl inlX4 tyX4 tyX4_ok nmX4 6 (by decide) kw_2_6 rfl rfl (ty := .int) (by decide +kernel) rfl rfl (Nat.le_of_ble_eq_true rfl) hdg (fun H1 locs1 M1 S1 => kk H1 locs1 ⟨mp_congr M1 (su_1 cy sb db g v), S1⟩)
theorem su_2 (cy : Cy) (sb db : Nat → Nat) (g : Gs) (v : Int32) : ∀ k, lvk k → va_up (cont cy sb db g) (0) (.inr (4, [.ref (sb (100 + 0)), .ref (sb 3), .ref (sb 8), .ref (sb 1), .ref (sb 2), .int (g.1 0 0 0), .int (g.1 1 0 0), .int (g.1 2 0 0)].set 7 (.int v))) k = cont cy sb db (sI g 2 0 0 v) k := by
  intro k hk
  by_cases h : k = 0
  · subst h
    rw [va_up_self]
    show _ = cnA cy sb db _ 0
    simp [cnA, sI_at, upd, List.set, sI_nc g 2 0 0 v (c1 := 0) (o1 := 0) (by omega), sI_nc g 2 0 0 v (c1 := 1) (o1 := 0) (by omega)]
  · rw [va_up_ne _ _ h]
    exact (cont_sI (c := 2) (o := 0) hk h).symm
theorem pf_RX4_47 (C0 : Cx p s m args c cc nL RX4 D cy) (M : Ws D b0 cy sb db g s H locs) {v : Int32} {g2 : Gs} (hg : g2 = sI g 2 0 0 v) (hdg : decode cc pc = .ok (.putfield 47, 3)) (kk : ∀ (H1 : Heap) (locs1 : List Loc), Ws D b0 cy sb db g2 s H1 locs1 → W p l e R s m args below meth c H1 locs1 cells slots Q (F0 m (pc + 3) ls rest)) : W p l e R s m args below meth c H locs cells slots Q (F0 m pc ls (.int v :: .ref (sb 0) :: rest)) := by
  subst hg
  exact mg_put C0.1 C0.2.1 C0.2.2.2.2.1 C0.2.2.2.1 C0.2.2.2.2.2 M.1 M.2 (k := 0) (Or.inl (by decide)) rfl rfl rfl inlX4 tyX4 tyX4_ok nmX4 7 (by decide) kw_2_7 rfl rfl (ty := .int) (by decide +kernel) rfl rfl (Nat.le_of_ble_eq_true rfl) hdg (fun H1 locs1 M1 S1 => kk H1 locs1 ⟨mp_congr M1 (su_2 cy sb db g v), S1⟩)
theorem pf_RX4_51 (C0 : Cx p s m args c cc nL RX4 D cy) (M : Ws D b0 cy sb db g s H locs) {o : Nat} (hB : o < 25) {v : Int32} {g2 : Gs} (hg : g2 = sI g 4 o 0 v) (hdg : decode cc pc = .ok (.putfield 51, 3)) (kk : ∀ (H1 : Heap) (locs1 : List Loc), Ws D b0 cy sb db g2 s H1 locs1 → W p l e R s m args below meth c H1 locs1 cells slots Q (F0 m (pc + 3) ls rest)) : W p l e R s m args below meth c H locs cells slots Q (F0 m pc ls (.int v :: .ref (sb (100 + o)) :: rest)) := by
  subst hg
  exact mg_put C0.1 C0.2.1 C0.2.2.2.2.1 C0.2.2.2.1 C0.2.2.2.2.2 M.1 M.2 (k := 100 + o) (lv_sh hB) (ad_sh sb db hB) (ct_sh cy sb db g hB) rfl inlX2 tyX2 tyX2_ok nmX2 2 (by decide) kw_5_9 rfl rfl (ty := .int) (by decide +kernel) rfl rfl (Nat.le_of_ble_eq_true rfl) hdg (fun H1 locs1 M1 S1 => kk H1 locs1 ⟨mp_congr M1 (su_4 cy sb db g hB v), S1⟩)
theorem pf_RX4_100 (C0 : Cx p s m args c cc nL RX4 D cy) (M : Ws D b0 cy sb db g s H locs) {n : Nat} (hB : n < 24) {v : Int32} {g2 : Gs} (hg : g2 = sI g 17 n 0 v) (hdg : decode cc pc = .ok (.putfield 100, 3)) (kk : ∀ (H1 : Heap) (locs1 : List Loc), Ws D b0 cy sb db g2 s H1 locs1 → W p l e R s m args below meth c H1 locs1 cells slots Q (F0 m (pc + 3) ls rest)) : W p l e R s m args below meth c H locs cells slots Q (F0 m pc ls (.int v :: .ref (sb (400 + n)) :: rest)) := by
  subst hg
  exact mg_put C0.1 C0.2.1 C0.2.2.2.2.1 C0.2.2.2.1 C0.2.2.2.2.2 M.1 M.2 (k := 400 + n) (lv_ma hB) (ad_ma sb db hB) (ct_ma cy sb db g hB) rfl inlX1 tyX1 tyX1_ok nmX1 2 (by decide) kw_10_14 rfl rfl (ty := .int) (by decide +kernel) rfl rfl (Nat.le_of_ble_eq_true rfl) hdg (fun H1 locs1 M1 S1 => kk H1 locs1 ⟨mp_congr M1 (su_17 cy sb db g hB v), S1⟩)
theorem su_16 (cy : Cy) (sb db : Nat → Nat) (g : Gs) {n : Nat} (hB : n < 24) (v : Int32) : ∀ k, lvk k → va_up (cont cy sb db g) (400 + n) (.inr (1, [.ref (sb (100 + (n + 1))), .int (g.1 16 n 0), .int (g.1 17 n 0), .ref (db (500 + n))].set 1 (.int v))) k = cont cy sb db (sI g 16 n 0 v) k := by
  intro k hk
  by_cases h : k = 400 + n
  · subst h
    rw [va_up_self, ct_ma cy sb db _ hB]
    simp [sI_at, upd, List.set, sI_nc g 16 n 0 v (c1 := 17) (o1 := n) (by omega)]
  · rw [va_up_ne _ _ h]
    exact (cont_sI (c := 16) (o := n) hk h).symm
theorem pf_RX4_106 (C0 : Cx p s m args c cc nL RX4 D cy) (M : Ws D b0 cy sb db g s H locs) {n : Nat} (hB : n < 24) {v : Int32} {g2 : Gs} (hg : g2 = sI g 16 n 0 v) (hdg : decode cc pc = .ok (.putfield 106, 3)) (kk : ∀ (H1 : Heap) (locs1 : List Loc), Ws D b0 cy sb db g2 s H1 locs1 → W p l e R s m args below meth c H1 locs1 cells slots Q (F0 m (pc + 3) ls rest)) : W p l e R s m args below meth c H locs cells slots Q (F0 m pc ls (.int v :: .ref (sb (400 + n)) :: rest)) := by
  subst hg
  exact mg_put C0.1 C0.2.1 C0.2.2.2.2.1 C0.2.2.2.1 C0.2.2.2.2.2 M.1 M.2 (k := 400 + n) (lv_ma hB) (ad_ma sb db hB) (ct_ma cy sb db g hB) rfl inlX1 tyX1 tyX1_ok nmX1 1 (by decide) kw_10_13 rfl rfl (ty := .int) (by decide +kernel) rfl rfl (Nat.le_of_ble_eq_true rfl) hdg (fun H1 locs1 M1 S1 => kk H1 locs1 ⟨mp_congr M1 (su_16 cy sb db g hB v), S1⟩)
theorem pf_RX4_185 (C0 : Cx p s m args c cc nL RX4 D cy) (M : Ws D b0 cy sb db g s H locs) {v : Int32} {g2 : Gs} (hg : g2 = sI g 7 0 0 v) (hdg : decode cc pc = .ok (.putfield 185, 3)) (kk : ∀ (H1 : Heap) (locs1 : List Loc), Ws D b0 cy sb db g2 s H1 locs1 → W p l e R s m args below meth c H1 locs1 cells slots Q (F0 m (pc + 3) ls rest)) : W p l e R s m args below meth c H locs cells slots Q (F0 m pc ls (.int v :: .ref (sb 3) :: rest)) := by
  subst hg
  exact mg_put C0.1 C0.2.1 C0.2.2.2.2.1 C0.2.2.2.1 C0.2.2.2.2.2 M.1 M.2 (k := 3) (Or.inl (by decide)) rfl rfl rfl inlX0 tyX0 tyX0_ok nmX0 4 (by decide) kw_23_10 rfl rfl (ty := .int) (by decide +kernel) rfl rfl (Nat.le_of_ble_eq_true rfl) hdg (fun H1 locs1 M1 S1 => kk H1 locs1 ⟨mp_congr M1 (su_7 cy sb db g v), S1⟩)
theorem su_21 (cy : Cy) (sb db : Nat → Nat) (g : Gs) (v : Int32) : ∀ k, lvk k → va_up (cont cy sb db g) (13) (.inr (5, [.int (g.1 20 0 0), .int (g.1 21 0 0), .int (g.1 22 0 0), .ref (sb 14), .ref (sb 15), .int (g.1 25 0 0), .ref (sb 16), .ref (sb 17), .ref (sb 18), .ref (sb 19), .ref (sb 20), .int (g.1 31 0 0), .ref (sb 21), .ref (sb 22), .int (g.1 34 0 0), .ref (sb 23), .ref (sb 24), .int (g.1 37 0 0), .ref (sb 25), .int (g.1 39 0 0), .ref (sb 26), .ref (sb 27), .ref (sb 28), .ref (sb 29), .int (g.1 44 0 0)].set 1 (.int v))) k = cont cy sb db (sI g 21 0 0 v) k := by
  intro k hk
  by_cases h : k = 13
  · subst h
    rw [va_up_self]
    show _ = cnA cy sb db _ 13
    simp [cnA, sI_at, upd, List.set, sI_nc g 21 0 0 v (c1 := 20) (o1 := 0) (by omega), sI_nc g 21 0 0 v (c1 := 22) (o1 := 0) (by omega), sI_nc g 21 0 0 v (c1 := 25) (o1 := 0) (by omega), sI_nc g 21 0 0 v (c1 := 31) (o1 := 0) (by omega), sI_nc g 21 0 0 v (c1 := 34) (o1 := 0) (by omega), sI_nc g 21 0 0 v (c1 := 37) (o1 := 0) (by omega), sI_nc g 21 0 0 v (c1 := 39) (o1 := 0) (by omega), sI_nc g 21 0 0 v (c1 := 44) (o1 := 0) (by omega)]
  · rw [va_up_ne _ _ h]
    exact (cont_sI (c := 21) (o := 0) hk h).symm
theorem pf_RX5_9 (C0 : Cx p s m args c cc nL RX5 D cy) (M : Ws D b0 cy sb db g s H locs) {v : Int32} {g2 : Gs} (hg : g2 = sI g 21 0 0 v) (hdg : decode cc pc = .ok (.putfield 9, 3)) (kk : ∀ (H1 : Heap) (locs1 : List Loc), Ws D b0 cy sb db g2 s H1 locs1 → W p l e R s m args below meth c H1 locs1 cells slots Q (F0 m (pc + 3) ls rest)) : W p l e R s m args below meth c H locs cells slots Q (F0 m pc ls (.int v :: .ref (sb 13) :: rest)) := by
  subst hg
  exact mg_put C0.1 C0.2.1 C0.2.2.2.2.1 C0.2.2.2.1 C0.2.2.2.2.2 M.1 M.2 (k := 13) (Or.inl (by decide)) rfl rfl rfl inlX5 tyX5 tyX5_ok nmX5 1 (by decide) kw_3_18 rfl rfl (ty := .int) (by decide +kernel) rfl rfl (Nat.le_of_ble_eq_true rfl) hdg (fun H1 locs1 M1 S1 => kk H1 locs1 ⟨mp_congr M1 (su_21 cy sb db g v), S1⟩)
theorem su_20 (cy : Cy) (sb db : Nat → Nat) (g : Gs) (v : Int32) : ∀ k, lvk k → va_up (cont cy sb db g) (13) (.inr (5, [.int (g.1 20 0 0), .int (g.1 21 0 0), .int (g.1 22 0 0), .ref (sb 14), .ref (sb 15), .int (g.1 25 0 0), .ref (sb 16), .ref (sb 17), .ref (sb 18), .ref (sb 19), .ref (sb 20), .int (g.1 31 0 0), .ref (sb 21), .ref (sb 22), .int (g.1 34 0 0), .ref (sb 23), .ref (sb 24), .int (g.1 37 0 0), .ref (sb 25), .int (g.1 39 0 0), .ref (sb 26), .ref (sb 27), .ref (sb 28), .ref (sb 29), .int (g.1 44 0 0)].set 0 (.int v))) k = cont cy sb db (sI g 20 0 0 v) k := by
  intro k hk
  by_cases h : k = 13
  · subst h
    rw [va_up_self]
    show _ = cnA cy sb db _ 13
    simp [cnA, sI_at, upd, List.set, sI_nc g 20 0 0 v (c1 := 21) (o1 := 0) (by omega), sI_nc g 20 0 0 v (c1 := 22) (o1 := 0) (by omega), sI_nc g 20 0 0 v (c1 := 25) (o1 := 0) (by omega), sI_nc g 20 0 0 v (c1 := 31) (o1 := 0) (by omega), sI_nc g 20 0 0 v (c1 := 34) (o1 := 0) (by omega), sI_nc g 20 0 0 v (c1 := 37) (o1 := 0) (by omega), sI_nc g 20 0 0 v (c1 := 39) (o1 := 0) (by omega), sI_nc g 20 0 0 v (c1 := 44) (o1 := 0) (by omega)]
  · rw [va_up_ne _ _ h]
    exact (cont_sI (c := 20) (o := 0) hk h).symm
theorem pf_RX5_65 (C0 : Cx p s m args c cc nL RX5 D cy) (M : Ws D b0 cy sb db g s H locs) {v : Int32} {g2 : Gs} (hg : g2 = sI g 20 0 0 v) (hdg : decode cc pc = .ok (.putfield 65, 3)) (kk : ∀ (H1 : Heap) (locs1 : List Loc), Ws D b0 cy sb db g2 s H1 locs1 → W p l e R s m args below meth c H1 locs1 cells slots Q (F0 m (pc + 3) ls rest)) : W p l e R s m args below meth c H locs cells slots Q (F0 m pc ls (.int v :: .ref (sb 13) :: rest)) := by
  subst hg
  exact mg_put C0.1 C0.2.1 C0.2.2.2.2.1 C0.2.2.2.1 C0.2.2.2.2.2 M.1 M.2 (k := 13) (Or.inl (by decide)) rfl rfl rfl inlX5 tyX5 tyX5_ok nmX5 0 (by decide) kw_4_20 rfl rfl (ty := .int) (by decide +kernel) rfl rfl (Nat.le_of_ble_eq_true rfl) hdg (fun H1 locs1 M1 S1 => kk H1 locs1 ⟨mp_congr M1 (su_20 cy sb db g v), S1⟩)
theorem su_22 (cy : Cy) (sb db : Nat → Nat) (g : Gs) (v : Int32) : ∀ k, lvk k → va_up (cont cy sb db g) (13) (.inr (5, [.int (g.1 20 0 0), .int (g.1 21 0 0), .int (g.1 22 0 0), .ref (sb 14), .ref (sb 15), .int (g.1 25 0 0), .ref (sb 16), .ref (sb 17), .ref (sb 18), .ref (sb 19), .ref (sb 20), .int (g.1 31 0 0), .ref (sb 21), .ref (sb 22), .int (g.1 34 0 0), .ref (sb 23), .ref (sb 24), .int (g.1 37 0 0), .ref (sb 25), .int (g.1 39 0 0), .ref (sb 26), .ref (sb 27), .ref (sb 28), .ref (sb 29), .int (g.1 44 0 0)].set 2 (.int v))) k = cont cy sb db (sI g 22 0 0 v) k := by
  intro k hk
  by_cases h : k = 13
  · subst h
    rw [va_up_self]
    show _ = cnA cy sb db _ 13
    simp [cnA, sI_at, upd, List.set, sI_nc g 22 0 0 v (c1 := 20) (o1 := 0) (by omega), sI_nc g 22 0 0 v (c1 := 21) (o1 := 0) (by omega), sI_nc g 22 0 0 v (c1 := 25) (o1 := 0) (by omega), sI_nc g 22 0 0 v (c1 := 31) (o1 := 0) (by omega), sI_nc g 22 0 0 v (c1 := 34) (o1 := 0) (by omega), sI_nc g 22 0 0 v (c1 := 37) (o1 := 0) (by omega), sI_nc g 22 0 0 v (c1 := 39) (o1 := 0) (by omega), sI_nc g 22 0 0 v (c1 := 44) (o1 := 0) (by omega)]
  · rw [va_up_ne _ _ h]
    exact (cont_sI (c := 22) (o := 0) hk h).symm
theorem pf_RX5_72 (C0 : Cx p s m args c cc nL RX5 D cy) (M : Ws D b0 cy sb db g s H locs) {v : Int32} {g2 : Gs} (hg : g2 = sI g 22 0 0 v) (hdg : decode cc pc = .ok (.putfield 72, 3)) (kk : ∀ (H1 : Heap) (locs1 : List Loc), Ws D b0 cy sb db g2 s H1 locs1 → W p l e R s m args below meth c H1 locs1 cells slots Q (F0 m (pc + 3) ls rest)) : W p l e R s m args below meth c H locs cells slots Q (F0 m pc ls (.int v :: .ref (sb 13) :: rest)) := by
  subst hg
  exact mg_put C0.1 C0.2.1 C0.2.2.2.2.1 C0.2.2.2.1 C0.2.2.2.2.2 M.1 M.2 (k := 13) (Or.inl (by decide)) rfl rfl rfl inlX5 tyX5 tyX5_ok nmX5 2 (by decide) kw_6_7 rfl rfl (ty := .int) (by decide +kernel) rfl rfl (Nat.le_of_ble_eq_true rfl) hdg (fun H1 locs1 M1 S1 => kk H1 locs1 ⟨mp_congr M1 (su_22 cy sb db g v), S1⟩)
theorem su_31 (cy : Cy) (sb db : Nat → Nat) (g : Gs) (v : Int32) : ∀ k, lvk k → va_up (cont cy sb db g) (13) (.inr (5, [.int (g.1 20 0 0), .int (g.1 21 0 0), .int (g.1 22 0 0), .ref (sb 14), .ref (sb 15), .int (g.1 25 0 0), .ref (sb 16), .ref (sb 17), .ref (sb 18), .ref (sb 19), .ref (sb 20), .int (g.1 31 0 0), .ref (sb 21), .ref (sb 22), .int (g.1 34 0 0), .ref (sb 23), .ref (sb 24), .int (g.1 37 0 0), .ref (sb 25), .int (g.1 39 0 0), .ref (sb 26), .ref (sb 27), .ref (sb 28), .ref (sb 29), .int (g.1 44 0 0)].set 11 (.int v))) k = cont cy sb db (sI g 31 0 0 v) k := by
  intro k hk
  by_cases h : k = 13
  · subst h
    rw [va_up_self]
    show _ = cnA cy sb db _ 13
    simp [cnA, sI_at, upd, List.set, sI_nc g 31 0 0 v (c1 := 20) (o1 := 0) (by omega), sI_nc g 31 0 0 v (c1 := 21) (o1 := 0) (by omega), sI_nc g 31 0 0 v (c1 := 22) (o1 := 0) (by omega), sI_nc g 31 0 0 v (c1 := 25) (o1 := 0) (by omega), sI_nc g 31 0 0 v (c1 := 34) (o1 := 0) (by omega), sI_nc g 31 0 0 v (c1 := 37) (o1 := 0) (by omega), sI_nc g 31 0 0 v (c1 := 39) (o1 := 0) (by omega), sI_nc g 31 0 0 v (c1 := 44) (o1 := 0) (by omega)]
  · rw [va_up_ne _ _ h]
    exact (cont_sI (c := 31) (o := 0) hk h).symm
theorem pf_RX5_86 (C0 : Cx p s m args c cc nL RX5 D cy) (M : Ws D b0 cy sb db g s H locs) {v : Int32} {g2 : Gs} (hg : g2 = sI g 31 0 0 v) (hdg : decode cc pc = .ok (.putfield 86, 3)) (kk : ∀ (H1 : Heap) (locs1 : List Loc), Ws D b0 cy sb db g2 s H1 locs1 → W p l e R s m args below meth c H1 locs1 cells slots Q (F0 m (pc + 3) ls rest)) : W p l e R s m args below meth c H locs cells slots Q (F0 m pc ls (.int v :: .ref (sb 13) :: rest)) := by
  subst hg
  exact mg_put C0.1 C0.2.1 C0.2.2.2.2.1 C0.2.2.2.1 C0.2.2.2.2.2 M.1 M.2 (k := 13) (Or.inl (by decide)) rfl rfl rfl inlX5 tyX5 tyX5_ok nmX5 11 (by decide) kw_13_2 rfl rfl (ty := .int) (by decide +kernel) rfl rfl (Nat.le_of_ble_eq_true rfl) hdg (fun H1 locs1 M1 S1 => kk H1 locs1 ⟨mp_congr M1 (su_31 cy sb db g v), S1⟩)
theorem su_34 (cy : Cy) (sb db : Nat → Nat) (g : Gs) (v : Int32) : ∀ k, lvk k → va_up (cont cy sb db g) (13) (.inr (5, [.int (g.1 20 0 0), .int (g.1 21 0 0), .int (g.1 22 0 0), .ref (sb 14), .ref (sb 15), .int (g.1 25 0 0), .ref (sb 16), .ref (sb 17), .ref (sb 18), .ref (sb 19), .ref (sb 20), .int (g.1 31 0 0), .ref (sb 21), .ref (sb 22), .int (g.1 34 0 0), .ref (sb 23), .ref (sb 24), .int (g.1 37 0 0), .ref (sb 25), .int (g.1 39 0 0), .ref (sb 26), .ref (sb 27), .ref (sb 28), .ref (sb 29), .int (g.1 44 0 0)].set 14 (.int v))) k = cont cy sb db (sI g 34 0 0 v) k := by
  intro k hk
  by_cases h : k = 13
  · subst h
    rw [va_up_self]
    show _ = cnA cy sb db _ 13
    simp [cnA, sI_at, upd, List.set, sI_nc g 34 0 0 v (c1 := 20) (o1 := 0) (by omega), sI_nc g 34 0 0 v (c1 := 21) (o1 := 0) (by omega), sI_nc g 34 0 0 v (c1 := 22) (o1 := 0) (by omega), sI_nc g 34 0 0 v (c1 := 25) (o1 := 0) (by omega), sI_nc g 34 0 0 v (c1 := 31) (o1 := 0) (by omega), sI_nc g 34 0 0 v (c1 := 37) (o1 := 0) (by omega), sI_nc g 34 0 0 v (c1 := 39) (o1 := 0) (by omega), sI_nc g 34 0 0 v (c1 := 44) (o1 := 0) (by omega)]
  · rw [va_up_ne _ _ h]
    exact (cont_sI (c := 34) (o := 0) hk h).symm
theorem pf_RX5_89 (C0 : Cx p s m args c cc nL RX5 D cy) (M : Ws D b0 cy sb db g s H locs) {v : Int32} {g2 : Gs} (hg : g2 = sI g 34 0 0 v) (hdg : decode cc pc = .ok (.putfield 89, 3)) (kk : ∀ (H1 : Heap) (locs1 : List Loc), Ws D b0 cy sb db g2 s H1 locs1 → W p l e R s m args below meth c H1 locs1 cells slots Q (F0 m (pc + 3) ls rest)) : W p l e R s m args below meth c H locs cells slots Q (F0 m pc ls (.int v :: .ref (sb 13) :: rest)) := by
  subst hg
  exact mg_put C0.1 C0.2.1 C0.2.2.2.2.1 C0.2.2.2.1 C0.2.2.2.2.2 M.1 M.2 (k := 13) (Or.inl (by decide)) rfl rfl rfl inlX5 tyX5 tyX5_ok nmX5 14 (by decide) kw_13_3 rfl rfl (ty := .int) (by decide +kernel) rfl rfl (Nat.le_of_ble_eq_true rfl) hdg (fun H1 locs1 M1 S1 => kk H1 locs1 ⟨mp_congr M1 (su_34 cy sb db g v), S1⟩)
theorem su_25 (cy : Cy) (sb db : Nat → Nat) (g : Gs) (v : Int32) : ∀ k, lvk k → va_up (cont cy sb db g) (13) (.inr (5, [.int (g.1 20 0 0), .int (g.1 21 0 0), .int (g.1 22 0 0), .ref (sb 14), .ref (sb 15), .int (g.1 25 0 0), .ref (sb 16), .ref (sb 17), .ref (sb 18), .ref (sb 19), .ref (sb 20), .int (g.1 31 0 0), .ref (sb 21), .ref (sb 22), .int (g.1 34 0 0), .ref (sb 23), .ref (sb 24), .int (g.1 37 0 0), .ref (sb 25), .int (g.1 39 0 0), .ref (sb 26), .ref (sb 27), .ref (sb 28), .ref (sb 29), .int (g.1 44 0 0)].set 5 (.int v))) k = cont cy sb db (sI g 25 0 0 v) k := by
  intro k hk
  by_cases h : k = 13
  · subst h
    rw [va_up_self]
    show _ = cnA cy sb db _ 13
    simp [cnA, sI_at, upd, List.set, sI_nc g 25 0 0 v (c1 := 20) (o1 := 0) (by omega), sI_nc g 25 0 0 v (c1 := 21) (o1 := 0) (by omega), sI_nc g 25 0 0 v (c1 := 22) (o1 := 0) (by omega), sI_nc g 25 0 0 v (c1 := 31) (o1 := 0) (by omega), sI_nc g 25 0 0 v (c1 := 34) (o1 := 0) (by omega), sI_nc g 25 0 0 v (c1 := 37) (o1 := 0) (by omega), sI_nc g 25 0 0 v (c1 := 39) (o1 := 0) (by omega), sI_nc g 25 0 0 v (c1 := 44) (o1 := 0) (by omega)]
  · rw [va_up_ne _ _ h]
    exact (cont_sI (c := 25) (o := 0) hk h).symm
theorem pf_RX5_98 (C0 : Cx p s m args c cc nL RX5 D cy) (M : Ws D b0 cy sb db g s H locs) {v : Int32} {g2 : Gs} (hg : g2 = sI g 25 0 0 v) (hdg : decode cc pc = .ok (.putfield 98, 3)) (kk : ∀ (H1 : Heap) (locs1 : List Loc), Ws D b0 cy sb db g2 s H1 locs1 → W p l e R s m args below meth c H1 locs1 cells slots Q (F0 m (pc + 3) ls rest)) : W p l e R s m args below meth c H locs cells slots Q (F0 m pc ls (.int v :: .ref (sb 13) :: rest)) := by
  subst hg
  exact mg_put C0.1 C0.2.1 C0.2.2.2.2.1 C0.2.2.2.1 C0.2.2.2.2.2 M.1 M.2 (k := 13) (Or.inl (by decide)) rfl rfl rfl inlX5 tyX5 tyX5_ok nmX5 5 (by decide) kw_11_21 rfl rfl (ty := .int) (by decide +kernel) rfl rfl (Nat.le_of_ble_eq_true rfl) hdg (fun H1 locs1 M1 S1 => kk H1 locs1 ⟨mp_congr M1 (su_25 cy sb db g v), S1⟩)
theorem su_37 (cy : Cy) (sb db : Nat → Nat) (g : Gs) (v : Int32) : ∀ k, lvk k → va_up (cont cy sb db g) (13) (.inr (5, [.int (g.1 20 0 0), .int (g.1 21 0 0), .int (g.1 22 0 0), .ref (sb 14), .ref (sb 15), .int (g.1 25 0 0), .ref (sb 16), .ref (sb 17), .ref (sb 18), .ref (sb 19), .ref (sb 20), .int (g.1 31 0 0), .ref (sb 21), .ref (sb 22), .int (g.1 34 0 0), .ref (sb 23), .ref (sb 24), .int (g.1 37 0 0), .ref (sb 25), .int (g.1 39 0 0), .ref (sb 26), .ref (sb 27), .ref (sb 28), .ref (sb 29), .int (g.1 44 0 0)].set 17 (.int v))) k = cont cy sb db (sI g 37 0 0 v) k := by
  intro k hk
  by_cases h : k = 13
  · subst h
    rw [va_up_self]
    show _ = cnA cy sb db _ 13
    simp [cnA, sI_at, upd, List.set, sI_nc g 37 0 0 v (c1 := 20) (o1 := 0) (by omega), sI_nc g 37 0 0 v (c1 := 21) (o1 := 0) (by omega), sI_nc g 37 0 0 v (c1 := 22) (o1 := 0) (by omega), sI_nc g 37 0 0 v (c1 := 25) (o1 := 0) (by omega), sI_nc g 37 0 0 v (c1 := 31) (o1 := 0) (by omega), sI_nc g 37 0 0 v (c1 := 34) (o1 := 0) (by omega), sI_nc g 37 0 0 v (c1 := 39) (o1 := 0) (by omega), sI_nc g 37 0 0 v (c1 := 44) (o1 := 0) (by omega)]
  · rw [va_up_ne _ _ h]
    exact (cont_sI (c := 37) (o := 0) hk h).symm
theorem pf_RX5_105 (C0 : Cx p s m args c cc nL RX5 D cy) (M : Ws D b0 cy sb db g s H locs) {v : Int32} {g2 : Gs} (hg : g2 = sI g 37 0 0 v) (hdg : decode cc pc = .ok (.putfield 105, 3)) (kk : ∀ (H1 : Heap) (locs1 : List Loc), Ws D b0 cy sb db g2 s H1 locs1 → W p l e R s m args below meth c H1 locs1 cells slots Q (F0 m (pc + 3) ls rest)) : W p l e R s m args below meth c H locs cells slots Q (F0 m pc ls (.int v :: .ref (sb 13) :: rest)) := by
  subst hg
  exact mg_put C0.1 C0.2.1 C0.2.2.2.2.1 C0.2.2.2.1 C0.2.2.2.2.2 M.1 M.2 (k := 13) (Or.inl (by decide)) rfl rfl rfl inlX5 tyX5 tyX5_ok nmX5 17 (by decide) kw_12_17 rfl rfl (ty := .int) (by decide +kernel) rfl rfl (Nat.le_of_ble_eq_true rfl) hdg (fun H1 locs1 M1 S1 => kk H1 locs1 ⟨mp_congr M1 (su_37 cy sb db g v), S1⟩)
theorem su_44 (cy : Cy) (sb db : Nat → Nat) (g : Gs) (v : Int32) : ∀ k, lvk k → va_up (cont cy sb db g) (13) (.inr (5, [.int (g.1 20 0 0), .int (g.1 21 0 0), .int (g.1 22 0 0), .ref (sb 14), .ref (sb 15), .int (g.1 25 0 0), .ref (sb 16), .ref (sb 17), .ref (sb 18), .ref (sb 19), .ref (sb 20), .int (g.1 31 0 0), .ref (sb 21), .ref (sb 22), .int (g.1 34 0 0), .ref (sb 23), .ref (sb 24), .int (g.1 37 0 0), .ref (sb 25), .int (g.1 39 0 0), .ref (sb 26), .ref (sb 27), .ref (sb 28), .ref (sb 29), .int (g.1 44 0 0)].set 24 (.int v))) k = cont cy sb db (sI g 44 0 0 v) k := by
  intro k hk
  by_cases h : k = 13
  · subst h
    rw [va_up_self]
    show _ = cnA cy sb db _ 13
    simp [cnA, sI_at, upd, List.set, sI_nc g 44 0 0 v (c1 := 20) (o1 := 0) (by omega), sI_nc g 44 0 0 v (c1 := 21) (o1 := 0) (by omega), sI_nc g 44 0 0 v (c1 := 22) (o1 := 0) (by omega), sI_nc g 44 0 0 v (c1 := 25) (o1 := 0) (by omega), sI_nc g 44 0 0 v (c1 := 31) (o1 := 0) (by omega), sI_nc g 44 0 0 v (c1 := 34) (o1 := 0) (by omega), sI_nc g 44 0 0 v (c1 := 37) (o1 := 0) (by omega), sI_nc g 44 0 0 v (c1 := 39) (o1 := 0) (by omega)]
  · rw [va_up_ne _ _ h]
    exact (cont_sI (c := 44) (o := 0) hk h).symm
theorem pf_RX5_142 (C0 : Cx p s m args c cc nL RX5 D cy) (M : Ws D b0 cy sb db g s H locs) {v : Int32} {g2 : Gs} (hg : g2 = sI g 44 0 0 v) (hdg : decode cc pc = .ok (.putfield 142, 3)) (kk : ∀ (H1 : Heap) (locs1 : List Loc), Ws D b0 cy sb db g2 s H1 locs1 → W p l e R s m args below meth c H1 locs1 cells slots Q (F0 m (pc + 3) ls rest)) : W p l e R s m args below meth c H locs cells slots Q (F0 m pc ls (.int v :: .ref (sb 13) :: rest)) := by
  subst hg
  exact mg_put C0.1 C0.2.1 C0.2.2.2.2.1 C0.2.2.2.1 C0.2.2.2.2.2 M.1 M.2 (k := 13) (Or.inl (by decide)) rfl rfl rfl inlX5 tyX5 tyX5_ok nmX5 24 (by decide) kw_17_13 rfl rfl (ty := .int) (by decide +kernel) rfl rfl (Nat.le_of_ble_eq_true rfl) hdg (fun H1 locs1 M1 S1 => kk H1 locs1 ⟨mp_congr M1 (su_44 cy sb db g v), S1⟩)
theorem su_39 (cy : Cy) (sb db : Nat → Nat) (g : Gs) (v : Int32) : ∀ k, lvk k → va_up (cont cy sb db g) (13) (.inr (5, [.int (g.1 20 0 0), .int (g.1 21 0 0), .int (g.1 22 0 0), .ref (sb 14), .ref (sb 15), .int (g.1 25 0 0), .ref (sb 16), .ref (sb 17), .ref (sb 18), .ref (sb 19), .ref (sb 20), .int (g.1 31 0 0), .ref (sb 21), .ref (sb 22), .int (g.1 34 0 0), .ref (sb 23), .ref (sb 24), .int (g.1 37 0 0), .ref (sb 25), .int (g.1 39 0 0), .ref (sb 26), .ref (sb 27), .ref (sb 28), .ref (sb 29), .int (g.1 44 0 0)].set 19 (.int v))) k = cont cy sb db (sI g 39 0 0 v) k := by
  intro k hk
  by_cases h : k = 13
  · subst h
    rw [va_up_self]
    show _ = cnA cy sb db _ 13
    simp [cnA, sI_at, upd, List.set, sI_nc g 39 0 0 v (c1 := 20) (o1 := 0) (by omega), sI_nc g 39 0 0 v (c1 := 21) (o1 := 0) (by omega), sI_nc g 39 0 0 v (c1 := 22) (o1 := 0) (by omega), sI_nc g 39 0 0 v (c1 := 25) (o1 := 0) (by omega), sI_nc g 39 0 0 v (c1 := 31) (o1 := 0) (by omega), sI_nc g 39 0 0 v (c1 := 34) (o1 := 0) (by omega), sI_nc g 39 0 0 v (c1 := 37) (o1 := 0) (by omega), sI_nc g 39 0 0 v (c1 := 44) (o1 := 0) (by omega)]
  · rw [va_up_ne _ _ h]
    exact (cont_sI (c := 39) (o := 0) hk h).symm
theorem pf_RX5_175 (C0 : Cx p s m args c cc nL RX5 D cy) (M : Ws D b0 cy sb db g s H locs) {v : Int32} {g2 : Gs} (hg : g2 = sI g 39 0 0 v) (hdg : decode cc pc = .ok (.putfield 175, 3)) (kk : ∀ (H1 : Heap) (locs1 : List Loc), Ws D b0 cy sb db g2 s H1 locs1 → W p l e R s m args below meth c H1 locs1 cells slots Q (F0 m (pc + 3) ls rest)) : W p l e R s m args below meth c H locs cells slots Q (F0 m pc ls (.int v :: .ref (sb 13) :: rest)) := by
  subst hg
  exact mg_put C0.1 C0.2.1 C0.2.2.2.2.1 C0.2.2.2.1 C0.2.2.2.2.2 M.1 M.2 (k := 13) (Or.inl (by decide)) rfl rfl rfl inlX5 tyX5 tyX5_ok nmX5 19 (by decide) kw_23_20 rfl rfl (ty := .int) (by decide +kernel) rfl rfl (Nat.le_of_ble_eq_true rfl) hdg (fun H1 locs1 M1 S1 => kk H1 locs1 ⟨mp_congr M1 (su_39 cy sb db g v), S1⟩)
theorem al_SRC (C0 : Cx p s m args c cc nL own D cy) (M : Ws D b0 cy sb db g s H locs) {i : Int32} (hin : vp_in i 500) (hdg : decode cc pc = .ok (.iaload, 1)) (kk : W p l e R s m args below meth c H locs cells slots Q (F0 m (pc + 1) ls (.int (g.1 3 0 i.toNatClampNeg) :: rest))) : W p l e R s m args below meth c H locs cells slots Q (F0 m pc ls (.int i :: .ref (sb 2) :: rest)) :=
  mg_iald C0.1 C0.2.1 C0.2.2.2.2.2 M.1 (k := 2) (Or.inl (by decide)) rfl 0 rfl rfl hin hdg kk
theorem ln_SRC (C0 : Cx p s m args c cc nL own D cy) (M : Ws D b0 cy sb db g s H locs) (hdg : decode cc pc = .ok (.arraylength, 1)) (kk : W p l e R s m args below meth c H locs cells slots Q (F0 m (pc + 1) ls (.int (nI 500) :: rest))) : W p l e R s m args below meth c H locs cells slots Q (F0 m pc ls (.ref (sb 2) :: rest)) :=
  mg_alen C0.1 C0.2.1 C0.2.2.2.2.2 M.1 (k := 2) (Or.inl (by decide)) rfl 0 rfl rfl hdg kk
theorem sv_SRC (cy : Cy) (sb db : Nat → Nat) (g : Gs) (j : Nat) (v : Int32) : ∀ k, lvk k → va_up (cont cy sb db g) (2) (.inl (cy.1, 500, .inl (upd (g.1 3 0) j v))) k = cont cy sb db (sI g 3 0 j v) k := by
  intro k hk
  by_cases h : k = 2
  · subst h
    rw [va_up_self]
    show _ = cnA cy sb db _ 2
    simp [cnA, sI_at, sI, sA]
  · rw [va_up_ne _ _ h]
    exact (cont_sI (c := 3) (o := 0) hk h).symm
theorem as_SRC (C0 : Cx p s m args c cc nL own D cy) (M : Ws D b0 cy sb db g s H locs) {i : Int32} {x : Int32} (hin : vp_in i 500) {g2 : Gs} (hg : g2 = sI g 3 0 i.toNatClampNeg x) (hdg : decode cc pc = .ok (.iastore, 1)) (kk : ∀ (H1 : Heap) (locs1 : List Loc), Ws D b0 cy sb db g2 s H1 locs1 → W p l e R s m args below meth c H1 locs1 cells slots Q (F0 m (pc + 1) ls rest)) : W p l e R s m args below meth c H locs cells slots Q (F0 m pc ls (.int x :: .int i :: .ref (sb 2) :: rest)) := by
  subst hg
  exact mg_iast C0.1 C0.2.1 C0.2.2.2.2.2 M.1 M.2 (k := 2) (Or.inl (by decide)) rfl 0 rfl rfl hin hdg (fun H1 locs1 M1 S1 => kk H1 locs1 ⟨mp_congr M1 (sv_SRC cy sb db g _ _), S1⟩)
theorem al_LI (C0 : Cx p s m args c cc nL own D cy) (M : Ws D b0 cy sb db g s H locs) {i : Int32} (hin : vp_in i 30) (hdg : decode cc pc = .ok (.iaload, 1)) (kk : W p l e R s m args below meth c H locs cells slots Q (F0 m (pc + 1) ls (.int (g.1 8 0 i.toNatClampNeg) :: rest))) : W p l e R s m args below meth c H locs cells slots Q (F0 m pc ls (.int i :: .ref (sb 4) :: rest)) :=
  mg_iald C0.1 C0.2.1 C0.2.2.2.2.2 M.1 (k := 4) (Or.inl (by decide)) rfl 0 rfl rfl hin hdg kk
theorem ln_LI (C0 : Cx p s m args c cc nL own D cy) (M : Ws D b0 cy sb db g s H locs) (hdg : decode cc pc = .ok (.arraylength, 1)) (kk : W p l e R s m args below meth c H locs cells slots Q (F0 m (pc + 1) ls (.int (nI 30) :: rest))) : W p l e R s m args below meth c H locs cells slots Q (F0 m pc ls (.ref (sb 4) :: rest)) :=
  mg_alen C0.1 C0.2.1 C0.2.2.2.2.2 M.1 (k := 4) (Or.inl (by decide)) rfl 0 rfl rfl hdg kk
theorem sv_LI (cy : Cy) (sb db : Nat → Nat) (g : Gs) (j : Nat) (v : Int32) : ∀ k, lvk k → va_up (cont cy sb db g) (4) (.inl (cy.1, 30, .inl (upd (g.1 8 0) j v))) k = cont cy sb db (sI g 8 0 j v) k := by
  intro k hk
  by_cases h : k = 4
  · subst h
    rw [va_up_self]
    show _ = cnA cy sb db _ 4
    simp [cnA, sI_at, sI, sA]
  · rw [va_up_ne _ _ h]
    exact (cont_sI (c := 8) (o := 0) hk h).symm
theorem as_LI (C0 : Cx p s m args c cc nL own D cy) (M : Ws D b0 cy sb db g s H locs) {i : Int32} {x : Int32} (hin : vp_in i 30) {g2 : Gs} (hg : g2 = sI g 8 0 i.toNatClampNeg x) (hdg : decode cc pc = .ok (.iastore, 1)) (kk : ∀ (H1 : Heap) (locs1 : List Loc), Ws D b0 cy sb db g2 s H1 locs1 → W p l e R s m args below meth c H1 locs1 cells slots Q (F0 m (pc + 1) ls rest)) : W p l e R s m args below meth c H locs cells slots Q (F0 m pc ls (.int x :: .int i :: .ref (sb 4) :: rest)) := by
  subst hg
  exact mg_iast C0.1 C0.2.1 C0.2.2.2.2.2 M.1 M.2 (k := 4) (Or.inl (by decide)) rfl 0 rfl rfl hin hdg (fun H1 locs1 M1 S1 => kk H1 locs1 ⟨mp_congr M1 (sv_LI cy sb db g _ _), S1⟩)
theorem al_LJ (C0 : Cx p s m args c cc nL own D cy) (M : Ws D b0 cy sb db g s H locs) {i : Int32} (hin : vp_in i 30) (hdg : decode cc pc = .ok (.iaload, 1)) (kk : W p l e R s m args below meth c H locs cells slots Q (F0 m (pc + 1) ls (.int (g.1 9 0 i.toNatClampNeg) :: rest))) : W p l e R s m args below meth c H locs cells slots Q (F0 m pc ls (.int i :: .ref (sb 5) :: rest)) :=
  mg_iald C0.1 C0.2.1 C0.2.2.2.2.2 M.1 (k := 5) (Or.inl (by decide)) rfl 0 rfl rfl hin hdg kk
theorem ln_LJ (C0 : Cx p s m args c cc nL own D cy) (M : Ws D b0 cy sb db g s H locs) (hdg : decode cc pc = .ok (.arraylength, 1)) (kk : W p l e R s m args below meth c H locs cells slots Q (F0 m (pc + 1) ls (.int (nI 30) :: rest))) : W p l e R s m args below meth c H locs cells slots Q (F0 m pc ls (.ref (sb 5) :: rest)) :=
  mg_alen C0.1 C0.2.1 C0.2.2.2.2.2 M.1 (k := 5) (Or.inl (by decide)) rfl 0 rfl rfl hdg kk
theorem sv_LJ (cy : Cy) (sb db : Nat → Nat) (g : Gs) (j : Nat) (v : Int32) : ∀ k, lvk k → va_up (cont cy sb db g) (5) (.inl (cy.1, 30, .inl (upd (g.1 9 0) j v))) k = cont cy sb db (sI g 9 0 j v) k := by
  intro k hk
  by_cases h : k = 5
  · subst h
    rw [va_up_self]
    show _ = cnA cy sb db _ 5
    simp [cnA, sI_at, sI, sA]
  · rw [va_up_ne _ _ h]
    exact (cont_sI (c := 9) (o := 0) hk h).symm
theorem as_LJ (C0 : Cx p s m args c cc nL own D cy) (M : Ws D b0 cy sb db g s H locs) {i : Int32} {x : Int32} (hin : vp_in i 30) {g2 : Gs} (hg : g2 = sI g 9 0 i.toNatClampNeg x) (hdg : decode cc pc = .ok (.iastore, 1)) (kk : ∀ (H1 : Heap) (locs1 : List Loc), Ws D b0 cy sb db g2 s H1 locs1 → W p l e R s m args below meth c H1 locs1 cells slots Q (F0 m (pc + 1) ls rest)) : W p l e R s m args below meth c H locs cells slots Q (F0 m pc ls (.int x :: .int i :: .ref (sb 5) :: rest)) := by
  subst hg
  exact mg_iast C0.1 C0.2.1 C0.2.2.2.2.2 M.1 M.2 (k := 5) (Or.inl (by decide)) rfl 0 rfl rfl hin hdg (fun H1 locs1 M1 S1 => kk H1 locs1 ⟨mp_congr M1 (sv_LJ cy sb db g _ _), S1⟩)
theorem al_LK (C0 : Cx p s m args c cc nL own D cy) (M : Ws D b0 cy sb db g s H locs) {i : Int32} (hin : vp_in i 30) (hdg : decode cc pc = .ok (.iaload, 1)) (kk : W p l e R s m args below meth c H locs cells slots Q (F0 m (pc + 1) ls (.int (g.1 10 0 i.toNatClampNeg) :: rest))) : W p l e R s m args below meth c H locs cells slots Q (F0 m pc ls (.int i :: .ref (sb 6) :: rest)) :=
  mg_iald C0.1 C0.2.1 C0.2.2.2.2.2 M.1 (k := 6) (Or.inl (by decide)) rfl 0 rfl rfl hin hdg kk
theorem ln_LK (C0 : Cx p s m args c cc nL own D cy) (M : Ws D b0 cy sb db g s H locs) (hdg : decode cc pc = .ok (.arraylength, 1)) (kk : W p l e R s m args below meth c H locs cells slots Q (F0 m (pc + 1) ls (.int (nI 30) :: rest))) : W p l e R s m args below meth c H locs cells slots Q (F0 m pc ls (.ref (sb 6) :: rest)) :=
  mg_alen C0.1 C0.2.1 C0.2.2.2.2.2 M.1 (k := 6) (Or.inl (by decide)) rfl 0 rfl rfl hdg kk
theorem sv_LK (cy : Cy) (sb db : Nat → Nat) (g : Gs) (j : Nat) (v : Int32) : ∀ k, lvk k → va_up (cont cy sb db g) (6) (.inl (cy.1, 30, .inl (upd (g.1 10 0) j v))) k = cont cy sb db (sI g 10 0 j v) k := by
  intro k hk
  by_cases h : k = 6
  · subst h
    rw [va_up_self]
    show _ = cnA cy sb db _ 6
    simp [cnA, sI_at, sI, sA]
  · rw [va_up_ne _ _ h]
    exact (cont_sI (c := 10) (o := 0) hk h).symm
theorem as_LK (C0 : Cx p s m args c cc nL own D cy) (M : Ws D b0 cy sb db g s H locs) {i : Int32} {x : Int32} (hin : vp_in i 30) {g2 : Gs} (hg : g2 = sI g 10 0 i.toNatClampNeg x) (hdg : decode cc pc = .ok (.iastore, 1)) (kk : ∀ (H1 : Heap) (locs1 : List Loc), Ws D b0 cy sb db g2 s H1 locs1 → W p l e R s m args below meth c H1 locs1 cells slots Q (F0 m (pc + 1) ls rest)) : W p l e R s m args below meth c H locs cells slots Q (F0 m pc ls (.int x :: .int i :: .ref (sb 6) :: rest)) := by
  subst hg
  exact mg_iast C0.1 C0.2.1 C0.2.2.2.2.2 M.1 M.2 (k := 6) (Or.inl (by decide)) rfl 0 rfl rfl hin hdg (fun H1 locs1 M1 S1 => kk H1 locs1 ⟨mp_congr M1 (sv_LK cy sb db g _ _), S1⟩)
theorem al_LV (C0 : Cx p s m args c cc nL own D cy) (M : Ws D b0 cy sb db g s H locs) {i : Int32} (hin : vp_in i 30) (hdg : decode cc pc = .ok (.laload, 1)) (kk : W p l e R s m args below meth c H locs cells slots Q (F0 m (pc + 1) ls (.long (g.2.1 1 i.toNatClampNeg) :: rest))) : W p l e R s m args below meth c H locs cells slots Q (F0 m pc ls (.int i :: .ref (sb 7) :: rest)) :=
  mg_lald C0.1 C0.2.1 C0.2.2.2.2.2 M.1 (k := 7) (Or.inl (by decide)) rfl 1 rfl rfl hin hdg kk
theorem ln_LV (C0 : Cx p s m args c cc nL own D cy) (M : Ws D b0 cy sb db g s H locs) (hdg : decode cc pc = .ok (.arraylength, 1)) (kk : W p l e R s m args below meth c H locs cells slots Q (F0 m (pc + 1) ls (.int (nI 30) :: rest))) : W p l e R s m args below meth c H locs cells slots Q (F0 m pc ls (.ref (sb 7) :: rest)) :=
  mg_alen C0.1 C0.2.1 C0.2.2.2.2.2 M.1 (k := 7) (Or.inl (by decide)) rfl 1 rfl rfl hdg kk
theorem sv_LV (cy : Cy) (sb db : Nat → Nat) (g : Gs) (j : Nat) (v : Int64) : ∀ k, lvk k → va_up (cont cy sb db g) (7) (.inl (cy.2.1, 30, .inr (.inl (vp_updL (g.2.1 1) j v)))) k = cont cy sb db (sL g 1 j v) k := by
  intro k hk
  by_cases h : k = 7
  · subst h
    rw [va_up_self]
    show _ = cnA cy sb db _ 7
    simp [cnA, sL_at, sL]
  · rw [va_up_ne _ _ h]
    exact (cont_sL (c := 1) hk h).symm
theorem as_LV (C0 : Cx p s m args c cc nL own D cy) (M : Ws D b0 cy sb db g s H locs) {i : Int32} {x : Int64} (hin : vp_in i 30) {g2 : Gs} (hg : g2 = sL g 1 i.toNatClampNeg x) (hdg : decode cc pc = .ok (.lastore, 1)) (kk : ∀ (H1 : Heap) (locs1 : List Loc), Ws D b0 cy sb db g2 s H1 locs1 → W p l e R s m args below meth c H1 locs1 cells slots Q (F0 m (pc + 1) ls rest)) : W p l e R s m args below meth c H locs cells slots Q (F0 m pc ls (.long x :: .int i :: .ref (sb 7) :: rest)) := by
  subst hg
  exact mg_last C0.1 C0.2.1 C0.2.2.2.2.2 M.1 M.2 (k := 7) (Or.inl (by decide)) rfl 1 rfl rfl hin hdg (fun H1 locs1 M1 S1 => kk H1 locs1 ⟨mp_congr M1 (sv_LV cy sb db g _ _), S1⟩)
theorem al_NUM (C0 : Cx p s m args c cc nL own D cy) (M : Ws D b0 cy sb db g s H locs) {i : Int32} (hin : vp_in i (g.2.2 9)) (hdg : decode cc pc = .ok (.laload, 1)) (kk : W p l e R s m args below meth c H locs cells slots Q (F0 m (pc + 1) ls (.long (g.2.1 0 i.toNatClampNeg) :: rest))) : W p l e R s m args below meth c H locs cells slots Q (F0 m pc ls (.int i :: .ref (db 9) :: rest)) :=
  mg_lald C0.1 C0.2.1 C0.2.2.2.2.2 M.1 (k := 9) (Or.inl (by decide)) rfl 1 rfl rfl hin hdg kk
theorem ln_NUM (C0 : Cx p s m args c cc nL own D cy) (M : Ws D b0 cy sb db g s H locs) (hdg : decode cc pc = .ok (.arraylength, 1)) (kk : W p l e R s m args below meth c H locs cells slots Q (F0 m (pc + 1) ls (.int (nI (g.2.2 9)) :: rest))) : W p l e R s m args below meth c H locs cells slots Q (F0 m pc ls (.ref (db 9) :: rest)) :=
  mg_alen C0.1 C0.2.1 C0.2.2.2.2.2 M.1 (k := 9) (Or.inl (by decide)) rfl 1 rfl rfl hdg kk
theorem sv_NUM (cy : Cy) (sb db : Nat → Nat) (g : Gs) (j : Nat) (v : Int64) : ∀ k, lvk k → va_up (cont cy sb db g) (9) (.inl (cy.2.1, (g.2.2 9), .inr (.inl (vp_updL (g.2.1 0) j v)))) k = cont cy sb db (sL g 0 j v) k := by
  intro k hk
  by_cases h : k = 9
  · subst h
    rw [va_up_self]
    show _ = cnA cy sb db _ 9
    simp [cnA, sL_at, sL]
  · rw [va_up_ne _ _ h]
    exact (cont_sL (c := 0) hk h).symm
theorem as_NUM (C0 : Cx p s m args c cc nL own D cy) (M : Ws D b0 cy sb db g s H locs) {i : Int32} {x : Int64} (hin : vp_in i (g.2.2 9)) {g2 : Gs} (hg : g2 = sL g 0 i.toNatClampNeg x) (hdg : decode cc pc = .ok (.lastore, 1)) (kk : ∀ (H1 : Heap) (locs1 : List Loc), Ws D b0 cy sb db g2 s H1 locs1 → W p l e R s m args below meth c H1 locs1 cells slots Q (F0 m (pc + 1) ls rest)) : W p l e R s m args below meth c H locs cells slots Q (F0 m pc ls (.long x :: .int i :: .ref (db 9) :: rest)) := by
  subst hg
  exact mg_last C0.1 C0.2.1 C0.2.2.2.2.2 M.1 M.2 (k := 9) (Or.inl (by decide)) rfl 1 rfl rfl hin hdg (fun H1 locs1 M1 S1 => kk H1 locs1 ⟨mp_congr M1 (sv_NUM cy sb db g _ _), S1⟩)
theorem al_FIL (C0 : Cx p s m args c cc nL own D cy) (M : Ws D b0 cy sb db g s H locs) {i : Int32} (hin : vp_in i (g.2.2 10)) (hdg : decode cc pc = .ok (.baload, 1)) (kk : W p l e R s m args below meth c H locs cells slots Q (F0 m (pc + 1) ls (.int (g.1 13 0 i.toNatClampNeg) :: rest))) : W p l e R s m args below meth c H locs cells slots Q (F0 m pc ls (.int i :: .ref (db 10) :: rest)) :=
  mg_zald C0.1 C0.2.1 C0.2.2.2.2.2 M.1 (k := 10) (Or.inl (by decide)) rfl 2 rfl rfl hin hdg kk
theorem ln_FIL (C0 : Cx p s m args c cc nL own D cy) (M : Ws D b0 cy sb db g s H locs) (hdg : decode cc pc = .ok (.arraylength, 1)) (kk : W p l e R s m args below meth c H locs cells slots Q (F0 m (pc + 1) ls (.int (nI (g.2.2 10)) :: rest))) : W p l e R s m args below meth c H locs cells slots Q (F0 m pc ls (.ref (db 10) :: rest)) :=
  mg_alen C0.1 C0.2.1 C0.2.2.2.2.2 M.1 (k := 10) (Or.inl (by decide)) rfl 2 rfl rfl hdg kk
theorem sv_FIL (cy : Cy) (sb db : Nat → Nat) (g : Gs) (j : Nat) (v : Int32) : ∀ k, lvk k → va_up (cont cy sb db g) (10) (.inl (cy.2.2.1, (g.2.2 10), .inl (upd (g.1 13 0) j v))) k = cont cy sb db (sI g 13 0 j v) k := by
  intro k hk
  by_cases h : k = 10
  · subst h
    rw [va_up_self]
    show _ = cnA cy sb db _ 10
    simp [cnA, sI_at, sI, sA]
  · rw [va_up_ne _ _ h]
    exact (cont_sI (c := 13) (o := 0) hk h).symm
theorem as_FIL (C0 : Cx p s m args c cc nL own D cy) (M : Ws D b0 cy sb db g s H locs) {i : Int32} {x : Int32} (hin : vp_in i (g.2.2 10)) {g2 : Gs} (hg : g2 = sI g 13 0 i.toNatClampNeg (vp_nar .boolean x)) (hdg : decode cc pc = .ok (.bastore, 1)) (kk : ∀ (H1 : Heap) (locs1 : List Loc), Ws D b0 cy sb db g2 s H1 locs1 → W p l e R s m args below meth c H1 locs1 cells slots Q (F0 m (pc + 1) ls rest)) : W p l e R s m args below meth c H locs cells slots Q (F0 m pc ls (.int x :: .int i :: .ref (db 10) :: rest)) := by
  subst hg
  exact mg_zast C0.1 C0.2.1 C0.2.2.2.2.2 M.1 M.2 (k := 10) (Or.inl (by decide)) rfl 2 rfl rfl hin hdg (fun H1 locs1 M1 S1 => kk H1 locs1 ⟨mp_congr M1 (sv_FIL cy sb db g _ _), S1⟩)
theorem al_STA (C0 : Cx p s m args c cc nL own D cy) (M : Ws D b0 cy sb db g s H locs) {i : Int32} (hin : vp_in i (g.2.2 11)) (hdg : decode cc pc = .ok (.iaload, 1)) (kk : W p l e R s m args below meth c H locs cells slots Q (F0 m (pc + 1) ls (.int (g.1 14 0 i.toNatClampNeg) :: rest))) : W p l e R s m args below meth c H locs cells slots Q (F0 m pc ls (.int i :: .ref (db 11) :: rest)) :=
  mg_iald C0.1 C0.2.1 C0.2.2.2.2.2 M.1 (k := 11) (Or.inl (by decide)) rfl 0 rfl rfl hin hdg kk
theorem ln_STA (C0 : Cx p s m args c cc nL own D cy) (M : Ws D b0 cy sb db g s H locs) (hdg : decode cc pc = .ok (.arraylength, 1)) (kk : W p l e R s m args below meth c H locs cells slots Q (F0 m (pc + 1) ls (.int (nI (g.2.2 11)) :: rest))) : W p l e R s m args below meth c H locs cells slots Q (F0 m pc ls (.ref (db 11) :: rest)) :=
  mg_alen C0.1 C0.2.1 C0.2.2.2.2.2 M.1 (k := 11) (Or.inl (by decide)) rfl 0 rfl rfl hdg kk
theorem sv_STA (cy : Cy) (sb db : Nat → Nat) (g : Gs) (j : Nat) (v : Int32) : ∀ k, lvk k → va_up (cont cy sb db g) (11) (.inl (cy.1, (g.2.2 11), .inl (upd (g.1 14 0) j v))) k = cont cy sb db (sI g 14 0 j v) k := by
  intro k hk
  by_cases h : k = 11
  · subst h
    rw [va_up_self]
    show _ = cnA cy sb db _ 11
    simp [cnA, sI_at, sI, sA]
  · rw [va_up_ne _ _ h]
    exact (cont_sI (c := 14) (o := 0) hk h).symm
theorem as_STA (C0 : Cx p s m args c cc nL own D cy) (M : Ws D b0 cy sb db g s H locs) {i : Int32} {x : Int32} (hin : vp_in i (g.2.2 11)) {g2 : Gs} (hg : g2 = sI g 14 0 i.toNatClampNeg x) (hdg : decode cc pc = .ok (.iastore, 1)) (kk : ∀ (H1 : Heap) (locs1 : List Loc), Ws D b0 cy sb db g2 s H1 locs1 → W p l e R s m args below meth c H1 locs1 cells slots Q (F0 m (pc + 1) ls rest)) : W p l e R s m args below meth c H locs cells slots Q (F0 m pc ls (.int x :: .int i :: .ref (db 11) :: rest)) := by
  subst hg
  exact mg_iast C0.1 C0.2.1 C0.2.2.2.2.2 M.1 M.2 (k := 11) (Or.inl (by decide)) rfl 0 rfl rfl hin hdg (fun H1 locs1 M1 S1 => kk H1 locs1 ⟨mp_congr M1 (sv_STA cy sb db g _ _), S1⟩)
theorem al_LEN (C0 : Cx p s m args c cc nL own D cy) (M : Ws D b0 cy sb db g s H locs) {i : Int32} (hin : vp_in i (g.2.2 12)) (hdg : decode cc pc = .ok (.iaload, 1)) (kk : W p l e R s m args below meth c H locs cells slots Q (F0 m (pc + 1) ls (.int (g.1 15 0 i.toNatClampNeg) :: rest))) : W p l e R s m args below meth c H locs cells slots Q (F0 m pc ls (.int i :: .ref (db 12) :: rest)) :=
  mg_iald C0.1 C0.2.1 C0.2.2.2.2.2 M.1 (k := 12) (Or.inl (by decide)) rfl 0 rfl rfl hin hdg kk
theorem ln_LEN (C0 : Cx p s m args c cc nL own D cy) (M : Ws D b0 cy sb db g s H locs) (hdg : decode cc pc = .ok (.arraylength, 1)) (kk : W p l e R s m args below meth c H locs cells slots Q (F0 m (pc + 1) ls (.int (nI (g.2.2 12)) :: rest))) : W p l e R s m args below meth c H locs cells slots Q (F0 m pc ls (.ref (db 12) :: rest)) :=
  mg_alen C0.1 C0.2.1 C0.2.2.2.2.2 M.1 (k := 12) (Or.inl (by decide)) rfl 0 rfl rfl hdg kk
theorem sv_LEN (cy : Cy) (sb db : Nat → Nat) (g : Gs) (j : Nat) (v : Int32) : ∀ k, lvk k → va_up (cont cy sb db g) (12) (.inl (cy.1, (g.2.2 12), .inl (upd (g.1 15 0) j v))) k = cont cy sb db (sI g 15 0 j v) k := by
  intro k hk
  by_cases h : k = 12
  · subst h
    rw [va_up_self]
    show _ = cnA cy sb db _ 12
    simp [cnA, sI_at, sI, sA]
  · rw [va_up_ne _ _ h]
    exact (cont_sI (c := 15) (o := 0) hk h).symm
theorem as_LEN (C0 : Cx p s m args c cc nL own D cy) (M : Ws D b0 cy sb db g s H locs) {i : Int32} {x : Int32} (hin : vp_in i (g.2.2 12)) {g2 : Gs} (hg : g2 = sI g 15 0 i.toNatClampNeg x) (hdg : decode cc pc = .ok (.iastore, 1)) (kk : ∀ (H1 : Heap) (locs1 : List Loc), Ws D b0 cy sb db g2 s H1 locs1 → W p l e R s m args below meth c H1 locs1 cells slots Q (F0 m (pc + 1) ls rest)) : W p l e R s m args below meth c H locs cells slots Q (F0 m pc ls (.int x :: .int i :: .ref (db 12) :: rest)) := by
  subst hg
  exact mg_iast C0.1 C0.2.1 C0.2.2.2.2.2 M.1 M.2 (k := 12) (Or.inl (by decide)) rfl 0 rfl rfl hin hdg (fun H1 locs1 M1 S1 => kk H1 locs1 ⟨mp_congr M1 (sv_LEN cy sb db g _ _), S1⟩)
theorem al_LOW (C0 : Cx p s m args c cc nL own D cy) (M : Ws D b0 cy sb db g s H locs) {o : Nat} (hB : o < 25) {i : Int32} (hin : vp_in i 3) (hdg : decode cc pc = .ok (.iaload, 1)) (kk : W p l e R s m args below meth c H locs cells slots Q (F0 m (pc + 1) ls (.int (g.1 5 o i.toNatClampNeg) :: rest))) : W p l e R s m args below meth c H locs cells slots Q (F0 m pc ls (.int i :: .ref (sb (200 + o)) :: rest)) :=
  mg_iald C0.1 C0.2.1 C0.2.2.2.2.2 M.1 (k := 200 + o) (lv_low hB) (ad_low sb db hB) 0 (ct_low cy sb db g hB) rfl hin hdg kk
theorem ln_LOW (C0 : Cx p s m args c cc nL own D cy) (M : Ws D b0 cy sb db g s H locs) {o : Nat} (hB : o < 25) (hdg : decode cc pc = .ok (.arraylength, 1)) (kk : W p l e R s m args below meth c H locs cells slots Q (F0 m (pc + 1) ls (.int (nI 3) :: rest))) : W p l e R s m args below meth c H locs cells slots Q (F0 m pc ls (.ref (sb (200 + o)) :: rest)) :=
  mg_alen C0.1 C0.2.1 C0.2.2.2.2.2 M.1 (k := 200 + o) (lv_low hB) (ad_low sb db hB) 0 (ct_low cy sb db g hB) rfl hdg kk
theorem sv_LOW (cy : Cy) (sb db : Nat → Nat) (g : Gs) {o : Nat} (hB : o < 25) (j : Nat) (v : Int32) : ∀ k, lvk k → va_up (cont cy sb db g) (200 + o) (.inl (cy.1, 3, .inl (upd (g.1 5 o) j v))) k = cont cy sb db (sI g 5 o j v) k := by
  intro k hk
  by_cases h : k = 200 + o
  · subst h
    rw [va_up_self, ct_low cy sb db _ hB]
    simp [sI_at, sI, sA]
  · rw [va_up_ne _ _ h]
    exact (cont_sI (c := 5) (o := o) hk h).symm
theorem as_LOW (C0 : Cx p s m args c cc nL own D cy) (M : Ws D b0 cy sb db g s H locs) {o : Nat} (hB : o < 25) {i : Int32} {x : Int32} (hin : vp_in i 3) {g2 : Gs} (hg : g2 = sI g 5 o i.toNatClampNeg x) (hdg : decode cc pc = .ok (.iastore, 1)) (kk : ∀ (H1 : Heap) (locs1 : List Loc), Ws D b0 cy sb db g2 s H1 locs1 → W p l e R s m args below meth c H1 locs1 cells slots Q (F0 m (pc + 1) ls rest)) : W p l e R s m args below meth c H locs cells slots Q (F0 m pc ls (.int x :: .int i :: .ref (sb (200 + o)) :: rest)) := by
  subst hg
  exact mg_iast C0.1 C0.2.1 C0.2.2.2.2.2 M.1 M.2 (k := 200 + o) (lv_low hB) (ad_low sb db hB) 0 (ct_low cy sb db g hB) rfl hin hdg (fun H1 locs1 M1 S1 => kk H1 locs1 ⟨mp_congr M1 (sv_LOW cy sb db g hB _ _), S1⟩)
theorem al_HIG (C0 : Cx p s m args c cc nL own D cy) (M : Ws D b0 cy sb db g s H locs) {o : Nat} (hB : o < 25) {i : Int32} (hin : vp_in i 3) (hdg : decode cc pc = .ok (.iaload, 1)) (kk : W p l e R s m args below meth c H locs cells slots Q (F0 m (pc + 1) ls (.int (g.1 6 o i.toNatClampNeg) :: rest))) : W p l e R s m args below meth c H locs cells slots Q (F0 m pc ls (.int i :: .ref (sb (300 + o)) :: rest)) :=
  mg_iald C0.1 C0.2.1 C0.2.2.2.2.2 M.1 (k := 300 + o) (lv_hig hB) (ad_hig sb db hB) 0 (ct_hig cy sb db g hB) rfl hin hdg kk
theorem ln_HIG (C0 : Cx p s m args c cc nL own D cy) (M : Ws D b0 cy sb db g s H locs) {o : Nat} (hB : o < 25) (hdg : decode cc pc = .ok (.arraylength, 1)) (kk : W p l e R s m args below meth c H locs cells slots Q (F0 m (pc + 1) ls (.int (nI 3) :: rest))) : W p l e R s m args below meth c H locs cells slots Q (F0 m pc ls (.ref (sb (300 + o)) :: rest)) :=
  mg_alen C0.1 C0.2.1 C0.2.2.2.2.2 M.1 (k := 300 + o) (lv_hig hB) (ad_hig sb db hB) 0 (ct_hig cy sb db g hB) rfl hdg kk
theorem sv_HIG (cy : Cy) (sb db : Nat → Nat) (g : Gs) {o : Nat} (hB : o < 25) (j : Nat) (v : Int32) : ∀ k, lvk k → va_up (cont cy sb db g) (300 + o) (.inl (cy.1, 3, .inl (upd (g.1 6 o) j v))) k = cont cy sb db (sI g 6 o j v) k := by
  intro k hk
  by_cases h : k = 300 + o
  · subst h
    rw [va_up_self, ct_hig cy sb db _ hB]
    simp [sI_at, sI, sA]
  · rw [va_up_ne _ _ h]
    exact (cont_sI (c := 6) (o := o) hk h).symm
theorem as_HIG (C0 : Cx p s m args c cc nL own D cy) (M : Ws D b0 cy sb db g s H locs) {o : Nat} (hB : o < 25) {i : Int32} {x : Int32} (hin : vp_in i 3) {g2 : Gs} (hg : g2 = sI g 6 o i.toNatClampNeg x) (hdg : decode cc pc = .ok (.iastore, 1)) (kk : ∀ (H1 : Heap) (locs1 : List Loc), Ws D b0 cy sb db g2 s H1 locs1 → W p l e R s m args below meth c H1 locs1 cells slots Q (F0 m (pc + 1) ls rest)) : W p l e R s m args below meth c H locs cells slots Q (F0 m pc ls (.int x :: .int i :: .ref (sb (300 + o)) :: rest)) := by
  subst hg
  exact mg_iast C0.1 C0.2.1 C0.2.2.2.2.2 M.1 M.2 (k := 300 + o) (lv_hig hB) (ad_hig sb db hB) 0 (ct_hig cy sb db g hB) rfl hin hdg (fun H1 locs1 M1 S1 => kk H1 locs1 ⟨mp_congr M1 (sv_HIG cy sb db g hB _ _), S1⟩)
theorem al_ROWS (C0 : Cx p s m args c cc nL own D cy) (M : Ws D b0 cy sb db g s H locs) {n : Nat} (hB : n < 24) {i : Int32} (hin : vp_in i (g.2.2 (500 + n))) (hdg : decode cc pc = .ok (.iaload, 1)) (kk : W p l e R s m args below meth c H locs cells slots Q (F0 m (pc + 1) ls (.int (g.1 18 n i.toNatClampNeg) :: rest))) : W p l e R s m args below meth c H locs cells slots Q (F0 m pc ls (.int i :: .ref (db (500 + n)) :: rest)) :=
  mg_iald C0.1 C0.2.1 C0.2.2.2.2.2 M.1 (k := 500 + n) (lv_rows hB) (ad_rows sb db hB) 0 (ct_rows cy sb db g hB) rfl hin hdg kk
theorem ln_ROWS (C0 : Cx p s m args c cc nL own D cy) (M : Ws D b0 cy sb db g s H locs) {n : Nat} (hB : n < 24) (hdg : decode cc pc = .ok (.arraylength, 1)) (kk : W p l e R s m args below meth c H locs cells slots Q (F0 m (pc + 1) ls (.int (nI (g.2.2 (500 + n))) :: rest))) : W p l e R s m args below meth c H locs cells slots Q (F0 m pc ls (.ref (db (500 + n)) :: rest)) :=
  mg_alen C0.1 C0.2.1 C0.2.2.2.2.2 M.1 (k := 500 + n) (lv_rows hB) (ad_rows sb db hB) 0 (ct_rows cy sb db g hB) rfl hdg kk
theorem sv_ROWS (cy : Cy) (sb db : Nat → Nat) (g : Gs) {n : Nat} (hB : n < 24) (j : Nat) (v : Int32) : ∀ k, lvk k → va_up (cont cy sb db g) (500 + n) (.inl (cy.1, (g.2.2 (500 + n)), .inl (upd (g.1 18 n) j v))) k = cont cy sb db (sI g 18 n j v) k := by
  intro k hk
  by_cases h : k = 500 + n
  · subst h
    rw [va_up_self, ct_rows cy sb db _ hB]
    simp [sI_at, sI, sA]
  · rw [va_up_ne _ _ h]
    exact (cont_sI (c := 18) (o := n) hk h).symm
theorem as_ROWS (C0 : Cx p s m args c cc nL own D cy) (M : Ws D b0 cy sb db g s H locs) {n : Nat} (hB : n < 24) {i : Int32} {x : Int32} (hin : vp_in i (g.2.2 (500 + n))) {g2 : Gs} (hg : g2 = sI g 18 n i.toNatClampNeg x) (hdg : decode cc pc = .ok (.iastore, 1)) (kk : ∀ (H1 : Heap) (locs1 : List Loc), Ws D b0 cy sb db g2 s H1 locs1 → W p l e R s m args below meth c H1 locs1 cells slots Q (F0 m (pc + 1) ls rest)) : W p l e R s m args below meth c H locs cells slots Q (F0 m pc ls (.int x :: .int i :: .ref (db (500 + n)) :: rest)) := by
  subst hg
  exact mg_iast C0.1 C0.2.1 C0.2.2.2.2.2 M.1 M.2 (k := 500 + n) (lv_rows hB) (ad_rows sb db hB) 0 (ct_rows cy sb db g hB) rfl hin hdg (fun H1 locs1 M1 S1 => kk H1 locs1 ⟨mp_congr M1 (sv_ROWS cy sb db g hB _ _), S1⟩)
theorem al_Mlow (C0 : Cx p s m args c cc nL own D cy) (M : Ws D b0 cy sb db g s H locs) {i : Int32} (hin : vp_in i 3) (hdg : decode cc pc = .ok (.iaload, 1)) (kk : W p l e R s m args below meth c H locs cells slots Q (F0 m (pc + 1) ls (.int (g.1 23 0 i.toNatClampNeg) :: rest))) : W p l e R s m args below meth c H locs cells slots Q (F0 m pc ls (.int i :: .ref (sb 14) :: rest)) :=
  mg_iald C0.1 C0.2.1 C0.2.2.2.2.2 M.1 (k := 14) (Or.inl (by decide)) rfl 0 rfl rfl hin hdg kk
theorem ln_Mlow (C0 : Cx p s m args c cc nL own D cy) (M : Ws D b0 cy sb db g s H locs) (hdg : decode cc pc = .ok (.arraylength, 1)) (kk : W p l e R s m args below meth c H locs cells slots Q (F0 m (pc + 1) ls (.int (nI 3) :: rest))) : W p l e R s m args below meth c H locs cells slots Q (F0 m pc ls (.ref (sb 14) :: rest)) :=
  mg_alen C0.1 C0.2.1 C0.2.2.2.2.2 M.1 (k := 14) (Or.inl (by decide)) rfl 0 rfl rfl hdg kk
theorem sv_Mlow (cy : Cy) (sb db : Nat → Nat) (g : Gs) (j : Nat) (v : Int32) : ∀ k, lvk k → va_up (cont cy sb db g) (14) (.inl (cy.1, 3, .inl (upd (g.1 23 0) j v))) k = cont cy sb db (sI g 23 0 j v) k := by
  intro k hk
  by_cases h : k = 14
  · subst h
    rw [va_up_self]
    show _ = cnA cy sb db _ 14
    simp [cnA, sI_at, sI, sA]
  · rw [va_up_ne _ _ h]
    exact (cont_sI (c := 23) (o := 0) hk h).symm
theorem as_Mlow (C0 : Cx p s m args c cc nL own D cy) (M : Ws D b0 cy sb db g s H locs) {i : Int32} {x : Int32} (hin : vp_in i 3) {g2 : Gs} (hg : g2 = sI g 23 0 i.toNatClampNeg x) (hdg : decode cc pc = .ok (.iastore, 1)) (kk : ∀ (H1 : Heap) (locs1 : List Loc), Ws D b0 cy sb db g2 s H1 locs1 → W p l e R s m args below meth c H1 locs1 cells slots Q (F0 m (pc + 1) ls rest)) : W p l e R s m args below meth c H locs cells slots Q (F0 m pc ls (.int x :: .int i :: .ref (sb 14) :: rest)) := by
  subst hg
  exact mg_iast C0.1 C0.2.1 C0.2.2.2.2.2 M.1 M.2 (k := 14) (Or.inl (by decide)) rfl 0 rfl rfl hin hdg (fun H1 locs1 M1 S1 => kk H1 locs1 ⟨mp_congr M1 (sv_Mlow cy sb db g _ _), S1⟩)
theorem al_Mhigh (C0 : Cx p s m args c cc nL own D cy) (M : Ws D b0 cy sb db g s H locs) {i : Int32} (hin : vp_in i 3) (hdg : decode cc pc = .ok (.iaload, 1)) (kk : W p l e R s m args below meth c H locs cells slots Q (F0 m (pc + 1) ls (.int (g.1 24 0 i.toNatClampNeg) :: rest))) : W p l e R s m args below meth c H locs cells slots Q (F0 m pc ls (.int i :: .ref (sb 15) :: rest)) :=
  mg_iald C0.1 C0.2.1 C0.2.2.2.2.2 M.1 (k := 15) (Or.inl (by decide)) rfl 0 rfl rfl hin hdg kk
theorem ln_Mhigh (C0 : Cx p s m args c cc nL own D cy) (M : Ws D b0 cy sb db g s H locs) (hdg : decode cc pc = .ok (.arraylength, 1)) (kk : W p l e R s m args below meth c H locs cells slots Q (F0 m (pc + 1) ls (.int (nI 3) :: rest))) : W p l e R s m args below meth c H locs cells slots Q (F0 m pc ls (.ref (sb 15) :: rest)) :=
  mg_alen C0.1 C0.2.1 C0.2.2.2.2.2 M.1 (k := 15) (Or.inl (by decide)) rfl 0 rfl rfl hdg kk
theorem sv_Mhigh (cy : Cy) (sb db : Nat → Nat) (g : Gs) (j : Nat) (v : Int32) : ∀ k, lvk k → va_up (cont cy sb db g) (15) (.inl (cy.1, 3, .inl (upd (g.1 24 0) j v))) k = cont cy sb db (sI g 24 0 j v) k := by
  intro k hk
  by_cases h : k = 15
  · subst h
    rw [va_up_self]
    show _ = cnA cy sb db _ 15
    simp [cnA, sI_at, sI, sA]
  · rw [va_up_ne _ _ h]
    exact (cont_sI (c := 24) (o := 0) hk h).symm
theorem as_Mhigh (C0 : Cx p s m args c cc nL own D cy) (M : Ws D b0 cy sb db g s H locs) {i : Int32} {x : Int32} (hin : vp_in i 3) {g2 : Gs} (hg : g2 = sI g 24 0 i.toNatClampNeg x) (hdg : decode cc pc = .ok (.iastore, 1)) (kk : ∀ (H1 : Heap) (locs1 : List Loc), Ws D b0 cy sb db g2 s H1 locs1 → W p l e R s m args below meth c H1 locs1 cells slots Q (F0 m (pc + 1) ls rest)) : W p l e R s m args below meth c H locs cells slots Q (F0 m pc ls (.int x :: .int i :: .ref (sb 15) :: rest)) := by
  subst hg
  exact mg_iast C0.1 C0.2.1 C0.2.2.2.2.2 M.1 M.2 (k := 15) (Or.inl (by decide)) rfl 0 rfl rfl hin hdg (fun H1 locs1 M1 S1 => kk H1 locs1 ⟨mp_congr M1 (sv_Mhigh cy sb db g _ _), S1⟩)
theorem al_Mkinds (C0 : Cx p s m args c cc nL own D cy) (M : Ws D b0 cy sb db g s H locs) {i : Int32} (hin : vp_in i 24) (hdg : decode cc pc = .ok (.iaload, 1)) (kk : W p l e R s m args below meth c H locs cells slots Q (F0 m (pc + 1) ls (.int (g.1 26 0 i.toNatClampNeg) :: rest))) : W p l e R s m args below meth c H locs cells slots Q (F0 m pc ls (.int i :: .ref (sb 16) :: rest)) :=
  mg_iald C0.1 C0.2.1 C0.2.2.2.2.2 M.1 (k := 16) (Or.inl (by decide)) rfl 0 rfl rfl hin hdg kk
theorem ln_Mkinds (C0 : Cx p s m args c cc nL own D cy) (M : Ws D b0 cy sb db g s H locs) (hdg : decode cc pc = .ok (.arraylength, 1)) (kk : W p l e R s m args below meth c H locs cells slots Q (F0 m (pc + 1) ls (.int (nI 24) :: rest))) : W p l e R s m args below meth c H locs cells slots Q (F0 m pc ls (.ref (sb 16) :: rest)) :=
  mg_alen C0.1 C0.2.1 C0.2.2.2.2.2 M.1 (k := 16) (Or.inl (by decide)) rfl 0 rfl rfl hdg kk
theorem sv_Mkinds (cy : Cy) (sb db : Nat → Nat) (g : Gs) (j : Nat) (v : Int32) : ∀ k, lvk k → va_up (cont cy sb db g) (16) (.inl (cy.1, 24, .inl (upd (g.1 26 0) j v))) k = cont cy sb db (sI g 26 0 j v) k := by
  intro k hk
  by_cases h : k = 16
  · subst h
    rw [va_up_self]
    show _ = cnA cy sb db _ 16
    simp [cnA, sI_at, sI, sA]
  · rw [va_up_ne _ _ h]
    exact (cont_sI (c := 26) (o := 0) hk h).symm
theorem as_Mkinds (C0 : Cx p s m args c cc nL own D cy) (M : Ws D b0 cy sb db g s H locs) {i : Int32} {x : Int32} (hin : vp_in i 24) {g2 : Gs} (hg : g2 = sI g 26 0 i.toNatClampNeg x) (hdg : decode cc pc = .ok (.iastore, 1)) (kk : ∀ (H1 : Heap) (locs1 : List Loc), Ws D b0 cy sb db g2 s H1 locs1 → W p l e R s m args below meth c H1 locs1 cells slots Q (F0 m (pc + 1) ls rest)) : W p l e R s m args below meth c H locs cells slots Q (F0 m pc ls (.int x :: .int i :: .ref (sb 16) :: rest)) := by
  subst hg
  exact mg_iast C0.1 C0.2.1 C0.2.2.2.2.2 M.1 M.2 (k := 16) (Or.inl (by decide)) rfl 0 rfl rfl hin hdg (fun H1 locs1 M1 S1 => kk H1 locs1 ⟨mp_congr M1 (sv_Mkinds cy sb db g _ _), S1⟩)
theorem al_Mranks (C0 : Cx p s m args c cc nL own D cy) (M : Ws D b0 cy sb db g s H locs) {i : Int32} (hin : vp_in i 24) (hdg : decode cc pc = .ok (.iaload, 1)) (kk : W p l e R s m args below meth c H locs cells slots Q (F0 m (pc + 1) ls (.int (g.1 27 0 i.toNatClampNeg) :: rest))) : W p l e R s m args below meth c H locs cells slots Q (F0 m pc ls (.int i :: .ref (sb 17) :: rest)) :=
  mg_iald C0.1 C0.2.1 C0.2.2.2.2.2 M.1 (k := 17) (Or.inl (by decide)) rfl 0 rfl rfl hin hdg kk
theorem ln_Mranks (C0 : Cx p s m args c cc nL own D cy) (M : Ws D b0 cy sb db g s H locs) (hdg : decode cc pc = .ok (.arraylength, 1)) (kk : W p l e R s m args below meth c H locs cells slots Q (F0 m (pc + 1) ls (.int (nI 24) :: rest))) : W p l e R s m args below meth c H locs cells slots Q (F0 m pc ls (.ref (sb 17) :: rest)) :=
  mg_alen C0.1 C0.2.1 C0.2.2.2.2.2 M.1 (k := 17) (Or.inl (by decide)) rfl 0 rfl rfl hdg kk
theorem sv_Mranks (cy : Cy) (sb db : Nat → Nat) (g : Gs) (j : Nat) (v : Int32) : ∀ k, lvk k → va_up (cont cy sb db g) (17) (.inl (cy.1, 24, .inl (upd (g.1 27 0) j v))) k = cont cy sb db (sI g 27 0 j v) k := by
  intro k hk
  by_cases h : k = 17
  · subst h
    rw [va_up_self]
    show _ = cnA cy sb db _ 17
    simp [cnA, sI_at, sI, sA]
  · rw [va_up_ne _ _ h]
    exact (cont_sI (c := 27) (o := 0) hk h).symm
theorem as_Mranks (C0 : Cx p s m args c cc nL own D cy) (M : Ws D b0 cy sb db g s H locs) {i : Int32} {x : Int32} (hin : vp_in i 24) {g2 : Gs} (hg : g2 = sI g 27 0 i.toNatClampNeg x) (hdg : decode cc pc = .ok (.iastore, 1)) (kk : ∀ (H1 : Heap) (locs1 : List Loc), Ws D b0 cy sb db g2 s H1 locs1 → W p l e R s m args below meth c H1 locs1 cells slots Q (F0 m (pc + 1) ls rest)) : W p l e R s m args below meth c H locs cells slots Q (F0 m pc ls (.int x :: .int i :: .ref (sb 17) :: rest)) := by
  subst hg
  exact mg_iast C0.1 C0.2.1 C0.2.2.2.2.2 M.1 M.2 (k := 17) (Or.inl (by decide)) rfl 0 rfl rfl hin hdg (fun H1 locs1 M1 S1 => kk H1 locs1 ⟨mp_congr M1 (sv_Mranks cy sb db g _ _), S1⟩)
theorem al_Mlows (C0 : Cx p s m args c cc nL own D cy) (M : Ws D b0 cy sb db g s H locs) {i : Int32} (hin : vp_in i 72) (hdg : decode cc pc = .ok (.iaload, 1)) (kk : W p l e R s m args below meth c H locs cells slots Q (F0 m (pc + 1) ls (.int (g.1 28 0 i.toNatClampNeg) :: rest))) : W p l e R s m args below meth c H locs cells slots Q (F0 m pc ls (.int i :: .ref (sb 18) :: rest)) :=
  mg_iald C0.1 C0.2.1 C0.2.2.2.2.2 M.1 (k := 18) (Or.inl (by decide)) rfl 0 rfl rfl hin hdg kk
theorem ln_Mlows (C0 : Cx p s m args c cc nL own D cy) (M : Ws D b0 cy sb db g s H locs) (hdg : decode cc pc = .ok (.arraylength, 1)) (kk : W p l e R s m args below meth c H locs cells slots Q (F0 m (pc + 1) ls (.int (nI 72) :: rest))) : W p l e R s m args below meth c H locs cells slots Q (F0 m pc ls (.ref (sb 18) :: rest)) :=
  mg_alen C0.1 C0.2.1 C0.2.2.2.2.2 M.1 (k := 18) (Or.inl (by decide)) rfl 0 rfl rfl hdg kk
theorem sv_Mlows (cy : Cy) (sb db : Nat → Nat) (g : Gs) (j : Nat) (v : Int32) : ∀ k, lvk k → va_up (cont cy sb db g) (18) (.inl (cy.1, 72, .inl (upd (g.1 28 0) j v))) k = cont cy sb db (sI g 28 0 j v) k := by
  intro k hk
  by_cases h : k = 18
  · subst h
    rw [va_up_self]
    show _ = cnA cy sb db _ 18
    simp [cnA, sI_at, sI, sA]
  · rw [va_up_ne _ _ h]
    exact (cont_sI (c := 28) (o := 0) hk h).symm
theorem as_Mlows (C0 : Cx p s m args c cc nL own D cy) (M : Ws D b0 cy sb db g s H locs) {i : Int32} {x : Int32} (hin : vp_in i 72) {g2 : Gs} (hg : g2 = sI g 28 0 i.toNatClampNeg x) (hdg : decode cc pc = .ok (.iastore, 1)) (kk : ∀ (H1 : Heap) (locs1 : List Loc), Ws D b0 cy sb db g2 s H1 locs1 → W p l e R s m args below meth c H1 locs1 cells slots Q (F0 m (pc + 1) ls rest)) : W p l e R s m args below meth c H locs cells slots Q (F0 m pc ls (.int x :: .int i :: .ref (sb 18) :: rest)) := by
  subst hg
  exact mg_iast C0.1 C0.2.1 C0.2.2.2.2.2 M.1 M.2 (k := 18) (Or.inl (by decide)) rfl 0 rfl rfl hin hdg (fun H1 locs1 M1 S1 => kk H1 locs1 ⟨mp_congr M1 (sv_Mlows cy sb db g _ _), S1⟩)
theorem al_Mhighs (C0 : Cx p s m args c cc nL own D cy) (M : Ws D b0 cy sb db g s H locs) {i : Int32} (hin : vp_in i 72) (hdg : decode cc pc = .ok (.iaload, 1)) (kk : W p l e R s m args below meth c H locs cells slots Q (F0 m (pc + 1) ls (.int (g.1 29 0 i.toNatClampNeg) :: rest))) : W p l e R s m args below meth c H locs cells slots Q (F0 m pc ls (.int i :: .ref (sb 19) :: rest)) :=
  mg_iald C0.1 C0.2.1 C0.2.2.2.2.2 M.1 (k := 19) (Or.inl (by decide)) rfl 0 rfl rfl hin hdg kk
theorem ln_Mhighs (C0 : Cx p s m args c cc nL own D cy) (M : Ws D b0 cy sb db g s H locs) (hdg : decode cc pc = .ok (.arraylength, 1)) (kk : W p l e R s m args below meth c H locs cells slots Q (F0 m (pc + 1) ls (.int (nI 72) :: rest))) : W p l e R s m args below meth c H locs cells slots Q (F0 m pc ls (.ref (sb 19) :: rest)) :=
  mg_alen C0.1 C0.2.1 C0.2.2.2.2.2 M.1 (k := 19) (Or.inl (by decide)) rfl 0 rfl rfl hdg kk
theorem sv_Mhighs (cy : Cy) (sb db : Nat → Nat) (g : Gs) (j : Nat) (v : Int32) : ∀ k, lvk k → va_up (cont cy sb db g) (19) (.inl (cy.1, 72, .inl (upd (g.1 29 0) j v))) k = cont cy sb db (sI g 29 0 j v) k := by
  intro k hk
  by_cases h : k = 19
  · subst h
    rw [va_up_self]
    show _ = cnA cy sb db _ 19
    simp [cnA, sI_at, sI, sA]
  · rw [va_up_ne _ _ h]
    exact (cont_sI (c := 29) (o := 0) hk h).symm
theorem as_Mhighs (C0 : Cx p s m args c cc nL own D cy) (M : Ws D b0 cy sb db g s H locs) {i : Int32} {x : Int32} (hin : vp_in i 72) {g2 : Gs} (hg : g2 = sI g 29 0 i.toNatClampNeg x) (hdg : decode cc pc = .ok (.iastore, 1)) (kk : ∀ (H1 : Heap) (locs1 : List Loc), Ws D b0 cy sb db g2 s H1 locs1 → W p l e R s m args below meth c H1 locs1 cells slots Q (F0 m (pc + 1) ls rest)) : W p l e R s m args below meth c H locs cells slots Q (F0 m pc ls (.int x :: .int i :: .ref (sb 19) :: rest)) := by
  subst hg
  exact mg_iast C0.1 C0.2.1 C0.2.2.2.2.2 M.1 M.2 (k := 19) (Or.inl (by decide)) rfl 0 rfl rfl hin hdg (fun H1 locs1 M1 S1 => kk H1 locs1 ⟨mp_congr M1 (sv_Mhighs cy sb db g _ _), S1⟩)
theorem al_MrowOf (C0 : Cx p s m args c cc nL own D cy) (M : Ws D b0 cy sb db g s H locs) {i : Int32} (hin : vp_in i 24) (hdg : decode cc pc = .ok (.iaload, 1)) (kk : W p l e R s m args below meth c H locs cells slots Q (F0 m (pc + 1) ls (.int (g.1 30 0 i.toNatClampNeg) :: rest))) : W p l e R s m args below meth c H locs cells slots Q (F0 m pc ls (.int i :: .ref (sb 20) :: rest)) :=
  mg_iald C0.1 C0.2.1 C0.2.2.2.2.2 M.1 (k := 20) (Or.inl (by decide)) rfl 0 rfl rfl hin hdg kk
theorem ln_MrowOf (C0 : Cx p s m args c cc nL own D cy) (M : Ws D b0 cy sb db g s H locs) (hdg : decode cc pc = .ok (.arraylength, 1)) (kk : W p l e R s m args below meth c H locs cells slots Q (F0 m (pc + 1) ls (.int (nI 24) :: rest))) : W p l e R s m args below meth c H locs cells slots Q (F0 m pc ls (.ref (sb 20) :: rest)) :=
  mg_alen C0.1 C0.2.1 C0.2.2.2.2.2 M.1 (k := 20) (Or.inl (by decide)) rfl 0 rfl rfl hdg kk
theorem sv_MrowOf (cy : Cy) (sb db : Nat → Nat) (g : Gs) (j : Nat) (v : Int32) : ∀ k, lvk k → va_up (cont cy sb db g) (20) (.inl (cy.1, 24, .inl (upd (g.1 30 0) j v))) k = cont cy sb db (sI g 30 0 j v) k := by
  intro k hk
  by_cases h : k = 20
  · subst h
    rw [va_up_self]
    show _ = cnA cy sb db _ 20
    simp [cnA, sI_at, sI, sA]
  · rw [va_up_ne _ _ h]
    exact (cont_sI (c := 30) (o := 0) hk h).symm
theorem as_MrowOf (C0 : Cx p s m args c cc nL own D cy) (M : Ws D b0 cy sb db g s H locs) {i : Int32} {x : Int32} (hin : vp_in i 24) {g2 : Gs} (hg : g2 = sI g 30 0 i.toNatClampNeg x) (hdg : decode cc pc = .ok (.iastore, 1)) (kk : ∀ (H1 : Heap) (locs1 : List Loc), Ws D b0 cy sb db g2 s H1 locs1 → W p l e R s m args below meth c H1 locs1 cells slots Q (F0 m (pc + 1) ls rest)) : W p l e R s m args below meth c H locs cells slots Q (F0 m pc ls (.int x :: .int i :: .ref (sb 20) :: rest)) := by
  subst hg
  exact mg_iast C0.1 C0.2.1 C0.2.2.2.2.2 M.1 M.2 (k := 20) (Or.inl (by decide)) rfl 0 rfl rfl hin hdg (fun H1 locs1 M1 S1 => kk H1 locs1 ⟨mp_congr M1 (sv_MrowOf cy sb db g _ _), S1⟩)
theorem al_MrowAt (C0 : Cx p s m args c cc nL own D cy) (M : Ws D b0 cy sb db g s H locs) {i : Int32} (hin : vp_in i 13000) (hdg : decode cc pc = .ok (.iaload, 1)) (kk : W p l e R s m args below meth c H locs cells slots Q (F0 m (pc + 1) ls (.int (g.1 32 0 i.toNatClampNeg) :: rest))) : W p l e R s m args below meth c H locs cells slots Q (F0 m pc ls (.int i :: .ref (sb 21) :: rest)) :=
  mg_iald C0.1 C0.2.1 C0.2.2.2.2.2 M.1 (k := 21) (Or.inl (by decide)) rfl 0 rfl rfl hin hdg kk
theorem ln_MrowAt (C0 : Cx p s m args c cc nL own D cy) (M : Ws D b0 cy sb db g s H locs) (hdg : decode cc pc = .ok (.arraylength, 1)) (kk : W p l e R s m args below meth c H locs cells slots Q (F0 m (pc + 1) ls (.int (nI 13000) :: rest))) : W p l e R s m args below meth c H locs cells slots Q (F0 m pc ls (.ref (sb 21) :: rest)) :=
  mg_alen C0.1 C0.2.1 C0.2.2.2.2.2 M.1 (k := 21) (Or.inl (by decide)) rfl 0 rfl rfl hdg kk
theorem sv_MrowAt (cy : Cy) (sb db : Nat → Nat) (g : Gs) (j : Nat) (v : Int32) : ∀ k, lvk k → va_up (cont cy sb db g) (21) (.inl (cy.1, 13000, .inl (upd (g.1 32 0) j v))) k = cont cy sb db (sI g 32 0 j v) k := by
  intro k hk
  by_cases h : k = 21
  · subst h
    rw [va_up_self]
    show _ = cnA cy sb db _ 21
    simp [cnA, sI_at, sI, sA]
  · rw [va_up_ne _ _ h]
    exact (cont_sI (c := 32) (o := 0) hk h).symm
theorem as_MrowAt (C0 : Cx p s m args c cc nL own D cy) (M : Ws D b0 cy sb db g s H locs) {i : Int32} {x : Int32} (hin : vp_in i 13000) {g2 : Gs} (hg : g2 = sI g 32 0 i.toNatClampNeg x) (hdg : decode cc pc = .ok (.iastore, 1)) (kk : ∀ (H1 : Heap) (locs1 : List Loc), Ws D b0 cy sb db g2 s H1 locs1 → W p l e R s m args below meth c H1 locs1 cells slots Q (F0 m (pc + 1) ls rest)) : W p l e R s m args below meth c H locs cells slots Q (F0 m pc ls (.int x :: .int i :: .ref (sb 21) :: rest)) := by
  subst hg
  exact mg_iast C0.1 C0.2.1 C0.2.2.2.2.2 M.1 M.2 (k := 21) (Or.inl (by decide)) rfl 0 rfl rfl hin hdg (fun H1 locs1 M1 S1 => kk H1 locs1 ⟨mp_congr M1 (sv_MrowAt cy sb db g _ _), S1⟩)
theorem al_MrowSize (C0 : Cx p s m args c cc nL own D cy) (M : Ws D b0 cy sb db g s H locs) {i : Int32} (hin : vp_in i 13000) (hdg : decode cc pc = .ok (.iaload, 1)) (kk : W p l e R s m args below meth c H locs cells slots Q (F0 m (pc + 1) ls (.int (g.1 33 0 i.toNatClampNeg) :: rest))) : W p l e R s m args below meth c H locs cells slots Q (F0 m pc ls (.int i :: .ref (sb 22) :: rest)) :=
  mg_iald C0.1 C0.2.1 C0.2.2.2.2.2 M.1 (k := 22) (Or.inl (by decide)) rfl 0 rfl rfl hin hdg kk
theorem ln_MrowSize (C0 : Cx p s m args c cc nL own D cy) (M : Ws D b0 cy sb db g s H locs) (hdg : decode cc pc = .ok (.arraylength, 1)) (kk : W p l e R s m args below meth c H locs cells slots Q (F0 m (pc + 1) ls (.int (nI 13000) :: rest))) : W p l e R s m args below meth c H locs cells slots Q (F0 m pc ls (.ref (sb 22) :: rest)) :=
  mg_alen C0.1 C0.2.1 C0.2.2.2.2.2 M.1 (k := 22) (Or.inl (by decide)) rfl 0 rfl rfl hdg kk
theorem sv_MrowSize (cy : Cy) (sb db : Nat → Nat) (g : Gs) (j : Nat) (v : Int32) : ∀ k, lvk k → va_up (cont cy sb db g) (22) (.inl (cy.1, 13000, .inl (upd (g.1 33 0) j v))) k = cont cy sb db (sI g 33 0 j v) k := by
  intro k hk
  by_cases h : k = 22
  · subst h
    rw [va_up_self]
    show _ = cnA cy sb db _ 22
    simp [cnA, sI_at, sI, sA]
  · rw [va_up_ne _ _ h]
    exact (cont_sI (c := 33) (o := 0) hk h).symm
theorem as_MrowSize (C0 : Cx p s m args c cc nL own D cy) (M : Ws D b0 cy sb db g s H locs) {i : Int32} {x : Int32} (hin : vp_in i 13000) {g2 : Gs} (hg : g2 = sI g 33 0 i.toNatClampNeg x) (hdg : decode cc pc = .ok (.iastore, 1)) (kk : ∀ (H1 : Heap) (locs1 : List Loc), Ws D b0 cy sb db g2 s H1 locs1 → W p l e R s m args below meth c H1 locs1 cells slots Q (F0 m (pc + 1) ls rest)) : W p l e R s m args below meth c H locs cells slots Q (F0 m pc ls (.int x :: .int i :: .ref (sb 22) :: rest)) := by
  subst hg
  exact mg_iast C0.1 C0.2.1 C0.2.2.2.2.2 M.1 M.2 (k := 22) (Or.inl (by decide)) rfl 0 rfl rfl hin hdg (fun H1 locs1 M1 S1 => kk H1 locs1 ⟨mp_congr M1 (sv_MrowSize cy sb db g _ _), S1⟩)
theorem al_Mpool (C0 : Cx p s m args c cc nL own D cy) (M : Ws D b0 cy sb db g s H locs) {i : Int32} (hin : vp_in i 300000) (hdg : decode cc pc = .ok (.laload, 1)) (kk : W p l e R s m args below meth c H locs cells slots Q (F0 m (pc + 1) ls (.long (g.2.1 2 i.toNatClampNeg) :: rest))) : W p l e R s m args below meth c H locs cells slots Q (F0 m pc ls (.int i :: .ref (sb 23) :: rest)) :=
  mg_lald C0.1 C0.2.1 C0.2.2.2.2.2 M.1 (k := 23) (Or.inl (by decide)) rfl 1 rfl rfl hin hdg kk
theorem ln_Mpool (C0 : Cx p s m args c cc nL own D cy) (M : Ws D b0 cy sb db g s H locs) (hdg : decode cc pc = .ok (.arraylength, 1)) (kk : W p l e R s m args below meth c H locs cells slots Q (F0 m (pc + 1) ls (.int (nI 300000) :: rest))) : W p l e R s m args below meth c H locs cells slots Q (F0 m pc ls (.ref (sb 23) :: rest)) :=
  mg_alen C0.1 C0.2.1 C0.2.2.2.2.2 M.1 (k := 23) (Or.inl (by decide)) rfl 1 rfl rfl hdg kk
theorem sv_Mpool (cy : Cy) (sb db : Nat → Nat) (g : Gs) (j : Nat) (v : Int64) : ∀ k, lvk k → va_up (cont cy sb db g) (23) (.inl (cy.2.1, 300000, .inr (.inl (vp_updL (g.2.1 2) j v)))) k = cont cy sb db (sL g 2 j v) k := by
  intro k hk
  by_cases h : k = 23
  · subst h
    rw [va_up_self]
    show _ = cnA cy sb db _ 23
    simp [cnA, sL_at, sL]
  · rw [va_up_ne _ _ h]
    exact (cont_sL (c := 2) hk h).symm
theorem as_Mpool (C0 : Cx p s m args c cc nL own D cy) (M : Ws D b0 cy sb db g s H locs) {i : Int32} {x : Int64} (hin : vp_in i 300000) {g2 : Gs} (hg : g2 = sL g 2 i.toNatClampNeg x) (hdg : decode cc pc = .ok (.lastore, 1)) (kk : ∀ (H1 : Heap) (locs1 : List Loc), Ws D b0 cy sb db g2 s H1 locs1 → W p l e R s m args below meth c H1 locs1 cells slots Q (F0 m (pc + 1) ls rest)) : W p l e R s m args below meth c H locs cells slots Q (F0 m pc ls (.long x :: .int i :: .ref (sb 23) :: rest)) := by
  subst hg
  exact mg_last C0.1 C0.2.1 C0.2.2.2.2.2 M.1 M.2 (k := 23) (Or.inl (by decide)) rfl 1 rfl rfl hin hdg (fun H1 locs1 M1 S1 => kk H1 locs1 ⟨mp_congr M1 (sv_Mpool cy sb db g _ _), S1⟩)
theorem al_MhasBox (C0 : Cx p s m args c cc nL own D cy) (M : Ws D b0 cy sb db g s H locs) {i : Int32} (hin : vp_in i 300000) (hdg : decode cc pc = .ok (.baload, 1)) (kk : W p l e R s m args below meth c H locs cells slots Q (F0 m (pc + 1) ls (.int (g.1 36 0 i.toNatClampNeg) :: rest))) : W p l e R s m args below meth c H locs cells slots Q (F0 m pc ls (.int i :: .ref (sb 24) :: rest)) :=
  mg_zald C0.1 C0.2.1 C0.2.2.2.2.2 M.1 (k := 24) (Or.inl (by decide)) rfl 2 rfl rfl hin hdg kk
theorem ln_MhasBox (C0 : Cx p s m args c cc nL own D cy) (M : Ws D b0 cy sb db g s H locs) (hdg : decode cc pc = .ok (.arraylength, 1)) (kk : W p l e R s m args below meth c H locs cells slots Q (F0 m (pc + 1) ls (.int (nI 300000) :: rest))) : W p l e R s m args below meth c H locs cells slots Q (F0 m pc ls (.ref (sb 24) :: rest)) :=
  mg_alen C0.1 C0.2.1 C0.2.2.2.2.2 M.1 (k := 24) (Or.inl (by decide)) rfl 2 rfl rfl hdg kk
theorem sv_MhasBox (cy : Cy) (sb db : Nat → Nat) (g : Gs) (j : Nat) (v : Int32) : ∀ k, lvk k → va_up (cont cy sb db g) (24) (.inl (cy.2.2.1, 300000, .inl (upd (g.1 36 0) j v))) k = cont cy sb db (sI g 36 0 j v) k := by
  intro k hk
  by_cases h : k = 24
  · subst h
    rw [va_up_self]
    show _ = cnA cy sb db _ 24
    simp [cnA, sI_at, sI, sA]
  · rw [va_up_ne _ _ h]
    exact (cont_sI (c := 36) (o := 0) hk h).symm
theorem as_MhasBox (C0 : Cx p s m args c cc nL own D cy) (M : Ws D b0 cy sb db g s H locs) {i : Int32} {x : Int32} (hin : vp_in i 300000) {g2 : Gs} (hg : g2 = sI g 36 0 i.toNatClampNeg (vp_nar .boolean x)) (hdg : decode cc pc = .ok (.bastore, 1)) (kk : ∀ (H1 : Heap) (locs1 : List Loc), Ws D b0 cy sb db g2 s H1 locs1 → W p l e R s m args below meth c H1 locs1 cells slots Q (F0 m (pc + 1) ls rest)) : W p l e R s m args below meth c H locs cells slots Q (F0 m pc ls (.int x :: .int i :: .ref (sb 24) :: rest)) := by
  subst hg
  exact mg_zast C0.1 C0.2.1 C0.2.2.2.2.2 M.1 M.2 (k := 24) (Or.inl (by decide)) rfl 2 rfl rfl hin hdg (fun H1 locs1 M1 S1 => kk H1 locs1 ⟨mp_congr M1 (sv_MhasBox cy sb db g _ _), S1⟩)
theorem al_Mslot (C0 : Cx p s m args c cc nL own D cy) (M : Ws D b0 cy sb db g s H locs) {i : Int32} (hin : vp_in i 12100) (hdg : decode cc pc = .ok (.iaload, 1)) (kk : W p l e R s m args below meth c H locs cells slots Q (F0 m (pc + 1) ls (.int (g.1 38 0 i.toNatClampNeg) :: rest))) : W p l e R s m args below meth c H locs cells slots Q (F0 m pc ls (.int i :: .ref (sb 25) :: rest)) :=
  mg_iald C0.1 C0.2.1 C0.2.2.2.2.2 M.1 (k := 25) (Or.inl (by decide)) rfl 0 rfl rfl hin hdg kk
theorem ln_Mslot (C0 : Cx p s m args c cc nL own D cy) (M : Ws D b0 cy sb db g s H locs) (hdg : decode cc pc = .ok (.arraylength, 1)) (kk : W p l e R s m args below meth c H locs cells slots Q (F0 m (pc + 1) ls (.int (nI 12100) :: rest))) : W p l e R s m args below meth c H locs cells slots Q (F0 m pc ls (.ref (sb 25) :: rest)) :=
  mg_alen C0.1 C0.2.1 C0.2.2.2.2.2 M.1 (k := 25) (Or.inl (by decide)) rfl 0 rfl rfl hdg kk
theorem sv_Mslot (cy : Cy) (sb db : Nat → Nat) (g : Gs) (j : Nat) (v : Int32) : ∀ k, lvk k → va_up (cont cy sb db g) (25) (.inl (cy.1, 12100, .inl (upd (g.1 38 0) j v))) k = cont cy sb db (sI g 38 0 j v) k := by
  intro k hk
  by_cases h : k = 25
  · subst h
    rw [va_up_self]
    show _ = cnA cy sb db _ 25
    simp [cnA, sI_at, sI, sA]
  · rw [va_up_ne _ _ h]
    exact (cont_sI (c := 38) (o := 0) hk h).symm
theorem as_Mslot (C0 : Cx p s m args c cc nL own D cy) (M : Ws D b0 cy sb db g s H locs) {i : Int32} {x : Int32} (hin : vp_in i 12100) {g2 : Gs} (hg : g2 = sI g 38 0 i.toNatClampNeg x) (hdg : decode cc pc = .ok (.iastore, 1)) (kk : ∀ (H1 : Heap) (locs1 : List Loc), Ws D b0 cy sb db g2 s H1 locs1 → W p l e R s m args below meth c H1 locs1 cells slots Q (F0 m (pc + 1) ls rest)) : W p l e R s m args below meth c H locs cells slots Q (F0 m pc ls (.int x :: .int i :: .ref (sb 25) :: rest)) := by
  subst hg
  exact mg_iast C0.1 C0.2.1 C0.2.2.2.2.2 M.1 M.2 (k := 25) (Or.inl (by decide)) rfl 0 rfl rfl hin hdg (fun H1 locs1 M1 S1 => kk H1 locs1 ⟨mp_congr M1 (sv_Mslot cy sb db g _ _), S1⟩)
theorem al_MlineI (C0 : Cx p s m args c cc nL own D cy) (M : Ws D b0 cy sb db g s H locs) {i : Int32} (hin : vp_in i 30) (hdg : decode cc pc = .ok (.iaload, 1)) (kk : W p l e R s m args below meth c H locs cells slots Q (F0 m (pc + 1) ls (.int (g.1 40 0 i.toNatClampNeg) :: rest))) : W p l e R s m args below meth c H locs cells slots Q (F0 m pc ls (.int i :: .ref (sb 26) :: rest)) :=
  mg_iald C0.1 C0.2.1 C0.2.2.2.2.2 M.1 (k := 26) (Or.inl (by decide)) rfl 0 rfl rfl hin hdg kk
theorem ln_MlineI (C0 : Cx p s m args c cc nL own D cy) (M : Ws D b0 cy sb db g s H locs) (hdg : decode cc pc = .ok (.arraylength, 1)) (kk : W p l e R s m args below meth c H locs cells slots Q (F0 m (pc + 1) ls (.int (nI 30) :: rest))) : W p l e R s m args below meth c H locs cells slots Q (F0 m pc ls (.ref (sb 26) :: rest)) :=
  mg_alen C0.1 C0.2.1 C0.2.2.2.2.2 M.1 (k := 26) (Or.inl (by decide)) rfl 0 rfl rfl hdg kk
theorem sv_MlineI (cy : Cy) (sb db : Nat → Nat) (g : Gs) (j : Nat) (v : Int32) : ∀ k, lvk k → va_up (cont cy sb db g) (26) (.inl (cy.1, 30, .inl (upd (g.1 40 0) j v))) k = cont cy sb db (sI g 40 0 j v) k := by
  intro k hk
  by_cases h : k = 26
  · subst h
    rw [va_up_self]
    show _ = cnA cy sb db _ 26
    simp [cnA, sI_at, sI, sA]
  · rw [va_up_ne _ _ h]
    exact (cont_sI (c := 40) (o := 0) hk h).symm
theorem as_MlineI (C0 : Cx p s m args c cc nL own D cy) (M : Ws D b0 cy sb db g s H locs) {i : Int32} {x : Int32} (hin : vp_in i 30) {g2 : Gs} (hg : g2 = sI g 40 0 i.toNatClampNeg x) (hdg : decode cc pc = .ok (.iastore, 1)) (kk : ∀ (H1 : Heap) (locs1 : List Loc), Ws D b0 cy sb db g2 s H1 locs1 → W p l e R s m args below meth c H1 locs1 cells slots Q (F0 m (pc + 1) ls rest)) : W p l e R s m args below meth c H locs cells slots Q (F0 m pc ls (.int x :: .int i :: .ref (sb 26) :: rest)) := by
  subst hg
  exact mg_iast C0.1 C0.2.1 C0.2.2.2.2.2 M.1 M.2 (k := 26) (Or.inl (by decide)) rfl 0 rfl rfl hin hdg (fun H1 locs1 M1 S1 => kk H1 locs1 ⟨mp_congr M1 (sv_MlineI cy sb db g _ _), S1⟩)
theorem al_MlineJ (C0 : Cx p s m args c cc nL own D cy) (M : Ws D b0 cy sb db g s H locs) {i : Int32} (hin : vp_in i 30) (hdg : decode cc pc = .ok (.iaload, 1)) (kk : W p l e R s m args below meth c H locs cells slots Q (F0 m (pc + 1) ls (.int (g.1 41 0 i.toNatClampNeg) :: rest))) : W p l e R s m args below meth c H locs cells slots Q (F0 m pc ls (.int i :: .ref (sb 27) :: rest)) :=
  mg_iald C0.1 C0.2.1 C0.2.2.2.2.2 M.1 (k := 27) (Or.inl (by decide)) rfl 0 rfl rfl hin hdg kk
theorem ln_MlineJ (C0 : Cx p s m args c cc nL own D cy) (M : Ws D b0 cy sb db g s H locs) (hdg : decode cc pc = .ok (.arraylength, 1)) (kk : W p l e R s m args below meth c H locs cells slots Q (F0 m (pc + 1) ls (.int (nI 30) :: rest))) : W p l e R s m args below meth c H locs cells slots Q (F0 m pc ls (.ref (sb 27) :: rest)) :=
  mg_alen C0.1 C0.2.1 C0.2.2.2.2.2 M.1 (k := 27) (Or.inl (by decide)) rfl 0 rfl rfl hdg kk
theorem sv_MlineJ (cy : Cy) (sb db : Nat → Nat) (g : Gs) (j : Nat) (v : Int32) : ∀ k, lvk k → va_up (cont cy sb db g) (27) (.inl (cy.1, 30, .inl (upd (g.1 41 0) j v))) k = cont cy sb db (sI g 41 0 j v) k := by
  intro k hk
  by_cases h : k = 27
  · subst h
    rw [va_up_self]
    show _ = cnA cy sb db _ 27
    simp [cnA, sI_at, sI, sA]
  · rw [va_up_ne _ _ h]
    exact (cont_sI (c := 41) (o := 0) hk h).symm
theorem as_MlineJ (C0 : Cx p s m args c cc nL own D cy) (M : Ws D b0 cy sb db g s H locs) {i : Int32} {x : Int32} (hin : vp_in i 30) {g2 : Gs} (hg : g2 = sI g 41 0 i.toNatClampNeg x) (hdg : decode cc pc = .ok (.iastore, 1)) (kk : ∀ (H1 : Heap) (locs1 : List Loc), Ws D b0 cy sb db g2 s H1 locs1 → W p l e R s m args below meth c H1 locs1 cells slots Q (F0 m (pc + 1) ls rest)) : W p l e R s m args below meth c H locs cells slots Q (F0 m pc ls (.int x :: .int i :: .ref (sb 27) :: rest)) := by
  subst hg
  exact mg_iast C0.1 C0.2.1 C0.2.2.2.2.2 M.1 M.2 (k := 27) (Or.inl (by decide)) rfl 0 rfl rfl hin hdg (fun H1 locs1 M1 S1 => kk H1 locs1 ⟨mp_congr M1 (sv_MlineJ cy sb db g _ _), S1⟩)
theorem al_MlineK (C0 : Cx p s m args c cc nL own D cy) (M : Ws D b0 cy sb db g s H locs) {i : Int32} (hin : vp_in i 30) (hdg : decode cc pc = .ok (.iaload, 1)) (kk : W p l e R s m args below meth c H locs cells slots Q (F0 m (pc + 1) ls (.int (g.1 42 0 i.toNatClampNeg) :: rest))) : W p l e R s m args below meth c H locs cells slots Q (F0 m pc ls (.int i :: .ref (sb 28) :: rest)) :=
  mg_iald C0.1 C0.2.1 C0.2.2.2.2.2 M.1 (k := 28) (Or.inl (by decide)) rfl 0 rfl rfl hin hdg kk
theorem ln_MlineK (C0 : Cx p s m args c cc nL own D cy) (M : Ws D b0 cy sb db g s H locs) (hdg : decode cc pc = .ok (.arraylength, 1)) (kk : W p l e R s m args below meth c H locs cells slots Q (F0 m (pc + 1) ls (.int (nI 30) :: rest))) : W p l e R s m args below meth c H locs cells slots Q (F0 m pc ls (.ref (sb 28) :: rest)) :=
  mg_alen C0.1 C0.2.1 C0.2.2.2.2.2 M.1 (k := 28) (Or.inl (by decide)) rfl 0 rfl rfl hdg kk
theorem sv_MlineK (cy : Cy) (sb db : Nat → Nat) (g : Gs) (j : Nat) (v : Int32) : ∀ k, lvk k → va_up (cont cy sb db g) (28) (.inl (cy.1, 30, .inl (upd (g.1 42 0) j v))) k = cont cy sb db (sI g 42 0 j v) k := by
  intro k hk
  by_cases h : k = 28
  · subst h
    rw [va_up_self]
    show _ = cnA cy sb db _ 28
    simp [cnA, sI_at, sI, sA]
  · rw [va_up_ne _ _ h]
    exact (cont_sI (c := 42) (o := 0) hk h).symm
theorem as_MlineK (C0 : Cx p s m args c cc nL own D cy) (M : Ws D b0 cy sb db g s H locs) {i : Int32} {x : Int32} (hin : vp_in i 30) {g2 : Gs} (hg : g2 = sI g 42 0 i.toNatClampNeg x) (hdg : decode cc pc = .ok (.iastore, 1)) (kk : ∀ (H1 : Heap) (locs1 : List Loc), Ws D b0 cy sb db g2 s H1 locs1 → W p l e R s m args below meth c H1 locs1 cells slots Q (F0 m (pc + 1) ls rest)) : W p l e R s m args below meth c H locs cells slots Q (F0 m pc ls (.int x :: .int i :: .ref (sb 28) :: rest)) := by
  subst hg
  exact mg_iast C0.1 C0.2.1 C0.2.2.2.2.2 M.1 M.2 (k := 28) (Or.inl (by decide)) rfl 0 rfl rfl hin hdg (fun H1 locs1 M1 S1 => kk H1 locs1 ⟨mp_congr M1 (sv_MlineK cy sb db g _ _), S1⟩)
theorem al_MlineV (C0 : Cx p s m args c cc nL own D cy) (M : Ws D b0 cy sb db g s H locs) {i : Int32} (hin : vp_in i 30) (hdg : decode cc pc = .ok (.laload, 1)) (kk : W p l e R s m args below meth c H locs cells slots Q (F0 m (pc + 1) ls (.long (g.2.1 3 i.toNatClampNeg) :: rest))) : W p l e R s m args below meth c H locs cells slots Q (F0 m pc ls (.int i :: .ref (sb 29) :: rest)) :=
  mg_lald C0.1 C0.2.1 C0.2.2.2.2.2 M.1 (k := 29) (Or.inl (by decide)) rfl 1 rfl rfl hin hdg kk
theorem ln_MlineV (C0 : Cx p s m args c cc nL own D cy) (M : Ws D b0 cy sb db g s H locs) (hdg : decode cc pc = .ok (.arraylength, 1)) (kk : W p l e R s m args below meth c H locs cells slots Q (F0 m (pc + 1) ls (.int (nI 30) :: rest))) : W p l e R s m args below meth c H locs cells slots Q (F0 m pc ls (.ref (sb 29) :: rest)) :=
  mg_alen C0.1 C0.2.1 C0.2.2.2.2.2 M.1 (k := 29) (Or.inl (by decide)) rfl 1 rfl rfl hdg kk
theorem sv_MlineV (cy : Cy) (sb db : Nat → Nat) (g : Gs) (j : Nat) (v : Int64) : ∀ k, lvk k → va_up (cont cy sb db g) (29) (.inl (cy.2.1, 30, .inr (.inl (vp_updL (g.2.1 3) j v)))) k = cont cy sb db (sL g 3 j v) k := by
  intro k hk
  by_cases h : k = 29
  · subst h
    rw [va_up_self]
    show _ = cnA cy sb db _ 29
    simp [cnA, sL_at, sL]
  · rw [va_up_ne _ _ h]
    exact (cont_sL (c := 3) hk h).symm
theorem as_MlineV (C0 : Cx p s m args c cc nL own D cy) (M : Ws D b0 cy sb db g s H locs) {i : Int32} {x : Int64} (hin : vp_in i 30) {g2 : Gs} (hg : g2 = sL g 3 i.toNatClampNeg x) (hdg : decode cc pc = .ok (.lastore, 1)) (kk : ∀ (H1 : Heap) (locs1 : List Loc), Ws D b0 cy sb db g2 s H1 locs1 → W p l e R s m args below meth c H1 locs1 cells slots Q (F0 m (pc + 1) ls rest)) : W p l e R s m args below meth c H locs cells slots Q (F0 m pc ls (.long x :: .int i :: .ref (sb 29) :: rest)) := by
  subst hg
  exact mg_last C0.1 C0.2.1 C0.2.2.2.2.2 M.1 M.2 (k := 29) (Or.inl (by decide)) rfl 1 rfl rfl hin hdg (fun H1 locs1 M1 S1 => kk H1 locs1 ⟨mp_congr M1 (sv_MlineV cy sb db g _ _), S1⟩)
theorem al_ARRS (C0 : Cx p s m args c cc nL own D cy) (M : Ws D b0 cy sb db g s H locs) {i : Int32} (hin : vp_in i 24) (hdg : decode cc pc = .ok (.aaload, 1)) (kk : W p l e R s m args below meth c H locs cells slots Q (F0 m (pc + 1) ls (.ref (sb (400 + i.toNatClampNeg)) :: rest))) : W p l e R s m args below meth c H locs cells slots Q (F0 m pc ls (.int i :: .ref (sb 1) :: rest)) :=
  mg_aald C0.1 C0.2.1 C0.2.2.2.2.2 M.1 (k := 1) (Or.inl (by decide)) rfl 3 rfl rfl hin hdg kk
end ROWS
