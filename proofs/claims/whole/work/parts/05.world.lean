/-! The state of class and reference: g.1 ints (component, object, place), g.2.1 longs (component, place), g.2.2 lengths of rows that are made anew (by key). Printed by wip/gen/world.py. -/
abbrev Gs : Type := (Nat → Nat → Nat → Int32) × (Nat → Nat → Int64) × (Nat → Nat)
abbrev Cy : Type := ClassId × ClassId × ClassId × ClassId
def tyL (cy : Cy) : List (ClassId × FieldType) := [(cy.1, .int), (cy.2.1, .long), (cy.2.2.1, .boolean), (cy.2.2.2, .object RX1)]
def sA (g : Gs) (c o : Nat) (f : Nat → Int32) : Gs := (fun c1 o1 => if c1 = c ∧ o1 = o then f else g.1 c1 o1, g.2.1, g.2.2)
def sI (g : Gs) (c o j : Nat) (v : Int32) : Gs := sA g c o (upd (g.1 c o) j v)
def sL (g : Gs) (c j : Nat) (v : Int64) : Gs := (g.1, fun c1 => if c1 = c then vp_updL (g.2.1 c) j v else g.2.1 c1, g.2.2)
def sN (g : Gs) (k n : Nat) : Gs := (g.1, g.2.1, fun k1 => if k1 = k then n else g.2.2 k1)
theorem sA_at (g : Gs) (c o : Nat) (f : Nat → Int32) : (sA g c o f).1 c o = f := by simp [sA]
theorem sI_at (g : Gs) (c o j : Nat) (v : Int32) : (sI g c o j v).1 c o = upd (g.1 c o) j v := by simp [sI, sA]
theorem sI_nc (g : Gs) (c o j : Nat) (v : Int32) {c1 o1 : Nat} (h : ¬ (c1 = c ∧ o1 = o)) : (sI g c o j v).1 c1 o1 = g.1 c1 o1 := by simp only [sI, sA, if_neg h]
theorem sL_at (g : Gs) (c j : Nat) (v : Int64) : (sL g c j v).2.1 c = vp_updL (g.2.1 c) j v := by simp [sL]
theorem sL_nc (g : Gs) (c j : Nat) (v : Int64) {c1 : Nat} (h : ¬ c1 = c) : (sL g c j v).2.1 c1 = g.2.1 c1 := by simp [sL, h]
def cnA (cy : Cy) (sb db : Nat → Nat) (g : Gs) : Nat → va_E
  | 0 => .inr (4, [.ref (sb (100 + 0)), .ref (sb 3), .ref (sb 8), .ref (sb 1), .ref (sb 2), .int (g.1 0 0 0), .int (g.1 1 0 0), .int (g.1 2 0 0)])
  | 1 => .inl (cy.2.2.2, 24, .inr (.inr (.inr (.inr (fun j => some (sb (400 + j)))))))
  | 2 => .inl (cy.1, 500, .inl (g.1 3 0))
  | 3 => .inr (0, [.ref (sb 4), .ref (sb 5), .ref (sb 6), .ref (sb 7), .int (g.1 7 0 0)])
  | 4 => .inl (cy.1, 30, .inl (g.1 8 0))
  | 5 => .inl (cy.1, 30, .inl (g.1 9 0))
  | 6 => .inl (cy.1, 30, .inl (g.1 10 0))
  | 7 => .inl (cy.2.1, 30, .inr (.inl (g.2.1 1)))
  | 8 => .inr (3, [.ref (db 9), .ref (db 10), .ref (db 11), .ref (db 12), .int (g.1 11 0 0), .int (g.1 12 0 0)])
  | 9 => .inl (cy.2.1, (g.2.2 9), .inr (.inl (g.2.1 0)))
  | 10 => .inl (cy.2.2.1, (g.2.2 10), .inl (g.1 13 0))
  | 11 => .inl (cy.1, (g.2.2 11), .inl (g.1 14 0))
  | 12 => .inl (cy.1, (g.2.2 12), .inl (g.1 15 0))
  | 13 => .inr (5, [.int (g.1 20 0 0), .int (g.1 21 0 0), .int (g.1 22 0 0), .ref (sb 14), .ref (sb 15), .int (g.1 25 0 0), .ref (sb 16), .ref (sb 17), .ref (sb 18), .ref (sb 19), .ref (sb 20), .int (g.1 31 0 0), .ref (sb 21), .ref (sb 22), .int (g.1 34 0 0), .ref (sb 23), .ref (sb 24), .int (g.1 37 0 0), .ref (sb 25), .int (g.1 39 0 0), .ref (sb 26), .ref (sb 27), .ref (sb 28), .ref (sb 29), .int (g.1 44 0 0)])
  | 14 => .inl (cy.1, 3, .inl (g.1 23 0))
  | 15 => .inl (cy.1, 3, .inl (g.1 24 0))
  | 16 => .inl (cy.1, 24, .inl (g.1 26 0))
  | 17 => .inl (cy.1, 24, .inl (g.1 27 0))
  | 18 => .inl (cy.1, 72, .inl (g.1 28 0))
  | 19 => .inl (cy.1, 72, .inl (g.1 29 0))
  | 20 => .inl (cy.1, 24, .inl (g.1 30 0))
  | 21 => .inl (cy.1, 13000, .inl (g.1 32 0))
  | 22 => .inl (cy.1, 13000, .inl (g.1 33 0))
  | 23 => .inl (cy.2.1, 300000, .inr (.inl (g.2.1 2)))
  | 24 => .inl (cy.2.2.1, 300000, .inl (g.1 36 0))
  | 25 => .inl (cy.1, 12100, .inl (g.1 38 0))
  | 26 => .inl (cy.1, 30, .inl (g.1 40 0))
  | 27 => .inl (cy.1, 30, .inl (g.1 41 0))
  | 28 => .inl (cy.1, 30, .inl (g.1 42 0))
  | 29 => .inl (cy.2.1, 30, .inr (.inl (g.2.1 3)))
  | _ => .inr (0, [])
def cont (cy : Cy) (sb db : Nat → Nat) (g : Gs) (k : Nat) : va_E :=
  if k < 100 then cnA cy sb db g k
  else if k < 200 then .inr (2, [.ref (sb (200 + (k - 100))), .ref (sb (300 + (k - 100))), .int (g.1 4 (k - 100) 0)])
  else if k < 300 then .inl (cy.1, 3, .inl (g.1 5 (k - 200)))
  else if k < 400 then .inl (cy.1, 3, .inl (g.1 6 (k - 300)))
  else if k < 500 then .inr (1, [.ref (sb (100 + ((k - 400) + 1))), .int (g.1 16 (k - 400) 0), .int (g.1 17 (k - 400) 0), .ref (db (500 + (k - 400)))])
  else .inl (cy.1, (g.2.2 (500 + (k - 500))), .inl (g.1 18 (k - 500)))
def lvk (k : Nat) : Prop := k < 30 ∨ (100 ≤ k ∧ k < 125) ∨ (200 ≤ k ∧ k < 225) ∨ (300 ≤ k ∧ k < 325) ∨ (400 ≤ k ∧ k < 424) ∨ (500 ≤ k ∧ k < 524)
def adr (sb db : Nat → Nat) (k : Nat) : Nat := if (9 ≤ k ∧ k ≤ 12) ∨ 500 ≤ k then db k else sb k
theorem ct_sh (cy : Cy) (sb db : Nat → Nat) (g : Gs) {o : Nat} (h : o < 25) : cont cy sb db g (100 + o) = .inr (2, [.ref (sb (200 + o)), .ref (sb (300 + o)), .int (g.1 4 o 0)]) := by
  have h100 : ¬ 100 + o < 100 := by omega
  have h200 : 100 + o < 200 := by omega
  simp only [cont, if_neg h100, if_pos h200, Nat.add_sub_cancel_left]
theorem ct_low (cy : Cy) (sb db : Nat → Nat) (g : Gs) {o : Nat} (h : o < 25) : cont cy sb db g (200 + o) = .inl (cy.1, 3, .inl (g.1 5 o)) := by
  have h100 : ¬ 200 + o < 100 := by omega
  have h200 : ¬ 200 + o < 200 := by omega
  have h300 : 200 + o < 300 := by omega
  simp only [cont, if_neg h100, if_neg h200, if_pos h300, Nat.add_sub_cancel_left]
theorem ct_hig (cy : Cy) (sb db : Nat → Nat) (g : Gs) {o : Nat} (h : o < 25) : cont cy sb db g (300 + o) = .inl (cy.1, 3, .inl (g.1 6 o)) := by
  have h100 : ¬ 300 + o < 100 := by omega
  have h200 : ¬ 300 + o < 200 := by omega
  have h300 : ¬ 300 + o < 300 := by omega
  have h400 : 300 + o < 400 := by omega
  simp only [cont, if_neg h100, if_neg h200, if_neg h300, if_pos h400, Nat.add_sub_cancel_left]
theorem ct_ma (cy : Cy) (sb db : Nat → Nat) (g : Gs) {n : Nat} (h : n < 24) : cont cy sb db g (400 + n) = .inr (1, [.ref (sb (100 + (n + 1))), .int (g.1 16 n 0), .int (g.1 17 n 0), .ref (db (500 + n))]) := by
  have h100 : ¬ 400 + n < 100 := by omega
  have h200 : ¬ 400 + n < 200 := by omega
  have h300 : ¬ 400 + n < 300 := by omega
  have h400 : ¬ 400 + n < 400 := by omega
  have h500 : 400 + n < 500 := by omega
  simp only [cont, if_neg h100, if_neg h200, if_neg h300, if_neg h400, if_pos h500, Nat.add_sub_cancel_left]
theorem ct_rows (cy : Cy) (sb db : Nat → Nat) (g : Gs) {n : Nat} (h : n < 24) : cont cy sb db g (500 + n) = .inl (cy.1, (g.2.2 (500 + n)), .inl (g.1 18 n)) := by
  have h100 : ¬ 500 + n < 100 := by omega
  have h200 : ¬ 500 + n < 200 := by omega
  have h300 : ¬ 500 + n < 300 := by omega
  have h400 : ¬ 500 + n < 400 := by omega
  have h500 : ¬ 500 + n < 500 := by omega
  simp only [cont, if_neg h100, if_neg h200, if_neg h300, if_neg h400, if_neg h500, Nat.add_sub_cancel_left]
theorem ad_sh (sb db : Nat → Nat) {o : Nat} (h : o < 25) : adr sb db (100 + o) = sb (100 + o) := if_neg (by omega)
theorem lv_sh {o : Nat} (h : o < 25) : lvk (100 + o) := by unfold lvk; omega
theorem ad_low (sb db : Nat → Nat) {o : Nat} (h : o < 25) : adr sb db (200 + o) = sb (200 + o) := if_neg (by omega)
theorem lv_low {o : Nat} (h : o < 25) : lvk (200 + o) := by unfold lvk; omega
theorem ad_hig (sb db : Nat → Nat) {o : Nat} (h : o < 25) : adr sb db (300 + o) = sb (300 + o) := if_neg (by omega)
theorem lv_hig {o : Nat} (h : o < 25) : lvk (300 + o) := by unfold lvk; omega
theorem ad_ma (sb db : Nat → Nat) {n : Nat} (h : n < 24) : adr sb db (400 + n) = sb (400 + n) := if_neg (by omega)
theorem lv_ma {n : Nat} (h : n < 24) : lvk (400 + n) := by unfold lvk; omega
theorem ad_rows (sb db : Nat → Nat) {n : Nat} (h : n < 24) : adr sb db (500 + n) = db (500 + n) := if_pos (by omega)
theorem lv_rows {n : Nat} (h : n < 24) : lvk (500 + n) := by unfold lvk; omega
def kof (c o : Nat) : Nat := match c with
  | 0 => 0
  | 1 => 0
  | 2 => 0
  | 3 => 2
  | 4 => 100 + o
  | 5 => 200 + o
  | 6 => 300 + o
  | 7 => 3
  | 8 => 4
  | 9 => 5
  | 10 => 6
  | 11 => 8
  | 12 => 8
  | 13 => 10
  | 14 => 11
  | 15 => 12
  | 16 => 400 + o
  | 17 => 400 + o
  | 18 => 500 + o
  | 20 => 13
  | 21 => 13
  | 22 => 13
  | 23 => 14
  | 24 => 15
  | 25 => 13
  | 26 => 16
  | 27 => 17
  | 28 => 18
  | 29 => 19
  | 30 => 20
  | 31 => 13
  | 32 => 21
  | 33 => 22
  | 34 => 13
  | 36 => 24
  | 37 => 13
  | 38 => 25
  | 39 => 13
  | 40 => 26
  | 41 => 27
  | 42 => 28
  | 44 => 13
  | _ => 1000
def kofL (c : Nat) : Nat := match c with
  | 1 => 7
  | 0 => 9
  | 2 => 23
  | 3 => 29
  | _ => 1000
theorem cont_fr {cy : Cy} {sb db : Nat → Nat} {g g2 : Gs} {k : Nat} (hk : lvk k) (h : ∀ c o, kof c o = k → g.1 c o = g2.1 c o) (hL : ∀ c, kofL c = k → g.2.1 c = g2.2.1 c) (hN : g.2.2 = g2.2.2) : cont cy sb db g k = cont cy sb db g2 k := by
  rcases hk with hk | hk | hk | hk | hk | hk
  · have hk2 : k = 0 ∨ k = 1 ∨ k = 2 ∨ k = 3 ∨ k = 4 ∨ k = 5 ∨ k = 6 ∨ k = 7 ∨ k = 8 ∨ k = 9 ∨ k = 10 ∨ k = 11 ∨ k = 12 ∨ k = 13 ∨ k = 14 ∨ k = 15 ∨ k = 16 ∨ k = 17 ∨ k = 18 ∨ k = 19 ∨ k = 20 ∨ k = 21 ∨ k = 22 ∨ k = 23 ∨ k = 24 ∨ k = 25 ∨ k = 26 ∨ k = 27 ∨ k = 28 ∨ k = 29 := by omega
    rcases hk2 with rfl | rfl | rfl | rfl | rfl | rfl | rfl | rfl | rfl | rfl | rfl | rfl | rfl | rfl | rfl | rfl | rfl | rfl | rfl | rfl | rfl | rfl | rfl | rfl | rfl | rfl | rfl | rfl | rfl | rfl
    · show cnA cy sb db g 0 = cnA cy sb db g2 0
      simp only [cnA, h 0 0 rfl, h 1 0 rfl, h 2 0 rfl]
    · show cnA cy sb db g 1 = cnA cy sb db g2 1
      rfl
    · show cnA cy sb db g 2 = cnA cy sb db g2 2
      simp only [cnA, h 3 0 rfl]
    · show cnA cy sb db g 3 = cnA cy sb db g2 3
      simp only [cnA, h 7 0 rfl]
    · show cnA cy sb db g 4 = cnA cy sb db g2 4
      simp only [cnA, h 8 0 rfl]
    · show cnA cy sb db g 5 = cnA cy sb db g2 5
      simp only [cnA, h 9 0 rfl]
    · show cnA cy sb db g 6 = cnA cy sb db g2 6
      simp only [cnA, h 10 0 rfl]
    · show cnA cy sb db g 7 = cnA cy sb db g2 7
      simp only [cnA, hL 1 rfl]
    · show cnA cy sb db g 8 = cnA cy sb db g2 8
      simp only [cnA, h 11 0 rfl, h 12 0 rfl]
    · show cnA cy sb db g 9 = cnA cy sb db g2 9
      simp only [cnA, hL 0 rfl, hN]
    · show cnA cy sb db g 10 = cnA cy sb db g2 10
      simp only [cnA, h 13 0 rfl, hN]
    · show cnA cy sb db g 11 = cnA cy sb db g2 11
      simp only [cnA, h 14 0 rfl, hN]
    · show cnA cy sb db g 12 = cnA cy sb db g2 12
      simp only [cnA, h 15 0 rfl, hN]
    · show cnA cy sb db g 13 = cnA cy sb db g2 13
      simp only [cnA, h 20 0 rfl, h 21 0 rfl, h 22 0 rfl, h 25 0 rfl, h 31 0 rfl, h 34 0 rfl, h 37 0 rfl, h 39 0 rfl, h 44 0 rfl]
    · show cnA cy sb db g 14 = cnA cy sb db g2 14
      simp only [cnA, h 23 0 rfl]
    · show cnA cy sb db g 15 = cnA cy sb db g2 15
      simp only [cnA, h 24 0 rfl]
    · show cnA cy sb db g 16 = cnA cy sb db g2 16
      simp only [cnA, h 26 0 rfl]
    · show cnA cy sb db g 17 = cnA cy sb db g2 17
      simp only [cnA, h 27 0 rfl]
    · show cnA cy sb db g 18 = cnA cy sb db g2 18
      simp only [cnA, h 28 0 rfl]
    · show cnA cy sb db g 19 = cnA cy sb db g2 19
      simp only [cnA, h 29 0 rfl]
    · show cnA cy sb db g 20 = cnA cy sb db g2 20
      simp only [cnA, h 30 0 rfl]
    · show cnA cy sb db g 21 = cnA cy sb db g2 21
      simp only [cnA, h 32 0 rfl]
    · show cnA cy sb db g 22 = cnA cy sb db g2 22
      simp only [cnA, h 33 0 rfl]
    · show cnA cy sb db g 23 = cnA cy sb db g2 23
      simp only [cnA, hL 2 rfl]
    · show cnA cy sb db g 24 = cnA cy sb db g2 24
      simp only [cnA, h 36 0 rfl]
    · show cnA cy sb db g 25 = cnA cy sb db g2 25
      simp only [cnA, h 38 0 rfl]
    · show cnA cy sb db g 26 = cnA cy sb db g2 26
      simp only [cnA, h 40 0 rfl]
    · show cnA cy sb db g 27 = cnA cy sb db g2 27
      simp only [cnA, h 41 0 rfl]
    · show cnA cy sb db g 28 = cnA cy sb db g2 28
      simp only [cnA, h 42 0 rfl]
    · show cnA cy sb db g 29 = cnA cy sb db g2 29
      simp only [cnA, hL 3 rfl]
  · obtain ⟨o, rfl⟩ : ∃ o, k = 100 + o := ⟨k - 100, by omega⟩
    rw [ct_sh cy sb db g (by omega), ct_sh cy sb db g2 (by omega), h 4 o rfl]
  · obtain ⟨o, rfl⟩ : ∃ o, k = 200 + o := ⟨k - 200, by omega⟩
    rw [ct_low cy sb db g (by omega), ct_low cy sb db g2 (by omega), h 5 o rfl]
  · obtain ⟨o, rfl⟩ : ∃ o, k = 300 + o := ⟨k - 300, by omega⟩
    rw [ct_hig cy sb db g (by omega), ct_hig cy sb db g2 (by omega), h 6 o rfl]
  · obtain ⟨o, rfl⟩ : ∃ o, k = 400 + o := ⟨k - 400, by omega⟩
    rw [ct_ma cy sb db g (by omega), ct_ma cy sb db g2 (by omega), h 16 o rfl, h 17 o rfl]
  · obtain ⟨o, rfl⟩ : ∃ o, k = 500 + o := ⟨k - 500, by omega⟩
    rw [ct_rows cy sb db g (by omega), ct_rows cy sb db g2 (by omega), h 18 o rfl, hN]
theorem cont_sI {cy : Cy} {sb db : Nat → Nat} {g : Gs} {c o j k : Nat} {v : Int32} (hk : lvk k) (h : k ≠ kof c o) : cont cy sb db (sI g c o j v) k = cont cy sb db g k :=
  cont_fr hk (fun c1 o1 h1 => sI_nc g c o j v (fun q => h (by rw [← h1, q.1, q.2]))) (fun _ _ => rfl) rfl
theorem cont_sL {cy : Cy} {sb db : Nat → Nat} {g : Gs} {c j k : Nat} {v : Int64} (hk : lvk k) (h : k ≠ kofL c) : cont cy sb db (sL g c j v) k = cont cy sb db g k :=
  cont_fr hk (fun _ _ _ => rfl) (fun c1 h1 => sL_nc g c j v (fun q => h (by rw [← h1, q]))) rfl
def Cx (p : Program) (s : State) (m : MethodId) (args : Array Value) (c : Code) (cc : ByteArray) (nL : Nat) (own : String) (D : va_G) (cy : Cy) : Prop := p.tables.exec = Jvm.exec ∧ c.code = cc ∧ c.maxLocals = nL ∧ s.vm.findClass own = some m.cls ∧ (∀ w ∈ wsL_law, w.before args s = true) ∧ va_K D vwCl (tyL cy) s
def Ws (D : va_G) (b0 : Nat) (cy : Cy) (sb db : Nat → Nat) (g : Gs) (s : State) (H : Heap) (locs : List Loc) : Prop := mp_ D (fun q => b0 ≤ q) lvk (adr sb db) (cont cy sb db g) H ∧ va_S (fun q => b0 ≤ q) s.heap H locs
theorem inr_1 : ∀ w ∈ wsL_law_r1, w ∈ wsL_law := by
  intro w h
  simp only [wsL_law, List.mem_append]
  simp only [h, true_or, or_true]
theorem inr_2 : ∀ w ∈ wsL_law_r2, w ∈ wsL_law := by
  intro w h
  simp only [wsL_law, List.mem_append]
  simp only [h, true_or, or_true]
theorem inr_3 : ∀ w ∈ wsL_law_r3, w ∈ wsL_law := by
  intro w h
  simp only [wsL_law, List.mem_append]
  simp only [h, true_or, or_true]
theorem inr_4 : ∀ w ∈ wsL_law_r4, w ∈ wsL_law := by
  intro w h
  simp only [wsL_law, List.mem_append]
  simp only [h, true_or, or_true]
theorem inr_5 : ∀ w ∈ wsL_law_r5, w ∈ wsL_law := by
  intro w h
  simp only [wsL_law, List.mem_append]
  simp only [h, true_or, or_true]
theorem inr_6 : ∀ w ∈ wsL_law_r6, w ∈ wsL_law := by
  intro w h
  simp only [wsL_law, List.mem_append]
  simp only [h, true_or, or_true]
theorem inr_7 : ∀ w ∈ wsL_law_r7, w ∈ wsL_law := by
  intro w h
  simp only [wsL_law, List.mem_append]
  simp only [h, true_or, or_true]
theorem inr_8 : ∀ w ∈ wsL_law_r8, w ∈ wsL_law := by
  intro w h
  simp only [wsL_law, List.mem_append]
  simp only [h, true_or, or_true]
theorem inr_9 : ∀ w ∈ wsL_law_r9, w ∈ wsL_law := by
  intro w h
  simp only [wsL_law, List.mem_append]
  simp only [h, true_or, or_true]
theorem inr_10 : ∀ w ∈ wsL_law_r10, w ∈ wsL_law := by
  intro w h
  simp only [wsL_law, List.mem_append]
  simp only [h, true_or, or_true]
theorem inr_11 : ∀ w ∈ wsL_law_r11, w ∈ wsL_law := by
  intro w h
  simp only [wsL_law, List.mem_append]
  simp only [h, true_or, or_true]
theorem inr_12 : ∀ w ∈ wsL_law_r12, w ∈ wsL_law := by
  intro w h
  simp only [wsL_law, List.mem_append]
  simp only [h, true_or, or_true]
theorem inr_13 : ∀ w ∈ wsL_law_r13, w ∈ wsL_law := by
  intro w h
  simp only [wsL_law, List.mem_append]
  simp only [h, true_or, or_true]
theorem inr_14 : ∀ w ∈ wsL_law_r14, w ∈ wsL_law := by
  intro w h
  simp only [wsL_law, List.mem_append]
  simp only [h, true_or, or_true]
theorem inr_15 : ∀ w ∈ wsL_law_r15, w ∈ wsL_law := by
  intro w h
  simp only [wsL_law, List.mem_append]
  simp only [h, true_or, or_true]
theorem inr_16 : ∀ w ∈ wsL_law_r16, w ∈ wsL_law := by
  intro w h
  simp only [wsL_law, List.mem_append]
  simp only [h, true_or, or_true]
theorem inr_17 : ∀ w ∈ wsL_law_r17, w ∈ wsL_law := by
  intro w h
  simp only [wsL_law, List.mem_append]
  simp only [h, true_or, or_true]
theorem inr_18 : ∀ w ∈ wsL_law_r18, w ∈ wsL_law := by
  intro w h
  simp only [wsL_law, List.mem_append]
  simp only [h, true_or, or_true]
theorem inr_19 : ∀ w ∈ wsL_law_r19, w ∈ wsL_law := by
  intro w h
  simp only [wsL_law, List.mem_append]
  simp only [h, true_or, or_true]
theorem inr_20 : ∀ w ∈ wsL_law_r20, w ∈ wsL_law := by
  intro w h
  simp only [wsL_law, List.mem_append]
  simp only [h, true_or, or_true]
theorem inr_21 : ∀ w ∈ wsL_law_r21, w ∈ wsL_law := by
  intro w h
  simp only [wsL_law, List.mem_append]
  simp only [h, true_or, or_true]
theorem inr_22 : ∀ w ∈ wsL_law_r22, w ∈ wsL_law := by
  intro w h
  simp only [wsL_law, List.mem_append]
  simp only [h, true_or, or_true]
theorem inr_23 : ∀ w ∈ wsL_law_r23, w ∈ wsL_law := by
  intro w h
  simp only [wsL_law, List.mem_append]
  simp only [h, true_or, or_true]
theorem inr_24 : ∀ w ∈ wsL_law_r24, w ∈ wsL_law := by
  intro w h
  simp only [wsL_law, List.mem_append]
  simp only [h, true_or, or_true]
theorem inr_25 : ∀ w ∈ wsL_law_r25, w ∈ wsL_law := by
  intro w h
  simp only [wsL_law, List.mem_append]
  simp only [h, true_or, or_true]
theorem inr_26 : ∀ w ∈ wsL_law_r26, w ∈ wsL_law := by
  intro w h
  simp only [wsL_law, List.mem_append]
  simp only [h, true_or, or_true]
theorem inr_27 : ∀ w ∈ wsL_law_r27, w ∈ wsL_law := by
  intro w h
  simp only [wsL_law, List.mem_append]
  simp only [h, true_or, or_true]
theorem inr_28 : ∀ w ∈ wsL_law_r28, w ∈ wsL_law := by
  intro w h
  simp only [wsL_law, List.mem_append]
  simp only [h, true_or, or_true]
theorem kw_1_0 : Cond.classLink RL 7 RX4 ∈ wsL_law := inr_1 _ (List.mem_of_getElem? (i := 0) rfl)
theorem kw_1_1 : Cond.instantiable RX4 8 ∈ wsL_law := inr_1 _ (List.mem_of_getElem? (i := 1) rfl)
theorem kw_1_2 : Cond.initialized RX4 ∈ wsL_law := inr_1 _ (List.mem_of_getElem? (i := 2) rfl)
theorem kw_1_3 : Cond.classLink RL 10 RX5 ∈ wsL_law := inr_1 _ (List.mem_of_getElem? (i := 3) rfl)
theorem kw_1_4 : Cond.instantiable RX5 25 ∈ wsL_law := inr_1 _ (List.mem_of_getElem? (i := 4) rfl)
theorem kw_1_5 : Cond.initialized RX5 ∈ wsL_law := inr_1 _ (List.mem_of_getElem? (i := 5) rfl)
theorem kw_1_6 : Cond.constantLong RL 79 (4294967295) ∈ wsL_law := inr_1 _ (List.mem_of_getElem? (i := 6) rfl)
theorem kw_1_7 : Cond.methodLink RL 9 yX4_init ∈ wsL_law := inr_1 _ (List.mem_of_getElem? (i := 7) rfl)
theorem kw_1_8 : Cond.instanceMethod yX4_init ∈ wsL_law := inr_1 _ (List.mem_of_getElem? (i := 8) rfl)
theorem kw_1_9 : Cond.code yX4_init cX4_init 2 none ∈ wsL_law := inr_1 _ (List.mem_of_getElem? (i := 9) rfl)
theorem kw_1_10 : Cond.methodLink RX4 3 objectInit ∈ wsL_law := inr_1 _ (List.mem_of_getElem? (i := 10) rfl)
theorem kw_1_11 : Cond.instanceMethod objectInit ∈ wsL_law := inr_1 _ (List.mem_of_getElem? (i := 11) rfl)
theorem kw_1_12 : Cond.code objectInit ⟨#[0xb1]⟩ 1 none ∈ wsL_law := inr_1 _ (List.mem_of_getElem? (i := 12) rfl)
theorem kw_1_13 : Cond.classLink RX4 9 RX2 ∈ wsL_law := inr_1 _ (List.mem_of_getElem? (i := 13) rfl)
theorem kw_1_14 : Cond.instantiable RX2 3 ∈ wsL_law := inr_1 _ (List.mem_of_getElem? (i := 14) rfl)
theorem kw_1_15 : Cond.initialized RX2 ∈ wsL_law := inr_1 _ (List.mem_of_getElem? (i := 15) rfl)
theorem kw_1_16 : Cond.fieldLink RX4 12 "ArrayMaker" "shape" "LArrayMaker$Shape;" ∈ wsL_law := inr_1 _ (List.mem_of_getElem? (i := 16) rfl)
theorem kw_1_17 : Cond.classLink RX4 16 RX0 ∈ wsL_law := inr_1 _ (List.mem_of_getElem? (i := 17) rfl)
theorem kw_1_18 : Cond.instantiable RX0 5 ∈ wsL_law := inr_1 _ (List.mem_of_getElem? (i := 18) rfl)
theorem kw_1_19 : Cond.initialized RX0 ∈ wsL_law := inr_1 _ (List.mem_of_getElem? (i := 19) rfl)
theorem kw_1_20 : Cond.fieldLink RX4 19 "ArrayMaker" "list" "LArrayMaker$Lines;" ∈ wsL_law := inr_1 _ (List.mem_of_getElem? (i := 20) rfl)
theorem kw_1_21 : Cond.classLink RX4 23 RX3 ∈ wsL_law := inr_1 _ (List.mem_of_getElem? (i := 21) rfl)
theorem kw_1_22 : Cond.instantiable RX3 6 ∈ wsL_law := inr_1 _ (List.mem_of_getElem? (i := 22) rfl)
theorem kw_1_23 : Cond.initialized RX3 ∈ wsL_law := inr_1 _ (List.mem_of_getElem? (i := 23) rfl)
theorem kw_2_0 : Cond.fieldLink RX4 26 "ArrayMaker" "store" "LArrayMaker$Store;" ∈ wsL_law := inr_2 _ (List.mem_of_getElem? (i := 0) rfl)
theorem kw_2_1 : Cond.classLink RX4 30 RX1 ∈ wsL_law := inr_2 _ (List.mem_of_getElem? (i := 1) rfl)
theorem kw_2_2 : Cond.fieldLink RX4 32 "ArrayMaker" "arrays" "[LArrayMaker$MadeArray;" ∈ wsL_law := inr_2 _ (List.mem_of_getElem? (i := 2) rfl)
theorem kw_2_3 : Cond.arrayClass .int ∈ wsL_law := inr_2 _ (List.mem_of_getElem? (i := 3) rfl)
theorem kw_2_4 : Cond.fieldLink RX4 36 "ArrayMaker" "sources" "[I" ∈ wsL_law := inr_2 _ (List.mem_of_getElem? (i := 4) rfl)
theorem kw_2_5 : Cond.fieldLink RX4 40 "ArrayMaker" "made" "I" ∈ wsL_law := inr_2 _ (List.mem_of_getElem? (i := 5) rfl)
theorem kw_2_6 : Cond.fieldLink RX4 44 "ArrayMaker" "code" "I" ∈ wsL_law := inr_2 _ (List.mem_of_getElem? (i := 6) rfl)
theorem kw_2_7 : Cond.fieldLink RX4 47 "ArrayMaker" "which" "I" ∈ wsL_law := inr_2 _ (List.mem_of_getElem? (i := 7) rfl)
theorem kw_2_8 : Cond.instantiable RX1 4 ∈ wsL_law := inr_2 _ (List.mem_of_getElem? (i := 8) rfl)
theorem kw_2_9 : Cond.initialized RX1 ∈ wsL_law := inr_2 _ (List.mem_of_getElem? (i := 9) rfl)
theorem kw_2_10 : Cond.instanceMethod yX2_init ∈ wsL_law := inr_2 _ (List.mem_of_getElem? (i := 10) rfl)
theorem kw_2_11 : Cond.code yX2_init cX2_init 1 none ∈ wsL_law := inr_2 _ (List.mem_of_getElem? (i := 11) rfl)
theorem kw_2_12 : Cond.methodLink RX2 3 objectInit ∈ wsL_law := inr_2 _ (List.mem_of_getElem? (i := 12) rfl)
theorem kw_2_13 : Cond.fieldLink RX2 9 "ArrayMaker$Shape" "low" "[I" ∈ wsL_law := inr_2 _ (List.mem_of_getElem? (i := 13) rfl)
theorem kw_2_14 : Cond.fieldLink RX2 15 "ArrayMaker$Shape" "high" "[I" ∈ wsL_law := inr_2 _ (List.mem_of_getElem? (i := 14) rfl)
theorem kw_2_15 : Cond.instanceMethod yX0_init ∈ wsL_law := inr_2 _ (List.mem_of_getElem? (i := 15) rfl)
theorem kw_2_16 : Cond.code yX0_init cX0_init 1 none ∈ wsL_law := inr_2 _ (List.mem_of_getElem? (i := 16) rfl)
theorem kw_2_17 : Cond.methodLink RX0 3 objectInit ∈ wsL_law := inr_2 _ (List.mem_of_getElem? (i := 17) rfl)
theorem kw_2_18 : Cond.fieldLink RX0 9 "ArrayMaker$Lines" "i" "[I" ∈ wsL_law := inr_2 _ (List.mem_of_getElem? (i := 18) rfl)
theorem kw_2_19 : Cond.fieldLink RX0 15 "ArrayMaker$Lines" "j" "[I" ∈ wsL_law := inr_2 _ (List.mem_of_getElem? (i := 19) rfl)
theorem kw_2_20 : Cond.fieldLink RX0 18 "ArrayMaker$Lines" "k" "[I" ∈ wsL_law := inr_2 _ (List.mem_of_getElem? (i := 20) rfl)
theorem kw_2_21 : Cond.arrayClass .long ∈ wsL_law := inr_2 _ (List.mem_of_getElem? (i := 21) rfl)
theorem kw_2_22 : Cond.fieldLink RX0 21 "ArrayMaker$Lines" "v" "[J" ∈ wsL_law := inr_2 _ (List.mem_of_getElem? (i := 22) rfl)
theorem kw_2_23 : Cond.instanceMethod yX3_init ∈ wsL_law := inr_2 _ (List.mem_of_getElem? (i := 23) rfl)
theorem kw_3_0 : Cond.code yX3_init cX3_init 1 none ∈ wsL_law := inr_3 _ (List.mem_of_getElem? (i := 0) rfl)
theorem kw_3_1 : Cond.methodLink RX3 3 objectInit ∈ wsL_law := inr_3 _ (List.mem_of_getElem? (i := 1) rfl)
theorem kw_3_2 : Cond.fieldLink RX3 9 "ArrayMaker$Store" "numbers" "[J" ∈ wsL_law := inr_3 _ (List.mem_of_getElem? (i := 2) rfl)
theorem kw_3_3 : Cond.arrayClass .boolean ∈ wsL_law := inr_3 _ (List.mem_of_getElem? (i := 3) rfl)
theorem kw_3_4 : Cond.fieldLink RX3 15 "ArrayMaker$Store" "filled" "[Z" ∈ wsL_law := inr_3 _ (List.mem_of_getElem? (i := 4) rfl)
theorem kw_3_5 : Cond.fieldLink RX3 19 "ArrayMaker$Store" "starts" "[I" ∈ wsL_law := inr_3 _ (List.mem_of_getElem? (i := 5) rfl)
theorem kw_3_6 : Cond.fieldLink RX3 23 "ArrayMaker$Store" "lengths" "[I" ∈ wsL_law := inr_3 _ (List.mem_of_getElem? (i := 6) rfl)
theorem kw_3_7 : Cond.instanceMethod yX1_init ∈ wsL_law := inr_3 _ (List.mem_of_getElem? (i := 7) rfl)
theorem kw_3_8 : Cond.code yX1_init cX1_init 1 none ∈ wsL_law := inr_3 _ (List.mem_of_getElem? (i := 8) rfl)
theorem kw_3_9 : Cond.methodLink RX1 3 objectInit ∈ wsL_law := inr_3 _ (List.mem_of_getElem? (i := 9) rfl)
theorem kw_3_10 : Cond.classLink RX1 9 RX2 ∈ wsL_law := inr_3 _ (List.mem_of_getElem? (i := 10) rfl)
theorem kw_3_11 : Cond.fieldLink RX1 12 "ArrayMaker$MadeArray" "shape" "LArrayMaker$Shape;" ∈ wsL_law := inr_3 _ (List.mem_of_getElem? (i := 11) rfl)
theorem kw_3_12 : Cond.fieldLink RX1 18 "ArrayMaker$MadeArray" "row" "I" ∈ wsL_law := inr_3 _ (List.mem_of_getElem? (i := 12) rfl)
theorem kw_3_13 : Cond.fieldLink RX1 22 "ArrayMaker$MadeArray" "rows" "[I" ∈ wsL_law := inr_3 _ (List.mem_of_getElem? (i := 13) rfl)
theorem kw_3_14 : Cond.methodLink RL 12 yX5_init ∈ wsL_law := inr_3 _ (List.mem_of_getElem? (i := 14) rfl)
theorem kw_3_15 : Cond.instanceMethod yX5_init ∈ wsL_law := inr_3 _ (List.mem_of_getElem? (i := 15) rfl)
theorem kw_3_16 : Cond.code yX5_init cX5_init 1 none ∈ wsL_law := inr_3 _ (List.mem_of_getElem? (i := 16) rfl)
theorem kw_3_17 : Cond.methodLink RX5 1 objectInit ∈ wsL_law := inr_3 _ (List.mem_of_getElem? (i := 17) rfl)
theorem kw_3_18 : Cond.fieldLink RX5 9 "ArrayMakerModel" "which" "I" ∈ wsL_law := inr_3 _ (List.mem_of_getElem? (i := 18) rfl)
theorem kw_3_19 : Cond.fieldLink RX5 13 "ArrayMakerModel" "low" "[I" ∈ wsL_law := inr_3 _ (List.mem_of_getElem? (i := 19) rfl)
theorem kw_3_20 : Cond.fieldLink RX5 17 "ArrayMakerModel" "high" "[I" ∈ wsL_law := inr_3 _ (List.mem_of_getElem? (i := 20) rfl)
theorem kw_3_21 : Cond.fieldLink RX5 20 "ArrayMakerModel" "kinds" "[I" ∈ wsL_law := inr_3 _ (List.mem_of_getElem? (i := 21) rfl)
theorem kw_3_22 : Cond.fieldLink RX5 23 "ArrayMakerModel" "ranks" "[I" ∈ wsL_law := inr_3 _ (List.mem_of_getElem? (i := 22) rfl)
theorem kw_3_23 : Cond.fieldLink RX5 26 "ArrayMakerModel" "lows" "[I" ∈ wsL_law := inr_3 _ (List.mem_of_getElem? (i := 23) rfl)
theorem kw_4_0 : Cond.fieldLink RX5 29 "ArrayMakerModel" "highs" "[I" ∈ wsL_law := inr_4 _ (List.mem_of_getElem? (i := 0) rfl)
theorem kw_4_1 : Cond.fieldLink RX5 32 "ArrayMakerModel" "rowOf" "[I" ∈ wsL_law := inr_4 _ (List.mem_of_getElem? (i := 1) rfl)
theorem kw_4_2 : Cond.fieldLink RX5 35 "ArrayMakerModel" "rowAt" "[I" ∈ wsL_law := inr_4 _ (List.mem_of_getElem? (i := 2) rfl)
theorem kw_4_3 : Cond.fieldLink RX5 38 "ArrayMakerModel" "rowSize" "[I" ∈ wsL_law := inr_4 _ (List.mem_of_getElem? (i := 3) rfl)
theorem kw_4_4 : Cond.constant RX5 41 (300000) ∈ wsL_law := inr_4 _ (List.mem_of_getElem? (i := 4) rfl)
theorem kw_4_5 : Cond.fieldLink RX5 42 "ArrayMakerModel" "pool" "[J" ∈ wsL_law := inr_4 _ (List.mem_of_getElem? (i := 5) rfl)
theorem kw_4_6 : Cond.fieldLink RX5 46 "ArrayMakerModel" "hasBox" "[Z" ∈ wsL_law := inr_4 _ (List.mem_of_getElem? (i := 6) rfl)
theorem kw_4_7 : Cond.fieldLink RX5 50 "ArrayMakerModel" "slot" "[I" ∈ wsL_law := inr_4 _ (List.mem_of_getElem? (i := 7) rfl)
theorem kw_4_8 : Cond.fieldLink RX5 53 "ArrayMakerModel" "lineI" "[I" ∈ wsL_law := inr_4 _ (List.mem_of_getElem? (i := 8) rfl)
theorem kw_4_9 : Cond.fieldLink RX5 56 "ArrayMakerModel" "lineJ" "[I" ∈ wsL_law := inr_4 _ (List.mem_of_getElem? (i := 9) rfl)
theorem kw_4_10 : Cond.fieldLink RX5 59 "ArrayMakerModel" "lineK" "[I" ∈ wsL_law := inr_4 _ (List.mem_of_getElem? (i := 10) rfl)
theorem kw_4_11 : Cond.fieldLink RX5 62 "ArrayMakerModel" "lineV" "[J" ∈ wsL_law := inr_4 _ (List.mem_of_getElem? (i := 11) rfl)
theorem kw_4_12 : Cond.methodLink RL 13 yX4_code ∈ wsL_law := inr_4 _ (List.mem_of_getElem? (i := 12) rfl)
theorem kw_4_13 : Cond.instanceMethod yX4_code ∈ wsL_law := inr_4 _ (List.mem_of_getElem? (i := 13) rfl)
theorem kw_4_14 : Cond.selects RX4 yX4_code yX4_code ∈ wsL_law := inr_4 _ (List.mem_of_getElem? (i := 14) rfl)
theorem kw_4_15 : Cond.code yX4_code cX4_code 1 (some .int) ∈ wsL_law := inr_4 _ (List.mem_of_getElem? (i := 15) rfl)
theorem kw_4_16 : Cond.methodLink RL 17 yX5_code ∈ wsL_law := inr_4 _ (List.mem_of_getElem? (i := 16) rfl)
theorem kw_4_17 : Cond.instanceMethod yX5_code ∈ wsL_law := inr_4 _ (List.mem_of_getElem? (i := 17) rfl)
theorem kw_4_18 : Cond.selects RX5 yX5_code yX5_code ∈ wsL_law := inr_4 _ (List.mem_of_getElem? (i := 18) rfl)
theorem kw_4_19 : Cond.code yX5_code cX5_code 1 (some .int) ∈ wsL_law := inr_4 _ (List.mem_of_getElem? (i := 19) rfl)
theorem kw_4_20 : Cond.fieldLink RX5 65 "ArrayMakerModel" "code" "I" ∈ wsL_law := inr_4 _ (List.mem_of_getElem? (i := 20) rfl)
theorem kw_4_21 : Cond.methodLink RL 18 yX4_which ∈ wsL_law := inr_4 _ (List.mem_of_getElem? (i := 21) rfl)
theorem kw_4_22 : Cond.instanceMethod yX4_which ∈ wsL_law := inr_4 _ (List.mem_of_getElem? (i := 22) rfl)
theorem kw_4_23 : Cond.selects RX4 yX4_which yX4_which ∈ wsL_law := inr_4 _ (List.mem_of_getElem? (i := 23) rfl)
theorem kw_5_0 : Cond.code yX4_which cX4_which 1 (some .int) ∈ wsL_law := inr_5 _ (List.mem_of_getElem? (i := 0) rfl)
theorem kw_5_1 : Cond.methodLink RL 21 yX5_which ∈ wsL_law := inr_5 _ (List.mem_of_getElem? (i := 1) rfl)
theorem kw_5_2 : Cond.instanceMethod yX5_which ∈ wsL_law := inr_5 _ (List.mem_of_getElem? (i := 2) rfl)
theorem kw_5_3 : Cond.selects RX5 yX5_which yX5_which ∈ wsL_law := inr_5 _ (List.mem_of_getElem? (i := 3) rfl)
theorem kw_5_4 : Cond.code yX5_which cX5_which 1 (some .int) ∈ wsL_law := inr_5 _ (List.mem_of_getElem? (i := 4) rfl)
theorem kw_5_5 : Cond.methodLink RL 22 yX4_range ∈ wsL_law := inr_5 _ (List.mem_of_getElem? (i := 5) rfl)
theorem kw_5_6 : Cond.instanceMethod yX4_range ∈ wsL_law := inr_5 _ (List.mem_of_getElem? (i := 6) rfl)
theorem kw_5_7 : Cond.selects RX4 yX4_range yX4_range ∈ wsL_law := inr_5 _ (List.mem_of_getElem? (i := 7) rfl)
theorem kw_5_8 : Cond.code yX4_range cX4_range 3 (some .int) ∈ wsL_law := inr_5 _ (List.mem_of_getElem? (i := 8) rfl)
theorem kw_5_9 : Cond.fieldLink RX4 51 "ArrayMaker$Shape" "count" "I" ∈ wsL_law := inr_5 _ (List.mem_of_getElem? (i := 9) rfl)
theorem kw_5_10 : Cond.methodLink RX4 54 yX4_stop ∈ wsL_law := inr_5 _ (List.mem_of_getElem? (i := 10) rfl)
theorem kw_5_11 : Cond.instanceMethod yX4_stop ∈ wsL_law := inr_5 _ (List.mem_of_getElem? (i := 11) rfl)
theorem kw_5_12 : Cond.selects RX4 yX4_stop yX4_stop ∈ wsL_law := inr_5 _ (List.mem_of_getElem? (i := 12) rfl)
theorem kw_5_13 : Cond.code yX4_stop cX4_stop 2 (some .int) ∈ wsL_law := inr_5 _ (List.mem_of_getElem? (i := 13) rfl)
theorem kw_5_14 : Cond.methodLink RX4 205 yX4_tell ∈ wsL_law := inr_5 _ (List.mem_of_getElem? (i := 14) rfl)
theorem kw_5_15 : Cond.instanceMethod yX4_tell ∈ wsL_law := inr_5 _ (List.mem_of_getElem? (i := 15) rfl)
theorem kw_5_16 : Cond.selects RX4 yX4_tell yX4_tell ∈ wsL_law := inr_5 _ (List.mem_of_getElem? (i := 16) rfl)
theorem kw_5_17 : Cond.code yX4_tell cX4_tell 3 (some .int) ∈ wsL_law := inr_5 _ (List.mem_of_getElem? (i := 17) rfl)
theorem kw_5_18 : Cond.methodLink RX4 58 yX2_add ∈ wsL_law := inr_5 _ (List.mem_of_getElem? (i := 18) rfl)
theorem kw_5_19 : Cond.instanceMethod yX2_add ∈ wsL_law := inr_5 _ (List.mem_of_getElem? (i := 19) rfl)
theorem kw_5_20 : Cond.selects RX2 yX2_add yX2_add ∈ wsL_law := inr_5 _ (List.mem_of_getElem? (i := 20) rfl)
theorem kw_5_21 : Cond.code yX2_add cX2_add 3 none ∈ wsL_law := inr_5 _ (List.mem_of_getElem? (i := 21) rfl)
theorem kw_5_22 : Cond.fieldLink RX2 18 "ArrayMaker$Shape" "count" "I" ∈ wsL_law := inr_5 _ (List.mem_of_getElem? (i := 22) rfl)
theorem kw_5_23 : Cond.methodLink RX4 62 yX4_done ∈ wsL_law := inr_5 _ (List.mem_of_getElem? (i := 23) rfl)
theorem kw_6_0 : Cond.instanceMethod yX4_done ∈ wsL_law := inr_6 _ (List.mem_of_getElem? (i := 0) rfl)
theorem kw_6_1 : Cond.selects RX4 yX4_done yX4_done ∈ wsL_law := inr_6 _ (List.mem_of_getElem? (i := 1) rfl)
theorem kw_6_2 : Cond.code yX4_done cX4_done 2 (some .int) ∈ wsL_law := inr_6 _ (List.mem_of_getElem? (i := 2) rfl)
theorem kw_6_3 : Cond.methodLink RL 26 yX5_range ∈ wsL_law := inr_6 _ (List.mem_of_getElem? (i := 3) rfl)
theorem kw_6_4 : Cond.instanceMethod yX5_range ∈ wsL_law := inr_6 _ (List.mem_of_getElem? (i := 4) rfl)
theorem kw_6_5 : Cond.selects RX5 yX5_range yX5_range ∈ wsL_law := inr_6 _ (List.mem_of_getElem? (i := 5) rfl)
theorem kw_6_6 : Cond.code yX5_range cX5_range 3 (some .int) ∈ wsL_law := inr_6 _ (List.mem_of_getElem? (i := 6) rfl)
theorem kw_6_7 : Cond.fieldLink RX5 72 "ArrayMakerModel" "dimensions" "I" ∈ wsL_law := inr_6 _ (List.mem_of_getElem? (i := 7) rfl)
theorem kw_6_8 : Cond.methodLink RX5 68 yX5_no ∈ wsL_law := inr_6 _ (List.mem_of_getElem? (i := 8) rfl)
theorem kw_6_9 : Cond.instanceMethod yX5_no ∈ wsL_law := inr_6 _ (List.mem_of_getElem? (i := 9) rfl)
theorem kw_6_10 : Cond.selects RX5 yX5_no yX5_no ∈ wsL_law := inr_6 _ (List.mem_of_getElem? (i := 10) rfl)
theorem kw_6_11 : Cond.code yX5_no cX5_no 2 (some .int) ∈ wsL_law := inr_6 _ (List.mem_of_getElem? (i := 11) rfl)
theorem kw_6_12 : Cond.methodLink RX5 75 yX5_yes ∈ wsL_law := inr_6 _ (List.mem_of_getElem? (i := 12) rfl)
theorem kw_6_13 : Cond.instanceMethod yX5_yes ∈ wsL_law := inr_6 _ (List.mem_of_getElem? (i := 13) rfl)
theorem kw_6_14 : Cond.selects RX5 yX5_yes yX5_yes ∈ wsL_law := inr_6 _ (List.mem_of_getElem? (i := 14) rfl)
theorem kw_6_15 : Cond.code yX5_yes cX5_yes 2 (some .int) ∈ wsL_law := inr_6 _ (List.mem_of_getElem? (i := 15) rfl)
theorem kw_6_16 : Cond.methodLink RL 27 yX4_shapeless ∈ wsL_law := inr_6 _ (List.mem_of_getElem? (i := 16) rfl)
theorem kw_6_17 : Cond.instanceMethod yX4_shapeless ∈ wsL_law := inr_6 _ (List.mem_of_getElem? (i := 17) rfl)
theorem kw_6_18 : Cond.selects RX4 yX4_shapeless yX4_shapeless ∈ wsL_law := inr_6 _ (List.mem_of_getElem? (i := 18) rfl)
theorem kw_6_19 : Cond.code yX4_shapeless cX4_shapeless 2 (some .int) ∈ wsL_law := inr_6 _ (List.mem_of_getElem? (i := 19) rfl)
theorem kw_6_20 : Cond.methodLink RL 30 yX5_shapeless ∈ wsL_law := inr_6 _ (List.mem_of_getElem? (i := 20) rfl)
theorem kw_6_21 : Cond.instanceMethod yX5_shapeless ∈ wsL_law := inr_6 _ (List.mem_of_getElem? (i := 21) rfl)
theorem kw_6_22 : Cond.selects RX5 yX5_shapeless yX5_shapeless ∈ wsL_law := inr_6 _ (List.mem_of_getElem? (i := 22) rfl)
theorem kw_6_23 : Cond.code yX5_shapeless cX5_shapeless 2 (some .int) ∈ wsL_law := inr_6 _ (List.mem_of_getElem? (i := 23) rfl)
theorem kw_7_0 : Cond.methodLink RL 31 yX4_make ∈ wsL_law := inr_7 _ (List.mem_of_getElem? (i := 0) rfl)
theorem kw_7_1 : Cond.instanceMethod yX4_make ∈ wsL_law := inr_7 _ (List.mem_of_getElem? (i := 1) rfl)
theorem kw_7_2 : Cond.selects RX4 yX4_make yX4_make ∈ wsL_law := inr_7 _ (List.mem_of_getElem? (i := 2) rfl)
theorem kw_7_3 : Cond.code yX4_make cX4_make 4 (some .int) ∈ wsL_law := inr_7 _ (List.mem_of_getElem? (i := 3) rfl)
theorem kw_7_4 : Cond.constant RX4 65 (-2000000001) ∈ wsL_law := inr_7 _ (List.mem_of_getElem? (i := 4) rfl)
theorem kw_7_5 : Cond.methodLink RX4 66 yX4_whyNotMade ∈ wsL_law := inr_7 _ (List.mem_of_getElem? (i := 5) rfl)
theorem kw_7_6 : Cond.instanceMethod yX4_whyNotMade ∈ wsL_law := inr_7 _ (List.mem_of_getElem? (i := 6) rfl)
theorem kw_7_7 : Cond.selects RX4 yX4_whyNotMade yX4_whyNotMade ∈ wsL_law := inr_7 _ (List.mem_of_getElem? (i := 7) rfl)
theorem kw_7_8 : Cond.code yX4_whyNotMade cX4_whyNotMade 4 (some .int) ∈ wsL_law := inr_7 _ (List.mem_of_getElem? (i := 8) rfl)
theorem kw_7_9 : Cond.constantLong RX4 238 (500) ∈ wsL_law := inr_7 _ (List.mem_of_getElem? (i := 9) rfl)
theorem kw_7_10 : Cond.methodLink RX4 96 yX2_items ∈ wsL_law := inr_7 _ (List.mem_of_getElem? (i := 10) rfl)
theorem kw_7_11 : Cond.instanceMethod yX2_items ∈ wsL_law := inr_7 _ (List.mem_of_getElem? (i := 11) rfl)
theorem kw_7_12 : Cond.selects RX2 yX2_items yX2_items ∈ wsL_law := inr_7 _ (List.mem_of_getElem? (i := 12) rfl)
theorem kw_7_13 : Cond.code yX2_items cX2_items 4 (some .int) ∈ wsL_law := inr_7 _ (List.mem_of_getElem? (i := 13) rfl)
theorem kw_7_14 : Cond.constantLong RX2 32 (501) ∈ wsL_law := inr_7 _ (List.mem_of_getElem? (i := 14) rfl)
theorem kw_7_15 : Cond.methodLink RX2 34 Lib.MathLoose.min_long.x ∈ wsL_law := inr_7 _ (List.mem_of_getElem? (i := 15) rfl)
theorem kw_7_16 : Cond.static Lib.MathLoose.min_long.x ∈ wsL_law := inr_7 _ (List.mem_of_getElem? (i := 16) rfl)
theorem kw_7_17 : Cond.initialized "java/lang/Math" ∈ wsL_law := inr_7 _ (List.mem_of_getElem? (i := 17) rfl)
theorem kw_7_18 : Cond.code Lib.MathLoose.min_long.x Lib.MathLoose.min_long.code 4 (some .long) ∈ wsL_law := inr_7 _ (List.mem_of_getElem? (i := 18) rfl)
theorem kw_7_19 : Cond.methodLink RX2 37 yX2_length ∈ wsL_law := inr_7 _ (List.mem_of_getElem? (i := 19) rfl)
theorem kw_7_20 : Cond.instanceMethod yX2_length ∈ wsL_law := inr_7 _ (List.mem_of_getElem? (i := 20) rfl)
theorem kw_7_21 : Cond.selects RX2 yX2_length yX2_length ∈ wsL_law := inr_7 _ (List.mem_of_getElem? (i := 21) rfl)
theorem kw_7_22 : Cond.code yX2_length cX2_length 2 (some .long) ∈ wsL_law := inr_7 _ (List.mem_of_getElem? (i := 22) rfl)
theorem kw_7_23 : Cond.methodLink RX2 26 Lib.MathLoose.max_long.x ∈ wsL_law := inr_7 _ (List.mem_of_getElem? (i := 23) rfl)
theorem kw_8_0 : Cond.static Lib.MathLoose.max_long.x ∈ wsL_law := inr_8 _ (List.mem_of_getElem? (i := 0) rfl)
theorem kw_8_1 : Cond.code Lib.MathLoose.max_long.x Lib.MathLoose.max_long.code 4 (some .long) ∈ wsL_law := inr_8 _ (List.mem_of_getElem? (i := 1) rfl)
theorem kw_8_2 : Cond.methodLink RX4 235 yX2_length ∈ wsL_law := inr_8 _ (List.mem_of_getElem? (i := 2) rfl)
theorem kw_8_3 : Cond.methodLink RX4 80 yX4_hasRoom ∈ wsL_law := inr_8 _ (List.mem_of_getElem? (i := 3) rfl)
theorem kw_8_4 : Cond.instanceMethod yX4_hasRoom ∈ wsL_law := inr_8 _ (List.mem_of_getElem? (i := 4) rfl)
theorem kw_8_5 : Cond.selects RX4 yX4_hasRoom yX4_hasRoom ∈ wsL_law := inr_8 _ (List.mem_of_getElem? (i := 5) rfl)
theorem kw_8_6 : Cond.code yX4_hasRoom cX4_hasRoom 3 (some .boolean) ∈ wsL_law := inr_8 _ (List.mem_of_getElem? (i := 6) rfl)
theorem kw_8_7 : Cond.methodLink RX4 147 yX3_reserve ∈ wsL_law := inr_8 _ (List.mem_of_getElem? (i := 7) rfl)
theorem kw_8_8 : Cond.instanceMethod yX3_reserve ∈ wsL_law := inr_8 _ (List.mem_of_getElem? (i := 8) rfl)
theorem kw_8_9 : Cond.selects RX3 yX3_reserve yX3_reserve ∈ wsL_law := inr_8 _ (List.mem_of_getElem? (i := 9) rfl)
theorem kw_8_10 : Cond.code yX3_reserve cX3_reserve 3 (some .boolean) ∈ wsL_law := inr_8 _ (List.mem_of_getElem? (i := 10) rfl)
theorem kw_8_11 : Cond.fieldLink RX3 26 "ArrayMaker$Store" "rowCount" "I" ∈ wsL_law := inr_8 _ (List.mem_of_getElem? (i := 11) rfl)
theorem kw_8_12 : Cond.constant RX3 30 (63200) ∈ wsL_law := inr_8 _ (List.mem_of_getElem? (i := 12) rfl)
theorem kw_8_13 : Cond.fieldLink RX3 31 "ArrayMaker$Store" "cellCount" "I" ∈ wsL_law := inr_8 _ (List.mem_of_getElem? (i := 13) rfl)
theorem kw_8_14 : Cond.methodLink RX3 34 yX3_growRows ∈ wsL_law := inr_8 _ (List.mem_of_getElem? (i := 14) rfl)
theorem kw_8_15 : Cond.instanceMethod yX3_growRows ∈ wsL_law := inr_8 _ (List.mem_of_getElem? (i := 15) rfl)
theorem kw_8_16 : Cond.selects RX3 yX3_growRows yX3_growRows ∈ wsL_law := inr_8 _ (List.mem_of_getElem? (i := 16) rfl)
theorem kw_8_17 : Cond.code yX3_growRows cX3_growRows 3 none ∈ wsL_law := inr_8 _ (List.mem_of_getElem? (i := 17) rfl)
theorem kw_8_18 : Cond.methodLink RX3 41 Lib.Math.max.name ∈ wsL_law := inr_8 _ (List.mem_of_getElem? (i := 18) rfl)
theorem kw_8_19 : Cond.static Lib.Math.max.name ∈ wsL_law := inr_8 _ (List.mem_of_getElem? (i := 19) rfl)
theorem kw_8_20 : Cond.code Lib.Math.max.name Lib.Math.max.code 2 (some .int) ∈ wsL_law := inr_8 _ (List.mem_of_getElem? (i := 20) rfl)
theorem kw_8_21 : Cond.methodLink RX3 47 yJ7_copyOf_59c91 ∈ wsL_law := inr_8 _ (List.mem_of_getElem? (i := 21) rfl)
theorem kw_8_22 : Cond.static yJ7_copyOf_59c91 ∈ wsL_law := inr_8 _ (List.mem_of_getElem? (i := 22) rfl)
theorem kw_8_23 : Cond.initialized RJ7 ∈ wsL_law := inr_8 _ (List.mem_of_getElem? (i := 23) rfl)
theorem kw_9_0 : Cond.code yJ7_copyOf_59c91 cJ7_copyOf_59c91 3 (some (.array .int)) ∈ wsL_law := inr_9 _ (List.mem_of_getElem? (i := 0) rfl)
theorem kw_9_1 : Cond.methodLink RJ7 316 ⟨"[I", "clone", "()Ljava/lang/Object;"⟩ ∈ wsL_law := inr_9 _ (List.mem_of_getElem? (i := 1) rfl)
theorem kw_9_2 : Cond.sameMethod "[I" "java/lang/Object" "clone" "()Ljava/lang/Object;" ∈ wsL_law := inr_9 _ (List.mem_of_getElem? (i := 2) rfl)
theorem kw_9_3 : Cond.native ⟨"java/lang/Object", "clone", "()Ljava/lang/Object;"⟩ ∈ wsL_law := inr_9 _ (List.mem_of_getElem? (i := 3) rfl)
theorem kw_9_4 : Cond.instanceMethod ⟨"java/lang/Object", "clone", "()Ljava/lang/Object;"⟩ ∈ wsL_law := inr_9 _ (List.mem_of_getElem? (i := 4) rfl)
theorem kw_9_5 : Cond.selects "[I" ⟨"[I", "clone", "()Ljava/lang/Object;"⟩ ⟨"java/lang/Object", "clone", "()Ljava/lang/Object;"⟩ ∈ wsL_law := inr_9 _ (List.mem_of_getElem? (i := 5) rfl)
theorem kw_9_6 : Cond.classLink RJ7 317 "[I" ∈ wsL_law := inr_9 _ (List.mem_of_getElem? (i := 6) rfl)
theorem kw_9_7 : Cond.methodLink RJ7 304 Lib.Math.min.name ∈ wsL_law := inr_9 _ (List.mem_of_getElem? (i := 7) rfl)
theorem kw_9_8 : Cond.static Lib.Math.min.name ∈ wsL_law := inr_9 _ (List.mem_of_getElem? (i := 8) rfl)
theorem kw_9_9 : Cond.code Lib.Math.min.name Lib.Math.min.code 2 (some .int) ∈ wsL_law := inr_9 _ (List.mem_of_getElem? (i := 9) rfl)
theorem kw_9_10 : Cond.methodLink RJ7 150 arraycopyName ∈ wsL_law := inr_9 _ (List.mem_of_getElem? (i := 10) rfl)
theorem kw_9_11 : Cond.native arraycopyName ∈ wsL_law := inr_9 _ (List.mem_of_getElem? (i := 11) rfl)
theorem kw_9_12 : Cond.static arraycopyName ∈ wsL_law := inr_9 _ (List.mem_of_getElem? (i := 12) rfl)
theorem kw_9_13 : Cond.initialized "java/lang/System" ∈ wsL_law := inr_9 _ (List.mem_of_getElem? (i := 13) rfl)
theorem kw_9_14 : Cond.methodLink RX3 38 yX3_growCells ∈ wsL_law := inr_9 _ (List.mem_of_getElem? (i := 14) rfl)
theorem kw_9_15 : Cond.instanceMethod yX3_growCells ∈ wsL_law := inr_9 _ (List.mem_of_getElem? (i := 15) rfl)
theorem kw_9_16 : Cond.selects RX3 yX3_growCells yX3_growCells ∈ wsL_law := inr_9 _ (List.mem_of_getElem? (i := 16) rfl)
theorem kw_9_17 : Cond.code yX3_growCells cX3_growCells 4 none ∈ wsL_law := inr_9 _ (List.mem_of_getElem? (i := 17) rfl)
theorem kw_9_18 : Cond.methodLink RX3 56 arraycopyName ∈ wsL_law := inr_9 _ (List.mem_of_getElem? (i := 18) rfl)
theorem kw_9_19 : Cond.methodLink RX3 53 yJ7_copyOf_c38d5 ∈ wsL_law := inr_9 _ (List.mem_of_getElem? (i := 19) rfl)
theorem kw_9_20 : Cond.static yJ7_copyOf_c38d5 ∈ wsL_law := inr_9 _ (List.mem_of_getElem? (i := 20) rfl)
theorem kw_9_21 : Cond.code yJ7_copyOf_c38d5 cJ7_copyOf_c38d5 3 (some (.array .long)) ∈ wsL_law := inr_9 _ (List.mem_of_getElem? (i := 21) rfl)
theorem kw_9_22 : Cond.methodLink RJ7 319 ⟨"[J", "clone", "()Ljava/lang/Object;"⟩ ∈ wsL_law := inr_9 _ (List.mem_of_getElem? (i := 22) rfl)
theorem kw_9_23 : Cond.sameMethod "[J" "java/lang/Object" "clone" "()Ljava/lang/Object;" ∈ wsL_law := inr_9 _ (List.mem_of_getElem? (i := 23) rfl)
theorem kw_10_0 : Cond.selects "[J" ⟨"[J", "clone", "()Ljava/lang/Object;"⟩ ⟨"java/lang/Object", "clone", "()Ljava/lang/Object;"⟩ ∈ wsL_law := inr_10 _ (List.mem_of_getElem? (i := 0) rfl)
theorem kw_10_1 : Cond.classLink RJ7 320 "[J" ∈ wsL_law := inr_10 _ (List.mem_of_getElem? (i := 1) rfl)
theorem kw_10_2 : Cond.methodLink RX4 69 yX4_nextArrayIn ∈ wsL_law := inr_10 _ (List.mem_of_getElem? (i := 2) rfl)
theorem kw_10_3 : Cond.instanceMethod yX4_nextArrayIn ∈ wsL_law := inr_10 _ (List.mem_of_getElem? (i := 3) rfl)
theorem kw_10_4 : Cond.selects RX4 yX4_nextArrayIn yX4_nextArrayIn ∈ wsL_law := inr_10 _ (List.mem_of_getElem? (i := 4) rfl)
theorem kw_10_5 : Cond.code yX4_nextArrayIn cX4_nextArrayIn 4 (some (.object "ArrayMaker$MadeArray")) ∈ wsL_law := inr_10 _ (List.mem_of_getElem? (i := 5) rfl)
theorem kw_10_6 : Cond.fieldLink RX4 88 "ArrayMaker$MadeArray" "shape" "LArrayMaker$Shape;" ∈ wsL_law := inr_10 _ (List.mem_of_getElem? (i := 6) rfl)
theorem kw_10_7 : Cond.methodLink RX4 84 yX4_nextArray ∈ wsL_law := inr_10 _ (List.mem_of_getElem? (i := 7) rfl)
theorem kw_10_8 : Cond.instanceMethod yX4_nextArray ∈ wsL_law := inr_10 _ (List.mem_of_getElem? (i := 8) rfl)
theorem kw_10_9 : Cond.selects RX4 yX4_nextArray yX4_nextArray ∈ wsL_law := inr_10 _ (List.mem_of_getElem? (i := 9) rfl)
theorem kw_10_10 : Cond.code yX4_nextArray cX4_nextArray 3 (some (.object "ArrayMaker$MadeArray")) ∈ wsL_law := inr_10 _ (List.mem_of_getElem? (i := 10) rfl)
theorem kw_10_11 : Cond.fieldLink RX4 106 "ArrayMaker$MadeArray" "kind" "I" ∈ wsL_law := inr_10 _ (List.mem_of_getElem? (i := 11) rfl)
theorem kw_10_12 : Cond.fieldLink RX4 100 "ArrayMaker$MadeArray" "row" "I" ∈ wsL_law := inr_10 _ (List.mem_of_getElem? (i := 12) rfl)
theorem kw_10_13 : Cond.methodLink RX4 240 yX2_addAll ∈ wsL_law := inr_10 _ (List.mem_of_getElem? (i := 13) rfl)
theorem kw_10_14 : Cond.instanceMethod yX2_addAll ∈ wsL_law := inr_10 _ (List.mem_of_getElem? (i := 14) rfl)
theorem kw_10_15 : Cond.selects RX2 yX2_addAll yX2_addAll ∈ wsL_law := inr_10 _ (List.mem_of_getElem? (i := 15) rfl)
theorem kw_10_16 : Cond.code yX2_addAll cX2_addAll 3 none ∈ wsL_law := inr_10 _ (List.mem_of_getElem? (i := 16) rfl)
theorem kw_10_17 : Cond.methodLink RX2 22 yX2_add ∈ wsL_law := inr_10 _ (List.mem_of_getElem? (i := 17) rfl)
theorem kw_10_18 : Cond.methodLink RX4 73 yX4_addTableRows ∈ wsL_law := inr_10 _ (List.mem_of_getElem? (i := 18) rfl)
theorem kw_10_19 : Cond.instanceMethod yX4_addTableRows ∈ wsL_law := inr_10 _ (List.mem_of_getElem? (i := 19) rfl)
theorem kw_10_20 : Cond.selects RX4 yX4_addTableRows yX4_addTableRows ∈ wsL_law := inr_10 _ (List.mem_of_getElem? (i := 20) rfl)
theorem kw_10_21 : Cond.code yX4_addTableRows cX4_addTableRows 5 none ∈ wsL_law := inr_10 _ (List.mem_of_getElem? (i := 21) rfl)
theorem kw_10_22 : Cond.fieldLink RX4 133 "ArrayMaker$MadeArray" "rows" "[I" ∈ wsL_law := inr_10 _ (List.mem_of_getElem? (i := 22) rfl)
theorem kw_10_23 : Cond.methodLink RX4 130 yX1_rowCount ∈ wsL_law := inr_10 _ (List.mem_of_getElem? (i := 23) rfl)
theorem kw_11_0 : Cond.instanceMethod yX1_rowCount ∈ wsL_law := inr_11 _ (List.mem_of_getElem? (i := 0) rfl)
theorem kw_11_1 : Cond.selects RX1 yX1_rowCount yX1_rowCount ∈ wsL_law := inr_11 _ (List.mem_of_getElem? (i := 1) rfl)
theorem kw_11_2 : Cond.code yX1_rowCount cX1_rowCount 1 (some .int) ∈ wsL_law := inr_11 _ (List.mem_of_getElem? (i := 2) rfl)
theorem kw_11_3 : Cond.methodLink RX1 26 yX2_length ∈ wsL_law := inr_11 _ (List.mem_of_getElem? (i := 3) rfl)
theorem kw_11_4 : Cond.methodLink RX4 154 yX3_addRow ∈ wsL_law := inr_11 _ (List.mem_of_getElem? (i := 4) rfl)
theorem kw_11_5 : Cond.instanceMethod yX3_addRow ∈ wsL_law := inr_11 _ (List.mem_of_getElem? (i := 5) rfl)
theorem kw_11_6 : Cond.selects RX3 yX3_addRow yX3_addRow ∈ wsL_law := inr_11 _ (List.mem_of_getElem? (i := 6) rfl)
theorem kw_11_7 : Cond.code yX3_addRow cX3_addRow 5 (some .int) ∈ wsL_law := inr_11 _ (List.mem_of_getElem? (i := 7) rfl)
theorem kw_11_8 : Cond.methodLink RX4 77 yX4_addOwnRow ∈ wsL_law := inr_11 _ (List.mem_of_getElem? (i := 8) rfl)
theorem kw_11_9 : Cond.instanceMethod yX4_addOwnRow ∈ wsL_law := inr_11 _ (List.mem_of_getElem? (i := 9) rfl)
theorem kw_11_10 : Cond.selects RX4 yX4_addOwnRow yX4_addOwnRow ∈ wsL_law := inr_11 _ (List.mem_of_getElem? (i := 10) rfl)
theorem kw_11_11 : Cond.code yX4_addOwnRow cX4_addOwnRow 2 none ∈ wsL_law := inr_11 _ (List.mem_of_getElem? (i := 11) rfl)
theorem kw_11_12 : Cond.methodLink RL 35 yX5_make ∈ wsL_law := inr_11 _ (List.mem_of_getElem? (i := 12) rfl)
theorem kw_11_13 : Cond.instanceMethod yX5_make ∈ wsL_law := inr_11 _ (List.mem_of_getElem? (i := 13) rfl)
theorem kw_11_14 : Cond.selects RX5 yX5_make yX5_make ∈ wsL_law := inr_11 _ (List.mem_of_getElem? (i := 14) rfl)
theorem kw_11_15 : Cond.code yX5_make cX5_make 4 (some .int) ∈ wsL_law := inr_11 _ (List.mem_of_getElem? (i := 15) rfl)
theorem kw_11_16 : Cond.constantLong RX5 114 (4) ∈ wsL_law := inr_11 _ (List.mem_of_getElem? (i := 16) rfl)
theorem kw_11_17 : Cond.constant RX5 116 (-2000000001) ∈ wsL_law := inr_11 _ (List.mem_of_getElem? (i := 17) rfl)
theorem kw_11_18 : Cond.constantLong RX5 82 (500) ∈ wsL_law := inr_11 _ (List.mem_of_getElem? (i := 18) rfl)
theorem kw_11_19 : Cond.fieldLink RX5 98 "ArrayMakerModel" "arrays" "I" ∈ wsL_law := inr_11 _ (List.mem_of_getElem? (i := 19) rfl)
theorem kw_11_20 : Cond.methodLink RX5 101 yX5_within ∈ wsL_law := inr_11 _ (List.mem_of_getElem? (i := 20) rfl)
theorem kw_11_21 : Cond.static yX5_within ∈ wsL_law := inr_11 _ (List.mem_of_getElem? (i := 21) rfl)
theorem kw_11_22 : Cond.code yX5_within cX5_within 6 (some .boolean) ∈ wsL_law := inr_11 _ (List.mem_of_getElem? (i := 22) rfl)
theorem kw_11_23 : Cond.methodLink RX5 117 yX5_shapeItems ∈ wsL_law := inr_11 _ (List.mem_of_getElem? (i := 23) rfl)
theorem kw_12_0 : Cond.instanceMethod yX5_shapeItems ∈ wsL_law := inr_12 _ (List.mem_of_getElem? (i := 0) rfl)
theorem kw_12_1 : Cond.selects RX5 yX5_shapeItems yX5_shapeItems ∈ wsL_law := inr_12 _ (List.mem_of_getElem? (i := 1) rfl)
theorem kw_12_2 : Cond.code yX5_shapeItems cX5_shapeItems 7 (some .int) ∈ wsL_law := inr_12 _ (List.mem_of_getElem? (i := 2) rfl)
theorem kw_12_3 : Cond.constantLong RX5 84 (501) ∈ wsL_law := inr_12 _ (List.mem_of_getElem? (i := 3) rfl)
theorem kw_12_4 : Cond.methodLink RX5 78 yX5_length ∈ wsL_law := inr_12 _ (List.mem_of_getElem? (i := 4) rfl)
theorem kw_12_5 : Cond.static yX5_length ∈ wsL_law := inr_12 _ (List.mem_of_getElem? (i := 5) rfl)
theorem kw_12_6 : Cond.code yX5_length cX5_length 4 (some .long) ∈ wsL_law := inr_12 _ (List.mem_of_getElem? (i := 6) rfl)
theorem kw_12_7 : Cond.methodLink RX5 121 yX5_newArray ∈ wsL_law := inr_12 _ (List.mem_of_getElem? (i := 7) rfl)
theorem kw_12_8 : Cond.instanceMethod yX5_newArray ∈ wsL_law := inr_12 _ (List.mem_of_getElem? (i := 8) rfl)
theorem kw_12_9 : Cond.selects RX5 yX5_newArray yX5_newArray ∈ wsL_law := inr_12 _ (List.mem_of_getElem? (i := 9) rfl)
theorem kw_12_10 : Cond.code yX5_newArray cX5_newArray 4 (some .int) ∈ wsL_law := inr_12 _ (List.mem_of_getElem? (i := 10) rfl)
theorem kw_12_11 : Cond.methodLink RX5 125 yX5_newTable ∈ wsL_law := inr_12 _ (List.mem_of_getElem? (i := 11) rfl)
theorem kw_12_12 : Cond.instanceMethod yX5_newTable ∈ wsL_law := inr_12 _ (List.mem_of_getElem? (i := 12) rfl)
theorem kw_12_13 : Cond.selects RX5 yX5_newTable yX5_newTable ∈ wsL_law := inr_12 _ (List.mem_of_getElem? (i := 13) rfl)
theorem kw_12_14 : Cond.code yX5_newTable cX5_newTable 5 none ∈ wsL_law := inr_12 _ (List.mem_of_getElem? (i := 14) rfl)
theorem kw_12_15 : Cond.fieldLink RX5 105 "ArrayMakerModel" "slots" "I" ∈ wsL_law := inr_12 _ (List.mem_of_getElem? (i := 15) rfl)
theorem kw_12_16 : Cond.methodLink RX5 108 yX5_lengthOf ∈ wsL_law := inr_12 _ (List.mem_of_getElem? (i := 16) rfl)
theorem kw_12_17 : Cond.instanceMethod yX5_lengthOf ∈ wsL_law := inr_12 _ (List.mem_of_getElem? (i := 17) rfl)
theorem kw_12_18 : Cond.selects RX5 yX5_lengthOf yX5_lengthOf ∈ wsL_law := inr_12 _ (List.mem_of_getElem? (i := 18) rfl)
theorem kw_12_19 : Cond.code yX5_lengthOf cX5_lengthOf 3 (some .long) ∈ wsL_law := inr_12 _ (List.mem_of_getElem? (i := 19) rfl)
theorem kw_12_20 : Cond.methodLink RX5 111 yX5_newRow ∈ wsL_law := inr_12 _ (List.mem_of_getElem? (i := 20) rfl)
theorem kw_12_21 : Cond.instanceMethod yX5_newRow ∈ wsL_law := inr_12 _ (List.mem_of_getElem? (i := 21) rfl)
theorem kw_12_22 : Cond.selects RX5 yX5_newRow yX5_newRow ∈ wsL_law := inr_12 _ (List.mem_of_getElem? (i := 22) rfl)
theorem kw_12_23 : Cond.code yX5_newRow cX5_newRow 3 (some .int) ∈ wsL_law := inr_12 _ (List.mem_of_getElem? (i := 23) rfl)
theorem kw_13_0 : Cond.fieldLink RX5 86 "ArrayMakerModel" "rows" "I" ∈ wsL_law := inr_13 _ (List.mem_of_getElem? (i := 0) rfl)
theorem kw_13_1 : Cond.fieldLink RX5 89 "ArrayMakerModel" "pooled" "I" ∈ wsL_law := inr_13 _ (List.mem_of_getElem? (i := 1) rfl)
theorem kw_13_2 : Cond.methodLink RL 36 yX4_raw ∈ wsL_law := inr_13 _ (List.mem_of_getElem? (i := 2) rfl)
theorem kw_13_3 : Cond.instanceMethod yX4_raw ∈ wsL_law := inr_13 _ (List.mem_of_getElem? (i := 3) rfl)
theorem kw_13_4 : Cond.selects RX4 yX4_raw yX4_raw ∈ wsL_law := inr_13 _ (List.mem_of_getElem? (i := 4) rfl)
theorem kw_13_5 : Cond.code yX4_raw cX4_raw 4 (some .int) ∈ wsL_law := inr_13 _ (List.mem_of_getElem? (i := 5) rfl)
theorem kw_13_6 : Cond.methodLink RL 39 yX5_raw ∈ wsL_law := inr_13 _ (List.mem_of_getElem? (i := 6) rfl)
theorem kw_13_7 : Cond.instanceMethod yX5_raw ∈ wsL_law := inr_13 _ (List.mem_of_getElem? (i := 7) rfl)
theorem kw_13_8 : Cond.selects RX5 yX5_raw yX5_raw ∈ wsL_law := inr_13 _ (List.mem_of_getElem? (i := 8) rfl)
theorem kw_13_9 : Cond.code yX5_raw cX5_raw 3 (some .int) ∈ wsL_law := inr_13 _ (List.mem_of_getElem? (i := 9) rfl)
theorem kw_13_10 : Cond.constantLong RX5 129 (3) ∈ wsL_law := inr_13 _ (List.mem_of_getElem? (i := 10) rfl)
theorem kw_13_11 : Cond.methodLink RL 40 yX4_see ∈ wsL_law := inr_13 _ (List.mem_of_getElem? (i := 11) rfl)
theorem kw_13_12 : Cond.instanceMethod yX4_see ∈ wsL_law := inr_13 _ (List.mem_of_getElem? (i := 12) rfl)
theorem kw_13_13 : Cond.selects RX4 yX4_see yX4_see ∈ wsL_law := inr_13 _ (List.mem_of_getElem? (i := 13) rfl)
theorem kw_13_14 : Cond.code yX4_see cX4_see 4 (some .int) ∈ wsL_law := inr_13 _ (List.mem_of_getElem? (i := 14) rfl)
theorem kw_13_15 : Cond.methodLink RX4 89 yX4_arrayOf ∈ wsL_law := inr_13 _ (List.mem_of_getElem? (i := 15) rfl)
theorem kw_13_16 : Cond.instanceMethod yX4_arrayOf ∈ wsL_law := inr_13 _ (List.mem_of_getElem? (i := 16) rfl)
theorem kw_13_17 : Cond.selects RX4 yX4_arrayOf yX4_arrayOf ∈ wsL_law := inr_13 _ (List.mem_of_getElem? (i := 17) rfl)
theorem kw_13_18 : Cond.code yX4_arrayOf cX4_arrayOf 2 (some (.object "ArrayMaker$MadeArray")) ∈ wsL_law := inr_13 _ (List.mem_of_getElem? (i := 18) rfl)
theorem kw_13_19 : Cond.methodLink RX4 92 yX4_whyNoRow ∈ wsL_law := inr_13 _ (List.mem_of_getElem? (i := 19) rfl)
theorem kw_13_20 : Cond.instanceMethod yX4_whyNoRow ∈ wsL_law := inr_13 _ (List.mem_of_getElem? (i := 20) rfl)
theorem kw_13_21 : Cond.selects RX4 yX4_whyNoRow yX4_whyNoRow ∈ wsL_law := inr_13 _ (List.mem_of_getElem? (i := 21) rfl)
theorem kw_13_22 : Cond.code yX4_whyNoRow cX4_whyNoRow 2 (some .int) ∈ wsL_law := inr_13 _ (List.mem_of_getElem? (i := 22) rfl)
theorem kw_13_23 : Cond.methodLink RX4 103 yX3_lengthOf ∈ wsL_law := inr_13 _ (List.mem_of_getElem? (i := 23) rfl)
theorem kw_14_0 : Cond.instanceMethod yX3_lengthOf ∈ wsL_law := inr_14 _ (List.mem_of_getElem? (i := 0) rfl)
theorem kw_14_1 : Cond.selects RX3 yX3_lengthOf yX3_lengthOf ∈ wsL_law := inr_14 _ (List.mem_of_getElem? (i := 1) rfl)
theorem kw_14_2 : Cond.code yX3_lengthOf cX3_lengthOf 2 (some .int) ∈ wsL_law := inr_14 _ (List.mem_of_getElem? (i := 2) rfl)
theorem kw_14_3 : Cond.methodLink RL 43 yX5_see ∈ wsL_law := inr_14 _ (List.mem_of_getElem? (i := 3) rfl)
theorem kw_14_4 : Cond.instanceMethod yX5_see ∈ wsL_law := inr_14 _ (List.mem_of_getElem? (i := 4) rfl)
theorem kw_14_5 : Cond.selects RX5 yX5_see yX5_see ∈ wsL_law := inr_14 _ (List.mem_of_getElem? (i := 5) rfl)
theorem kw_14_6 : Cond.code yX5_see cX5_see 4 (some .int) ∈ wsL_law := inr_14 _ (List.mem_of_getElem? (i := 6) rfl)
theorem kw_14_7 : Cond.methodLink RX5 135 yX5_wants ∈ wsL_law := inr_14 _ (List.mem_of_getElem? (i := 7) rfl)
theorem kw_14_8 : Cond.instanceMethod yX5_wants ∈ wsL_law := inr_14 _ (List.mem_of_getElem? (i := 8) rfl)
theorem kw_14_9 : Cond.selects RX5 yX5_wants yX5_wants ∈ wsL_law := inr_14 _ (List.mem_of_getElem? (i := 9) rfl)
theorem kw_14_10 : Cond.code yX5_wants cX5_wants 2 (some .int) ∈ wsL_law := inr_14 _ (List.mem_of_getElem? (i := 10) rfl)
theorem kw_14_11 : Cond.methodLink RX5 131 yX5_isArray ∈ wsL_law := inr_14 _ (List.mem_of_getElem? (i := 11) rfl)
theorem kw_14_12 : Cond.instanceMethod yX5_isArray ∈ wsL_law := inr_14 _ (List.mem_of_getElem? (i := 12) rfl)
theorem kw_14_13 : Cond.selects RX5 yX5_isArray yX5_isArray ∈ wsL_law := inr_14 _ (List.mem_of_getElem? (i := 13) rfl)
theorem kw_14_14 : Cond.code yX5_isArray cX5_isArray 2 (some .boolean) ∈ wsL_law := inr_14 _ (List.mem_of_getElem? (i := 14) rfl)
theorem kw_14_15 : Cond.methodLink RL 44 yX4_turn ∈ wsL_law := inr_14 _ (List.mem_of_getElem? (i := 15) rfl)
theorem kw_14_16 : Cond.instanceMethod yX4_turn ∈ wsL_law := inr_14 _ (List.mem_of_getElem? (i := 16) rfl)
theorem kw_14_17 : Cond.selects RX4 yX4_turn yX4_turn ∈ wsL_law := inr_14 _ (List.mem_of_getElem? (i := 17) rfl)
theorem kw_14_18 : Cond.code yX4_turn cX4_turn 5 (some .int) ∈ wsL_law := inr_14 _ (List.mem_of_getElem? (i := 18) rfl)
theorem kw_14_19 : Cond.methodLink RX4 109 yX4_findTurned ∈ wsL_law := inr_14 _ (List.mem_of_getElem? (i := 19) rfl)
theorem kw_14_20 : Cond.instanceMethod yX4_findTurned ∈ wsL_law := inr_14 _ (List.mem_of_getElem? (i := 20) rfl)
theorem kw_14_21 : Cond.selects RX4 yX4_findTurned yX4_findTurned ∈ wsL_law := inr_14 _ (List.mem_of_getElem? (i := 21) rfl)
theorem kw_14_22 : Cond.code yX4_findTurned cX4_findTurned 10 none ∈ wsL_law := inr_14 _ (List.mem_of_getElem? (i := 22) rfl)
theorem kw_14_23 : Cond.methodLink RX4 127 yX3_startOf ∈ wsL_law := inr_14 _ (List.mem_of_getElem? (i := 23) rfl)
theorem kw_15_0 : Cond.instanceMethod yX3_startOf ∈ wsL_law := inr_15 _ (List.mem_of_getElem? (i := 0) rfl)
theorem kw_15_1 : Cond.selects RX3 yX3_startOf yX3_startOf ∈ wsL_law := inr_15 _ (List.mem_of_getElem? (i := 1) rfl)
theorem kw_15_2 : Cond.code yX3_startOf cX3_startOf 2 (some .int) ∈ wsL_law := inr_15 _ (List.mem_of_getElem? (i := 2) rfl)
theorem kw_15_3 : Cond.methodLink RX4 112 yX2_swapFirstTwo ∈ wsL_law := inr_15 _ (List.mem_of_getElem? (i := 3) rfl)
theorem kw_15_4 : Cond.instanceMethod yX2_swapFirstTwo ∈ wsL_law := inr_15 _ (List.mem_of_getElem? (i := 4) rfl)
theorem kw_15_5 : Cond.selects RX2 yX2_swapFirstTwo yX2_swapFirstTwo ∈ wsL_law := inr_15 _ (List.mem_of_getElem? (i := 5) rfl)
theorem kw_15_6 : Cond.code yX2_swapFirstTwo cX2_swapFirstTwo 3 none ∈ wsL_law := inr_15 _ (List.mem_of_getElem? (i := 6) rfl)
theorem kw_15_7 : Cond.methodLink RX4 115 yX4_copySources ∈ wsL_law := inr_15 _ (List.mem_of_getElem? (i := 7) rfl)
theorem kw_15_8 : Cond.instanceMethod yX4_copySources ∈ wsL_law := inr_15 _ (List.mem_of_getElem? (i := 8) rfl)
theorem kw_15_9 : Cond.selects RX4 yX4_copySources yX4_copySources ∈ wsL_law := inr_15 _ (List.mem_of_getElem? (i := 9) rfl)
theorem kw_15_10 : Cond.code yX4_copySources cX4_copySources 4 none ∈ wsL_law := inr_15 _ (List.mem_of_getElem? (i := 10) rfl)
theorem kw_15_11 : Cond.methodLink RX4 136 yX3_copyCells ∈ wsL_law := inr_15 _ (List.mem_of_getElem? (i := 11) rfl)
theorem kw_15_12 : Cond.instanceMethod yX3_copyCells ∈ wsL_law := inr_15 _ (List.mem_of_getElem? (i := 12) rfl)
theorem kw_15_13 : Cond.selects RX3 yX3_copyCells yX3_copyCells ∈ wsL_law := inr_15 _ (List.mem_of_getElem? (i := 13) rfl)
theorem kw_15_14 : Cond.code yX3_copyCells cX3_copyCells 5 none ∈ wsL_law := inr_15 _ (List.mem_of_getElem? (i := 14) rfl)
theorem kw_15_15 : Cond.methodLink RL 47 yX5_turn ∈ wsL_law := inr_15 _ (List.mem_of_getElem? (i := 15) rfl)
theorem kw_15_16 : Cond.instanceMethod yX5_turn ∈ wsL_law := inr_15 _ (List.mem_of_getElem? (i := 16) rfl)
theorem kw_15_17 : Cond.selects RX5 yX5_turn yX5_turn ∈ wsL_law := inr_15 _ (List.mem_of_getElem? (i := 17) rfl)
theorem kw_15_18 : Cond.code yX5_turn cX5_turn 12 (some .int) ∈ wsL_law := inr_15 _ (List.mem_of_getElem? (i := 18) rfl)
theorem kw_15_19 : Cond.methodLink RX5 138 yX5_copy ∈ wsL_law := inr_15 _ (List.mem_of_getElem? (i := 19) rfl)
theorem kw_15_20 : Cond.instanceMethod yX5_copy ∈ wsL_law := inr_15 _ (List.mem_of_getElem? (i := 20) rfl)
theorem kw_15_21 : Cond.selects RX5 yX5_copy yX5_copy ∈ wsL_law := inr_15 _ (List.mem_of_getElem? (i := 21) rfl)
theorem kw_15_22 : Cond.code yX5_copy cX5_copy 3 none ∈ wsL_law := inr_15 _ (List.mem_of_getElem? (i := 22) rfl)
theorem kw_15_23 : Cond.methodLink RL 48 yX4_cut ∈ wsL_law := inr_15 _ (List.mem_of_getElem? (i := 23) rfl)
theorem kw_16_0 : Cond.instanceMethod yX4_cut ∈ wsL_law := inr_16 _ (List.mem_of_getElem? (i := 0) rfl)
theorem kw_16_1 : Cond.selects RX4 yX4_cut yX4_cut ∈ wsL_law := inr_16 _ (List.mem_of_getElem? (i := 1) rfl)
theorem kw_16_2 : Cond.code yX4_cut cX4_cut 7 (some .int) ∈ wsL_law := inr_16 _ (List.mem_of_getElem? (i := 2) rfl)
theorem kw_16_3 : Cond.methodLink RX4 118 yX4_findCut ∈ wsL_law := inr_16 _ (List.mem_of_getElem? (i := 3) rfl)
theorem kw_16_4 : Cond.instanceMethod yX4_findCut ∈ wsL_law := inr_16 _ (List.mem_of_getElem? (i := 4) rfl)
theorem kw_16_5 : Cond.selects RX4 yX4_findCut yX4_findCut ∈ wsL_law := inr_16 _ (List.mem_of_getElem? (i := 5) rfl)
theorem kw_16_6 : Cond.code yX4_findCut cX4_findCut 11 (some .int) ∈ wsL_law := inr_16 _ (List.mem_of_getElem? (i := 6) rfl)
theorem kw_16_7 : Cond.fieldLink RX4 219 "ArrayMaker$Shape" "low" "[I" ∈ wsL_law := inr_16 _ (List.mem_of_getElem? (i := 7) rfl)
theorem kw_16_8 : Cond.methodLink RX4 244 yX2_firstBeyond ∈ wsL_law := inr_16 _ (List.mem_of_getElem? (i := 8) rfl)
theorem kw_16_9 : Cond.instanceMethod yX2_firstBeyond ∈ wsL_law := inr_16 _ (List.mem_of_getElem? (i := 9) rfl)
theorem kw_16_10 : Cond.selects RX2 yX2_firstBeyond yX2_firstBeyond ∈ wsL_law := inr_16 _ (List.mem_of_getElem? (i := 10) rfl)
theorem kw_16_11 : Cond.code yX2_firstBeyond cX2_firstBeyond 5 (some .int) ∈ wsL_law := inr_16 _ (List.mem_of_getElem? (i := 11) rfl)
theorem kw_16_12 : Cond.methodLink RX2 41 yX2_indexOf ∈ wsL_law := inr_16 _ (List.mem_of_getElem? (i := 12) rfl)
theorem kw_16_13 : Cond.static yX2_indexOf ∈ wsL_law := inr_16 _ (List.mem_of_getElem? (i := 13) rfl)
theorem kw_16_14 : Cond.code yX2_indexOf cX2_indexOf 4 (some .int) ∈ wsL_law := inr_16 _ (List.mem_of_getElem? (i := 14) rfl)
theorem kw_16_15 : Cond.methodLink RX2 45 yX2_holds ∈ wsL_law := inr_16 _ (List.mem_of_getElem? (i := 15) rfl)
theorem kw_16_16 : Cond.instanceMethod yX2_holds ∈ wsL_law := inr_16 _ (List.mem_of_getElem? (i := 16) rfl)
theorem kw_16_17 : Cond.selects RX2 yX2_holds yX2_holds ∈ wsL_law := inr_16 _ (List.mem_of_getElem? (i := 17) rfl)
theorem kw_16_18 : Cond.code yX2_holds cX2_holds 3 (some .boolean) ∈ wsL_law := inr_16 _ (List.mem_of_getElem? (i := 18) rfl)
theorem kw_16_19 : Cond.methodLink RX4 248 yX2_place ∈ wsL_law := inr_16 _ (List.mem_of_getElem? (i := 19) rfl)
theorem kw_16_20 : Cond.instanceMethod yX2_place ∈ wsL_law := inr_16 _ (List.mem_of_getElem? (i := 20) rfl)
theorem kw_16_21 : Cond.selects RX2 yX2_place yX2_place ∈ wsL_law := inr_16 _ (List.mem_of_getElem? (i := 21) rfl)
theorem kw_16_22 : Cond.code yX2_place cX2_place 6 (some .int) ∈ wsL_law := inr_16 _ (List.mem_of_getElem? (i := 22) rfl)
theorem kw_16_23 : Cond.methodLink RX2 49 yX2_offset ∈ wsL_law := inr_16 _ (List.mem_of_getElem? (i := 23) rfl)
theorem kw_17_0 : Cond.instanceMethod yX2_offset ∈ wsL_law := inr_17 _ (List.mem_of_getElem? (i := 0) rfl)
theorem kw_17_1 : Cond.selects RX2 yX2_offset yX2_offset ∈ wsL_law := inr_17 _ (List.mem_of_getElem? (i := 1) rfl)
theorem kw_17_2 : Cond.code yX2_offset cX2_offset 3 (some .int) ∈ wsL_law := inr_17 _ (List.mem_of_getElem? (i := 2) rfl)
theorem kw_17_3 : Cond.methodLink RX4 121 yX4_stopBeyond ∈ wsL_law := inr_17 _ (List.mem_of_getElem? (i := 3) rfl)
theorem kw_17_4 : Cond.instanceMethod yX4_stopBeyond ∈ wsL_law := inr_17 _ (List.mem_of_getElem? (i := 4) rfl)
theorem kw_17_5 : Cond.selects RX4 yX4_stopBeyond yX4_stopBeyond ∈ wsL_law := inr_17 _ (List.mem_of_getElem? (i := 5) rfl)
theorem kw_17_6 : Cond.code yX4_stopBeyond cX4_stopBeyond 2 (some .int) ∈ wsL_law := inr_17 _ (List.mem_of_getElem? (i := 6) rfl)
theorem kw_17_7 : Cond.methodLink RL 51 yX5_cut ∈ wsL_law := inr_17 _ (List.mem_of_getElem? (i := 7) rfl)
theorem kw_17_8 : Cond.instanceMethod yX5_cut ∈ wsL_law := inr_17 _ (List.mem_of_getElem? (i := 8) rfl)
theorem kw_17_9 : Cond.selects RX5 yX5_cut yX5_cut ∈ wsL_law := inr_17 _ (List.mem_of_getElem? (i := 9) rfl)
theorem kw_17_10 : Cond.code yX5_cut cX5_cut 9 (some .int) ∈ wsL_law := inr_17 _ (List.mem_of_getElem? (i := 10) rfl)
theorem kw_17_11 : Cond.fieldLink RX5 142 "ArrayMakerModel" "beyond" "I" ∈ wsL_law := inr_17 _ (List.mem_of_getElem? (i := 11) rfl)
theorem kw_17_12 : Cond.methodLink RX5 145 yX5_index ∈ wsL_law := inr_17 _ (List.mem_of_getElem? (i := 12) rfl)
theorem kw_17_13 : Cond.static yX5_index ∈ wsL_law := inr_17 _ (List.mem_of_getElem? (i := 13) rfl)
theorem kw_17_14 : Cond.code yX5_index cX5_index 2 (some .int) ∈ wsL_law := inr_17 _ (List.mem_of_getElem? (i := 14) rfl)
theorem kw_17_15 : Cond.methodLink RX5 148 yX5_placeOf ∈ wsL_law := inr_17 _ (List.mem_of_getElem? (i := 15) rfl)
theorem kw_17_16 : Cond.instanceMethod yX5_placeOf ∈ wsL_law := inr_17 _ (List.mem_of_getElem? (i := 16) rfl)
theorem kw_17_17 : Cond.selects RX5 yX5_placeOf yX5_placeOf ∈ wsL_law := inr_17 _ (List.mem_of_getElem? (i := 17) rfl)
theorem kw_17_18 : Cond.code yX5_placeOf cX5_placeOf 9 (some .int) ∈ wsL_law := inr_17 _ (List.mem_of_getElem? (i := 18) rfl)
theorem kw_17_19 : Cond.methodLink RX5 152 yX5_noItem ∈ wsL_law := inr_17 _ (List.mem_of_getElem? (i := 19) rfl)
theorem kw_17_20 : Cond.instanceMethod yX5_noItem ∈ wsL_law := inr_17 _ (List.mem_of_getElem? (i := 20) rfl)
theorem kw_17_21 : Cond.selects RX5 yX5_noItem yX5_noItem ∈ wsL_law := inr_17 _ (List.mem_of_getElem? (i := 21) rfl)
theorem kw_17_22 : Cond.code yX5_noItem cX5_noItem 2 (some .int) ∈ wsL_law := inr_17 _ (List.mem_of_getElem? (i := 22) rfl)
theorem kw_17_23 : Cond.methodLink RL 52 yX4_deep ∈ wsL_law := inr_17 _ (List.mem_of_getElem? (i := 23) rfl)
theorem kw_18_0 : Cond.instanceMethod yX4_deep ∈ wsL_law := inr_18 _ (List.mem_of_getElem? (i := 0) rfl)
theorem kw_18_1 : Cond.selects RX4 yX4_deep yX4_deep ∈ wsL_law := inr_18 _ (List.mem_of_getElem? (i := 1) rfl)
theorem kw_18_2 : Cond.code yX4_deep cX4_deep 8 (some .int) ∈ wsL_law := inr_18 _ (List.mem_of_getElem? (i := 2) rfl)
theorem kw_18_3 : Cond.methodLink RX4 124 yX4_whyNotDeep ∈ wsL_law := inr_18 _ (List.mem_of_getElem? (i := 3) rfl)
theorem kw_18_4 : Cond.instanceMethod yX4_whyNotDeep ∈ wsL_law := inr_18 _ (List.mem_of_getElem? (i := 4) rfl)
theorem kw_18_5 : Cond.selects RX4 yX4_whyNotDeep yX4_whyNotDeep ∈ wsL_law := inr_18 _ (List.mem_of_getElem? (i := 5) rfl)
theorem kw_18_6 : Cond.code yX4_whyNotDeep cX4_whyNotDeep 3 (some .int) ∈ wsL_law := inr_18 _ (List.mem_of_getElem? (i := 6) rfl)
theorem kw_18_7 : Cond.methodLink RL 55 yX5_deep ∈ wsL_law := inr_18 _ (List.mem_of_getElem? (i := 7) rfl)
theorem kw_18_8 : Cond.instanceMethod yX5_deep ∈ wsL_law := inr_18 _ (List.mem_of_getElem? (i := 8) rfl)
theorem kw_18_9 : Cond.selects RX5 yX5_deep yX5_deep ∈ wsL_law := inr_18 _ (List.mem_of_getElem? (i := 9) rfl)
theorem kw_18_10 : Cond.code yX5_deep cX5_deep 6 (some .int) ∈ wsL_law := inr_18 _ (List.mem_of_getElem? (i := 10) rfl)
theorem kw_18_11 : Cond.methodLink RL 56 yX4_flat ∈ wsL_law := inr_18 _ (List.mem_of_getElem? (i := 11) rfl)
theorem kw_18_12 : Cond.instanceMethod yX4_flat ∈ wsL_law := inr_18 _ (List.mem_of_getElem? (i := 12) rfl)
theorem kw_18_13 : Cond.selects RX4 yX4_flat yX4_flat ∈ wsL_law := inr_18 _ (List.mem_of_getElem? (i := 13) rfl)
theorem kw_18_14 : Cond.code yX4_flat cX4_flat 8 (some .int) ∈ wsL_law := inr_18 _ (List.mem_of_getElem? (i := 14) rfl)
theorem kw_18_15 : Cond.methodLink RX4 140 yX4_whyNotFlat ∈ wsL_law := inr_18 _ (List.mem_of_getElem? (i := 15) rfl)
theorem kw_18_16 : Cond.instanceMethod yX4_whyNotFlat ∈ wsL_law := inr_18 _ (List.mem_of_getElem? (i := 16) rfl)
theorem kw_18_17 : Cond.selects RX4 yX4_whyNotFlat yX4_whyNotFlat ∈ wsL_law := inr_18 _ (List.mem_of_getElem? (i := 17) rfl)
theorem kw_18_18 : Cond.code yX4_whyNotFlat cX4_whyNotFlat 6 (some .int) ∈ wsL_law := inr_18 _ (List.mem_of_getElem? (i := 18) rfl)
theorem kw_18_19 : Cond.methodLink RL 59 yX5_flat ∈ wsL_law := inr_18 _ (List.mem_of_getElem? (i := 19) rfl)
theorem kw_18_20 : Cond.instanceMethod yX5_flat ∈ wsL_law := inr_18 _ (List.mem_of_getElem? (i := 20) rfl)
theorem kw_18_21 : Cond.selects RX5 yX5_flat yX5_flat ∈ wsL_law := inr_18 _ (List.mem_of_getElem? (i := 21) rfl)
theorem kw_18_22 : Cond.code yX5_flat cX5_flat 9 (some .int) ∈ wsL_law := inr_18 _ (List.mem_of_getElem? (i := 22) rfl)
theorem kw_18_23 : Cond.methodLink RX5 155 yX5_tableRows ∈ wsL_law := inr_18 _ (List.mem_of_getElem? (i := 23) rfl)
theorem kw_19_0 : Cond.instanceMethod yX5_tableRows ∈ wsL_law := inr_19 _ (List.mem_of_getElem? (i := 0) rfl)
theorem kw_19_1 : Cond.selects RX5 yX5_tableRows yX5_tableRows ∈ wsL_law := inr_19 _ (List.mem_of_getElem? (i := 1) rfl)
theorem kw_19_2 : Cond.code yX5_tableRows cX5_tableRows 2 (some .int) ∈ wsL_law := inr_19 _ (List.mem_of_getElem? (i := 2) rfl)
theorem kw_19_3 : Cond.methodLink RL 60 yX4_ragged ∈ wsL_law := inr_19 _ (List.mem_of_getElem? (i := 3) rfl)
theorem kw_19_4 : Cond.instanceMethod yX4_ragged ∈ wsL_law := inr_19 _ (List.mem_of_getElem? (i := 4) rfl)
theorem kw_19_5 : Cond.selects RX4 yX4_ragged yX4_ragged ∈ wsL_law := inr_19 _ (List.mem_of_getElem? (i := 5) rfl)
theorem kw_19_6 : Cond.code yX4_ragged cX4_ragged 6 (some .int) ∈ wsL_law := inr_19 _ (List.mem_of_getElem? (i := 6) rfl)
theorem kw_19_7 : Cond.methodLink RX4 143 yX4_whyNoTableRow ∈ wsL_law := inr_19 _ (List.mem_of_getElem? (i := 7) rfl)
theorem kw_19_8 : Cond.instanceMethod yX4_whyNoTableRow ∈ wsL_law := inr_19 _ (List.mem_of_getElem? (i := 8) rfl)
theorem kw_19_9 : Cond.selects RX4 yX4_whyNoTableRow yX4_whyNoTableRow ∈ wsL_law := inr_19 _ (List.mem_of_getElem? (i := 9) rfl)
theorem kw_19_10 : Cond.code yX4_whyNoTableRow cX4_whyNoTableRow 3 (some .int) ∈ wsL_law := inr_19 _ (List.mem_of_getElem? (i := 10) rfl)
theorem kw_19_11 : Cond.methodLink RX4 158 yX2_holds ∈ wsL_law := inr_19 _ (List.mem_of_getElem? (i := 11) rfl)
theorem kw_19_12 : Cond.methodLink RX4 150 yX2_offset ∈ wsL_law := inr_19 _ (List.mem_of_getElem? (i := 12) rfl)
theorem kw_19_13 : Cond.methodLink RL 64 yX5_ragged ∈ wsL_law := inr_19 _ (List.mem_of_getElem? (i := 13) rfl)
theorem kw_19_14 : Cond.instanceMethod yX5_ragged ∈ wsL_law := inr_19 _ (List.mem_of_getElem? (i := 14) rfl)
theorem kw_19_15 : Cond.selects RX5 yX5_ragged yX5_ragged ∈ wsL_law := inr_19 _ (List.mem_of_getElem? (i := 15) rfl)
theorem kw_19_16 : Cond.code yX5_ragged cX5_ragged 5 (some .int) ∈ wsL_law := inr_19 _ (List.mem_of_getElem? (i := 16) rfl)
theorem kw_19_17 : Cond.methodLink RX5 158 yX5_wantsRow ∈ wsL_law := inr_19 _ (List.mem_of_getElem? (i := 17) rfl)
theorem kw_19_18 : Cond.instanceMethod yX5_wantsRow ∈ wsL_law := inr_19 _ (List.mem_of_getElem? (i := 18) rfl)
theorem kw_19_19 : Cond.selects RX5 yX5_wantsRow yX5_wantsRow ∈ wsL_law := inr_19 _ (List.mem_of_getElem? (i := 19) rfl)
theorem kw_19_20 : Cond.code yX5_wantsRow cX5_wantsRow 3 (some .int) ∈ wsL_law := inr_19 _ (List.mem_of_getElem? (i := 20) rfl)
theorem kw_19_21 : Cond.methodLink RX5 161 yX5_slotOf ∈ wsL_law := inr_19 _ (List.mem_of_getElem? (i := 21) rfl)
theorem kw_19_22 : Cond.instanceMethod yX5_slotOf ∈ wsL_law := inr_19 _ (List.mem_of_getElem? (i := 22) rfl)
theorem kw_19_23 : Cond.selects RX5 yX5_slotOf yX5_slotOf ∈ wsL_law := inr_19 _ (List.mem_of_getElem? (i := 23) rfl)
theorem kw_20_0 : Cond.code yX5_slotOf cX5_slotOf 3 (some .int) ∈ wsL_law := inr_20 _ (List.mem_of_getElem? (i := 0) rfl)
theorem kw_20_1 : Cond.methodLink RL 65 yX4_without ∈ wsL_law := inr_20 _ (List.mem_of_getElem? (i := 1) rfl)
theorem kw_20_2 : Cond.instanceMethod yX4_without ∈ wsL_law := inr_20 _ (List.mem_of_getElem? (i := 2) rfl)
theorem kw_20_3 : Cond.selects RX4 yX4_without yX4_without ∈ wsL_law := inr_20 _ (List.mem_of_getElem? (i := 3) rfl)
theorem kw_20_4 : Cond.code yX4_without cX4_without 5 (some .int) ∈ wsL_law := inr_20 _ (List.mem_of_getElem? (i := 4) rfl)
theorem kw_20_5 : Cond.methodLink RL 68 yX5_without ∈ wsL_law := inr_20 _ (List.mem_of_getElem? (i := 5) rfl)
theorem kw_20_6 : Cond.instanceMethod yX5_without ∈ wsL_law := inr_20 _ (List.mem_of_getElem? (i := 6) rfl)
theorem kw_20_7 : Cond.selects RX5 yX5_without yX5_without ∈ wsL_law := inr_20 _ (List.mem_of_getElem? (i := 7) rfl)
theorem kw_20_8 : Cond.code yX5_without cX5_without 4 (some .int) ∈ wsL_law := inr_20 _ (List.mem_of_getElem? (i := 8) rfl)
theorem kw_20_9 : Cond.methodLink RL 69 yX4_tie ∈ wsL_law := inr_20 _ (List.mem_of_getElem? (i := 9) rfl)
theorem kw_20_10 : Cond.instanceMethod yX4_tie ∈ wsL_law := inr_20 _ (List.mem_of_getElem? (i := 10) rfl)
theorem kw_20_11 : Cond.selects RX4 yX4_tie yX4_tie ∈ wsL_law := inr_20 _ (List.mem_of_getElem? (i := 11) rfl)
theorem kw_20_12 : Cond.code yX4_tie cX4_tie 7 (some .int) ∈ wsL_law := inr_20 _ (List.mem_of_getElem? (i := 12) rfl)
theorem kw_20_13 : Cond.methodLink RL 73 yX5_tie ∈ wsL_law := inr_20 _ (List.mem_of_getElem? (i := 13) rfl)
theorem kw_20_14 : Cond.instanceMethod yX5_tie ∈ wsL_law := inr_20 _ (List.mem_of_getElem? (i := 14) rfl)
theorem kw_20_15 : Cond.selects RX5 yX5_tie yX5_tie ∈ wsL_law := inr_20 _ (List.mem_of_getElem? (i := 15) rfl)
theorem kw_20_16 : Cond.code yX5_tie cX5_tie 5 (some .int) ∈ wsL_law := inr_20 _ (List.mem_of_getElem? (i := 16) rfl)
theorem kw_20_17 : Cond.methodLink RL 74 yX4_get ∈ wsL_law := inr_20 _ (List.mem_of_getElem? (i := 17) rfl)
theorem kw_20_18 : Cond.instanceMethod yX4_get ∈ wsL_law := inr_20 _ (List.mem_of_getElem? (i := 18) rfl)
theorem kw_20_19 : Cond.selects RX4 yX4_get yX4_get ∈ wsL_law := inr_20 _ (List.mem_of_getElem? (i := 19) rfl)
theorem kw_20_20 : Cond.code yX4_get cX4_get 6 (some .long) ∈ wsL_law := inr_20 _ (List.mem_of_getElem? (i := 20) rfl)
theorem kw_20_21 : Cond.fieldLink RX4 165 "ArrayMaker$Store" "filled" "[Z" ∈ wsL_law := inr_20 _ (List.mem_of_getElem? (i := 21) rfl)
theorem kw_20_22 : Cond.fieldLink RX4 169 "ArrayMaker$Store" "numbers" "[J" ∈ wsL_law := inr_20 _ (List.mem_of_getElem? (i := 22) rfl)
theorem kw_20_23 : Cond.methodLink RX4 161 yX4_cellOf ∈ wsL_law := inr_20 _ (List.mem_of_getElem? (i := 23) rfl)
theorem kw_21_0 : Cond.instanceMethod yX4_cellOf ∈ wsL_law := inr_21 _ (List.mem_of_getElem? (i := 0) rfl)
theorem kw_21_1 : Cond.selects RX4 yX4_cellOf yX4_cellOf ∈ wsL_law := inr_21 _ (List.mem_of_getElem? (i := 1) rfl)
theorem kw_21_2 : Cond.code yX4_cellOf cX4_cellOf 6 (some .int) ∈ wsL_law := inr_21 _ (List.mem_of_getElem? (i := 2) rfl)
theorem kw_21_3 : Cond.methodLink RX4 251 yX4_tableCellOf ∈ wsL_law := inr_21 _ (List.mem_of_getElem? (i := 3) rfl)
theorem kw_21_4 : Cond.instanceMethod yX4_tableCellOf ∈ wsL_law := inr_21 _ (List.mem_of_getElem? (i := 4) rfl)
theorem kw_21_5 : Cond.selects RX4 yX4_tableCellOf yX4_tableCellOf ∈ wsL_law := inr_21 _ (List.mem_of_getElem? (i := 5) rfl)
theorem kw_21_6 : Cond.code yX4_tableCellOf cX4_tableCellOf 7 (some .int) ∈ wsL_law := inr_21 _ (List.mem_of_getElem? (i := 6) rfl)
theorem kw_21_7 : Cond.methodLink RL 78 yX5_get ∈ wsL_law := inr_21 _ (List.mem_of_getElem? (i := 7) rfl)
theorem kw_21_8 : Cond.instanceMethod yX5_get ∈ wsL_law := inr_21 _ (List.mem_of_getElem? (i := 8) rfl)
theorem kw_21_9 : Cond.selects RX5 yX5_get yX5_get ∈ wsL_law := inr_21 _ (List.mem_of_getElem? (i := 9) rfl)
theorem kw_21_10 : Cond.code yX5_get cX5_get 6 (some .long) ∈ wsL_law := inr_21 _ (List.mem_of_getElem? (i := 10) rfl)
theorem kw_21_11 : Cond.methodLink RX5 164 yX5_find ∈ wsL_law := inr_21 _ (List.mem_of_getElem? (i := 11) rfl)
theorem kw_21_12 : Cond.instanceMethod yX5_find ∈ wsL_law := inr_21 _ (List.mem_of_getElem? (i := 12) rfl)
theorem kw_21_13 : Cond.selects RX5 yX5_find yX5_find ∈ wsL_law := inr_21 _ (List.mem_of_getElem? (i := 13) rfl)
theorem kw_21_14 : Cond.code yX5_find cX5_find 9 (some .int) ∈ wsL_law := inr_21 _ (List.mem_of_getElem? (i := 14) rfl)
theorem kw_21_15 : Cond.methodLink RL 81 yX4_put ∈ wsL_law := inr_21 _ (List.mem_of_getElem? (i := 15) rfl)
theorem kw_21_16 : Cond.instanceMethod yX4_put ∈ wsL_law := inr_21 _ (List.mem_of_getElem? (i := 16) rfl)
theorem kw_21_17 : Cond.selects RX4 yX4_put yX4_put ∈ wsL_law := inr_21 _ (List.mem_of_getElem? (i := 17) rfl)
theorem kw_21_18 : Cond.code yX4_put cX4_put 9 (some .int) ∈ wsL_law := inr_21 _ (List.mem_of_getElem? (i := 18) rfl)
theorem kw_21_19 : Cond.methodLink RX4 173 yX4_fitted ∈ wsL_law := inr_21 _ (List.mem_of_getElem? (i := 19) rfl)
theorem kw_21_20 : Cond.static yX4_fitted ∈ wsL_law := inr_21 _ (List.mem_of_getElem? (i := 20) rfl)
theorem kw_21_21 : Cond.code yX4_fitted cX4_fitted 3 (some .long) ∈ wsL_law := inr_21 _ (List.mem_of_getElem? (i := 21) rfl)
theorem kw_21_22 : Cond.methodLink RX4 177 yX3_fill ∈ wsL_law := inr_21 _ (List.mem_of_getElem? (i := 22) rfl)
theorem kw_21_23 : Cond.instanceMethod yX3_fill ∈ wsL_law := inr_21 _ (List.mem_of_getElem? (i := 23) rfl)
theorem kw_22_0 : Cond.selects RX3 yX3_fill yX3_fill ∈ wsL_law := inr_22 _ (List.mem_of_getElem? (i := 0) rfl)
theorem kw_22_1 : Cond.code yX3_fill cX3_fill 4 none ∈ wsL_law := inr_22 _ (List.mem_of_getElem? (i := 1) rfl)
theorem kw_22_2 : Cond.methodLink RL 85 yX5_put ∈ wsL_law := inr_22 _ (List.mem_of_getElem? (i := 2) rfl)
theorem kw_22_3 : Cond.instanceMethod yX5_put ∈ wsL_law := inr_22 _ (List.mem_of_getElem? (i := 3) rfl)
theorem kw_22_4 : Cond.selects RX5 yX5_put yX5_put ∈ wsL_law := inr_22 _ (List.mem_of_getElem? (i := 4) rfl)
theorem kw_22_5 : Cond.code yX5_put cX5_put 8 (some .int) ∈ wsL_law := inr_22 _ (List.mem_of_getElem? (i := 5) rfl)
theorem kw_22_6 : Cond.methodLink RX5 171 yX5_lay ∈ wsL_law := inr_22 _ (List.mem_of_getElem? (i := 6) rfl)
theorem kw_22_7 : Cond.instanceMethod yX5_lay ∈ wsL_law := inr_22 _ (List.mem_of_getElem? (i := 7) rfl)
theorem kw_22_8 : Cond.selects RX5 yX5_lay yX5_lay ∈ wsL_law := inr_22 _ (List.mem_of_getElem? (i := 8) rfl)
theorem kw_22_9 : Cond.code yX5_lay cX5_lay 5 none ∈ wsL_law := inr_22 _ (List.mem_of_getElem? (i := 9) rfl)
theorem kw_22_10 : Cond.methodLink RX5 167 yX5_as ∈ wsL_law := inr_22 _ (List.mem_of_getElem? (i := 10) rfl)
theorem kw_22_11 : Cond.static yX5_as ∈ wsL_law := inr_22 _ (List.mem_of_getElem? (i := 11) rfl)
theorem kw_22_12 : Cond.code yX5_as cX5_as 5 (some .long) ∈ wsL_law := inr_22 _ (List.mem_of_getElem? (i := 12) rfl)
theorem kw_22_13 : Cond.constantLong RX5 92 (255) ∈ wsL_law := inr_22 _ (List.mem_of_getElem? (i := 13) rfl)
theorem kw_22_14 : Cond.constantLong RX5 94 (127) ∈ wsL_law := inr_22 _ (List.mem_of_getElem? (i := 14) rfl)
theorem kw_22_15 : Cond.constantLong RX5 96 (256) ∈ wsL_law := inr_22 _ (List.mem_of_getElem? (i := 15) rfl)
theorem kw_22_16 : Cond.methodLink RL 86 yX4_empty ∈ wsL_law := inr_22 _ (List.mem_of_getElem? (i := 16) rfl)
theorem kw_22_17 : Cond.instanceMethod yX4_empty ∈ wsL_law := inr_22 _ (List.mem_of_getElem? (i := 17) rfl)
theorem kw_22_18 : Cond.selects RX4 yX4_empty yX4_empty ∈ wsL_law := inr_22 _ (List.mem_of_getElem? (i := 18) rfl)
theorem kw_22_19 : Cond.code yX4_empty cX4_empty 7 (some .int) ∈ wsL_law := inr_22 _ (List.mem_of_getElem? (i := 19) rfl)
theorem kw_22_20 : Cond.methodLink RX4 181 yX3_drain ∈ wsL_law := inr_22 _ (List.mem_of_getElem? (i := 20) rfl)
theorem kw_22_21 : Cond.instanceMethod yX3_drain ∈ wsL_law := inr_22 _ (List.mem_of_getElem? (i := 21) rfl)
theorem kw_22_22 : Cond.selects RX3 yX3_drain yX3_drain ∈ wsL_law := inr_22 _ (List.mem_of_getElem? (i := 22) rfl)
theorem kw_22_23 : Cond.code yX3_drain cX3_drain 2 none ∈ wsL_law := inr_22 _ (List.mem_of_getElem? (i := 23) rfl)
theorem kw_23_0 : Cond.methodLink RL 89 yX5_empty ∈ wsL_law := inr_23 _ (List.mem_of_getElem? (i := 0) rfl)
theorem kw_23_1 : Cond.instanceMethod yX5_empty ∈ wsL_law := inr_23 _ (List.mem_of_getElem? (i := 1) rfl)
theorem kw_23_2 : Cond.selects RX5 yX5_empty yX5_empty ∈ wsL_law := inr_23 _ (List.mem_of_getElem? (i := 2) rfl)
theorem kw_23_3 : Cond.code yX5_empty cX5_empty 6 (some .int) ∈ wsL_law := inr_23 _ (List.mem_of_getElem? (i := 3) rfl)
theorem kw_23_4 : Cond.methodLink RL 90 yX4_pair ∈ wsL_law := inr_23 _ (List.mem_of_getElem? (i := 4) rfl)
theorem kw_23_5 : Cond.instanceMethod yX4_pair ∈ wsL_law := inr_23 _ (List.mem_of_getElem? (i := 5) rfl)
theorem kw_23_6 : Cond.selects RX4 yX4_pair yX4_pair ∈ wsL_law := inr_23 _ (List.mem_of_getElem? (i := 6) rfl)
theorem kw_23_7 : Cond.code yX4_pair cX4_pair 6 (some .int) ∈ wsL_law := inr_23 _ (List.mem_of_getElem? (i := 7) rfl)
theorem kw_23_8 : Cond.fieldLink RX4 185 "ArrayMaker$Lines" "count" "I" ∈ wsL_law := inr_23 _ (List.mem_of_getElem? (i := 8) rfl)
theorem kw_23_9 : Cond.methodLink RX4 186 yX0_add ∈ wsL_law := inr_23 _ (List.mem_of_getElem? (i := 9) rfl)
theorem kw_23_10 : Cond.instanceMethod yX0_add ∈ wsL_law := inr_23 _ (List.mem_of_getElem? (i := 10) rfl)
theorem kw_23_11 : Cond.selects RX0 yX0_add yX0_add ∈ wsL_law := inr_23 _ (List.mem_of_getElem? (i := 11) rfl)
theorem kw_23_12 : Cond.code yX0_add cX0_add 6 none ∈ wsL_law := inr_23 _ (List.mem_of_getElem? (i := 12) rfl)
theorem kw_23_13 : Cond.fieldLink RX0 25 "ArrayMaker$Lines" "count" "I" ∈ wsL_law := inr_23 _ (List.mem_of_getElem? (i := 13) rfl)
theorem kw_23_14 : Cond.methodLink RL 94 yX5_pair ∈ wsL_law := inr_23 _ (List.mem_of_getElem? (i := 14) rfl)
theorem kw_23_15 : Cond.instanceMethod yX5_pair ∈ wsL_law := inr_23 _ (List.mem_of_getElem? (i := 15) rfl)
theorem kw_23_16 : Cond.selects RX5 yX5_pair yX5_pair ∈ wsL_law := inr_23 _ (List.mem_of_getElem? (i := 16) rfl)
theorem kw_23_17 : Cond.code yX5_pair cX5_pair 6 (some .int) ∈ wsL_law := inr_23 _ (List.mem_of_getElem? (i := 17) rfl)
theorem kw_23_18 : Cond.fieldLink RX5 175 "ArrayMakerModel" "lines" "I" ∈ wsL_law := inr_23 _ (List.mem_of_getElem? (i := 18) rfl)
theorem kw_23_19 : Cond.methodLink RL 95 yX4_gather ∈ wsL_law := inr_23 _ (List.mem_of_getElem? (i := 19) rfl)
theorem kw_23_20 : Cond.instanceMethod yX4_gather ∈ wsL_law := inr_23 _ (List.mem_of_getElem? (i := 20) rfl)
theorem kw_23_21 : Cond.selects RX4 yX4_gather yX4_gather ∈ wsL_law := inr_23 _ (List.mem_of_getElem? (i := 21) rfl)
theorem kw_23_22 : Cond.code yX4_gather cX4_gather 7 (some .int) ∈ wsL_law := inr_23 _ (List.mem_of_getElem? (i := 22) rfl)
theorem kw_23_23 : Cond.fieldLink RX4 189 "ArrayMaker$Lines" "i" "[I" ∈ wsL_law := inr_23 _ (List.mem_of_getElem? (i := 23) rfl)
theorem kw_24_0 : Cond.fieldLink RX4 192 "ArrayMaker$Lines" "j" "[I" ∈ wsL_law := inr_24 _ (List.mem_of_getElem? (i := 0) rfl)
theorem kw_24_1 : Cond.fieldLink RX4 195 "ArrayMaker$Lines" "k" "[I" ∈ wsL_law := inr_24 _ (List.mem_of_getElem? (i := 1) rfl)
theorem kw_24_2 : Cond.fieldLink RX4 198 "ArrayMaker$Lines" "v" "[J" ∈ wsL_law := inr_24 _ (List.mem_of_getElem? (i := 2) rfl)
theorem kw_24_3 : Cond.methodLink RX4 201 yX4_joinCell ∈ wsL_law := inr_24 _ (List.mem_of_getElem? (i := 3) rfl)
theorem kw_24_4 : Cond.instanceMethod yX4_joinCell ∈ wsL_law := inr_24 _ (List.mem_of_getElem? (i := 4) rfl)
theorem kw_24_5 : Cond.selects RX4 yX4_joinCell yX4_joinCell ∈ wsL_law := inr_24 _ (List.mem_of_getElem? (i := 5) rfl)
theorem kw_24_6 : Cond.code yX4_joinCell cX4_joinCell 6 (some .boolean) ∈ wsL_law := inr_24 _ (List.mem_of_getElem? (i := 6) rfl)
theorem kw_24_7 : Cond.methodLink RX4 255 yX4_joined ∈ wsL_law := inr_24 _ (List.mem_of_getElem? (i := 7) rfl)
theorem kw_24_8 : Cond.static yX4_joined ∈ wsL_law := inr_24 _ (List.mem_of_getElem? (i := 8) rfl)
theorem kw_24_9 : Cond.code yX4_joined cX4_joined 5 (some .long) ∈ wsL_law := inr_24 _ (List.mem_of_getElem? (i := 9) rfl)
theorem kw_24_10 : Cond.methodLink RX4 259 Lib.MathLoose.max_long.x ∈ wsL_law := inr_24 _ (List.mem_of_getElem? (i := 10) rfl)
theorem kw_24_11 : Cond.methodLink RX4 265 Lib.MathLoose.min_long.x ∈ wsL_law := inr_24 _ (List.mem_of_getElem? (i := 11) rfl)
theorem kw_24_12 : Cond.methodLink RL 98 yX5_gather ∈ wsL_law := inr_24 _ (List.mem_of_getElem? (i := 12) rfl)
theorem kw_24_13 : Cond.instanceMethod yX5_gather ∈ wsL_law := inr_24 _ (List.mem_of_getElem? (i := 13) rfl)
theorem kw_24_14 : Cond.selects RX5 yX5_gather yX5_gather ∈ wsL_law := inr_24 _ (List.mem_of_getElem? (i := 14) rfl)
theorem kw_24_15 : Cond.code yX5_gather cX5_gather 6 (some .int) ∈ wsL_law := inr_24 _ (List.mem_of_getElem? (i := 15) rfl)
theorem kw_24_16 : Cond.constantLong RX5 180 (5) ∈ wsL_law := inr_24 _ (List.mem_of_getElem? (i := 16) rfl)
theorem kw_24_17 : Cond.methodLink RX5 182 yX5_joins ∈ wsL_law := inr_24 _ (List.mem_of_getElem? (i := 17) rfl)
theorem kw_24_18 : Cond.instanceMethod yX5_joins ∈ wsL_law := inr_24 _ (List.mem_of_getElem? (i := 18) rfl)
theorem kw_24_19 : Cond.selects RX5 yX5_joins yX5_joins ∈ wsL_law := inr_24 _ (List.mem_of_getElem? (i := 19) rfl)
theorem kw_24_20 : Cond.code yX5_joins cX5_joins 10 (some .boolean) ∈ wsL_law := inr_24 _ (List.mem_of_getElem? (i := 20) rfl)
theorem kw_24_21 : Cond.constantLong RX5 178 (-1) ∈ wsL_law := inr_24 _ (List.mem_of_getElem? (i := 21) rfl)
theorem kw_24_22 : Cond.methodLink RL 99 yX4_join ∈ wsL_law := inr_24 _ (List.mem_of_getElem? (i := 22) rfl)
theorem kw_24_23 : Cond.instanceMethod yX4_join ∈ wsL_law := inr_24 _ (List.mem_of_getElem? (i := 23) rfl)
theorem kw_25_0 : Cond.selects RX4 yX4_join yX4_join ∈ wsL_law := inr_25 _ (List.mem_of_getElem? (i := 0) rfl)
theorem kw_25_1 : Cond.code yX4_join cX4_join 11 (some .int) ∈ wsL_law := inr_25 _ (List.mem_of_getElem? (i := 1) rfl)
theorem kw_25_2 : Cond.methodLink RX4 208 yX4_whyNotJoined ∈ wsL_law := inr_25 _ (List.mem_of_getElem? (i := 2) rfl)
theorem kw_25_3 : Cond.instanceMethod yX4_whyNotJoined ∈ wsL_law := inr_25 _ (List.mem_of_getElem? (i := 3) rfl)
theorem kw_25_4 : Cond.selects RX4 yX4_whyNotJoined yX4_whyNotJoined ∈ wsL_law := inr_25 _ (List.mem_of_getElem? (i := 4) rfl)
theorem kw_25_5 : Cond.code yX4_whyNotJoined cX4_whyNotJoined 3 (some .int) ∈ wsL_law := inr_25 _ (List.mem_of_getElem? (i := 5) rfl)
theorem kw_25_6 : Cond.methodLink RL 102 yX5_join ∈ wsL_law := inr_25 _ (List.mem_of_getElem? (i := 6) rfl)
theorem kw_25_7 : Cond.instanceMethod yX5_join ∈ wsL_law := inr_25 _ (List.mem_of_getElem? (i := 7) rfl)
theorem kw_25_8 : Cond.selects RX5 yX5_join yX5_join ∈ wsL_law := inr_25 _ (List.mem_of_getElem? (i := 8) rfl)
theorem kw_25_9 : Cond.code yX5_join cX5_join 8 (some .int) ∈ wsL_law := inr_25 _ (List.mem_of_getElem? (i := 9) rfl)
theorem kw_25_10 : Cond.methodLink RL 103 yX4_sum ∈ wsL_law := inr_25 _ (List.mem_of_getElem? (i := 10) rfl)
theorem kw_25_11 : Cond.instanceMethod yX4_sum ∈ wsL_law := inr_25 _ (List.mem_of_getElem? (i := 11) rfl)
theorem kw_25_12 : Cond.selects RX4 yX4_sum yX4_sum ∈ wsL_law := inr_25 _ (List.mem_of_getElem? (i := 12) rfl)
theorem kw_25_13 : Cond.code yX4_sum cX4_sum 6 (some .long) ∈ wsL_law := inr_25 _ (List.mem_of_getElem? (i := 13) rfl)
theorem kw_25_14 : Cond.methodLink RX4 212 yX3_totalOf ∈ wsL_law := inr_25 _ (List.mem_of_getElem? (i := 14) rfl)
theorem kw_25_15 : Cond.instanceMethod yX3_totalOf ∈ wsL_law := inr_25 _ (List.mem_of_getElem? (i := 15) rfl)
theorem kw_25_16 : Cond.selects RX3 yX3_totalOf yX3_totalOf ∈ wsL_law := inr_25 _ (List.mem_of_getElem? (i := 16) rfl)
theorem kw_25_17 : Cond.code yX3_totalOf cX3_totalOf 5 (some .long) ∈ wsL_law := inr_25 _ (List.mem_of_getElem? (i := 17) rfl)
theorem kw_25_18 : Cond.methodLink RX3 62 yX3_lengthOf ∈ wsL_law := inr_25 _ (List.mem_of_getElem? (i := 18) rfl)
theorem kw_25_19 : Cond.methodLink RX3 66 yX3_startOf ∈ wsL_law := inr_25 _ (List.mem_of_getElem? (i := 19) rfl)
theorem kw_25_20 : Cond.methodLink RL 107 yX5_sum ∈ wsL_law := inr_25 _ (List.mem_of_getElem? (i := 20) rfl)
theorem kw_25_21 : Cond.instanceMethod yX5_sum ∈ wsL_law := inr_25 _ (List.mem_of_getElem? (i := 21) rfl)
theorem kw_25_22 : Cond.selects RX5 yX5_sum yX5_sum ∈ wsL_law := inr_25 _ (List.mem_of_getElem? (i := 22) rfl)
theorem kw_25_23 : Cond.code yX5_sum cX5_sum 6 (some .long) ∈ wsL_law := inr_25 _ (List.mem_of_getElem? (i := 23) rfl)
theorem kw_26_0 : Cond.methodLink RX5 186 yX5_sumOf ∈ wsL_law := inr_26 _ (List.mem_of_getElem? (i := 0) rfl)
theorem kw_26_1 : Cond.instanceMethod yX5_sumOf ∈ wsL_law := inr_26 _ (List.mem_of_getElem? (i := 1) rfl)
theorem kw_26_2 : Cond.selects RX5 yX5_sumOf yX5_sumOf ∈ wsL_law := inr_26 _ (List.mem_of_getElem? (i := 2) rfl)
theorem kw_26_3 : Cond.code yX5_sumOf cX5_sumOf 5 (some .long) ∈ wsL_law := inr_26 _ (List.mem_of_getElem? (i := 3) rfl)
theorem kw_26_4 : Cond.methodLink RL 108 yX4_mean ∈ wsL_law := inr_26 _ (List.mem_of_getElem? (i := 4) rfl)
theorem kw_26_5 : Cond.instanceMethod yX4_mean ∈ wsL_law := inr_26 _ (List.mem_of_getElem? (i := 5) rfl)
theorem kw_26_6 : Cond.selects RX4 yX4_mean yX4_mean ∈ wsL_law := inr_26 _ (List.mem_of_getElem? (i := 6) rfl)
theorem kw_26_7 : Cond.code yX4_mean cX4_mean 4 (some .long) ∈ wsL_law := inr_26 _ (List.mem_of_getElem? (i := 7) rfl)
theorem kw_26_8 : Cond.methodLink RL 111 yX5_mean ∈ wsL_law := inr_26 _ (List.mem_of_getElem? (i := 8) rfl)
theorem kw_26_9 : Cond.instanceMethod yX5_mean ∈ wsL_law := inr_26 _ (List.mem_of_getElem? (i := 9) rfl)
theorem kw_26_10 : Cond.selects RX5 yX5_mean yX5_mean ∈ wsL_law := inr_26 _ (List.mem_of_getElem? (i := 10) rfl)
theorem kw_26_11 : Cond.code yX5_mean cX5_mean 3 (some .long) ∈ wsL_law := inr_26 _ (List.mem_of_getElem? (i := 11) rfl)
theorem kw_26_12 : Cond.methodLink RL 112 yX4_about ∈ wsL_law := inr_26 _ (List.mem_of_getElem? (i := 12) rfl)
theorem kw_26_13 : Cond.instanceMethod yX4_about ∈ wsL_law := inr_26 _ (List.mem_of_getElem? (i := 13) rfl)
theorem kw_26_14 : Cond.selects RX4 yX4_about yX4_about ∈ wsL_law := inr_26 _ (List.mem_of_getElem? (i := 14) rfl)
theorem kw_26_15 : Cond.code yX4_about cX4_about 6 (some .int) ∈ wsL_law := inr_26 _ (List.mem_of_getElem? (i := 15) rfl)
theorem kw_26_16 : Cond.fieldLink RX4 222 "ArrayMaker$Shape" "high" "[I" ∈ wsL_law := inr_26 _ (List.mem_of_getElem? (i := 16) rfl)
theorem kw_26_17 : Cond.methodLink RX4 216 yX4_itemsOf ∈ wsL_law := inr_26 _ (List.mem_of_getElem? (i := 17) rfl)
theorem kw_26_18 : Cond.instanceMethod yX4_itemsOf ∈ wsL_law := inr_26 _ (List.mem_of_getElem? (i := 18) rfl)
theorem kw_26_19 : Cond.selects RX4 yX4_itemsOf yX4_itemsOf ∈ wsL_law := inr_26 _ (List.mem_of_getElem? (i := 19) rfl)
theorem kw_26_20 : Cond.code yX4_itemsOf cX4_itemsOf 4 (some .int) ∈ wsL_law := inr_26 _ (List.mem_of_getElem? (i := 20) rfl)
theorem kw_26_21 : Cond.methodLink RL 115 yX5_about ∈ wsL_law := inr_26 _ (List.mem_of_getElem? (i := 21) rfl)
theorem kw_26_22 : Cond.instanceMethod yX5_about ∈ wsL_law := inr_26 _ (List.mem_of_getElem? (i := 22) rfl)
theorem kw_26_23 : Cond.selects RX5 yX5_about yX5_about ∈ wsL_law := inr_26 _ (List.mem_of_getElem? (i := 23) rfl)
theorem kw_27_0 : Cond.code yX5_about cX5_about 6 (some .int) ∈ wsL_law := inr_27 _ (List.mem_of_getElem? (i := 0) rfl)
theorem kw_27_1 : Cond.constantLong RX5 190 (8) ∈ wsL_law := inr_27 _ (List.mem_of_getElem? (i := 1) rfl)
theorem kw_27_2 : Cond.methodLink RL 116 yX4_same ∈ wsL_law := inr_27 _ (List.mem_of_getElem? (i := 2) rfl)
theorem kw_27_3 : Cond.instanceMethod yX4_same ∈ wsL_law := inr_27 _ (List.mem_of_getElem? (i := 3) rfl)
theorem kw_27_4 : Cond.selects RX4 yX4_same yX4_same ∈ wsL_law := inr_27 _ (List.mem_of_getElem? (i := 4) rfl)
theorem kw_27_5 : Cond.code yX4_same cX4_same 5 (some .int) ∈ wsL_law := inr_27 _ (List.mem_of_getElem? (i := 5) rfl)
theorem kw_27_6 : Cond.methodLink RX4 225 yX4_haveSameRows ∈ wsL_law := inr_27 _ (List.mem_of_getElem? (i := 6) rfl)
theorem kw_27_7 : Cond.static yX4_haveSameRows ∈ wsL_law := inr_27 _ (List.mem_of_getElem? (i := 7) rfl)
theorem kw_27_8 : Cond.code yX4_haveSameRows cX4_haveSameRows 3 (some .boolean) ∈ wsL_law := inr_27 _ (List.mem_of_getElem? (i := 8) rfl)
theorem kw_27_9 : Cond.methodLink RL 119 yX5_same ∈ wsL_law := inr_27 _ (List.mem_of_getElem? (i := 9) rfl)
theorem kw_27_10 : Cond.instanceMethod yX5_same ∈ wsL_law := inr_27 _ (List.mem_of_getElem? (i := 10) rfl)
theorem kw_27_11 : Cond.selects RX5 yX5_same yX5_same ∈ wsL_law := inr_27 _ (List.mem_of_getElem? (i := 11) rfl)
theorem kw_27_12 : Cond.code yX5_same cX5_same 5 (some .int) ∈ wsL_law := inr_27 _ (List.mem_of_getElem? (i := 12) rfl)
theorem kw_27_13 : Cond.methodLink RL 120 yX4_compare ∈ wsL_law := inr_27 _ (List.mem_of_getElem? (i := 13) rfl)
theorem kw_27_14 : Cond.instanceMethod yX4_compare ∈ wsL_law := inr_27 _ (List.mem_of_getElem? (i := 14) rfl)
theorem kw_27_15 : Cond.selects RX4 yX4_compare yX4_compare ∈ wsL_law := inr_27 _ (List.mem_of_getElem? (i := 15) rfl)
theorem kw_27_16 : Cond.code yX4_compare cX4_compare 5 (some .int) ∈ wsL_law := inr_27 _ (List.mem_of_getElem? (i := 16) rfl)
theorem kw_27_17 : Cond.methodLink RX4 229 yX3_orderOf ∈ wsL_law := inr_27 _ (List.mem_of_getElem? (i := 17) rfl)
theorem kw_27_18 : Cond.instanceMethod yX3_orderOf ∈ wsL_law := inr_27 _ (List.mem_of_getElem? (i := 18) rfl)
theorem kw_27_19 : Cond.selects RX3 yX3_orderOf yX3_orderOf ∈ wsL_law := inr_27 _ (List.mem_of_getElem? (i := 19) rfl)
theorem kw_27_20 : Cond.code yX3_orderOf cX3_orderOf 6 (some .int) ∈ wsL_law := inr_27 _ (List.mem_of_getElem? (i := 20) rfl)
theorem kw_27_21 : Cond.methodLink RX3 69 Lib.Math.min.name ∈ wsL_law := inr_27 _ (List.mem_of_getElem? (i := 21) rfl)
theorem kw_27_22 : Cond.methodLink RX3 72 yJ13_compare_74951 ∈ wsL_law := inr_27 _ (List.mem_of_getElem? (i := 22) rfl)
theorem kw_27_23 : Cond.static yJ13_compare_74951 ∈ wsL_law := inr_27 _ (List.mem_of_getElem? (i := 23) rfl)
theorem kw_28_0 : Cond.initialized RJ13 ∈ wsL_law := inr_28 _ (List.mem_of_getElem? (i := 0) rfl)
theorem kw_28_1 : Cond.code yJ13_compare_74951 cJ13_compare_74951 4 (some .int) ∈ wsL_law := inr_28 _ (List.mem_of_getElem? (i := 1) rfl)
theorem kw_28_2 : Cond.methodLink RX3 78 yJ6_compare_7cf53 ∈ wsL_law := inr_28 _ (List.mem_of_getElem? (i := 2) rfl)
theorem kw_28_3 : Cond.static yJ6_compare_7cf53 ∈ wsL_law := inr_28 _ (List.mem_of_getElem? (i := 3) rfl)
theorem kw_28_4 : Cond.initialized RJ6 ∈ wsL_law := inr_28 _ (List.mem_of_getElem? (i := 4) rfl)
theorem kw_28_5 : Cond.code yJ6_compare_7cf53 cJ6_compare_7cf53 2 (some .int) ∈ wsL_law := inr_28 _ (List.mem_of_getElem? (i := 5) rfl)
theorem kw_28_6 : Cond.methodLink RL 123 yX5_compare ∈ wsL_law := inr_28 _ (List.mem_of_getElem? (i := 6) rfl)
theorem kw_28_7 : Cond.instanceMethod yX5_compare ∈ wsL_law := inr_28 _ (List.mem_of_getElem? (i := 7) rfl)
theorem kw_28_8 : Cond.selects RX5 yX5_compare yX5_compare ∈ wsL_law := inr_28 _ (List.mem_of_getElem? (i := 8) rfl)
theorem kw_28_9 : Cond.code yX5_compare cX5_compare 10 (some .int) ∈ wsL_law := inr_28 _ (List.mem_of_getElem? (i := 9) rfl)
theorem kw_28_10 : Cond.methodLink RL 124 yX4_clear ∈ wsL_law := inr_28 _ (List.mem_of_getElem? (i := 10) rfl)
theorem kw_28_11 : Cond.instanceMethod yX4_clear ∈ wsL_law := inr_28 _ (List.mem_of_getElem? (i := 11) rfl)
theorem kw_28_12 : Cond.selects RX4 yX4_clear yX4_clear ∈ wsL_law := inr_28 _ (List.mem_of_getElem? (i := 12) rfl)
theorem kw_28_13 : Cond.code yX4_clear cX4_clear 2 (some .int) ∈ wsL_law := inr_28 _ (List.mem_of_getElem? (i := 13) rfl)
theorem kw_28_14 : Cond.methodLink RX4 232 yX3_forget ∈ wsL_law := inr_28 _ (List.mem_of_getElem? (i := 14) rfl)
theorem kw_28_15 : Cond.instanceMethod yX3_forget ∈ wsL_law := inr_28 _ (List.mem_of_getElem? (i := 15) rfl)
theorem kw_28_16 : Cond.selects RX3 yX3_forget yX3_forget ∈ wsL_law := inr_28 _ (List.mem_of_getElem? (i := 16) rfl)
theorem kw_28_17 : Cond.code yX3_forget cX3_forget 1 none ∈ wsL_law := inr_28 _ (List.mem_of_getElem? (i := 17) rfl)
theorem kw_28_18 : Cond.methodLink RL 127 yX5_clear ∈ wsL_law := inr_28 _ (List.mem_of_getElem? (i := 18) rfl)
theorem kw_28_19 : Cond.instanceMethod yX5_clear ∈ wsL_law := inr_28 _ (List.mem_of_getElem? (i := 19) rfl)
theorem kw_28_20 : Cond.selects RX5 yX5_clear yX5_clear ∈ wsL_law := inr_28 _ (List.mem_of_getElem? (i := 20) rfl)
theorem kw_28_21 : Cond.code yX5_clear cX5_clear 2 (some .int) ∈ wsL_law := inr_28 _ (List.mem_of_getElem? (i := 21) rfl)
