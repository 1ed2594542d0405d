/-! The state of class and reference: g.1 ints (component, object, place), g.2.1 longs (component, place), g.2.2 lengths of rows that are made anew (by key). Printed by wip/gen/world.py. -/
abbrev Gs : Type := (Nat → Nat → Nat → Int32) × (Nat → Nat → Int64) × (Nat → Nat)
abbrev Cy : Type := ClassId × ClassId × ClassId × ClassId
def tyL (cy : Cy) : List (ClassId × FieldType) := [(cy.1, .int), (cy.2.1, .long), (cy.2.2.1, .boolean), (cy.2.2.2, .object RX1)]
def sA (g : Gs) (c o : Nat) (f : Nat → Int32) : Gs := (fun c1 o1 => if c1 = c ∧ o1 = o then f else g.1 c1 o1, g.2.1, g.2.2)
def sI (g : Gs) (c o j : Nat) (v : Int32) : Gs := sA g c o (upd (g.1 c o) j v)
def sL (g : Gs) (c j : Nat) (v : Int64) : Gs := (g.1, fun c1 => if c1 = c then vp_updL (g.2.1 c) j v else g.2.1 c1, g.2.2)
def sN (g : Gs) (k n : Nat) : Gs := (g.1, g.2.1, fun k1 => if k1 = k then n else g.2.2 k1)
theorem sA_at (g : Gs) (c o : Nat) (f : Nat → Int32) : (sA g c o f).1 c o = f := by simp [sA]
theorem sI_at (g : Gs) (c o j : Nat) (v : Int32) : (sI g c o j v).1 c o = upd (g.1 c o) j v := by simp [sI, sA]
theorem sI_nc (g : Gs) (c o j : Nat) (v : Int32) {c1 o1 : Nat} (h : ¬ (c1 = c ∧ o1 = o)) : (sI g c o j v).1 c1 o1 = g.1 c1 o1 := by simp only [sI, sA, if_neg h]
theorem sL_at (g : Gs) (c j : Nat) (v : Int64) : (sL g c j v).2.1 c = vp_updL (g.2.1 c) j v := by simp [sL]
theorem sL_nc (g : Gs) (c j : Nat) (v : Int64) {c1 : Nat} (h : ¬ c1 = c) : (sL g c j v).2.1 c1 = g.2.1 c1 := by simp [sL, h]
def cnA (cy : Cy) (sb db : Nat → Nat) (g : Gs) : Nat → va_E
  | 0 => .inr (4, [.ref (sb (100 + 0)), .ref (sb 3), .ref (sb 8), .ref (sb 1), .ref (sb 2), .int (g.1 0 0 0), .int (g.1 1 0 0), .int (g.1 2 0 0)])
  | 1 => .inl (cy.2.2.2, 24, .inr (.inr (.inr (.inr (fun j => some (sb (400 + j)))))))
  | 2 => .inl (cy.1, 500, .inl (g.1 3 0))
  | 3 => .inr (0, [.ref (sb 4), .ref (sb 5), .ref (sb 6), .ref (sb 7), .int (g.1 7 0 0)])
  | 4 => .inl (cy.1, 30, .inl (g.1 8 0))
  | 5 => .inl (cy.1, 30, .inl (g.1 9 0))
  | 6 => .inl (cy.1, 30, .inl (g.1 10 0))
  | 7 => .inl (cy.2.1, 30, .inr (.inl (g.2.1 1)))
  | 8 => .inr (3, [.ref (db 9), .ref (db 10), .ref (db 11), .ref (db 12), .int (g.1 11 0 0), .int (g.1 12 0 0)])
  | 9 => .inl (cy.2.1, (g.2.2 9), .inr (.inl (g.2.1 0)))
  | 10 => .inl (cy.2.2.1, (g.2.2 10), .inl (g.1 13 0))
  | 11 => .inl (cy.1, (g.2.2 11), .inl (g.1 14 0))
  | 12 => .inl (cy.1, (g.2.2 12), .inl (g.1 15 0))
  | 13 => .inr (5, [.int (g.1 20 0 0), .int (g.1 21 0 0), .int (g.1 22 0 0), .ref (sb 14), .ref (sb 15), .int (g.1 25 0 0), .ref (sb 16), .ref (sb 17), .ref (sb 18), .ref (sb 19), .ref (sb 20), .int (g.1 31 0 0), .ref (sb 21), .ref (sb 22), .int (g.1 34 0 0), .ref (sb 23), .ref (sb 24), .int (g.1 37 0 0), .ref (sb 25), .int (g.1 39 0 0), .ref (sb 26), .ref (sb 27), .ref (sb 28), .ref (sb 29), .int (g.1 44 0 0)])
  | 14 => .inl (cy.1, 3, .inl (g.1 23 0))
  | 15 => .inl (cy.1, 3, .inl (g.1 24 0))
  | 16 => .inl (cy.1, 24, .inl (g.1 26 0))
  | 17 => .inl (cy.1, 24, .inl (g.1 27 0))
  | 18 => .inl (cy.1, 72, .inl (g.1 28 0))
  | 19 => .inl (cy.1, 72, .inl (g.1 29 0))
  | 20 => .inl (cy.1, 24, .inl (g.1 30 0))
  | 21 => .inl (cy.1, 13000, .inl (g.1 32 0))
  | 22 => .inl (cy.1, 13000, .inl (g.1 33 0))
  | 23 => .inl (cy.2.1, 300000, .inr (.inl (g.2.1 2)))
  | 24 => .inl (cy.2.2.1, 300000, .inl (g.1 36 0))
  | 25 => .inl (cy.1, 12100, .inl (g.1 38 0))
  | 26 => .inl (cy.1, 30, .inl (g.1 40 0))
  | 27 => .inl (cy.1, 30, .inl (g.1 41 0))
  | 28 => .inl (cy.1, 30, .inl (g.1 42 0))
  | 29 => .inl (cy.2.1, 30, .inr (.inl (g.2.1 3)))
  | _ => .inr (0, [])
def cont (cy : Cy) (sb db : Nat → Nat) (g : Gs) (k : Nat) : va_E :=
  if k < 100 then cnA cy sb db g k
  else if k < 200 then .inr (2, [.ref (sb (200 + (k - 100))), .ref (sb (300 + (k - 100))), .int (g.1 4 (k - 100) 0)])
  else if k < 300 then .inl (cy.1, 3, .inl (g.1 5 (k - 200)))
  else if k < 400 then .inl (cy.1, 3, .inl (g.1 6 (k - 300)))
  else if k < 500 then .inr (1, [.ref (sb (100 + ((k - 400) + 1))), .int (g.1 16 (k - 400) 0), .int (g.1 17 (k - 400) 0), .ref (db (500 + (k - 400)))])
  else .inl (cy.1, (g.2.2 (500 + (k - 500))), .inl (g.1 18 (k - 500)))
def lvk (k : Nat) : Prop := k < 30 ∨ (100 ≤ k ∧ k < 125) ∨ (200 ≤ k ∧ k < 225) ∨ (300 ≤ k ∧ k < 325) ∨ (400 ≤ k ∧ k < 424) ∨ (500 ≤ k ∧ k < 524)
def adr (sb db : Nat → Nat) (k : Nat) : Nat := if (9 ≤ k ∧ k ≤ 12) ∨ 500 ≤ k then db k else sb k
theorem ct_sh (cy : Cy) (sb db : Nat → Nat) (g : Gs) {o : Nat} (h : o < 25) : cont cy sb db g (100 + o) = .inr (2, [.ref (sb (200 + o)), .ref (sb (300 + o)), .int (g.1 4 o 0)]) := by
  have h100 : ¬ 100 + o < 100 := by omega
  have h200 : 100 + o < 200 := by omega
  simp only [cont, if_neg h100, if_pos h200, Nat.add_sub_cancel_left]
theorem ct_low (cy : Cy) (sb db : Nat → Nat) (g : Gs) {o : Nat} (h : o < 25) : cont cy sb db g (200 + o) = .inl (cy.1, 3, .inl (g.1 5 o)) := by
  have h100 : ¬ 200 + o < 100 := by omega
  have h200 : ¬ 200 + o < 200 := by omega
  have h300 : 200 + o < 300 := by omega
  simp only [cont, if_neg h100, if_neg h200, if_pos h300, Nat.add_sub_cancel_left]
theorem ct_hig (cy : Cy) (sb db : Nat → Nat) (g : Gs) {o : Nat} (h : o < 25) : cont cy sb db g (300 + o) = .inl (cy.1, 3, .inl (g.1 6 o)) := by
  have h100 : ¬ 300 + o < 100 := by omega
  have h200 : ¬ 300 + o < 200 := by omega
  have h300 : ¬ 300 + o < 300 := by omega
  have h400 : 300 + o < 400 := by omega
  simp only [cont, if_neg h100, if_neg h200, if_neg h300, if_pos h400, Nat.add_sub_cancel_left]
theorem ct_ma (cy : Cy) (sb db : Nat → Nat) (g : Gs) {n : Nat} (h : n < 24) : cont cy sb db g (400 + n) = .inr (1, [.ref (sb (100 + (n + 1))), .int (g.1 16 n 0), .int (g.1 17 n 0), .ref (db (500 + n))]) := by
  have h100 : ¬ 400 + n < 100 := by omega
  have h200 : ¬ 400 + n < 200 := by omega
  have h300 : ¬ 400 + n < 300 := by omega
  have h400 : ¬ 400 + n < 400 := by omega
  have h500 : 400 + n < 500 := by omega
  simp only [cont, if_neg h100, if_neg h200, if_neg h300, if_neg h400, if_pos h500, Nat.add_sub_cancel_left]
theorem ct_rows (cy : Cy) (sb db : Nat → Nat) (g : Gs) {n : Nat} (h : n < 24) : cont cy sb db g (500 + n) = .inl (cy.1, (g.2.2 (500 + n)), .inl (g.1 18 n)) := by
  have h100 : ¬ 500 + n < 100 := by omega
  have h200 : ¬ 500 + n < 200 := by omega
  have h300 : ¬ 500 + n < 300 := by omega
  have h400 : ¬ 500 + n < 400 := by omega
  have h500 : ¬ 500 + n < 500 := by omega
  simp only [cont, if_neg h100, if_neg h200, if_neg h300, if_neg h400, if_neg h500, Nat.add_sub_cancel_left]
theorem ad_sh (sb db : Nat → Nat) {o : Nat} (h : o < 25) : adr sb db (100 + o) = sb (100 + o) := if_neg (by omega)
theorem lv_sh {o : Nat} (h : o < 25) : lvk (100 + o) := by unfold lvk; omega
theorem ad_low (sb db : Nat → Nat) {o : Nat} (h : o < 25) : adr sb db (200 + o) = sb (200 + o) := if_neg (by omega)
theorem lv_low {o : Nat} (h : o < 25) : lvk (200 + o) := by unfold lvk; omega
theorem ad_hig (sb db : Nat → Nat) {o : Nat} (h : o < 25) : adr sb db (300 + o) = sb (300 + o) := if_neg (by omega)
theorem lv_hig {o : Nat} (h : o < 25) : lvk (300 + o) := by unfold lvk; omega
theorem ad_ma (sb db : Nat → Nat) {n : Nat} (h : n < 24) : adr sb db (400 + n) = sb (400 + n) := if_neg (by omega)
theorem lv_ma {n : Nat} (h : n < 24) : lvk (400 + n) := by unfold lvk; omega
theorem ad_rows (sb db : Nat → Nat) {n : Nat} (h : n < 24) : adr sb db (500 + n) = db (500 + n) := if_pos (by omega)
theorem lv_rows {n : Nat} (h : n < 24) : lvk (500 + n) := by unfold lvk; omega
def kof (c o : Nat) : Nat := match c with
  | 0 => 0
  | 1 => 0
  | 2 => 0
  | 3 => 2
  | 4 => 100 + o
  | 5 => 200 + o
  | 6 => 300 + o
  | 7 => 3
  | 8 => 4
  | 9 => 5
  | 10 => 6
  | 11 => 8
  | 12 => 8
  | 13 => 10
  | 14 => 11
  | 15 => 12
  | 16 => 400 + o
  | 17 => 400 + o
  | 18 => 500 + o
  | 20 => 13
  | 21 => 13
  | 22 => 13
  | 23 => 14
  | 24 => 15
  | 25 => 13
  | 26 => 16
  | 27 => 17
  | 28 => 18
  | 29 => 19
  | 30 => 20
  | 31 => 13
  | 32 => 21
  | 33 => 22
  | 34 => 13
  | 36 => 24
  | 37 => 13
  | 38 => 25
  | 39 => 13
  | 40 => 26
  | 41 => 27
  | 42 => 28
  | 44 => 13
  | _ => 1000
def kofL (c : Nat) : Nat := match c with
  | 1 => 7
  | 0 => 9
  | 2 => 23
  | 3 => 29
  | _ => 1000
theorem cont_fr {cy : Cy} {sb db : Nat → Nat} {g g2 : Gs} {k : Nat} (hk : lvk k) (h : ∀ c o, kof c o = k → g.1 c o = g2.1 c o) (hL : ∀ c, kofL c = k → g.2.1 c = g2.2.1 c) (hN : g.2.2 k = g2.2.2 k) : cont cy sb db g k = cont cy sb db g2 k := by
  rcases hk with hk | hk | hk | hk | hk | hk
  · have hk2 : k = 0 ∨ k = 1 ∨ k = 2 ∨ k = 3 ∨ k = 4 ∨ k = 5 ∨ k = 6 ∨ k = 7 ∨ k = 8 ∨ k = 9 ∨ k = 10 ∨ k = 11 ∨ k = 12 ∨ k = 13 ∨ k = 14 ∨ k = 15 ∨ k = 16 ∨ k = 17 ∨ k = 18 ∨ k = 19 ∨ k = 20 ∨ k = 21 ∨ k = 22 ∨ k = 23 ∨ k = 24 ∨ k = 25 ∨ k = 26 ∨ k = 27 ∨ k = 28 ∨ k = 29 := by omega
    rcases hk2 with rfl | rfl | rfl | rfl | rfl | rfl | rfl | rfl | rfl | rfl | rfl | rfl | rfl | rfl | rfl | rfl | rfl | rfl | rfl | rfl | rfl | rfl | rfl | rfl | rfl | rfl | rfl | rfl | rfl | rfl
    · show cnA cy sb db g 0 = cnA cy sb db g2 0
      simp only [cnA, h 0 0 rfl, h 1 0 rfl, h 2 0 rfl]
    · show cnA cy sb db g 1 = cnA cy sb db g2 1
      rfl
    · show cnA cy sb db g 2 = cnA cy sb db g2 2
      simp only [cnA, h 3 0 rfl]
    · show cnA cy sb db g 3 = cnA cy sb db g2 3
      simp only [cnA, h 7 0 rfl]
    · show cnA cy sb db g 4 = cnA cy sb db g2 4
      simp only [cnA, h 8 0 rfl]
    · show cnA cy sb db g 5 = cnA cy sb db g2 5
      simp only [cnA, h 9 0 rfl]
    · show cnA cy sb db g 6 = cnA cy sb db g2 6
      simp only [cnA, h 10 0 rfl]
    · show cnA cy sb db g 7 = cnA cy sb db g2 7
      simp only [cnA, hL 1 rfl]
    · show cnA cy sb db g 8 = cnA cy sb db g2 8
      simp only [cnA, h 11 0 rfl, h 12 0 rfl]
    · show cnA cy sb db g 9 = cnA cy sb db g2 9
      simp only [cnA, hL 0 rfl, hN]
    · show cnA cy sb db g 10 = cnA cy sb db g2 10
      simp only [cnA, h 13 0 rfl, hN]
    · show cnA cy sb db g 11 = cnA cy sb db g2 11
      simp only [cnA, h 14 0 rfl, hN]
    · show cnA cy sb db g 12 = cnA cy sb db g2 12
      simp only [cnA, h 15 0 rfl, hN]
    · show cnA cy sb db g 13 = cnA cy sb db g2 13
      simp only [cnA, h 20 0 rfl, h 21 0 rfl, h 22 0 rfl, h 25 0 rfl, h 31 0 rfl, h 34 0 rfl, h 37 0 rfl, h 39 0 rfl, h 44 0 rfl]
    · show cnA cy sb db g 14 = cnA cy sb db g2 14
      simp only [cnA, h 23 0 rfl]
    · show cnA cy sb db g 15 = cnA cy sb db g2 15
      simp only [cnA, h 24 0 rfl]
    · show cnA cy sb db g 16 = cnA cy sb db g2 16
      simp only [cnA, h 26 0 rfl]
    · show cnA cy sb db g 17 = cnA cy sb db g2 17
      simp only [cnA, h 27 0 rfl]
    · show cnA cy sb db g 18 = cnA cy sb db g2 18
      simp only [cnA, h 28 0 rfl]
    · show cnA cy sb db g 19 = cnA cy sb db g2 19
      simp only [cnA, h 29 0 rfl]
    · show cnA cy sb db g 20 = cnA cy sb db g2 20
      simp only [cnA, h 30 0 rfl]
    · show cnA cy sb db g 21 = cnA cy sb db g2 21
      simp only [cnA, h 32 0 rfl]
    · show cnA cy sb db g 22 = cnA cy sb db g2 22
      simp only [cnA, h 33 0 rfl]
    · show cnA cy sb db g 23 = cnA cy sb db g2 23
      simp only [cnA, hL 2 rfl]
    · show cnA cy sb db g 24 = cnA cy sb db g2 24
      simp only [cnA, h 36 0 rfl]
    · show cnA cy sb db g 25 = cnA cy sb db g2 25
      simp only [cnA, h 38 0 rfl]
    · show cnA cy sb db g 26 = cnA cy sb db g2 26
      simp only [cnA, h 40 0 rfl]
    · show cnA cy sb db g 27 = cnA cy sb db g2 27
      simp only [cnA, h 41 0 rfl]
    · show cnA cy sb db g 28 = cnA cy sb db g2 28
      simp only [cnA, h 42 0 rfl]
    · show cnA cy sb db g 29 = cnA cy sb db g2 29
      simp only [cnA, hL 3 rfl]
  · obtain ⟨o, rfl⟩ : ∃ o, k = 100 + o := ⟨k - 100, by omega⟩
    rw [ct_sh cy sb db g (by omega), ct_sh cy sb db g2 (by omega), h 4 o rfl]
  · obtain ⟨o, rfl⟩ : ∃ o, k = 200 + o := ⟨k - 200, by omega⟩
    rw [ct_low cy sb db g (by omega), ct_low cy sb db g2 (by omega), h 5 o rfl]
  · obtain ⟨o, rfl⟩ : ∃ o, k = 300 + o := ⟨k - 300, by omega⟩
    rw [ct_hig cy sb db g (by omega), ct_hig cy sb db g2 (by omega), h 6 o rfl]
  · obtain ⟨o, rfl⟩ : ∃ o, k = 400 + o := ⟨k - 400, by omega⟩
    rw [ct_ma cy sb db g (by omega), ct_ma cy sb db g2 (by omega), h 16 o rfl, h 17 o rfl]
  · obtain ⟨o, rfl⟩ : ∃ o, k = 500 + o := ⟨k - 500, by omega⟩
    rw [ct_rows cy sb db g (by omega), ct_rows cy sb db g2 (by omega), h 18 o rfl, hN]
theorem cont_sI {cy : Cy} {sb db : Nat → Nat} {g : Gs} {c o j k : Nat} {v : Int32} (hk : lvk k) (h : k ≠ kof c o) : cont cy sb db (sI g c o j v) k = cont cy sb db g k :=
  cont_fr hk (fun c1 o1 h1 => sI_nc g c o j v (fun q => h (by rw [← h1, q.1, q.2]))) (fun _ _ => rfl) rfl
theorem cont_sL {cy : Cy} {sb db : Nat → Nat} {g : Gs} {c j k : Nat} {v : Int64} (hk : lvk k) (h : k ≠ kofL c) : cont cy sb db (sL g c j v) k = cont cy sb db g k :=
  cont_fr hk (fun _ _ _ => rfl) (fun c1 h1 => sL_nc g c j v (fun q => h (by rw [← h1, q]))) rfl
def Cx (p : Program) (s : State) (m : MethodId) (args : Array Value) (c : Code) (cc : ByteArray) (nL : Nat) (own : String) (D : va_G) (cy : Cy) : Prop := p.tables.exec = Jvm.exec ∧ c.code = cc ∧ c.maxLocals = nL ∧ s.vm.findClass own = some m.cls ∧ (∀ w ∈ wsL_law, w.before args s = true) ∧ va_K D vwCl (tyL cy) s
def Ws (D : va_G) (b0 : Nat) (cy : Cy) (sb db : Nat → Nat) (g : Gs) (s : State) (H : Heap) (locs : List Loc) : Prop := mp_ D (fun q => b0 ≤ q) lvk (adr sb db) (cont cy sb db g) H ∧ va_S (fun q => b0 ≤ q) s.heap H locs
