/-! PURE: numbers, lengths, which array, which item. -/
theorem d64 (x y : Int32) : (x.toInt64 - y.toInt64).toInt = x.toInt - y.toInt := by
  have h1 := x.toInt_lt; have h2 := x.le_toInt; have h3 := y.toInt_lt; have h4 := y.le_toInt
  rw [Int64.toInt_sub, Int32.toInt_toInt64, Int32.toInt_toInt64]
  exact Int.bmod_eq_of_le (by omega) (by omega)
theorem len64 (lo hi : Int32) : (hi.toInt64 - lo.toInt64 + 1).toInt = hi.toInt - lo.toInt + 1 := by
  have h1 := hi.toInt_lt; have h2 := hi.le_toInt; have h3 := lo.toInt_lt; have h4 := lo.le_toInt
  rw [Int64.toInt_add, d64, show (1 : Int64).toInt = 1 from by decide]
  exact Int.bmod_eq_of_le (by omega) (by omega)
theorem lenN_lt (lo hi : Int32) : lenN lo hi ≤ 2 ^ 32 := by
  have h1 := hi.toInt_lt; have h2 := hi.le_toInt; have h3 := lo.toInt_lt; have h4 := lo.le_toInt
  unfold lenN
  omega
theorem len_lN (lo hi : Int32) : (if hi.toInt64 - lo.toInt64 + 1 < 0 then (0 : Int64) else hi.toInt64 - lo.toInt64 + 1) = lN (lenN lo hi) := by
  have h0 := lenN_lt lo hi
  apply Int64.toInt_inj.mp
  rw [pk_lT (by omega)]
  split
  · rename_i h
    rw [Int64.lt_iff_toInt_lt, len64, show (0 : Int64).toInt = 0 from by decide] at h
    rw [show (0 : Int64).toInt = 0 from by decide]
    unfold lenN
    omega
  · rename_i h
    rw [Int64.lt_iff_toInt_lt, len64, show (0 : Int64).toInt = 0 from by decide] at h
    rw [len64]
    unfold lenN
    omega
def offN (lo x : Int32) : Nat := (x.toInt - lo.toInt).toNat
theorem off64 {lo x : Int32} (h : lo ≤ x) : x.toInt64 - lo.toInt64 = lN (offN lo x) := by
  have h1 := x.toInt_lt; have h2 := x.le_toInt; have h3 := lo.toInt_lt; have h4 := lo.le_toInt
  rw [Int32.le_iff_toInt_le] at h
  apply Int64.toInt_inj.mp
  rw [d64, pk_lT (by unfold offN; omega)]
  unfold offN
  omega
theorem off32 {lo x : Int32} (h : lo ≤ x) : x - lo = nI (offN lo x) := by
  rw [Int32.le_iff_toInt_le] at h
  apply Int32.toInt_inj.mp
  rw [Int32.toInt_sub, nI]
  first | rw [Int32.toInt_ofNat'] | rw [Int32.toInt_ofNat]
  congr 1
  unfold offN
  omega
theorem off_lt {lo hi x : Int32} (h1 : lo ≤ x) (h2 : x ≤ hi) : offN lo x < lenN lo hi := by
  rw [Int32.le_iff_toInt_le] at h1 h2
  unfold offN lenN
  omega
theorem nl_m1 (a : Nat) (ha : a ≤ 24) : ((nI a - 1).toInt64).toInt = (a : Int) - 1 := by
  rw [Int32.toInt_toInt64]
  exact pk_sub_toInt (a := a) (b := 1) (by omega) (by omega)
theorem X5_within (a lo hi : Int64) (g : Gs) : m_X5_within a lo hi g = some (if lo ≤ a ∧ a ≤ hi then 1 else 0) := by
  unfold m_X5_within m_X5_within_J17 m_X5_within_J18
  simp only [lg_cmp_lt, lg_cmp_gt]
  by_cases h1 : a < lo
  · rw [if_pos h1, if_neg (fun q => Int64.not_le.mpr h1 q.1)]
    rfl
  · rw [if_neg h1]
    by_cases h2 : hi < a
    · rw [if_pos h2, if_neg (fun q => Int64.not_le.mpr h2 q.2)]
      rfl
    · rw [if_neg h2, if_pos ⟨Int64.not_lt.mp h1, Int64.not_lt.mp h2⟩]
      rfl
theorem w32 (x lo hi : Int32) : (lo.toInt64 ≤ x.toInt64 ∧ x.toInt64 ≤ hi.toInt64) ↔ (lo ≤ x ∧ x ≤ hi) := by
  rw [Int64.le_iff_toInt_le, Int64.le_iff_toInt_le, Int32.toInt_toInt64, Int32.toInt_toInt64, Int32.toInt_toInt64, Int32.le_iff_toInt_le, Int32.le_iff_toInt_le]
theorem X5_withinI (x lo hi : Int32) (g : Gs) : m_X5_within x.toInt64 lo.toInt64 hi.toInt64 g = some (if lo ≤ x ∧ x ≤ hi then 1 else 0) := by
  rw [X5_within]
  simp only [w32]
/-- which array -/
theorem arr_cases (x : Int32) {a : Nat} (ha : a ≤ 24) : (x < 0 ∨ nI a ≤ x) ∨ ∃ i, i < a ∧ x = nI i := by
  rcases pk_ix x (n := a) (by omega) with h | h | h
  · exact Or.inl (Or.inl h)
  · exact Or.inl (Or.inr h)
  · exact Or.inr h
theorem X4_arr_no {g : Gs} {a : Nat} {x : Int32} (h0 : g.1 0 0 0 = nI a) (h : x < 0 ∨ nI a ≤ x) : m_X4_arrayOf x g = some none := by
  unfold m_X4_arrayOf
  rw [h0]
  by_cases h1 : x < 0
  · rw [if_pos h1]; rfl
  · rw [if_neg h1, if_pos (h.resolve_left h1)]; rfl
theorem X4_arr_yes {g : Gs} {a i : Nat} (h0 : g.1 0 0 0 = nI a) (ha : a ≤ 24) (hi : i < a) : m_X4_arrayOf (nI i) g = some (some i) := by
  unfold m_X4_arrayOf
  rw [h0, if_neg (nI_pos (by omega)), if_neg (nI_ge hi (by omega)), chk_t (inb_n (by omega) (by decide)), nI_clamp (by omega)]
  rfl
theorem X5_arr_no {g : Gs} {a : Nat} {x : Int32} (h0 : g.1 25 0 0 = nI a) (ha : a ≤ 24) (h : x < 0 ∨ nI a ≤ x) : m_X5_isArray x g = some 0 := by
  unfold m_X5_isArray
  rw [h0, X5_within, if_neg]
  · rfl
  · rintro ⟨h1, h2⟩
    rw [Int64.le_iff_toInt_le, Int32.toInt_toInt64, show (0 : Int64).toInt = 0 from by decide] at h1
    rw [Int64.le_iff_toInt_le, nl_m1 a ha, Int32.toInt_toInt64] at h2
    rcases h with h | h
    · rw [Int32.lt_iff_toInt_lt, show (0 : Int32).toInt = 0 from by decide] at h
      omega
    · rw [Int32.le_iff_toInt_le, nI_toInt (by omega)] at h
      omega
theorem X5_arr_yes {g : Gs} {a i : Nat} (h0 : g.1 25 0 0 = nI a) (ha : a ≤ 24) (hi : i < a) : m_X5_isArray (nI i) g = some 1 := by
  unfold m_X5_isArray
  rw [h0, X5_within, if_pos]
  · rfl
  · rw [Int64.le_iff_toInt_le, Int64.le_iff_toInt_le, nl_m1 a ha, Int32.toInt_toInt64, show (0 : Int64).toInt = 0 from by decide, nI_toInt (by omega)]
    omega
/-- lengths -/
theorem X2_length_in {g : Gs} {o d rk : Nat} (ho : o < 25) (hd : d < rk) (hrk : rk ≤ 3) (hc : g.1 4 o 0 = nI rk) : m_X2_length o (nI d) g = some (lN (lenN (g.1 5 o d) (g.1 6 o d))) := by
  unfold m_X2_length
  rw [chk_t ho, hc, if_pos (nI_lt hd (by omega)), chk_t (inb_n (by omega) (by decide)), chk_t (inb_n (by omega) (by decide)), nI_clamp (by omega), len_lN]
theorem X2_length_out {g : Gs} {o d rk : Nat} (ho : o < 25) (hd : rk ≤ d) (hd2 : d ≤ 3) (hc : g.1 4 o 0 = nI rk) : m_X2_length o (nI d) g = some (lN 1) := by
  unfold m_X2_length
  rw [chk_t ho, hc, if_neg (nI_nlt hd (by omega))]
  rfl
theorem X5_length (lo hi : Int32) (g : Gs) : m_X5_length lo hi g = some (lN (lenN lo hi)) := by
  unfold m_X5_length m_X5_length_J19 lett
  simp only [lg_cmp_ge]
  rw [← len_lN]
  by_cases h : hi.toInt64 - lo.toInt64 + 1 < 0
  · rw [if_neg (Int64.not_le.mpr h), if_pos h]
  · rw [if_pos (Int64.not_lt.mp h), if_neg h]
theorem ix3 {i d : Nat} (hi : i < 24) (hd : d < 3) : (3 : Int32) * nI i + nI d = nI (3 * i + d) := by
  rw [show (3 : Int32) = nI 3 from rfl, pk_mul, nI_add]
theorem X5_lengthOf {g : Gs} {i d : Nat} (hi : i < 24) (hd : d < 3) : m_X5_lengthOf (nI i) (nI d) g = some (lN (lenN (g.1 28 0 (3 * i + d)) (g.1 29 0 (3 * i + d)))) := by
  unfold m_X5_lengthOf
  rw [ix3 hi hd, chk_t (inb_n (by omega) (by decide)), chk_t (inb_n (by omega) (by decide)), nI_clamp (by omega), X5_length]
  rfl
/-- an item's index in each dimension -/
def ixf (i j k : Int32) (d : Nat) : Int32 := if d = 0 then i else if d = 1 then j else k
def fbF (lo hi x : Nat → Int32) : Nat → Nat → Option Nat
  | _, 0 => none
  | d, m + 1 => if lo d ≤ x d ∧ x d ≤ hi d then fbF lo hi x (d + 1) m else some d
def plF (lo hi x : Nat → Int32) : Nat → Nat → Nat → Nat
  | y, _, 0 => y
  | y, d, m + 1 => plF lo hi x (y * lenN (lo d) (hi d) + offN (lo d) (x d)) (d + 1) m
theorem X2_indexOf {i j k : Int32} {d : Nat} (hd : d < 3) (g : Gs) : m_X2_indexOf (nI d) i j k g = some (ixf i j k d) := by
  have h3 : d = 0 ∨ d = 1 ∨ d = 2 := by omega
  rcases h3 with rfl | rfl | rfl <;> rfl
theorem X2_holds {g : Gs} {o d : Nat} (ho : o < 25) (hd : d < 3) (x : Int32) : m_X2_holds o (nI d) x g = some (if g.1 5 o d ≤ x ∧ x ≤ g.1 6 o d then 1 else 0) := by
  unfold m_X2_holds m_X2_holds_J24 m_X2_holds_J25
  rw [chk_t ho, chk_t (inb_n hd (by decide)), chk_t (inb_n hd (by decide)), nI_clamp (by omega)]
  by_cases h1 : x < g.1 5 o d
  · rw [if_pos h1, if_neg (fun q => Int32.not_le.mpr h1 q.1)]
    rfl
  · rw [if_neg h1]
    by_cases h2 : g.1 6 o d < x
    · rw [if_pos h2, if_neg (fun q => Int32.not_le.mpr h2 q.2)]
      rfl
    · rw [if_neg h2, if_pos ⟨Int32.not_lt.mp h1, Int32.not_lt.mp h2⟩]
      rfl
theorem X2_offset {g : Gs} {o d : Nat} (ho : o < 25) (hd : d < 3) (x : Int32) : m_X2_offset o (nI d) x g = some (x - g.1 5 o d) := by
  unfold m_X2_offset
  rw [chk_t ho, chk_t (inb_n hd (by decide)), nI_clamp (by omega)]
theorem X2_fb_L {g : Gs} {o rk : Nat} {i j k : Int32} (ho : o < 25) (hrk : rk ≤ 3) (hc : g.1 4 o 0 = nI rk) : ∀ (m d f : Nat), d + m = rk → m < f → m_X2_firstBeyond_L3 o i j k g f (nI d) = some (match fbF (g.1 5 o) (g.1 6 o) (ixf i j k) d m with | none => .inr () | some e => .inl (nI e)) := by
  intro m
  induction m with
  | zero =>
    intro d f hd hf
    obtain ⟨f, rfl⟩ : ∃ f2, f = f2 + 1 := ⟨f - 1, by omega⟩
    rw [m_X2_firstBeyond_L3, hc, if_pos (nI_le (by omega) (by omega))]
    rfl
  | succ m ih =>
    intro d f hd hf
    obtain ⟨f, rfl⟩ : ∃ f2, f = f2 + 1 := ⟨f - 1, by omega⟩
    rw [m_X2_firstBeyond_L3, hc, if_neg (nI_ge (by omega) (by omega)), X2_indexOf (by omega)]
    simp only [Option.bind_some, X2_holds ho (show d < 3 by omega), lett, fbF]
    by_cases h : g.1 5 o d ≤ ixf i j k d ∧ ixf i j k d ≤ g.1 6 o d
    · rw [if_pos h, if_pos h, if_neg (by decide), nI_1, ih (d + 1) f (by omega) (by omega)]
    · rw [if_neg h, if_neg h, if_pos rfl]
theorem FU_big {m : Nat} (h : m ≤ 65000) : m < FU := by unfold FU; omega
theorem X2_firstBeyond {g : Gs} {o rk : Nat} {i j k : Int32} (ho : o < 25) (hrk : rk ≤ 3) (hc : g.1 4 o 0 = nI rk) : m_X2_firstBeyond o i j k g = some (match fbF (g.1 5 o) (g.1 6 o) (ixf i j k) 0 rk with | none => -1 | some e => nI e) := by
  simp only [m_X2_firstBeyond, lett]
  rw [chk_t ho, show (0 : Int32) = nI 0 from rfl, X2_fb_L ho hrk hc rk 0 FU (by omega) (FU_big (by omega))]
  cases fbF (g.1 5 o) (g.1 6 o) (ixf i j k) 0 rk <;> rfl
theorem fb_none {lo hi x : Nat → Int32} : ∀ m d, fbF lo hi x d m = none → ∀ e, d ≤ e → e < d + m → lo e ≤ x e ∧ x e ≤ hi e := by
  intro m
  induction m with
  | zero => intro d _ e h1 h2; omega
  | succ m ih =>
    intro d h e h1 h2
    unfold fbF at h
    split at h
    · rename_i q
      by_cases he : e = d
      · subst he; exact q
      · exact ih (d + 1) h e (by omega) (by omega)
    · cases h
theorem fb_some {lo hi x : Nat → Int32} : ∀ m d e, fbF lo hi x d m = some e → d ≤ e ∧ e < d + m := by
  intro m
  induction m with
  | zero => intro d e h; cases h
  | succ m ih =>
    intro d e h
    unfold fbF at h
    split at h
    · have := ih (d + 1) e h
      omega
    · cases h
      omega
theorem X2_place_L {g : Gs} {o rk : Nat} {i j k : Int32} (ho : o < 25) (hrk : rk ≤ 3) (hc : g.1 4 o 0 = nI rk) (hin : ∀ e, e < rk → g.1 5 o e ≤ ixf i j k e ∧ ixf i j k e ≤ g.1 6 o e) : ∀ (m d f y : Nat), d + m = rk → m < f → m_X2_place_L6 o i j k g f (nI y) (nI d) = some (nI (plF (g.1 5 o) (g.1 6 o) (ixf i j k) y d m)) := by
  intro m
  induction m with
  | zero =>
    intro d f y hd hf
    obtain ⟨f, rfl⟩ : ∃ f2, f = f2 + 1 := ⟨f - 1, by omega⟩
    rw [m_X2_place_L6, hc, if_pos (nI_le (by omega) (by omega))]
    rfl
  | succ m ih =>
    intro d f y hd hf
    obtain ⟨f, rfl⟩ : ∃ f2, f = f2 + 1 := ⟨f - 1, by omega⟩
    rw [m_X2_place_L6, hc, if_neg (nI_ge (by omega) (by omega)), X2_length_in ho (by omega) hrk hc, X2_indexOf (by omega)]
    simp only [Option.bind_some, X2_offset ho (show d < 3 by omega), lett, plF]
    rw [lN_i, off32 (hin d (by omega)).1, pk_mul, nI_add, nI_1, ih (d + 1) f _ (by omega) (by omega)]
theorem X2_place {g : Gs} {o rk : Nat} {i j k : Int32} (ho : o < 25) (hrk : rk ≤ 3) (hc : g.1 4 o 0 = nI rk) (hin : ∀ e, e < rk → g.1 5 o e ≤ ixf i j k e ∧ ixf i j k e ≤ g.1 6 o e) : m_X2_place o i j k g = some (nI (plF (g.1 5 o) (g.1 6 o) (ixf i j k) 0 0 rk)) := by
  simp only [m_X2_place, lett]
  rw [chk_t ho, show (0 : Int32) = nI 0 from rfl, X2_place_L ho hrk hc hin rk 0 FU 0 (by omega) (FU_big (by omega))]
  rfl
theorem X5_place_L {g : Gs} {i rk : Nat} {x y z : Int32} {lo hi : Nat → Int32} (hi24 : i < 24) (hrk : rk ≤ 3) (hc : g.1 27 0 i = nI rk) (hlo : ∀ d, d < rk → g.1 28 0 (3 * i + d) = lo d ∧ g.1 29 0 (3 * i + d) = hi d) : ∀ (m d f v : Nat), d + m = rk → m < f → m_X5_placeOf_L6 (nI i) x y z f (lN v) (nI d) g = some (match fbF lo hi (ixf x y z) d m with | some e => .inl (-1, sI g 44 0 0 (nI e)) | none => .inr (lN (plF lo hi (ixf x y z) v d m), g)) := by
  intro m
  induction m with
  | zero =>
    intro d f v hd hf
    obtain ⟨f, rfl⟩ : ∃ f2, f = f2 + 1 := ⟨f - 1, by omega⟩
    rw [m_X5_placeOf_L6, chk_t (inb_n hi24 (by decide)), nI_clamp (by omega), hc, if_pos (nI_le (by omega) (by omega))]
    rfl
  | succ m ih =>
    intro d f v hd hf
    obtain ⟨f, rfl⟩ : ∃ f2, f = f2 + 1 := ⟨f - 1, by omega⟩
    have hdl := hlo d (by omega)
    rw [m_X5_placeOf_L6, chk_t (inb_n hi24 (by decide)), nI_clamp (by omega), hc, if_neg (nI_ge (by omega) (by omega))]
    have hj1 : inb ((3 : Int32) * nI i + nI d) 72 := by rw [ix3 hi24 (by omega)]; exact inb_n (by omega) (by decide)
    have ht : ∀ w : Int32, w = ixf x y z d → ((m_X5_within w.toInt64 ((g.1 28 0 (((3 : Int32) * nI i) + nI d).toNatClampNeg).toInt64) ((g.1 29 0 (((3 : Int32) * nI i) + nI d).toNatClampNeg).toInt64) g).bind fun x_40 => if x_40 = 0 then (lett (sI g 44 0 0 (nI d)) fun g_49 => some (.inl ((-1 : Int32), g_49))) else ((m_X5_lengthOf (nI i) (nI d) g).bind fun y_43 => chk (inb (((3 : Int32) * nI i) + nI d) 72) (lett ((lN v * y_43) + (w.toInt64 - (g.1 28 0 (((3 : Int32) * nI i) + nI d).toNatClampNeg).toInt64)) fun y_45 => lett (nI d + 1) fun x_47 => m_X5_placeOf_L6 (nI i) x y z f y_45 x_47 g))) = some (match fbF lo hi (ixf x y z) d (m + 1) with | some e => .inl (-1, sI g 44 0 0 (nI e)) | none => .inr (lN (plF lo hi (ixf x y z) v d (m + 1)), g)) := by
      intro w hw
      simp only [chk_t hj1]
      rw [ix3 hi24 (by omega), nI_clamp (by omega), hdl.1, hdl.2, X5_withinI, X5_lengthOf hi24 (by omega), hdl.1, hdl.2]
      simp only [Option.bind_some, lett, fbF, plF]
      by_cases h : lo d ≤ w ∧ w ≤ hi d
      · rw [if_pos h, if_neg (by decide), off64 h.1, lN_mul, lN_add, nI_1, ih (d + 1) f _ (by omega) (by omega)]
        rw [hw] at h ⊢
        rw [if_pos h]
      · rw [if_neg h, if_pos rfl]
        rw [hw] at h
        rw [if_neg h]
    have h3 : d = 0 ∨ d = 1 ∨ d = 2 := by omega
    rcases h3 with rfl | rfl | rfl
    · rw [if_pos (by decide), chk_t hj1, chk_t hj1]
      exact ht x rfl
    · rw [if_neg (by decide), if_pos (by decide), chk_t hj1, chk_t hj1]
      exact ht y rfl
    · rw [if_neg (by decide), if_neg (by decide), chk_t hj1, chk_t hj1]
      exact ht z rfl
theorem X5_placeOf {g : Gs} {i rk : Nat} {x y z : Int32} {lo hi : Nat → Int32} (hi24 : i < 24) (hrk : rk ≤ 3) (hc : g.1 27 0 i = nI rk) (hlo : ∀ d, d < rk → g.1 28 0 (3 * i + d) = lo d ∧ g.1 29 0 (3 * i + d) = hi d) : m_X5_placeOf (nI i) x y z g = some (match fbF lo hi (ixf x y z) 0 rk with | some e => (-1, sI g 44 0 0 (nI e)) | none => (nI (plF lo hi (ixf x y z) 0 0 rk), g)) := by
  simp only [m_X5_placeOf, lett]
  rw [show (0 : Int64) = lN 0 from rfl, show (0 : Int32) = nI 0 from rfl, X5_place_L hi24 hrk hc hlo rk 0 FU 0 (by omega) (FU_big (by omega))]
  cases fbF lo hi (ixf x y z) 0 rk with
  | none => simp [exi, lN_i]
  | some e => simp [exi]
theorem fbF_congr {lo hi lo2 hi2 x : Nat → Int32} : ∀ m d, (∀ e, d ≤ e → e < d + m → lo2 e = lo e ∧ hi2 e = hi e) → fbF lo2 hi2 x d m = fbF lo hi x d m := by
  intro m
  induction m with
  | zero => intro d _; rfl
  | succ m ih =>
    intro d h
    simp only [fbF, (h d (by omega) (by omega)).1, (h d (by omega) (by omega)).2, ih (d + 1) (fun e h1 h2 => h e (by omega) (by omega))]
/-- the place is in the row -/
def prN (lo hi : Nat → Int32) : Nat → Nat
  | 0 => 1
  | d + 1 => prN lo hi d * lenN (lo d) (hi d)
theorem itN_pr (g : Gs) (o : Nat) : ∀ d, itN g o d = prN (g.1 5 o) (g.1 6 o) d := by
  intro d
  induction d with
  | zero => rfl
  | succ d ih => simp only [itN, prN, ih]
theorem pl_lt {lo hi x : Nat → Int32} : ∀ m d y, y < prN lo hi d → (∀ e, d ≤ e → e < d + m → lo e ≤ x e ∧ x e ≤ hi e) → plF lo hi x y d m < prN lo hi (d + m) := by
  intro m
  induction m with
  | zero => intro d y hy _; exact hy
  | succ m ih =>
    intro d y hy h
    have hd := h d (by omega) (by omega)
    have ho := off_lt hd.1 hd.2
    have h1 : y * lenN (lo d) (hi d) + offN (lo d) (x d) < prN lo hi (d + 1) := by
      simp only [prN]
      have h2 : (y + 1) * lenN (lo d) (hi d) ≤ prN lo hi d * lenN (lo d) (hi d) := Nat.mul_le_mul_right _ hy
      rw [Nat.add_mul, Nat.one_mul] at h2
      omega
    have := ih (d + 1) _ h1 (fun e h1 h2 => h e (by omega) (by omega))
    rw [show d + (m + 1) = d + 1 + m by omega]
    exact this
