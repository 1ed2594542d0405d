/-! PURE: cut's loops. -/
def ctI (sl : Nat → Int32) (L1 L2 q : Nat) : Nat → Int32 := ixf (sl 0 + nI (q / L2 / L1)) (sl 1 + nI (q / L2 % L1)) (sl 2 + nI (q % L2))
def ctB (sl lo hi : Nat → Int32) (rk L1 L2 q : Nat) : Option Nat := fbF lo hi (ctI sl L1 L2 q) 0 rk
def ctP (sl lo hi : Nat → Int32) (rk L1 L2 q : Nat) : Nat := plF lo hi (ctI sl L1 L2 q) 0 0 rk
def bdF (B : Nat → Option Nat) : Nat → Nat → Option (Nat × Nat)
  | 0, _ => none
  | m + 1, q => match B q with
    | some e => some (q, e)
    | none => bdF B m (q + 1)
theorem bdF_s {B : Nat → Option Nat} {m q e : Nat} (h : B q = some e) : bdF B (m + 1) q = some (q, e) := by simp only [bdF, h]
theorem bdF_n {B : Nat → Option Nat} {m q : Nat} (h : B q = none) : bdF B (m + 1) q = bdF B m (q + 1) := by simp only [bdF, h]
theorem bdF_some {B : Nat → Option Nat} : ∀ m q r e, bdF B m q = some (r, e) → q ≤ r ∧ r < q + m ∧ B r = some e := by
  intro m
  induction m with
  | zero => intro q r e h; cases h
  | succ m ih =>
    intro q r e h
    cases hB : B q with
    | some e2 =>
      rw [bdF_s hB] at h
      cases h
      exact ⟨by omega, by omega, hB⟩
    | none =>
      rw [bdF_n hB] at h
      obtain ⟨h1, h2, h3⟩ := ih (q + 1) r e h
      exact ⟨by omega, by omega, h3⟩
theorem bdF_none {B : Nat → Option Nat} : ∀ m q, bdF B m q = none → ∀ j, q ≤ j → j < q + m → B j = none := by
  intro m
  induction m with
  | zero => intro q _ j h1 h2; omega
  | succ m ih =>
    intro q h j h1 h2
    cases hB : B q with
    | some e2 =>
      rw [bdF_s hB] at h
      cases h
    | none =>
      rw [bdF_n hB] at h
      by_cases e : j = q
      · rw [e]; exact hB
      · exact ih (q + 1) h j (by omega) (by omega)
theorem bdF_add {B : Nat → Option Nat} : ∀ m k q, bdF B (m + k) q = match bdF B m q with | some r => some r | none => bdF B k (q + m) := by
  intro m
  induction m with
  | zero => intro k q; rw [Nat.zero_add]; rfl
  | succ m ih =>
    intro k q
    rw [show m + 1 + k = (m + k) + 1 by omega]
    cases hB : B q with
    | some e => rw [bdF_s hB, bdF_s hB]
    | none => rw [bdF_n hB, bdF_n hB, ih k (q + 1), show q + 1 + m = q + (m + 1) by omega]
/-- what the loops read -/
def CtH (g : Gs) (b d rk : Nat) (sl sh lo hi : Nat → Int32) : Prop := g.1 4 0 0 = nI d ∧ g.1 5 0 = sl ∧ g.1 6 0 = sh ∧ g.1 4 (b + 1) 0 = nI rk ∧ g.1 5 (b + 1) = lo ∧ g.1 6 (b + 1) = hi
theorem CtH_st {g : Gs} {b d rk : Nat} {sl sh lo hi : Nat → Int32} (h : CtH g b d rk sl sh lo hi) (f : Nat → Int32) (x y : Nat) : CtH (stF g f x y) b d rk sl sh lo hi := by
  have e : ∀ c o, c ≠ 3 → (stF g f x y).1 c o = g.1 c o := fun c o z => by
    funext j
    rw [stF_1, if_neg (by omega)]
  unfold CtH
  rw [e 4 0 (by decide), e 5 0 (by decide), e 6 0 (by decide), e 4 (b + 1) (by decide), e 5 (b + 1) (by decide), e 6 (b + 1) (by decide)]
  exact h
def LenE (d : Nat) (sl sh : Nat → Int32) (e : Nat) : Nat := if e < d then lenN (sl e) (sh e) else 1
theorem len_e {g : Gs} {b d rk : Nat} {sl sh lo hi : Nat → Int32} (h : CtH g b d rk sl sh lo hi) (hd : d ≤ 3) {e : Nat} (he : e ≤ 3) : m_X2_length 0 (nI e) g = some (lN (LenE d sl sh e)) := by
  obtain ⟨h4, h5, h6, -⟩ := h
  unfold LenE
  by_cases q : e < d
  · rw [if_pos q, X2_length_in (by omega) q hd h4, h5, h6]
  · rw [if_neg q, X2_length_out (by omega) (by omega) he h4]
theorem lett_e {α β : Type} (x : α) (k : α → Option β) : lett x k = k x := (Eq.refl (lett x k)).trans (Eq.refl (k x))
theorem cut_z {b d rk s L1 L2 x y : Nat} {sl sh lo hi : Nat → Int32} (hb : b < 24) (hd : d ≤ 3) (hrk : rk ≤ 3) (hL2 : LenE d sl sh 2 = L2) (hL5 : L2 ≤ 500) (hy : y < L1) : ∀ m z fu g q, z + m = L2 → m < fu → q = (x * L1 + y) * L2 + z → q + m ≤ 500 → CtH g b d rk sl sh lo hi → m_X4_findCut_L65 b (nI s) (nI x) (nI y) fu (nI q) (nI z) g = some (match bdF (ctB sl lo hi rk L1 L2) m q with | some (r, e) => .inl (nI e, stF g (fun j => nI (s + ctP sl lo hi rk L1 L2 j)) q r) | none => .inr (nI (q + m), stF g (fun j => nI (s + ctP sl lo hi rk L1 L2 j)) q (q + m))) := by
  intro m
  induction m with
  | zero =>
    intro z fu g q hz hf hq h5 hC
    obtain ⟨fu, rfl⟩ : ∃ f2, fu = f2 + 1 := ⟨fu - 1, by omega⟩
    have hl : m_X2_length 0 2 g = some (lN L2) := by rw [← hL2]; exact len_e hC hd (e := 2) (by omega)
    rw [m_X4_findCut_L65, hl]
    simp only [Option.bind_some, lg_cmp_ge, nI_l (show z < 2 ^ 31 by omega)]
    rw [if_pos ((lN_le (by omega) (by omega)).mpr (by omega))]
    show _ = some (Sum.inr (nI (q + 0), stF g _ q (q + 0)))
    rw [Nat.add_zero, stF_nil]
  | succ m ih =>
    intro z fu g q hz hf hq h5 hC
    obtain ⟨fu, rfl⟩ : ∃ f2, fu = f2 + 1 := ⟨fu - 1, by omega⟩
    have hl : m_X2_length 0 2 g = some (lN L2) := by rw [← hL2]; exact len_e hC hd (e := 2) (by omega)
    obtain ⟨c4, c5, c6, k4, k5, k6⟩ := id hC
    obtain ⟨q1, q2, q3, q4⟩ := dm_at (A := L1) (D := L2) (x := y) (y := x) (z := z) hy (by omega)
    have hI : ctI sl L1 L2 q = ixf (sl 0 + nI x) (sl 1 + nI y) (sl 2 + nI z) := by
      unfold ctI
      rw [hq, q1, q2, q3, q4]
    have hfb := X2_firstBeyond (g := g) (o := b + 1) (rk := rk) (i := sl 0 + nI x) (j := sl 1 + nI y) (k := sl 2 + nI z) (by omega) hrk k4
    rw [k5, k6] at hfb
    have z0 : (0 : Int32).toNatClampNeg = 0 := by decide
    have z1 : (1 : Int32).toNatClampNeg = 1 := by decide
    have z2 : (2 : Int32).toNatClampNeg = 2 := by decide
    have hnz : ¬ lN L2 ≤ lN z := fun w => by have := (lN_le (by omega) (by omega)).mp w; omega
    rw [m_X4_findCut_L65, hl]
    simp only [Option.bind_some, lg_cmp_ge, nI_l (show z < 2 ^ 31 by omega), if_neg hnz, chk_t (show inb (0 : Int32) 3 by decide), chk_t (show inb (1 : Int32) 3 by decide), chk_t (show inb (2 : Int32) 3 by decide), z0, z1, z2, lett_e, c5, hfb, nI_1]
    cases hB : fbF lo hi (ixf (sl 0 + nI x) (sl 1 + nI y) (sl 2 + nI z)) 0 rk with
    | some e =>
      have hB2 : ctB sl lo hi rk L1 L2 q = some e := by unfold ctB; rw [hI]; exact hB
      have he := fb_some rk 0 e hB
      rw [bdF_s hB2]
      simp only
      rw [if_neg (nI_ne_m1 (show e < 2 ^ 31 by omega)), stF_nil]
    | none =>
      have hB2 : ctB sl lo hi rk L1 L2 q = none := by unfold ctB; rw [hI]; exact hB
      have hin := fb_none rk 0 hB
      have hpl := X2_place (g := g) (o := b + 1) (rk := rk) (i := sl 0 + nI x) (j := sl 1 + nI y) (k := sl 2 + nI z) (by omega) hrk k4 (fun e he => by rw [k5, k6]; exact hin e (by omega) (by omega))
      rw [k5, k6, ← hI] at hpl
      have hpl2 : m_X2_place (b + 1) (sl 0 + nI x) (sl 1 + nI y) (sl 2 + nI z) g = some (nI (ctP sl lo hi rk L1 L2 q)) := hpl
      rw [bdF_n hB2]
      simp only [if_true, hpl2, Option.bind_some, chk_t (inb_m (show q < 500 by omega) (by omega)), nI_clamp (show q < 2 ^ 31 by omega), nI_add]
      have e1 := stF_one g (fun j => nI (s + ctP sl lo hi rk L1 L2 j)) q
      rw [e1, ih (z + 1) fu _ (q + 1) (by omega) (by omega) (by omega) (by omega) (CtH_st hC _ _ _)]
      cases hb2 : bdF (ctB sl lo hi rk L1 L2) m (q + 1) with
      | some re =>
        obtain ⟨r, e⟩ := re
        have := bdF_some m (q + 1) r e hb2
        simp only
        rw [stF_cons (by omega) (by omega)]
      | none =>
        simp only
        rw [stF_cons (by omega) (by omega), show q + 1 + m = q + (m + 1) by omega]
theorem cut_y {b d rk s L1 L2 x : Nat} {sl sh lo hi : Nat → Int32} (hb : b < 24) (hd : d ≤ 3) (hrk : rk ≤ 3) (hL1 : LenE d sl sh 1 = L1) (hL2 : LenE d sl sh 2 = L2) (hL5 : L2 ≤ 500) (hL15 : L1 ≤ 500) : ∀ m y fu g q, y + m = L1 → m < fu → q = (x * L1 + y) * L2 → q + m * L2 ≤ 500 → CtH g b d rk sl sh lo hi → m_X4_findCut_L47 b (nI s) (nI x) fu (nI q) (nI y) g = some (match bdF (ctB sl lo hi rk L1 L2) (m * L2) q with | some (r, e) => .inl (nI e, stF g (fun j => nI (s + ctP sl lo hi rk L1 L2 j)) q r) | none => .inr (nI (q + m * L2), stF g (fun j => nI (s + ctP sl lo hi rk L1 L2 j)) q (q + m * L2))) := by
  intro m
  induction m with
  | zero =>
    intro y fu g q hy hf hq h5 hC
    obtain ⟨fu, rfl⟩ : ∃ f2, fu = f2 + 1 := ⟨fu - 1, by omega⟩
    have hl : m_X2_length 0 1 g = some (lN L1) := by rw [← hL1]; exact len_e hC hd (e := 1) (by omega)
    rw [m_X4_findCut_L47, hl]
    simp only [Option.bind_some, lg_cmp_ge, nI_l (show y < 2 ^ 31 by omega)]
    rw [if_pos ((lN_le (by omega) (by omega)).mpr (by omega)), Nat.zero_mul]
    show _ = some (Sum.inr (nI (q + 0), stF g _ q (q + 0)))
    rw [Nat.add_zero, stF_nil]
  | succ m ih =>
    intro y fu g q hy hf hq h5 hC
    obtain ⟨fu, rfl⟩ : ∃ f2, fu = f2 + 1 := ⟨fu - 1, by omega⟩
    have hl : m_X2_length 0 1 g = some (lN L1) := by rw [← hL1]; exact len_e hC hd (e := 1) (by omega)
    rw [Nat.succ_mul] at h5
    have hin := cut_z (b := b) (d := d) (rk := rk) (s := s) (L1 := L1) (L2 := L2) (x := x) (y := y) (sl := sl) (sh := sh) (lo := lo) (hi := hi) hb hd hrk hL2 hL5 (by omega) L2 0 FU g q (by omega) (FU_big (by omega)) (by omega) (by omega) hC
    rw [nl0] at hin
    have hnz : ¬ lN L1 ≤ lN y := fun w => by have := (lN_le (by omega) (by omega)).mp w; omega
    rw [m_X4_findCut_L47, hl]
    simp only [Option.bind_some, lg_cmp_ge, nI_l (show y < 2 ^ 31 by omega), if_neg hnz, lett, hin, nI_1]
    rw [Nat.succ_mul, Nat.add_comm (m * L2) L2, bdF_add]
    cases hb2 : bdF (ctB sl lo hi rk L1 L2) L2 q with
    | some re =>
      obtain ⟨r, e⟩ := re
      rfl
    | none =>
      simp only [exi]
      rw [ih (y + 1) fu _ (q + L2) (by omega) (by omega) (by rw [hq, ← Nat.succ_mul]; rfl) (by omega) (CtH_st hC _ _ _)]
      cases hb3 : bdF (ctB sl lo hi rk L1 L2) (m * L2) (q + L2) with
      | some re =>
        obtain ⟨r, e⟩ := re
        have := bdF_some _ _ r e hb3
        simp only
        rw [stF_cons (by omega) (by omega)]
      | none =>
        simp only
        rw [stF_cons (by omega) (by omega), show q + L2 + m * L2 = q + (L2 + m * L2) by omega]
theorem cut_x {b d rk s L0 L1 L2 : Nat} {sl sh lo hi : Nat → Int32} (hb : b < 24) (hd : d ≤ 3) (hrk : rk ≤ 3) (hL0 : LenE d sl sh 0 = L0) (hL1 : LenE d sl sh 1 = L1) (hL2 : LenE d sl sh 2 = L2) (hL5 : L2 ≤ 500) (hL15 : L1 ≤ 500) (hL05 : L0 ≤ 500) : ∀ m x fu g q, x + m = L0 → m < fu → q = x * L1 * L2 → q + m * (L1 * L2) ≤ 500 → CtH g b d rk sl sh lo hi → m_X4_findCut_L29 b (nI s) fu (nI q) (nI x) g = some (match bdF (ctB sl lo hi rk L1 L2) (m * (L1 * L2)) q with | some (r, e) => .inl (nI e, stF g (fun j => nI (s + ctP sl lo hi rk L1 L2 j)) q r) | none => .inr (stF g (fun j => nI (s + ctP sl lo hi rk L1 L2 j)) q (q + m * (L1 * L2)))) := by
  intro m
  induction m with
  | zero =>
    intro x fu g q hx hf hq h5 hC
    obtain ⟨fu, rfl⟩ : ∃ f2, fu = f2 + 1 := ⟨fu - 1, by omega⟩
    have hl : m_X2_length 0 0 g = some (lN L0) := by rw [← hL0]; exact len_e hC hd (e := 0) (by omega)
    rw [m_X4_findCut_L29, hl]
    simp only [Option.bind_some, lg_cmp_ge, nI_l (show x < 2 ^ 31 by omega)]
    rw [if_pos ((lN_le (by omega) (by omega)).mpr (by omega)), Nat.zero_mul]
    show _ = some (Sum.inr (stF g _ q (q + 0)))
    rw [Nat.add_zero, stF_nil]
  | succ m ih =>
    intro x fu g q hx hf hq h5 hC
    obtain ⟨fu, rfl⟩ : ∃ f2, fu = f2 + 1 := ⟨fu - 1, by omega⟩
    have hl : m_X2_length 0 0 g = some (lN L0) := by rw [← hL0]; exact len_e hC hd (e := 0) (by omega)
    rw [Nat.succ_mul] at h5
    have hin := cut_y (b := b) (d := d) (rk := rk) (s := s) (L1 := L1) (L2 := L2) (x := x) (sl := sl) (sh := sh) (lo := lo) (hi := hi) hb hd hrk hL1 hL2 hL5 hL15 L1 0 FU g q (by omega) (FU_big (by omega)) (by rw [Nat.add_zero]; exact hq) (by omega) hC
    rw [nl0] at hin
    have hnz : ¬ lN L0 ≤ lN x := fun w => by have := (lN_le (by omega) (by omega)).mp w; omega
    rw [m_X4_findCut_L29, hl]
    simp only [Option.bind_some, lg_cmp_ge, nI_l (show x < 2 ^ 31 by omega), if_neg hnz, lett, hin, nI_1]
    rw [Nat.succ_mul, Nat.add_comm (m * (L1 * L2)), bdF_add]
    cases hb2 : bdF (ctB sl lo hi rk L1 L2) (L1 * L2) q with
    | some re =>
      obtain ⟨r, e⟩ := re
      rfl
    | none =>
      simp only [exi]
      rw [ih (x + 1) fu _ (q + L1 * L2) (by omega) (by omega) (by rw [hq, Nat.succ_mul, Nat.add_mul]) (by omega) (CtH_st hC _ _ _)]
      cases hb3 : bdF (ctB sl lo hi rk L1 L2) (m * (L1 * L2)) (q + L1 * L2) with
      | some re =>
        obtain ⟨r, e⟩ := re
        have := bdF_some _ _ r e hb3
        simp only
        rw [stF_cons (by omega) (by omega)]
      | none =>
        simp only
        rw [stF_cons (by omega) (by omega), show q + L1 * L2 + m * (L1 * L2) = q + (L1 * L2 + m * (L1 * L2)) by omega]
/-- the reference's loops -/
def CtM (g : Gs) (b rk : Nat) (sl lo hi : Nat → Int32) : Prop := (∀ e, e < 3 → g.1 23 0 e = sl e) ∧ g.1 27 0 b = nI rk ∧ ∀ e, e < rk → g.1 28 0 (3 * b + e) = lo e ∧ g.1 29 0 (3 * b + e) = hi e
theorem ct_place {g : Gs} {b rk L1 L2 q : Nat} {sl lo hi : Nat → Int32} (hb : b < 24) (hrk : rk ≤ 3) (h : CtM g b rk sl lo hi) : m_X5_placeOf (nI b) (sl 0 + nI (q / L2 / L1)) (sl 1 + nI (q / L2 % L1)) (sl 2 + nI (q % L2)) g = some (match ctB sl lo hi rk L1 L2 q with | some e => (-1, sI g 44 0 0 (nI e)) | none => (nI (ctP sl lo hi rk L1 L2 q), g)) := X5_placeOf hb hrk h.2.1 h.2.2
theorem ct_div {q L1 L2 : Nat} (hq : q < 2 ^ 31) (h1 : 0 < L1) (h15 : L1 ≤ 500) (h2 : 0 < L2) (h25 : L2 ≤ 500) : nI q / nI L2 = nI (q / L2) ∧ nI (q / L2) / nI L1 = nI (q / L2 / L1) ∧ nI (q / L2) - nI (q / L2 / L1 * L1) = nI (q / L2 % L1) ∧ nI q - nI (q / L2 * L2) = nI (q % L2) := by
  have hdl : q / L2 ≤ q := Nat.div_le_self q L2
  refine ⟨pk_div hq h2 (by omega), pk_div (by omega) h1 (by omega), ?_, ?_⟩
  · have := remN (x := q / L2) (e := L1) (by omega) h1 (by omega)
    rw [pk_div (show q / L2 < 2 ^ 31 by omega) h1 (show L1 < 2 ^ 31 by omega), pk_mul] at this
    exact this
  · have := remN (x := q) (e := L2) (by omega) h2 (by omega)
    rw [pk_div hq h2 (show L2 < 2 ^ 31 by omega), pk_mul] at this
    exact this
theorem ct_lt {rk L1 L2 q : Nat} {sl lo hi : Nat → Int32} (h : ctB sl lo hi rk L1 L2 q = none) : ctP sl lo hi rk L1 L2 q < prN lo hi rk := by
  have hin := fb_none rk 0 h
  have := pl_lt (lo := lo) (hi := hi) (x := ctI sl L1 L2 q) rk 0 0 (by simp [prN]) (fun e h1 h2 => hin e h1 h2)
  rw [Nat.zero_add] at this
  exact this
theorem cut_1 {b rk N L1 L2 : Nat} {sl lo hi : Nat → Int32} {g : Gs} (hb : b < 24) (hrk : rk ≤ 3) (hpr : prN lo hi rk ≤ 500) (hN : N ≤ 500) (h1 : 0 < L1) (h15 : L1 ≤ 500) (h2 : 0 < L2) (h25 : L2 ≤ 500) (h : CtM g b rk sl lo hi) : ∀ m q fu, q + m = N → m < fu → m_X5_cut_L125 (nI b) (nI N) (nI L1) (nI L2) fu (nI q) g = some (match bdF (ctB sl lo hi rk L1 L2) m q with | some (r, e) => .inl (0, sI (sI (sI g 44 0 0 (nI e)) 21 0 0 (nI e)) 20 0 0 3) | none => .inr g) := by
  have z0 : (0 : Int32).toNatClampNeg = 0 := by decide
  have z1 : (1 : Int32).toNatClampNeg = 1 := by decide
  have z2 : (2 : Int32).toNatClampNeg = 2 := by decide
  have n1 : ¬ nI L1 = 0 := nI_ne0 h1 (by omega)
  have n2 : ¬ nI L2 = 0 := nI_ne0 h2 (by omega)
  intro m
  induction m with
  | zero =>
    intro q fu hq hf
    obtain ⟨fu, rfl⟩ : ∃ f2, fu = f2 + 1 := ⟨fu - 1, by omega⟩
    rw [m_X5_cut_L125, if_pos (nI_le (by omega) (by omega))]
    rfl
  | succ m ih =>
    intro q fu hq hf
    obtain ⟨fu, rfl⟩ : ∃ f2, fu = f2 + 1 := ⟨fu - 1, by omega⟩
    obtain ⟨v1, v2, v3, v4⟩ := ct_div (q := q) (by omega) h1 h15 h2 h25
    have hp := ct_place (q := q) (L1 := L1) (L2 := L2) hb hrk h
    rw [m_X5_cut_L125, if_neg (nI_ge (by omega) (by omega))]
    simp only [chk_t (show inb (0 : Int32) 3 by decide), chk_t (show inb (1 : Int32) 3 by decide), chk_t (show inb (2 : Int32) 3 by decide), chk_t n1, chk_t n2, z0, z1, z2, h.1 0 (by omega), h.1 1 (by omega), h.1 2 (by omega), v1, v2, pk_mul, v3, v4, m_X5_index, Option.bind_some, hp, lett, nI_1]
    cases hB : ctB sl lo hi rk L1 L2 q with
    | some e =>
      rw [bdF_s hB]
      simp only [if_true, m_noItem, Option.bind_some]
      have : (sI g 44 0 0 (nI e)).1 44 0 0 = nI e := by simp [gI]
      rw [this]
    | none =>
      rw [bdF_n hB]
      simp only
      have hlt := ct_lt hB
      rw [if_neg (nI_ne_m1 (show ctP sl lo hi rk L1 L2 q < 2 ^ 31 by omega))]
      exact ih (q + 1) fu (by omega) (by omega)
