/-! the town and the book -/
def TR (ce ho ow hd li go lk : Nat → Int32) (wc wy wf hr dy : Int32) (N : Nat → Int32) : Prop :=
  (∀ i, i < 6 → ce i = N i) ∧ (∀ i, i < 6 → ho i = N (6 + i)) ∧ (∀ i, i < 6 → ow i = N (12 + i)) ∧ (∀ i, i < 6 → hd i = N (18 + i)) ∧ (∀ i, i < 6 → li i = N (24 + i)) ∧ (∀ i k, i < 6 → k < 3 → go (i * 3 + k) = N (30 + 6 * k + i)) ∧ (∀ k, k < 3 → lk k = N (53 + k)) ∧ wc = N 48 ∧ wy = N 49 ∧ wf = N 50 ∧ hr = N 51 ∧ dy = N 52
def BH (N : Nat → Int32) : Prop := ∀ i a, i < 6 → a < 6 → N (18 + i) = nI a → N a = N i ∧ N (18 + a) = -6 ∧ ∀ j, j < 6 → N (18 + j) = nI a → j = i
def BI (N : Nat → Int32) : Prop :=
  (∀ i, i < 6 → ∃ a, a < 12 ∧ N i = nI a) ∧ (∀ i, i < 6 → ∃ a, a < 256 ∧ N (6 + i) = nI a) ∧ (∀ i, i < 6 → ∃ a, a < 10 ∧ N (12 + i) = nI a) ∧ (∀ i, i < 6 → N (18 + i) = -6 ∨ ∃ a, a < 6 ∧ N (18 + i) = nI a) ∧ (∀ i, i < 6 → N (24 + i) = -6 ∨ ∃ a, a < 12 ∧ N (24 + i) = nI a) ∧ (∀ i, i < 18 → ∃ a, a < 10 ∧ N (30 + i) = nI a) ∧
  (∃ a, a < 12 ∧ N 48 = nI a) ∧ (∃ a, a < 2 ∧ N 49 = nI a) ∧ (∃ a, 1 ≤ a ∧ a < 10 ∧ N 50 = nI a) ∧ (∃ a, a < 8 ∧ N 51 = nI a) ∧ (∃ a, a < 100 ∧ N 52 = nI a) ∧ (∀ i, i < 3 → ∃ a, a < 4 ∧ N (53 + i) = nI a) ∧ BH N
/-- at peace -/
def pcb (N : Nat → Int32) (w : Nat) : Bool := !decide (sr (N (6 + w)) (N 51) &&& 1 = 0) && !decide ((4 : Int32) ≤ N (12 + w))
theorem bI_or {p q : Prop} [Decidable p] [Decidable q] (h : p ↔ q) : bI p = bI q := by
  unfold bI
  by_cases hp : p
  · rw [if_pos hp, if_pos (h.mp hp)]
  · rw [if_neg hp, if_neg (fun e => hp (h.mpr e))]
theorem f_peaceM (N : Nat → Int32) {w : Nat} (hw : w < 6) : fX12_atPeace N (nI w) = some (bI (pcb N w = true)) := by
  unfold fX12_atPeace fX12_atPeace_b39 fX12_atPeace_b40
  simp (disch := omega) only [l_add, inb_t, inb_lit, toN_t, toN_lit, gd_T, f_hasM, Option.bind_some, bI0]
  unfold pcb
  by_cases h1 : sr (N (6 + w)) (N 51) &&& 1 = 0
  · simp [h1, gd, bI]
  · by_cases h2 : (4 : Int32) ≤ N (12 + w)
    · simp [h1, h2, gd, bI]
    · simp [h1, h2, gd, bI]
theorem f_peace {ho ow N : Nat → Int32} {hr : Int32} (h1 : ∀ i, i < 6 → ho i = N (6 + i)) (h2 : ∀ i, i < 6 → ow i = N (12 + i)) (h3 : hr = N 51) {w : Nat} (hw : w < 6) : fX8_atPeace hr ho ow (nI w) = some (bI (pcb N w = true)) := by
  unfold fX8_atPeace fX8_atPeace_b30 fX8_atPeace_b31
  simp (disch := omega) only [inb_t, toN_t, gd_T, f_has, Option.bind_some, bI0, h1 w hw, h2 w hw, h3]
  unfold pcb
  by_cases h1 : sr (N (6 + w)) (N 51) &&& 1 = 0
  · simp [h1, gd, bI]
  · by_cases h2 : (4 : Int32) ≤ N (12 + w)
    · simp [h1, h2, gd, bI]
    · simp [h1, h2, gd, bI]
theorem f_holder0 {N : Nat → Int32} {v : Int32} (h : ∀ x, x < 6 → N (18 + x) ≠ v) : fX12_holder N v = some (-6) := by
  have L : ∀ n i, i ≤ 6 → 6 - i < n → fX12_holder_L2 N v n (nI i) = some (-6) := by
    intro n
    induction n with
    | zero => intro i _ h2; omega
    | succ n ih =>
      intro i hi hn
      rw [fX12_holder_L2]
      by_cases h6 : i = 6
      · subst h6; rfl
      · have hlt : i < 6 := by omega
        simp (disch := omega) only [lit_nI_le, l_add, inb_t, toN_t, gd_T, h i hlt, if_false, a_lit]
        rw [if_neg (by omega)]
        exact ih (i + 1) (by omega) (by omega)
  exact L zF 0 (by omega) (by decide)
theorem f_holder1 {N : Nat → Int32} {v : Int32} {x : Nat} (hx : x < 6) (hv : N (18 + x) = v) (h : ∀ y, y < x → N (18 + y) ≠ v) : fX12_holder N v = some (nI x) := by
  have L : ∀ n i, i ≤ x → 6 - i < n → fX12_holder_L2 N v n (nI i) = some (nI x) := by
    intro n
    induction n with
    | zero => intro i _ h2; omega
    | succ n ih =>
      intro i hi hn
      rw [fX12_holder_L2]
      simp (disch := omega) only [lit_nI_le, l_add, inb_t, toN_t, gd_T, a_lit]
      rw [if_neg (by omega)]
      by_cases h6 : i = x
      · subst h6; rw [if_pos hv]
      · rw [if_neg (h i (by omega))]
        exact ih (i + 1) (by omega) (by omega)
  exact L zF 0 (by omega) (by unfold zF; omega)
theorem f_held0 {hd : Nat → Int32} {v : Int32} (h : ∀ x, x < 6 → hd x ≠ v) : fX8_isHeld hd v = some 0 := by
  have L : ∀ n i, i ≤ 6 → 6 - i < n → fX8_isHeld_L2 hd v n (nI i) = some 0 := by
    intro n
    induction n with
    | zero => intro i _ h2; omega
    | succ n ih =>
      intro i hi hn
      rw [fX8_isHeld_L2]
      by_cases h6 : i = 6
      · subst h6; rfl
      · have hlt : i < 6 := by omega
        simp (disch := omega) only [lit_nI_le, l_add, inb_t, toN_t, gd_T, h i hlt, if_false, a_lit]
        rw [if_neg (by omega)]
        exact ih (i + 1) (by omega) (by omega)
  exact L zF 0 (by omega) (by decide)
theorem f_held1 {hd : Nat → Int32} {v : Int32} {x : Nat} (hx : x < 6) (hv : hd x = v) : fX8_isHeld hd v = some 1 := by
  have L : ∀ n i, i ≤ x → 6 - i < n → fX8_isHeld_L2 hd v n (nI i) = some 1 := by
    intro n
    induction n with
    | zero => intro i _ h2; omega
    | succ n ih =>
      intro i hi hn
      rw [fX8_isHeld_L2]
      simp (disch := omega) only [lit_nI_le, l_add, inb_t, toN_t, gd_T, a_lit]
      rw [if_neg (by omega)]
      by_cases h5 : hd i = v
      · rw [if_pos h5]
      · rw [if_neg h5]
        by_cases h6 : i = x
        · subst h6; exact absurd hv h5
        · exact ih (i + 1) (by omega) (by omega)
  exact L zF 0 (by omega) (by unfold zF; omega)
