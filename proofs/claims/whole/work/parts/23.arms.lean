/-! arms -/
def bB (b : Bool) : Int32 := if b = true then 1 else 0
theorem bB0 {b : Bool} : (bB b = 0) ↔ b = false := by cases b <;> decide
theorem nar1 : vp_nar .boolean 1 = bB true := by decide
theorem nar0 : vp_nar .boolean 0 = bB false := by decide
def AB (P : Nat → Int32) (b : Nat → Bool) : Prop := ∀ T, T < 64 → P T = bB (b T)
theorem AB_upd {P : Nat → Int32} {b b' : Nat → Bool} {k : Nat} {v : Bool} (h : AB P b) (h1 : b' k = v) (h2 : ∀ T, T < 64 → T ≠ k → b' T = b T) : AB (upd P k (bB v)) b' := by
  intro T hT
  by_cases q : T = k
  · subst q; rw [upd_eq rfl, h1]
  · rw [upd_ne q, h T hT, h2 T hT q]
theorem AB_ext {P : Nat → Int32} {b b' : Nat → Bool} (h : AB P b) (h2 : ∀ T, T < 64 → b' T = b T) : AB P b' := by
  intro T hT
  rw [h T hT, h2 T hT]
theorem or64 : ∀ s, s < 64 → ∀ i, i < 6 → s ||| 2 ^ i < 64 ∧ s ≤ s ||| 2 ^ i ∧ (s.testBit i = true → s ||| 2 ^ i = s) ∧ (s.testBit i = false → (s ||| 2 ^ i).testBit i = true ∧ (s ||| 2 ^ i) ^^^ 2 ^ i = s) := by decide +kernel
theorem xo64 : ∀ T, T < 64 → ∀ v, v < 6 → T.testBit v = true → T ^^^ 2 ^ v < T ∧ (T ^^^ 2 ^ v) ||| 2 ^ v = T ∧ nI T &&& (sl 1 (nI v) ^^^ (-1 : Int32)) = nI (T ^^^ 2 ^ v) := by decide +kernel
def ex (R s T : Nat) (i : Nat) : Nat → Bool
  | 0 => false
  | k + 1 => (R.testBit i && decide (T = s ||| 2 ^ i)) || ex R s T (i + 1) k
theorem ex_iff (R s T : Nat) : ∀ k i, ex R s T i k = true ↔ ∃ v, i ≤ v ∧ v < i + k ∧ R.testBit v = true ∧ T = s ||| 2 ^ v := by
  intro k
  induction k with
  | zero => intro i; rw [ex]; exact ⟨fun h => absurd h (by simp), fun ⟨v, h1, h2, _⟩ => absurd h2 (by omega)⟩
  | succ k ih =>
    intro i
    rw [ex, Bool.or_eq_true, Bool.and_eq_true, decide_eq_true_iff, ih]
    constructor
    · rintro (⟨h1, h2⟩ | ⟨v, h1, h2, h3, h4⟩)
      · exact ⟨i, by omega, by omega, h1, h2⟩
      · exact ⟨v, by omega, by omega, h3, h4⟩
    · rintro ⟨v, h1, h2, h3, h4⟩
      by_cases q : v = i
      · subst q; exact Or.inl ⟨h3, h4⟩
      · exact Or.inr ⟨v, by omega, by omega, h3, h4⟩
theorem f_L9 {R s : Nat} (hR : R < 64) (hs : s < 64) (K : (Nat → Int32) → Int32 → Option (Nat → Int32)) : ∀ k i, i + k = 6 → ∀ n, k < n → ∀ P b, AB P b → ∃ P', AB P' (fun T => b T || (b s && ex R s T i k)) ∧ fX6_addHolder_L9 (nI R) K n P (nI s) (nI i) = K P' (nI s + (-1)) := by
  intro k
  induction k with
  | zero =>
    intro i hi n hn P b h
    obtain ⟨n, rfl⟩ : ∃ q, n = q + 1 := ⟨n - 1, by omega⟩
    have : i = 6 := by omega
    subst this
    refine ⟨P, AB_ext h (fun T _ => by rw [ex]; simp), ?_⟩
    rw [fX6_addHolder_L9, if_pos (by decide)]; rfl
  | succ k ih =>
    intro i hi n hn P b h
    obtain ⟨n, rfl⟩ : ∃ q, n = q + 1 := ⟨n - 1, by omega⟩
    rw [fX6_addHolder_L9, if_neg (show ¬ (6 : Int32) ≤ nI i from nI_ge (a := i) (b := 6) (by omega) (by omega))]
    simp (disch := omega) only [inb_t, toN_t, gd_T, h s hs, bB0, f_has, bsome, bI0, sl_1, nx_or, fX6_addHolder_b43, fX6_addHolder_b49]
    obtain ⟨o1, o2, -⟩ := or64 s hs i (by omega)
    cases q : b s with
    | false =>
      rw [if_pos rfl]
      exact ⟨P, AB_ext h (fun T _ => by simp), rfl⟩
    | true =>
      rw [if_neg (by simp)]
      have hb := has_N (a := R) (k := i) (by omega) (by omega)
      by_cases r : R.testBit i = true
      · rw [if_neg (fun h => h (hb.mpr r))]
        simp (disch := omega) only [inb_t, toN_t, gd_T, nar1, nI_1]
        obtain ⟨P', h1, h2⟩ := ih (i + 1) (by omega) n (by omega) _ (fun T => b T || decide (T = s ||| 2 ^ i)) (AB_upd (v := true) h (by simp) (fun T _ hT => by simp [hT]))
        refine ⟨P', AB_ext h1 (fun T _ => ?_), h2⟩
        simp only [ex, q, r, Bool.true_or, Bool.true_and, Bool.or_assoc]
      · rw [if_pos (fun h => r (hb.mp h)), nI_1]
        obtain ⟨P', h1, h2⟩ := ih (i + 1) (by omega) n (by omega) P b h
        refine ⟨P', AB_ext h1 (fun T _ => ?_), h2⟩
        have r' : R.testBit i = false := by cases h : R.testBit i with | true => exact absurd h r | false => rfl
        simp only [ex, q, r', Bool.false_and, Bool.false_or, Bool.true_and]
def dn (R : Nat) : Nat → (Nat → Bool) → Nat → Bool
  | 0, b => b
  | s + 1, b => dn R s (fun T => b T || (b s && ex R s T 0 6))
theorem f_L3 {R : Nat} (hR : R < 64) : ∀ s, s ≤ 64 → ∀ n, s < n → ∀ P b, AB P b → ∃ P', AB P' (dn R s b) ∧ fX6_addHolder_L3 (nI R) n P (nI s + (-1)) = some P' := by
  intro s
  induction s with
  | zero =>
    intro _ n hn P b h
    obtain ⟨n, rfl⟩ : ∃ q, n = q + 1 := ⟨n - 1, by omega⟩
    refine ⟨P, h, ?_⟩
    rw [fX6_addHolder_L3, if_pos (by decide)]
  | succ s ih =>
    intro hs n hn P b h
    obtain ⟨n, rfl⟩ : ∃ q, n = q + 1 := ⟨n - 1, by omega⟩
    rw [fX6_addHolder_L3, pk_m1, if_neg (nI_nneg (by omega))]
    obtain ⟨P1, h1, h2⟩ := f_L9 hR (by omega : s < 64) (fX6_addHolder_L3 (nI R) n) 6 0 (by omega) zF (by unfold zF; omega) P b h
    have h2' : fX6_addHolder_L9 (nI R) (fX6_addHolder_L3 (nI R) n) zF P (nI s) 0 = _ := h2
    rw [h2']
    exact ih (by omega) n (by omega) P1 _ h1
theorem dn_iff {R : Nat} : ∀ s, s ≤ 64 → ∀ b T, T < 64 → (dn R s b T = true ↔ b T = true ∨ ∃ v, v < 6 ∧ R.testBit v = true ∧ T.testBit v = true ∧ T ^^^ 2 ^ v < s ∧ b (T ^^^ 2 ^ v) = true) := by
  intro s
  induction s with
  | zero => intro _ b T hT; rw [dn]; exact ⟨fun h => Or.inl h, fun h => h.elim id (fun ⟨v, _, _, _, h4, _⟩ => absurd h4 (by omega))⟩
  | succ s ih =>
    intro hs b T hT
    rw [dn, ih (by omega) _ T hT]
    simp only [Bool.or_eq_true, Bool.and_eq_true, ex_iff]
    constructor
    · rintro ((h | ⟨h1, v, -, h2, h3, h4⟩) | ⟨v, h1, h2, h3, h4, h5⟩)
      · exact Or.inl h
      · obtain ⟨o1, o2, o3, o4⟩ := or64 s (by omega) v (by omega)
        cases q : s.testBit v with
        | true => rw [o3 q] at h4; subst h4; exact Or.inl h1
        | false =>
          obtain ⟨o5, o6⟩ := o4 q
          rw [← h4] at o5 o6
          exact Or.inr ⟨v, by omega, h3, o5, by omega, by rw [o6]; exact h1⟩
      · rcases h5 with h5 | ⟨h5, w, -, h6, h7, h8⟩
        · exact Or.inr ⟨v, h1, h2, h3, by omega, h5⟩
        · obtain ⟨o1, o2, -⟩ := or64 s (by omega) w (by omega)
          omega
    · rintro (h | ⟨v, h1, h2, h3, h4, h5⟩)
      · exact Or.inl (Or.inl h)
      · by_cases q : T ^^^ 2 ^ v = s
        · obtain ⟨-, x2, -⟩ := xo64 T hT v h1 h3
          exact Or.inl (Or.inr ⟨by rw [← q]; exact h5, v, by omega, by omega, h2, by rw [← q]; exact x2.symm⟩)
        · exact Or.inr ⟨v, h1, h2, h3, by omega, Or.inl h5⟩
def ey (R T : Nat) (b : Nat → Bool) (i : Nat) : Nat → Bool
  | 0 => false
  | k + 1 => (T.testBit i && R.testBit i && b (T ^^^ 2 ^ i)) || ey R T b (i + 1) k
theorem ey_iff (R T : Nat) (b : Nat → Bool) : ∀ k i, ey R T b i k = true ↔ ∃ v, i ≤ v ∧ v < i + k ∧ T.testBit v = true ∧ R.testBit v = true ∧ b (T ^^^ 2 ^ v) = true := by
  intro k
  induction k with
  | zero => intro i; rw [ey]; exact ⟨fun h => absurd h (by simp), fun ⟨v, h1, h2, _⟩ => absurd h2 (by omega)⟩
  | succ k ih =>
    intro i
    rw [ey, Bool.or_eq_true, Bool.and_eq_true, Bool.and_eq_true, ih]
    constructor
    · rintro (⟨⟨h1, h2⟩, h3⟩ | ⟨v, h1, h2, h3, h4⟩)
      · exact ⟨i, by omega, by omega, h1, h2, h3⟩
      · exact ⟨v, by omega, by omega, h3, h4⟩
    · rintro ⟨v, h1, h2, h3, h4, h5⟩
      by_cases q : v = i
      · subst q; exact Or.inl ⟨⟨h3, h4⟩, h5⟩
      · exact Or.inr ⟨v, by omega, by omega, h3, h4, h5⟩
theorem ey_ext (R T : Nat) (hT : T < 64) (b b' : Nat → Bool) (h : ∀ U, U < T → b U = b' U) : ∀ k i, i + k ≤ 6 → ey R T b i k = ey R T b' i k := by
  intro k
  induction k with
  | zero => intro i _; rfl
  | succ k ih =>
    intro i hi
    rw [ey, ey, ih (i + 1) (by omega)]
    cases q : T.testBit i with
    | false => rfl
    | true => rw [h _ (xo64 T hT i (by omega) q).1]
def dr (R : Nat) : Nat → (Nat → Bool) → Nat → Bool
  | 0, b => b
  | T + 1, b => dr R T (fun U => if U = T + 1 then b U || ey R U b 0 6 else b U)
theorem dr_iff {R : Nat} : ∀ T, T < 64 → ∀ b U, U < 64 → dr R T b U = if 1 ≤ U ∧ U ≤ T then b U || ey R U b 0 6 else b U := by
  intro T
  induction T with
  | zero => intro _ b U _; rw [if_neg (by omega)]; rfl
  | succ T ih =>
    intro hT b U hU
    rw [dr, ih (by omega) _ U hU]
    by_cases q : U = T + 1
    · subst q
      rw [if_neg (by omega), if_pos rfl, if_pos (by omega)]
    · rw [if_neg q]
      by_cases r : 1 ≤ U ∧ U ≤ T
      · rw [if_pos r, if_pos (by omega), ey_ext R U hU _ b (fun V hV => if_neg (by omega)) 6 0 (by omega)]
      · rw [if_neg r, if_neg (by omega)]
theorem dn_dr {R : Nat} (b : Nat → Bool) (T : Nat) (hT : T < 64) : dr R 63 b T = dn R 64 b T := by
  rw [dr_iff 63 (by omega) b T hT, Bool.eq_iff_iff, dn_iff 64 (by omega) b T hT]
  by_cases q : 1 ≤ T
  · rw [if_pos (by omega), Bool.or_eq_true, ey_iff]
    constructor
    · rintro (h | ⟨v, -, h1, h2, h3, h4⟩)
      · exact Or.inl h
      · have := (xo64 T hT v (by omega) h2).1
        exact Or.inr ⟨v, by omega, h3, h2, by omega, h4⟩
    · rintro (h | ⟨v, h1, h2, h3, h4, h5⟩)
      · exact Or.inl h
      · exact Or.inr ⟨v, by omega, by omega, h3, h2, h5⟩
  · have : T = 0 := by omega
    subst this
    rw [if_neg (by omega)]
    exact ⟨fun h => Or.inl h, fun h => h.elim id (fun ⟨v, _, _, h3, _⟩ => absurd h3 (by simp))⟩
