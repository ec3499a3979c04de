/-! arms -/
def bB (b : Bool) : Int32 := if b = true then 1 else 0
theorem bB0 {b : Bool} : (bB b = 0) ↔ b = false := by cases b <;> decide
theorem nar1 : vp_nar .boolean 1 = bB true := by decide
theorem nar0 : vp_nar .boolean 0 = bB false := by decide
def AB (P : Nat → Int32) (b : Nat → Bool) : Prop := ∀ T, T < 64 → P T = bB (b T)
theorem AB_upd {P : Nat → Int32} {b b' : Nat → Bool} {k : Nat} {v : Bool} (h : AB P b) (h1 : b' k = v) (h2 : ∀ T, T < 64 → T ≠ k → b' T = b T) : AB (upd P k (bB v)) b' := by
  intro T hT
  by_cases q : T = k
  · subst q; rw [upd_eq rfl, h1]
  · rw [upd_ne q, h T hT, h2 T hT q]
theorem AB_ext {P : Nat → Int32} {b b' : Nat → Bool} (h : AB P b) (h2 : ∀ T, T < 64 → b' T = b T) : AB P b' := by
  intro T hT
  rw [h T hT, h2 T hT]
theorem or64 : ∀ s, s < 64 → ∀ i, i < 6 → s ||| 2 ^ i < 64 ∧ s ≤ s ||| 2 ^ i ∧ (s.testBit i = true → s ||| 2 ^ i = s) ∧ (s.testBit i = false → (s ||| 2 ^ i).testBit i = true ∧ (s ||| 2 ^ i) ^^^ 2 ^ i = s) := by decide +kernel
theorem xo64 : ∀ T, T < 64 → ∀ v, v < 6 → T.testBit v = true → T ^^^ 2 ^ v < T ∧ (T ^^^ 2 ^ v) ||| 2 ^ v = T ∧ nI T &&& (sl 1 (nI v) ^^^ (-1 : Int32)) = nI (T ^^^ 2 ^ v) := by decide +kernel
def ex (R s T : Nat) (i : Nat) : Nat → Bool
  | 0 => false
  | k + 1 => (R.testBit i && decide (T = s ||| 2 ^ i)) || ex R s T (i + 1) k
theorem ex_iff (R s T : Nat) : ∀ k i, ex R s T i k = true ↔ ∃ v, i ≤ v ∧ v < i + k ∧ R.testBit v = true ∧ T = s ||| 2 ^ v := by
  intro k
  induction k with
  | zero => intro i; rw [ex]; exact ⟨fun h => absurd h (by simp), fun ⟨v, h1, h2, _⟩ => absurd h2 (by omega)⟩
  | succ k ih =>
    intro i
    rw [ex, Bool.or_eq_true, Bool.and_eq_true, decide_eq_true_iff, ih]
    constructor
    · rintro (⟨h1, h2⟩ | ⟨v, h1, h2, h3, h4⟩)
      · exact ⟨i, by omega, by omega, h1, h2⟩
      · exact ⟨v, by omega, by omega, h3, h4⟩
    · rintro ⟨v, h1, h2, h3, h4⟩
      by_cases q : v = i
      · subst q; exact Or.inl ⟨h3, h4⟩
      · exact Or.inr ⟨v, by omega, by omega, h3, h4⟩
theorem f_L9 {R s : Nat} (hR : R < 64) (hs : s < 64) (K : (Nat → Int32) → Int32 → Option (Nat → Int32)) : ∀ k i, i + k = 6 → ∀ n, k < n → ∀ P b, AB P b → ∃ P', AB P' (fun T => b T || (b s && ex R s T i k)) ∧ fX6_addHolder_L9 (nI R) K n P (nI s) (nI i) = K P' (nI s + (-1)) := by
  intro k
  induction k with
  | zero =>
    intro i hi n hn P b h
    obtain ⟨n, rfl⟩ : ∃ q, n = q + 1 := ⟨n - 1, by omega⟩
    have : i = 6 := by omega
    subst this
    refine ⟨P, AB_ext h (fun T _ => by rw [ex]; simp), ?_⟩
    rw [fX6_addHolder_L9, if_pos (by decide)]; rfl
  | succ k ih =>
    intro i hi n hn P b h
    obtain ⟨n, rfl⟩ : ∃ q, n = q + 1 := ⟨n - 1, by omega⟩
    rw [fX6_addHolder_L9, if_neg (show ¬ (6 : Int32) ≤ nI i from nI_ge (a := i) (b := 6) (by omega) (by omega))]
    simp (disch := omega) only [inb_t, toN_t, gd_T, h s hs, bB0, f_has, bsome, bI0, sl_1, nx_or, fX6_addHolder_b43, fX6_addHolder_b49]
    obtain ⟨o1, o2, -⟩ := or64 s hs i (by omega)
    cases q : b s with
    | false =>
      rw [if_pos rfl]
      exact ⟨P, AB_ext h (fun T _ => by simp), rfl⟩
    | true =>
      rw [if_neg (by simp)]
      have hb := has_N (a := R) (k := i) (by omega) (by omega)
      by_cases r : R.testBit i = true
      · rw [if_neg (fun h => h (hb.mpr r))]
        simp (disch := omega) only [inb_t, toN_t, gd_T, nar1, nI_1]
        obtain ⟨P', h1, h2⟩ := ih (i + 1) (by omega) n (by omega) _ (fun T => b T || decide (T = s ||| 2 ^ i)) (AB_upd (k := s ||| 2 ^ i) (v := true) h (by simp) (fun T _ hT => by simp [hT]))
        refine ⟨P', AB_ext h1 (fun T _ => ?_), h2⟩
        simp only [ex, q, r, Bool.true_or, Bool.true_and, Bool.or_assoc]
      · rw [if_pos (fun h => r (hb.mp h)), nI_1]
        obtain ⟨P', h1, h2⟩ := ih (i + 1) (by omega) n (by omega) P b h
        refine ⟨P', AB_ext h1 (fun T _ => ?_), h2⟩
        have r' : R.testBit i = false := by cases h : R.testBit i with | true => exact absurd h r | false => rfl
        simp only [ex, q, r', Bool.false_and, Bool.false_or, Bool.true_and]
def dn (R : Nat) : Nat → (Nat → Bool) → Nat → Bool
  | 0, b => b
  | s + 1, b => dn R s (fun T => b T || (b s && ex R s T 0 6))
theorem f_L3 {R : Nat} (hR : R < 64) : ∀ s, s ≤ 64 → ∀ n, s < n → ∀ P b, AB P b → ∃ P', AB P' (dn R s b) ∧ fX6_addHolder_L3 (nI R) n P (nI s + (-1)) = some P' := by
  intro s
  induction s with
  | zero =>
    intro _ n hn P b h
    obtain ⟨n, rfl⟩ : ∃ q, n = q + 1 := ⟨n - 1, by omega⟩
    refine ⟨P, h, ?_⟩
    rw [fX6_addHolder_L3, if_pos (by decide)]
  | succ s ih =>
    intro hs n hn P b h
    obtain ⟨n, rfl⟩ : ∃ q, n = q + 1 := ⟨n - 1, by omega⟩
    rw [fX6_addHolder_L3, pk_m1, if_neg (nI_nneg (by omega))]
    obtain ⟨P1, h1, h2⟩ := f_L9 hR (by omega : s < 64) (fX6_addHolder_L3 (nI R) n) 6 0 (by omega) zF (by unfold zF; omega) P b h
    have h2' : fX6_addHolder_L9 (nI R) (fX6_addHolder_L3 (nI R) n) zF P (nI s) 0 = _ := h2
    rw [h2']
    exact ih (by omega) n (by omega) P1 _ h1
theorem dn_iff {R : Nat} : ∀ s, s ≤ 64 → ∀ b T, T < 64 → (dn R s b T = true ↔ b T = true ∨ ∃ v, v < 6 ∧ R.testBit v = true ∧ T.testBit v = true ∧ T ^^^ 2 ^ v < s ∧ b (T ^^^ 2 ^ v) = true) := by
  intro s
  induction s with
  | zero => intro _ b T hT; rw [dn]; exact ⟨fun h => Or.inl h, fun h => h.elim id (fun ⟨v, _, _, _, h4, _⟩ => absurd h4 (by omega))⟩
  | succ s ih =>
    intro hs b T hT
    rw [dn, ih (by omega) _ T hT]
    simp only [Bool.or_eq_true, Bool.and_eq_true, ex_iff]
    constructor
    · rintro ((h | ⟨h1, v, -, h2, h3, h4⟩) | ⟨v, h1, h2, h3, h4, h5⟩)
      · exact Or.inl h
      · obtain ⟨o1, o2, o3, o4⟩ := or64 s (by omega) v (by omega)
        cases q : s.testBit v with
        | true => rw [o3 q] at h4; subst h4; exact Or.inl h1
        | false =>
          obtain ⟨o5, o6⟩ := o4 q
          rw [← h4] at o5 o6
          exact Or.inr ⟨v, by omega, h3, o5, by omega, by rw [o6]; exact h1⟩
      · rcases h5 with h5 | ⟨h5, w, -, h6, h7, h8⟩
        · exact Or.inr ⟨v, h1, h2, h3, by omega, h5⟩
        · obtain ⟨o1, o2, -⟩ := or64 s (by omega) w (by omega)
          omega
    · rintro (h | ⟨v, h1, h2, h3, h4, h5⟩)
      · exact Or.inl (Or.inl h)
      · by_cases q : T ^^^ 2 ^ v = s
        · obtain ⟨-, x2, -⟩ := xo64 T hT v h1 h3
          exact Or.inl (Or.inr ⟨by rw [← q]; exact h5, v, by omega, by omega, h2, by rw [← q]; exact x2.symm⟩)
        · exact Or.inr ⟨v, h1, h2, h3, by omega, Or.inl h5⟩
def ey (R T : Nat) (b : Nat → Bool) (i : Nat) : Nat → Bool
  | 0 => false
  | k + 1 => (T.testBit i && R.testBit i && b (T ^^^ 2 ^ i)) || ey R T b (i + 1) k
theorem ey_iff (R T : Nat) (b : Nat → Bool) : ∀ k i, ey R T b i k = true ↔ ∃ v, i ≤ v ∧ v < i + k ∧ T.testBit v = true ∧ R.testBit v = true ∧ b (T ^^^ 2 ^ v) = true := by
  intro k
  induction k with
  | zero => intro i; rw [ey]; exact ⟨fun h => absurd h (by simp), fun ⟨v, h1, h2, _⟩ => absurd h2 (by omega)⟩
  | succ k ih =>
    intro i
    rw [ey, Bool.or_eq_true, Bool.and_eq_true, Bool.and_eq_true, ih]
    constructor
    · rintro (⟨⟨h1, h2⟩, h3⟩ | ⟨v, h1, h2, h3, h4⟩)
      · exact ⟨i, by omega, by omega, h1, h2, h3⟩
      · exact ⟨v, by omega, by omega, h3, h4⟩
    · rintro ⟨v, h1, h2, h3, h4, h5⟩
      by_cases q : v = i
      · subst q; exact Or.inl ⟨⟨h3, h4⟩, h5⟩
      · exact Or.inr ⟨v, by omega, by omega, h3, h4, h5⟩
theorem ey_ext (R T : Nat) (hT : T < 64) (b b' : Nat → Bool) (h : ∀ U, U < T → b U = b' U) : ∀ k i, i + k ≤ 6 → ey R T b i k = ey R T b' i k := by
  intro k
  induction k with
  | zero => intro i _; rfl
  | succ k ih =>
    intro i hi
    rw [ey, ey, ih (i + 1) (by omega)]
    cases q : T.testBit i with
    | false => rfl
    | true => rw [h _ (xo64 T hT i (by omega) q).1]
def dr (R : Nat) : Nat → (Nat → Bool) → Nat → Bool
  | 0, b => b
  | T + 1, b => dr R T (fun U => if U = T + 1 then b U || ey R U b 0 6 else b U)
theorem dr_iff {R : Nat} : ∀ T, T < 64 → ∀ b U, U < 64 → dr R T b U = if 1 ≤ U ∧ U ≤ T then b U || ey R U b 0 6 else b U := by
  intro T
  induction T with
  | zero => intro _ b U _; rw [if_neg (by omega)]; rfl
  | succ T ih =>
    intro hT b U hU
    rw [dr, ih (by omega) _ U hU]
    by_cases q : U = T + 1
    · subst q
      rw [if_neg (by omega), if_pos rfl, if_pos (by omega)]
    · rw [if_neg q]
      by_cases r : 1 ≤ U ∧ U ≤ T
      · rw [if_pos r, if_pos (by omega), ey_ext R U hU _ b (fun V hV => if_neg (by omega)) 6 0 (by omega)]
      · rw [if_neg r, if_neg (by omega)]
theorem dn_dr {R : Nat} (b : Nat → Bool) (T : Nat) (hT : T < 64) : dr R 63 b T = dn R 64 b T := by
  rw [dr_iff 63 (by omega) b T hT, Bool.eq_iff_iff, dn_iff 64 (by omega) b T hT]
  by_cases q : 1 ≤ T
  · rw [if_pos (by omega), Bool.or_eq_true, ey_iff]
    constructor
    · rintro (h | ⟨v, -, h1, h2, h3, h4⟩)
      · exact Or.inl h
      · have := (xo64 T hT v (by omega) h2).1
        exact Or.inr ⟨v, by omega, h3, h2, by omega, h4⟩
    · rintro (h | ⟨v, h1, h2, h3, h4, h5⟩)
      · exact Or.inl h
      · exact Or.inr ⟨v, by omega, by omega, h3, h2, h5⟩
  · have : T = 0 := by omega
    subst this
    rw [if_neg (by omega)]
    exact ⟨fun h => Or.inl h, fun h => h.elim id (fun ⟨v, _, _, h3, _⟩ => absurd h3 (by simp))⟩
def rr (N : Nat → Int32) (w : Nat) (x : Int32) (v : Nat) : Bool := !(pcb N v) && !decide (x < iabs (N v - N w))
theorem f_reach {ce ho ow N : Nat → Int32} {hr : Int32} (h0 : ∀ i, i < 6 → ce i = N i) (h1 : ∀ i, i < 6 → ho i = N (6 + i)) (h2 : ∀ i, i < 6 → ow i = N (12 + i)) (h3 : hr = N 51) {w : Nat} (hw : w < 6) (x : Int32) : ∃ R, R < 64 ∧ (∀ v, v < 6 → R.testBit v = rr N w x v) ∧ fX6_withinReach hr ho ow ce (nI w) x = some (nI R) := by
  have L : ∀ m i, i + m = 6 → ∀ n, m < n → ∀ R, R < 2 ^ i → (∀ v, v < i → R.testBit v = rr N w x v) → ∃ R', R' < 64 ∧ (∀ v, v < 6 → R'.testBit v = rr N w x v) ∧ fX6_withinReach_L5 hr ho ow ce (nI w) x n (nI R) (nI i) = some (nI R') := by
    intro m
    induction m with
    | zero =>
      intro i hi n hn R hR hv
      obtain ⟨n, rfl⟩ : ∃ q, n = q + 1 := ⟨n - 1, by omega⟩
      have : i = 6 := by omega
      subst this
      refine ⟨R, hR, hv, ?_⟩
      rw [fX6_withinReach_L5, if_pos (by decide)]
    | succ m ih =>
      intro i hi n hn R hR hv
      obtain ⟨n, rfl⟩ : ∃ q, n = q + 1 := ⟨n - 1, by omega⟩
      have hp : 2 ^ i < 2 ^ (i + 1) := Nat.pow_lt_pow_right (by omega) (by omega)
      have hRi : R.testBit i = false := Nat.testBit_lt_two_pow hR
      rw [fX6_withinReach_L5, if_neg (show ¬ (6 : Int32) ≤ nI i from nI_ge (a := i) (b := 6) (by omega) (by omega)), f_peace h1 h2 h3 (by omega), bsome]
      simp (disch := omega) only [bI0, inb_t, toN_t, gd_T, fX6_withinReach_b49, sl_1, nx_or, nI_1, h0 i (by omega), h0 w hw]
      have stay : rr N w x i = false → ∃ R', R' < 64 ∧ (∀ v, v < 6 → R'.testBit v = rr N w x v) ∧ fX6_withinReach_L5 hr ho ow ce (nI w) x n (nI R) (nI (i + 1)) = some (nI R') := by
        intro e
        refine ih (i + 1) (by omega) n (by omega) R (by omega) (fun v hv' => ?_)
        by_cases q : v = i
        · subst q; rw [hRi, e]
        · exact hv v (by omega)
      by_cases p : pcb N i = true
      · rw [if_neg (fun h => h p)]
        exact stay (by unfold rr; rw [p]; rfl)
      · rw [if_pos p]
        have p' : pcb N i = false := by cases h : pcb N i with | true => exact absurd h p | false => rfl
        by_cases q : x < iabs (N i - N w)
        · rw [if_pos q]
          exact stay (by unfold rr; rw [p', decide_eq_true q]; rfl)
        · rw [if_neg q]
          refine ih (i + 1) (by omega) n (by omega) (R ||| 2 ^ i) (Nat.or_lt_two_pow (by omega) hp) (fun v hv' => ?_)
          rw [Nat.testBit_or, Nat.testBit_two_pow]
          by_cases q' : v = i
          · subst q'; unfold rr; rw [p', decide_eq_false q]; simp
          · rw [hv v (by omega), decide_eq_false (fun e => q' e.symm), Bool.or_false]
  exact L 6 0 (by omega) zF (by unfold zF; omega) 0 (by decide) (fun v hv => absurd hv (by omega))
theorem abs12 : ∀ a, a < 12 → ∀ b, b < 12 → iabs (nI a - nI b) = (if nI a ≤ nI b then nI b - nI a else nI a - nI b) := by decide +kernel
theorem f_L83 {B Nw : Nat → Int32} (hc : ∀ i, i < 6 → ∃ a, a < 12 ∧ Nw i = nI a) {x1 x2 : Int32} {R T w : Nat} (hT : T < 64) (hT1 : 1 ≤ T) (hw : w < 6) (hR : ∀ v, v < 6 → R.testBit v = rr Nw w x1 v) (K57 : Int32 → Int32 → Int32 → Int32 → (Nat → Int32) → (Nat → Int32) → Int32 → Option (Int32 × Int32 × Int32 × Int32 × Int32 × (Nat → Int32) × (Nat → Int32))) (K67 : Int32 → Int32 → Int32 → Int32 → (Nat → Int32) → (Nat → Int32) → Int32 → Int32 → Option (Int32 × Int32 × Int32 × Int32 × Int32 × (Nat → Int32) × (Nat → Int32))) (o1 o2 o3 o4 : Int32) :
    ∀ k i, i + k = 6 → ∀ n, k < n → ∀ C b, AB C b → ∃ C', AB C' (fun U => if U = T then b U || ey R U b i k else b U) ∧ fX12_arms_L83 B x1 x2 K57 K67 n o1 o2 o3 o4 Nw C (nI w) (nI T) (nI i) = K67 o1 o2 o3 o4 Nw C' (nI w) (nI T + (-1)) := by
  intro k
  induction k with
  | zero =>
    intro i hi n hn C b h
    obtain ⟨n, rfl⟩ : ∃ q, n = q + 1 := ⟨n - 1, by omega⟩
    have : i = 6 := by omega
    subst this
    refine ⟨C, AB_ext h (fun U _ => by rw [ey, Bool.or_false]; by_cases q : U = T; rw [if_pos q]; rw [if_neg q]), ?_⟩
    rw [fX12_arms_L83, if_pos (by decide)]
  | succ k ih =>
    intro i hi n hn C b h
    obtain ⟨n, rfl⟩ : ∃ q, n = q + 1 := ⟨n - 1, by omega⟩
    rw [fX12_arms_L83, if_neg (show ¬ (6 : Int32) ≤ nI i from nI_ge (a := i) (b := 6) (by omega) (by omega))]
    simp (disch := omega) only [inb_t, toN_t, gd_T]
    have mid : ∀ e : Bool, ∃ C', AB C' (fun U => if U = T then b U || (e || ey R U b (i + 1) k) else b U) ∧ fX12_arms_b186 B x1 x2 K57 K67 (fX12_arms_L83 B x1 x2 K57 K67 n) o1 o2 o3 o4 Nw C (nI w) (nI T) (nI i) (bB e) = K67 o1 o2 o3 o4 Nw C' (nI w) (nI T + (-1)) := by
      intro e
      unfold fX12_arms_b186 fX12_arms_b209 fX12_arms_b214
      simp (disch := omega) only [inb_t, toN_t, gd_T, h T hT, bB0, nar1, nar0, nI_1]
      have fin : ∃ C', AB C' (fun U => if U = T then b U || (e || ey R U b (i + 1) k) else b U) ∧ fX12_arms_L83 B x1 x2 K57 K67 n o1 o2 o3 o4 Nw (upd C T (bB (b T || e))) (nI w) (nI T) (nI (i + 1)) = K67 o1 o2 o3 o4 Nw C' (nI w) (nI T + (-1)) := by
        obtain ⟨C', g1, g2⟩ := ih (i + 1) (by omega) n (by omega) (upd C T (bB (b T || e))) (fun U => if U = T then b U || e else b U) (AB_upd h (by simp only [if_true]) (fun U _ hU => by rw [if_neg hU]))
        refine ⟨C', AB_ext g1 (fun U hU => ?_), g2⟩
        by_cases q : U = T
        · subst q
          simp only [if_true]
          rw [ey_ext R U hU (fun V => if V = U then b V || e else b V) b (fun V hV => if_neg (by omega)) k (i + 1) (by omega), Bool.or_assoc]
        · simp only [if_neg q]
      cases q : b T with
      | true =>
        rw [q] at fin
        rw [if_neg (by simp)]
        exact fin
      | false =>
        rw [q] at fin
        rw [if_pos rfl]
        cases e with
        | true => rw [if_neg (by simp)]; exact fin
        | false => rw [if_pos rfl]; exact fin
    have key : ∀ d : Int32, d = iabs (Nw i - Nw w) → ∃ C', AB C' (fun U => if U = T then b U || ey R U b i (k + 1) else b U) ∧ fX12_arms_b137 B x1 x2 K57 K67 (fX12_arms_L83 B x1 x2 K57 K67 n) o1 o2 o3 o4 Nw C (nI w) (nI T) (nI i) d = K67 o1 o2 o3 o4 Nw C' (nI w) (nI T + (-1)) := by
      intro d hd
      subst hd
      have hb := has_N (a := T) (k := i) (by omega) (by omega)
      have hRi := hR i (by omega)
      have non : (T.testBit i && R.testBit i && b (T ^^^ 2 ^ i)) = false → ∃ C', AB C' (fun U => if U = T then b U || ey R U b i (k + 1) else b U) ∧ fX12_arms_b185 B x1 x2 K57 K67 (fX12_arms_L83 B x1 x2 K57 K67 n) o1 o2 o3 o4 Nw C (nI w) (nI T) (nI i) = K67 o1 o2 o3 o4 Nw C' (nI w) (nI T + (-1)) := by
        intro e
        obtain ⟨C', g1, g2⟩ := mid false
        refine ⟨C', AB_ext g1 (fun U _ => ?_), g2⟩
        by_cases q : U = T
        · subst q; simp only [if_true]; rw [ey, e]
        · simp only [if_neg q]
      unfold fX12_arms_b137
      rw [f_hasM, bsome, f_peaceM Nw (by omega)]
      simp only [bI0, bsome]
      cases t : T.testBit i with
      | false =>
        rw [t] at hb
        rw [if_pos (fun h => absurd (hb.mp h) (by simp))]
        exact non (by rw [t]; rfl)
      | true =>
        rw [t] at hb
        rw [if_neg (fun h => h (hb.mpr rfl))]
        by_cases p : pcb Nw i = true
        · rw [if_neg (fun h => h p)]
          exact non (by rw [hRi]; unfold rr; rw [p]; simp)
        · have p' : pcb Nw i = false := by cases h : pcb Nw i with | true => exact absurd h p | false => rfl
          rw [if_pos p]
          by_cases q : x1 < iabs (Nw i - Nw w)
          · rw [if_pos q]
            exact non (by rw [hRi]; unfold rr; rw [decide_eq_true q]; simp)
          · rw [if_neg q]
            obtain ⟨y1, y2, y3⟩ := xo64 T hT i (by omega) t
            have r1 : R.testBit i = true := by rw [hRi]; unfold rr; rw [p', decide_eq_false q]; rfl
            rw [y3]
            simp (disch := omega) only [inb_t, toN_t, gd_T, h (T ^^^ 2 ^ i) (by omega), bB0]
            cases z : b (T ^^^ 2 ^ i) with
            | false =>
              rw [if_pos rfl]
              exact non (by rw [z]; simp)
            | true =>
              rw [if_neg (by simp)]
              obtain ⟨C', g1, g2⟩ := mid true
              refine ⟨C', AB_ext g1 (fun U _ => ?_), g2⟩
              by_cases q : U = T
              · subst q; simp only [if_true]; rw [ey, t, r1, z]; rfl
              · simp only [if_neg q]
    obtain ⟨a, ha, ea⟩ := hc i (by omega)
    obtain ⟨d, hd, ed⟩ := hc w hw
    have e12 := abs12 a ha d hd
    rw [← ea, ← ed] at e12
    by_cases q : Nw i ≤ Nw w
    · rw [if_pos q]
      exact key _ (by rw [e12, if_pos q])
    · rw [if_neg q]
      exact key _ (by rw [e12, if_neg q])
theorem f_L67 {B Nw : Nat → Int32} (hc : ∀ i, i < 6 → ∃ a, a < 12 ∧ Nw i = nI a) {x1 x2 : Int32} {R w : Nat} (hw : w < 6) (hR : ∀ v, v < 6 → R.testBit v = rr Nw w x1 v) (hp : pcb Nw w = true) (K57 : Int32 → Int32 → Int32 → Int32 → (Nat → Int32) → (Nat → Int32) → Int32 → Option (Int32 × Int32 × Int32 × Int32 × Int32 × (Nat → Int32) × (Nat → Int32))) (o1 o2 o3 o4 : Int32) :
    ∀ T, T < 64 → ∀ n, T < n → ∀ C b, AB C b → ∃ C', AB C' (dr R T b) ∧ fX12_arms_L67 B x1 x2 K57 n o1 o2 o3 o4 Nw C (nI w) (nI T) = K57 o1 o2 o3 o4 Nw C' (nI (w + 1)) := by
  intro T
  induction T with
  | zero =>
    intro _ n hn C b h
    obtain ⟨n, rfl⟩ : ∃ q, n = q + 1 := ⟨n - 1, by omega⟩
    refine ⟨C, h, ?_⟩
    rw [fX12_arms_L67, if_pos (by decide)]
    unfold fX12_arms_b227
    rw [nI_1]
  | succ T ih =>
    intro hT n hn C b h
    obtain ⟨n, rfl⟩ : ∃ q, n = q + 1 := ⟨n - 1, by omega⟩
    rw [fX12_arms_L67, if_neg (nI_nle (by omega) (by omega)), f_peaceM Nw hw, bsome]
    simp only [bI0]
    rw [if_neg (fun h => h hp)]
    obtain ⟨C1, h1, h2⟩ := f_L83 (B := B) hc (x2 := x2) hT (by omega) hw hR K57 (fX12_arms_L67 B x1 x2 K57 n) o1 o2 o3 o4 6 0 (by omega) zF (by unfold zF; omega) C b h
    have h2' : fX12_arms_L83 B x1 x2 K57 (fX12_arms_L67 B x1 x2 K57 n) zF o1 o2 o3 o4 Nw C (nI w) (nI (T + 1)) 0 = _ := h2
    rw [h2', pk_m1]
    exact ih (by omega) n (by omega) C1 _ h1
