/-! likings -/
def lk' (b : Nat → Bool) (x1 : Int32) : Nat → Nat → Nat → Int32
  | 0, _, a => if x1 = -1 then nI a else -6
  | m + 1, i, a => if b i = true then (if nI a = x1 then nI (lc i) else lk' b x1 m (i + 1) (a + 1)) else lk' b x1 m (i + 1) a
theorem nI_n1 {a : Nat} (h : a < 2147483648) : ¬ nI a = (-1 : Int32) := fun e => by
  have h2 := nI_nneg h
  rw [e] at h2
  exact absurd (by decide) h2
theorem f_fitAt (ft : Int64) {x1 : Int32} (hx : ¬ x1 = -1) : ∀ m i, i + m = 64 → ∀ n, m < n → ∀ a, fX7_fittingAt_L4 ft x1 n (nI a) (nI i) = some (lk' (lb ft) x1 m i a) := by
  intro m
  induction m with
  | zero =>
    intro i hi n hn a
    obtain ⟨n, rfl⟩ : ∃ q, n = q + 1 := ⟨n - 1, by omega⟩
    have : i = 64 := by omega
    subst this
    rw [fX7_fittingAt_L4, if_pos (by decide), lk', if_neg hx]
  | succ m ih =>
    intro i hi n hn a
    obtain ⟨n, rfl⟩ : ∃ q, n = q + 1 := ⟨n - 1, by omega⟩
    obtain ⟨d1, d2, d3⟩ := dg64 i (by omega)
    rw [fX7_fittingAt_L4, if_neg (show ¬ (64 : Int32) ≤ nI i from nI_ge (a := i) (b := 64) (by omega) (by omega)), f_fits ft (by omega), bsome, lk', d1, d2, d3]
    unfold fX7_fittingAt_b41 fX11_code
    rw [nI_1, nI_1]
    cases lb ft i with
    | false =>
      rw [if_pos (by decide), if_neg (by simp)]
      exact ih (i + 1) (by omega) n (by omega) a
    | true =>
      rw [if_neg (by decide), if_pos rfl]
      by_cases z : nI a = x1
      · rw [if_pos z, if_pos z, bsome, l_mul, l_mul, nI_add, nI_add]
        rfl
      · rw [if_neg z, if_neg z]
        exact ih (i + 1) (by omega) n (by omega) (a + 1)
theorem lk_cnt (ft : Int64) : ∀ m i, i + m = 64 → lk' (lb ft) (-1) m i (popN (lT ft) i) = nI (popN (lT ft) 64) := by
  intro m
  induction m with
  | zero =>
    intro i hi
    have : i = 64 := by omega
    subst this
    rw [lk', if_pos rfl]
  | succ m ih =>
    intro i hi
    have h1 := popN_le (lT ft) i
    have h2 := ih (i + 1) (by omega)
    rw [popN] at h2
    have h3 := lb_T ft i
    rw [Nat.testBit_eq_decide_div_mod_eq] at h3
    rw [lk']
    by_cases z : lT ft / 2 ^ i % 2 = 1
    · rw [decide_eq_true z] at h3
      rw [z] at h2
      rw [if_pos h3.symm, if_neg (nI_n1 (by omega))]
      exact h2
    · rw [decide_eq_false z] at h3
      have : lT ft / 2 ^ i % 2 = 0 := by omega
      rw [this] at h2
      rw [if_neg (by rw [← h3]; simp)]
      exact h2
theorem f_lik {s : Nat} {q : Nat → Nat} {v : Nat → Bool} {st : Nat → Int32} (hs : s ≤ 8) (h4 : ∀ j, j < s → st (2 * j) = nI (q j) ∧ st (2 * j + 1) = bB (v j) ∧ q j < 10000) {b : Nat → Bool} (hb : ∀ i, i < 64 → b i = FT q v i s) (x1 : Int32) : ∀ m c, c + m = 334 → ∀ n, m < n → ∀ a, fX12_likings_L4 (nI s) st x1 n (nI a) (nI c) = some (lk' b x1 (64 - nx c) (nx c) a) := by
  intro m
  induction m with
  | zero =>
    intro c hc n hn a
    obtain ⟨n, rfl⟩ : ∃ q, n = q + 1 := ⟨n - 1, by omega⟩
    have : c = 334 := by omega
    subst this
    rw [fX12_likings_L4, if_pos (by decide), show 64 - nx 334 = 0 by decide, lk']
    unfold fX12_likings_b46
    by_cases z : x1 = -1
    · rw [if_pos z, if_pos z]
    · rw [if_neg z, if_neg z]
  | succ m ih =>
    intro c hc n hn a
    obtain ⟨n, rfl⟩ : ∃ q, n = q + 1 := ⟨n - 1, by omega⟩
    obtain ⟨n1, n2, n3⟩ := nx_f c (by omega)
    rw [fX12_likings_L4, if_neg (show ¬ (334 : Int32) ≤ nI c from nI_ge (a := c) (b := 334) (by omega) (by omega)), f_isFit hs h4 (by omega), bsome]
    unfold fX12_likings_b29
    rw [nI_1, nI_1]
    cases hL : isL c with
    | false =>
      rw [Bool.false_and, if_pos (by decide)]
      have := ih (c + 1) (by omega) n (by omega) a
      rw [n3 hL] at this
      exact this
    | true =>
      obtain ⟨m1, m2, m3, -⟩ := n2 hL
      rw [Bool.true_and, show 64 - nx c = (64 - nx (c + 1)) + 1 by omega, lk', hb _ m1, m3, ← m2]
      cases FT q v (nx c) s with
      | false =>
        rw [if_pos (by decide), if_neg (by simp)]
        exact ih (c + 1) (by omega) n (by omega) a
      | true =>
        rw [if_neg (by decide), if_pos rfl]
        by_cases z : nI a = x1
        · rw [if_pos z, if_pos z]
        · rw [if_neg z, if_neg z]
          exact ih (c + 1) (by omega) n (by omega) (a + 1)
theorem op_likings {cn sg : Int32} {ft : Int64} {st : Nat → Int32} (h : SG cn ft sg st) (x1 : Int32) : ∃ r : Int32, fX11_likings ft x1 = some r ∧ fX12_likings sg st x1 = some r := by
  obtain ⟨s, q, v, h1, h2, h3, h4, h5⟩ := h
  have e : fX12_likings sg st x1 = some (lk' (lb ft) x1 64 0 0) := by
    rw [h3]
    exact f_lik h1 h4 h5 x1 334 0 (by omega) zF (by unfold zF; omega) 0
  refine ⟨_, ?_, e⟩
  unfold fX11_likings fX11_likings_b26
  by_cases z : x1 = -1
  · subst z
    rw [if_pos rfl, f_bc, bsome, ← lk_cnt ft 64 0 (by omega)]
    rfl
  · have e2 : fX7_fittingAt ft x1 = some (lk' (lb ft) x1 64 0 0) := f_fitAt ft z 64 0 (by omega) zF (by unfold zF; omega) 0
    rw [if_neg z, e2, bsome]
