/-! bowls -/
def lt1 (t : Nat → Nat) (n l x : Nat) : Bool := decide (x ≤ n) && (!decide (x = l) && !(t (n - x)).testBit x)
def ltk (t : Nat → Nat) (n l : Nat) : Nat := if lt1 t n l 1 = true then 1 else if lt1 t n l 2 = true then 2 else if lt1 t n l 3 = true then 3 else if lt1 t n l 4 = true then 4 else 0
theorem lt1_ext {t t' : Nat → Nat} {n l x : Nat} (hx : 1 ≤ x) (h : ∀ j, j < n → t j = t' j) : lt1 t n l x = lt1 t' n l x := by
  unfold lt1
  by_cases q : x ≤ n
  · rw [h (n - x) (by omega)]
  · rw [decide_eq_false q]; rfl
theorem ltk_ext {t t' : Nat → Nat} {n l : Nat} (h : ∀ j, j < n → t j = t' j) : ltk t n l = ltk t' n l := by
  unfold ltk
  rw [lt1_ext (x := 1) (by omega) h, lt1_ext (x := 2) (by omega) h, lt1_ext (x := 3) (by omega) h, lt1_ext (x := 4) (by omega) h]
theorem ltk_le (t : Nat → Nat) (n l : Nat) : ltk t n l ≤ 4 := by
  unfold ltk
  by_cases h1 : lt1 t n l 1 = true
  · rw [if_pos h1]; omega
  · rw [if_neg h1]
    by_cases h2 : lt1 t n l 2 = true
    · rw [if_pos h2]; omega
    · rw [if_neg h2]
      by_cases h3 : lt1 t n l 3 = true
      · rw [if_pos h3]; omega
      · rw [if_neg h3]
        by_cases h4 : lt1 t n l 4 = true
        · rw [if_pos h4]; omega
        · rw [if_neg h4]; omega
def mkN (t : Nat → Nat) (n : Nat) : Nat → Nat
  | 0 => 0
  | l + 1 => if ltk t n l = 0 then mkN t n l else mkN t n l ||| 2 ^ l
theorem mkN_lt (t : Nat → Nat) (n : Nat) : ∀ k, mkN t n k < 2 ^ k := by
  intro k
  induction k with
  | zero => show 0 < 2 ^ 0; decide
  | succ k ih =>
    have hp : 2 ^ k < 2 ^ (k + 1) := Nat.pow_lt_pow_right (by omega) (by omega)
    rw [mkN]
    by_cases q : ltk t n k = 0
    · rw [if_pos q]; omega
    · rw [if_neg q]; exact Nat.or_lt_two_pow (by omega) hp
theorem mkN_bit (t : Nat → Nat) (n : Nat) : ∀ k l, l < k → (mkN t n k).testBit l = !decide (ltk t n l = 0) := by
  intro k
  induction k with
  | zero => intro l hl; omega
  | succ k ih =>
    intro l hl
    have hb : (mkN t n k).testBit k = false := Nat.testBit_lt_two_pow (mkN_lt t n k)
    rw [mkN]
    by_cases q : ltk t n k = 0
    · rw [if_pos q]
      by_cases e : l = k
      · subst e; rw [hb, decide_eq_true q]; rfl
      · exact ih l (by omega)
    · rw [if_neg q, Nat.testBit_or, Nat.testBit_two_pow]
      by_cases e : l = k
      · subst e; rw [decide_eq_false q]; simp
      · rw [ih l (by omega), decide_eq_false (show ¬ k = l from fun z => e z.symm), Bool.or_false]
theorem mkN_ext {t t' : Nat → Nat} {n : Nat} (h : ∀ j, j < n → t j = t' j) : ∀ k, mkN t n k = mkN t' n k := by
  intro k
  induction k with
  | zero => rfl
  | succ k ih => rw [mkN, mkN, ltk_ext h, ih]
def tbl : Nat → Nat → Nat
  | 0, _ => 0
  | k + 1, n => if n = k then mkN (tbl k) k 5 else tbl k n
def MN (n : Nat) : Nat := tbl (n + 1) n
theorem tbl_st : ∀ k n, n < k → tbl k n = MN n := by
  intro k
  induction k with
  | zero => intro n hn; omega
  | succ k ih =>
    intro n hn
    by_cases q : n = k
    · subst q; rfl
    · rw [tbl, if_neg q]; exact ih n (by omega)
theorem MN_eq (n : Nat) : MN n = mkN MN n 5 := by
  unfold MN
  rw [tbl, if_pos rfl]
  exact mkN_ext (fun j hj => tbl_st n j hj) 5
theorem MN_lt (n : Nat) : MN n < 32 := by rw [MN_eq]; exact mkN_lt MN n 5
theorem MN_bit (n : Nat) {l : Nat} (hl : l < 5) : (MN n).testBit l = !decide (ltk MN n l = 0) := by rw [MN_eq]; exact mkN_bit MN n 5 l hl
def rI (x : Nat) : Int32 := if x = 0 then -6 else nI x
/-- the class -/
theorem f_least {won : Nat → Int32} {n l : Nat} (hn : n < 100) (hl : l < 5) (h : ∀ j, j < n → won j = nI (MN j)) : fX2_leastTake won (nI n) (nI l) = some (rI (ltk MN n l)) := by
  have S : ∀ x, 1 ≤ x → x ≤ 4 → ∀ m, fX2_leastTake_L2 won (nI n) (nI l) (m + 1) (nI x) = if lt1 MN n l x = true then some (nI x) else if x ≤ n then fX2_leastTake_L2 won (nI n) (nI l) m (nI (x + 1)) else some (-6) := by
    intro x h1 h4 m
    rw [fX2_leastTake_L2, if_neg (show ¬ (4 : Int32) < nI x from nI_nlt (a := 4) (b := x) (by omega) (by omega))]
    unfold fX2_leastTake_b40 fX2_leastTake_b34 lt1
    rw [nI_1]
    by_cases q1 : n < x
    · rw [if_pos (nI_lt q1 (by omega)), decide_eq_false (show ¬ x ≤ n by omega), Bool.false_and, if_neg (show ¬ false = true by simp), if_neg (show ¬ x ≤ n by omega)]
    · rw [if_neg (show ¬ nI n < nI x from nI_nlt (by omega) (by omega)), decide_eq_true (show x ≤ n by omega), if_pos (show x ≤ n by omega), Bool.true_and]
      by_cases q2 : x = l
      · rw [if_pos (show nI x = nI l by rw [q2]), decide_eq_true q2, Bool.not_true, Bool.false_and, if_neg (show ¬ false = true by simp)]
      · rw [if_neg (show ¬ nI x = nI l from fun e => q2 ((nI_inj (by omega) (by omega)).mp e)), decide_eq_false q2, pk_sub (by omega), Bool.not_false, Bool.true_and]
        simp (disch := omega) only [inb_t, toN_t, gd_T, h (n - x) (by omega), f_has, bsome, bI0]
        have hb := has_N (a := MN (n - x)) (k := x) (by have := MN_lt (n - x); omega) (by omega)
        cases q3 : (MN (n - x)).testBit x with
        | false =>
          rw [q3] at hb
          rw [if_pos (fun e => absurd (hb.mp e) (by simp)), if_pos (by simp)]
        | true =>
          rw [q3] at hb
          rw [if_neg (fun e => e (hb.mpr rfl)), if_neg (by simp)]
  have e5 : ∀ m, fX2_leastTake_L2 won (nI n) (nI l) (m + 1) (nI 5) = some (-6) := fun m => by rw [fX2_leastTake_L2, if_pos (by decide)]; rfl
  have F : ∀ x, n < x → lt1 MN n l x = false := fun x hx => by unfold lt1; rw [decide_eq_false (by omega)]; rfl
  have g0 : fX2_leastTake won (nI n) (nI l) = fX2_leastTake_L2 won (nI n) (nI l) (99995 + 1 + 1 + 1 + 1 + 1) (nI 1) := rfl
  rw [g0, S 1 (by omega) (by omega), S 2 (by omega) (by omega), S 3 (by omega) (by omega), S 4 (by omega) (by omega), e5]
  unfold ltk rI
  by_cases c1 : lt1 MN n l 1 = true
  · rw [if_pos c1, if_pos c1]; rfl
  · rw [if_neg c1, if_neg c1]
    by_cases d1 : 1 ≤ n
    · rw [if_pos d1]
      by_cases c2 : lt1 MN n l 2 = true
      · rw [if_pos c2, if_pos c2]; rfl
      · rw [if_neg c2, if_neg c2]
        by_cases d2 : 2 ≤ n
        · rw [if_pos d2]
          by_cases c3 : lt1 MN n l 3 = true
          · rw [if_pos c3, if_pos c3]; rfl
          · rw [if_neg c3, if_neg c3]
            by_cases d3 : 3 ≤ n
            · rw [if_pos d3]
              by_cases c4 : lt1 MN n l 4 = true
              · rw [if_pos c4, if_pos c4]; rfl
              · rw [if_neg c4, if_neg c4]
                by_cases d4 : 4 ≤ n
                · rw [if_pos d4]; rfl
                · rw [if_neg d4]; rfl
            · rw [if_neg d3, F 4 (by omega)]; rfl
        · rw [if_neg d2, F 3 (by omega), F 4 (by omega)]; rfl
    · rw [if_neg d1, F 2 (by omega), F 3 (by omega), F 4 (by omega)]; rfl
theorem rI_6 {x : Nat} (h : x ≤ 4) : (rI x = -6) ↔ x = 0 := by
  unfold rI
  by_cases q : x = 0
  · rw [if_pos q]; exact ⟨fun _ => q, fun _ => rfl⟩
  · rw [if_neg q]; exact ⟨fun e => absurd e (nI_n6 (by omega)), fun e => absurd e q⟩
theorem f_wonA {won : Nat → Int32} {n : Nat} (hn : n < 100) (h : ∀ j, j < n → won j = nI (MN j)) : fX2_wonAfter won (nI n) = some (nI (MN n)) := by
  have L : ∀ m l, l + m = 5 → ∀ k, m < k → fX2_wonAfter_L4 won (nI n) k (nI (mkN MN n l)) (nI l) = some (nI (mkN MN n 5)) := by
    intro m
    induction m with
    | zero =>
      intro l hl k hk
      obtain ⟨k, rfl⟩ : ∃ q, k = q + 1 := ⟨k - 1, by omega⟩
      have : l = 5 := by omega
      subst this
      rw [fX2_wonAfter_L4, if_pos (by decide)]
    | succ m ih =>
      intro l hl k hk
      obtain ⟨k, rfl⟩ : ∃ q, k = q + 1 := ⟨k - 1, by omega⟩
      rw [fX2_wonAfter_L4, if_neg (show ¬ (4 : Int32) < nI l from nI_nlt (a := 4) (b := l) (by omega) (by omega)), f_least hn (by omega) h, bsome]
      unfold fX2_wonAfter_b26
      have step := ih (l + 1) (by omega) k (by omega)
      rw [mkN] at step
      rw [nI_1, sl_1 _ (by omega), nx_or]
      have e6 := rI_6 (ltk_le MN n l)
      by_cases q : ltk MN n l = 0
      · rw [if_pos q] at step
        rw [if_pos (e6.mpr q)]
        exact step
      · rw [if_neg q] at step
        rw [if_neg (fun e => q (e6.mp e))]
        exact step
  rw [MN_eq]
  exact L 5 0 (by omega) zF (by unfold zF; omega)
def MB (kn : Int32) (won : Nat → Int32) : Prop := ∃ k, k < 100 ∧ kn = nI k ∧ ∀ j, j < k → won j = nI (MN j)
theorem f_win {n l : Nat} (hn : n < 100) (hl : l < 5) {k0 : Nat} (hk0 : k0 < 100) : ∀ m k, (k + m = n ∨ (m = 0 ∧ n ≤ k)) → k0 ≤ k → (k ≤ n ∨ k = k0) → ∀ f, m < f → ∀ won, (∀ j, j < k → won j = nI (MN j)) → ∃ won', MB (imax (nI k0) (nI n)) won' ∧ fX2_winningTake_L5 (nI n) (nI l) f (nI k0) won (nI k) = some (rI (ltk MN n l), imax (nI k0) (nI n), won') := by
  intro m
  induction m with
  | zero =>
    intro k hk h0 h1 f hf won h
    obtain ⟨f, rfl⟩ : ∃ q, f = q + 1 := ⟨f - 1, by omega⟩
    have hnk : n ≤ k := by omega
    rw [fX2_winningTake_L5, if_pos (nI_le hnk (by omega)), f_least hn hl (fun j hj => h j (by omega)), bsome]
    refine ⟨won, ?_, rfl⟩
    unfold imax
    by_cases q : k0 < n
    · rw [if_pos (nI_lt q (by omega))]
      exact ⟨n, hn, rfl, fun j hj => h j (by omega)⟩
    · rw [if_neg (nI_nlt (by omega) (by omega))]
      exact ⟨k0, hk0, rfl, fun j hj => h j (by omega)⟩
  | succ m ih =>
    intro k hk h0 h1 f hf won h
    obtain ⟨f, rfl⟩ : ∃ q, f = q + 1 := ⟨f - 1, by omega⟩
    rw [fX2_winningTake_L5, if_neg (nI_ge (by omega) (by omega)), f_wonA (by omega) h, bsome]
    simp (disch := omega) only [inb_t, toN_t, gd_T, nI_1]
    refine ih (k + 1) (by omega) (by omega) (by omega) f (by omega) _ (fun j hj => ?_)
    by_cases q : j = k
    · subst q; rw [upd_eq rfl]
    · rw [upd_ne q]; exact h j (by omega)
/-- the reference -/
theorem f_first {wi : Nat → Int32} {n l : Nat} (hn : n < 100) (hl : l < 5) (h : ∀ j x, j < n → x < 5 → wi (5 * j + x) = bB ((MN j).testBit x)) : fX12_firstOf wi (nI n) (nI l) = some (rI (ltk MN n l)) := by
  have S : ∀ x, 1 ≤ x → x ≤ 4 → ∀ m, fX12_firstOf_L2 wi (nI n) (nI l) (m + 1) (nI x) = if lt1 MN n l x = true then some (nI x) else if x ≤ n then fX12_firstOf_L2 wi (nI n) (nI l) m (nI (x + 1)) else some (-6) := by
    intro x h1 h4 m
    rw [fX12_firstOf_L2, if_neg (show ¬ (5 : Int32) ≤ nI x from nI_ge (a := x) (b := 5) (by omega) (by omega))]
    unfold fX12_firstOf_b40 fX12_firstOf_b34 lt1
    rw [nI_1]
    by_cases q1 : n < x
    · rw [if_pos (nI_lt q1 (by omega)), decide_eq_false (show ¬ x ≤ n by omega), Bool.false_and, if_neg (show ¬ false = true by simp), if_neg (show ¬ x ≤ n by omega)]
    · rw [if_neg (show ¬ nI n < nI x from nI_nlt (by omega) (by omega)), decide_eq_true (show x ≤ n by omega), if_pos (show x ≤ n by omega), Bool.true_and]
      by_cases q2 : x = l
      · rw [if_pos (show nI x = nI l by rw [q2]), decide_eq_true q2, Bool.not_true, Bool.false_and, if_neg (show ¬ false = true by simp)]
      · rw [if_neg (show ¬ nI x = nI l from fun e => q2 ((nI_inj (by omega) (by omega)).mp e)), decide_eq_false q2, pk_sub (by omega), Bool.not_false, Bool.true_and]
        simp (disch := omega) only [l_mul, nI_add, inb_t, toN_t, gd_T, h (n - x) x (by omega) (by omega), bB0]
        cases q3 : (MN (n - x)).testBit x with
        | false => rw [if_pos rfl, if_pos (by simp)]
        | true => rw [if_neg (by simp), if_neg (by simp)]
  have e5 : ∀ m, fX12_firstOf_L2 wi (nI n) (nI l) (m + 1) (nI 5) = some (-6) := fun m => by rw [fX12_firstOf_L2, if_pos (by decide)]; rfl
  have F : ∀ x, n < x → lt1 MN n l x = false := fun x hx => by unfold lt1; rw [decide_eq_false (by omega)]; rfl
  have g0 : fX12_firstOf wi (nI n) (nI l) = fX12_firstOf_L2 wi (nI n) (nI l) (99995 + 1 + 1 + 1 + 1 + 1) (nI 1) := rfl
  rw [g0, S 1 (by omega) (by omega), S 2 (by omega) (by omega), S 3 (by omega) (by omega), S 4 (by omega) (by omega), e5]
  unfold ltk rI
  by_cases c1 : lt1 MN n l 1 = true
  · rw [if_pos c1, if_pos c1]; rfl
  · rw [if_neg c1, if_neg c1]
    by_cases d1 : 1 ≤ n
    · rw [if_pos d1]
      by_cases c2 : lt1 MN n l 2 = true
      · rw [if_pos c2, if_pos c2]; rfl
      · rw [if_neg c2, if_neg c2]
        by_cases d2 : 2 ≤ n
        · rw [if_pos d2]
          by_cases c3 : lt1 MN n l 3 = true
          · rw [if_pos c3, if_pos c3]; rfl
          · rw [if_neg c3, if_neg c3]
            by_cases d3 : 3 ≤ n
            · rw [if_pos d3]
              by_cases c4 : lt1 MN n l 4 = true
              · rw [if_pos c4, if_pos c4]; rfl
              · rw [if_neg c4, if_neg c4]
                by_cases d4 : 4 ≤ n
                · rw [if_pos d4]; rfl
                · rw [if_neg d4]; rfl
            · rw [if_neg d3, F 4 (by omega)]; rfl
        · rw [if_neg d2, F 3 (by omega), F 4 (by omega)]; rfl
    · rw [if_neg d1, F 2 (by omega), F 3 (by omega), F 4 (by omega)]; rfl
theorem rI_neg {x : Nat} (h : x ≤ 4) : (rI x < 0) ↔ x = 0 := by
  unfold rI
  by_cases q : x = 0
  · rw [if_pos q]; exact ⟨fun _ => q, fun _ => by decide⟩
  · rw [if_neg q]; exact ⟨fun e => absurd e (nI_nneg (by omega)), fun e => absurd e q⟩
theorem f_L43 {x1 x2 x3 : Int32} (K : (Nat → Int32) → Int32 → Option (Int32 × (Nat → Int32))) {n : Nat} (hn : n < 100) : ∀ m l, l + m = 5 → ∀ f, m < f → ∀ wi, (∀ j x, j < n → x < 5 → wi (5 * j + x) = bB ((MN j).testBit x)) → (∀ x, x < l → wi (5 * n + x) = bB ((MN n).testBit x)) → ∃ wi', (∀ j x, j < n + 1 → x < 5 → wi' (5 * j + x) = bB ((MN j).testBit x)) ∧ fX12_bowls_L43 x1 x2 x3 K f wi (nI n) (nI l) = K wi' (nI (n + 1)) := by
  intro m
  induction m with
  | zero =>
    intro l hl f hf wi h1 h2
    obtain ⟨f, rfl⟩ : ∃ q, f = q + 1 := ⟨f - 1, by omega⟩
    have : l = 5 := by omega
    subst this
    refine ⟨wi, fun j x hj hx => ?_, by rw [fX12_bowls_L43, if_pos (by decide), nI_1]⟩
    by_cases q : j = n
    · subst q; exact h2 x hx
    · exact h1 j x (by omega) hx
  | succ m ih =>
    intro l hl f hf wi h1 h2
    obtain ⟨f, rfl⟩ : ∃ q, f = q + 1 := ⟨f - 1, by omega⟩
    rw [fX12_bowls_L43, if_neg (show ¬ (5 : Int32) ≤ nI l from nI_ge (a := l) (b := 5) (by omega) (by omega)), f_first hn (by omega) h1, bsome]
    unfold fX12_bowls_b76
    simp (disch := omega) only [l_mul, nI_add, inb_t, toN_t, gd_T, nI_1, nar1, nar0]
    have go : ∃ wi', (∀ j x, j < n + 1 → x < 5 → wi' (5 * j + x) = bB ((MN j).testBit x)) ∧ fX12_bowls_L43 x1 x2 x3 K f (upd wi (5 * n + l) (bB ((MN n).testBit l))) (nI n) (nI (l + 1)) = K wi' (nI (n + 1)) := by
      refine ih (l + 1) (by omega) f (by omega) _ (fun j x hj hx => ?_) (fun x hx => ?_)
      · rw [upd_ne (by omega)]; exact h1 j x hj hx
      · by_cases q : x = l
        · subst q; rw [upd_eq rfl]
        · rw [upd_ne (by omega)]; exact h2 x (by omega)
    have e6 := rI_neg (ltk_le MN n l)
    rw [MN_bit n (show l < 5 by omega)] at go
    by_cases q : ltk MN n l = 0
    · rw [if_pos (e6.mpr q)]
      rw [decide_eq_true q] at go
      exact go
    · rw [if_neg (fun e => q (e6.mp e))]
      rw [decide_eq_false q] at go
      exact go
theorem f_L34 {n l : Nat} (hn : n < 100) (hl : l < 5) (x3 : Int32) : ∀ m k, k + m = n → ∀ f, m < f → ∀ wi, (∀ j x, j < k → x < 5 → wi (5 * j + x) = bB ((MN j).testBit x)) → ∃ wi', fX12_bowls_L34 (nI n) (nI l) x3 f wi (nI k) = some ((if x3 = 1 then rI (ltk MN n l) else if 0 ≤ rI (ltk MN n l) then 1 else 0), wi') := by
  intro m
  induction m with
  | zero =>
    intro k hk f hf wi h
    obtain ⟨f, rfl⟩ : ∃ q, f = q + 1 := ⟨f - 1, by omega⟩
    have : k = n := by omega
    subst this
    refine ⟨wi, ?_⟩
    rw [fX12_bowls_L34, if_pos (Int32.le_refl _), f_first hn hl h, bsome]
    unfold fX12_bowls_b117
    by_cases q : x3 = 1
    · rw [if_pos q, if_pos q]
    · rw [if_neg q, if_neg q]
      by_cases r : 0 ≤ rI (ltk MN k l)
      · rw [if_pos r, if_pos r]
      · rw [if_neg r, if_neg r]
  | succ m ih =>
    intro k hk f hf wi h
    obtain ⟨f, rfl⟩ : ∃ q, f = q + 1 := ⟨f - 1, by omega⟩
    rw [fX12_bowls_L34, if_neg (nI_ge (by omega) (by omega))]
    obtain ⟨wi', g1, g2⟩ := f_L43 (x1 := nI n) (x2 := nI l) (x3 := x3) (fX12_bowls_L34 (nI n) (nI l) x3 f) (show k < 100 by omega) 5 0 (by omega) zF (by unfold zF; omega) wi h (fun x hx => absurd hx (by omega))
    have g2' : fX12_bowls_L43 (nI n) (nI l) x3 (fX12_bowls_L34 (nI n) (nI l) x3 f) zF wi (nI k) 0 = _ := g2
    rw [g2']
    exact ih (k + 1) (by omega) f (by omega) wi' g1
theorem op_bowls {kn : Int32} {won : Nat → Int32} (h : MB kn won) (wi : Nat → Int32) (x1 x2 x3 : Int32) : ∃ (r kn' : Int32) (won' wi' : Nat → Int32), fX11_bowls kn won x1 x2 x3 = some (r, kn', won') ∧ fX12_bowls wi x1 x2 x3 = some (r, wi') ∧ MB kn' won' := by
  have h' := h
  obtain ⟨k, hk, ek, hw⟩ := h
  unfold fX11_bowls fX12_bowls fX11_bowls_b28 fX12_bowls_b28 fX11_bowls_b58
  simp only [f_within, f_in, bsome, bI0]
  by_cases c1 : 0 ≤ x1 ∧ x1 ≤ 99
  · by_cases c2 : 0 ≤ x2 ∧ x2 ≤ 4
    · by_cases c3 : 0 ≤ x3 ∧ x3 ≤ 1
      · simp only [c1, c2, c3, not_true_eq_false, and_self, if_false]
        obtain ⟨n, hn, en⟩ := rng (by decide) c1
        obtain ⟨l, hl, el⟩ := rng (by decide) c2
        have hn : n < 100 := by omega
        have hl : l < 5 := by omega
        subst en
        subst el
        subst ek
        obtain ⟨won', g1, g2⟩ := f_win hn hl hk (n - k) k (by omega) (by omega) (by omega) zF (by unfold zF; omega) won hw
        have g2' : fX2_winningTake (nI k) won (nI n) (nI l) = _ := g2
        obtain ⟨wi', g3⟩ := f_L34 hn hl x3 n 0 (by omega) zF (by unfold zF; omega) wi (fun j x hj => absurd hj (by omega))
        have g3' : fX12_bowls_L34 (nI n) (nI l) x3 zF wi 0 = _ := g3
        rw [g2', g3', bsome]
        have e6 := rI_6 (ltk_le MN n l)
        by_cases q : x3 = 0
        · subst q
          rw [if_pos rfl, if_neg (show ¬ (0 : Int32) = 1 by decide)]
          by_cases r : ltk MN n l = 0
          · rw [if_pos (e6.mpr r), if_neg (show ¬ (0 : Int32) ≤ rI (ltk MN n l) by rw [e6.mpr r]; decide)]
            exact ⟨_, _, _, _, rfl, rfl, g1⟩
          · have e0 : (0 : Int32) ≤ rI (ltk MN n l) := by
              unfold rI
              rw [if_neg r]
              exact nI_pos' (by have := ltk_le MN n l; omega)
            rw [if_neg (fun e => r (e6.mp e)), if_pos e0]
            exact ⟨_, _, _, _, rfl, rfl, g1⟩
        · rw [if_neg q, if_pos (rng01 c3 q)]
          exact ⟨_, _, _, _, rfl, rfl, g1⟩
      · simp only [c1, c2, c3, not_true_eq_false, and_self, if_false, not_false_eq_true, if_true]
        exact ⟨_, _, _, _, rfl, rfl, h'⟩
    · simp only [c1, c2, not_true_eq_false, and_self, if_false, not_false_eq_true, if_true]
      exact ⟨_, _, _, _, rfl, rfl, h'⟩
  · simp only [c1, not_false_eq_true, if_true]
    exact ⟨_, _, _, _, rfl, rfl, h'⟩
