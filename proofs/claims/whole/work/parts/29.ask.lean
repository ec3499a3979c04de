/-! ask: the best trial -/
def cN (p : Nat → Bool) : Nat → Nat
  | 0 => 0
  | k + 1 => cN p k + (if p k = true then 1 else 0)
theorem cN_le (p : Nat → Bool) : ∀ k, cN p k ≤ k := by
  intro k
  induction k with
  | zero => exact Nat.le_refl 0
  | succ k ih =>
    rw [cN]
    by_cases h : p k = true
    · rw [if_pos h]; omega
    · rw [if_neg h]; omega
theorem cN_add {p q r : Nat → Bool} : ∀ n, (∀ i, i < n → (if p i = true then 1 else 0) + (if q i = true then 1 else 0) = (if r i = true then 1 else 0 : Nat)) → cN p n + cN q n = cN r n := by
  intro n
  induction n with
  | zero => intro _; rfl
  | succ n ih =>
    intro h
    have h1 := ih (fun i hi => h i (by omega))
    have h2 := h n (by omega)
    rw [cN, cN, cN]
    omega
theorem cN_ext {p q : Nat → Bool} : ∀ n, (∀ i, i < n → p i = q i) → cN p n = cN q n := by
  intro n
  induction n with
  | zero => intro _; rfl
  | succ n ih => intro h; rw [cN, cN, ih (fun i hi => h i (by omega)), h n (by omega)]
theorem cN_0 {p : Nat → Bool} : ∀ n, (∀ i, i < n → p i = false) → cN p n = 0 := by
  intro n
  induction n with
  | zero => intro _; rfl
  | succ n ih => intro h; rw [cN, ih (fun i hi => h i (by omega)), h n (by omega)]; rfl
theorem pop_cN (ft : Int64) : ∀ n, popN (lT ft) n = cN (lb ft) n := by
  intro n
  induction n with
  | zero => rfl
  | succ n ih =>
    have h3 := lb_T ft n
    rw [Nat.testBit_eq_decide_div_mod_eq] at h3
    rw [popN, cN, ih, ← h3]
    by_cases z : lT ft / 2 ^ n % 2 = 1
    · rw [if_pos (decide_eq_true z), z]
    · rw [if_neg (by rw [decide_eq_false z]; simp)]
      omega
/-- what a question leaves, at most -/
def bel (b : Nat → Bool) (q : Nat) : Nat := cN (fun i => b i && decide (wN i (q / 100 % 10) (q / 10 % 10) (q % 10) < q / 1000)) 64
def lef (b : Nat → Bool) (q : Nat) : Nat := max (bel b q) (cN b 64 - bel b q)
theorem bel_le (b : Nat → Bool) (q : Nat) : bel b q ≤ cN b 64 := by
  have := cN_add (p := fun i => b i && decide (wN i (q / 100 % 10) (q / 10 % 10) (q % 10) < q / 1000)) (q := fun i => b i && !decide (wN i (q / 100 % 10) (q / 10 % 10) (q % 10) < q / 1000)) (r := b) 64 (fun i _ => by
    cases b i <;> cases decide (wN i (q / 100 % 10) (q / 10 % 10) (q % 10) < q / 1000) <;> rfl)
  unfold bel
  omega
theorem lef_le (b : Nat → Bool) (q : Nat) : lef b q ≤ 64 := by
  have h1 := bel_le b q
  have h2 := cN_le b 64
  unfold lef
  omega
def BM (S : Nat → Prop) (L : Nat → Nat) (st : Option (Nat × Nat)) : Prop := match st with
  | none => ∀ q, ¬ S q
  | some p => S p.1 ∧ p.2 = L p.1 ∧ ∀ q, S q → (p.2 < L q ∨ (p.2 = L q ∧ p.1 ≤ q))
theorem BM_congr {S S' : Nat → Prop} {L : Nat → Nat} {st : Option (Nat × Nat)} (h : BM S L st) (e : ∀ q, S q ↔ S' q) : BM S' L st := by
  cases st with
  | none => exact fun q hq => h q ((e q).mpr hq)
  | some p => exact ⟨(e _).mp h.1, h.2.1, fun q hq => h.2.2 q ((e q).mpr hq)⟩
theorem BM_uni {S : Nat → Prop} {L : Nat → Nat} {st st' : Option (Nat × Nat)} (h : BM S L st) (h' : BM S L st') : st = st' := by
  cases st with
  | none =>
    cases st' with
    | none => rfl
    | some p => exact absurd h'.1 (h _)
  | some p =>
    cases st' with
    | none => exact absurd h.1 (h' _)
    | some p' =>
      obtain ⟨a1, a2, a3⟩ := h
      obtain ⟨b1, b2, b3⟩ := h'
      have c1 := a3 _ b1
      have c2 := b3 _ a1
      have e1 : p.1 = p'.1 := by omega
      have e2 : p.2 = p'.2 := by omega
      rw [show p = (p.1, p.2) from rfl, show p' = (p'.1, p'.2) from rfl, e1, e2]
def btr (L : Nat → Nat) (q : Nat) (st : Option (Nat × Nat)) : Option (Nat × Nat) := match st with
  | none => some (q, L q)
  | some p => if L q < p.2 then some (q, L q) else if L q = p.2 then (if p.1 ≤ q then some p else some (q, L q)) else some p
theorem btr_s (L : Nat → Nat) (q : Nat) (p : Nat × Nat) : btr L q (some p) = if L q < p.2 then some (q, L q) else if L q = p.2 then (if p.1 ≤ q then some p else some (q, L q)) else some p := rfl
theorem BM_step {S : Nat → Prop} {L : Nat → Nat} {st : Option (Nat × Nat)} (h : BM S L st) (q : Nat) : BM (fun q' => S q' ∨ q' = q) L (btr L q st) := by
  cases st with
  | none => exact ⟨Or.inr rfl, rfl, fun q' hq => by rcases hq with hq | hq; exact absurd hq (h q'); subst hq; exact Or.inr ⟨rfl, Nat.le_refl _⟩⟩
  | some p =>
    obtain ⟨h1, h2, h3⟩ := h
    rw [btr_s]
    by_cases c1 : L q < p.2
    · rw [if_pos c1]
      refine ⟨Or.inr rfl, rfl, fun q' hq => ?_⟩
      rcases hq with hq | hq
      · have := h3 q' hq
        show L q < L q' ∨ _
        left; omega
      · subst hq; exact Or.inr ⟨rfl, Nat.le_refl _⟩
    · rw [if_neg c1]
      by_cases c2 : L q = p.2
      · rw [if_pos c2]
        by_cases c3 : p.1 ≤ q
        · rw [if_pos c3]
          refine ⟨Or.inl h1, h2, fun q' hq => ?_⟩
          rcases hq with hq | hq
          · exact h3 q' hq
          · subst hq; exact Or.inr ⟨c2.symm, c3⟩
        · rw [if_neg c3]
          refine ⟨Or.inr rfl, rfl, fun q' hq => ?_⟩
          rcases hq with hq | hq
          · have := h3 q' hq
            show L q < L q' ∨ (L q = L q' ∧ q ≤ q')
            omega
          · subst hq; exact Or.inr ⟨rfl, Nat.le_refl _⟩
      · rw [if_neg c2]
        refine ⟨Or.inl h1, h2, fun q' hq => ?_⟩
        rcases hq with hq | hq
        · exact h3 q' hq
        · subst hq; left; omega
def VT (st : Option (Nat × Nat)) : Prop := ∀ p, st = some p → p.1 < 10000 ∧ p.2 ≤ 64
def eL (st : Option (Nat × Nat)) : Int32 := match st with
  | none => 65
  | some p => nI p.2
theorem VT_btr {L : Nat → Nat} {q : Nat} {st : Option (Nat × Nat)} (h : VT st) (hq : q < 10000) (hL : L q ≤ 64) : VT (btr L q st) := by
  intro p hp
  cases st with
  | none =>
    have : (q, L q) = p := Option.some.inj hp
    rw [← this]; exact ⟨hq, hL⟩
  | some r =>
    rw [btr_s] at hp
    by_cases c1 : L q < r.2
    · rw [if_pos c1] at hp
      rw [← Option.some.inj hp]; exact ⟨hq, hL⟩
    · rw [if_neg c1] at hp
      by_cases c2 : L q = r.2
      · rw [if_pos c2] at hp
        by_cases c3 : r.1 ≤ q
        · rw [if_pos c3] at hp; exact h p hp
        · rw [if_neg c3] at hp
          rw [← Option.some.inj hp]; exact ⟨hq, hL⟩
      · rw [if_neg c2] at hp; exact h p hp
theorem imin9 : ∀ w, w < 82 → imin (nI w) 9 = nI (min w 9) := by decide +kernel
theorem imx64 : ∀ a, a < 65 → ∀ b, b < 65 → imax (nI a) (nI b) = nI (max a b) := by decide +kernel
