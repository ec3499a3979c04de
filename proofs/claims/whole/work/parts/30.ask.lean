def tal (b : Nat → Bool) (g f s w n : Nat) : Nat := cN (fun i => b i && decide (min (wN i g f s) 9 = w)) n
theorem f_tal0 {ft : Int64} {x1 x2 x3 : Int32} : ∀ m i, i + m = 10 → ∀ n, m < n → ∀ t : Nat → Int32, (∀ w, w < i → t w = 0) → ∃ t' : Nat → Int32, (∀ w, w < 10 → t' w = 0) ∧ fX7_tallyWorths_L3 ft x1 x2 x3 n t (nI i) = fX7_tallyWorths_L27 ft x1 x2 x3 zF t' 0 := by
  intro m
  induction m with
  | zero =>
    intro i hi n hn t h
    obtain ⟨n, rfl⟩ : ∃ q, n = q + 1 := ⟨n - 1, by omega⟩
    have : i = 10 := by omega
    subst this
    exact ⟨t, h, by rw [fX7_tallyWorths_L3, if_pos (by decide)]⟩
  | succ m ih =>
    intro i hi n hn t h
    obtain ⟨n, rfl⟩ : ∃ q, n = q + 1 := ⟨n - 1, by omega⟩
    rw [fX7_tallyWorths_L3, if_neg (show ¬ (9 : Int32) < nI i from nI_nlt (a := 9) (b := i) (by omega) (by omega))]
    simp (disch := omega) only [inb_t, toN_t, gd_T, nI_1]
    refine ih (i + 1) (by omega) n (by omega) _ (fun w hw => ?_)
    by_cases q : w = i
    · rw [upd_eq q]
    · rw [upd_ne q]; exact h w (by omega)
theorem f_tal {ft : Int64} {g f s : Nat} (hg : g < 4) (hf : f < 4) (hs : s < 4) : ∀ m i, i + m = 64 → ∀ n, m < n → ∀ t : Nat → Int32, (∀ w, w < 10 → t w = nI (tal (lb ft) g f s w i)) → ∃ t' : Nat → Int32, (∀ w, w < 10 → t' w = nI (tal (lb ft) g f s w 64)) ∧ fX7_tallyWorths_L27 ft (nI g) (nI f) (nI s) n t (nI i) = some t' := by
  intro m
  induction m with
  | zero =>
    intro i hi n hn t h
    obtain ⟨n, rfl⟩ : ∃ q, n = q + 1 := ⟨n - 1, by omega⟩
    have : i = 64 := by omega
    subst this
    exact ⟨t, h, by rw [fX7_tallyWorths_L27, if_pos (by decide)]⟩
  | succ m ih =>
    intro i hi n hn t h
    obtain ⟨n, rfl⟩ : ∃ q, n = q + 1 := ⟨n - 1, by omega⟩
    have hw := wN_le (i := i) (b := g) (c := f) (d := s) (by omega) (by omega) (by omega) (by omega)
    rw [fX7_tallyWorths_L27, if_neg (show ¬ (64 : Int32) ≤ nI i from nI_ge (a := i) (b := 64) (by omega) (by omega)), f_fits ft (by omega), bsome, f_worth (by omega), bsome, imin9 _ hw]
    unfold fX7_tallyWorths_b65
    simp (disch := omega) only [inb_t, toN_t, gd_T, nI_1]
    cases hb : lb ft i with
    | false =>
      rw [if_pos (by decide)]
      refine ih (i + 1) (by omega) n (by omega) t (fun w hw' => ?_)
      rw [h w hw']
      unfold tal
      rw [cN, hb]; rfl
    | true =>
      rw [if_neg (by decide)]
      refine ih (i + 1) (by omega) n (by omega) _ (fun w hw' => ?_)
      by_cases q : w = min (wN i g f s) 9
      · rw [upd_eq q, ← q, h w hw', nI_1]
        unfold tal
        rw [cN, hb, if_pos (by rw [Bool.true_and]; exact decide_eq_true q.symm)]
      · rw [upd_ne q, h w hw']
        unfold tal
        rw [cN, hb, if_neg (by rw [Bool.true_and, decide_eq_false (fun e => q e.symm)]; simp)]; rfl
theorem f_tally (ft : Int64) {g f s : Nat} (hg : g < 4) (hf : f < 4) (hs : s < 4) (t : Nat → Int32) : ∃ t' : Nat → Int32, (∀ w, w < 10 → t' w = nI (tal (lb ft) g f s w 64)) ∧ fX7_tallyWorths ft t (nI g) (nI f) (nI s) = some t' := by
  obtain ⟨t1, h1, h2⟩ := f_tal0 (ft := ft) (x1 := nI g) (x2 := nI f) (x3 := nI s) 10 0 (by omega) zF (by unfold zF; omega) t (fun w hw => absurd hw (by omega))
  have h2' : fX7_tallyWorths ft t (nI g) (nI f) (nI s) = _ := h2
  rw [h2']
  exact f_tal hg hf hs 64 0 (by omega) zF (by unfold zF; omega) t1 h1
theorem bel_n (b : Nat → Bool) {d g f s : Nat} (hd1 : 1 ≤ d) (hd : d ≤ 9) (hg : g < 4) (hf : f < 4) (hs : s < 4) : cN (fun i => b i && decide (wN i g f s < d - 1)) 64 + tal b g f s (d - 1) 64 = bel b (1000 * d + (100 * g + 10 * f + s)) := by
  have e1 : (1000 * d + (100 * g + 10 * f + s)) / 1000 = d := by omega
  have e2 : (1000 * d + (100 * g + 10 * f + s)) / 100 % 10 = g := by omega
  have e3 : (1000 * d + (100 * g + 10 * f + s)) / 10 % 10 = f := by omega
  have e4 : (1000 * d + (100 * g + 10 * f + s)) % 10 = s := by omega
  unfold tal bel
  rw [e1, e2, e3, e4]
  refine cN_add 64 (fun i _ => ?_)
  generalize wN i g f s = w
  cases b i with
  | false => rfl
  | true =>
    simp only [Bool.true_and, decide_eq_true_eq]
    by_cases c1 : w < d - 1
    · rw [if_pos c1, if_neg (by omega), if_pos (by omega)]
    · rw [if_neg c1]
      by_cases c2 : w < d
      · rw [if_pos c2, if_pos (by omega)]
      · rw [if_neg c2, if_neg (by omega)]
theorem f_debts (ft : Int64) {g f s : Nat} (hg : g < 4) (hf : f < 4) (hs : s < 4) {t : Nat → Int32} (ht : ∀ w, w < 10 → t w = nI (tal (lb ft) g f s w 64)) : ∀ m d, d + m = 10 → 1 ≤ d → ∀ n, m < n → ∀ S st, VT st → BM S (lef (lb ft)) st → ∃ st', VT st' ∧ BM (fun q => S q ∨ ∃ d', d ≤ d' ∧ d' ≤ 9 ∧ q = 1000 * d' + (100 * g + 10 * f + s)) (lef (lb ft)) st' ∧ fX7_considerDebts_L13 ft t (nI (100 * g + 10 * f + s)) n (gI st) (eL st) (nI (cN (lb ft) 64)) (nI (cN (fun i => lb ft i && decide (wN i g f s < d - 1)) 64)) (nI d) = some (gI st', eL st') := by
  intro m
  induction m with
  | zero =>
    intro d hd hd1 n hn S st hv hb
    obtain ⟨n, rfl⟩ : ∃ q, n = q + 1 := ⟨n - 1, by omega⟩
    have : d = 10 := by omega
    subst this
    refine ⟨st, hv, BM_congr hb (fun q => ⟨fun h => Or.inl h, fun h => h.elim id (fun ⟨d', h1, h2, _⟩ => absurd h1 (by omega))⟩), ?_⟩
    rw [fX7_considerDebts_L13, if_pos (by decide)]
  | succ m ih =>
    intro d hd hd1 n hn S st hv hb
    obtain ⟨n, rfl⟩ : ∃ q, n = q + 1 := ⟨n - 1, by omega⟩
    have hbel := bel_n (lb ft) hd1 (by omega : d ≤ 9) hg hf hs
    have hle := bel_le (lb ft) (1000 * d + (100 * g + 10 * f + s))
    have h64 := cN_le (lb ft) 64
    have hl := lef_le (lb ft) (1000 * d + (100 * g + 10 * f + s))
    have em : (nI d - 1).toNatClampNeg = d - 1 := by
      have e1 : nI d - 1 = nI (d - 1) := s_lit (c := 1) (by show 1 ≤ d; omega)
      rw [e1, toN_t (by omega)]
    have ei : inb (nI d - 1) 10 = true := by
      have e1 : nI d - 1 = nI (d - 1) := s_lit (c := 1) (by show 1 ≤ d; omega)
      rw [e1, inb_t (by omega)]
    rw [fX7_considerDebts_L13, if_neg (show ¬ (9 : Int32) < nI d from nI_nlt (a := 9) (b := d) (by omega) (by omega)), ei, gd_T, em, ht (d - 1) (by omega), nI_add, hbel, pk_sub hle, imx64 _ (by omega) _ (by omega)]
    have eL' : max (bel (lb ft) (1000 * d + (100 * g + 10 * f + s))) (cN (lb ft) 64 - bel (lb ft) (1000 * d + (100 * g + 10 * f + s))) = lef (lb ft) (1000 * d + (100 * g + 10 * f + s)) := rfl
    rw [eL']
    unfold fX7_considerDebts_b78 fX7_considerDebts_b90
    rw [nI_1, l_mul, nI_add]
    have nb : bel (lb ft) (1000 * d + (100 * g + 10 * f + s)) = cN (fun i => lb ft i && decide (wN i g f s < d + 1 - 1)) 64 := by
      unfold bel
      rw [show (1000 * d + (100 * g + 10 * f + s)) / 1000 = d by omega, show (1000 * d + (100 * g + 10 * f + s)) / 100 % 10 = g by omega, show (1000 * d + (100 * g + 10 * f + s)) / 10 % 10 = f by omega, show (1000 * d + (100 * g + 10 * f + s)) % 10 = s by omega]
      rfl
    rw [nb]
    have fin : ∃ st', VT st' ∧ BM (fun q => S q ∨ ∃ d', d ≤ d' ∧ d' ≤ 9 ∧ q = 1000 * d' + (100 * g + 10 * f + s)) (lef (lb ft)) st' ∧ fX7_considerDebts_L13 ft t (nI (100 * g + 10 * f + s)) n (gI (btr (lef (lb ft)) (1000 * d + (100 * g + 10 * f + s)) st)) (eL (btr (lef (lb ft)) (1000 * d + (100 * g + 10 * f + s)) st)) (nI (cN (lb ft) 64)) (nI (cN (fun i => lb ft i && decide (wN i g f s < d + 1 - 1)) 64)) (nI (d + 1)) = some (gI st', eL st') := by
      obtain ⟨st', k1, k2, k3⟩ := ih (d + 1) (by omega) (by omega) n (by omega) _ _ (VT_btr (L := lef (lb ft)) (q := 1000 * d + (100 * g + 10 * f + s)) hv (by omega) hl) (BM_step hb (1000 * d + (100 * g + 10 * f + s)))
      refine ⟨st', k1, BM_congr k2 (fun q => ⟨?_, ?_⟩), k3⟩
      · rintro ((h | h) | ⟨d', h1, h2, h3⟩)
        · exact Or.inl h
        · exact Or.inr ⟨d, by omega, by omega, h⟩
        · exact Or.inr ⟨d', by omega, h2, h3⟩
      · rintro (h | ⟨d', h1, h2, h3⟩)
        · exact Or.inl (Or.inl h)
        · by_cases z : d' = d
          · subst z; exact Or.inl (Or.inr h3)
          · exact Or.inr ⟨d', by omega, h2, h3⟩
    cases st with
    | none =>
      rw [if_pos (show nI (lef (lb ft) (1000 * d + (100 * g + 10 * f + s))) < eL none from nI_lt (b := 65) (by omega) (by omega))]
      exact fin
    | some p =>
      obtain ⟨v1, v2⟩ := hv p rfl
      have e1 : gI (some p) = nI p.1 := rfl
      have e2 : eL (some p) = nI p.2 := rfl
      rw [btr_s] at fin
      rw [e1, e2]
      by_cases c1 : lef (lb ft) (1000 * d + (100 * g + 10 * f + s)) < p.2
      · rw [if_pos c1] at fin
        rw [if_pos (nI_lt c1 (by omega))]
        exact fin
      · rw [if_neg c1] at fin
        rw [if_neg (nI_nlt (by omega) (by omega))]
        by_cases c2 : lef (lb ft) (1000 * d + (100 * g + 10 * f + s)) = p.2
        · rw [if_pos c2] at fin
          rw [if_pos (by rw [c2])]
          by_cases c3 : p.1 ≤ 1000 * d + (100 * g + 10 * f + s)
          · rw [if_pos c3] at fin
            rw [if_pos (nI_le c3 (by omega))]
            exact fin
          · rw [if_neg c3] at fin
            rw [if_neg (nI_ge (by omega) (by omega))]
            exact fin
        · rw [if_neg c2] at fin
          rw [if_neg (fun e => c2 ((nI_inj (by omega) (by omega)).mp e))]
          exact fin
theorem f_consider (ft : Int64) {g f s : Nat} (hg : g < 4) (hf : f < 4) (hs : s < 4) {t : Nat → Int32} (ht : ∀ w, w < 10 → t w = nI (tal (lb ft) g f s w 64)) (S : Nat → Prop) (st : Option (Nat × Nat)) (hv : VT st) (hb : BM S (lef (lb ft)) st) : ∃ st', VT st' ∧ BM (fun q => S q ∨ ∃ d', 1 ≤ d' ∧ d' ≤ 9 ∧ q = 1000 * d' + (100 * g + 10 * f + s)) (lef (lb ft)) st' ∧ fX7_considerDebts ft (gI st) (eL st) t (nI (100 * g + 10 * f + s)) = some (gI st', eL st') := by
  unfold fX7_considerDebts
  rw [f_bc, bsome, pop_cN]
  have z := f_debts ft hg hf hs ht 9 1 (by omega) (by omega) zF (by unfold zF; omega) S st hv hb
  have e0 : cN (fun i => lb ft i && decide (wN i g f s < 1 - 1)) 64 = 0 := cN_0 64 (fun i _ => by simp)
  rw [e0] at z
  exact z
theorem f_L28 (ft : Int64) {g f : Nat} (hg : g < 4) (hf : f < 4) (K14 : Int32 → Int32 → (Nat → Int32) → Int32 → Option (Int32 × Int32 × (Nat → Int32))) (K21 : Int32 → Int32 → (Nat → Int32) → Int32 → Int32 → Option (Int32 × Int32 × (Nat → Int32))) : ∀ m s, s + m = 4 → ∀ n, m < n → ∀ t S st, VT st → BM S (lef (lb ft)) st → ∃ st' t', VT st' ∧ BM (fun q => S q ∨ ∃ s' d', s ≤ s' ∧ s' < 4 ∧ 1 ≤ d' ∧ d' ≤ 9 ∧ q = 1000 * d' + (100 * g + 10 * f + s')) (lef (lb ft)) st' ∧ fX7_seekTrial_L28 ft K14 K21 n (gI st) (eL st) t (nI g) (nI f) (nI s) = K21 (gI st') (eL st') t' (nI g) (nI (f + 1)) := by
  intro m
  induction m with
  | zero =>
    intro s hs n hn t S st hv hb
    obtain ⟨n, rfl⟩ : ∃ q, n = q + 1 := ⟨n - 1, by omega⟩
    have : s = 4 := by omega
    subst this
    refine ⟨st, t, hv, BM_congr hb (fun q => ⟨fun h => Or.inl h, fun h => h.elim id (fun ⟨s', d', h1, h2, _⟩ => absurd h1 (by omega))⟩), ?_⟩
    rw [fX7_seekTrial_L28, if_pos (by decide), nI_1]
  | succ m ih =>
    intro s hs n hn t S st hv hb
    obtain ⟨n, rfl⟩ : ∃ q, n = q + 1 := ⟨n - 1, by omega⟩
    rw [fX7_seekTrial_L28, if_neg (show ¬ (3 : Int32) < nI s from nI_nlt (a := 3) (b := s) (by omega) (by omega))]
    obtain ⟨t1, h1, h2⟩ := f_tally ft hg hf (show s < 4 by omega) t
    rw [h2, bsome]
    unfold fX11_code
    rw [bsome, l_mul, l_mul, nI_add, nI_add]
    obtain ⟨st1, k1, k2, k3⟩ := f_consider ft hg hf (show s < 4 by omega) h1 S st hv hb
    rw [k3, bsome, nI_1]
    obtain ⟨st', t', j1, j2, j3⟩ := ih (s + 1) (by omega) n (by omega) t1 _ st1 k1 k2
    refine ⟨st', t', j1, BM_congr j2 (fun q => ⟨?_, ?_⟩), j3⟩
    · rintro ((h | ⟨d', h1, h2, h3⟩) | ⟨s', d', h1, h2, h3, h4, h5⟩)
      · exact Or.inl h
      · exact Or.inr ⟨s, d', by omega, by omega, h1, h2, h3⟩
      · exact Or.inr ⟨s', d', by omega, h2, h3, h4, h5⟩
    · rintro (h | ⟨s', d', h1, h2, h3, h4, h5⟩)
      · exact Or.inl (Or.inl h)
      · by_cases z : s' = s
        · subst z; exact Or.inl (Or.inr ⟨d', h3, h4, h5⟩)
        · exact Or.inr ⟨s', d', by omega, h2, h3, h4, h5⟩
theorem f_L21 (ft : Int64) {g : Nat} (hg : g < 4) (K14 : Int32 → Int32 → (Nat → Int32) → Int32 → Option (Int32 × Int32 × (Nat → Int32))) : ∀ m f, f + m = 4 → ∀ n, m < n → ∀ t S st, VT st → BM S (lef (lb ft)) st → ∃ st' t', VT st' ∧ BM (fun q => S q ∨ ∃ f' s' d', f ≤ f' ∧ f' < 4 ∧ s' < 4 ∧ 1 ≤ d' ∧ d' ≤ 9 ∧ q = 1000 * d' + (100 * g + 10 * f' + s')) (lef (lb ft)) st' ∧ fX7_seekTrial_L21 ft K14 n (gI st) (eL st) t (nI g) (nI f) = K14 (gI st') (eL st') t' (nI (g + 1)) := by
  intro m
  induction m with
  | zero =>
    intro f hf n hn t S st hv hb
    obtain ⟨n, rfl⟩ : ∃ q, n = q + 1 := ⟨n - 1, by omega⟩
    have : f = 4 := by omega
    subst this
    refine ⟨st, t, hv, BM_congr hb (fun q => ⟨fun h => Or.inl h, fun h => h.elim id (fun ⟨f', s', d', h1, h2, _⟩ => absurd h1 (by omega))⟩), ?_⟩
    rw [fX7_seekTrial_L21, if_pos (by decide), nI_1]
  | succ m ih =>
    intro f hf n hn t S st hv hb
    obtain ⟨n, rfl⟩ : ∃ q, n = q + 1 := ⟨n - 1, by omega⟩
    rw [fX7_seekTrial_L21, if_neg (show ¬ (3 : Int32) < nI f from nI_nlt (a := 3) (b := f) (by omega) (by omega))]
    obtain ⟨st1, t1, k1, k2, k3⟩ := f_L28 ft hg (show f < 4 by omega) K14 (fX7_seekTrial_L21 ft K14 n) 4 0 (by omega) zF (by unfold zF; omega) t S st hv hb
    have k3' : fX7_seekTrial_L28 ft K14 (fX7_seekTrial_L21 ft K14 n) zF (gI st) (eL st) t (nI g) (nI f) 0 = _ := k3
    rw [k3']
    obtain ⟨st', t', j1, j2, j3⟩ := ih (f + 1) (by omega) n (by omega) t1 _ st1 k1 k2
    refine ⟨st', t', j1, BM_congr j2 (fun q => ⟨?_, ?_⟩), j3⟩
    · rintro ((h | ⟨s', d', h1, h2, h3⟩) | ⟨f', s', d', h1, h2, h3⟩)
      · exact Or.inl h
      · exact Or.inr ⟨f, s', d', by omega, by omega, h2, h3⟩
      · exact Or.inr ⟨f', s', d', by omega, h2, h3⟩
    · rintro (h | ⟨f', s', d', h1, h2, h3, h4⟩)
      · exact Or.inl (Or.inl h)
      · by_cases z : f' = f
        · subst z; exact Or.inl (Or.inr ⟨s', d', by omega, h3, h4⟩)
        · exact Or.inr ⟨f', s', d', by omega, h2, h3, h4⟩
theorem f_L14t (ft : Int64) : ∀ m g, g + m = 4 → ∀ n, m < n → ∀ t S st, VT st → BM S (lef (lb ft)) st → ∃ st' t', VT st' ∧ BM (fun q => S q ∨ ∃ g' f' s' d', g ≤ g' ∧ g' < 4 ∧ f' < 4 ∧ s' < 4 ∧ 1 ≤ d' ∧ d' ≤ 9 ∧ q = 1000 * d' + (100 * g' + 10 * f' + s')) (lef (lb ft)) st' ∧ fX7_seekTrial_L14 ft n (gI st) (eL st) t (nI g) = some (gI st', eL st', t') := by
  intro m
  induction m with
  | zero =>
    intro g hg n hn t S st hv hb
    obtain ⟨n, rfl⟩ : ∃ q, n = q + 1 := ⟨n - 1, by omega⟩
    have : g = 4 := by omega
    subst this
    refine ⟨st, t, hv, BM_congr hb (fun q => ⟨fun h => Or.inl h, fun h => h.elim id (fun ⟨g', f', s', d', h1, h2, _⟩ => absurd h1 (by omega))⟩), ?_⟩
    rw [fX7_seekTrial_L14, if_pos (by decide)]
  | succ m ih =>
    intro g hg n hn t S st hv hb
    obtain ⟨n, rfl⟩ : ∃ q, n = q + 1 := ⟨n - 1, by omega⟩
    rw [fX7_seekTrial_L14, if_neg (show ¬ (3 : Int32) < nI g from nI_nlt (a := 3) (b := g) (by omega) (by omega))]
    obtain ⟨st1, t1, k1, k2, k3⟩ := f_L21 ft (show g < 4 by omega) (fX7_seekTrial_L14 ft n) 4 0 (by omega) zF (by unfold zF; omega) t S st hv hb
    have k3' : fX7_seekTrial_L21 ft (fX7_seekTrial_L14 ft n) zF (gI st) (eL st) t (nI g) 0 = _ := k3
    rw [k3']
    obtain ⟨st', t', j1, j2, j3⟩ := ih (g + 1) (by omega) n (by omega) t1 _ st1 k1 k2
    refine ⟨st', t', j1, BM_congr j2 (fun q => ⟨?_, ?_⟩), j3⟩
    · rintro ((h | ⟨f', s', d', h1, h2, h3⟩) | ⟨g', f', s', d', h1, h2, h3⟩)
      · exact Or.inl h
      · exact Or.inr ⟨g, f', s', d', by omega, by omega, h2, h3⟩
      · exact Or.inr ⟨g', f', s', d', by omega, h2, h3⟩
    · rintro (h | ⟨g', f', s', d', h1, h2, h3, h4⟩)
      · exact Or.inl (Or.inl h)
      · by_cases z : g' = g
        · subst z; exact Or.inl (Or.inr ⟨f', s', d', by omega, h3, h4⟩)
        · exact Or.inr ⟨g', f', s', d', by omega, h2, h3, h4⟩
/-- the trials -/
def TQ (q : Nat) : Prop := 1000 ≤ q ∧ q < 9334 ∧ q / 100 % 10 < 4 ∧ q / 10 % 10 < 4 ∧ q % 10 < 4
theorem f_seekT (ft : Int64) (b0 m0 : Int32) (t : Nat → Int32) : ∃ st t', VT st ∧ BM TQ (lef (lb ft)) st ∧ fX7_seekTrial ft b0 m0 t = some (gI st, eL st, t') := by
  obtain ⟨st, t', h1, h2, h3⟩ := f_L14t ft 4 0 (by omega) zF (by unfold zF; omega) t (fun _ => False) none (fun p hp => absurd hp (by simp)) (fun q h => h)
  refine ⟨st, t', h1, BM_congr h2 (fun q => ⟨?_, ?_⟩), h3⟩
  · rintro (h | ⟨g', f', s', d', h1, h2, h3, h4, h5, h6, h7⟩)
    · exact absurd h id
    · unfold TQ; omega
  · intro h
    unfold TQ at h
    exact Or.inr ⟨q / 100 % 10, q / 10 % 10, q % 10, q / 1000, by omega, by omega, by omega, by omega, by omega, by omega, by omega⟩
