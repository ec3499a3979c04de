theorem f_init {hr x2 : Int32} {ho ow ce : Nat → Int32} : ∀ m i, i + m = 64 → ∀ n, m < n → ∀ P, (∀ T, T < i → P T = bB (decide (T = 0))) → ∃ P', AB P' (fun T => decide (T = 0)) ∧ fX6_most_L2 hr ho ow ce x2 n P (nI i) = fX6_most_L31 hr ho ow ce x2 zF P' 0 := by
  intro m
  induction m with
  | zero =>
    intro i hi n hn P h
    obtain ⟨n, rfl⟩ : ∃ q, n = q + 1 := ⟨n - 1, by omega⟩
    have : i = 64 := by omega
    subst this
    refine ⟨P, h, ?_⟩
    rw [fX6_most_L2, if_pos (by decide)]
  | succ m ih =>
    intro i hi n hn P h
    obtain ⟨n, rfl⟩ : ∃ q, n = q + 1 := ⟨n - 1, by omega⟩
    rw [fX6_most_L2, if_neg (show ¬ (64 : Int32) ≤ nI i from nI_ge (a := i) (b := 64) (by omega) (by omega))]
    unfold fX6_most_b22
    simp (disch := omega) only [inb_t, toN_t, gd_T, nar1, nar0, nI_1]
    have go : ∃ P', AB P' (fun T => decide (T = 0)) ∧ fX6_most_L2 hr ho ow ce x2 n (upd P i (bB (decide (i = 0)))) (nI (i + 1)) = fX6_most_L31 hr ho ow ce x2 zF P' 0 := by
      refine ih (i + 1) (by omega) n (by omega) _ (fun T hT => ?_)
      by_cases q : T = i
      · subst q; rw [upd_eq rfl]
      · rw [upd_ne q]; exact h T (by omega)
    by_cases q : i = 0
    · subst q
      rw [if_pos (show nI 0 = (0 : Int32) from rfl)]
      exact go
    · rw [if_neg (nI_ne0 (by omega) (by omega))]
      rw [decide_eq_false q] at go
      exact go
theorem f_initM {x1 x2 : Int32} {B Nw : Nat → Int32} {o1 o2 o3 o4 : Int32} : ∀ m i, i + m = 64 → ∀ n, m < n → ∀ P, (∀ T, T < i → P T = bB (decide (T = 0))) → ∃ P', AB P' (fun T => decide (T = 0)) ∧ fX12_arms_L28 B x1 x2 n o1 o2 o3 o4 Nw P (nI i) = fX12_arms_L57 B x1 x2 zF o1 o2 o3 o4 Nw P' 0 := by
  intro m
  induction m with
  | zero =>
    intro i hi n hn P h
    obtain ⟨n, rfl⟩ : ∃ q, n = q + 1 := ⟨n - 1, by omega⟩
    have : i = 64 := by omega
    subst this
    refine ⟨P, h, ?_⟩
    rw [fX12_arms_L28, if_pos (by decide)]
  | succ m ih =>
    intro i hi n hn P h
    obtain ⟨n, rfl⟩ : ∃ q, n = q + 1 := ⟨n - 1, by omega⟩
    rw [fX12_arms_L28, if_neg (show ¬ (64 : Int32) ≤ nI i from nI_ge (a := i) (b := 64) (by omega) (by omega))]
    unfold fX12_arms_b48
    simp (disch := omega) only [inb_t, toN_t, gd_T, nar1, nar0, nI_1]
    have go : ∃ P', AB P' (fun T => decide (T = 0)) ∧ fX12_arms_L28 B x1 x2 n o1 o2 o3 o4 Nw (upd P i (bB (decide (i = 0)))) (nI (i + 1)) = fX12_arms_L57 B x1 x2 zF o1 o2 o3 o4 Nw P' 0 := by
      refine ih (i + 1) (by omega) n (by omega) _ (fun T hT => ?_)
      by_cases q : T = i
      · subst q; rw [upd_eq rfl]
      · rw [upd_ne q]; exact h T (by omega)
    by_cases q : i = 0
    · subst q
      rw [if_pos (show nI 0 = (0 : Int32) from rfl)]
      exact go
    · rw [if_neg (nI_ne0 (by omega) (by omega))]
      rw [decide_eq_false q] at go
      exact go
theorem f_hold {ce ho ow N B : Nat → Int32} {hr x1 x2 o1 o2 o3 o4 : Int32} (hc : ∀ i, i < 6 → ∃ a, a < 12 ∧ N i = nI a) (h0 : ∀ i, i < 6 → ce i = N i) (h1 : ∀ i, i < 6 → ho i = N (6 + i)) (h2 : ∀ i, i < 6 → ow i = N (12 + i)) (h3 : hr = N 51) :
    ∀ m i, i + m = 6 → ∀ n1 n2, m < n1 → m < n2 → ∀ P C b, AB P b → AB C b → ∃ P' C' b', AB P' b' ∧ AB C' b' ∧ fX6_most_L31 hr ho ow ce x1 n1 P (nI i) = fX6_most_L66 hr ho ow ce x1 zF P' 0 0 ∧ fX12_arms_L57 B x1 x2 n2 o1 o2 o3 o4 N C (nI i) = fX12_arms_L238 B x1 x2 zF o1 o2 o3 o4 N C' 0 1 := by
  intro m
  induction m with
  | zero =>
    intro i hi n1 n2 hn1 hn2 P C b hP hC
    obtain ⟨n1, rfl⟩ : ∃ q, n1 = q + 1 := ⟨n1 - 1, by omega⟩
    obtain ⟨n2, rfl⟩ : ∃ q, n2 = q + 1 := ⟨n2 - 1, by omega⟩
    have : i = 6 := by omega
    subst this
    refine ⟨P, C, b, hP, hC, ?_, ?_⟩
    · rw [fX6_most_L31, if_pos (by decide)]
    · rw [fX12_arms_L57, if_pos (by decide)]
  | succ m ih =>
    intro i hi n1 n2 hn1 hn2 P C b hP hC
    obtain ⟨n1, rfl⟩ : ∃ q, n1 = q + 1 := ⟨n1 - 1, by omega⟩
    obtain ⟨n2, rfl⟩ : ∃ q, n2 = q + 1 := ⟨n2 - 1, by omega⟩
    rw [fX6_most_L31, if_neg (show ¬ (6 : Int32) ≤ nI i from nI_ge (a := i) (b := 6) (by omega) (by omega)), f_peace h1 h2 h3 (by omega), bsome]
    rw [fX12_arms_L57, if_neg (show ¬ (6 : Int32) ≤ nI i from nI_ge (a := i) (b := 6) (by omega) (by omega))]
    simp only [bI0, fX6_most_b55, nI_1]
    by_cases p : pcb N i = true
    · rw [if_neg (fun h => h p)]
      obtain ⟨R, r1, r2, r3⟩ := f_reach h0 h1 h2 h3 (w := i) (by omega) x1
      rw [r3, bsome]
      obtain ⟨P', p1, p2⟩ := f_L3 r1 64 (by omega) zF (by unfold zF; omega) P b hP
      have p2' : fX6_addHolder P (nI R) = some P' := p2
      rw [p2', bsome]
      obtain ⟨C', c1, c2⟩ := f_L67 (B := B) hc (x2 := x2) (by omega : i < 6) r2 p (fX12_arms_L57 B x1 x2 n2) o1 o2 o3 o4 63 (by omega) zF (by unfold zF; omega) C b hC
      have c2' : fX12_arms_L67 B x1 x2 (fX12_arms_L57 B x1 x2 n2) zF o1 o2 o3 o4 N C (nI i) 63 = _ := c2
      rw [c2']
      exact ih (i + 1) (by omega) n1 n2 (by omega) (by omega) P' C' _ p1 (AB_ext c1 (fun T hT => (dn_dr b T hT).symm))
    · rw [if_pos p, show zF = 99999 + 1 from rfl, fX12_arms_L67, if_neg (by decide), f_peaceM N (by omega), bsome]
      simp only [bI0]
      rw [if_pos p]
      unfold fX12_arms_b227
      rw [nI_1]
      exact ih (i + 1) (by omega) n1 n2 (by omega) (by omega) P C b hP hC
theorem f_best {ce ho ow N B : Nat → Int32} {hr x1 x2 o1 o2 o3 o4 : Int32} {P C : Nat → Int32} {b : Nat → Bool} (hP : AB P b) (hC : AB C b) :
    ∀ m i, i + m = 64 → ∀ n1 n2, m < n1 → m < n2 → ∀ a, a < 64 → ∃ a', a' < 64 ∧ fX6_most_L66 hr ho ow ce x1 n1 P (nI a) (nI i) = some (nI a', P) ∧ fX12_arms_L238 B x1 x2 n2 o1 o2 o3 o4 N C (nI a) (nI i) = (if x2 = 0 then some (nI (pop8 a'), o1, o2, o3, o4, N, C) else some (nI a', o1, o2, o3, o4, N, C)) := by
  intro m
  induction m with
  | zero =>
    intro i hi n1 n2 hn1 hn2 a ha
    obtain ⟨n1, rfl⟩ : ∃ q, n1 = q + 1 := ⟨n1 - 1, by omega⟩
    obtain ⟨n2, rfl⟩ : ∃ q, n2 = q + 1 := ⟨n2 - 1, by omega⟩
    have : i = 64 := by omega
    subst this
    refine ⟨a, ha, ?_, ?_⟩
    · rw [fX6_most_L66, if_pos (by decide)]
    · rw [fX12_arms_L238, if_pos (by decide), f_bits8 a (by omega), bsome]
      rfl
  | succ m ih =>
    intro i hi n1 n2 hn1 hn2 a ha
    obtain ⟨n1, rfl⟩ : ∃ q, n1 = q + 1 := ⟨n1 - 1, by omega⟩
    obtain ⟨n2, rfl⟩ : ∃ q, n2 = q + 1 := ⟨n2 - 1, by omega⟩
    rw [fX6_most_L66, if_neg (show ¬ (64 : Int32) ≤ nI i from nI_ge (a := i) (b := 64) (by omega) (by omega))]
    rw [fX12_arms_L238, if_neg (show ¬ (64 : Int32) ≤ nI i from nI_ge (a := i) (b := 64) (by omega) (by omega))]
    simp (disch := omega) only [inb_t, toN_t, gd_T, hP i (by omega), hC i (by omega), bB0, f_bc8 i (by omega), f_bc8 a (by omega), f_bits8 i (by omega), f_bits8 a (by omega), bsome, fX6_most_b98, fX12_arms_b272, fX12_arms_b273, nI_1]
    by_cases q : b i = false
    · rw [if_pos q, if_pos q]
      exact ih (i + 1) (by omega) n1 n2 (by omega) (by omega) a ha
    · rw [if_neg q, if_neg q]
      by_cases r : nI (pop8 i) ≤ nI (pop8 a)
      · rw [if_pos r, if_pos r]
        exact ih (i + 1) (by omega) n1 n2 (by omega) (by omega) a ha
      · rw [if_neg r, if_neg r]
        exact ih (i + 1) (by omega) n1 n2 (by omega) (by omega) i (by omega)
theorem op_arms {ce ho ow hd li go lk : Nat → Int32} {wc wy wf hr dy : Int32} {B : Nat → Int32} (hT : TR ce ho ow hd li go lk wc wy wf hr dy B) (hB : BI B) (ps : Nat → Int32) (o1 o2 o3 o4 : Int32) (N C : Nat → Int32) (x1 x2 : Int32) :
    ∃ (r p1 p2 p3 p4 : Int32) (ps' N' C' : Nat → Int32), fX11_arms ps hr ho ow ce x1 x2 = some (r, ps') ∧ fX12_arms o1 o2 o3 o4 B N C x1 x2 = some (r, p1, p2, p3, p4, N', C') := by
  unfold fX11_arms fX12_arms fX11_arms_b19 fX12_arms_b19 fX11_arms_b47
  simp only [f_within, f_in, bsome, bI0, f_asNow]
  by_cases h1 : 0 ≤ x1 ∧ x1 ≤ 11
  · by_cases h2 : 0 ≤ x2 ∧ x2 ≤ 1
    · simp only [h1, h2, not_true_eq_false, and_self, if_false]
      have c0 : ∀ i, i < 6 → ce i = cp B N 56 i := fun i hi => by rw [cp_in (by omega)]; exact hT.1 i hi
      have c1 : ∀ i, i < 6 → ho i = cp B N 56 (6 + i) := fun i hi => by rw [cp_in (by omega)]; exact hT.2.1 i hi
      have c2 : ∀ i, i < 6 → ow i = cp B N 56 (12 + i) := fun i hi => by rw [cp_in (by omega)]; exact hT.2.2.1 i hi
      have c3 : hr = cp B N 56 51 := by rw [cp_in (by omega)]; exact hT.2.2.2.2.2.2.2.2.2.2.1
      have hc : ∀ i, i < 6 → ∃ a, a < 12 ∧ cp B N 56 i = nI a := fun i hi => by rw [cp_in (by omega)]; exact hB.1 i hi
      unfold fX6_most
      obtain ⟨P1, a1, a2⟩ := f_init (hr := hr) (x2 := x1) (ho := ho) (ow := ow) (ce := ce) 64 0 (by omega) zF (by unfold zF; omega) ps (fun T hT => absurd hT (by omega))
      have a2' : fX6_most_L2 hr ho ow ce x1 zF ps 0 = _ := a2
      obtain ⟨C1, b1, b2⟩ := f_initM (x1 := x1) (x2 := x2) (B := B) (Nw := cp B N 56) (o1 := 0) (o2 := -6) (o3 := -6) (o4 := -6) 64 0 (by omega) zF (by unfold zF; omega) C (fun T hT => absurd hT (by omega))
      have b2' : fX12_arms_L28 B x1 x2 zF 0 (-6) (-6) (-6) (cp B N 56) C 0 = _ := b2
      rw [a2', b2']
      obtain ⟨P2, C2, b, d1, d2, d3, d4⟩ := f_hold (B := B) (x1 := x1) (x2 := x2) (o1 := 0) (o2 := -6) (o3 := -6) (o4 := -6) hc c0 c1 c2 c3 6 0 (by omega) zF zF (by unfold zF; omega) (by unfold zF; omega) P1 C1 _ a1 b1
      have d3' : fX6_most_L31 hr ho ow ce x1 zF P1 0 = _ := d3
      have d4' : fX12_arms_L57 B x1 x2 zF 0 (-6) (-6) (-6) (cp B N 56) C1 0 = _ := d4
      rw [d3', d4']
      obtain ⟨a, ha, e1, e2⟩ := f_best (ce := ce) (ho := ho) (ow := ow) (N := cp B N 56) (B := B) (hr := hr) (x1 := x1) (x2 := x2) (o1 := 0) (o2 := -6) (o3 := -6) (o4 := -6) d1 d2 63 1 (by omega) 99999 zF (by omega) (by unfold zF; omega) 0 (by omega)
      have e1' : fX6_most_L66 hr ho ow ce x1 99999 P2 0 1 = some (nI a, P2) := e1
      have e2' : fX12_arms_L238 B x1 x2 zF 0 (-6) (-6) (-6) (cp B N 56) C2 0 1 = _ := e2
      have st : fX6_most_L66 hr ho ow ce x1 zF P2 0 0 = some (nI a, P2) := by
        rw [← e1', show zF = 99999 + 1 from rfl, fX6_most_L66, if_neg (by decide)]
        have z1 : fJ6_bitCount_0f7a4 0 = some (nI (pop8 0)) := f_bc8 0 (by omega)
        have z2 : inb 0 64 = true := by decide
        rw [z2, gd_T, z1, bsome, bsome, if_pos (Int32.le_refl _)]
        unfold fX6_most_b98
        by_cases q : P2 (0 : Int32).toNatClampNeg = 0
        · rw [if_pos q]; rfl
        · rw [if_neg q]; rfl
      rw [st, e2', bsome]
      by_cases q : x2 = 0
      · rw [if_pos q, if_pos q, f_bc8 a (by omega), bsome]
        exact ⟨_, _, _, _, _, _, _, _, rfl, rfl⟩
      · rw [if_neg q, if_neg q]
        exact ⟨_, _, _, _, _, _, _, _, rfl, rfl⟩
    · simp only [h1, h2, not_true_eq_false, and_self, if_false, not_false_eq_true, if_true]
      exact ⟨_, _, _, _, _, _, _, _, rfl, rfl⟩
  · simp only [h1, not_false_eq_true, if_true]
    exact ⟨_, _, _, _, _, _, _, _, rfl, rfl⟩
