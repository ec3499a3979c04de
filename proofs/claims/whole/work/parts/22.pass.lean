theorem rng01 {x : Int32} (h : 0 ≤ x ∧ x ≤ 1) (h0 : ¬ x = 0) : x = 1 := by
  obtain ⟨p, hp, e⟩ := rng (by decide) h
  have : p = 0 ∨ p = 1 := by omega
  rcases this with rfl | rfl
  · exact absurd e h0
  · exact e
theorem p_and {s m : Nat} (hs : s < 12) : 2 ^ s &&& (4095 ^^^ m) = if m.testBit s = true then 0 else 2 ^ s := by
  have h12 : Nat.testBit 4095 s = true := (by decide : ∀ i, i < 12 → Nat.testBit 4095 i = true) s hs
  apply Nat.eq_of_testBit_eq
  intro i
  rw [Nat.testBit_and, Nat.testBit_two_pow, Nat.testBit_xor]
  by_cases q : s = i
  · subst q
    rw [h12]
    cases h : m.testBit s
    · rw [if_neg (by simp), Nat.testBit_two_pow]; simp
    · rw [if_pos rfl]; simp
  · have : decide (s = i) = false := decide_eq_false q
    rw [this]
    cases h : m.testBit s
    · rw [if_neg (by simp), Nat.testBit_two_pow, this]; rfl
    · rw [if_pos rfl]; simp
def PH (m : Nat) (s0 : Int32) (U : Nat) : Prop := (¬ (0 ≤ s0 ∧ s0 ≤ 11) ∧ U = 0) ∨ ∃ s, s < 12 ∧ s0 = nI s ∧ U = if m.testBit s = true then 0 else 2 ^ s
theorem f_b100 {B : Nat → Int32} {f to c y : Nat} (hf : f < 10) (ht : to < 12) (hc : c < 12) (hy : y < 2) (e1 : B 48 = nI c) (e2 : B 49 = nI y) (e3 : B 50 = nI f) (x1 x3 : Int32) (K : Int32 → Int32 → Int32 → Int32 → (Nat → Int32) → Int32 → Int32 → Option (Int32 × Int32 × Int32 × Int32 × Int32 × (Nat → Int32))) (a1 a2 a3 a4 : Int32) (N : Nat → Int32) {i : Nat} (hi : i < 600) (x5 s0 : Int32) {U : Nat} (hU : PH (wmk f c y 0) s0 U) (hb : ∀ j, j < i → (sq f j (wpc f c y) (wpy f c y) U).testBit to = false) :
    ((sq f i (wpc f c y) (wpy f c y) U).testBit to = true → ∃ (b1 b2 b3 b4 : Int32) (N' : Nat → Int32), fX12_pass_b100 B x1 (nI to) x3 K a1 a2 a3 a4 N (nI (i + 1)) x5 s0 = some (x5, b1, b2, b3, b4, N')) ∧
    ((sq f i (wpc f c y) (wpy f c y) U).testBit to = false → ∃ (b1 b2 b3 b4 : Int32) (N' : Nat → Int32), fX12_pass_b100 B x1 (nI to) x3 K a1 a2 a3 a4 N (nI (i + 1)) x5 s0 = K b1 b2 b3 b4 N' (nI (i + 1)) (x5 + 1)) := by
  have hm : wmk f c y 0 < 4096 := wmk_lt _ _ _ _ hc hy (by omega)
  obtain ⟨p1, p2⟩ := wp_lt f c y hc hy
  unfold fX12_pass_b100
  simp only [f_asNow, bsome, f_isCellM, bI0]
  rcases hU with ⟨h1, h2⟩ | ⟨s, h1, h2, h3⟩
  · subst h2
    rw [sq_0]
    refine ⟨fun h => absurd h (by simp), fun _ => ?_⟩
    rw [if_pos h1]
    unfold fX12_pass_b130 fX12_pass_b131 fX12_pass_b155
    rw [if_pos rfl]
    exact ⟨_, _, _, _, _, rfl⟩
  · subst h2
    have hr : 0 ≤ nI s ∧ nI s ≤ 11 := rng_of (c := 11) (by decide) (by show s ≤ 11; omega)
    obtain ⟨N1, g1, g2, g3, g4⟩ := f_blowHo (N := cp B N 56) hf hc hy (by rw [cp_in (by omega)]; exact e1) (by rw [cp_in (by omega)]; exact e2) (by rw [cp_in (by omega)]; exact e3)
    rw [if_neg (fun h => h hr), g1, bsome, f_hasM, bsome]
    simp only [bI0]
    have hh := has_N (a := wmk f c y 0) (k := s) (by omega) (by omega)
    by_cases q : (wmk f c y 0).testBit s = true
    · rw [if_pos q] at h3
      subst h3
      rw [sq_0]
      refine ⟨fun h => absurd h (by simp), fun _ => ?_⟩
      rw [if_neg (fun h => h (hh.mpr q))]
      unfold fX12_pass_b130 fX12_pass_b131 fX12_pass_b155
      rw [if_pos rfl]
      exact ⟨_, _, _, _, _, rfl⟩
    · rw [if_neg q] at h3
      subst h3
      rw [if_pos (fun h => q (hh.mp h))]
      unfold fX12_pass_b131 fX12_pass_b155 fX12_hoursTo
      rw [if_neg (by decide), sl_1 _ (by omega)]
      have hp : 2 ^ s < 4096 := Nat.pow_lt_pow_right (n := 12) (by omega) h1
      obtain ⟨N', h⟩ := f_hours (f := f) (to := to) hf ht (nI s) 600 0 (by omega) zF (by unfold zF; omega) (wpc f c y) (wpy f c y) (2 ^ s) N1 p1 p2 hp g2 g3 g4
      have e5 : nI (i + 1) - 1 = nI i := nI_pred i
      rcases h with ⟨r, r1, r2, r3, r4⟩ | ⟨r1, r2⟩
      · have r4' : fX12_hoursTo_L7 (nI s) (nI to) zF N1 (nI (2 ^ s)) 0 = some (nI (0 + r), N') := r4
        rw [r4', bsome, e5, Nat.zero_add]
        simp only []
        refine ⟨fun h => ?_, fun h => ?_⟩
        · have : r = i := by
            rcases Nat.lt_trichotomy r i with h' | h' | h'
            · rw [hb r h'] at r2; exact absurd r2 (by simp)
            · exact h'
            · rw [r3 i h'] at h; exact absurd h (by simp)
          rw [if_pos (by rw [this])]
          exact ⟨_, _, _, _, _, rfl⟩
        · have : r ≠ i := fun e => by rw [e, h] at r2; exact absurd r2 (by simp)
          rw [if_neg (fun e => this ((nI_inj (by omega) (by omega)).mp e))]
          exact ⟨_, _, _, _, _, rfl⟩
      · have r2' : fX12_hoursTo_L7 (nI s) (nI to) zF N1 (nI (2 ^ s)) 0 = some (1000000, N') := r2
        rw [r2', bsome, e5]
        refine ⟨fun h => ?_, fun h => ?_⟩
        · rw [r1 i hi] at h; exact absurd h (by simp)
        · rw [if_neg (fun e => by have := (nI_inj (a := 1000000) (b := i) (by omega) (by omega)).mp e; omega)]
          exact ⟨_, _, _, _, _, rfl⟩
theorem f_L70 {B : Nat → Int32} {f to c y : Nat} (hf : f < 10) (ht : to < 12) (hc : c < 12) (hy : y < 2) (e1 : B 48 = nI c) (e2 : B 49 = nI y) (e3 : B 50 = nI f) (x1 x3 : Int32) {i : Nat} (hi : i < 600) {U0 U1 U2 : Nat} (h0 : PH (wmk f c y 0) x1 U0) (h1 : PH (wmk f c y 0) (x1 + 1) U1) (h2 : PH (wmk f c y 0) (x1 - 1) U2) (hb : ∀ j, j < i → ∀ k, k < 3 → (sq f j (wpc f c y) (wpy f c y) (g3 U0 U1 U2 k)).testBit to = false) {k : Nat} (hk : k < 3) (hyes : (sq f i (wpc f c y) (wpy f c y) (g3 U0 U1 U2 k)).testBit to = true) (hno : ∀ k', k' < k → (sq f i (wpc f c y) (wpy f c y) (g3 U0 U1 U2 k')).testBit to = false) (a1 a2 a3 a4 : Int32) (N : Nat → Int32) :
    ∃ (b1 b2 b3 b4 : Int32) (N' : Nat → Int32), fX12_pass_L70 B x1 (nI to) x3 zF a1 a2 a3 a4 N (nI (i + 1)) 0 = some (nI k, b1, b2, b3, b4, N') := by
  rw [show zF = 99996 + 1 + 1 + 1 + 1 from rfl, fX12_pass_L70, if_neg (by decide), if_pos rfl]
  have s0 := f_b100 hf ht hc hy e1 e2 e3 x1 x3 (fX12_pass_L70 B x1 (nI to) x3 (99996 + 1 + 1 + 1)) a1 a2 a3 a4 N hi 0 x1 h0 (fun j hj => hb j hj 0 (by omega))
  by_cases k0 : k = 0
  · subst k0
    exact s0.1 hyes
  · obtain ⟨b1, b2, b3, b4, N1, q1⟩ := s0.2 (hno 0 (by omega))
    rw [q1, fX12_pass_L70, if_neg (by decide), if_neg (by decide), if_pos (by decide)]
    have s1 := f_b100 hf ht hc hy e1 e2 e3 x1 x3 (fX12_pass_L70 B x1 (nI to) x3 (99996 + 1 + 1)) b1 b2 b3 b4 N1 hi (0 + 1) (x1 + 1) h1 (fun j hj => hb j hj 1 (by omega))
    by_cases k1 : k = 1
    · subst k1
      exact s1.1 hyes
    · obtain ⟨b1, b2, b3, b4, N2, q2⟩ := s1.2 (hno 1 (by omega))
      rw [q2, fX12_pass_L70, if_neg (by decide), if_neg (by decide), if_neg (by decide)]
      have s2 := f_b100 hf ht hc hy e1 e2 e3 x1 x3 (fX12_pass_L70 B x1 (nI to) x3 (99996 + 1)) b1 b2 b3 b4 N2 hi (0 + 1 + 1) (x1 - 1) h2 (fun j hj => hb j hj 2 (by omega))
      have k2 : k = 2 := by omega
      subst k2
      exact s2.1 hyes
theorem op_pass {ce ho ow hd li go lk : Nat → Int32} {wc wy wf hr dy : Int32} {B : Nat → Int32} (hT : TR ce ho ow hd li go lk wc wy wf hr dy B) (hB : BI B) (fc fy ff o1 o2 o3 o4 ph pf : Int32) (pw N : Nat → Int32) (x1 x2 x3 : Int32) :
    ∃ (r s1 s2 s3 s4 s5 p1 p2 p3 p4 : Int32) (w' N' : Nat → Int32), fX11_pass fc fy ff wc wy wf ph pf pw x1 x2 x3 = some (r, s1, s2, s3, s4, s5, w') ∧ fX12_pass o1 o2 o3 o4 B N x1 x2 x3 = some (r, p1, p2, p3, p4, N') := by
  unfold fX11_pass fX12_pass fX11_pass_b14 fX12_pass_b14 fX11_pass_b76 fX12_pass_b57
  simp only [f_isCell, f_isCellM, f_within, f_in, bsome, bI0, f_asNow]
  by_cases h1 : 0 ≤ x1 ∧ x1 ≤ 11
  · by_cases h2 : 0 ≤ x2 ∧ x2 ≤ 11
    · by_cases h3 : 0 ≤ x3 ∧ x3 ≤ 1
      · simp only [h1, h2, h3, not_true_eq_false, and_self, if_false]
        unfold fX10_become fX10_put
        simp only [bsome]
        obtain ⟨c, hc, e1⟩ := hB.2.2.2.2.2.2.1
        obtain ⟨y, hy, e2⟩ := hB.2.2.2.2.2.2.2.1
        obtain ⟨f, hf1, hf, e3⟩ := hB.2.2.2.2.2.2.2.2.1
        have q1 : wc = nI c := hT.2.2.2.2.2.2.2.1.trans e1
        have q2 : wy = nI y := hT.2.2.2.2.2.2.2.2.1.trans e2
        have q3 : wf = nI f := hT.2.2.2.2.2.2.2.2.2.1.trans e3
        obtain ⟨s, hs, d1⟩ := rng (by decide) h1
        obtain ⟨t, ht, d2⟩ := rng (by decide) h2
        have hs : s < 12 := by omega
        have ht : t < 12 := by omega
        rw [q1, q2, q3, d1, d2]
        have hp : 2 ^ s < 4096 := Nat.pow_lt_pow_right (n := 12) (by omega) hs
        obtain ⟨N1, g⟩ := f_hours (f := f) (to := t) hf ht (nI s) 600 0 (by omega) zF (by unfold zF; omega) c y (2 ^ s) (cp B N 56) hc hy hp (by rw [cp_in (by omega)]; exact e1) (by rw [cp_in (by omega)]; exact e2) (by rw [cp_in (by omega)]; exact e3)
        unfold fX12_hoursTo
        rw [sl_1 _ (by omega)]
        by_cases qe : s = t
        · subst qe
          have hit : (sq f 0 c y (2 ^ s)).testBit s = true := by
            show (2 ^ s).testBit s = true
            rw [Nat.testBit_two_pow]; simp
          have g' : fX12_hoursTo_L7 (nI s) (nI s) zF (cp B N 56) (nI (2 ^ s)) 0 = some (0, N1) := by
            rcases g with ⟨i, i1, i2, i3, i4⟩ | ⟨i1, i2⟩
            · have : i = 0 := by
                rcases Nat.eq_zero_or_pos i with h | h
                · exact h
                · rw [i3 0 h] at hit; exact absurd hit (by simp)
              subst this
              exact i4
            · rw [i1 0 (by omega)] at hit; exact absurd hit (by simp)
          rw [g']
          unfold fX4_seek fX4_seek_b12 fX12_pass_b60
          rw [if_pos rfl]
          simp (disch := omega) only [inb_lit, toN_lit, gd_T, bsome]
          rw [show zF = 99999 + 1 from rfl, fX4_seek_L55, if_neg (by decide), if_neg (by decide)]
          unfold fX4_seek_b152
          rw [bsome, if_neg (show ¬ (0 : Int32) = 1000000 by decide)]
          by_cases x0 : x3 = 0
          · subst x0
            rw [if_pos rfl, if_neg (by decide), if_pos rfl]
            exact ⟨_, _, _, _, _, _, _, _, _, _, _, _, rfl, rfl⟩
          · have x1' : x3 = 1 := rng01 h3 x0
            subst x1'
            rw [if_neg (by decide), if_pos rfl, if_pos (by decide)]
            exact ⟨_, _, _, _, _, _, _, _, _, _, _, _, rfl, rfl⟩
        · have hit : (sq f 0 c y (2 ^ s)).testBit t = false := by
            show (2 ^ s).testBit t = false
            rw [Nat.testBit_two_pow]; exact decide_eq_false qe
          obtain ⟨w', c', y', k⟩ := f_seek (f := f) (to := t) (s := s) (c := c) (y := y) hf ht hs hc hy qe ph pf pw
          have uni : ∀ i, sq f (i + 1) c y (2 ^ s) = sq f i (wpc f c y) (wpy f c y) (g3 (2 ^ s &&& (4095 ^^^ wmk f c y 0)) (2 ^ (s + 1) &&& (4095 ^^^ wmk f c y 0)) (2 ^ s >>> 1 &&& (4095 ^^^ wmk f c y 0)) 0) ||| sq f i (wpc f c y) (wpy f c y) (g3 (2 ^ s &&& (4095 ^^^ wmk f c y 0)) (2 ^ (s + 1) &&& (4095 ^^^ wmk f c y 0)) (2 ^ s >>> 1 &&& (4095 ^^^ wmk f c y 0)) 1) ||| sq f i (wpc f c y) (wpy f c y) (g3 (2 ^ s &&& (4095 ^^^ wmk f c y 0)) (2 ^ (s + 1) &&& (4095 ^^^ wmk f c y 0)) (2 ^ s >>> 1 &&& (4095 ^^^ wmk f c y 0)) 2) := by
            intro i
            rw [← sq_or, ← sq_or, sq]
            have : spN (wmk f c y 0) (2 ^ s) = (2 ^ s &&& (4095 ^^^ wmk f c y 0)) ||| (2 ^ (s + 1) &&& (4095 ^^^ wmk f c y 0)) ||| (2 ^ s >>> 1 &&& (4095 ^^^ wmk f c y 0)) := by
              unfold spN
              rw [Nat.and_or_distrib_right, Nat.and_or_distrib_right, Nat.shiftLeft_eq, show 2 ^ s * 2 ^ 1 = 2 ^ (s + 1) by rw [← Nat.pow_add]]
            rw [this]
            rfl
          have hU0 : PH (wmk f c y 0) (nI s) (2 ^ s &&& (4095 ^^^ wmk f c y 0)) := Or.inr ⟨s, hs, rfl, p_and hs⟩
          have hm : wmk f c y 0 < 4096 := wmk_lt _ _ _ _ hc hy (by omega)
          have hU1 : PH (wmk f c y 0) (nI s + 1) (2 ^ (s + 1) &&& (4095 ^^^ wmk f c y 0)) := by
            by_cases q : s = 11
            · subst q
              refine Or.inl ⟨by decide, ?_⟩
              have h1 := x_nm hm
              apply Nat.eq_of_testBit_eq
              intro i
              rw [Nat.testBit_and, Nat.testBit_two_pow, Nat.zero_testBit]
              by_cases q : 11 + 1 = i
              · subst q; rw [Nat.testBit_lt_two_pow (by omega : 4095 ^^^ wmk f c y 0 < 2 ^ (11 + 1))]; simp
              · rw [decide_eq_false q]; rfl
            · exact Or.inr ⟨s + 1, by omega, nI_1 s, p_and (by omega)⟩
          have hU2 : PH (wmk f c y 0) (nI s - 1) (2 ^ s >>> 1 &&& (4095 ^^^ wmk f c y 0)) := by
            cases s with
            | zero => exact Or.inl ⟨by decide, by simp⟩
            | succ s =>
              refine Or.inr ⟨s, by omega, nI_pred s, ?_⟩
              rw [Nat.shiftRight_eq_div_pow, Nat.pow_succ, Nat.pow_one, Nat.mul_div_cancel _ (by omega)]
              exact p_and (by omega)
          revert k uni hU0 hU1 hU2
          generalize 2 ^ s &&& (4095 ^^^ wmk f c y 0) = U0
          generalize 2 ^ (s + 1) &&& (4095 ^^^ wmk f c y 0) = U1
          generalize 2 ^ s >>> 1 &&& (4095 ^^^ wmk f c y 0) = U2
          intro k uni hU0 hU1 hU2
          have no_of : ∀ i, (∀ k', k' < 3 → (sq f i (wpc f c y) (wpy f c y) (g3 U0 U1 U2 k')).testBit t = false) → (sq f (i + 1) c y (2 ^ s)).testBit t = false := by
            intro i h
            rw [uni, Nat.testBit_or, Nat.testBit_or, h 0 (by omega), h 1 (by omega), h 2 (by omega)]; rfl
          have yes_of : ∀ i k', k' < 3 → (sq f i (wpc f c y) (wpy f c y) (g3 U0 U1 U2 k')).testBit t = true → (sq f (i + 1) c y (2 ^ s)).testBit t = true := by
            intro i k' hk h
            rw [uni, Nat.testBit_or, Nat.testBit_or]
            have : k' = 0 ∨ k' = 1 ∨ k' = 2 := by omega
            rcases this with rfl | rfl | rfl <;> rw [h] <;> simp
          rcases k with ⟨i, k, i1, i2, i3, i4, i5, i6⟩ | ⟨i1, i2⟩
          · have hyes := yes_of i k i2 i3
            have hno : ∀ j, j < i + 1 → (sq f j c y (2 ^ s)).testBit t = false := by
              intro j hj
              cases j with
              | zero => exact hit
              | succ j => exact no_of j (i5 j (by omega))
            have g' : fX12_hoursTo_L7 (nI s) (nI t) zF (cp B N 56) (nI (2 ^ s)) 0 = some (nI (i + 1), N1) := by
              rcases g with ⟨r, r1, r2, r3, r4⟩ | ⟨r1, r2⟩
              · have : r = i + 1 := by
                  rcases Nat.lt_trichotomy r (i + 1) with h' | h' | h'
                  · rw [hno r h'] at r2; exact absurd r2 (by simp)
                  · exact h'
                  · rw [r3 _ h'] at hyes; exact absurd hyes (by simp)
                subst this
                rw [Nat.zero_add] at r4
                exact r4
              · rw [r1 (i + 1) (by omega)] at hyes; exact absurd hyes (by simp)
            rw [g', i6, bsome, bsome]
            unfold fX12_pass_b60
            rw [if_neg (show ¬ nI (i + 1) = (1000000 : Int32) from fun e => by have := (nI_inj (b := 1000000) (by omega) (by omega)).mp e; omega)]
            by_cases x0 : x3 = 0
            · subst x0
              rw [if_pos rfl, if_neg (by decide), if_pos rfl]
              exact ⟨_, _, _, _, _, _, _, _, _, _, _, _, rfl, rfl⟩
            · have x1' : x3 = 1 := rng01 h3 x0
              subst x1'
              rw [if_neg (by decide), if_pos rfl, if_neg (nI_ne0 (by omega) (by omega)), if_neg (by decide)]
              obtain ⟨b1, b2, b3, b4, N', z⟩ := f_L70 hf ht hc hy e1 e2 e3 (nI s) 1 (i := i) (by omega) hU0 hU1 hU2 i5 i2 i3 i4 0 (-6) (-6) (-6) N1
              rw [z]
              exact ⟨_, _, _, _, _, _, _, _, _, _, _, _, rfl, rfl⟩
          · have hno : ∀ j, (sq f j c y (2 ^ s)).testBit t = false := by
              refine per_all hf hc hy hs (fun j hj => ?_)
              cases j with
              | zero => exact hit
              | succ j => exact no_of j (i1 j (by omega))
            have g' : fX12_hoursTo_L7 (nI s) (nI t) zF (cp B N 56) (nI (2 ^ s)) 0 = some (1000000, N1) := by
              rcases g with ⟨r, r1, r2, r3, r4⟩ | ⟨r1, r2⟩
              · rw [hno r] at r2; exact absurd r2 (by simp)
              · exact r2
            rw [g', i2, bsome, bsome, if_pos rfl]
            by_cases x0 : x3 = 0
            · subst x0
              rw [if_pos rfl]
              exact ⟨_, _, _, _, _, _, _, _, _, _, _, _, rfl, rfl⟩
            · rw [if_neg x0]
              exact ⟨_, _, _, _, _, _, _, _, _, _, _, _, rfl, rfl⟩
      · simp only [h1, h2, h3, not_true_eq_false, and_self, if_false, not_false_eq_true, if_true]
        exact ⟨_, _, _, _, _, _, _, _, _, _, _, _, rfl, rfl⟩
    · simp only [h1, h2, not_true_eq_false, and_self, if_false, not_false_eq_true, if_true]
      exact ⟨_, _, _, _, _, _, _, _, _, _, _, _, rfl, rfl⟩
  · simp only [h1, not_false_eq_true, if_true]
    exact ⟨_, _, _, _, _, _, _, _, _, _, _, _, rfl, rfl⟩
