/-! a year -/
theorem td_of {ls fa fl ls' fa' fl' hr' dy' wc' wy' wf' r : Int32} {hd' li' ce' ow' go' ho' : Nat → Int32} {ce ho ow hd li go lk : Nat → Int32} {wc wy wf hr dy : Int32} {w : Int32} {k z : Nat} (hk : k < 8) (hz : z < 2000) (h : fX9_tryAct 0 ls fa fl hr dy hd li ce wc wy wf ow go ho lk w (if k < 5 then nI k else if k = 5 then (if z / 6 % 2 = 0 then 5 else 6) else if k = 6 then (if z % 4 = 0 then 7 else 8) else 8) (if k = 2 then nI (z % 8) else if k = 3 then nI (z % 3) else if k = 5 then nI (z % 6) else 0) = some (r, ls', fa', fl', hr', dy', hd', li', ce', wc', wy', wf', ow', go', ho')) : fX9_tryDrawn 0 ls fa fl hr dy hd li ce wc wy wf ow go ho lk w (nI k) (nI z) = some (ls', fa', fl', hr', dy', hd', li', ce', wc', wy', wf', ow', go', ho') := by
  have q8 : irm (nI z) 8 = nI (z % 8) := r_lit (by omega) (by decide) (by decide)
  have q3 : irm (nI z) 3 = nI (z % 3) := r_lit (by omega) (by decide) (by decide)
  have q6 : irm (nI z) 6 = nI (z % 6) := r_lit (by omega) (by decide) (by decide)
  have q4 : irm (nI z) 4 = nI (z % 4) := r_lit (by omega) (by decide) (by decide)
  have p6 : nI z / 6 = nI (z / 6) := d_lit (by omega) (by decide) (by decide)
  have q2 : irm (nI (z / 6)) 2 = nI (z / 6 % 2) := r_lit (by omega) (by decide) (by decide)
  unfold fX9_tryDrawn
  rw [q8, q3, q4, p6, q2]
  rcases (by omega : k = 0 ∨ k = 1 ∨ k = 2 ∨ k = 3 ∨ k = 4 ∨ k = 5 ∨ k = 6 ∨ k = 7) with rfl | rfl | rfl | rfl | rfl | rfl | rfl | rfl
  · rw [if_pos (by decide)]
    simp only [Nat.reduceLT, Nat.reduceEqDiff, if_true, if_false] at h
    have h' : fX9_tryAct 0 ls fa fl hr dy hd li ce wc wy wf ow go ho lk w 0 0 = some (r, ls', fa', fl', hr', dy', hd', li', ce', wc', wy', wf', ow', go', ho') := h
    rw [h', bsome, fX9_tryDrawn_b164]
  · rw [if_neg (by decide), if_pos (by decide)]
    simp only [Nat.reduceLT, Nat.reduceEqDiff, if_true, if_false] at h
    have h' : fX9_tryAct 0 ls fa fl hr dy hd li ce wc wy wf ow go ho lk w 1 0 = some (r, ls', fa', fl', hr', dy', hd', li', ce', wc', wy', wf', ow', go', ho') := h
    rw [h', bsome, fX9_tryDrawn_b164]
  · rw [if_neg (by decide), if_neg (by decide), if_pos (by decide)]
    simp only [Nat.reduceLT, Nat.reduceEqDiff, if_true, if_false] at h
    have h' : fX9_tryAct 0 ls fa fl hr dy hd li ce wc wy wf ow go ho lk w 2 (nI (z % 8)) = some (r, ls', fa', fl', hr', dy', hd', li', ce', wc', wy', wf', ow', go', ho') := h
    rw [h', bsome, fX9_tryDrawn_b164]
  · rw [if_neg (by decide), if_neg (by decide), if_neg (by decide), if_pos (by decide)]
    simp only [Nat.reduceLT, Nat.reduceEqDiff, if_true, if_false] at h
    have h' : fX9_tryAct 0 ls fa fl hr dy hd li ce wc wy wf ow go ho lk w 3 (nI (z % 3)) = some (r, ls', fa', fl', hr', dy', hd', li', ce', wc', wy', wf', ow', go', ho') := h
    rw [h', bsome, fX9_tryDrawn_b164]
  · rw [if_neg (by decide), if_neg (by decide), if_neg (by decide), if_neg (by decide), if_pos (by decide)]
    simp only [Nat.reduceLT, Nat.reduceEqDiff, if_true, if_false] at h
    have h' : fX9_tryAct 0 ls fa fl hr dy hd li ce wc wy wf ow go ho lk w 4 0 = some (r, ls', fa', fl', hr', dy', hd', li', ce', wc', wy', wf', ow', go', ho') := h
    rw [h', bsome, fX9_tryDrawn_b164]
  · rw [if_neg (by decide), if_neg (by decide), if_neg (by decide), if_neg (by decide), if_neg (by decide), if_pos (by decide)]
    simp only [Nat.reduceLT, Nat.reduceEqDiff, if_true, if_false] at h
    by_cases q : z / 6 % 2 = 0
    · rw [if_pos q] at h
      rw [if_pos (by rw [q]; rfl), fX9_tryDrawn_b121, q6, h, bsome, fX9_tryDrawn_b164]
    · rw [if_neg q] at h
      rw [if_neg (show ¬ nI (z / 6 % 2) = (0 : Int32) from fun e => q ((nI_inj (b := 0) (by omega) (by omega)).mp e)), fX9_tryDrawn_b121, q6, h, bsome, fX9_tryDrawn_b164]
  · rw [if_neg (by decide), if_neg (by decide), if_neg (by decide), if_neg (by decide), if_neg (by decide), if_neg (by decide), if_pos (by decide)]
    simp only [Nat.reduceLT, Nat.reduceEqDiff, if_true, if_false] at h
    by_cases q : z % 4 = 0
    · rw [if_pos q] at h
      rw [if_pos (by rw [q]; rfl), fX9_tryDrawn_b147, h, bsome, fX9_tryDrawn_b164]
    · rw [if_neg q] at h
      rw [if_neg (show ¬ nI (z % 4) = (0 : Int32) from fun e => q ((nI_inj (b := 0) (by omega) (by omega)).mp e)), fX9_tryDrawn_b147, h, bsome, fX9_tryDrawn_b164]
  · rw [if_neg (by decide), if_neg (by decide), if_neg (by decide), if_neg (by decide), if_neg (by decide), if_neg (by decide), if_neg (by decide)]
    simp only [Nat.reduceLT, Nat.reduceEqDiff, if_true, if_false] at h
    rw [h, bsome, fX9_tryDrawn_b164]
theorem year_act {ls fa fl lo : Int32} {ce ho ow hd li go lk : Nat → Int32} {wc wy wf hr dy : Int32} {N : Nat → Int32} (hT : TR ce ho ow hd li go lk wc wy wf hr dy N) (hB : BI N) (hL : LR 0 (-6) (-6) fa fl lo) {a : Nat} (ha : a < 65537) (B : Nat → Int32) (x1 x3 rs oA oW : Int32) (b i m : Nat) (hb : b < 65537) (hi : i < m) (hm : m < 100) (hab : (75 * b + 74) % 65537 = a) :
    ∃ (r ls' fa' fl' lo' hr' dy' wc' wy' wf' : Int32) (ce' ho' ow' hd' li' go' N' : Nat → Int32), fX9_tryDrawn 0 ls fa fl hr dy hd li ce wc wy wf ow go ho lk (nI (a % 6)) (nI (a / 6 % 8)) (nI (a / 48)) = some (ls', fa', fl', hr', dy', hd', li', ce', wc', wy', wf', ow', go', ho') ∧ (∀ n, fX12_year_L43 B x1 (nI m) x3 (n + 1) ls oA oW lo rs N (nI b) (nI i) = fX12_year_L43 B x1 (nI m) x3 n ls' oA oW lo' r N' (nI a) (nI (i + 1))) ∧ TR ce' ho' ow' hd' li' go' lk wc' wy' wf' hr' dy' N' ∧ BI N' ∧ LR 0 (-6) (-6) fa' fl' lo' := by
  have hw : a % 6 < 6 := Nat.mod_lt _ (by omega)
  have hk : a / 6 % 8 < 8 := Nat.mod_lt _ (by omega)
  have hz : a / 48 < 2000 := by omega
  have z8 : a / 48 % 8 < 8 := Nat.mod_lt _ (by omega)
  have z3 : a / 48 % 3 < 3 := Nat.mod_lt _ (by omega)
  have z6 : a / 48 % 6 < 6 := Nat.mod_lt _ (by omega)
  have eX : irm ((75 : Int32) * nI b + 74) 65537 = nI a := by
    have := r_lit (a := 75 * b + 74) (c := 65537) (by omega) (by decide) (by decide)
    rw [l_mul, a_lit, this]
    exact congrArg nI hab
  have eD : nI a / (6 : Int32) = nI (a / 6) := d_lit (by omega) (by decide) (by decide)
  have eK : irm (nI (a / 6)) 8 = nI (a / 6 % 8) := r_lit (by omega) (by decide) (by decide)
  have eW : irm (nI a) 6 = nI (a % 6) := r_lit (by omega) (by decide) (by decide)
  have eZ : nI a / (48 : Int32) = nI (a / 48) := d_lit (by omega) (by decide) (by decide)
  have e8 : irm (nI (a / 48)) 8 = nI (a / 48 % 8) := r_lit (by omega) (by decide) (by decide)
  have e3 : irm (nI (a / 48)) 3 = nI (a / 48 % 3) := r_lit (by omega) (by decide) (by decide)
  have e6 : irm (nI (a / 48)) 6 = nI (a / 48 % 6) := r_lit (by omega) (by decide) (by decide)
  have e4 : irm (nI (a / 48)) 4 = nI (a / 48 % 4) := r_lit (by omega) (by decide) (by decide)
  have eE : nI (a / 48) / (6 : Int32) = nI (a / 48 / 6) := d_lit (by omega) (by decide) (by decide)
  have e2 : irm (nI (a / 48 / 6)) 2 = nI (a / 48 / 6 % 2) := r_lit (by omega) (by decide) (by decide)
  rcases (by omega : a / 6 % 8 = 0 ∨ a / 6 % 8 = 1 ∨ a / 6 % 8 = 2 ∨ a / 6 % 8 = 3 ∨ a / 6 % 8 = 4 ∨ a / 6 % 8 = 5 ∨ a / 6 % 8 = 6 ∨ a / 6 % 8 = 7) with k | k | k | k | k | k | k | k
  · obtain ⟨r, N', ce', ho', ow', hd', li', go', wf', g1, g2, g3, g4, -⟩ := ac_go (acts := 0) (lo := ls) (fa := fa) (fl := fl) hT hB hw true 0
    refine ⟨r, ls, fa, fl, lo, hr, dy, wc, wy, wf', ce', ho', ow', hd', li', go', N', td_of (r := r) hk hz ?_, fun n => ?_, g3, g4, hL⟩
    · rw [k]
      simp only [Nat.reduceLT, Nat.reduceEqDiff, if_true, if_false]
      exact g1
    · rw [fX12_year_L43, eX, eD, eK, eW, eZ, if_neg (nI_ge hi (by omega)), k, if_pos (by decide)]
      have g2' : fX12_walk N (nI (a % 6)) 1 = some (r, N') := g2
      rw [g2', bsome, fX12_year_b274, nI_1]
  · obtain ⟨r, N', ce', ho', ow', hd', li', go', wf', g1, g2, g3, g4, -⟩ := ac_go (acts := 0) (lo := ls) (fa := fa) (fl := fl) hT hB hw false 0
    refine ⟨r, ls, fa, fl, lo, hr, dy, wc, wy, wf', ce', ho', ow', hd', li', go', N', td_of (r := r) hk hz ?_, fun n => ?_, g3, g4, hL⟩
    · rw [k]
      simp only [Nat.reduceLT, Nat.reduceEqDiff, if_true, if_false]
      exact g1
    · rw [fX12_year_L43, eX, eD, eK, eW, eZ, if_neg (nI_ge hi (by omega)), k, if_neg (by decide), if_pos (by decide)]
      have g2' : fX12_walk N (nI (a % 6)) (-1) = some (r, N') := g2
      rw [g2', bsome, fX12_year_b274, nI_1]
  · obtain ⟨r, N', ce', ho', ow', hd', li', go', wf', g1, g2, g3, g4, -⟩ := ac_state (acts := 0) (lo := ls) (fa := fa) (fl := fl) hT hB hw z8
    refine ⟨r, ls, fa, fl, lo, hr, dy, wc, wy, wf', ce', ho', ow', hd', li', go', N', td_of (r := r) hk hz ?_, fun n => ?_, g3, g4, hL⟩
    · rw [k]
      simp only [Nat.reduceLT, Nat.reduceEqDiff, if_true, if_false]
      exact g1
    · rw [fX12_year_L43, eX, eD, eK, eW, eZ, if_neg (nI_ge hi (by omega)), k, if_neg (by decide), if_neg (by decide), if_pos (by decide)]
      have g2' : fX12_state N (nI (a % 6)) (nI (a / 48 % 8)) = some (r, N') := g2
      rw [e8, g2', bsome, fX12_year_b274, nI_1]
  · obtain ⟨r, N', ce', ho', ow', hd', li', go', wf', g1, g2, g3, g4, -⟩ := ac_pay (acts := 0) (lo := ls) (fa := fa) (fl := fl) hT hB hw z3
    refine ⟨r, ls, fa, fl, lo, hr, dy, wc, wy, wf', ce', ho', ow', hd', li', go', N', td_of (r := r) hk hz ?_, fun n => ?_, g3, g4, hL⟩
    · rw [k]
      simp only [Nat.reduceLT, Nat.reduceEqDiff, if_true, if_false]
      exact g1
    · rw [fX12_year_L43, eX, eD, eK, eW, eZ, if_neg (nI_ge hi (by omega)), k, if_neg (by decide), if_neg (by decide), if_neg (by decide), if_pos (by decide)]
      have g2' : fX12_pay N (nI (a % 6)) (nI (a / 48 % 3)) = some (r, N') := g2
      rw [e3, g2', bsome, fX12_year_b274, nI_1]
  · obtain ⟨r, N', ce', ho', ow', hd', li', go', wf', g1, g2, g3, g4, -⟩ := ac_on (acts := 0) (lo := ls) (fa := fa) (fl := fl) hT hB hw 0
    refine ⟨r, ls, fa, fl, lo, hr, dy, wc, wy, wf', ce', ho', ow', hd', li', go', N', td_of (r := r) hk hz ?_, fun n => ?_, g3, g4, hL⟩
    · rw [k]
      simp only [Nat.reduceLT, Nat.reduceEqDiff, if_true, if_false]
      exact g1
    · rw [fX12_year_L43, eX, eD, eK, eW, eZ, if_neg (nI_ge hi (by omega)), k, if_neg (by decide), if_neg (by decide), if_neg (by decide), if_neg (by decide), if_pos (by decide)]
      have g2' : fX12_putOn N (nI (a % 6)) = some (r, N') := g2
      rw [g2', bsome, fX12_year_b274, nI_1]
  · by_cases q : a / 48 / 6 % 2 = 0
    · obtain ⟨r, N', ce', ho', ow', hd', li', go', wf', g1, g2, g3, g4, -⟩ := ac_hold (acts := 0) (lo := ls) (fa := fa) (fl := fl) hT hB hw z6
      refine ⟨r, ls, fa, fl, lo, hr, dy, wc, wy, wf', ce', ho', ow', hd', li', go', N', td_of (r := r) hk hz ?_, fun n => ?_, g3, g4, hL⟩
      · rw [k]
        simp only [Nat.reduceLT, Nat.reduceEqDiff, if_true, if_false, q]
        exact g1
      · rw [fX12_year_L43, eX, eD, eK, eW, eZ, if_neg (nI_ge hi (by omega)), k, if_neg (by decide), if_neg (by decide), if_neg (by decide), if_neg (by decide), if_neg (by decide), if_pos (by decide), eE, e2, if_pos (by rw [q]; rfl), e6, g2, bsome, fX12_year_b235, fX12_year_b274, nI_1]
    · obtain ⟨r, N', ce', ho', ow', hd', li', go', wf', g1, g2, g3, g4, -⟩ := ac_let (acts := 0) (lo := ls) (fa := fa) (fl := fl) hT hB hw (nI (a / 48 % 6))
      refine ⟨r, ls, fa, fl, lo, hr, dy, wc, wy, wf', ce', ho', ow', hd', li', go', N', td_of (r := r) hk hz ?_, fun n => ?_, g3, g4, hL⟩
      · rw [k]
        simp only [Nat.reduceLT, Nat.reduceEqDiff, if_true, if_false, q]
        exact g1
      · rw [fX12_year_L43, eX, eD, eK, eW, eZ, if_neg (nI_ge hi (by omega)), k, if_neg (by decide), if_neg (by decide), if_neg (by decide), if_neg (by decide), if_neg (by decide), if_pos (by decide), eE, e2, if_neg (show ¬ nI (a / 48 / 6 % 2) = (0 : Int32) from fun e => q ((nI_inj (b := 0) (by omega) (by omega)).mp e)), g2, bsome, fX12_year_b235, fX12_year_b274, nI_1]
  · by_cases q : a / 48 % 4 = 0
    · obtain ⟨r, N', ce', ho', ow', hd', li', go', wf', g1, g2, g3, g4, -⟩ := ac_gust (acts := 0) (lo := ls) (fa := fa) (fl := fl) hT hB (nI (a % 6)) 0
      refine ⟨r, ls, fa, fl, lo, hr, dy, wc, wy, wf', ce', ho', ow', hd', li', go', N', td_of (r := r) hk hz ?_, fun n => ?_, g3, g4, hL⟩
      · rw [k]
        simp only [Nat.reduceLT, Nat.reduceEqDiff, if_true, if_false, q]
        exact g1
      · rw [fX12_year_L43, eX, eD, eK, eW, eZ, if_neg (nI_ge hi (by omega)), k, if_neg (by decide), if_neg (by decide), if_neg (by decide), if_neg (by decide), if_neg (by decide), if_neg (by decide), if_pos (by decide), e4, if_pos (by rw [q]; rfl), g2, bsome, fX12_year_b260, fX12_year_b274, nI_1]
    · obtain ⟨r, ls', fa', fl', lo', hr', dy', wc', wy', ow', li', N', g1, g2, g3, g4, g5, -⟩ := hour (ls := ls) hT hB hL (nI (a % 6)) 0
      refine ⟨r, ls', fa', fl', lo', hr', dy', wc', wy', wf, ce, ho, ow', hd, li', go, N', td_of (r := r) hk hz ?_, fun n => ?_, g3, g4, g5⟩
      · rw [k]
        simp only [Nat.reduceLT, Nat.reduceEqDiff, if_true, if_false, q]
        exact g1
      · rw [fX12_year_L43, eX, eD, eK, eW, eZ, if_neg (nI_ge hi (by omega)), k, if_neg (by decide), if_neg (by decide), if_neg (by decide), if_neg (by decide), if_neg (by decide), if_neg (by decide), if_pos (by decide), e4, if_neg (show ¬ nI (a / 48 % 4) = (0 : Int32) from fun e => q ((nI_inj (b := 0) (by omega) (by omega)).mp e)), g2, bsome, fX12_year_b260, fX12_year_b274, nI_1]
  · obtain ⟨r, ls', fa', fl', lo', hr', dy', wc', wy', ow', li', N', g1, g2, g3, g4, g5, -⟩ := hour (ls := ls) hT hB hL (nI (a % 6)) 0
    refine ⟨r, ls', fa', fl', lo', hr', dy', wc', wy', wf, ce, ho, ow', hd, li', go, N', td_of (r := r) hk hz ?_, fun n => ?_, g3, g4, g5⟩
    · rw [k]
      simp only [Nat.reduceLT, Nat.reduceEqDiff, if_true, if_false]
      exact g1
    · rw [fX12_year_L43, eX, eD, eK, eW, eZ, if_neg (nI_ge hi (by omega)), k, if_neg (by decide), if_neg (by decide), if_neg (by decide), if_neg (by decide), if_neg (by decide), if_neg (by decide), if_neg (by decide), g2, bsome, fX12_year_b274, nI_1]
theorem year_run {h3 d3 c3 y3 f3 : Int32} {ce3 ho3 ow3 hd3 li3 go3 lk3 : Nat → Int32} {x1 x3 ba rs oA oW : Int32} {B : Nat → Int32} {m : Nat} (hm : m < 100) :
    ∀ k i, i + k = m → ∀ n1 n2, k < n1 → k < n2 → ∀ (b : Nat), b < 65537 → ∀ (ls fa fl lo rm : Int32) (ce ho ow hd li go lk : Nat → Int32) (wc wy wf hr dy : Int32) (N : Nat → Int32), TR ce ho ow hd li go lk wc wy wf hr dy N → BI N → LR 0 (-6) (-6) fa fl lo →
    ∃ (r ls' fa' fl' lo' hr' dy' wc' wy' wf' : Int32) (ce' ho' ow' hd' li' go' N' : Nat → Int32), fX9_draw_L11 h3 d3 c3 y3 f3 ce3 ho3 ow3 hd3 li3 go3 lk3 x1 (nI m) n1 0 ba rs ls fa fl hr dy wc wy wf ce ho ow hd li go lk (nI b) (nI i) = some (0, ba, rs, ls', fa', fl', hr', dy', wc', wy', wf', ce', ho', ow', hd', li', go', lk) ∧ fX12_year_L43 B x1 (nI m) x3 n2 ls oA oW lo rm N (nI b) (nI i) = fX12_year_L286 B x1 (nI m) x3 zF ls' oA oW lo' r N' 0 0 ∧ TR ce' ho' ow' hd' li' go' lk wc' wy' wf' hr' dy' N' ∧ BI N' := by
  intro k
  induction k with
  | zero =>
    intro i hi n1 n2 h1 h2 b hb ls fa fl lo rm ce ho ow hd li go lk wc wy wf hr dy N hT hB hL
    obtain ⟨n1, rfl⟩ : ∃ q, n1 = q + 1 := ⟨n1 - 1, by omega⟩
    obtain ⟨n2, rfl⟩ : ∃ q, n2 = q + 1 := ⟨n2 - 1, by omega⟩
    have : i = m := by omega
    subst this
    refine ⟨rm, ls, fa, fl, lo, hr, dy, wc, wy, wf, ce, ho, ow, hd, li, go, N, ?_, ?_, hT, hB⟩
    · rw [fX9_draw_L11, if_pos (nI_le (Nat.le_refl i) (by omega))]
    · rw [fX12_year_L43, if_pos (nI_le (Nat.le_refl i) (by omega))]
  | succ k ih =>
    intro i hi n1 n2 h1 h2 b hb ls fa fl lo rm ce ho ow hd li go lk wc wy wf hr dy N hT hB hL
    obtain ⟨n1, rfl⟩ : ∃ q, n1 = q + 1 := ⟨n1 - 1, by omega⟩
    obtain ⟨n2, rfl⟩ : ∃ q, n2 = q + 1 := ⟨n2 - 1, by omega⟩
    obtain ⟨a, hab⟩ : ∃ a, (75 * b + 74) % 65537 = a := ⟨_, rfl⟩
    have ha : a < 65537 := by omega
    obtain ⟨r, ls', fa', fl', lo', hr', dy', wc', wy', wf', ce', ho', ow', hd', li', go', N', g1, g2, g3, g4, g5⟩ := year_act (ls := ls) hT hB hL ha B x1 x3 rm oA oW b i m hb (by omega) hm hab
    obtain ⟨r2, ls2, fa2, fl2, lo2, hr2, dy2, wc2, wy2, wf2, ce2, ho2, ow2, hd2, li2, go2, N2, k1, k2, k3, k4⟩ := ih (i + 1) (by omega) n1 n2 (by omega) (by omega) a ha ls' fa' fl' lo' r ce' ho' ow' hd' li' go' lk wc' wy' wf' hr' dy' N' g3 g4 g5
    refine ⟨r2, ls2, fa2, fl2, lo2, hr2, dy2, wc2, wy2, wf2, ce2, ho2, ow2, hd2, li2, go2, N2, ?_, (g2 n2).trans k2, k3, k4⟩
    rw [fX9_draw_L11, if_neg (nI_ge (by omega) (by omega))]
    simp (disch := omega) only [l_mul, a_lit, r_lit, d_lit, hab]
    rw [g1, bsome]
    exact k1
def smF (N : Nat → Int32) : Nat → Int32
  | 0 => 0
  | i + 1 => smF N i + N (12 + i)
theorem f_owed {ow N : Nat → Int32} (t3 : ∀ i, i < 6 → ow i = N (12 + i)) : fX8_owedByAll ow = some (smF N 6) := by
  have L : ∀ n i, i ≤ 6 → 6 - i < n → fX8_owedByAll_L4 ow n (smF N i) (nI i) = some (smF N 6) := by
    intro n
    induction n with
    | zero => intro i _ h2; omega
    | succ n ih =>
      intro i hi hn
      rw [fX8_owedByAll_L4]
      by_cases h6 : i = 6
      · subst h6; rw [if_pos (by decide)]
      · simp (disch := omega) only [lit_nI_le, inb_t, toN_t, gd_T, a_lit, t3 i (by omega)]
        rw [if_neg (by omega)]
        exact ih (i + 1) (by omega) (by omega)
  exact L zF 0 (by omega) (by decide)
theorem f_year_end {B N : Nat → Int32} (hN : BI N) (x1 x2 o1 o2 o3 o4 o5 : Int32) {q : Nat} (hq : q < 3) : fX12_year_L286 B x1 x2 (nI q) zF o1 o2 o3 o4 o5 N 0 0 = some ((if q = 0 then mk6 (ofb N) 6 else if q = 1 then smF N 6 else o1), o1, o2, o3, o4, o5, N) := by
  have L : ∀ n i, i ≤ 6 → 6 - i < n → fX12_year_L286 B x1 x2 (nI q) n o1 o2 o3 o4 o5 N (smF N i) (nI i) = some ((if q = 0 then mk6 (ofb N) 6 else if q = 1 then smF N 6 else o1), o1, o2, o3, o4, o5, N) := by
    intro n
    induction n with
    | zero => intro i _ h2; omega
    | succ n ih =>
      intro i hi hn
      rw [fX12_year_L286]
      by_cases h6 : i = 6
      · subst h6
        rw [if_pos (by decide)]
        simp (disch := omega) only [nI_lit_eq, f_bareM hN.2.2.2.2.1, bsome, fX12_year_b339]
        by_cases q0 : q = 0
        · rw [if_pos q0, if_pos q0]
        · rw [if_neg q0, if_neg q0]
          by_cases q1 : q = 1
          · rw [if_pos q1, if_pos q1]
          · rw [if_neg q1, if_neg q1]
      · simp (disch := omega) only [lit_nI_le, inb_t, toN_t, gd_T, a_lit, l_add]
        rw [if_neg (by omega)]
        exact ih (i + 1) (by omega) (by omega)
  exact L zF 0 (by omega) (by decide)
theorem cpy_in {f g : Nat → Int32} {n i : Nat} (h : i < n) : va_cpy f g 0 0 n i = f i := by
  rw [pk_cpy_in (by omega) (by omega)]
  congr 1
  omega
theorem TR_cpy {ce ho ow hd li go lk ce0 ho0 ow0 hd0 li0 go0 lk0 : Nat → Int32} {wc wy wf hr dy : Int32} {N : Nat → Int32} (h : TR ce ho ow hd li go lk wc wy wf hr dy N) : TR (va_cpy ce ce0 0 0 6) (va_cpy ho ho0 0 0 6) (va_cpy ow ow0 0 0 6) (va_cpy hd hd0 0 0 6) (va_cpy li li0 0 0 6) (va_cpy go go0 0 0 18) (va_cpy lk lk0 0 0 3) wc wy wf hr dy N := by
  obtain ⟨t1, t2, t3, t4, t5, t6, t7, t8, t9, t10, t11, t12⟩ := h
  exact ⟨fun i hi => by rw [cpy_in hi]; exact t1 i hi, fun i hi => by rw [cpy_in hi]; exact t2 i hi, fun i hi => by rw [cpy_in hi]; exact t3 i hi, fun i hi => by rw [cpy_in hi]; exact t4 i hi, fun i hi => by rw [cpy_in hi]; exact t5 i hi, fun i k hi hk => by rw [cpy_in (by omega)]; exact t6 i k hi hk, fun k hk => by rw [cpy_in hk]; exact t7 k hk, t8, t9, t10, t11, t12⟩
theorem op_year {ce ho ow hd li go lk : Nat → Int32} {wc wy wf hr dy : Int32} {B : Nat → Int32} (hT : TR ce ho ow hd li go lk wc wy wf hr dy B) (hB : BI B) (acts bad rea los fac flo thr tdy twc twy twf : Int32) (tce tho tow thd tli tgo tlk N : Nat → Int32) (o1 o2 o3 o4 o5 x1 x2 x3 : Int32) :
    ∃ (r s1 s2 s3 s4 s5 s6 s7 s8 s9 s10 s11 : Int32) (s12 s13 s14 s15 s16 s17 s18 : Nat → Int32) (p1 p2 p3 p4 p5 : Int32) (N' : Nat → Int32), fX11_year acts bad rea los fac flo thr tdy hr dy twc twy twf wc wy wf ce tce ho tho ow tow hd thd li tli go tgo lk tlk x1 x2 x3 = some (r, s1, s2, s3, s4, s5, s6, s7, s8, s9, s10, s11, s12, s13, s14, s15, s16, s17, s18) ∧ fX12_year o1 o2 o3 o4 o5 B N x1 x2 x3 = some (r, p1, p2, p3, p4, p5, N') := by
  unfold fX11_year fX11_year_b30 fX12_year fX12_year_b30
  simp only [f_within, f_in, bsome, bI0, f_asNow]
  by_cases h1 : 0 ≤ x1 ∧ x1 ≤ 9999
  · by_cases h2 : 1 ≤ x2 ∧ x2 ≤ 99
    · by_cases h3 : 0 ≤ x3 ∧ x3 ≤ 2
      · simp only [h1, h2, h3, not_true_eq_false, and_self, if_false]
        obtain ⟨b, hb, rfl⟩ := rng (by decide) h1
        obtain ⟨m, hm1, hm, rfl⟩ := rng1 (by decide) h2
        obtain ⟨q, hq, rfl⟩ := rng (by decide) h3
        have hT2 := TR_co cp_low (TR_cpy (ce0 := tce) (ho0 := tho) (ow0 := tow) (hd0 := thd) (li0 := tli) (go0 := tgo) (lk0 := tlk) hT) (M := cp B N 56)
        have hB2 : BI (cp B N 56) := BI_co cp_low hB
        obtain ⟨r, ls', fa', fl', lo', hr', dy', wc', wy', wf', ce', ho', ow', hd', li', go', N', k1, k2, k3, k4⟩ := year_run (h3 := hr) (d3 := dy) (c3 := wc) (y3 := wy) (f3 := wf) (ce3 := ce) (ho3 := ho) (ow3 := ow) (hd3 := hd) (li3 := li) (go3 := go) (lk3 := lk) (x1 := nI b) (x3 := nI q) (ba := -6) (rs := -6) (oA := -6) (oW := -6) (B := B) (m := m) (by omega) m 0 (by omega) zF zF (by unfold zF; omega) (by unfold zF; omega) b (by omega) 0 (-6) (-6) (-6) o5 _ _ _ _ _ _ _ _ _ _ _ _ _ hT2 hB2 (Or.inl ⟨rfl, rfl, rfl⟩)
        rw [f_year_end k4 _ _ _ _ _ _ _ (by omega)] at k2
        have hd : fX9_draw acts bad rea los fac flo thr tdy hr dy twc twy twf wc wy wf ce tce ho tho ow tow hd thd li tli go tgo lk tlk (nI b) (nI m) = some (0, -6, -6, ls', fa', fl', hr', dy', wc', wy', wf', ce', ho', ow', hd', li', go', va_cpy lk tlk 0 0 3) := by
          unfold fX9_draw fX9_begin fX8_become fX10_become fX10_put
          simp only [bsome]
          exact k1
        rw [hd, bsome]
        have k2' : fX12_year_L43 B (nI b) (nI m) (nI q) zF 0 (-6) (-6) (-6) o5 (cp B N 56) (nI b) 0 = _ := k2
        rw [k2']
        simp (disch := omega) only [nI_lit_eq, f_bare k3.2.2.2.2.1, f_owed k3.2.2.1, bsome]
        rcases (by omega : q = 0 ∨ q = 1 ∨ q = 2) with rfl | rfl | rfl
        · exact ⟨_, _, _, _, _, _, _, _, _, _, _, _, _, _, _, _, _, _, _, _, _, _, _, _, _, rfl, rfl⟩
        · exact ⟨_, _, _, _, _, _, _, _, _, _, _, _, _, _, _, _, _, _, _, _, _, _, _, _, _, rfl, rfl⟩
        · exact ⟨_, _, _, _, _, _, _, _, _, _, _, _, _, _, _, _, _, _, _, _, _, _, _, _, _, rfl, rfl⟩
      · simp only [h1, h2, h3, not_true_eq_false, and_self, if_false, not_false_eq_true, if_true]
        exact ⟨_, _, _, _, _, _, _, _, _, _, _, _, _, _, _, _, _, _, _, _, _, _, _, _, _, rfl, rfl⟩
    · simp only [h1, h2, not_true_eq_false, and_self, if_false, not_false_eq_true, if_true]
      exact ⟨_, _, _, _, _, _, _, _, _, _, _, _, _, _, _, _, _, _, _, _, _, _, _, _, _, rfl, rfl⟩
  · simp only [h1, not_false_eq_true, if_true]
    exact ⟨_, _, _, _, _, _, _, _, _, _, _, _, _, _, _, _, _, _, _, _, _, _, _, _, _, rfl, rfl⟩
