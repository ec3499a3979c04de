/-! an hour: both sides do the same -/
def pop8 (a : Nat) : Nat := a % 2 + a / 2 % 2 + a / 4 % 2 + a / 8 % 2 + a / 16 % 2 + a / 32 % 2 + a / 64 % 2 + a / 128 % 2
theorem f_bc8 : ∀ a, a < 256 → fJ6_bitCount_0f7a4 (nI a) = some (nI (pop8 a)) := by decide +kernel
theorem f_bits8 : ∀ a, a < 256 → fX12_bits (nI a) = some (nI (pop8 a)) := by decide +kernel
theorem pop8_le (a : Nat) : pop8 a ≤ 8 := by unfold pop8; omega
def wsc (c y : Nat) : Nat := if y = 0 then (if c = 11 then 10 else c + 1) else (if c = 0 then 1 else c - 1)
def wsy (c y : Nat) : Nat := if y = 0 then (if c = 11 then 1 else 0) else (if c = 0 then 0 else 1)
def wld (c y : Nat) : Nat := if y = 0 then (if c = 11 then 11 else c + 1) else (if c = 0 then 0 else c - 1)
theorem f_step : ∀ c, c < 12 → ∀ y, y < 2 → fX10_step (nI c) (nI y) = some (nI (wsc c y), nI (wsy c y)) := by decide +kernel
theorem f_land : ∀ c, c < 12 → ∀ y, y < 2 → fX10_landing (nI c) (nI y) = some (nI (wld c y)) := by decide +kernel
theorem wsc_lt : ∀ c, c < 12 → ∀ y, y < 2 → wsc c y < 12 := by decide
theorem wsy_lt : ∀ c, c < 12 → ∀ y, y < 2 → wsy c y < 2 := by decide
theorem wld_lt : ∀ c, c < 12 → ∀ y, y < 2 → wld c y < 12 := by decide
theorem upd_self {f : Nat → Int32} {k : Nat} {x : Int32} (h : f k = x) : upd f k x = f := by
  funext j
  rw [upd_ap]
  by_cases q : j = k
  · rw [if_pos q, q, h]
  · rw [if_neg q]
theorem f_blowOnM {N : Nat → Int32} {c y : Nat} (hc : c < 12) (hy : y < 2) (e1 : N 48 = nI c) (e2 : N 49 = nI y) : fX12_blowOn N = some (upd (upd N 49 (nI (wsy c y))) 48 (nI (wsc c y))) := by
  unfold fX12_blowOn fX12_blowOn_b31 fX12_blowOn_b86 fX12_blowOn_b87
  simp (disch := omega) only [inb_lit, toN_lit, gd_T, e1, e2, f_isCellM, bsome, bI0, upd_eq, upd_ne]
  rcases (by omega : y = 0 ∨ y = 1) with rfl | rfl
  · rw [if_pos (show nI 0 = (0 : Int32) from rfl)]
    by_cases q : c = 11
    · subst q
      rw [if_pos (by decide), if_neg (by decide)]
      rfl
    · have e3 : nI c + 1 = nI (c + 1) := nI_1 c
      rw [e3, if_neg (by rw [Decidable.not_not]; exact rng_of (c := 11) (by decide) (by show c + 1 ≤ 11; omega))]
      have e4 : wsy c 0 = 0 := by unfold wsy; rw [if_pos rfl, if_neg q]
      have e5 : wsc c 0 = c + 1 := by unfold wsc; rw [if_pos rfl, if_neg q]
      rw [e4, e5, upd_self e2]
  · rw [if_neg (show ¬ nI 1 = (0 : Int32) by decide)]
    by_cases q : c = 0
    · subst q
      rw [if_pos (by decide), if_pos (by decide)]
      rfl
    · have e3 : nI c - 1 = nI (c - 1) := s_lit (by show 1 ≤ c; omega)
      rw [e3, if_neg (by rw [Decidable.not_not]; exact rng_of (c := 11) (by decide) (by show c - 1 ≤ 11; omega))]
      have e4 : wsy c 1 = 1 := by unfold wsy; rw [if_neg (by decide), if_neg q]
      have e5 : wsc c 1 = c - 1 := by unfold wsc; rw [if_neg (by decide), if_neg q]
      rw [e4, e5, upd_self e2]
def wbs (c y : Nat) : Int32 := if y = 0 then nI c + 1 else nI c - 1
theorem wbs_land : ∀ c, c < 12 → ∀ y, y < 2 → (if 0 ≤ wbs c y ∧ wbs c y ≤ 11 then wbs c y else nI c) = nI (wld c y) := by decide +kernel
/-- who was first, as both sides keep it -/
def LR (acts oa ow fa fl lo : Int32) : Prop := (lo = -6 ∧ fa = oa ∧ fl = ow) ∨ ∃ x, x < 6 ∧ lo = nI x ∧ ((ow = -6 ∧ fa = acts ∧ fl = nI x) ∨ (¬ ow = -6 ∧ fa = oa ∧ fl = ow))
theorem n60' : ¬ (0 : Int32) ≤ -6 := by decide
theorem LR_note {acts oa ow fa fl lo : Int32} (h : LR acts oa ow fa fl lo) {j : Nat} (hj : j < 6) (ls : Int32) : ∃ fa' fl', fX9_noteLoss acts ls fa fl (nI j) = some (ls + 1, fa', fl') ∧ LR acts oa ow fa' fl' (if 0 ≤ lo then lo else nI j) := by
  unfold fX9_noteLoss fX9_noteLoss_b32
  rcases h with ⟨rfl, rfl, rfl⟩ | ⟨x, hx, rfl, ⟨h1, rfl, rfl⟩ | ⟨h1, rfl, rfl⟩⟩
  · rw [if_neg n60']
    by_cases q : fl = -6
    · rw [if_pos q]
      exact ⟨_, _, rfl, Or.inr ⟨j, hj, rfl, Or.inl ⟨q, rfl, rfl⟩⟩⟩
    · rw [if_neg q]
      exact ⟨_, _, rfl, Or.inr ⟨j, hj, rfl, Or.inr ⟨q, rfl, rfl⟩⟩⟩
  · rw [if_neg (nI_n6 (by omega)), if_pos (nI_pos' (by omega))]
    exact ⟨_, _, rfl, Or.inr ⟨x, hx, rfl, Or.inl ⟨h1, rfl, rfl⟩⟩⟩
  · rw [if_neg h1, if_pos (nI_pos' (by omega))]
    exact ⟨_, _, rfl, Or.inr ⟨x, hx, rfl, Or.inr ⟨h1, rfl, rfl⟩⟩⟩
theorem hsb_up {N : Nat → Int32} {k : Nat} {x : Int32} (hk : 24 ≤ k) (hk2 : k ≠ 51) (i : Nat) (hi : i < 6) : hsb (upd N k x) i = hsb N i := by
  have e1 : ∀ w, w < 6 → pcb (upd N k x) w = pcb N w := fun w hw => by
    unfold pcb
    rw [upd_ne (by omega), upd_ne (by omega), upd_ne (by omega)]
  unfold hsb
  rw [e1 i hi]
  congr 1
  rw [Bool.eq_iff_iff, List.any_eq_true, List.any_eq_true]
  constructor
  · rintro ⟨y, h1, h2⟩
    have hx : y < 6 := List.mem_range.mp h1
    rw [e1 y hx, upd_ne (by omega)] at h2
    exact ⟨y, h1, h2⟩
  · rintro ⟨y, h1, h2⟩
    have hx : y < 6 := List.mem_range.mp h1
    refine ⟨y, h1, ?_⟩
    rw [e1 y hx, upd_ne (by omega)]
    exact h2
/-- the exposed ones, as bits -/
def EX (x : Int32) (N : Nat → Int32) : Prop := ∀ i, i < 32 → bt x i = (decide (i < 6) && (!hsb N i && decide (N (24 + i) = -6)))
theorem bt_m1' (i : Nat) (hi : i < 32) : bt (-1 : Int32) i = true := b_m1 i hi
theorem EX_take {x : Int32} {N : Nat → Int32} (h : EX x N) {j a : Nat} (hj : j < 6) (ha : a < 12) : EX (x &&& (sl 1 (nI j) ^^^ -1)) (upd N (24 + j) (nI a)) := by
  intro i hi
  rw [b_and, b_xor, bt_sl (by omega) hi, bt_m1' i hi, h i hi]
  by_cases q6 : i < 6
  · rw [hsb_up (by omega) (by omega) i q6]
    by_cases q : i = j
    · subst q
      rw [upd_eq rfl]
      have : decide (nI a = -6) = false := decide_eq_false (nI_n6 (by omega))
      simp [this]
    · rw [upd_ne (by omega)]
      simp [q]
  · simp [q6]
theorem blow_in {acts oa ow_ : Int32} {ce ho ow hd go lk : Nat → Int32} {wf hr dy : Int32} {c y : Nat} (hc : c < 12) (hy : y < 2) (x1 xi : Int32) :
    ∀ m j, j + m = 6 → ∀ n1 n2, m < n1 → m < n2 → ∀ (ls fa fl lo x2 : Int32) (li N : Nat → Int32), TR ce ho ow hd li go lk (nI c) (nI y) wf hr dy N → BI N → EX x2 N → (∀ i, j ≤ i → i < 32 → bt x1 i = bt x2 i) → LR acts oa ow_ fa fl lo →
    ∃ (ls' fa' fl' lo' x2' : Int32) (li' N' : Nat → Int32), fX9_blowOn_L4 acts ce (nI c) (nI y) x1 n1 ls fa fl li x2 (nI j) = some (x2', ls', fa', fl', li') ∧ (∀ K, fX12_endHour_L82 K n2 ls lo N xi (wbs c y) (nI j) = K ls' lo' N' (xi + 1)) ∧ TR ce ho ow hd li' go lk (nI c) (nI y) wf hr dy N' ∧ BI N' ∧ EX x2' N' ∧ LR acts oa ow_ fa' fl' lo' := by
  intro m
  induction m with
  | zero =>
    intro j hj n1 n2 h1 h2 ls fa fl lo x2 li N hT hB hE hF hL
    obtain ⟨n1, rfl⟩ : ∃ q, n1 = q + 1 := ⟨n1 - 1, by omega⟩
    obtain ⟨n2, rfl⟩ : ∃ q, n2 = q + 1 := ⟨n2 - 1, by omega⟩
    have : j = 6 := by omega
    subst this
    refine ⟨ls, fa, fl, lo, x2, li, N, ?_, fun K => ?_, hT, hB, hE, hL⟩
    · rw [fX9_blowOn_L4, if_pos (by decide)]
    · rw [fX12_endHour_L82, if_pos (by decide)]
  | succ m ih =>
    intro j hj n1 n2 h1 h2 ls fa fl lo x2 li N hT hB hE hF hL
    obtain ⟨n1, rfl⟩ : ∃ q, n1 = q + 1 := ⟨n1 - 1, by omega⟩
    obtain ⟨n2, rfl⟩ : ∃ q, n2 = q + 1 := ⟨n2 - 1, by omega⟩
    have hj6 : j < 6 := by omega
    have t1 := hT.1
    have t8 := hT.2.2.2.2.2.2.2.1
    have hBH := hB.2.2.2.2.2.2.2.2.2.2.2.2
    -- both go on unchanged
    have skip : (¬ (bt x1 j = true) ∨ ¬ N j = nI c) → fX9_blowOn_L4 acts ce (nI c) (nI y) x1 (n1 + 1) ls fa fl li x2 (nI j) = fX9_blowOn_L4 acts ce (nI c) (nI y) x1 n1 ls fa fl li x2 (nI (j + 1)) := by
      intro hs
      rw [fX9_blowOn_L4]
      simp (disch := omega) only [lit_nI_le, f_has, bsome, bI0, inb_t, toN_t, gd_T, fX9_blowOn_b72, a_lit, sr_bt, t1 j hj6]
      rw [if_neg (by omega)]
      by_cases q : bt x1 j = false
      · rw [if_pos (by rw [Decidable.not_not]; exact q)]
      · rw [if_neg (fun e => q (Decidable.not_not.mp e)), if_neg]
        exact hs.resolve_left (fun e => q (by simpa using e))
    have hx1 : bt x1 j = (!hsb N j && decide (N (24 + j) = -6)) := by
      rw [hF j (Nat.le_refl j) (by omega), hE j (by omega)]
      simp [hj6]
    by_cases c1 : N j = nI c
    · rcases hB.2.2.2.2.1 j hj6 with c2 | ⟨a2, ha2, c2⟩
      · by_cases c3 : hsb N j = true
        · -- hushed
          obtain ⟨ls', fa', fl', lo', x2', li', N', g1, g2, g3, g4, g5, g6⟩ := ih (j + 1) (by omega) n1 n2 (by omega) (by omega) ls fa fl lo x2 li N hT hB hE (fun i hi hi2 => hF i (by omega) hi2) hL
          refine ⟨ls', fa', fl', lo', x2', li', N', ?_, fun K => ?_, g3, g4, g5, g6⟩
          · rw [skip (Or.inl (by rw [hx1, c3]; simp))]; exact g1
          · rw [fX12_endHour_L82]
            simp (disch := omega) only [lit_nI_le, inb_t, inb_lit, toN_t, toN_lit, gd_T, l_add, a_lit, fX12_endHour_b180, f_isHushed hBH hB.2.2.2.1 hj6, bsome, bI0]
            rw [if_neg (by omega), if_pos (by rw [c1, ← t8]), c2, if_neg n60', if_neg (by rw [Decidable.not_not]; exact c3)]
            exact g2 K
        · -- it comes off
          obtain ⟨fa2, fl2, k1, k2⟩ := LR_note hL hj6 ls
          have hT2 := TR_li hj6 (x := nI (wld c y)) hT
          have hB2 := BI_li hj6 (x := nI (wld c y)) (Or.inr ⟨_, wld_lt c hc y hy, rfl⟩) hB
          have hE2 := EX_take hE hj6 (wld_lt c hc y hy)
          obtain ⟨ls', fa', fl', lo', x2', li', N', g1, g2, g3, g4, g5, g6⟩ := ih (j + 1) (by omega) n1 n2 (by omega) (by omega) (ls + 1) fa2 fl2 (if 0 ≤ lo then lo else nI j) (x2 &&& (sl 1 (nI j) ^^^ -1)) (upd li j (nI (wld c y))) (upd N (24 + j) (nI (wld c y))) hT2 hB2 hE2 (fun i hi hi2 => by
            rw [b_and, b_xor, bt_sl (by omega) hi2, bt_m1' i hi2, hF i (by omega) hi2]
            have : decide (i = j) = false := decide_eq_false (by omega)
            simp [this]) k2
          refine ⟨ls', fa', fl', lo', x2', li', N', ?_, fun K => ?_, g3, g4, g5, g6⟩
          · rw [fX9_blowOn_L4]
            have qb : ¬ bt x1 j = false := by rw [hx1]; simp [c3, c2]
            simp (disch := omega) only [lit_nI_le, f_has, bsome, bI0, inb_t, toN_t, gd_T, fX9_blowOn_b72, a_lit, sr_bt, t1 j hj6, f_land c hc y hy, k1]
            rw [if_neg (by omega), if_neg (fun e => qb (Decidable.not_not.mp e)), if_pos c1]
            exact g1
          · rw [fX12_endHour_L82]
            simp (disch := omega) only [lit_nI_le, inb_t, inb_lit, toN_t, toN_lit, gd_T, l_add, a_lit, fX12_endHour_b180, fX12_endHour_b177, fX12_endHour_b150, f_isHushed hBH hB.2.2.2.1 hj6, f_isCellM, bsome, bI0]
            rw [if_neg (by omega), if_pos (by rw [c1, ← t8]), c2, if_neg n60', if_pos c3, ← t8]
            have hw := wbs_land c hc y hy
            by_cases q : 0 ≤ wbs c y ∧ wbs c y ≤ 11
            · rw [if_neg (by rw [Decidable.not_not]; exact q)]
              rw [if_pos q] at hw
              by_cases q2 : 0 ≤ lo
              · rw [if_pos q2, hw]
                rw [if_pos q2] at g2
                have := g2 K
                rw [hw] at this
                exact this
              · rw [if_neg q2, hw]
                rw [if_neg q2] at g2
                have := g2 K
                rw [hw] at this
                exact this
            · rw [if_pos q]
              rw [if_neg q] at hw
              by_cases q2 : 0 ≤ lo
              · rw [if_pos q2]
                rw [if_pos q2, ← hw] at g2
                exact g2 K
              · rw [if_neg q2]
                rw [if_neg q2, ← hw] at g2
                exact g2 K
      · -- off already
        obtain ⟨ls', fa', fl', lo', x2', li', N', g1, g2, g3, g4, g5, g6⟩ := ih (j + 1) (by omega) n1 n2 (by omega) (by omega) ls fa fl lo x2 li N hT hB hE (fun i hi hi2 => hF i (by omega) hi2) hL
        refine ⟨ls', fa', fl', lo', x2', li', N', ?_, fun K => ?_, g3, g4, g5, g6⟩
        · have : decide (nI a2 = -6) = false := decide_eq_false (nI_n6 (by omega))
          rw [skip (Or.inl (by rw [hx1, c2, this]; simp))]; exact g1
        · rw [fX12_endHour_L82]
          simp (disch := omega) only [lit_nI_le, inb_t, inb_lit, toN_t, toN_lit, gd_T, l_add, a_lit, fX12_endHour_b180]
          rw [if_neg (by omega), if_pos (by rw [c1, ← t8]), c2, if_pos (nI_pos' (by omega))]
          exact g2 K
    · -- elsewhere
      obtain ⟨ls', fa', fl', lo', x2', li', N', g1, g2, g3, g4, g5, g6⟩ := ih (j + 1) (by omega) n1 n2 (by omega) (by omega) ls fa fl lo x2 li N hT hB hE (fun i hi hi2 => hF i (by omega) hi2) hL
      refine ⟨ls', fa', fl', lo', x2', li', N', ?_, fun K => ?_, g3, g4, g5, g6⟩
      · rw [skip (Or.inr c1)]; exact g1
      · rw [fX12_endHour_L82]
        simp (disch := omega) only [lit_nI_le, inb_t, inb_lit, toN_t, toN_lit, gd_T, l_add, a_lit, fX12_endHour_b180]
        rw [if_neg (by omega), if_neg (by rw [← t8]; exact c1)]
        exact g2 K
theorem blow_none (acts ls fa fl : Int32) (ce li : Nat → Int32) (wc wy : Int32) : fX9_blowOn acts ls fa fl ce wc wy li 0 = some (0, ls, fa, fl, li) := by
  have L : ∀ n i, i ≤ 6 → 6 - i < n → fX9_blowOn_L4 acts ce wc wy 0 n ls fa fl li 0 (nI i) = some (0, ls, fa, fl, li) := by
    intro n
    induction n with
    | zero => intro i _ h2; omega
    | succ n ih =>
      intro i hi hn
      rw [fX9_blowOn_L4]
      by_cases h6 : i = 6
      · subst h6; rw [if_pos (by decide)]
      · simp (disch := omega) only [lit_nI_le, f_has, bsome, bI0, sr_bt, b_0, fX9_blowOn_b72, a_lit]
        rw [if_neg (by omega), if_pos (by simp)]
        exact ih (i + 1) (by omega) (by omega)
  exact L zF 0 (by omega) (by decide)
theorem blow_all {acts oa ow_ : Int32} {ce ho ow hd go lk : Nat → Int32} {hr dy : Int32} {f : Nat} (hf : f < 10) :
    ∀ m i, i + m = f → ∀ n1 n2, m < n1 → m < n2 → ∀ (c y : Nat), c < 12 → y < 2 → ∀ (ls fa fl lo x1 : Int32) (li N : Nat → Int32), TR ce ho ow hd li go lk (nI c) (nI y) (nI f) hr dy N → BI N → EX x1 N → LR acts oa ow_ fa fl lo →
    ∃ (ls' fa' fl' lo' : Int32) (c' y' : Nat) (li' N' : Nat → Int32), fX9_passAnHour_L30 acts ho hd (nI f) ce n1 ls fa fl hr dy ow li (nI c) (nI y) x1 (nI i) = some (ls', fa', fl', hr, dy, ow, li', nI c', nI y') ∧ fX12_endHour_L33 n2 ls lo N (nI i) = some (0, ls', lo', N') ∧ TR ce ho ow hd li' go lk (nI c') (nI y') (nI f) hr dy N' ∧ BI N' ∧ LR acts oa ow_ fa' fl' lo' := by
  intro m
  induction m with
  | zero =>
    intro i hi n1 n2 h1 h2 c y hc hy ls fa fl lo x1 li N hT hB hE hL
    obtain ⟨n1, rfl⟩ : ∃ q, n1 = q + 1 := ⟨n1 - 1, by omega⟩
    obtain ⟨n2, rfl⟩ : ∃ q, n2 = q + 1 := ⟨n2 - 1, by omega⟩
    have : i = f := by omega
    subst this
    refine ⟨ls, fa, fl, lo, c, y, li, N, ?_, ?_, hT, hB, hL⟩
    · rw [fX9_passAnHour_L30, if_pos (nI_le (Nat.le_refl i) (by omega))]
    · rw [fX12_endHour_L33]
      simp (disch := omega) only [inb_lit, toN_lit, gd_T]
      rw [← hT.2.2.2.2.2.2.2.2.2.1, if_pos (nI_le (Nat.le_refl i) (by omega))]
  | succ m ih =>
    intro i hi n1 n2 h1 h2 c y hc hy ls fa fl lo x1 li N hT hB hE hL
    obtain ⟨n1, rfl⟩ : ∃ q, n1 = q + 1 := ⟨n1 - 1, by omega⟩
    obtain ⟨n2, rfl⟩ : ∃ q, n2 = q + 1 := ⟨n2 - 1, by omega⟩
    have t8 := hT.2.2.2.2.2.2.2.1
    have t9 := hT.2.2.2.2.2.2.2.2.1
    have t10 := hT.2.2.2.2.2.2.2.2.2.1
    have hc2 := wsc_lt c hc y hy
    have hy2 := wsy_lt c hc y hy
    have hT2 := TR_wc (x := nI (wsc c y)) (TR_wy (x := nI (wsy c y)) hT)
    have hB2 := BI_wc (x := nI (wsc c y)) ⟨_, hc2, rfl⟩ (BI_wy (x := nI (wsy c y)) ⟨_, hy2, rfl⟩ hB)
    have hE2 : EX x1 (upd (upd N 49 (nI (wsy c y))) 48 (nI (wsc c y))) := by
      intro i hi
      rw [hE i hi]
      by_cases q : i < 6
      · rw [hsb_up (by omega) (by omega) i q, hsb_up (by omega) (by omega) i q, upd_ne (by omega), upd_ne (by omega)]
      · simp [q]
    obtain ⟨ls', fa', fl', lo', x2', li', N', g1, g2, g3, g4, g5, g6⟩ := blow_in (acts := acts) (oa := oa) (ow_ := ow_) hc2 hy2 x1 (nI i) 6 0 (by omega) zF zF (by decide) (by decide) ls fa fl lo x1 li _ hT2 hB2 hE2 (fun _ _ _ => rfl) hL
    obtain ⟨ls3, fa3, fl3, lo3, c3, y3, li3, N3, k1, k2, k3, k4, k5⟩ := ih (i + 1) (by omega) n1 n2 (by omega) (by omega) (wsc c y) (wsy c y) hc2 hy2 ls' fa' fl' lo' x2' li' N' g3 g4 g5 g6
    refine ⟨ls3, fa3, fl3, lo3, c3, y3, li3, N3, ?_, ?_, k3, k4, k5⟩
    · rw [fX9_passAnHour_L30, if_neg (nI_ge (by omega) (by omega)), f_step c hc y hy, bsome]
      have gb : fX9_blowOn acts ls fa fl ce (nI (wsc c y)) (nI (wsy c y)) li x1 = some (x2', ls', fa', fl', li') := g1
      by_cases q : x1 = 0
      · rw [if_pos q]
        rw [q, blow_none] at gb
        have gb := Option.some.inj gb
        simp only [Prod.mk.injEq] at gb
        obtain ⟨r1, r2, r3, r4, r5⟩ := gb
        rw [fX9_passAnHour_b64, nI_1, q, r1, r2, r3, r4, r5]
        exact k1
      · rw [if_neg q, gb, bsome, fX9_passAnHour_b64, nI_1]
        exact k1
    · rw [fX12_endHour_L33]
      simp (disch := omega) only [inb_lit, toN_lit, gd_T, f_blowOnM hc hy t8.symm t9.symm, bsome, fX12_endHour_b79, upd_eq, upd_ne]
      rw [← t10, if_neg (nI_ge (by omega) (by omega))]
      have e1 : upd (upd N 49 (nI (wsy c y))) 48 (nI (wsc c y)) 49 = nI (wsy c y) := by rw [upd_ne (by omega), upd_eq rfl]
      have e2 := g2 (fX12_endHour_L33 n2)
      rw [nI_1] at e2
      unfold wbs at e2
      by_cases q : wsy c y = 0
      · rw [if_pos q] at e2
        rw [if_pos (by rw [q]; rfl)]
        exact e2.trans k2
      · rw [if_neg q] at e2
        rw [if_neg (show ¬ nI (wsy c y) = (0 : Int32) from fun e => q ((nI_inj (b := 0) (by omega) (by omega)).mp e))]
        exact e2.trans k2
theorem charge {ce ho hd li go lk : Nat → Int32} {wc wy wf hr dy : Int32} :
    ∀ m j, j + m = 6 → ∀ n1 n2, m < n1 → m < n2 → ∀ (ow N : Nat → Int32), TR ce ho ow hd li go lk wc wy wf hr dy N → BI N → ∃ (ow' N' : Nat → Int32), fX8_chargeAll_L2 ho n1 ow (nI j) = some ow' ∧ fX12_passHour_L44 n2 N (nI j) = some N' ∧ TR ce ho ow' hd li go lk wc wy wf hr dy N' ∧ BI N' := by
  intro m
  induction m with
  | zero =>
    intro j hj n1 n2 h1 h2 ow N hT hB
    obtain ⟨n1, rfl⟩ : ∃ q, n1 = q + 1 := ⟨n1 - 1, by omega⟩
    obtain ⟨n2, rfl⟩ : ∃ q, n2 = q + 1 := ⟨n2 - 1, by omega⟩
    have : j = 6 := by omega
    subst this
    refine ⟨ow, N, ?_, ?_, hT, hB⟩
    · rw [fX8_chargeAll_L2, if_pos (by decide)]
    · rw [fX12_passHour_L44, if_pos (by decide), fX12_passHour_b102]
  | succ m ih =>
    intro j hj n1 n2 h1 h2 ow N hT hB
    obtain ⟨n1, rfl⟩ : ∃ q, n1 = q + 1 := ⟨n1 - 1, by omega⟩
    obtain ⟨n2, rfl⟩ : ∃ q, n2 = q + 1 := ⟨n2 - 1, by omega⟩
    have hj6 : j < 6 := by omega
    obtain ⟨o, ho_, eo⟩ := hB.2.2.1 j hj6
    obtain ⟨h, hh, eh⟩ := hB.2.1 j hj6
    have t2 := hT.2.1 j hj6
    have t3 := hT.2.2.1 j hj6
    have hp := pop8_le h
    obtain ⟨z, hz, ez⟩ : ∃ z, z < 10 ∧ imin (nI (o + pop8 h / 2)) 9 = nI z ∧ (if nI (o + pop8 h / 2) ≤ 9 then nI (o + pop8 h / 2) else 9) = nI z := by
      by_cases q : o + pop8 h / 2 ≤ 9
      · refine ⟨_, by omega, ?_, if_pos ((nI_leI (b := 9) (by omega) (by omega)).mpr q)⟩
        unfold imin
        rw [if_neg]
        exact fun e => absurd ((nI_ltI (a := 9) (by omega) (by omega)).mp e) (by omega)
      · refine ⟨9, by omega, ?_, if_neg (fun e => q ((nI_leI (b := 9) (by omega) (by omega)).mp e))⟩
        unfold imin
        rw [if_pos (show (9 : Int32) < nI (o + pop8 h / 2) from (nI_ltI (a := 9) (by omega) (by omega)).mpr (by omega))]
        rfl
    obtain ⟨ow', N', k1, k2, k3, k4⟩ := ih (j + 1) (by omega) n1 n2 (by omega) (by omega) (upd ow j (nI z)) (upd N (12 + j) (nI z)) (TR_ow hj6 hT) (BI_ow hj6 ⟨z, hz, rfl⟩ hB)
    refine ⟨ow', N', ?_, ?_, k3, k4⟩
    · rw [fX8_chargeAll_L2]
      simp (disch := omega) only [lit_nI_le, inb_t, toN_t, gd_T, t2, t3, eh, eo, f_bc8 h hh, bsome, d_lit, nI_add, a_lit, ez.1]
      rw [if_neg (by omega)]
      exact k1
    · rw [fX12_passHour_L44]
      simp (disch := omega) only [lit_nI_le, inb_t, toN_t, gd_T, l_add, eh, eo, f_bits8 h hh, bsome, d_lit, nI_add, a_lit, fX12_passHour_b95]
      rw [if_neg (by omega)]
      have e2 := ez.2
      by_cases q : nI (o + pop8 h / 2) ≤ 9
      · rw [if_pos q] at e2 ⊢
        rw [e2]
        exact k2
      · rw [if_neg q] at e2 ⊢
        rw [e2]
        exact k2
theorem pass_time {ce ho ow hd li go lk : Nat → Int32} {wc wy wf hr dy : Int32} {N : Nat → Int32} (hT : TR ce ho ow hd li go lk wc wy wf hr dy N) (hB : BI N) (hn : ¬ (N 51 = 7 ∧ N 52 = 99)) :
    ∃ (hr' dy' : Int32) (ow' N' : Nat → Int32), fX8_passTime hr dy ow ho = some (hr', dy', ow') ∧ fX12_passHour N = some N' ∧ TR ce ho ow' hd li go lk wc wy wf hr' dy' N' ∧ BI N' := by
  obtain ⟨a, ha, ea⟩ := hB.2.2.2.2.2.2.2.2.2.1
  obtain ⟨d, hd_, ed⟩ := hB.2.2.2.2.2.2.2.2.2.2.1
  have t11 := hT.2.2.2.2.2.2.2.2.2.2.1
  have t12 := hT.2.2.2.2.2.2.2.2.2.2.2
  unfold fX8_passTime fX8_passTime_b38 fX12_passHour fX12_passHour_b102
  simp (disch := omega) only [inb_lit, toN_lit, gd_T, upd_eq, upd_ne]
  rw [t11, t12, ea, ed, nI_1, nI_1]
  by_cases q : a = 7
  · subst q
    have hd9 : d < 99 := by
      have : ¬ d = 99 := fun e => hn ⟨by rw [ea]; rfl, by rw [ed, e]; rfl⟩
      omega
    have e8 : nI (7 + 1) = 8 := rfl
    have hT2 := TR_dy (x := nI (d + 1)) (TR_hr (x := 0) (TR_hr (x := nI (7 + 1)) hT))
    have hB2 : BI (upd (upd (upd N 51 (nI (7 + 1))) 51 0) 52 (nI (d + 1))) := by
      refine BI_co (fun i _ => ?_) (BI_dy (x := nI (d + 1)) ⟨d + 1, by omega, rfl⟩ (BI_hr (x := 0) ⟨0, by omega, rfl⟩ hB))
      rw [upd_ap, upd_ap, upd_ap, upd_ap, upd_ap]
      by_cases q1 : i = 52
      · rw [if_pos q1, if_pos q1]
      · rw [if_neg q1, if_neg q1]
        by_cases q2 : i = 51
        · rw [if_pos q2, if_pos q2]
        · rw [if_neg q2, if_neg q2, if_neg q2]
    obtain ⟨ow', N', k1, k2, k3, k4⟩ := charge 6 0 (by omega) zF zF (by decide) (by decide) _ _ hT2 hB2
    rw [if_pos e8, if_pos e8]
    have k1' : fX8_chargeAll ow ho = some ow' := k1
    rw [k1', bsome]
    exact ⟨0, nI (d + 1), ow', N', rfl, k2, k3, k4⟩
  · rw [if_neg (fun e => q (by have := (nI_inj (b := 8) (by omega) (by omega)).mp e; omega)), if_neg (fun e => q (by have := (nI_inj (b := 8) (by omega) (by omega)).mp e; omega))]
    refine ⟨nI (a + 1), nI d, ow, _, rfl, rfl, ?_, BI_hr ⟨a + 1, by omega, rfl⟩ hB⟩
    have := TR_hr (x := nI (a + 1)) hT
    rw [t12, ed] at this
    exact this
theorem hour {acts oa ow_ ls fa fl lo : Int32} {ce ho ow hd li go lk : Nat → Int32} {wc wy wf hr dy : Int32} {N : Nat → Int32} (hT : TR ce ho ow hd li go lk wc wy wf hr dy N) (hB : BI N) (hL : LR acts oa ow_ fa fl lo) (w q : Int32) :
    ∃ (r ls' fa' fl' lo' hr' dy' wc' wy' : Int32) (ow' li' N' : Nat → Int32), fX9_tryAct acts ls fa fl hr dy hd li ce wc wy wf ow go ho lk w 8 q = some (r, ls', fa', fl', hr', dy', hd, li', ce, wc', wy', wf, ow', go, ho) ∧ fX12_endHour ls lo N = some (r, ls', lo', N') ∧ TR ce ho ow' hd li' go lk wc' wy' wf hr' dy' N' ∧ BI N' ∧ LR acts oa ow_ fa' fl' lo' ∧ (r = 0 ∨ 0 < r) := by
  obtain ⟨a, ha, ea⟩ := hB.2.2.2.2.2.2.2.2.2.1
  obtain ⟨d, hd_, ed⟩ := hB.2.2.2.2.2.2.2.2.2.2.1
  have t11 := hT.2.2.2.2.2.2.2.2.2.2.1
  have t12 := hT.2.2.2.2.2.2.2.2.2.2.2
  have eo : fX8_obstacle hr dy hd li ce wf ow go w 8 q = some (if a = 7 then (if d = 99 then 9 else 0) else 0) := by
    unfold fX8_obstacle fX8_obstacle_b159 fX8_obstacle_b160
    rw [if_neg (by decide), if_neg (by decide), if_neg (by decide), if_neg (by decide), if_neg (by decide), if_neg (by decide), if_neg (by decide), if_neg (by decide), t11, t12, ea, ed]
    simp (disch := omega) only [nI_lit_eq, nI_lit_lt]
    by_cases q1 : a = 7
    · rw [if_pos q1, if_pos q1]
      by_cases q2 : d = 99
      · rw [if_pos q2, if_neg (by omega)]
      · rw [if_neg q2, if_pos (by omega)]
    · rw [if_neg q1, if_neg q1]
  by_cases hn : N 51 = 7 ∧ N 52 = 99
  · have q1 : a = 7 := by
      have := hn.1
      rw [ea] at this
      exact (nI_inj (b := 7) (by omega) (by omega)).mp this
    have q2 : d = 99 := by
      have := hn.2
      rw [ed] at this
      exact (nI_inj (b := 99) (by omega) (by omega)).mp this
    rw [if_pos q1, if_pos q2] at eo
    refine ⟨9, ls, fa, fl, lo, hr, dy, wc, wy, ow, li, N, ?_, ?_, hT, hB, hL, Or.inr (by decide)⟩
    · unfold fX9_tryAct
      rw [eo, bsome, if_neg (by decide)]
    · unfold fX12_endHour
      simp (disch := omega) only [inb_lit, toN_lit, gd_T]
      rw [if_pos hn.1, if_pos hn.2]
  · have eo0 : fX8_obstacle hr dy hd li ce wf ow go w 8 q = some 0 := by
      rw [eo]
      by_cases q1 : a = 7
      · rw [if_pos q1]
        by_cases q2 : d = 99
        · exact absurd ⟨by rw [ea, q1]; rfl, by rw [ed, q2]; rfl⟩ hn
        · rw [if_neg q2]
      · rw [if_neg q1]
    obtain ⟨hr', dy', ow', N1, p1, p2, p3, p4⟩ := pass_time hT hB hn
    obtain ⟨c, hc, ec⟩ := p4.2.2.2.2.2.2.1
    obtain ⟨y, hy, ey⟩ := p4.2.2.2.2.2.2.2.1
    obtain ⟨f, hf1, hf2, ef⟩ := p4.2.2.2.2.2.2.2.2.1
    have p3' := p3
    obtain ⟨t1, t2, t3, t4, t5, t6, t7, t8, t9, t10, t11', t12'⟩ := p3'
    have e8 : wc = nI c := t8.trans ec
    have e9 : wy = nI y := t9.trans ey
    have e10 : wf = nI f := t10.trans ef
    have hu := f_hushed t2 t3 t11' t4
    rw [hm_mk p4.2.2.2.1] at hu
    have hbr := f_bare t5
    have hE : EX (63 &&& ((mk6 (hsb N1) 6 ||| mk6 (ofb N1) 6) ^^^ -1)) N1 := by
      intro i hi
      have b63 : bt 63 i = decide (i < 6) := (by decide +kernel : ∀ i, i < 32 → bt 63 i = decide (i < 6)) i hi
      rw [b_and, b_xor, b_or, bt_m1' i hi, mk6_bt 6 (Nat.le_refl 6) i hi, mk6_bt 6 (Nat.le_refl 6) i hi, b63]
      by_cases q6 : i < 6
      · unfold ofb
        cases hsb N1 i <;> simp [q6]
      · simp [q6]
    rw [e8, e9, e10] at p3
    obtain ⟨ls', fa', fl', lo', c', y', li', N', g1, g2, g3, g4, g5⟩ := blow_all (acts := acts) (oa := oa) (ow_ := ow_) hf2 f 0 (by omega) zF zF (by unfold zF; omega) (by unfold zF; omega) c y hc hy ls fa fl lo _ li N1 p3 p4 hE hL
    refine ⟨0, ls', fa', fl', lo', hr', dy', nI c', nI y', ow', li', N', ?_, ?_, ?_, g4, g5, Or.inl rfl⟩
    · unfold fX9_tryAct fX9_tryAct_b43
      rw [eo0, bsome, if_pos rfl, if_pos rfl]
      have : fX9_passAnHour acts ls fa fl hr dy ow ho hd li wc wy wf ce = some (ls', fa', fl', hr', dy', ow', li', nI c', nI y') := by
        unfold fX9_passAnHour
        rw [p1, bsome, hu, bsome, hbr, bsome, e8, e9, e10]
        exact g1
      rw [this, bsome]
    · unfold fX12_endHour fX12_endHour_b27
      simp (disch := omega) only [inb_lit, toN_lit, gd_T]
      rw [p2, bsome]
      have z : fX12_endHour_L33 zF ls lo N1 0 = some (0, ls', lo', N') := g2
      rw [z]
      by_cases q1 : N 51 = 7
      · rw [if_pos q1, if_neg (fun e => hn ⟨q1, e⟩)]
      · rw [if_neg q1]
    · rw [e10]; exact g3
