/-! images -/
theorem SG_co {cn sg : Int32} {ft : Int64} {st st' : Nat → Int32} (e : ∀ k, k < 40 → st' k = st k) (h : SG cn ft sg st) : SG cn ft sg st' := by
  obtain ⟨s, q, v, h1, h2, h3, h4, h5⟩ := h
  exact ⟨s, q, v, h1, h2, h3, fun j hj => ⟨by rw [e _ (by omega)]; exact (h4 j hj).1, by rw [e _ (by omega)]; exact (h4 j hj).2.1, (h4 j hj).2.2⟩, h5⟩
theorem r_im1 {sg x1 : Int32} {B sight : Nat → Int32} {n : Nat} (hn : n < 2) {kp : Nat → Int32} : ∀ m i, i + m = 56 → ∀ f, m < f → ∀ im, ∃ im' : Nat → Int32, (∀ k, i ≤ k → k < 56 → im' (100 * n + k) = B k) ∧ (∀ j, (j < 100 * n + i ∨ 100 * n + 56 ≤ j) → im' j = im j) ∧ fX12_image_L19 sg B sight x1 f im kp (nI (100 * n)) (nI i) = fX12_image_L47 sg B sight x1 zF im' kp (nI (100 * n)) 0 := by
  intro m
  induction m with
  | zero =>
    intro i hi f hf im
    obtain ⟨f, rfl⟩ : ∃ q, f = q + 1 := ⟨f - 1, by omega⟩
    have : i = 56 := by omega
    subst this
    exact ⟨im, fun k h1 h2 => absurd h1 (by omega), fun j _ => rfl, by rw [fX12_image_L19, if_pos (by decide)]⟩
  | succ m ih =>
    intro i hi f hf im
    obtain ⟨f, rfl⟩ : ∃ q, f = q + 1 := ⟨f - 1, by omega⟩
    rw [fX12_image_L19, if_neg (show ¬ (56 : Int32) ≤ nI i from nI_ge (a := i) (b := 56) (by omega) (by omega))]
    simp (disch := omega) only [nI_add, inb_t, toN_t, gd_T, nI_1]
    obtain ⟨im', g1, g2, g3⟩ := ih (i + 1) (by omega) f (by omega) (upd im (100 * n + i) (B i))
    refine ⟨im', fun k h1 h2 => ?_, fun j hj => ?_, g3⟩
    · by_cases q : k = i
      · subst q; rw [g2 _ (by omega), upd_eq rfl]
      · exact g1 k (by omega) h2
    · rw [g2 j (by omega), upd_ne (by omega)]
theorem r_im2 {sg x1 : Int32} {B sight : Nat → Int32} {n : Nat} (hn : n < 2) {kp : Nat → Int32} (hx : x1 = nI n) : ∀ m i, i + m = 40 → ∀ f, m < f → ∀ im, ∃ im' : Nat → Int32, (∀ k, i ≤ k → k < 40 → im' (100 * n + 56 + k) = sight k) ∧ im' (100 * n + 98) = sg ∧ (∀ j, (j < 100 * n + 56 + i ∨ 100 * n + 99 ≤ j) → im' j = im j) ∧ fX12_image_L47 sg B sight x1 f im kp (nI (100 * n)) (nI i) = some (1, im', upd kp n 1) := by
  intro m
  induction m with
  | zero =>
    intro i hi f hf im
    obtain ⟨f, rfl⟩ : ∃ q, f = q + 1 := ⟨f - 1, by omega⟩
    have : i = 40 := by omega
    subst this
    refine ⟨upd im (100 * n + 98) sg, fun k h1 h2 => absurd h1 (by omega), upd_eq rfl, fun j hj => upd_ne (by omega), ?_⟩
    rw [fX12_image_L47, if_pos (by decide), hx]
    simp (disch := omega) only [a_lit, inb_t, toN_t, gd_T, nar1]
    rfl
  | succ m ih =>
    intro i hi f hf im
    obtain ⟨f, rfl⟩ : ∃ q, f = q + 1 := ⟨f - 1, by omega⟩
    rw [fX12_image_L47, if_neg (show ¬ (40 : Int32) ≤ nI i from nI_ge (a := i) (b := 40) (by omega) (by omega))]
    simp (disch := omega) only [a_lit, nI_add, inb_t, toN_t, gd_T, nI_1]
    obtain ⟨im', g1, g2, g3, g4⟩ := ih (i + 1) (by omega) f (by omega) (upd im (100 * n + 56 + i) (sight i))
    refine ⟨im', fun k h1 h2 => ?_, g2, fun j hj => ?_, g4⟩
    · by_cases q : k = i
      · subst q; rw [g3 _ (by omega), upd_eq rfl]
      · exact g1 k (by omega) h2
    · rw [g3 j (by omega), upd_ne (by omega)]
theorem r_image {sg : Int32} {B sight im kp : Nat → Int32} {n : Nat} (hn : n < 2) : ∃ im' : Nat → Int32, (∀ k, k < 56 → im' (100 * n + k) = B k) ∧ (∀ k, k < 40 → im' (100 * n + 56 + k) = sight k) ∧ im' (100 * n + 98) = sg ∧ (∀ j, (j < 100 * n ∨ 100 * n + 100 ≤ j) → im' j = im j) ∧ fX12_image sg B im sight kp (nI n) = some (1, im', upd kp n 1) := by
  obtain ⟨i1, a1, a2, a3⟩ := r_im1 (sg := sg) (x1 := nI n) (B := B) (sight := sight) (kp := kp) hn 56 0 (by omega) zF (by unfold zF; omega) im
  obtain ⟨i2, b1, b2, b3, b4⟩ := r_im2 (sg := sg) (x1 := nI n) (B := B) (sight := sight) (kp := kp) hn rfl 40 0 (by omega) zF (by unfold zF; omega) i1
  refine ⟨i2, fun k hk => by rw [b3 _ (by omega)]; exact a1 k (by omega) hk, fun k hk => b1 k (by omega) hk, b2, fun j hj => by rw [b3 _ (by omega), a2 _ (by omega)], ?_⟩
  unfold fX12_image
  have hr : 0 ≤ nI n ∧ nI n ≤ 1 := rng_of (c := 1) (by decide) (by show n ≤ 1; omega)
  have a3' : fX12_image_L19 sg B sight (nI n) zF im kp (nI (100 * n)) 0 = _ := a3
  have b4' : fX12_image_L47 sg B sight (nI n) zF i1 kp (nI (100 * n)) 0 = _ := b4
  simp only [f_in, bsome, bI0, hr, not_true_eq_false, and_self, if_false, l_mul]
  rw [a3', b4']
theorem r_re1 {kp im : Nat → Int32} {sg x1 : Int32} {st : Nat → Int32} {n : Nat} (hn : n < 2) : ∀ m i, i + m = 56 → ∀ f, m < f → ∀ B, ∃ B' : Nat → Int32, (∀ k, i ≤ k → k < 56 → B' k = im (100 * n + k)) ∧ (∀ j, j < i → B' j = B j) ∧ fX12_restore_L31 kp im x1 f sg B st (nI (100 * n)) (nI i) = fX12_restore_L59 kp im x1 zF sg B' st (nI (100 * n)) 0 := by
  intro m
  induction m with
  | zero =>
    intro i hi f hf B
    obtain ⟨f, rfl⟩ : ∃ q, f = q + 1 := ⟨f - 1, by omega⟩
    have : i = 56 := by omega
    subst this
    exact ⟨B, fun k h1 h2 => absurd h1 (by omega), fun j _ => rfl, by rw [fX12_restore_L31, if_pos (by decide)]⟩
  | succ m ih =>
    intro i hi f hf B
    obtain ⟨f, rfl⟩ : ∃ q, f = q + 1 := ⟨f - 1, by omega⟩
    rw [fX12_restore_L31, if_neg (show ¬ (56 : Int32) ≤ nI i from nI_ge (a := i) (b := 56) (by omega) (by omega))]
    simp (disch := omega) only [nI_add, inb_t, toN_t, gd_T, nI_1]
    obtain ⟨B', g1, g2, g3⟩ := ih (i + 1) (by omega) f (by omega) (upd B i (im (100 * n + i)))
    refine ⟨B', fun k h1 h2 => ?_, fun j hj => ?_, g3⟩
    · by_cases q : k = i
      · subst q; rw [g2 _ (by omega), upd_eq rfl]
      · exact g1 k (by omega) h2
    · rw [g2 j (by omega), upd_ne (by omega)]
theorem r_re2 {kp im B : Nat → Int32} {sg x1 : Int32} {n : Nat} (hn : n < 2) : ∀ m i, i + m = 40 → ∀ f, m < f → ∀ st, ∃ st' : Nat → Int32, (∀ k, i ≤ k → k < 40 → st' k = im (100 * n + 56 + k)) ∧ (∀ j, j < i → st' j = st j) ∧ fX12_restore_L59 kp im x1 f sg B st (nI (100 * n)) (nI i) = some (1, im (100 * n + 98), B, st') := by
  intro m
  induction m with
  | zero =>
    intro i hi f hf st
    obtain ⟨f, rfl⟩ : ∃ q, f = q + 1 := ⟨f - 1, by omega⟩
    have : i = 40 := by omega
    subst this
    refine ⟨st, fun k h1 h2 => absurd h1 (by omega), fun j _ => rfl, ?_⟩
    rw [fX12_restore_L59, if_pos (by decide)]
    simp (disch := omega) only [a_lit, inb_t, toN_t, gd_T]
  | succ m ih =>
    intro i hi f hf st
    obtain ⟨f, rfl⟩ : ∃ q, f = q + 1 := ⟨f - 1, by omega⟩
    rw [fX12_restore_L59, if_neg (show ¬ (40 : Int32) ≤ nI i from nI_ge (a := i) (b := 40) (by omega) (by omega))]
    simp (disch := omega) only [a_lit, nI_add, inb_t, toN_t, gd_T, nI_1]
    obtain ⟨st', g1, g2, g3⟩ := ih (i + 1) (by omega) f (by omega) (upd st i (im (100 * n + 56 + i)))
    refine ⟨st', fun k h1 h2 => ?_, fun j hj => ?_, g3⟩
    · by_cases q : k = i
      · subst q; rw [g2 _ (by omega), upd_eq rfl]
      · exact g1 k (by omega) h2
    · rw [g2 j (by omega), upd_ne (by omega)]
theorem r_restore {sg : Int32} {B st im kp : Nat → Int32} {n : Nat} (hn : n < 2) (hk : ¬ kp n = 0) : ∃ B' st' : Nat → Int32, (∀ k, k < 56 → B' k = im (100 * n + k)) ∧ (∀ k, k < 40 → st' k = im (100 * n + 56 + k)) ∧ fX12_restore sg kp im B st (nI n) = some (1, im (100 * n + 98), B', st') := by
  obtain ⟨B', a1, -, a3⟩ := r_re1 (kp := kp) (im := im) (sg := sg) (x1 := nI n) (st := st) hn 56 0 (by omega) zF (by unfold zF; omega) B
  obtain ⟨st', b1, -, b3⟩ := r_re2 (kp := kp) (im := im) (B := B') (sg := sg) (x1 := nI n) hn 40 0 (by omega) zF (by unfold zF; omega) st
  refine ⟨B', st', fun k hk => a1 k (by omega) hk, fun k hk => b1 k (by omega) hk, ?_⟩
  unfold fX12_restore
  have hr : 0 ≤ nI n ∧ nI n ≤ 1 := rng_of (c := 1) (by decide) (by show n ≤ 1; omega)
  have a3' : fX12_restore_L31 kp im (nI n) zF sg B st (nI (100 * n)) 0 = _ := a3
  have b3' : fX12_restore_L59 kp im (nI n) zF sg B' st (nI (100 * n)) 0 = _ := b3
  simp only [f_in, bsome, bI0, hr, not_true_eq_false, and_self, if_false, l_mul]
  simp (disch := omega) only [inb_t, toN_t, gd_T]
  rw [if_neg hk, a3', b3']
/-- what an image of the class holds, against the slice of the reference's array -/
def IS (ce ho ow hd li go lk : Nat → Int32) (wc wy wf hr dy cn : Int32) (ft : Int64) (im : Nat → Int32) (n : Nat) : Prop := TR ce ho ow hd li go lk wc wy wf hr dy (fun k => im (100 * n + k)) ∧ BI (fun k => im (100 * n + k)) ∧ SG cn ft (im (100 * n + 98)) (fun k => im (100 * n + 56 + k))
theorem IS_co {ce ho ow hd li go lk : Nat → Int32} {wc wy wf hr dy cn : Int32} {ft : Int64} {im im' : Nat → Int32} {n : Nat} (e : ∀ j, 100 * n ≤ j → j < 100 * n + 100 → im' j = im j) (h : IS ce ho ow hd li go lk wc wy wf hr dy cn ft im n) : IS ce ho ow hd li go lk wc wy wf hr dy cn ft im' n := by
  obtain ⟨h1, h2, h3⟩ := h
  refine ⟨TR_co (fun i hi => e _ (by omega) (by omega)) h1, BI_co (fun i hi => e _ (by omega) (by omega)) h2, ?_⟩
  rw [e _ (by omega) (by omega)]
  exact SG_co (fun k hk => e _ (by omega) (by omega)) h3
theorem X1_some : fX1_init.isSome = true := by decide +kernel
theorem out_image {x1 : Int32} (hx : ¬ (0 ≤ x1 ∧ x1 ≤ 1)) {sg : Int32} {B im sight kp : Nat → Int32} : fX12_image sg B im sight kp x1 = some (-2, im, kp) := by
  unfold fX12_image
  simp only [f_in, bsome, bI0, hx, not_false_eq_true, if_true]
theorem out_restore {x1 : Int32} (hx : ¬ (0 ≤ x1 ∧ x1 ≤ 1)) {sg : Int32} {B im st kp : Nat → Int32} : fX12_restore sg kp im B st x1 = some (-2, sg, B, st) := by
  unfold fX12_restore
  simp only [f_in, bsome, bI0, hx, not_false_eq_true, if_true]
theorem no_restore {n : Nat} (hn : n < 2) {sg : Int32} {B im st kp : Nat → Int32} (hk : kp n = 0) : fX12_restore sg kp im B st (nI n) = some (-3, sg, B, st) := by
  unfold fX12_restore
  have hr : 0 ≤ nI n ∧ nI n ≤ 1 := rng_of (c := 1) (by decide) (by show n ≤ 1; omega)
  simp only [f_in, bsome, bI0, hr, not_true_eq_false, and_self, if_false]
  simp (disch := omega) only [inb_t, toN_t, gd_T]
  rw [if_pos hk]
