theorem c_some (ce ho ow hd li go lk ce9 ho9 ow9 hd9 li9 go9 lk9 : Nat → Int32) (wc wy wf hr dy wc9 wy9 wf9 hr9 dy9 cn cn9 b9 m9 : Int32) (ft ft9 : Int64) {n : Nat} (hn : n < 2) :
    fX11_image_some hr dy wc wy wf ce ho ow hd li go lk cn ft hr9 dy9 wc9 wy9 wf9 ce9 ho9 ow9 hd9 li9 go9 lk9 cn9 ft9 b9 m9 (nI n) = some (1, hr, dy, wc, wy, wf, va_cpy ce ce9 0 0 6, va_cpy ho ho9 0 0 6, va_cpy ow ow9 0 0 6, va_cpy hd hd9 0 0 6, va_cpy li li9 0 0 6, va_cpy go go9 0 0 18, va_cpy lk lk9 0 0 3, cn, ft, b9, m9) := by
  unfold fX11_image_some
  have h : 0 ≤ nI n ∧ nI n ≤ 1 := rng_of (c := 1) (by decide) (by show n ≤ 1; omega)
  simp only [f_within, bsome, bI0, h, not_true_eq_false, and_self, if_false]
  simp (disch := omega) only [inb_t, gd_T]
  unfold fX8_become fX10_become fX10_put fX7_become
  simp only [bsome]
theorem c_none (ce ho ow hd li go lk : Nat → Int32) (wc wy wf hr dy cn : Int32) (ft : Int64) {n : Nat} (hn : n < 2) :
    ∃ (ce9 ho9 ow9 hd9 li9 go9 lk9 ta : Nat → Int32) (b9 m9 : Int32), fX11_image_none hr dy wc wy wf ce ho ow hd li go lk cn ft (nI n) = some (1, hr, dy, wc, wy, wf, va_cpy ce ce9 0 0 6, va_cpy ho ho9 0 0 6, va_cpy ow ow9 0 0 6, va_cpy hd hd9 0 0 6, va_cpy li li9 0 0 6, va_cpy go go9 0 0 18, va_cpy lk lk9 0 0 3, cn, ft, b9, m9, ta) := by
  have hs := X1_some
  unfold fX11_image_none
  have h : 0 ≤ nI n ∧ nI n ≤ 1 := rng_of (c := 1) (by decide) (by show n ≤ 1; omega)
  cases hk : fX1_init with
  | none => rw [hk] at hs; exact absurd hs (by simp)
  | some R =>
    simp only [f_within, bsome, bI0, h, not_true_eq_false, and_self, if_false]
    simp (disch := omega) only [inb_t, gd_T]
    unfold fX8_become fX10_become fX10_put fX7_become
    simp only [bsome]
    exact ⟨_, _, _, _, _, _, _, _, _, _, rfl⟩
theorem c_rest (ce ho ow hd li go lk ce9 ho9 ow9 hd9 li9 go9 lk9 : Nat → Int32) (wc wy wf hr dy wc9 wy9 wf9 hr9 dy9 cn cn9 b0 m0 : Int32) (ft ft9 : Int64) {n : Nat} (hn : n < 2) :
    fX11_restore_some hr dy wc wy wf ce ho ow hd li go lk cn ft b0 m0 hr9 dy9 wc9 wy9 wf9 ce9 ho9 ow9 hd9 li9 go9 lk9 cn9 ft9 (nI n) = some (1, hr9, dy9, wc9, wy9, wf9, va_cpy ce9 ce 0 0 6, va_cpy ho9 ho 0 0 6, va_cpy ow9 ow 0 0 6, va_cpy hd9 hd 0 0 6, va_cpy li9 li 0 0 6, va_cpy go9 go 0 0 18, va_cpy lk9 lk 0 0 3, cn9, ft9, b0, m0) := by
  unfold fX11_restore_some
  have h : 0 ≤ nI n ∧ nI n ≤ 1 := rng_of (c := 1) (by decide) (by show n ≤ 1; omega)
  simp only [f_within, bsome, bI0, h, not_true_eq_false, and_self, if_false]
  simp (disch := omega) only [inb_t, gd_T]
  unfold fX8_become fX10_become fX10_put fX7_become
  simp only [bsome]
theorem c_out_some {x1 : Int32} (hx : ¬ (0 ≤ x1 ∧ x1 ≤ 1)) (ce ho ow hd li go lk ce9 ho9 ow9 hd9 li9 go9 lk9 : Nat → Int32) (wc wy wf hr dy wc9 wy9 wf9 hr9 dy9 cn cn9 b9 m9 : Int32) (ft ft9 : Int64) :
    fX11_image_some hr dy wc wy wf ce ho ow hd li go lk cn ft hr9 dy9 wc9 wy9 wf9 ce9 ho9 ow9 hd9 li9 go9 lk9 cn9 ft9 b9 m9 x1 = some (-2, hr9, dy9, wc9, wy9, wf9, ce9, ho9, ow9, hd9, li9, go9, lk9, cn9, ft9, b9, m9) := by
  unfold fX11_image_some
  simp only [f_within, bsome, bI0, hx, not_false_eq_true, if_true]
theorem c_out_none {x1 : Int32} (hx : ¬ (0 ≤ x1 ∧ x1 ≤ 1)) (ce ho ow hd li go lk : Nat → Int32) (wc wy wf hr dy cn : Int32) (ft : Int64) :
    ∃ R, fX11_image_none hr dy wc wy wf ce ho ow hd li go lk cn ft x1 = some ((-2 : Int32), R) := by
  unfold fX11_image_none
  simp only [f_within, bsome, bI0, hx, not_false_eq_true, if_true]
  exact ⟨_, rfl⟩
theorem c_out_rest {x1 : Int32} (hx : ¬ (0 ≤ x1 ∧ x1 ≤ 1)) (ce ho ow hd li go lk ce9 ho9 ow9 hd9 li9 go9 lk9 : Nat → Int32) (wc wy wf hr dy wc9 wy9 wf9 hr9 dy9 cn cn9 b0 m0 : Int32) (ft ft9 : Int64) :
    fX11_restore_some hr dy wc wy wf ce ho ow hd li go lk cn ft b0 m0 hr9 dy9 wc9 wy9 wf9 ce9 ho9 ow9 hd9 li9 go9 lk9 cn9 ft9 x1 = some (-2, hr, dy, wc, wy, wf, ce, ho, ow, hd, li, go, lk, cn, ft, b0, m0) := by
  unfold fX11_restore_some
  simp only [f_within, bsome, bI0, hx, not_false_eq_true, if_true]
theorem c_rest_none (x1 : Int32) : fX11_restore_none x1 = some (if 0 ≤ x1 ∧ x1 ≤ 1 then -3 else -2) := by
  unfold fX11_restore_none
  simp only [f_within, bsome, bI0]
  by_cases h : 0 ≤ x1 ∧ x1 ≤ 1
  · obtain ⟨n, hn, e⟩ := rng (by decide) h
    rw [if_neg (fun z => z h), if_pos h, e, inb_t (by omega), gd_T]
  · rw [if_pos h, if_neg h]
/-- image keeps the state -/
theorem IS_new {ce ho ow hd li go lk : Nat → Int32} {wc wy wf hr dy cn sg : Int32} {ft : Int64} {B im im' sight : Nat → Int32} {n : Nat} (hT : TR ce ho ow hd li go lk wc wy wf hr dy B) (hB : BI B) (hS : SG cn ft sg sight) (h1 : ∀ k, k < 56 → im' (100 * n + k) = B k) (h2 : ∀ k, k < 40 → im' (100 * n + 56 + k) = sight k) (h3 : im' (100 * n + 98) = sg) (ce9 ho9 ow9 hd9 li9 go9 lk9 : Nat → Int32) :
    IS (va_cpy ce ce9 0 0 6) (va_cpy ho ho9 0 0 6) (va_cpy ow ow9 0 0 6) (va_cpy hd hd9 0 0 6) (va_cpy li li9 0 0 6) (va_cpy go go9 0 0 18) (va_cpy lk lk9 0 0 3) wc wy wf hr dy cn ft im' n := by
  refine ⟨TR_co (fun i hi => h1 i hi) (TR_cpy hT), BI_co (fun i hi => h1 i hi) hB, ?_⟩
  rw [h3]
  exact SG_co (fun k hk => h2 k hk) hS
/-- restore brings it back -/
theorem IS_back {ce9 ho9 ow9 hd9 li9 go9 lk9 : Nat → Int32} {wc9 wy9 wf9 hr9 dy9 cn9 : Int32} {ft9 : Int64} {im B' st' : Nat → Int32} {n : Nat} (h : IS ce9 ho9 ow9 hd9 li9 go9 lk9 wc9 wy9 wf9 hr9 dy9 cn9 ft9 im n) (h1 : ∀ k, k < 56 → B' k = im (100 * n + k)) (h2 : ∀ k, k < 40 → st' k = im (100 * n + 56 + k)) (ce ho ow hd li go lk : Nat → Int32) :
    TR (va_cpy ce9 ce 0 0 6) (va_cpy ho9 ho 0 0 6) (va_cpy ow9 ow 0 0 6) (va_cpy hd9 hd 0 0 6) (va_cpy li9 li 0 0 6) (va_cpy go9 go 0 0 18) (va_cpy lk9 lk 0 0 3) wc9 wy9 wf9 hr9 dy9 B' ∧ BI B' ∧ SG cn9 ft9 (im (100 * n + 98)) st' :=
  ⟨TR_co (fun i hi => h1 i hi) (TR_cpy h.1), BI_co (fun i hi => h1 i hi) h.2.1, SG_co (fun k hk => h2 k hk) h.2.2⟩
