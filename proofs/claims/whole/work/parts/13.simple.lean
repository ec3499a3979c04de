/-! the simple calls: walker, purse, likes, wind, say, wipe -/
theorem BH_free {N : Nat → Int32} {w : Nat} {x : Int32} (h : BH N) (hw : w < 6) (h1 : N (18 + w) = -6) (h2 : ∀ i, i < 6 → N (18 + i) ≠ nI w) : BH (upd N w x) := by
  intro i a hi ha e
  rw [upd_ne (by omega)] at e
  obtain ⟨e1, e2, e3⟩ := h i a hi ha e
  have n1 : i ≠ w := fun q => by rw [q, h1] at e; exact n6_nI (by omega) e
  have n2 : a ≠ w := fun q => by rw [q] at e; exact h2 i hi e
  refine ⟨by rw [upd_ne n2, upd_ne n1]; exact e1, by rw [upd_ne (by omega)]; exact e2, fun j hj ej => ?_⟩
  rw [upd_ne (by omega)] at ej
  exact e3 j hj ej
def clr (f : Nat → Int32) (v : Int32) (i : Nat) : Nat → Int32 := fun j => if j < i ∧ f j = v then -6 else f j
theorem clr_s (f : Nat → Int32) (v : Int32) (i : Nat) : (if f i = v then upd (clr f v i) i (-6) else clr f v i) = clr f v (i + 1) := by
  funext j
  by_cases h : f i = v
  · rw [if_pos h, upd_ap]
    unfold clr
    by_cases hj : j = i
    · subst hj; simp [h]
    · rw [if_neg hj]
      have : (j < i + 1 ∧ f j = v) ↔ (j < i ∧ f j = v) := by
        constructor <;> (rintro ⟨a, b⟩; exact ⟨by omega, b⟩)
      simp only [this]
  · rw [if_neg h]
    unfold clr
    by_cases hj : j = i
    · subst hj; simp [h]
    · have : (j < i + 1 ∧ f j = v) ↔ (j < i ∧ f j = v) := by
        constructor <;> (rintro ⟨a, b⟩; exact ⟨by omega, b⟩)
      simp only [this]
theorem clr_at (f : Nat → Int32) (v : Int32) (i : Nat) : clr f v i i = f i := by unfold clr; simp
theorem f_place (ce ho ow li hd : Nat → Int32) {w : Nat} (hw : w < 6) (x2 x3 x4 : Int32) : fX8_place ce ho ow li hd (nI w) x2 x3 x4 = some (upd ce w x2, upd ho w x3, upd ow w x4, upd li w (-6), clr (upd hd w (-6)) (nI w) 6) := by
  have L : ∀ (ce ho ow li f : Nat → Int32) n i, i ≤ 6 → 6 - i < n → fX8_place_L41 (nI w) x2 x3 x4 n ce ho ow li (clr f (nI w) i) (nI i) = some (ce, ho, ow, li, clr f (nI w) 6) := by
    intro ce ho ow li f n
    induction n with
    | zero => intro i _ h2; omega
    | succ n ih =>
      intro i hi hn
      rw [fX8_place_L41]
      by_cases h6 : i = 6
      · subst h6; rfl
      · have e := ih (i + 1) (by omega) (by omega)
        rw [← clr_s] at e
        simp (disch := omega) only [lit_nI_le, inb_t, toN_t, gd_T, a_lit, fX8_place_b68, clr_at]
        rw [if_neg (by omega)]
        by_cases q : f i = nI w
        · rw [if_pos q] at e ⊢
          exact e
        · rw [if_neg q] at e ⊢
          exact e
  unfold fX8_place
  have hz : 6 < zF := by decide
  generalize zF = z at hz ⊢
  simp (disch := omega) only [inb_t, toN_t, gd_T]
  have := L (upd ce w x2) (upd ho w x3) (upd ow w x4) (upd li w (-6)) (upd hd w (-6)) z 0 (by omega) (by omega)
  have e : clr (upd hd w (-6)) (nI w) 0 = upd hd w (-6) := by funext j; unfold clr; simp
  rw [e] at this
  exact this
def clrM (b : Nat → Int32) (w : Nat) (i : Nat) : Nat → Int32 := fun j => if 18 ≤ j ∧ j < 18 + i ∧ (j = 18 + w ∨ b j = nI w) then -6 else b j
theorem clrM_s (b : Nat → Int32) (w i : Nat) : upd (clrM b w i) (18 + i) (if i = w ∨ b (18 + i) = nI w then -6 else b (18 + i)) = clrM b w (i + 1) := by
  funext j
  rw [upd_ap]
  unfold clrM
  by_cases hj : j = 18 + i
  · subst hj
    rw [if_pos rfl]
    have : (18 ≤ 18 + i ∧ 18 + i < 18 + (i + 1) ∧ (18 + i = 18 + w ∨ b (18 + i) = nI w)) ↔ (i = w ∨ b (18 + i) = nI w) := by
      constructor
      · rintro ⟨_, _, h | h⟩
        · exact Or.inl (by omega)
        · exact Or.inr h
      · rintro (h | h)
        · exact ⟨by omega, by omega, Or.inl (by omega)⟩
        · exact ⟨by omega, by omega, Or.inr h⟩
    simp only [this]
  · rw [if_neg hj]
    have : (18 ≤ j ∧ j < 18 + (i + 1) ∧ (j = 18 + w ∨ b j = nI w)) ↔ (18 ≤ j ∧ j < 18 + i ∧ (j = 18 + w ∨ b j = nI w)) := by
      constructor <;> (rintro ⟨a, c, d⟩; exact ⟨a, by omega, d⟩)
    simp only [this]
theorem clrM_at (b : Nat → Int32) (w i : Nat) : clrM b w i (18 + i) = b (18 + i) := by unfold clrM; rw [if_neg (by omega)]
theorem f_walkerL (b : Nat → Int32) {w : Nat} (hw : w < 6) (x2 x3 x4 r : Int32) : fX12_walker_L94 (nI w) x2 x3 x4 zF b r 0 = some (r, upd (clrM b w 6) (24 + w) (-6)) := by
  have L : ∀ n i, i ≤ 6 → 6 - i < n → fX12_walker_L94 (nI w) x2 x3 x4 n (clrM b w i) r (nI i) = some (r, upd (clrM b w 6) (24 + w) (-6)) := by
    intro n
    induction n with
    | zero => intro i _ h2; omega
    | succ n ih =>
      intro i hi hn
      rw [fX12_walker_L94]
      by_cases h6 : i = 6
      · subst h6
        simp (disch := omega) only [lit_nI_le, l_add, inb_t, toN_t, gd_T]
        rfl
      · have e := ih (i + 1) (by omega) (by omega)
        rw [← clrM_s] at e
        simp (disch := omega) only [lit_nI_le, l_add, inb_t, toN_t, gd_T, a_lit, fX12_walker_b130, fX12_walker_b145, clrM_at, nI_inj]
        rw [if_neg (by omega)]
        by_cases q1 : i = w
        · rw [if_pos q1]
          rw [if_pos (Or.inl q1)] at e
          exact e
        · rw [if_neg q1]
          by_cases q2 : b (18 + i) = nI w
          · rw [if_pos q2]
            rw [if_pos (Or.inr q2)] at e
            exact e
          · rw [if_neg q2]
            rw [if_neg (fun h => h.elim q1 q2)] at e
            exact e
  have e : clrM b w 0 = b := by funext j; unfold clrM; rw [if_neg (by omega)]
  have := L zF 0 (by omega) (by decide)
  rw [e] at this
  exact this
theorem BI_clr {N : Nat → Int32} {w : Nat} (hw : w < 6) (h : BI N) : BI (clrM N w 6) ∧ clrM N w 6 (18 + w) = -6 ∧ ∀ i, i < 6 → clrM N w 6 (18 + i) ≠ nI w := by
  have o : ∀ j, (j < 18 ∨ 24 ≤ j) → clrM N w 6 j = N j := fun j hj => by unfold clrM; rw [if_neg (by omega)]
  have hd : ∀ i, i < 6 → clrM N w 6 (18 + i) = if i = w ∨ N (18 + i) = nI w then -6 else N (18 + i) := fun i hi => by
    unfold clrM
    have : (18 ≤ 18 + i ∧ 18 + i < 18 + 6 ∧ (18 + i = 18 + w ∨ N (18 + i) = nI w)) ↔ (i = w ∨ N (18 + i) = nI w) := by
      constructor
      · rintro ⟨_, _, h | h⟩
        · exact Or.inl (by omega)
        · exact Or.inr h
      · rintro (h | h)
        · exact ⟨by omega, by omega, Or.inl (by omega)⟩
        · exact ⟨by omega, by omega, Or.inr h⟩
    simp only [this]
  obtain ⟨b1, b2, b3, b4, b5, b6, b7, b8, b9, b10, b11, b12, b13⟩ := h
  refine ⟨⟨fun i hi => by rw [o _ (by omega)]; exact b1 i hi, fun i hi => by rw [o _ (by omega)]; exact b2 i hi, fun i hi => by rw [o _ (by omega)]; exact b3 i hi, fun i hi => ?_, fun i hi => by rw [o _ (by omega)]; exact b5 i hi, fun i hi => by rw [o _ (by omega)]; exact b6 i hi, by rw [o _ (by omega)]; exact b7, by rw [o _ (by omega)]; exact b8, by rw [o _ (by omega)]; exact b9, by rw [o _ (by omega)]; exact b10, by rw [o _ (by omega)]; exact b11, fun i hi => by rw [o _ (by omega)]; exact b12 i hi, ?_⟩, ?_, ?_⟩
  · rw [hd i hi]
    by_cases q : i = w ∨ N (18 + i) = nI w
    · rw [if_pos q]; exact Or.inl rfl
    · rw [if_neg q]; exact b4 i hi
  · intro i a hi ha e
    rw [hd i hi] at e
    by_cases q : i = w ∨ N (18 + i) = nI w
    · rw [if_pos q] at e; exact absurd e (n6_nI (by omega))
    · rw [if_neg q] at e
      obtain ⟨e1, e2, e3⟩ := b13 i a hi ha e
      refine ⟨by rw [o _ (by omega), o _ (by omega)]; exact e1, ?_, fun j hj ej => ?_⟩
      · rw [hd a ha]
        by_cases q2 : a = w ∨ N (18 + a) = nI w
        · rw [if_pos q2]
        · rw [if_neg q2]; exact e2
      · rw [hd j hj] at ej
        by_cases q2 : j = w ∨ N (18 + j) = nI w
        · rw [if_pos q2] at ej; exact absurd ej (n6_nI (by omega))
        · rw [if_neg q2] at ej; exact e3 j hj ej
  · rw [hd w hw, if_pos (Or.inl rfl)]
  · intro i hi
    rw [hd i hi]
    by_cases q : i = w ∨ N (18 + i) = nI w
    · rw [if_pos q]; exact n6_nI (by omega)
    · rw [if_neg q]; exact fun e => q (Or.inr e)
theorem op_walker {ce ho ow hd li go lk : Nat → Int32} {wc wy wf hr dy : Int32} {B : Nat → Int32} (hT : TR ce ho ow hd li go lk wc wy wf hr dy B) (hB : BI B) (x1 x2 x3 x4 : Int32) :
    ∃ (r : Int32) (ce' ow' ho' li' hd' B' : Nat → Int32), fX11_walker ce ow ho li hd x1 x2 x3 x4 = some (r, ce', ow', ho', li', hd') ∧ fX12_walker B x1 x2 x3 x4 = some (r, B') ∧ TR ce' ho' ow' hd' li' go lk wc wy wf hr dy B' ∧ BI B' := by
  unfold fX11_walker fX12_walker fX11_walker_b14 fX11_walker_b38 fX12_walker_b14 fX12_walker_b38
  simp only [f_isWalker, f_isWalkerM, f_isCell, f_isCellM, f_within, f_in, bsome, bI0]
  by_cases h1 : 0 ≤ x1 ∧ x1 ≤ 5
  · by_cases h2 : 0 ≤ x2 ∧ x2 ≤ 11
    · by_cases h3 : 0 ≤ x3 ∧ x3 ≤ 255
      · by_cases h4 : 0 ≤ x4 ∧ x4 ≤ 9
        · simp only [h1, h2, h3, h4, not_true_eq_false, and_self, if_false]
          obtain ⟨w, hw, rfl⟩ := rng (by decide) h1
          obtain ⟨a2, ha2, rfl⟩ := rng (by decide) h2
          obtain ⟨a3, ha3, rfl⟩ := rng (by decide) h3
          obtain ⟨a4, ha4, rfl⟩ := rng (by decide) h4
          have hw6 : w < 6 := by omega
          simp (disch := omega) only [l_add, inb_t, toN_t, gd_T, f_place, f_walkerL, bsome]
          obtain ⟨t1, t2, t3, t4, t5, t6, t7, t8, t9, t10, t11, t12⟩ := hT
          rw [t1 w hw6, t3 w hw6]
          refine ⟨_, _, _, _, _, _, _, rfl, rfl, ?_, ?_⟩
          · have z : ∀ j, upd (clrM (upd (upd (upd B w (nI a2)) (6 + w) (nI a3)) (12 + w) (nI a4)) w 6) (24 + w) (-6) j = if j = 24 + w then -6 else if 18 ≤ j ∧ j < 24 ∧ (j = 18 + w ∨ B j = nI w) then -6 else if j = 12 + w then nI a4 else if j = 6 + w then nI a3 else if j = w then nI a2 else B j := by
              intro j
              rw [upd_ap]
              by_cases q : j = 24 + w
              · rw [if_pos q, if_pos q]
              · rw [if_neg q, if_neg q]
                unfold clrM
                by_cases q2 : 18 ≤ j ∧ j < 24
                · have e : upd (upd (upd B w (nI a2)) (6 + w) (nI a3)) (12 + w) (nI a4) j = B j := by rw [upd_ne (by omega), upd_ne (by omega), upd_ne (by omega)]
                  rw [e]
                  have e2 : (18 ≤ j ∧ j < 18 + 6 ∧ (j = 18 + w ∨ B j = nI w)) ↔ (18 ≤ j ∧ j < 24 ∧ (j = 18 + w ∨ B j = nI w)) := Iff.rfl
                  by_cases q3 : 18 ≤ j ∧ j < 24 ∧ (j = 18 + w ∨ B j = nI w)
                  · rw [if_pos q3, if_pos q3]
                  · rw [if_neg q3, if_neg q3, if_neg (by omega), if_neg (by omega), if_neg (by omega)]
                · rw [if_neg (fun e => q2 ⟨e.1, e.2.1⟩), if_neg (fun e => q2 ⟨e.1, e.2.1⟩), upd_ap, upd_ap, upd_ap]
            refine ⟨fun i hi => ?_, fun i hi => ?_, fun i hi => ?_, fun i hi => ?_, fun i hi => ?_, fun i k hi hk => ?_, fun k hk => ?_, ?_, ?_, ?_, ?_, ?_⟩
            · rw [z, if_neg (by omega), if_neg (by omega), if_neg (by omega), if_neg (by omega), upd_ap]
              by_cases q : i = w
              · rw [if_pos q, if_pos q]
              · rw [if_neg q, if_neg q]; exact t1 i hi
            · rw [z, if_neg (by omega), if_neg (by omega), if_neg (by omega), upd_ap]
              by_cases q : i = w
              · rw [if_pos q, if_pos (by omega)]
              · rw [if_neg q, if_neg (by omega), if_neg (by omega)]; exact t2 i hi
            · rw [z, if_neg (by omega), if_neg (by omega), upd_ap]
              by_cases q : i = w
              · rw [if_pos q, if_pos (by omega)]
              · rw [if_neg q, if_neg (by omega), if_neg (by omega), if_neg (by omega)]; exact t3 i hi
            · rw [z, if_neg (by omega)]
              unfold clr
              rw [upd_ap]
              by_cases q : i = w
              · rw [if_pos q, if_neg (by rintro ⟨_, e⟩; exact n6_nI (by omega) e), if_pos ⟨by omega, by omega, Or.inl (by omega)⟩]
              · rw [if_neg q, t4 i hi]
                by_cases q2 : B (18 + i) = nI w
                · rw [if_pos ⟨hi, q2⟩, if_pos ⟨by omega, by omega, Or.inr q2⟩]
                · rw [if_neg (fun e => q2 e.2), if_neg (fun e => e.2.2.elim (fun z => q (by omega)) q2), if_neg (by omega), if_neg (by omega), if_neg (by omega)]
            · rw [z, upd_ap]
              by_cases q : i = w
              · rw [if_pos q, if_pos (by omega)]
              · rw [if_neg q, if_neg (by omega), if_neg (by omega), if_neg (by omega), if_neg (by omega), if_neg (by omega)]; exact t5 i hi
            · rw [z, if_neg (by omega), if_neg (by omega), if_neg (by omega), if_neg (by omega), if_neg (by omega)]; exact t6 i k hi hk
            · rw [z, if_neg (by omega), if_neg (by omega), if_neg (by omega), if_neg (by omega), if_neg (by omega)]; exact t7 k hk
            · rw [z, if_neg (by omega), if_neg (by omega), if_neg (by omega), if_neg (by omega), if_neg (by omega)]; exact t8
            · rw [z, if_neg (by omega), if_neg (by omega), if_neg (by omega), if_neg (by omega), if_neg (by omega)]; exact t9
            · rw [z, if_neg (by omega), if_neg (by omega), if_neg (by omega), if_neg (by omega), if_neg (by omega)]; exact t10
            · rw [z, if_neg (by omega), if_neg (by omega), if_neg (by omega), if_neg (by omega), if_neg (by omega)]; exact t11
            · rw [z, if_neg (by omega), if_neg (by omega), if_neg (by omega), if_neg (by omega), if_neg (by omega)]; exact t12
          · obtain ⟨c1, c2, c3⟩ := BI_clr hw6 hB
            have g1 : BI (upd (clrM B w 6) w (nI a2)) := BI_ce hw6 ⟨a2, by omega, rfl⟩ c1 (BH_free c1.2.2.2.2.2.2.2.2.2.2.2.2 hw6 c2 c3)
            have g2 := BI_ho hw6 (x := nI a3) ⟨a3, by omega, rfl⟩ g1
            have g3 := BI_ow hw6 (x := nI a4) ⟨a4, by omega, rfl⟩ g2
            have g4 := BI_li hw6 (x := -6) (Or.inl rfl) g3
            refine BI_co (fun j _ => ?_) g4
            by_cases q : j = 24 + w
            · rw [upd_eq q, upd_eq q]
            · rw [upd_ne q, upd_ne q]
              by_cases q2 : 18 ≤ j ∧ j < 24
              · unfold clrM
                rw [upd_ne (by omega), upd_ne (by omega), upd_ne (by omega), upd_ne (by omega), upd_ne (by omega), upd_ne (by omega)]
              · have e2 : clrM B w 6 j = B j := by unfold clrM; exact if_neg (fun e => q2 ⟨e.1, e.2.1⟩)
                have e1 : clrM (upd (upd (upd B w (nI a2)) (6 + w) (nI a3)) (12 + w) (nI a4)) w 6 j = upd (upd (upd B w (nI a2)) (6 + w) (nI a3)) (12 + w) (nI a4) j := by unfold clrM; exact if_neg (fun e => q2 ⟨e.1, e.2.1⟩)
                rw [e1]
                simp only [upd_ap, e2]
        · simp only [h1, h2, h3, h4, not_true_eq_false, and_self, if_false, not_false_eq_true, if_true]
          exact ⟨_, _, _, _, _, _, _, rfl, rfl, hT, hB⟩
      · simp only [h1, h2, h3, not_true_eq_false, and_self, if_false, not_false_eq_true, if_true]
        exact ⟨_, _, _, _, _, _, _, rfl, rfl, hT, hB⟩
    · simp only [h1, h2, not_true_eq_false, and_self, if_false, not_false_eq_true, if_true]
      exact ⟨_, _, _, _, _, _, _, rfl, rfl, hT, hB⟩
  · simp only [h1, not_false_eq_true, if_true]
    exact ⟨_, _, _, _, _, _, _, rfl, rfl, hT, hB⟩
theorem op_purse {ce ho ow hd li go lk : Nat → Int32} {wc wy wf hr dy : Int32} {B : Nat → Int32} (hT : TR ce ho ow hd li go lk wc wy wf hr dy B) (hB : BI B) (x1 x2 x3 x4 : Int32) :
    ∃ (r : Int32) (go' B' : Nat → Int32), fX11_purse go x1 x2 x3 x4 = some (r, go') ∧ fX12_purse B x1 x2 x3 x4 = some (r, B') ∧ TR ce ho ow hd li go' lk wc wy wf hr dy B' ∧ BI B' := by
  unfold fX11_purse fX12_purse fX12_purse_b40
  simp only [f_isWalker, f_isWalkerM, f_allWithin, f_in, bsome, bI0]
  by_cases h1 : 0 ≤ x1 ∧ x1 ≤ 5
  · by_cases h2 : 0 ≤ x2 ∧ x2 ≤ 9
    · by_cases h3 : 0 ≤ x3 ∧ x3 ≤ 9
      · by_cases h4 : 0 ≤ x4 ∧ x4 ≤ 9
        · simp only [h1, h2, h3, h4, not_true_eq_false, and_self, if_false]
          obtain ⟨j, hj, rfl⟩ := rng (by decide) h1
          obtain ⟨a2, ha2, rfl⟩ := rng (by decide) h2
          obtain ⟨a3, ha3, rfl⟩ := rng (by decide) h3
          obtain ⟨a4, ha4, rfl⟩ := rng (by decide) h4
          simp (disch := omega) only [fX8_purseOf, fX8_goodsOf, fX8_fillPurse, f_code, l_add, a_lit, m_lit, inb_t, toN_t, gd_T, bsome]
          have t6 := hT.2.2.2.2.2.1
          have e0 : go (j * 3 + 0) = B (30 + j) := t6 j 0 (by omega) (by omega)
          have e1 : go (j * 3 + 1) = B (36 + j) := t6 j 1 (by omega) (by omega)
          have e2 : go (j * 3 + 2) = B (42 + j) := t6 j 2 (by omega) (by omega)
          rw [e0, e1, e2]
          have g1 := TR_go (w := j) (q := 0) (x := nI a2) (by omega) (by omega) hT
          have g2 := TR_go (w := j) (q := 1) (x := nI a3) (by omega) (by omega) g1
          have g3 := TR_go (w := j) (q := 2) (x := nI a4) (by omega) (by omega) g2
          have k1 := BI_go (w := j) (x := nI a2) (by omega) ⟨a2, by omega, rfl⟩ hB
          have k2 := BI_go (w := 6 + j) (x := nI a3) (by omega) ⟨a3, by omega, rfl⟩ k1
          have k3 := BI_go (w := 12 + j) (x := nI a4) (by omega) ⟨a4, by omega, rfl⟩ k2
          rw [← Nat.add_assoc, ← Nat.add_assoc] at k3
          exact ⟨_, _, _, rfl, rfl, g3, k3⟩
        · simp only [h1, h2, h3, h4, not_true_eq_false, and_self, and_true, and_false, if_false, not_false_eq_true, if_true]
          exact ⟨_, _, _, rfl, rfl, hT, hB⟩
      · simp only [h1, h2, h3, not_true_eq_false, and_self, and_true, and_false, false_and, if_false, not_false_eq_true, if_true]
        exact ⟨_, _, _, rfl, rfl, hT, hB⟩
    · simp only [h1, h2, not_true_eq_false, and_self, and_true, and_false, false_and, if_false, not_false_eq_true, if_true]
      exact ⟨_, _, _, rfl, rfl, hT, hB⟩
  · simp only [h1, not_false_eq_true, if_true]
    exact ⟨_, _, _, rfl, rfl, hT, hB⟩
theorem op_likes {ce ho ow hd li go lk : Nat → Int32} {wc wy wf hr dy : Int32} {B : Nat → Int32} (hT : TR ce ho ow hd li go lk wc wy wf hr dy B) (hB : BI B) (x1 x2 x3 : Int32) :
    ∃ (r : Int32) (lk' B' : Nat → Int32), fX11_likes lk x1 x2 x3 = some (r, lk') ∧ fX12_likes B x1 x2 x3 = some (r, B') ∧ TR ce ho ow hd li go lk' wc wy wf hr dy B' ∧ BI B' := by
  unfold fX11_likes fX12_likes fX12_likes_b27
  simp only [f_allWithin, f_in, bsome, bI0]
  by_cases h2 : 0 ≤ x1 ∧ x1 ≤ 3
  · by_cases h3 : 0 ≤ x2 ∧ x2 ≤ 3
    · by_cases h4 : 0 ≤ x3 ∧ x3 ≤ 3
      · simp only [h2, h3, h4, not_true_eq_false, and_self, if_false]
        obtain ⟨a2, ha2, rfl⟩ := rng (by decide) h2
        obtain ⟨a3, ha3, rfl⟩ := rng (by decide) h3
        obtain ⟨a4, ha4, rfl⟩ := rng (by decide) h4
        simp (disch := omega) only [f_code, inb_lit, toN_lit, gd_T, bsome]
        have t7 := hT.2.2.2.2.2.2.1
        rw [t7 0 (by omega), t7 1 (by omega), t7 2 (by omega)]
        have g1 := TR_lk (q := 0) (x := nI a2) (by omega) hT
        have g2 := TR_lk (q := 1) (x := nI a3) (by omega) g1
        have g3 := TR_lk (q := 2) (x := nI a4) (by omega) g2
        have k1 := BI_lk (w := 0) (x := nI a2) (by omega) ⟨a2, by omega, rfl⟩ hB
        have k2 := BI_lk (w := 1) (x := nI a3) (by omega) ⟨a3, by omega, rfl⟩ k1
        have k3 := BI_lk (w := 2) (x := nI a4) (by omega) ⟨a4, by omega, rfl⟩ k2
        exact ⟨_, _, _, rfl, rfl, g3, k3⟩
      · simp only [h2, h3, h4, not_true_eq_false, and_self, and_true, and_false, if_false, not_false_eq_true, if_true]
        exact ⟨_, _, _, rfl, rfl, hT, hB⟩
    · simp only [h2, h3, not_true_eq_false, and_self, and_true, and_false, false_and, if_false, not_false_eq_true, if_true]
      exact ⟨_, _, _, rfl, rfl, hT, hB⟩
  · simp only [h2, not_true_eq_false, and_self, and_true, and_false, false_and, if_false, not_false_eq_true, if_true]
    exact ⟨_, _, _, rfl, rfl, hT, hB⟩
theorem rng1 {x : Int32} {c : Nat} (hc : (OfNat.ofNat c : Nat) < 2147483648) (h : (1 : Int32) ≤ x ∧ x ≤ (no_index (OfNat.ofNat c) : Int32)) : ∃ j : Nat, 1 ≤ j ∧ j ≤ (OfNat.ofNat c : Nat) ∧ x = nI j := by
  have h0 : (0 : Int32) ≤ x := by
    have := h.1
    rw [i_le] at this ⊢
    have e1 : (1 : Int32).toInt = 1 := by decide
    have e0 : (0 : Int32).toInt = 0 := by decide
    omega
  obtain ⟨j, hj, rfl⟩ := rng hc ⟨h0, h.2⟩
  refine ⟨j, ?_, hj, rfl⟩
  exact (nI_leI (a := 1) (by omega) (by omega)).mp h.1
theorem op_wind {ce ho ow hd li go lk : Nat → Int32} {wc wy wf hr dy : Int32} {B : Nat → Int32} (hT : TR ce ho ow hd li go lk wc wy wf hr dy B) (hB : BI B) (x1 x2 x3 : Int32) :
    ∃ (r wc' wy' wf' : Int32) (B' : Nat → Int32), fX11_wind wc wy wf x1 x2 x3 = some (r, wc', wy', wf') ∧ fX12_wind B x1 x2 x3 = some (r, B') ∧ TR ce ho ow hd li go lk wc' wy' wf' hr dy B' ∧ BI B' := by
  unfold fX11_wind fX12_wind fX11_wind_b28 fX12_wind_b28
  simp only [f_isCell, f_isCellM, f_within, f_in, bsome, bI0]
  by_cases h2 : 0 ≤ x1 ∧ x1 ≤ 11
  · by_cases h3 : 0 ≤ x2 ∧ x2 ≤ 1
    · by_cases h4 : 1 ≤ x3 ∧ x3 ≤ 9
      · simp only [h2, h3, h4, not_true_eq_false, and_self, if_false]
        obtain ⟨a2, ha2, rfl⟩ := rng (by decide) h2
        obtain ⟨a3, ha3, rfl⟩ := rng (by decide) h3
        obtain ⟨a4, ha5, ha4, rfl⟩ := rng1 (by decide) h4
        simp (disch := omega) only [f_code, fX10_put, inb_lit, toN_lit, gd_T, bsome]
        rw [hT.2.2.2.2.2.2.2.1, hT.2.2.2.2.2.2.2.2.1, hT.2.2.2.2.2.2.2.2.2.1]
        have g1 := TR_wc (x := nI a2) hT
        have g2 := TR_wy (x := nI a3) g1
        have g3 := TR_wf (x := nI a4) g2
        have k1 := BI_wc (x := nI a2) ⟨a2, by omega, rfl⟩ hB
        have k2 := BI_wy (x := nI a3) ⟨a3, by omega, rfl⟩ k1
        have k3 := BI_wf (x := nI a4) ⟨a4, by omega, by omega, rfl⟩ k2
        exact ⟨_, _, _, _, _, rfl, rfl, g3, k3⟩
      · simp only [h2, h3, h4, not_true_eq_false, and_self, and_true, and_false, if_false, not_false_eq_true, if_true]
        exact ⟨_, _, _, _, _, rfl, rfl, hT, hB⟩
    · simp only [h2, h3, not_true_eq_false, and_self, and_true, and_false, false_and, if_false, not_false_eq_true, if_true]
      exact ⟨_, _, _, _, _, rfl, rfl, hT, hB⟩
  · simp only [h2, not_true_eq_false, and_self, and_true, and_false, false_and, if_false, not_false_eq_true, if_true]
    exact ⟨_, _, _, _, _, rfl, rfl, hT, hB⟩
/-- the two pads -/
def PR (sz sg : Int32) (pc pm : Nat → Int32) : Prop := sz = sg ∧ ∃ s : Nat, s ≤ 60 ∧ sz = nI s ∧ ∀ i, i < s → pc i = pm i ∧ ∃ a, 33 ≤ a ∧ a ≤ 126 ∧ pm i = nI a
theorem rng33 {x : Int32} (h : (33 : Int32) ≤ x ∧ x ≤ 126) : ∃ j : Nat, 33 ≤ j ∧ j ≤ 126 ∧ x = nI j := by
  have h0 : (0 : Int32) ≤ x := by
    have := h.1
    rw [i_le] at this ⊢
    have e1 : (33 : Int32).toInt = 33 := by decide
    have e0 : (0 : Int32).toInt = 0 := by decide
    omega
  obtain ⟨j, hj, rfl⟩ := rng (c := 126) (by decide) ⟨h0, h.2⟩
  have hj2 : j ≤ 126 := hj
  exact ⟨j, (nI_leI (a := 33) (by omega) (by omega)).mp h.1, hj2, rfl⟩
theorem op_say {sz sg : Int32} {pc pm : Nat → Int32} (h : PR sz sg pc pm) (x1 : Int32) :
    ∃ (r sz' sg' : Int32) (pc' pm' : Nat → Int32), fX11_say sz pc x1 = some (r, sz', pc') ∧ fX12_say sg pm x1 = some (r, sg', pm') ∧ PR sz' sg' pc' pm' := by
  have h0 := h
  obtain ⟨rfl, s, hs, rfl, hp⟩ := h
  unfold fX11_say fX12_say fX3_write fX3_write_b29
  simp only [f_within, f_in, bsome, bI0]
  by_cases h1 : 33 ≤ x1 ∧ x1 ≤ 126
  · obtain ⟨a, a1, a2, rfl⟩ := rng33 h1
    simp (disch := omega) only [h1, not_true_eq_false, and_self, if_false, lit_nI_le, nI_lit_lt, nI_lit_eq]
    by_cases h2 : s < 60
    · rw [if_pos h2, if_neg (by omega), if_neg (by omega)]
      simp (disch := omega) only [inb_t, toN_t, gd_T, a_lit, bsome]
      refine ⟨_, _, _, _, _, rfl, rfl, rfl, s + 1, by omega, rfl, fun i hi => ?_⟩
      by_cases q : i = s
      · subst q
        rw [upd_eq rfl, upd_eq rfl]
        exact ⟨rfl, a, a1, a2, rfl⟩
      · rw [upd_ne q, upd_ne q]
        exact hp i (by omega)
    · rw [if_neg h2, if_pos (by omega)]
      exact ⟨_, _, _, _, _, rfl, rfl, h0⟩
  · simp only [h1, not_false_eq_true, if_true]
    exact ⟨_, _, _, _, _, rfl, rfl, h0⟩
theorem op_wipe {sz sg : Int32} {pc pm : Nat → Int32} (h : PR sz sg pc pm) :
    ∃ (r sz' sg' : Int32), fX11_wipe sz = some (r, sz') ∧ fX12_wipe sg = some (r, sg') ∧ PR sz' sg' pc pm := by
  obtain ⟨rfl, s, hs, rfl, hp⟩ := h
  exact ⟨_, _, _, rfl, rfl, rfl, 0, by omega, rfl, fun i hi => absurd hi (by omega)⟩
