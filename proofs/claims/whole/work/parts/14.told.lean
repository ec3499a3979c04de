/-! told, and what it reads -/
theorem s_lit {a c : Nat} (h : (OfNat.ofNat c : Nat) ≤ a) : nI a - (no_index (OfNat.ofNat c) : Int32) = nI (a - (OfNat.ofNat c : Nat)) := pk_sub h
theorem d_lit {a c : Nat} (ha : a < 2147483648) (h0 : 0 < (OfNat.ofNat c : Nat)) (hc : (OfNat.ofNat c : Nat) < 2147483648) : nI a / (no_index (OfNat.ofNat c) : Int32) = nI (a / (OfNat.ofNat c : Nat)) := pk_div ha h0 hc
theorem r_lit {a c : Nat} (ha : a < 2147483648) (h0 : 0 < (OfNat.ofNat c : Nat)) (hc : (OfNat.ofNat c : Nat) < 2147483648) : irm (nI a) (no_index (OfNat.ofNat c) : Int32) = nI (a % (OfNat.ofNat c : Nat)) := pk_rem ha h0 hc
theorem f_ofAll {ce ho ow hd li go lk : Nat → Int32} {wc wy wf hr dy : Int32} {N : Nat → Int32} (hT : TR ce ho ow hd li go lk wc wy wf hr dy N) (hN : BI N) {k : Nat} (hk : k < 6) : fX8_ofAll hr dy ho ow hd wc wy wf (nI k) = some (if k < 5 then N (48 + k) else mk6 (hsb N) 6) := by
  obtain ⟨t1, t2, t3, t4, t5, t6, t7, t8, t9, t10, t11, t12⟩ := hT
  unfold fX8_ofAll
  rw [f_hushed t2 t3 t11 t4, hm_mk hN.2.2.2.1]
  simp (disch := omega) only [bsome, nI_lit_eq]
  rcases (by omega : k = 0 ∨ k = 1 ∨ k = 2 ∨ k = 3 ∨ k = 4 ∨ k = 5) with rfl | rfl | rfl | rfl | rfl | rfl
  · simp [t8]
  · simp [t9]
  · simp [t10]
  · simp [t11]
  · simp [t12]
  · simp
theorem f_ofWalker {ce ho ow hd li go lk : Nat → Int32} {wc wy wf hr dy : Int32} {N : Nat → Int32} (hT : TR ce ho ow hd li go lk wc wy wf hr dy N) {w k : Nat} (hw : w < 6) (hk : k < 8) : fX8_ofWalker ce ho ow hd li go (nI w) (nI k) = some (N (6 * k + w)) := by
  obtain ⟨t1, t2, t3, t4, t5, t6, t7, t8, t9, t10, t11, t12⟩ := hT
  unfold fX8_ofWalker fX8_goodsOf
  simp (disch := omega) only [bsome, nI_lit_eq, inb_t, toN_t, gd_T, m_lit, a_lit]
  rw [t1 w hw, t2 w hw, t3 w hw, t4 w hw, t5 w hw, t6 w 0 hw (by omega), t6 w 1 hw (by omega), t6 w 2 hw (by omega)]
  rcases (by omega : k = 0 ∨ k = 1 ∨ k = 2 ∨ k = 3 ∨ k = 4 ∨ k = 5 ∨ k = 6 ∨ k = 7) with rfl | rfl | rfl | rfl | rfl | rfl | rfl | rfl <;> simp
theorem f_purseOf {go N : Nat → Int32} (t6 : ∀ i k, i < 6 → k < 3 → go (i * 3 + k) = N (30 + 6 * k + i)) {w : Nat} (hw : w < 6) : fX8_purseOf go (nI w) = some (100 * N (30 + w) + 10 * N (36 + w) + N (42 + w)) := by
  have e0 : go (w * 3 + 0) = N (30 + w) := t6 w 0 (by omega) (by omega)
  have e1 : go (w * 3 + 1) = N (36 + w) := t6 w 1 (by omega) (by omega)
  have e2 : go (w * 3 + 2) = N (42 + w) := t6 w 2 (by omega) (by omega)
  unfold fX8_purseOf fX8_goodsOf
  simp (disch := omega) only [bsome, inb_t, toN_t, gd_T, m_lit, a_lit, f_code, e0, e1, e2]
theorem cp_low {B N : Nat → Int32} : ∀ i, i < 56 → cp B N 56 i = B i := fun _ h => cp_in h
theorem op_told {ce ho ow hd li go lk : Nat → Int32} {wc wy wf hr dy : Int32} {B : Nat → Int32} (hT : TR ce ho ow hd li go lk wc wy wf hr dy B) (hB : BI B) (N : Nat → Int32) (sz cn o1 o2 o3 o4 x1 : Int32) :
    ∃ r : Int32, fX11_told hr dy go ce ho ow hd li sz cn wc wy wf x1 = some r ∧ fX12_told cn sz o1 o2 o3 o4 B N x1 = some (r, 0, -6, -6, -6, cp B N 56) := by
  have hBc : BI (cp B N 56) := BI_co cp_low hB
  have eh : mk6 (hsb (cp B N 56)) 6 = mk6 (hsb B) 6 := by
    have e1 : ∀ w, w < 6 → pcb (cp B N 56) w = pcb B w := fun w hw => by
      unfold pcb
      rw [cp_in (by omega), cp_in (by omega), cp_in (by omega)]
    refine b_ext (fun i hi => ?_)
    rw [mk6_bt 6 (Nat.le_refl 6) i hi, mk6_bt 6 (Nat.le_refl 6) i hi]
    by_cases q : i < 6
    · have : hsb (cp B N 56) i = hsb B i := by
        unfold hsb
        rw [e1 i q]
        congr 1
      rw [this]
    · simp [q]
  have eo : mk6 (ofb (cp B N 56)) 6 = mk6 (ofb B) 6 := by
    refine b_ext (fun i hi => ?_)
    rw [mk6_bt 6 (Nat.le_refl 6) i hi, mk6_bt 6 (Nat.le_refl 6) i hi]
    by_cases q : i < 6
    · unfold ofb
      rw [cp_in (by omega)]
    · simp [q]
  unfold fX11_told fX12_told fX12_told_b145 fX12_told_b180 fX12_told_b28 fX12_told_b91
  simp only [f_asNow, bsome, f_within, f_isWalkerM, f_hushedM hBc.2.2.2.2.2.2.2.2.2.2.2.2 hBc.2.2.2.1, f_bareM hBc.2.2.2.2.1, eh, eo, f_bare hT.2.2.2.2.1, bI0]
  by_cases hx : x1 < 10
  · rw [if_pos hx, if_pos hx]
    by_cases h0 : x1 < 0
    · have ne : ∀ c : Nat, c < 100 → ¬ x1 = nI c := fun c hc e => by rw [e] at h0; exact nI_nneg (by omega) h0
      have n0 : ¬ x1 = 0 := ne 0 (by omega)
      have n1 : ¬ x1 = 1 := ne 1 (by omega)
      have n2 : ¬ x1 = 2 := ne 2 (by omega)
      have n3 : ¬ x1 = 3 := ne 3 (by omega)
      have n4 : ¬ x1 = 4 := ne 4 (by omega)
      have n5 : ¬ x1 = 5 := ne 5 (by omega)
      have n6 : ¬ x1 = 6 := ne 6 (by omega)
      have n7 : ¬ x1 = 7 := ne 7 (by omega)
      have n8 : ¬ x1 = 8 := ne 8 (by omega)
      have nw : ¬ (1 ≤ x1 ∧ x1 ≤ 6) := fun e => by
        have a1 := e.1
        rw [i_le] at a1
        rw [i_lt] at h0
        have e1 : (1 : Int32).toInt = 1 := by decide
        have e0 : (0 : Int32).toInt = 0 := by decide
        omega
      simp only [n0, n1, n2, n3, n4, n5, n6, n7, n8, nw, not_false_eq_true, if_true, if_false]
      exact ⟨_, rfl, rfl⟩
    · obtain ⟨a, ha, rfl⟩ := nI_of h0
      simp (disch := omega) only [nI_lit_lt] at hx
      by_cases h16 : 1 ≤ a ∧ a ≤ 6
      · simp (disch := omega) only [s_lit, f_ofAll hT hB, bsome]
        rcases (by omega : a = 1 ∨ a = 2 ∨ a = 3 ∨ a = 4 ∨ a = 5 ∨ a = 6) with rfl | rfl | rfl | rfl | rfl | rfl <;> (simp (disch := omega) only [nI_lit_eq, nI_lit_le, lit_nI_le, l_add, inb_t, toN_t, gd_T]; exact ⟨_, rfl, rfl⟩)
      · rcases (by omega : a = 0 ∨ a = 7 ∨ a = 8 ∨ a = 9) with rfl | rfl | rfl | rfl <;> (simp (disch := omega) only [nI_lit_eq, nI_lit_le, lit_nI_le, l_add, inb_t, toN_t, gd_T]; exact ⟨_, rfl, rfl⟩)
  · rw [if_neg hx, if_neg hx]
    have h0 : ¬ x1 < 0 := fun e => hx (by
      rw [i_lt] at e ⊢
      have e1 : (10 : Int32).toInt = 10 := by decide
      have e0 : (0 : Int32).toInt = 0 := by decide
      omega)
    obtain ⟨a, ha, rfl⟩ := nI_of h0
    simp (disch := omega) only [nI_lit_lt] at hx
    unfold fX11_toldOfWalker fX11_toldOfWalker_b17 fX11_toldOfWalker_b48
    have hm : a % 10 < 10 := Nat.mod_lt _ (by omega)
    simp (disch := omega) only [d_lit, r_lit, f_isWalker, f_within, bsome, bI0, nI_lit_eq, nI_lit_le, lit_nI_le, nI_lit_lt]
    by_cases hw : 0 ≤ a % 10 ∧ a % 10 ≤ 5
    · simp only [hw, and_self, not_true_eq_false, if_false]
      by_cases h6 : a ≤ 69
      · have hd : 1 ≤ a / 10 ∧ a / 10 ≤ 6 := by omega
        simp only [hd, h6, and_self, not_true_eq_false, if_false, if_true]
        by_cases h7 : a < 60
        · rw [if_neg (by omega), if_pos h7]
          simp (disch := omega) only [s_lit, f_ofWalker hT, l_mul, nI_add, inb_t, toN_t, gd_T, bsome]
          exact ⟨_, rfl, rfl⟩
        · rw [if_pos (by omega), if_neg h7]
          simp (disch := omega) only [f_purseOf hT.2.2.2.2.2.1, l_add, inb_t, toN_t, gd_T, bsome]
          exact ⟨_, rfl, rfl⟩
      · have hd : ¬ (1 ≤ a / 10 ∧ a / 10 ≤ 6) := by omega
        simp only [hd, h6, not_false_eq_true, if_false, if_true]
        exact ⟨_, rfl, rfl⟩
    · simp only [hw, not_false_eq_true, if_true]
      exact ⟨_, rfl, rfl⟩
