/-! acts but an hour: both sides do the same -/
theorem nx_xor' (a b : Nat) : nI a ^^^ nI b = nI (a ^^^ b) := by
  apply Int32.toBitVec_inj.1
  show BitVec.ofNat 32 a ^^^ BitVec.ofNat 32 b = BitVec.ofNat 32 (a ^^^ b)
  apply BitVec.eq_of_getLsbD_eq
  intro i hi
  simp [hi]
theorem sl_1 : ∀ k, k < 31 → sl 1 (nI k) = nI (2 ^ k) := by decide +kernel
def AC (acts lo fa fl : Int32) (ce ho ow hd li go lk : Nat → Int32) (wc wy wf hr dy : Int32) (w k q : Int32) (ref : Option (Int32 × (Nat → Int32))) : Prop :=
  ∃ (r : Int32) (N' ce' ho' ow' hd' li' go' : Nat → Int32) (wf' : Int32), fX9_tryAct acts lo fa fl hr dy hd li ce wc wy wf ow go ho lk w k q = some (r, lo, fa, fl, hr, dy, hd', li', ce', wc, wy, wf', ow', go', ho') ∧ ref = some (r, N') ∧ TR ce' ho' ow' hd' li' go' lk wc wy wf' hr dy N' ∧ BI N' ∧ (r = 0 ∨ 0 < r)
theorem ac_no {acts lo fa fl : Int32} {ce ho ow hd li go lk : Nat → Int32} {wc wy wf hr dy : Int32} {N : Nat → Int32} {w k q r : Int32} {ref : Option (Int32 × (Nat → Int32))} (hT : TR ce ho ow hd li go lk wc wy wf hr dy N) (hN : BI N) (h1 : fX8_obstacle hr dy hd li ce wf ow go w k q = some r) (h2 : ref = some (r, N)) (h0 : 0 < r) : AC acts lo fa fl ce ho ow hd li go lk wc wy wf hr dy w k q ref := by
  have h00 : ¬ r = 0 := fun e => by
    rw [e] at h0
    exact absurd h0 (by decide)
  refine ⟨r, N, ce, ho, ow, hd, li, go, wf, ?_, h2, hT, hN, Or.inr h0⟩
  unfold fX9_tryAct
  rw [h1, bsome, if_neg h00]
theorem ac_yes {acts lo fa fl : Int32} {ce ho ow hd li go lk ce' ho' ow' hd' li' go' : Nat → Int32} {wc wy wf wf' hr dy : Int32} {N' : Nat → Int32} {w k q : Int32} {ref : Option (Int32 × (Nat → Int32))} (hT : TR ce' ho' ow' hd' li' go' lk wc wy wf' hr dy N') (hN : BI N') (h1 : fX8_obstacle hr dy hd li ce wf ow go w k q = some 0) (hk : ¬ k = 8) (h3 : fX8_perform ce hd go ow lk wf ho li w k q = some (ce', hd', go', ow', wf', ho', li')) (h2 : ref = some (0, N')) : AC acts lo fa fl ce ho ow hd li go lk wc wy wf hr dy w k q ref := by
  refine ⟨0, N', ce', ho', ow', hd', li', go', wf', ?_, h2, hT, hN, Or.inl rfl⟩
  unfold fX9_tryAct fX9_tryAct_b43
  rw [h1, bsome, if_pos rfl, if_neg hk, h3, bsome]
theorem held_or {hd N : Nat → Int32} (t4 : ∀ i, i < 6 → hd i = N (18 + i)) (hb : BH N) {w : Nat} (hw : w < 6) :
    (∃ h : Nat, h < 6 ∧ N (18 + h) = nI w ∧ fX12_holder N (nI w) = some (nI h) ∧ fX8_isHeld hd (nI w) = some 1) ∨ (fX12_holder N (nI w) = some (-6) ∧ fX8_isHeld hd (nI w) = some 0 ∧ ∀ x, x < 6 → N (18 + x) ≠ nI w) := by
  by_cases ex : ∃ x, x < 6 ∧ N (18 + x) = nI w
  · obtain ⟨x, hx, ex⟩ := ex
    refine Or.inl ⟨x, hx, ex, f_holder1 hx ex (fun y hy e => ?_), f_held1 hx ((t4 x hx).trans ex)⟩
    have := (hb x w hx hw ex).2.2 y (by omega) e
    omega
  · have q : ∀ x, x < 6 → N (18 + x) ≠ nI w := fun x hx e => ex ⟨x, hx, e⟩
    exact Or.inr ⟨f_holder0 q, f_held0 (fun x hx e => q x hx ((t4 x hx).symm.trans e)), q⟩
theorem BI_ce2 {N : Nat → Int32} {w h : Nat} {x : Int32} (hw : w < 6) (hh : h < 6) (hx : ∃ a, a < 12 ∧ x = nI a) (hB : BI N) (hb : BH (upd (upd N w x) h x)) : BI (upd (upd N w x) h x) := by
  obtain ⟨b1, b2, b3, b4, b5, b6, b7, b8, b9, b10, b11, b12, b13⟩ := hB
  refine ⟨fun i hi => ?_, fun i hi => by rw [upd_ne (by omega), upd_ne (by omega)]; exact b2 i hi, fun i hi => by rw [upd_ne (by omega), upd_ne (by omega)]; exact b3 i hi, fun i hi => by rw [upd_ne (by omega), upd_ne (by omega)]; exact b4 i hi, fun i hi => by rw [upd_ne (by omega), upd_ne (by omega)]; exact b5 i hi, fun i hi => by rw [upd_ne (by omega), upd_ne (by omega)]; exact b6 i hi, by rw [upd_ne (by omega), upd_ne (by omega)]; exact b7, by rw [upd_ne (by omega), upd_ne (by omega)]; exact b8, by rw [upd_ne (by omega), upd_ne (by omega)]; exact b9, by rw [upd_ne (by omega), upd_ne (by omega)]; exact b10, by rw [upd_ne (by omega), upd_ne (by omega)]; exact b11, fun i hi => by rw [upd_ne (by omega), upd_ne (by omega)]; exact b12 i hi, hb⟩
  by_cases e : i = h
  · rw [upd_eq e]; exact hx
  · rw [upd_ne e]
    by_cases e2 : i = w
    · rw [upd_eq e2]; exact hx
    · rw [upd_ne e2]; exact b1 i hi
theorem BH_ce2 {N : Nat → Int32} {w h : Nat} {x : Int32} (hw : w < 6) (hh : h < 6) (hb : BH N) (e : N (18 + w) = nI h) (fr : ∀ i, i < 6 → N (18 + i) ≠ nI w) : BH (upd (upd N w x) h x) := by
  have hwh : w ≠ h := fun q => fr w hw (by rw [e, q])
  intro i a hi ha ei
  rw [upd_ne (by omega), upd_ne (by omega)] at ei
  obtain ⟨e1, e2, e3⟩ := hb i a hi ha ei
  obtain ⟨f1, f2, f3⟩ := hb w h hw hh e
  refine ⟨?_, by rw [upd_ne (by omega), upd_ne (by omega)]; exact e2, fun j hj ej => ?_⟩
  · by_cases q : i = w
    · subst q
      have : a = h := by
        have := ei.symm.trans e
        exact (nI_inj (by omega) (by omega)).mp this
      subst this
      rw [upd_eq rfl, upd_ne hwh, upd_eq rfl]
    · have n1 : a ≠ h := fun z => q (f3 i hi (by rw [ei, z]))
      have n2 : i ≠ h := fun z => by rw [z, f2] at ei; exact n6_nI (by omega) ei
      have n3 : a ≠ w := fun z => fr i hi (by rw [ei, z])
      rw [upd_ne n1, upd_ne n3, upd_ne n2, upd_ne q]
      exact e1
  · rw [upd_ne (by omega), upd_ne (by omega)] at ej
    exact e3 j hj ej
theorem f_move {ce hd N : Nat → Int32} (t1 : ∀ i, i < 6 → ce i = N i) (t4 : ∀ i, i < 6 → hd i = N (18 + i)) {w : Nat} (hw : w < 6) (d : Int32) (h : N (18 + w) = -6 ∨ ∃ a, a < 6 ∧ N (18 + w) = nI a ∧ a ≠ w ∧ N a = N w) :
    (N (18 + w) = -6 ∧ fX8_move ce hd (nI w) d = some (upd ce w (N w + d))) ∨ ∃ a, a < 6 ∧ N (18 + w) = nI a ∧ fX8_move ce hd (nI w) d = some (upd (upd ce w (N w + d)) a (N w + d)) := by
  unfold fX8_move fX8_move_b36
  simp (disch := omega) only [inb_t, toN_t, gd_T, t1 w hw, t4 w hw]
  rcases h with h | ⟨a, ha, h, hn, he⟩
  · rw [if_pos h]
    exact Or.inl ⟨h, rfl⟩
  · rw [h, if_neg (nI_n6 (by omega))]
    refine Or.inr ⟨a, ha, rfl, ?_⟩
    simp (disch := omega) only [inb_t, toN_t, gd_T]
    rw [upd_ne hn, t1 a ha, he]
theorem ac_go {acts lo fa fl : Int32} {ce ho ow hd li go lk : Nat → Int32} {wc wy wf hr dy : Int32} {N : Nat → Int32} (hT : TR ce ho ow hd li go lk wc wy wf hr dy N) (hN : BI N) {w : Nat} (hw : w < 6) (up : Bool) (q : Int32) : AC acts lo fa fl ce ho ow hd li go lk wc wy wf hr dy (nI w) (if up then 0 else 1) q (fX12_walk N (nI w) (if up then 1 else -1)) := by
  have hT0 := hT
  have hN0 := hN
  obtain ⟨t1, t2, t3, t4, t5, t6, t7, t8, t9, t10, t11, t12⟩ := hT
  obtain ⟨b1, b2, b3, b4, b5, b6, b7, b8, b9, b10, b11, b12, b13⟩ := hN
  obtain ⟨a, ha, ea⟩ := b1 w hw
  have eo : fX8_obstacle hr dy hd li ce wf ow go (nI w) (if up then 0 else 1) q = fX8_obstacleToGo hd ce (nI w) (if up then 11 else 0) := by
    unfold fX8_obstacle
    cases up
    · simp only [Bool.false_eq_true, if_false]
      rw [if_neg (by decide), if_pos (by decide)]
      cases fX8_obstacleToGo hd ce (nI w) 0 <;> rfl
    · simp only [if_true]
      cases fX8_obstacleToGo hd ce (nI w) 11 <;> rfl
  have ep : ∀ c, fX8_move ce hd (nI w) (if up then 1 else -1) = some c → fX8_perform ce hd go ow lk wf ho li (nI w) (if up then 0 else 1) q = some (c, hd, go, ow, wf, ho, li) := by
    intro c hc
    unfold fX8_perform fX8_perform_b138
    cases up
    · simp only [Bool.false_eq_true, if_false] at hc ⊢
      rw [if_neg (by decide), if_pos (by decide), hc, bsome]
    · simp only [if_true] at hc ⊢
      rw [hc, bsome]
  have hk : ¬ (if up then (0 : Int32) else 1) = 8 := by cases up <;> decide
  rcases held_or t4 b13 hw with ⟨h, hh, eh, e1, e2⟩ | ⟨e1, e2, fr⟩
  · refine ac_no hT0 hN0 (r := 1) ?_ ?_ (by decide)
    · rw [eo]
      unfold fX8_obstacleToGo
      rw [e2, bsome, if_neg (by decide)]
    · unfold fX12_walk
      rw [e1, bsome, if_neg (nI_nneg (by omega))]
  · by_cases hend : a = (if up then 11 else 0)
    · refine ac_no hT0 hN0 (r := 2) ?_ ?_ (by decide)
      · rw [eo]
        unfold fX8_obstacleToGo fX8_obstacleToGo_b25
        rw [e2, bsome, if_pos rfl]
        simp (disch := omega) only [inb_t, toN_t, gd_T, t1 w hw]
        rw [if_pos]
        rw [ea, hend]
        cases up <;> rfl
      · unfold fX12_walk
        rw [e1, bsome, if_pos n6_lt]
        simp (disch := omega) only [inb_t, toN_t, gd_T, f_isCellM, bsome]
        rw [if_pos]
        rw [bI0, ea, hend]
        cases up <;> decide
    · -- he goes
      obtain ⟨x, hx, ex⟩ : ∃ x, x < 12 ∧ nI a + (if up then (1 : Int32) else -1) = nI x := by
        cases up
        · simp only [Bool.false_eq_true, if_false] at hend ⊢
          obtain ⟨y, rfl⟩ : ∃ y, a = y + 1 := ⟨a - 1, by omega⟩
          exact ⟨y, by omega, pk_m1 y⟩
        · simp only [if_true] at hend ⊢
          exact ⟨a + 1, by omega, nI_1 a⟩
      have o0 : fX8_obstacle hr dy hd li ce wf ow go (nI w) (if up then 0 else 1) q = some 0 := by
        rw [eo]
        unfold fX8_obstacleToGo fX8_obstacleToGo_b25
        rw [e2, bsome, if_pos rfl]
        simp (disch := omega) only [inb_t, toN_t, gd_T, t1 w hw]
        rw [if_neg]
        rw [ea]
        cases up
        · simp only [Bool.false_eq_true, if_false] at hend ⊢
          exact fun e => hend ((nI_inj (b := 0) (by omega) (by omega)).mp e)
        · simp only [if_true] at hend ⊢
          exact fun e => hend ((nI_inj (b := 11) (by omega) (by omega)).mp e)
      have hhold : N (18 + w) = -6 ∨ ∃ a, a < 6 ∧ N (18 + w) = nI a ∧ a ≠ w ∧ N a = N w := by
        rcases b4 w hw with z | ⟨c, hc, z⟩
        · exact Or.inl z
        · exact Or.inr ⟨c, hc, z, fun q => fr w hw (by rw [z, q]), (b13 w c hw hc z).1⟩
      have er : ∀ c, (N (18 + w) = -6 → c = upd N w (nI x)) → (∀ a, a < 6 → N (18 + w) = nI a → c = upd (upd N w (nI x)) a (nI x)) → fX12_walk N (nI w) (if up then 1 else -1) = some (0, c) := by
        intro c c1 c2
        unfold fX12_walk fX12_walk_b68
        rw [e1, bsome, if_pos n6_lt]
        simp (disch := omega) only [inb_t, toN_t, gd_T, f_isCellM, bsome, l_add]
        rw [ea, ex, if_neg (by rw [bI0, Decidable.not_not]; exact rng_of (c := 11) (by decide) (by show x ≤ 11; omega)), upd_ne (by omega), upd_eq (j := w) rfl]
        rcases hhold with z | ⟨b, hb, z, -, -⟩
        · rw [z, if_pos n6_lt, c1 z]
        · rw [z, if_neg (nI_nneg (by omega))]
          simp (disch := omega) only [inb_t, toN_t, gd_T]
          rw [c2 b hb z]
      rcases f_move t1 t4 hw (if up then 1 else -1) hhold with ⟨z, hm⟩ | ⟨b, hb, z, hm⟩
      · rw [ea, ex] at hm
        refine ac_yes (TR_ce hw hT0) (BI_ce hw ⟨x, hx, rfl⟩ hN0 (BH_free b13 hw z fr)) o0 hk (ep _ hm) (er _ (fun _ => rfl) (fun b hb z2 => ?_))
        rw [z] at z2
        exact absurd z2 (n6_nI (by omega))
      · rw [ea, ex] at hm
        refine ac_yes (TR_ce hb (TR_ce hw hT0)) (BI_ce2 hw hb ⟨x, hx, rfl⟩ hN0 (BH_ce2 hw hb b13 z fr)) o0 hk (ep _ hm) (er _ (fun z2 => ?_) (fun c hc z2 => ?_))
        · rw [z] at z2
          exact absurd z2 (nI_n6 (by omega))
        · have : c = b := (nI_inj (by omega) (by omega)).mp (z2.symm.trans z)
          rw [this]
theorem ac_state {acts lo fa fl : Int32} {ce ho ow hd li go lk : Nat → Int32} {wc wy wf hr dy : Int32} {N : Nat → Int32} (hT : TR ce ho ow hd li go lk wc wy wf hr dy N) (hN : BI N) {w h : Nat} (hw : w < 6) (hh : h < 8) : AC acts lo fa fl ce ho ow hd li go lk wc wy wf hr dy (nI w) 2 (nI h) (fX12_state N (nI w) (nI h)) := by
  have t2 := hT.2.1
  have t3 := hT.2.2.1
  obtain ⟨a, ha, ea⟩ := hN.2.1 w hw
  have eo : fX8_obstacle hr dy hd li ce wf ow go (nI w) 2 (nI h) = some (if N (12 + w) < 4 then 0 else 3) := by
    unfold fX8_obstacle fX8_obstacle_b78
    rw [if_neg (by decide), if_neg (by decide), if_pos rfl]
    simp (disch := omega) only [inb_t, toN_t, gd_T, t3 w hw]
    by_cases q : N (12 + w) < 4
    · rw [if_pos q, if_pos q]
    · rw [if_neg q, if_neg q]
  by_cases q : N (12 + w) < 4
  · rw [if_pos q] at eo
    have e2 : nI a ^^^ sl 1 (nI h) = nI (a ^^^ 2 ^ h) := by rw [sl_1 h (by omega), nx_xor']
    have b2 : a ^^^ 2 ^ h < 256 := Nat.xor_lt_two_pow (n := 8) ha (Nat.pow_lt_pow_right (by omega) hh)
    refine ac_yes (TR_ho hw (x := nI (a ^^^ 2 ^ h)) hT) (BI_ho hw ⟨_, b2, rfl⟩ hN) eo (by decide) ?_ ?_
    · unfold fX8_perform fX8_perform_b138
      rw [if_neg (by decide), if_neg (by decide), if_pos rfl]
      simp (disch := omega) only [inb_t, toN_t, gd_T, t2 w hw]
      rw [ea, e2]
    · unfold fX12_state
      simp (disch := omega) only [inb_t, toN_t, gd_T, l_add]
      rw [if_pos q, ea, e2]
  · rw [if_neg q] at eo
    refine ac_no hT hN eo ?_ (by decide)
    unfold fX12_state
    simp (disch := omega) only [inb_t, toN_t, gd_T, l_add]
    rw [if_neg q]
theorem imax0 (z : Int32) : imax 0 z = if 0 ≤ z then z else 0 := by
  unfold imax
  by_cases h : 0 < z
  · rw [if_pos h, if_pos]
    rw [i_lt] at h
    rw [i_le]
    omega
  · rw [if_neg h]
    by_cases h2 : 0 ≤ z
    · rw [if_pos h2]
      rw [i_lt] at h
      rw [i_le] at h2
      rw [i_eq]
      omega
    · rw [if_neg h2]
theorem ac_pay {acts lo fa fl : Int32} {ce ho ow hd li go lk : Nat → Int32} {wc wy wf hr dy : Int32} {N : Nat → Int32} (hT : TR ce ho ow hd li go lk wc wy wf hr dy N) (hN : BI N) {w q : Nat} (hw : w < 6) (hq : q < 3) : AC acts lo fa fl ce ho ow hd li go lk wc wy wf hr dy (nI w) 3 (nI q) (fX12_pay N (nI w) (nI q)) := by
  have t3 := hT.2.2.1
  have t6 := hT.2.2.2.2.2.1
  have t7 := hT.2.2.2.2.2.2.1
  obtain ⟨o, ho_, eo_⟩ := hN.2.2.1 w hw
  obtain ⟨g, hg, eg⟩ := hN.2.2.2.2.2.1 (6 * q + w) (by omega)
  rw [← Nat.add_assoc] at eg
  obtain ⟨lq, hlq, el⟩ := hN.2.2.2.2.2.2.2.2.2.2.2.1 q hq
  have eo : fX8_obstacle hr dy hd li ce wf ow go (nI w) 3 (nI q) = some (if g = 0 then 4 else if o = 0 then 5 else 0) := by
    unfold fX8_obstacle fX8_obstacleToPay fX8_obstacleToPay_b25 fX8_goodsOf
    rw [if_neg (by decide), if_neg (by decide), if_neg (by decide), if_pos rfl]
    simp (disch := omega) only [inb_t, toN_t, gd_T, t3 w hw, m_lit, nI_add, bsome, t6 w q hw hq, eg, eo_, nI_lit_eq]
    by_cases q1 : g = 0
    · rw [if_pos q1, if_pos q1, bsome]
    · rw [if_neg q1, if_neg q1]
      by_cases q2 : o = 0
      · rw [if_pos q2, if_pos q2, bsome]
      · rw [if_neg q2, if_neg q2, bsome]
  by_cases q1 : g = 0
  · rw [if_pos q1] at eo
    refine ac_no hT hN eo ?_ (by decide)
    unfold fX12_pay
    simp (disch := omega) only [inb_t, toN_t, gd_T, l_mul, l_add, nI_add, eg, nI_lit_eq]
    rw [if_pos q1]
  · rw [if_neg q1] at eo
    by_cases q2 : o = 0
    · rw [if_pos q2] at eo
      refine ac_no hT hN eo ?_ (by decide)
      unfold fX12_pay
      simp (disch := omega) only [inb_t, toN_t, gd_T, l_mul, l_add, nI_add, eg, eo_, nI_lit_eq]
      rw [if_neg q1, if_pos q2]
    · rw [if_neg q2] at eo
      obtain ⟨z, hz, ez⟩ : ∃ z, z < 10 ∧ (if (0 : Int32) ≤ nI o - nI lq then nI o - nI lq else 0) = nI z := by
        by_cases c : lq ≤ o
        · rw [pk_sub c, if_pos (nI_pos' (by omega))]
          exact ⟨o - lq, by omega, rfl⟩
        · rw [if_neg (i_nle.mpr (pk_sneg (by omega) (by omega)))]
          exact ⟨0, by omega, rfl⟩
      refine ac_yes (TR_ow hw (x := nI z) (TR_go hw hq (x := nI (g - 1)) hT)) (BI_ow hw ⟨z, hz, rfl⟩ (?_ : BI (upd N (30 + 6 * q + w) (nI (g - 1))))) eo (by decide) ?_ ?_
      · have := BI_go (w := 6 * q + w) (x := nI (g - 1)) (by omega) ⟨g - 1, by omega, rfl⟩ hN
        rw [← Nat.add_assoc] at this
        exact this
      · unfold fX8_perform fX8_perform_b138 fX8_pay
        rw [if_neg (by decide), if_neg (by decide), if_neg (by decide), if_pos rfl]
        simp (disch := omega) only [inb_t, toN_t, gd_T, t3 w hw, m_lit, nI_add, bsome, t6 w q hw hq, t7 q hq, eg, eo_, el, s_lit, imax0, ez]
      · unfold fX12_pay fX12_pay_b85
        simp (disch := omega) only [inb_t, toN_t, gd_T, l_mul, l_add, nI_add, eg, eo_, nI_lit_eq, upd_ne, el, s_lit]
        rw [if_neg q1, if_neg q2]
        by_cases c : (0 : Int32) ≤ nI o - nI lq
        · rw [if_pos c] at ez ⊢
          rw [ez]
        · rw [if_neg c] at ez ⊢
          rw [ez]
theorem ac_on {acts lo fa fl : Int32} {ce ho ow hd li go lk : Nat → Int32} {wc wy wf hr dy : Int32} {N : Nat → Int32} (hT : TR ce ho ow hd li go lk wc wy wf hr dy N) (hN : BI N) {w : Nat} (hw : w < 6) (q : Int32) : AC acts lo fa fl ce ho ow hd li go lk wc wy wf hr dy (nI w) 4 q (fX12_putOn N (nI w)) := by
  have t1 := hT.1
  have t4 := hT.2.2.2.1
  have t5 := hT.2.2.2.2.1
  have eo : fX8_obstacle hr dy hd li ce wf ow go (nI w) 4 q = fX8_obstacleToPutOn hd li ce (nI w) := by
    unfold fX8_obstacle
    rw [if_neg (by decide), if_neg (by decide), if_neg (by decide), if_neg (by decide), if_pos rfl]
    cases fX8_obstacleToPutOn hd li ce (nI w) <;> rfl
  rcases held_or t4 hN.2.2.2.2.2.2.2.2.2.2.2.2 hw with ⟨h, hh, eh, e1, e2⟩ | ⟨e1, e2, fr⟩
  · refine ac_no hT hN (r := 1) ?_ ?_ (by decide)
    · rw [eo]
      unfold fX8_obstacleToPutOn
      rw [e2, bsome, if_neg (by decide)]
    · unfold fX12_putOn
      rw [e1, bsome, if_neg (nI_nneg (by omega))]
  · by_cases c : N (24 + w) = N w
    · refine ac_yes (TR_li hw (x := -6) hT) (BI_li hw (Or.inl rfl) hN) ?_ (by decide) ?_ ?_
      · rw [eo]
        unfold fX8_obstacleToPutOn fX8_obstacleToPutOn_b31
        rw [e2, bsome, if_pos rfl]
        simp (disch := omega) only [inb_t, toN_t, gd_T, t1 w hw, t5 w hw]
        rw [if_pos c]
      · unfold fX8_perform fX8_perform_b138
        rw [if_neg (by decide), if_neg (by decide), if_neg (by decide), if_neg (by decide), if_pos rfl]
        simp (disch := omega) only [inb_t, toN_t, gd_T]
      · unfold fX12_putOn
        rw [e1, bsome, if_pos n6_lt]
        simp (disch := omega) only [inb_t, toN_t, gd_T, l_add]
        rw [if_pos c]
    · refine ac_no hT hN (r := 6) ?_ ?_ (by decide)
      · rw [eo]
        unfold fX8_obstacleToPutOn fX8_obstacleToPutOn_b31
        rw [e2, bsome, if_pos rfl]
        simp (disch := omega) only [inb_t, toN_t, gd_T, t1 w hw, t5 w hw]
        rw [if_neg c]
      · unfold fX12_putOn
        rw [e1, bsome, if_pos n6_lt]
        simp (disch := omega) only [inb_t, toN_t, gd_T, l_add]
        rw [if_neg c]
theorem ac_let {acts lo fa fl : Int32} {ce ho ow hd li go lk : Nat → Int32} {wc wy wf hr dy : Int32} {N : Nat → Int32} (hT : TR ce ho ow hd li go lk wc wy wf hr dy N) (hN : BI N) {w : Nat} (hw : w < 6) (q : Int32) : AC acts lo fa fl ce ho ow hd li go lk wc wy wf hr dy (nI w) 6 q (fX12_letGo N (nI w)) := by
  have t4 := hT.2.2.2.1
  have n60 : ¬ (0 : Int32) ≤ -6 := by decide
  rcases hN.2.2.2.1 w hw with z | ⟨a, ha, z⟩
  · refine ac_no hT hN (r := 8) ?_ ?_ (by decide)
    · unfold fX8_obstacle fX8_obstacle_b116
      rw [if_neg (by decide), if_neg (by decide), if_neg (by decide), if_neg (by decide), if_neg (by decide), if_neg (by decide), if_pos rfl]
      simp (disch := omega) only [inb_t, toN_t, gd_T, t4 w hw]
      rw [if_pos z]
    · unfold fX12_letGo
      simp (disch := omega) only [inb_t, toN_t, gd_T, l_add]
      rw [z, if_neg n60]
  · have hb : BH (upd N (18 + w) (-6)) := by
      intro i c hi hc e
      have n1 : i ≠ w := fun q => by rw [q, upd_eq rfl] at e; exact n6_nI (by omega) e
      rw [upd_ne (by omega)] at e
      obtain ⟨e1, e2, e3⟩ := hN.2.2.2.2.2.2.2.2.2.2.2.2 i c hi hc e
      refine ⟨by rw [upd_ne (by omega), upd_ne (by omega)]; exact e1, ?_, fun j hj ej => ?_⟩
      · by_cases q : c = w
        · rw [upd_eq (by rw [q])]
        · rw [upd_ne (by omega)]; exact e2
      · have n2 : j ≠ w := fun q => by rw [q, upd_eq rfl] at ej; exact n6_nI (by omega) ej
        rw [upd_ne (by omega)] at ej
        exact e3 j hj ej
    refine ac_yes (TR_hd hw (x := -6) hT) (BI_hd hw (Or.inl rfl) hN hb) ?_ (by decide) ?_ ?_
    · unfold fX8_obstacle fX8_obstacle_b116
      rw [if_neg (by decide), if_neg (by decide), if_neg (by decide), if_neg (by decide), if_neg (by decide), if_neg (by decide), if_pos rfl]
      simp (disch := omega) only [inb_t, toN_t, gd_T, t4 w hw]
      rw [z, if_neg (nI_n6 (by omega))]
    · unfold fX8_perform fX8_perform_b138
      rw [if_neg (by decide), if_neg (by decide), if_neg (by decide), if_neg (by decide), if_neg (by decide), if_neg (by decide), if_pos rfl]
      simp (disch := omega) only [inb_t, toN_t, gd_T]
    · unfold fX12_letGo
      simp (disch := omega) only [inb_t, toN_t, gd_T, l_add]
      rw [z, if_pos (nI_pos' (by omega))]
theorem ac_gust {acts lo fa fl : Int32} {ce ho ow hd li go lk : Nat → Int32} {wc wy wf hr dy : Int32} {N : Nat → Int32} (hT : TR ce ho ow hd li go lk wc wy wf hr dy N) (hN : BI N) (w q : Int32) : AC acts lo fa fl ce ho ow hd li go lk wc wy wf hr dy w 7 q (fX12_gust N) := by
  have t10 := hT.2.2.2.2.2.2.2.2.2.1
  obtain ⟨f, h1, h2, ef⟩ := hN.2.2.2.2.2.2.2.2.1
  by_cases c : f = 9
  · refine ac_no hT hN (r := 9) ?_ ?_ (by decide)
    · unfold fX8_obstacle fX8_obstacle_b135
      rw [if_neg (by decide), if_neg (by decide), if_neg (by decide), if_neg (by decide), if_neg (by decide), if_neg (by decide), if_neg (by decide), if_pos rfl, t10, ef]
      simp (disch := omega) only [nI_lit_lt]
      rw [if_neg (by omega)]
    · unfold fX12_gust
      simp (disch := omega) only [inb_lit, toN_lit, gd_T]
      rw [ef, if_pos (by rw [c]; rfl)]
  · refine ac_yes (TR_wf (x := nI (f + 1)) hT) (BI_wf ⟨f + 1, by omega, by omega, rfl⟩ hN) ?_ (by decide) ?_ ?_
    · unfold fX8_obstacle fX8_obstacle_b135
      rw [if_neg (by decide), if_neg (by decide), if_neg (by decide), if_neg (by decide), if_neg (by decide), if_neg (by decide), if_neg (by decide), if_pos rfl, t10, ef]
      simp (disch := omega) only [nI_lit_lt]
      rw [if_pos (by omega)]
    · unfold fX8_perform fX8_perform_b138
      rw [if_neg (by decide), if_neg (by decide), if_neg (by decide), if_neg (by decide), if_neg (by decide), if_neg (by decide), if_neg (by decide), if_pos rfl, t10, ef, nI_1]
    · unfold fX12_gust
      simp (disch := omega) only [inb_lit, toN_lit, gd_T]
      rw [ef, if_neg (show ¬ nI f = (9 : Int32) from fun e => c ((nI_inj (b := 9) (by omega) (by omega)).mp e)), nI_1]
theorem ac_hold {acts lo fa fl : Int32} {ce ho ow hd li go lk : Nat → Int32} {wc wy wf hr dy : Int32} {N : Nat → Int32} (hT : TR ce ho ow hd li go lk wc wy wf hr dy N) (hN : BI N) {w o : Nat} (hw : w < 6) (ho' : o < 6) : AC acts lo fa fl ce ho ow hd li go lk wc wy wf hr dy (nI w) 5 (nI o) (fX12_hold N (nI w) (nI o)) := by
  have t1 := hT.1
  have t4 := hT.2.2.2.1
  have hb := hN.2.2.2.2.2.2.2.2.2.2.2.2
  have n60 : ¬ (0 : Int32) ≤ -6 := by decide
  have eo : fX8_obstacle hr dy hd li ce wf ow go (nI w) 5 (nI o) = fX8_obstacleToHold hd ce (nI w) (nI o) := by
    unfold fX8_obstacle
    rw [if_neg (by decide), if_neg (by decide), if_neg (by decide), if_neg (by decide), if_neg (by decide), if_pos rfl]
    cases fX8_obstacleToHold hd ce (nI w) (nI o) <;> rfl
  rcases held_or t4 hb hw with ⟨h, hh, eh, e1, e2⟩ | ⟨e1, e2, fr⟩
  · refine ac_no hT hN (r := 1) ?_ ?_ (by decide)
    · rw [eo]
      unfold fX8_obstacleToHold
      rw [e2, bsome, if_neg (by decide)]
    · unfold fX12_hold
      rw [e1, bsome, if_neg (nI_nneg (by omega))]
  · have B35 : ∀ s0 : Int32, fX8_obstacleToHold_b35 hd ce (nI w) (nI o) s0 = some 7 ∨ (N (18 + w) = -6 ∧ N (18 + o) = -6 ∧ fX12_holder N (nI o) = some (-6) ∧ (∀ x, x < 6 → N (18 + x) ≠ nI o) ∧ fX8_obstacleToHold_b35 hd ce (nI w) (nI o) s0 = some (if s0 = 0 then 7 else 0)) := by
      intro s0
      unfold fX8_obstacleToHold_b35 fX8_obstacleToHold_b70 fX8_obstacleToHold_b71 fX8_obstacleToHold_b86 fX8_obstacleToHold_b88
      simp (disch := omega) only [inb_t, toN_t, gd_T, t4 w hw, t4 o ho']
      by_cases c1 : N (18 + w) = -6
      · rw [if_pos c1]
        by_cases c2 : N (18 + o) = -6
        · rw [if_pos c2]
          rcases held_or t4 hb ho' with ⟨h, hh, eh, f1, f2⟩ | ⟨f1, f2, fr2⟩
          · rw [f2, bsome, if_neg (by decide)]
            refine Or.inl ?_
            by_cases c3 : s0 = 0
            · rw [if_pos c3]
            · rw [if_neg c3, if_pos (by decide)]
          · rw [f2, bsome, if_pos rfl]
            refine Or.inr ⟨c1, c2, f1, fr2, ?_⟩
            by_cases c3 : s0 = 0
            · rw [if_pos c3, if_pos c3]
            · rw [if_neg c3, if_neg c3, if_neg (by decide)]
        · rw [if_neg c2]
          refine Or.inl ?_
          by_cases c3 : s0 = 0
          · rw [if_pos c3]
          · rw [if_neg c3, if_pos (by decide)]
      · rw [if_neg c1]
        refine Or.inl ?_
        by_cases c3 : s0 = 0
        · rw [if_pos c3]
        · rw [if_neg c3, if_pos (by decide)]
    have B350 : fX8_obstacleToHold_b35 hd ce (nI w) (nI o) 0 = some 7 := by
      rcases B35 0 with z | ⟨-, -, -, -, z⟩
      · exact z
      · rw [z, if_pos rfl]
    by_cases c0 : w = o
    · refine ac_no hT hN (r := 7) ?_ ?_ (by decide)
      · rw [eo]
        unfold fX8_obstacleToHold fX8_obstacleToHold_b34
        rw [e2, bsome, if_pos rfl, if_pos (by rw [c0]), B350]
      · unfold fX12_hold fX12_hold_b62
        rw [e1, bsome, if_pos n6_lt, if_pos (by rw [c0])]
    · have c0' : ¬ nI w = nI o := fun e => c0 ((nI_inj (by omega) (by omega)).mp e)
      by_cases c1 : N w = N o
      · by_cases c2 : N (18 + w) = -6
        · by_cases c3 : N (18 + o) = -6
          · rcases held_or t4 hb ho' with ⟨h, hh, eh, f1, f2⟩ | ⟨f1, f2, fr2⟩
            · refine ac_no hT hN (r := 7) ?_ ?_ (by decide)
              · rw [eo]
                unfold fX8_obstacleToHold
                rw [e2, bsome, if_pos rfl, if_neg c0']
                simp (disch := omega) only [inb_t, toN_t, gd_T, t1 w hw, t1 o ho']
                rw [if_pos c1]
                rcases B35 1 with z | ⟨-, -, z, -, -⟩
                · exact z
                · rw [f1] at z
                  exact absurd (Option.some.inj z) (nI_n6 (by omega))
              · unfold fX12_hold fX12_hold_b62
                rw [e1, bsome, if_pos n6_lt, if_neg c0']
                simp (disch := omega) only [inb_t, toN_t, gd_T, l_add]
                rw [if_pos c1, c2, if_neg n60, f1, bsome, if_pos (nI_pos' (by omega))]
            · have hb2 : BH (upd N (18 + w) (nI o)) := by
                intro i c hi hc e
                by_cases q : i = w
                · rw [q, upd_eq rfl] at e
                  have qc : c = o := ((nI_inj (by omega) (by omega)).mp e).symm
                  subst qc
                  refine ⟨by rw [upd_ne (by omega), upd_ne (by omega), q]; exact c1.symm, by rw [upd_ne (by omega)]; exact c3, fun j hj ej => ?_⟩
                  by_cases q2 : j = w
                  · rw [q2, q]
                  · rw [upd_ne (by omega)] at ej
                    exact absurd ej (fr2 j hj)
                · rw [upd_ne (by omega)] at e
                  obtain ⟨g1, g2, g3⟩ := hb i c hi hc e
                  have n1 : c ≠ w := fun z => fr i hi (by rw [e, z])
                  refine ⟨by rw [upd_ne (by omega), upd_ne (by omega)]; exact g1, by rw [upd_ne (by omega)]; exact g2, fun j hj ej => ?_⟩
                  by_cases q2 : j = w
                  · rw [q2, upd_eq rfl] at ej
                    have : o = c := (nI_inj (by omega) (by omega)).mp ej
                    exact absurd e (by rw [← this]; exact fr2 i hi)
                  · rw [upd_ne (by omega)] at ej
                    exact g3 j hj ej
              refine ac_yes (TR_hd hw (x := nI o) hT) (BI_hd hw (Or.inr ⟨o, ho', rfl⟩) hN hb2) ?_ (by decide) ?_ ?_
              · rw [eo]
                unfold fX8_obstacleToHold
                rw [e2, bsome, if_pos rfl, if_neg c0']
                simp (disch := omega) only [inb_t, toN_t, gd_T, t1 w hw, t1 o ho']
                rw [if_pos c1]
                unfold fX8_obstacleToHold_b35 fX8_obstacleToHold_b71 fX8_obstacleToHold_b88
                simp (disch := omega) only [inb_t, toN_t, gd_T, t4 w hw, t4 o ho']
                rw [if_pos c2, if_pos c3, f2, bsome, if_pos rfl, if_neg (by decide), if_neg (by decide)]
              · unfold fX8_perform fX8_perform_b138
                rw [if_neg (by decide), if_neg (by decide), if_neg (by decide), if_neg (by decide), if_neg (by decide), if_pos rfl]
                simp (disch := omega) only [inb_t, toN_t, gd_T]
              · unfold fX12_hold
                rw [e1, bsome, if_pos n6_lt, if_neg c0']
                simp (disch := omega) only [inb_t, toN_t, gd_T, l_add]
                rw [if_pos c1, c2, if_neg n60, f1, bsome, if_neg n60, c3, if_pos n6_lt]
          · refine ac_no hT hN (r := 7) ?_ ?_ (by decide)
            · rw [eo]
              unfold fX8_obstacleToHold
              rw [e2, bsome, if_pos rfl, if_neg c0']
              simp (disch := omega) only [inb_t, toN_t, gd_T, t1 w hw, t1 o ho']
              rw [if_pos c1]
              rcases B35 1 with z | ⟨-, z, -, -, -⟩
              · exact z
              · exact absurd z c3
            · obtain ⟨b, hb_, eb⟩ := (hN.2.2.2.1 o ho').resolve_left c3
              unfold fX12_hold fX12_hold_b62
              rw [e1, bsome, if_pos n6_lt, if_neg c0']
              simp (disch := omega) only [inb_t, toN_t, gd_T, l_add]
              rw [if_pos c1, c2, if_neg n60]
              rcases held_or t4 hb ho' with ⟨h, hh, eh, f1, f2⟩ | ⟨f1, f2, fr2⟩
              · rw [f1, bsome, if_pos (nI_pos' (by omega))]
              · rw [f1, bsome, if_neg n60, eb, if_neg (nI_nneg (by omega))]
        · refine ac_no hT hN (r := 7) ?_ ?_ (by decide)
          · rw [eo]
            unfold fX8_obstacleToHold
            rw [e2, bsome, if_pos rfl, if_neg c0']
            simp (disch := omega) only [inb_t, toN_t, gd_T, t1 w hw, t1 o ho']
            rw [if_pos c1]
            rcases B35 1 with z | ⟨z, -, -, -, -⟩
            · exact z
            · exact absurd z c2
          · obtain ⟨b, hb_, eb⟩ := (hN.2.2.2.1 w hw).resolve_left c2
            unfold fX12_hold fX12_hold_b62
            rw [e1, bsome, if_pos n6_lt, if_neg c0']
            simp (disch := omega) only [inb_t, toN_t, gd_T, l_add]
            rw [if_pos c1, eb, if_pos (nI_pos' (by omega))]
      · refine ac_no hT hN (r := 7) ?_ ?_ (by decide)
        · rw [eo]
          unfold fX8_obstacleToHold fX8_obstacleToHold_b34
          rw [e2, bsome, if_pos rfl, if_neg c0']
          simp (disch := omega) only [inb_t, toN_t, gd_T, t1 w hw, t1 o ho']
          rw [if_neg c1, B350]
        · unfold fX12_hold fX12_hold_b62
          rw [e1, bsome, if_pos n6_lt, if_neg c0']
          simp (disch := omega) only [inb_t, toN_t, gd_T, l_add]
          rw [if_neg c1]
