def fX12_in_b15 (x0 : Int32) (x1 : Int32) (x2 : Int32)  (s0 : Int32) : Option (Int32) := gd (s0 == 0 || s0 == 1) ((some s0))
def fX12_in_b14 (x0 : Int32) (x1 : Int32) (x2 : Int32)   : Option (Int32) := (fX12_in_b15 x0 x1 x2  (0 : Int32))
def fX12_in  (x0 : Int32) (x1 : Int32) (x2 : Int32) : Option (Int32) := (if x0 < x1 then (fX12_in_b14 x0 x1 x2  ) else (if x2 < x0 then (fX12_in_b14 x0 x1 x2  ) else (fX12_in_b15 x0 x1 x2  (1 : Int32))))
abbrev rmX12_in : Room := { frames := 0, cells := 0, slots := 0, locals := 0 }
set_option maxRecDepth 100000 in
set_option maxHeartbeats 4000000 in
theorem ctX12_in (l : Launch) (G : zG)  (x0 : Int32) (x1 : Int32) (x2 : Int32) {R : Int32} (hf : fX12_in x0 x1 x2 = some R) : zCt l yX12_in wsX12_in rmX12_in G [] [.int x0, .int x1, .int x2] (fun v w => v = some (.int (R)) ∧ w = []) := by
  refine zMkB (own := RX12) false (by decide) (by decide +kernel) rfl rfl (Nat.le_of_ble_eq_true rfl) ?_
  intro Z h hret
  have hB15 : ∀ (s0 : Int32), fX12_in_b15 x0 x1 x2  s0 = some R → Z 0 0 [] [] 15 [.int s0] := by
    intro s0 hf
    rw [fX12_in_b15] at hf
    obtain ⟨hg1, hf⟩ := gd_some hf
    have hf := Option.some.inj hf
    subst hf
    exact hret _ _ _ _ dX12_in_15 hg1 ⟨rfl, rfl⟩
  have hB14 : fX12_in_b14 x0 x1 x2   = some R → Z 0 0 [] [] 14 [] := by
    intro hf
    rw [fX12_in_b14] at hf
    refine z_iconst h (v := (0 : Int32)) dX12_in_14 (by decide) rfl ?_
    exact hB15 (0 : Int32) hf
  rw [fX12_in] at hf
  show Z 0 0 _ [(0, .int x0), (1, .int x1), (2, .int x2)] 0 []
  refine z_iload_n h dX12_in_0 0 rfl rfl ?_
  refine z_iload_n h dX12_in_1 1 rfl rfl ?_
  refine z_icmp_lt h (tgt := 14) dX12_in_2 (by decide) rfl (fun c2 => ?_) (fun c2 => ?_)
  · have hf := ite_t hf c2
    refine z_locs h (lv2 := []) [] rfl ?_
    exact hB14  hf
  have hf := ite_f hf c2
  refine z_iload_n h dX12_in_5 0 rfl rfl ?_
  refine z_iload_n h dX12_in_6 2 rfl rfl ?_
  refine z_icmp_gt h (tgt := 14) dX12_in_7 (by decide) rfl (fun c3 => ?_) (fun c3 => ?_)
  · have hf := ite_t hf c3
    refine z_locs h (lv2 := []) [] rfl ?_
    exact hB14  hf
  have hf := ite_f hf c3
  refine z_iconst h (v := (1 : Int32)) dX12_in_10 (by decide) rfl ?_
  refine z_goto h (tgt := 15) dX12_in_11 (by decide) ?_
  refine z_locs h (lv2 := []) [] rfl ?_
  exact hB15 (1 : Int32) hf
def fX12_has_b14 (x0 : Int32) (x1 : Int32)  (s0 : Int32) : Option (Int32) := gd (s0 == 0 || s0 == 1) ((some s0))
def fX12_has  (x0 : Int32) (x1 : Int32) : Option (Int32) := (if ((sr x0 x1) &&& (1 : Int32)) = (1 : Int32) then (fX12_has_b14 x0 x1  (1 : Int32)) else (fX12_has_b14 x0 x1  (0 : Int32)))
abbrev rmX12_has : Room := { frames := 0, cells := 0, slots := 0, locals := 0 }
set_option maxRecDepth 100000 in
set_option maxHeartbeats 4000000 in
theorem ctX12_has (l : Launch) (G : zG)  (x0 : Int32) (x1 : Int32) {R : Int32} (hf : fX12_has x0 x1 = some R) : zCt l yX12_has wsX12_has rmX12_has G [] [.int x0, .int x1] (fun v w => v = some (.int (R)) ∧ w = []) := by
  refine zMkB (own := RX12) false (by decide) (by decide +kernel) rfl rfl (Nat.le_of_ble_eq_true rfl) ?_
  intro Z h hret
  have hB14 : ∀ (s0 : Int32), fX12_has_b14 x0 x1  s0 = some R → Z 0 0 [] [] 14 [.int s0] := by
    intro s0 hf
    rw [fX12_has_b14] at hf
    obtain ⟨hg1, hf⟩ := gd_some hf
    have hf := Option.some.inj hf
    subst hf
    exact hret _ _ _ _ dX12_has_14 hg1 ⟨rfl, rfl⟩
  rw [fX12_has] at hf
  show Z 0 0 _ [(0, .int x0), (1, .int x1)] 0 []
  refine z_iload_n h dX12_has_0 0 rfl rfl ?_
  refine z_iload_n h dX12_has_1 1 rfl rfl ?_
  refine z_ishr h dX12_has_2 rfl ?_
  refine z_iconst h (v := (1 : Int32)) dX12_has_3 (by decide) rfl ?_
  refine z_iand h dX12_has_4 rfl ?_
  refine z_iconst h (v := (1 : Int32)) dX12_has_5 (by decide) rfl ?_
  refine z_icmp_ne h (tgt := 13) dX12_has_6 (by decide) rfl (fun c2 => ?_) (fun c2 => ?_)
  · have hf := ite_f hf c2
    refine z_iconst h (v := (0 : Int32)) dX12_has_13 (by decide) rfl ?_
    refine z_locs h (lv2 := []) [] rfl ?_
    exact hB14 (0 : Int32) hf
  have hf := ite_t hf c2
  refine z_iconst h (v := (1 : Int32)) dX12_has_9 (by decide) rfl ?_
  refine z_goto h (tgt := 14) dX12_has_10 (by decide) ?_
  refine z_locs h (lv2 := []) [] rfl ?_
  exact hB14 (1 : Int32) hf
def fX12_bits_L4 (x0 : Int32)  : Nat → Int32 → Int32 → Option (Int32)
  | 0, _, _ => none
  | n + 1, x1, x2 => (if (12 : Int32) ≤ x2 then (some x1) else ((fX12_bits_L4 x0  n) (x1 + ((sr x0 x2) &&& (1 : Int32))) (x2 + (1 : Int32))))
def fX12_bits  (x0 : Int32) : Option (Int32) := (fX12_bits_L4 x0  zF (0 : Int32) (0 : Int32))
abbrev rmX12_bits : Room := { frames := 0, cells := 0, slots := 0, locals := 0 }
set_option maxRecDepth 100000 in
set_option maxHeartbeats 4000000 in
theorem ctX12_bits (l : Launch) (G : zG)  (x0 : Int32) {R : Int32} (hf : fX12_bits x0 = some R) : zCt l yX12_bits wsX12_bits rmX12_bits G [] [.int x0] (fun v w => v = some (.int (R)) ∧ w = []) := by
  refine zMkI (own := RX12) false (by decide) (by decide +kernel) rfl rfl (Nat.le_of_ble_eq_true rfl) ?_
  intro Z h hret
  have hL4 : ∀ (n4 : Nat) (x1 : Int32) (x2 : Int32), fX12_bits_L4 x0  n4 x1 x2 = some R → Z 0 0 [] [(0, .int x0), (1, .int x1), (2, .int x2)] 4 [] := by
    intro n4
    induction n4 with
    | zero =>
      intro x1 x2 hf
      rw [fX12_bits_L4] at hf
      cases hf
    | succ n4 ih4 =>
      intro x1 x2 hf
      rw [fX12_bits_L4] at hf
      refine z_iload_n h dX12_bits_4 2 rfl rfl ?_
      refine z_bipush h (v := (12 : Int32)) dX12_bits_5 (by decide) rfl ?_
      refine z_icmp_ge h (tgt := 24) dX12_bits_7 (by decide) rfl (fun c1 => ?_) (fun c1 => ?_)
      · have hf := ite_t hf c1
        refine z_iload_n h dX12_bits_24 1 rfl rfl ?_
        have hf := Option.some.inj hf
        subst hf
        exact hret _ _ _ _ dX12_bits_25 ⟨rfl, rfl⟩
      have hf := ite_f hf c1
      refine z_iload_n h dX12_bits_10 1 rfl rfl ?_
      refine z_iload_n h dX12_bits_11 0 rfl rfl ?_
      refine z_iload_n h dX12_bits_12 2 rfl rfl ?_
      refine z_ishr h dX12_bits_13 rfl ?_
      refine z_iconst h (v := (1 : Int32)) dX12_bits_14 (by decide) rfl ?_
      refine z_iand h dX12_bits_15 rfl ?_
      refine z_iadd h dX12_bits_16 rfl ?_
      refine z_istore_n h (lv2 := [(1, .int (x1 + ((sr x0 x2) &&& (1 : Int32)))), (0, .int x0), (2, .int x2)]) dX12_bits_17 (by decide) rfl rfl ?_
      refine z_iinc h (v := (x2 + (1 : Int32))) (lv2 := [(2, .int (x2 + (1 : Int32))), (1, .int (x1 + ((sr x0 x2) &&& (1 : Int32)))), (0, .int x0)]) (j := 2) dX12_bits_18 rfl rfl (by decide) rfl rfl ?_
      refine z_goto h (tgt := 4) dX12_bits_21 (by decide) ?_
      refine z_locs h (lv2 := [(0, .int x0), (1, .int (x1 + ((sr x0 x2) &&& (1 : Int32)))), (2, .int (x2 + (1 : Int32)))]) [2, 1, 0] rfl ?_
      exact ih4 (x1 + ((sr x0 x2) &&& (1 : Int32))) (x2 + (1 : Int32)) hf
  rw [fX12_bits] at hf
  show Z 0 0 _ [(0, .int x0)] 0 []
  refine z_iconst h (v := (0 : Int32)) dX12_bits_0 (by decide) rfl ?_
  refine z_istore_n h (lv2 := [(1, .int (0 : Int32)), (0, .int x0)]) dX12_bits_1 (by decide) rfl rfl ?_
  refine z_iconst h (v := (0 : Int32)) dX12_bits_2 (by decide) rfl ?_
  refine z_istore_n h (lv2 := [(2, .int (0 : Int32)), (1, .int (0 : Int32)), (0, .int x0)]) dX12_bits_3 (by decide) rfl rfl ?_
  refine z_locs h (lv2 := [(0, .int x0), (1, .int (0 : Int32)), (2, .int (0 : Int32))]) [2, 1, 0] rfl ?_
  exact hL4 zF (0 : Int32) (0 : Int32) hf
def fX12_isWalker  (x0 : Int32) : Option (Int32) := Option.bind (fX12_in x0 (0 : Int32) (5 : Int32)) (fun v1 => gd (v1 == 0 || v1 == 1) ((some v1)))
abbrev rmX12_isWalker : Room := { frames := 1, cells := 0, slots := 0, locals := 22 }
set_option maxRecDepth 100000 in
set_option maxHeartbeats 4000000 in
theorem ctX12_isWalker (l : Launch) (G : zG)  (x0 : Int32) {R : Int32} (hf : fX12_isWalker x0 = some R) : zCt l yX12_isWalker wsX12_isWalker rmX12_isWalker G [] [.int x0] (fun v w => v = some (.int (R)) ∧ w = []) := by
  refine zMkB (own := RX12) false (by decide) (by decide +kernel) rfl rfl (Nat.le_of_ble_eq_true rfl) ?_
  intro Z h hret
  rw [fX12_isWalker] at hf
  show Z 0 0 _ [(0, .int x0)] 0 []
  refine z_iload_n h dX12_isWalker_0 0 rfl rfl ?_
  refine z_iconst h (v := (0 : Int32)) dX12_isWalker_1 (by decide) rfl ?_
  refine z_iconst h (v := (5 : Int32)) dX12_isWalker_2 (by decide) rfl ?_
  obtain ⟨v1, hv1, hf⟩ := bd_some hf
  refine z_callS h (np := 3) (st := []) (wr := []) [.int x0, .int (0 : Int32), .int (5 : Int32)] (ctX12_in l G x0 (0 : Int32) (5 : Int32) hv1) gX12_isWalker_X12_in (by decide +kernel) rfl ⟨Nat.le_of_ble_eq_true rfl, Nat.le_of_ble_eq_true rfl⟩ ⟨Nat.le_refl _, Nat.le_refl _⟩ rfl rfl rfl [] [] rfl rfl rfl rfl (by decide) (Nat.le_of_ble_eq_true rfl) dX12_isWalker_3 rfl rfl (fun rv1 wv1 hrv1 => ?_)
  obtain ⟨rfl, rfl⟩ := hrv1
  refine z_perm h (w2 := []) (st := [.int v1]) [] rfl rfl ?_
  obtain ⟨hg2, hf⟩ := gd_some hf
  have hf := Option.some.inj hf
  subst hf
  exact hret _ _ _ _ dX12_isWalker_6 hg2 ⟨rfl, rfl⟩
def fX12_isCell  (x0 : Int32) : Option (Int32) := Option.bind (fX12_in x0 (0 : Int32) (11 : Int32)) (fun v1 => gd (v1 == 0 || v1 == 1) ((some v1)))
abbrev rmX12_isCell : Room := { frames := 1, cells := 0, slots := 0, locals := 22 }
set_option maxRecDepth 100000 in
set_option maxHeartbeats 4000000 in
theorem ctX12_isCell (l : Launch) (G : zG)  (x0 : Int32) {R : Int32} (hf : fX12_isCell x0 = some R) : zCt l yX12_isCell wsX12_isCell rmX12_isCell G [] [.int x0] (fun v w => v = some (.int (R)) ∧ w = []) := by
  refine zMkB (own := RX12) false (by decide) (by decide +kernel) rfl rfl (Nat.le_of_ble_eq_true rfl) ?_
  intro Z h hret
  rw [fX12_isCell] at hf
  show Z 0 0 _ [(0, .int x0)] 0 []
  refine z_iload_n h dX12_isCell_0 0 rfl rfl ?_
  refine z_iconst h (v := (0 : Int32)) dX12_isCell_1 (by decide) rfl ?_
  refine z_bipush h (v := (11 : Int32)) dX12_isCell_2 (by decide) rfl ?_
  obtain ⟨v1, hv1, hf⟩ := bd_some hf
  refine z_callS h (np := 3) (st := []) (wr := []) [.int x0, .int (0 : Int32), .int (11 : Int32)] (ctX12_in l G x0 (0 : Int32) (11 : Int32) hv1) gX12_isCell_X12_in (by decide +kernel) rfl ⟨Nat.le_of_ble_eq_true rfl, Nat.le_of_ble_eq_true rfl⟩ ⟨Nat.le_refl _, Nat.le_refl _⟩ rfl rfl rfl [] [] rfl rfl rfl rfl (by decide) (Nat.le_of_ble_eq_true rfl) dX12_isCell_4 rfl rfl (fun rv1 wv1 hrv1 => ?_)
  obtain ⟨rfl, rfl⟩ := hrv1
  refine z_perm h (w2 := []) (st := [.int v1]) [] rfl rfl ?_
  obtain ⟨hg2, hf⟩ := gd_some hf
  have hf := Option.some.inj hf
  subst hf
  exact hret _ _ _ _ dX12_isCell_7 hg2 ⟨rfl, rfl⟩
def fX12_asNow_L2 (c0_book : Nat → Int32)  : Nat → Int32 → Int32 → Int32 → Int32 → (Nat → Int32) → Int32 → Option (Int32 × Int32 × Int32 × Int32 × (Nat → Int32))
  | 0, _, _, _, _, _, _ => none
  | n + 1, c0_offs, c0_offAt, c0_offWho, c0_lastOff, c0_now, x1 => (if (56 : Int32) ≤ x1 then (some ((0 : Int32), (-6 : Int32), (-6 : Int32), (-6 : Int32), c0_now)) else gd (inb x1 56) (gd (inb x1 56) (((fX12_asNow_L2 c0_book  n) c0_offs c0_offAt c0_offWho c0_lastOff (upd c0_now (x1).toNatClampNeg (c0_book (x1).toNatClampNeg)) (x1 + (1 : Int32))))))
def fX12_asNow (c0_offs : Int32) (c0_offAt : Int32) (c0_offWho : Int32) (c0_lastOff : Int32) (c0_book : Nat → Int32) (c0_now : Nat → Int32)  : Option (Int32 × Int32 × Int32 × Int32 × (Nat → Int32)) := (fX12_asNow_L2 c0_book  zF c0_offs c0_offAt c0_offWho c0_lastOff c0_now (0 : Int32))
abbrev rmX12_asNow : Room := { frames := 0, cells := 0, slots := 0, locals := 0 }
set_option maxRecDepth 100000 in
set_option maxHeartbeats 4000000 in
theorem ctX12_asNow (l : Launch) (G : zG) (a0 a0_book a0_now a0_sight a0_pad a0_can a0_fitting a0_wins a0_image a0_isKept : Nat) (c0_sights : Int32) (c0_signs : Int32) (c0_offs : Int32) (c0_offAt : Int32) (c0_offWho : Int32) (c0_lastOff : Int32) (c0_reason : Int32) (c0_acts : Int32) (c0_book : Nat → Int32) (c0_now : Nat → Int32)  {R : Int32 × Int32 × Int32 × Int32 × (Nat → Int32)} (hf : fX12_asNow c0_offs c0_offAt c0_offWho c0_lastOff c0_book c0_now = some R) : zCt l yX12_asNow wsX12_asNow rmX12_asNow G [(a0, .inr (12, [.ref a0_book, .ref a0_now, .int c0_sights, .ref a0_sight, .int c0_signs, .ref a0_pad, .int c0_offs, .int c0_offAt, .int c0_offWho, .int c0_lastOff, .int c0_reason, .int c0_acts, .ref a0_can, .ref a0_fitting, .ref a0_wins, .ref a0_image, .ref a0_isKept])), (a0_book, .inl (G.2.1, 56, .inl c0_book)), (a0_now, .inl (G.2.1, 56, .inl c0_now))] [.ref a0] (fun v w => v = none ∧ w = [(a0, .inr (12, [.ref a0_book, .ref a0_now, .int c0_sights, .ref a0_sight, .int c0_signs, .ref a0_pad, .int (R.1), .int (R.2.1), .int (R.2.2.1), .int (R.2.2.2.1), .int c0_reason, .int c0_acts, .ref a0_can, .ref a0_fitting, .ref a0_wins, .ref a0_image, .ref a0_isKept])), (a0_book, .inl (G.2.1, 56, .inl c0_book)), (a0_now, .inl (G.2.1, 56, .inl (R.2.2.2.2)))]) := by
  refine zMkV (own := RX12) false (by decide) (by decide +kernel) rfl rfl (Nat.le_of_ble_eq_true rfl) ?_
  intro Z h hret
  have hL2 : ∀ (n2 : Nat) (c0_offs : Int32) (c0_offAt : Int32) (c0_offWho : Int32) (c0_lastOff : Int32) (c0_now : Nat → Int32) (x1 : Int32), fX12_asNow_L2 c0_book  n2 c0_offs c0_offAt c0_offWho c0_lastOff c0_now x1 = some R → Z 0 0 [(a0, .inr (12, [.ref a0_book, .ref a0_now, .int c0_sights, .ref a0_sight, .int c0_signs, .ref a0_pad, .int c0_offs, .int c0_offAt, .int c0_offWho, .int c0_lastOff, .int c0_reason, .int c0_acts, .ref a0_can, .ref a0_fitting, .ref a0_wins, .ref a0_image, .ref a0_isKept])), (a0_book, .inl (G.2.1, 56, .inl c0_book)), (a0_now, .inl (G.2.1, 56, .inl c0_now))] [(0, .ref a0), (1, .int x1)] 2 [] := by
    intro n2
    induction n2 with
    | zero =>
      intro c0_offs c0_offAt c0_offWho c0_lastOff c0_now x1 hf
      rw [fX12_asNow_L2] at hf
      cases hf
    | succ n2 ih2 =>
      intro c0_offs c0_offAt c0_offWho c0_lastOff c0_now x1 hf
      rw [fX12_asNow_L2] at hf
      refine z_iload_n h dX12_asNow_2 1 rfl rfl ?_
      refine z_bipush h (v := (56 : Int32)) dX12_asNow_3 (by decide) rfl ?_
      refine z_icmp_ge h (tgt := 26) dX12_asNow_5 (by decide) rfl (fun c1 => ?_) (fun c1 => ?_)
      · have hf := ite_t hf c1
        refine z_aload_n h dX12_asNow_26 0 rfl rfl ?_
        refine z_iconst h (v := (0 : Int32)) dX12_asNow_27 (by decide) rfl ?_
        refine z_put h (C := RX12) (T := TX12) (N := 17) 0 rfl rfl 6 (by decide) (by decide +kernel) (by decide +kernel) tyX12 tyX12_ok nmX12 (w2 := [(a0, .inr (12, [.ref a0_book, .ref a0_now, .int c0_sights, .ref a0_sight, .int c0_signs, .ref a0_pad, .int (0 : Int32), .int c0_offAt, .int c0_offWho, .int c0_lastOff, .int c0_reason, .int c0_acts, .ref a0_can, .ref a0_fitting, .ref a0_wins, .ref a0_image, .ref a0_isKept])), (a0_book, .inl (G.2.1, 56, .inl c0_book)), (a0_now, .inl (G.2.1, 56, .inl c0_now))]) rfl rfl rfl (Nat.le_of_ble_eq_true rfl) rfl dX12_asNow_28 rfl ?_
        refine z_aload_n h dX12_asNow_31 0 rfl rfl ?_
        refine z_bipush h (v := (-6 : Int32)) dX12_asNow_32 (by decide) rfl ?_
        refine z_put h (C := RX12) (T := TX12) (N := 17) 0 rfl rfl 7 (by decide) (by decide +kernel) (by decide +kernel) tyX12 tyX12_ok nmX12 (w2 := [(a0, .inr (12, [.ref a0_book, .ref a0_now, .int c0_sights, .ref a0_sight, .int c0_signs, .ref a0_pad, .int (0 : Int32), .int (-6 : Int32), .int c0_offWho, .int c0_lastOff, .int c0_reason, .int c0_acts, .ref a0_can, .ref a0_fitting, .ref a0_wins, .ref a0_image, .ref a0_isKept])), (a0_book, .inl (G.2.1, 56, .inl c0_book)), (a0_now, .inl (G.2.1, 56, .inl c0_now))]) rfl rfl rfl (Nat.le_of_ble_eq_true rfl) rfl dX12_asNow_34 rfl ?_
        refine z_aload_n h dX12_asNow_37 0 rfl rfl ?_
        refine z_bipush h (v := (-6 : Int32)) dX12_asNow_38 (by decide) rfl ?_
        refine z_put h (C := RX12) (T := TX12) (N := 17) 0 rfl rfl 8 (by decide) (by decide +kernel) (by decide +kernel) tyX12 tyX12_ok nmX12 (w2 := [(a0, .inr (12, [.ref a0_book, .ref a0_now, .int c0_sights, .ref a0_sight, .int c0_signs, .ref a0_pad, .int (0 : Int32), .int (-6 : Int32), .int (-6 : Int32), .int c0_lastOff, .int c0_reason, .int c0_acts, .ref a0_can, .ref a0_fitting, .ref a0_wins, .ref a0_image, .ref a0_isKept])), (a0_book, .inl (G.2.1, 56, .inl c0_book)), (a0_now, .inl (G.2.1, 56, .inl c0_now))]) rfl rfl rfl (Nat.le_of_ble_eq_true rfl) rfl dX12_asNow_40 rfl ?_
        refine z_aload_n h dX12_asNow_43 0 rfl rfl ?_
        refine z_bipush h (v := (-6 : Int32)) dX12_asNow_44 (by decide) rfl ?_
        refine z_put h (C := RX12) (T := TX12) (N := 17) 0 rfl rfl 9 (by decide) (by decide +kernel) (by decide +kernel) tyX12 tyX12_ok nmX12 (w2 := [(a0, .inr (12, [.ref a0_book, .ref a0_now, .int c0_sights, .ref a0_sight, .int c0_signs, .ref a0_pad, .int (0 : Int32), .int (-6 : Int32), .int (-6 : Int32), .int (-6 : Int32), .int c0_reason, .int c0_acts, .ref a0_can, .ref a0_fitting, .ref a0_wins, .ref a0_image, .ref a0_isKept])), (a0_book, .inl (G.2.1, 56, .inl c0_book)), (a0_now, .inl (G.2.1, 56, .inl c0_now))]) rfl rfl rfl (Nat.le_of_ble_eq_true rfl) rfl dX12_asNow_46 rfl ?_
        have hf := Option.some.inj hf
        subst hf
        exact hret _ _ _ dX12_asNow_49 ⟨rfl, rfl⟩
      have hf := ite_f hf c1
      refine z_aload_n h dX12_asNow_8 0 rfl rfl ?_
      refine z_get h (C := RX12) (T := TX12) (N := 17) (v := .ref a0_now) 0 rfl rfl 1 (by decide) (by decide +kernel) (by decide +kernel) rfl dX12_asNow_9 rfl ?_
      refine z_iload_n h dX12_asNow_12 1 rfl rfl ?_
      refine z_aload_n h dX12_asNow_13 0 rfl rfl ?_
      refine z_get h (C := RX12) (T := TX12) (N := 17) (v := .ref a0_book) 0 rfl rfl 0 (by decide) (by decide +kernel) (by decide +kernel) rfl dX12_asNow_14 rfl ?_
      refine z_iload_n h dX12_asNow_17 1 rfl rfl ?_
      obtain ⟨hg2, hf⟩ := gd_some hf
      refine z_iald h 1 rfl rfl hg2 dX12_asNow_18 rfl ?_
      obtain ⟨hg3, hf⟩ := gd_some hf
      refine z_iast h (w2 := [(a0, .inr (12, [.ref a0_book, .ref a0_now, .int c0_sights, .ref a0_sight, .int c0_signs, .ref a0_pad, .int c0_offs, .int c0_offAt, .int c0_offWho, .int c0_lastOff, .int c0_reason, .int c0_acts, .ref a0_can, .ref a0_fitting, .ref a0_wins, .ref a0_image, .ref a0_isKept])), (a0_book, .inl (G.2.1, 56, .inl c0_book)), (a0_now, .inl (G.2.1, 56, .inl (upd c0_now (x1).toNatClampNeg (c0_book (x1).toNatClampNeg))))]) 2 rfl rfl hg3 dX12_asNow_19 rfl rfl ?_
      refine z_iinc h (v := (x1 + (1 : Int32))) (lv2 := [(1, .int (x1 + (1 : Int32))), (0, .ref a0)]) (j := 1) dX12_asNow_20 rfl rfl (by decide) rfl rfl ?_
      refine z_goto h (tgt := 2) dX12_asNow_23 (by decide) ?_
      refine z_locs h (lv2 := [(0, .ref a0), (1, .int (x1 + (1 : Int32)))]) [1, 0] rfl ?_
      exact ih2 c0_offs c0_offAt c0_offWho c0_lastOff (upd c0_now (x1).toNatClampNeg (c0_book (x1).toNatClampNeg)) (x1 + (1 : Int32)) hf
  rw [fX12_asNow] at hf
  show Z 0 0 _ [(0, .ref a0)] 0 []
  refine z_iconst h (v := (0 : Int32)) dX12_asNow_0 (by decide) rfl ?_
  refine z_istore_n h (lv2 := [(1, .int (0 : Int32)), (0, .ref a0)]) dX12_asNow_1 (by decide) rfl rfl ?_
  refine z_locs h (lv2 := [(0, .ref a0), (1, .int (0 : Int32))]) [1, 0] rfl ?_
  exact hL2 zF c0_offs c0_offAt c0_offWho c0_lastOff c0_now (0 : Int32) hf
def fX12_holder_L2 (c0_now : Nat → Int32) (x1 : Int32)  : Nat → Int32 → Option (Int32)
  | 0, _ => none
  | n + 1, x2 => (if (6 : Int32) ≤ x2 then (some (-6 : Int32)) else gd (inb ((18 : Int32) + x2) 56) ((if (c0_now (((18 : Int32) + x2)).toNatClampNeg) = x1 then (some x2) else ((fX12_holder_L2 c0_now x1  n) (x2 + (1 : Int32))))))
def fX12_holder (c0_now : Nat → Int32) (x1 : Int32) : Option (Int32) := (fX12_holder_L2 c0_now x1  zF (0 : Int32))
abbrev rmX12_holder : Room := { frames := 0, cells := 0, slots := 0, locals := 0 }
set_option maxRecDepth 100000 in
set_option maxHeartbeats 4000000 in
theorem ctX12_holder (l : Launch) (G : zG) (a0 a0_book a0_now a0_sight a0_pad a0_can a0_fitting a0_wins a0_image a0_isKept : Nat) (c0_sights : Int32) (c0_signs : Int32) (c0_offs : Int32) (c0_offAt : Int32) (c0_offWho : Int32) (c0_lastOff : Int32) (c0_reason : Int32) (c0_acts : Int32) (c0_now : Nat → Int32) (x1 : Int32) {R : Int32} (hf : fX12_holder c0_now x1 = some R) : zCt l yX12_holder wsX12_holder rmX12_holder G [(a0, .inr (12, [.ref a0_book, .ref a0_now, .int c0_sights, .ref a0_sight, .int c0_signs, .ref a0_pad, .int c0_offs, .int c0_offAt, .int c0_offWho, .int c0_lastOff, .int c0_reason, .int c0_acts, .ref a0_can, .ref a0_fitting, .ref a0_wins, .ref a0_image, .ref a0_isKept])), (a0_now, .inl (G.2.1, 56, .inl c0_now))] [.ref a0, .int x1] (fun v w => v = some (.int (R)) ∧ w = [(a0, .inr (12, [.ref a0_book, .ref a0_now, .int c0_sights, .ref a0_sight, .int c0_signs, .ref a0_pad, .int c0_offs, .int c0_offAt, .int c0_offWho, .int c0_lastOff, .int c0_reason, .int c0_acts, .ref a0_can, .ref a0_fitting, .ref a0_wins, .ref a0_image, .ref a0_isKept])), (a0_now, .inl (G.2.1, 56, .inl c0_now))]) := by
  refine zMkI (own := RX12) false (by decide) (by decide +kernel) rfl rfl (Nat.le_of_ble_eq_true rfl) ?_
  intro Z h hret
  have hL2 : ∀ (n2 : Nat) (x2 : Int32), fX12_holder_L2 c0_now x1  n2 x2 = some R → Z 0 0 [(a0, .inr (12, [.ref a0_book, .ref a0_now, .int c0_sights, .ref a0_sight, .int c0_signs, .ref a0_pad, .int c0_offs, .int c0_offAt, .int c0_offWho, .int c0_lastOff, .int c0_reason, .int c0_acts, .ref a0_can, .ref a0_fitting, .ref a0_wins, .ref a0_image, .ref a0_isKept])), (a0_now, .inl (G.2.1, 56, .inl c0_now))] [(0, .ref a0), (1, .int x1), (2, .int x2)] 2 [] := by
    intro n2
    induction n2 with
    | zero =>
      intro x2 hf
      rw [fX12_holder_L2] at hf
      cases hf
    | succ n2 ih2 =>
      intro x2 hf
      rw [fX12_holder_L2] at hf
      refine z_iload_n h dX12_holder_2 2 rfl rfl ?_
      refine z_bipush h (v := (6 : Int32)) dX12_holder_3 (by decide) rfl ?_
      refine z_icmp_ge h (tgt := 29) dX12_holder_5 (by decide) rfl (fun c1 => ?_) (fun c1 => ?_)
      · have hf := ite_t hf c1
        refine z_bipush h (v := (-6 : Int32)) dX12_holder_29 (by decide) rfl ?_
        have hf := Option.some.inj hf
        subst hf
        exact hret _ _ _ _ dX12_holder_31 ⟨rfl, rfl⟩
      have hf := ite_f hf c1
      refine z_aload_n h dX12_holder_8 0 rfl rfl ?_
      refine z_get h (C := RX12) (T := TX12) (N := 17) (v := .ref a0_now) 0 rfl rfl 1 (by decide) (by decide +kernel) (by decide +kernel) rfl dX12_holder_9 rfl ?_
      refine z_bipush h (v := (18 : Int32)) dX12_holder_12 (by decide) rfl ?_
      refine z_iload_n h dX12_holder_14 2 rfl rfl ?_
      refine z_iadd h dX12_holder_15 rfl ?_
      obtain ⟨hg2, hf⟩ := gd_some hf
      refine z_iald h 1 rfl rfl hg2 dX12_holder_16 rfl ?_
      refine z_iload_n h dX12_holder_17 1 rfl rfl ?_
      refine z_icmp_ne h (tgt := 23) dX12_holder_18 (by decide) rfl (fun c3 => ?_) (fun c3 => ?_)
      · have hf := ite_f hf c3
        refine z_iinc h (v := (x2 + (1 : Int32))) (lv2 := [(2, .int (x2 + (1 : Int32))), (0, .ref a0), (1, .int x1)]) (j := 2) dX12_holder_23 rfl rfl (by decide) rfl rfl ?_
        refine z_goto h (tgt := 2) dX12_holder_26 (by decide) ?_
        refine z_locs h (lv2 := [(0, .ref a0), (1, .int x1), (2, .int (x2 + (1 : Int32)))]) [1, 2, 0] rfl ?_
        exact ih2 (x2 + (1 : Int32)) hf
      have hf := ite_t hf c3
      refine z_iload_n h dX12_holder_21 2 rfl rfl ?_
      have hf := Option.some.inj hf
      subst hf
      exact hret _ _ _ _ dX12_holder_22 ⟨rfl, rfl⟩
  rw [fX12_holder] at hf
  show Z 0 0 _ [(0, .ref a0), (1, .int x1)] 0 []
  refine z_iconst h (v := (0 : Int32)) dX12_holder_0 (by decide) rfl ?_
  refine z_istore_n h (lv2 := [(2, .int (0 : Int32)), (0, .ref a0), (1, .int x1)]) dX12_holder_1 (by decide) rfl rfl ?_
  refine z_locs h (lv2 := [(0, .ref a0), (1, .int x1), (2, .int (0 : Int32))]) [1, 2, 0] rfl ?_
  exact hL2 zF (0 : Int32) hf
def fX12_atPeace_b40 (c0_now : Nat → Int32) (x1 : Int32)  (s0 : Int32) : Option (Int32) := gd (s0 == 0 || s0 == 1) ((some s0))
def fX12_atPeace_b39 (c0_now : Nat → Int32) (x1 : Int32)   : Option (Int32) := (fX12_atPeace_b40 c0_now x1  (0 : Int32))
def fX12_atPeace (c0_now : Nat → Int32) (x1 : Int32) : Option (Int32) := gd (inb ((6 : Int32) + x1) 56) (gd (inb (51 : Int32) 56) (Option.bind (fX12_has (c0_now (((6 : Int32) + x1)).toNatClampNeg) (c0_now ((51 : Int32)).toNatClampNeg)) (fun v4 => (if v4 = (0 : Int32) then (fX12_atPeace_b39 c0_now x1  ) else gd (inb ((12 : Int32) + x1) 56) ((if (4 : Int32) ≤ (c0_now (((12 : Int32) + x1)).toNatClampNeg) then (fX12_atPeace_b39 c0_now x1  ) else (fX12_atPeace_b40 c0_now x1  (1 : Int32))))))))
abbrev rmX12_atPeace : Room := { frames := 1, cells := 0, slots := 0, locals := 21 }
set_option maxRecDepth 100000 in
set_option maxHeartbeats 4000000 in
theorem ctX12_atPeace (l : Launch) (G : zG) (a0 a0_book a0_now a0_sight a0_pad a0_can a0_fitting a0_wins a0_image a0_isKept : Nat) (c0_sights : Int32) (c0_signs : Int32) (c0_offs : Int32) (c0_offAt : Int32) (c0_offWho : Int32) (c0_lastOff : Int32) (c0_reason : Int32) (c0_acts : Int32) (c0_now : Nat → Int32) (x1 : Int32) {R : Int32} (hf : fX12_atPeace c0_now x1 = some R) : zCt l yX12_atPeace wsX12_atPeace rmX12_atPeace G [(a0, .inr (12, [.ref a0_book, .ref a0_now, .int c0_sights, .ref a0_sight, .int c0_signs, .ref a0_pad, .int c0_offs, .int c0_offAt, .int c0_offWho, .int c0_lastOff, .int c0_reason, .int c0_acts, .ref a0_can, .ref a0_fitting, .ref a0_wins, .ref a0_image, .ref a0_isKept])), (a0_now, .inl (G.2.1, 56, .inl c0_now))] [.ref a0, .int x1] (fun v w => v = some (.int (R)) ∧ w = [(a0, .inr (12, [.ref a0_book, .ref a0_now, .int c0_sights, .ref a0_sight, .int c0_signs, .ref a0_pad, .int c0_offs, .int c0_offAt, .int c0_offWho, .int c0_lastOff, .int c0_reason, .int c0_acts, .ref a0_can, .ref a0_fitting, .ref a0_wins, .ref a0_image, .ref a0_isKept])), (a0_now, .inl (G.2.1, 56, .inl c0_now))]) := by
  refine zMkB (own := RX12) false (by decide) (by decide +kernel) rfl rfl (Nat.le_of_ble_eq_true rfl) ?_
  intro Z h hret
  have hB40 : ∀ (s0 : Int32), fX12_atPeace_b40 c0_now x1  s0 = some R → Z 0 0 [(a0, .inr (12, [.ref a0_book, .ref a0_now, .int c0_sights, .ref a0_sight, .int c0_signs, .ref a0_pad, .int c0_offs, .int c0_offAt, .int c0_offWho, .int c0_lastOff, .int c0_reason, .int c0_acts, .ref a0_can, .ref a0_fitting, .ref a0_wins, .ref a0_image, .ref a0_isKept])), (a0_now, .inl (G.2.1, 56, .inl c0_now))] [] 40 [.int s0] := by
    intro s0 hf
    rw [fX12_atPeace_b40] at hf
    obtain ⟨hg1, hf⟩ := gd_some hf
    have hf := Option.some.inj hf
    subst hf
    exact hret _ _ _ _ dX12_atPeace_40 hg1 ⟨rfl, rfl⟩
  have hB39 : fX12_atPeace_b39 c0_now x1   = some R → Z 0 0 [(a0, .inr (12, [.ref a0_book, .ref a0_now, .int c0_sights, .ref a0_sight, .int c0_signs, .ref a0_pad, .int c0_offs, .int c0_offAt, .int c0_offWho, .int c0_lastOff, .int c0_reason, .int c0_acts, .ref a0_can, .ref a0_fitting, .ref a0_wins, .ref a0_image, .ref a0_isKept])), (a0_now, .inl (G.2.1, 56, .inl c0_now))] [] 39 [] := by
    intro hf
    rw [fX12_atPeace_b39] at hf
    refine z_iconst h (v := (0 : Int32)) dX12_atPeace_39 (by decide) rfl ?_
    exact hB40 (0 : Int32) hf
  rw [fX12_atPeace] at hf
  show Z 0 0 _ [(0, .ref a0), (1, .int x1)] 0 []
  refine z_aload_n h dX12_atPeace_0 0 rfl rfl ?_
  refine z_get h (C := RX12) (T := TX12) (N := 17) (v := .ref a0_now) 0 rfl rfl 1 (by decide) (by decide +kernel) (by decide +kernel) rfl dX12_atPeace_1 rfl ?_
  refine z_bipush h (v := (6 : Int32)) dX12_atPeace_4 (by decide) rfl ?_
  refine z_iload_n h dX12_atPeace_6 1 rfl rfl ?_
  refine z_iadd h dX12_atPeace_7 rfl ?_
  obtain ⟨hg2, hf⟩ := gd_some hf
  refine z_iald h 1 rfl rfl hg2 dX12_atPeace_8 rfl ?_
  refine z_aload_n h dX12_atPeace_9 0 rfl rfl ?_
  refine z_get h (C := RX12) (T := TX12) (N := 17) (v := .ref a0_now) 0 rfl rfl 1 (by decide) (by decide +kernel) (by decide +kernel) rfl dX12_atPeace_10 rfl ?_
  refine z_bipush h (v := (51 : Int32)) dX12_atPeace_13 (by decide) rfl ?_
  obtain ⟨hg3, hf⟩ := gd_some hf
  refine z_iald h 1 rfl rfl hg3 dX12_atPeace_15 rfl ?_
  obtain ⟨v4, hv4, hf⟩ := bd_some hf
  refine z_callS h (np := 2) (st := []) (wr := [(a0, .inr (12, [.ref a0_book, .ref a0_now, .int c0_sights, .ref a0_sight, .int c0_signs, .ref a0_pad, .int c0_offs, .int c0_offAt, .int c0_offWho, .int c0_lastOff, .int c0_reason, .int c0_acts, .ref a0_can, .ref a0_fitting, .ref a0_wins, .ref a0_image, .ref a0_isKept])), (a0_now, .inl (G.2.1, 56, .inl c0_now))]) [.int (c0_now (((6 : Int32) + x1)).toNatClampNeg), .int (c0_now ((51 : Int32)).toNatClampNeg)] (ctX12_has l G (c0_now (((6 : Int32) + x1)).toNatClampNeg) (c0_now ((51 : Int32)).toNatClampNeg) hv4) gX12_atPeace_X12_has (by decide +kernel) rfl ⟨Nat.le_of_ble_eq_true rfl, Nat.le_of_ble_eq_true rfl⟩ ⟨Nat.le_refl _, Nat.le_refl _⟩ rfl rfl rfl [] [0, 1] rfl rfl rfl rfl (by decide) (Nat.le_of_ble_eq_true rfl) dX12_atPeace_16 rfl rfl (fun rv4 wv4 hrv4 => ?_)
  obtain ⟨rfl, rfl⟩ := hrv4
  refine z_perm h (w2 := [(a0, .inr (12, [.ref a0_book, .ref a0_now, .int c0_sights, .ref a0_sight, .int c0_signs, .ref a0_pad, .int c0_offs, .int c0_offAt, .int c0_offWho, .int c0_lastOff, .int c0_reason, .int c0_acts, .ref a0_can, .ref a0_fitting, .ref a0_wins, .ref a0_image, .ref a0_isKept])), (a0_now, .inl (G.2.1, 56, .inl c0_now))]) (st := [.int v4]) [0, 1] rfl rfl ?_
  refine z_if_eq h (tgt := 39) dX12_atPeace_19 (by decide) rfl (fun c5 => ?_) (fun c5 => ?_)
  · have hf := ite_t hf c5
    refine z_locs h (lv2 := []) [] rfl ?_
    exact hB39  hf
  have hf := ite_f hf c5
  refine z_aload_n h dX12_atPeace_22 0 rfl rfl ?_
  refine z_get h (C := RX12) (T := TX12) (N := 17) (v := .ref a0_now) 0 rfl rfl 1 (by decide) (by decide +kernel) (by decide +kernel) rfl dX12_atPeace_23 rfl ?_
  refine z_bipush h (v := (12 : Int32)) dX12_atPeace_26 (by decide) rfl ?_
  refine z_iload_n h dX12_atPeace_28 1 rfl rfl ?_
  refine z_iadd h dX12_atPeace_29 rfl ?_
  obtain ⟨hg6, hf⟩ := gd_some hf
  refine z_iald h 1 rfl rfl hg6 dX12_atPeace_30 rfl ?_
  refine z_iconst h (v := (4 : Int32)) dX12_atPeace_31 (by decide) rfl ?_
  refine z_icmp_ge h (tgt := 39) dX12_atPeace_32 (by decide) rfl (fun c7 => ?_) (fun c7 => ?_)
  · have hf := ite_t hf c7
    refine z_locs h (lv2 := []) [] rfl ?_
    exact hB39  hf
  have hf := ite_f hf c7
  refine z_iconst h (v := (1 : Int32)) dX12_atPeace_35 (by decide) rfl ?_
  refine z_goto h (tgt := 40) dX12_atPeace_36 (by decide) ?_
  refine z_locs h (lv2 := []) [] rfl ?_
  exact hB40 (1 : Int32) hf
def fX12_isHushed_b33 (c0_now : Nat → Int32) (x1 : Int32)  (s0 : Int32) : Option (Int32) := gd (s0 == 0 || s0 == 1) ((some s0))
def fX12_isHushed_b28 (c0_now : Nat → Int32) (x1 : Int32)   : Option (Int32) := (fX12_isHushed_b33 c0_now x1  (1 : Int32))
def fX12_isHushed_b32 (c0_now : Nat → Int32) (x1 : Int32)   : Option (Int32) := (fX12_isHushed_b33 c0_now x1  (0 : Int32))
def fX12_isHushed (c0_now : Nat → Int32) (x1 : Int32) : Option (Int32) := Option.bind (fX12_atPeace c0_now x1) (fun v2 => (if v2 = (0 : Int32) then Option.bind (fX12_holder c0_now x1) (fun v4 => (if v4 < (0 : Int32) then (fX12_isHushed_b32 c0_now x1  ) else Option.bind (fX12_holder c0_now x1) (fun v6 => Option.bind (fX12_atPeace c0_now v6) (fun v7 => (if v7 = (0 : Int32) then (fX12_isHushed_b32 c0_now x1  ) else (fX12_isHushed_b28 c0_now x1  )))))) else (fX12_isHushed_b28 c0_now x1  )))
abbrev rmX12_isHushed : Room := { frames := 2, cells := 0, slots := 0, locals := 42 }
set_option maxRecDepth 100000 in
set_option maxHeartbeats 4000000 in
theorem ctX12_isHushed (l : Launch) (G : zG) (a0 a0_book a0_now a0_sight a0_pad a0_can a0_fitting a0_wins a0_image a0_isKept : Nat) (c0_sights : Int32) (c0_signs : Int32) (c0_offs : Int32) (c0_offAt : Int32) (c0_offWho : Int32) (c0_lastOff : Int32) (c0_reason : Int32) (c0_acts : Int32) (c0_now : Nat → Int32) (x1 : Int32) {R : Int32} (hf : fX12_isHushed c0_now x1 = some R) : zCt l yX12_isHushed wsX12_isHushed rmX12_isHushed G [(a0, .inr (12, [.ref a0_book, .ref a0_now, .int c0_sights, .ref a0_sight, .int c0_signs, .ref a0_pad, .int c0_offs, .int c0_offAt, .int c0_offWho, .int c0_lastOff, .int c0_reason, .int c0_acts, .ref a0_can, .ref a0_fitting, .ref a0_wins, .ref a0_image, .ref a0_isKept])), (a0_now, .inl (G.2.1, 56, .inl c0_now))] [.ref a0, .int x1] (fun v w => v = some (.int (R)) ∧ w = [(a0, .inr (12, [.ref a0_book, .ref a0_now, .int c0_sights, .ref a0_sight, .int c0_signs, .ref a0_pad, .int c0_offs, .int c0_offAt, .int c0_offWho, .int c0_lastOff, .int c0_reason, .int c0_acts, .ref a0_can, .ref a0_fitting, .ref a0_wins, .ref a0_image, .ref a0_isKept])), (a0_now, .inl (G.2.1, 56, .inl c0_now))]) := by
  refine zMkB (own := RX12) false (by decide) (by decide +kernel) rfl rfl (Nat.le_of_ble_eq_true rfl) ?_
  intro Z h hret
  have hB33 : ∀ (s0 : Int32), fX12_isHushed_b33 c0_now x1  s0 = some R → Z 0 0 [(a0, .inr (12, [.ref a0_book, .ref a0_now, .int c0_sights, .ref a0_sight, .int c0_signs, .ref a0_pad, .int c0_offs, .int c0_offAt, .int c0_offWho, .int c0_lastOff, .int c0_reason, .int c0_acts, .ref a0_can, .ref a0_fitting, .ref a0_wins, .ref a0_image, .ref a0_isKept])), (a0_now, .inl (G.2.1, 56, .inl c0_now))] [] 33 [.int s0] := by
    intro s0 hf
    rw [fX12_isHushed_b33] at hf
    obtain ⟨hg1, hf⟩ := gd_some hf
    have hf := Option.some.inj hf
    subst hf
    exact hret _ _ _ _ dX12_isHushed_33 hg1 ⟨rfl, rfl⟩
  have hB28 : fX12_isHushed_b28 c0_now x1   = some R → Z 0 0 [(a0, .inr (12, [.ref a0_book, .ref a0_now, .int c0_sights, .ref a0_sight, .int c0_signs, .ref a0_pad, .int c0_offs, .int c0_offAt, .int c0_offWho, .int c0_lastOff, .int c0_reason, .int c0_acts, .ref a0_can, .ref a0_fitting, .ref a0_wins, .ref a0_image, .ref a0_isKept])), (a0_now, .inl (G.2.1, 56, .inl c0_now))] [] 28 [] := by
    intro hf
    rw [fX12_isHushed_b28] at hf
    refine z_iconst h (v := (1 : Int32)) dX12_isHushed_28 (by decide) rfl ?_
    refine z_goto h (tgt := 33) dX12_isHushed_29 (by decide) ?_
    exact hB33 (1 : Int32) hf
  have hB32 : fX12_isHushed_b32 c0_now x1   = some R → Z 0 0 [(a0, .inr (12, [.ref a0_book, .ref a0_now, .int c0_sights, .ref a0_sight, .int c0_signs, .ref a0_pad, .int c0_offs, .int c0_offAt, .int c0_offWho, .int c0_lastOff, .int c0_reason, .int c0_acts, .ref a0_can, .ref a0_fitting, .ref a0_wins, .ref a0_image, .ref a0_isKept])), (a0_now, .inl (G.2.1, 56, .inl c0_now))] [] 32 [] := by
    intro hf
    rw [fX12_isHushed_b32] at hf
    refine z_iconst h (v := (0 : Int32)) dX12_isHushed_32 (by decide) rfl ?_
    exact hB33 (0 : Int32) hf
  rw [fX12_isHushed] at hf
  show Z 0 0 _ [(0, .ref a0), (1, .int x1)] 0 []
  refine z_aload_n h dX12_isHushed_0 0 rfl rfl ?_
  refine z_iload_n h dX12_isHushed_1 1 rfl rfl ?_
  obtain ⟨v2, hv2, hf⟩ := bd_some hf
  refine z_callV h (np := 1) (st := []) (wr := []) [.int x1] (ctX12_atPeace l G a0 a0_book a0_now a0_sight a0_pad a0_can a0_fitting a0_wins a0_image a0_isKept c0_sights c0_signs c0_offs c0_offAt c0_offWho c0_lastOff c0_reason c0_acts c0_now x1 hv2) gX12_isHushed_X12_atPeace (by decide +kernel) 0 rfl rfl rfl ⟨Nat.le_of_ble_eq_true rfl, Nat.le_of_ble_eq_true rfl⟩ ⟨Nat.le_refl _, Nat.le_refl _⟩ rfl rfl rfl [0, 1] [] rfl rfl rfl rfl (by decide) (Nat.le_of_ble_eq_true rfl) dX12_isHushed_2 rfl rfl (fun rv2 wv2 hrv2 => ?_)
  obtain ⟨rfl, rfl⟩ := hrv2
  refine z_perm h (w2 := [(a0, .inr (12, [.ref a0_book, .ref a0_now, .int c0_sights, .ref a0_sight, .int c0_signs, .ref a0_pad, .int c0_offs, .int c0_offAt, .int c0_offWho, .int c0_lastOff, .int c0_reason, .int c0_acts, .ref a0_can, .ref a0_fitting, .ref a0_wins, .ref a0_image, .ref a0_isKept])), (a0_now, .inl (G.2.1, 56, .inl c0_now))]) (st := [.int v2]) [0, 1] rfl rfl ?_
  refine z_if_ne h (tgt := 28) dX12_isHushed_5 (by decide) rfl (fun c3 => ?_) (fun c3 => ?_)
  · have hf := ite_f hf c3
    refine z_locs h (lv2 := []) [] rfl ?_
    exact hB28  hf
  have hf := ite_t hf c3
  refine z_aload_n h dX12_isHushed_8 0 rfl rfl ?_
  refine z_iload_n h dX12_isHushed_9 1 rfl rfl ?_
  obtain ⟨v4, hv4, hf⟩ := bd_some hf
  refine z_callV h (np := 1) (st := []) (wr := []) [.int x1] (ctX12_holder l G a0 a0_book a0_now a0_sight a0_pad a0_can a0_fitting a0_wins a0_image a0_isKept c0_sights c0_signs c0_offs c0_offAt c0_offWho c0_lastOff c0_reason c0_acts c0_now x1 hv4) gX12_isHushed_X12_holder (by decide +kernel) 0 rfl rfl rfl ⟨Nat.le_of_ble_eq_true rfl, Nat.le_of_ble_eq_true rfl⟩ ⟨Nat.le_refl _, Nat.le_refl _⟩ rfl rfl rfl [0, 1] [] rfl rfl rfl rfl (by decide) (Nat.le_of_ble_eq_true rfl) dX12_isHushed_10 rfl rfl (fun rv4 wv4 hrv4 => ?_)
  obtain ⟨rfl, rfl⟩ := hrv4
  refine z_perm h (w2 := [(a0, .inr (12, [.ref a0_book, .ref a0_now, .int c0_sights, .ref a0_sight, .int c0_signs, .ref a0_pad, .int c0_offs, .int c0_offAt, .int c0_offWho, .int c0_lastOff, .int c0_reason, .int c0_acts, .ref a0_can, .ref a0_fitting, .ref a0_wins, .ref a0_image, .ref a0_isKept])), (a0_now, .inl (G.2.1, 56, .inl c0_now))]) (st := [.int v4]) [0, 1] rfl rfl ?_
  refine z_if_lt h (tgt := 32) dX12_isHushed_13 (by decide) rfl (fun c5 => ?_) (fun c5 => ?_)
  · have hf := ite_t hf c5
    refine z_locs h (lv2 := []) [] rfl ?_
    exact hB32  hf
  have hf := ite_f hf c5
  refine z_aload_n h dX12_isHushed_16 0 rfl rfl ?_
  refine z_aload_n h dX12_isHushed_17 0 rfl rfl ?_
  refine z_iload_n h dX12_isHushed_18 1 rfl rfl ?_
  obtain ⟨v6, hv6, hf⟩ := bd_some hf
  refine z_callV h (np := 1) (st := [.ref a0]) (wr := []) [.int x1] (ctX12_holder l G a0 a0_book a0_now a0_sight a0_pad a0_can a0_fitting a0_wins a0_image a0_isKept c0_sights c0_signs c0_offs c0_offAt c0_offWho c0_lastOff c0_reason c0_acts c0_now x1 hv6) gX12_isHushed_X12_holder (by decide +kernel) 0 rfl rfl rfl ⟨Nat.le_of_ble_eq_true rfl, Nat.le_of_ble_eq_true rfl⟩ ⟨Nat.le_refl _, Nat.le_refl _⟩ rfl rfl rfl [0, 1] [] rfl rfl rfl rfl (by decide) (Nat.le_of_ble_eq_true rfl) dX12_isHushed_19 rfl rfl (fun rv6 wv6 hrv6 => ?_)
  obtain ⟨rfl, rfl⟩ := hrv6
  refine z_perm h (w2 := [(a0, .inr (12, [.ref a0_book, .ref a0_now, .int c0_sights, .ref a0_sight, .int c0_signs, .ref a0_pad, .int c0_offs, .int c0_offAt, .int c0_offWho, .int c0_lastOff, .int c0_reason, .int c0_acts, .ref a0_can, .ref a0_fitting, .ref a0_wins, .ref a0_image, .ref a0_isKept])), (a0_now, .inl (G.2.1, 56, .inl c0_now))]) (st := [.int v6, .ref a0]) [0, 1] rfl rfl ?_
  obtain ⟨v7, hv7, hf⟩ := bd_some hf
  refine z_callV h (np := 1) (st := []) (wr := []) [.int v6] (ctX12_atPeace l G a0 a0_book a0_now a0_sight a0_pad a0_can a0_fitting a0_wins a0_image a0_isKept c0_sights c0_signs c0_offs c0_offAt c0_offWho c0_lastOff c0_reason c0_acts c0_now v6 hv7) gX12_isHushed_X12_atPeace (by decide +kernel) 0 rfl rfl rfl ⟨Nat.le_of_ble_eq_true rfl, Nat.le_of_ble_eq_true rfl⟩ ⟨Nat.le_refl _, Nat.le_refl _⟩ rfl rfl rfl [0, 1] [] rfl rfl rfl rfl (by decide) (Nat.le_of_ble_eq_true rfl) dX12_isHushed_22 rfl rfl (fun rv7 wv7 hrv7 => ?_)
  obtain ⟨rfl, rfl⟩ := hrv7
  refine z_perm h (w2 := [(a0, .inr (12, [.ref a0_book, .ref a0_now, .int c0_sights, .ref a0_sight, .int c0_signs, .ref a0_pad, .int c0_offs, .int c0_offAt, .int c0_offWho, .int c0_lastOff, .int c0_reason, .int c0_acts, .ref a0_can, .ref a0_fitting, .ref a0_wins, .ref a0_image, .ref a0_isKept])), (a0_now, .inl (G.2.1, 56, .inl c0_now))]) (st := [.int v7]) [0, 1] rfl rfl ?_
  refine z_if_eq h (tgt := 32) dX12_isHushed_25 (by decide) rfl (fun c8 => ?_) (fun c8 => ?_)
  · have hf := ite_t hf c8
    refine z_locs h (lv2 := []) [] rfl ?_
    exact hB32  hf
  have hf := ite_f hf c8
  refine z_locs h (lv2 := []) [] rfl ?_
  exact hB28  hf
def fX12_walker_b14 (x1 : Int32) (x2 : Int32) (x3 : Int32) (x4 : Int32)  (c0_book : Nat → Int32) : Option (Int32 × (Nat → Int32)) := (some ((-1 : Int32), c0_book))
def fX12_walker_b38 (x1 : Int32) (x2 : Int32) (x3 : Int32) (x4 : Int32)  (c0_book : Nat → Int32) : Option (Int32 × (Nat → Int32)) := (some ((-2 : Int32), c0_book))
def fX12_walker_b145 (x1 : Int32) (x2 : Int32) (x3 : Int32) (x4 : Int32) (K94 : ((Nat → Int32) → Int32 → Int32 → Option (Int32 × (Nat → Int32)))) (c0_book : Nat → Int32) (x5 : Int32) (x6 : Int32) (s1 : Int32) (s2 : Int32) : Option (Int32 × (Nat → Int32)) := gd (inb s1 56) ((K94 (upd c0_book (s1).toNatClampNeg s2) x5 (x6 + (1 : Int32))))
def fX12_walker_b130 (x1 : Int32) (x2 : Int32) (x3 : Int32) (x4 : Int32) (K94 : ((Nat → Int32) → Int32 → Int32 → Option (Int32 × (Nat → Int32)))) (c0_book : Nat → Int32) (x5 : Int32) (x6 : Int32) (s1 : Int32) : Option (Int32 × (Nat → Int32)) := (fX12_walker_b145 x1 x2 x3 x4 K94 c0_book x5 x6 s1 (-6 : Int32))
def fX12_walker_L94 (x1 : Int32) (x2 : Int32) (x3 : Int32) (x4 : Int32)  : Nat → (Nat → Int32) → Int32 → Int32 → Option (Int32 × (Nat → Int32))
  | 0, _, _, _ => none
  | n + 1, c0_book, x5, x6 => (if (6 : Int32) ≤ x6 then gd (inb ((24 : Int32) + x1) 56) ((some (x5, (upd c0_book (((24 : Int32) + x1)).toNatClampNeg (-6 : Int32))))) else (if x6 = x1 then (fX12_walker_b130 x1 x2 x3 x4 (fX12_walker_L94 x1 x2 x3 x4  n) c0_book x5 x6 ((18 : Int32) + x6)) else gd (inb ((18 : Int32) + x6) 56) ((if (c0_book (((18 : Int32) + x6)).toNatClampNeg) = x1 then (fX12_walker_b130 x1 x2 x3 x4 (fX12_walker_L94 x1 x2 x3 x4  n) c0_book x5 x6 ((18 : Int32) + x6)) else gd (inb ((18 : Int32) + x6) 56) ((fX12_walker_b145 x1 x2 x3 x4 (fX12_walker_L94 x1 x2 x3 x4  n) c0_book x5 x6 ((18 : Int32) + x6) (c0_book (((18 : Int32) + x6)).toNatClampNeg)))))))
def fX12_walker (c0_book : Nat → Int32) (x1 : Int32) (x2 : Int32) (x3 : Int32) (x4 : Int32) : Option (Int32 × (Nat → Int32)) := Option.bind (fX12_isWalker x1) (fun v8 => (if v8 = (0 : Int32) then (fX12_walker_b14 x1 x2 x3 x4  c0_book) else Option.bind (fX12_isCell x2) (fun v10 => (if v10 = (0 : Int32) then (fX12_walker_b14 x1 x2 x3 x4  c0_book) else Option.bind (fX12_in x3 (0 : Int32) (255 : Int32)) (fun v12 => (if v12 = (0 : Int32) then (fX12_walker_b38 x1 x2 x3 x4  c0_book) else Option.bind (fX12_in x4 (0 : Int32) (9 : Int32)) (fun v14 => (if v14 = (0 : Int32) then (fX12_walker_b38 x1 x2 x3 x4  c0_book) else gd (inb x1 56) (gd (inb ((12 : Int32) + x1) 56) (gd (inb x1 56) (gd (inb ((6 : Int32) + x1) 56) (gd (inb ((12 : Int32) + x1) 56) ((fX12_walker_L94 x1 x2 x3 x4  zF (upd (upd (upd c0_book (x1).toNatClampNeg x2) (((6 : Int32) + x1)).toNatClampNeg x3) (((12 : Int32) + x1)).toNatClampNeg x4) (((1000 : Int32) * (c0_book (x1).toNatClampNeg)) + (c0_book (((12 : Int32) + x1)).toNatClampNeg)) (0 : Int32)))))))))))))))
abbrev rmX12_walker : Room := { frames := 2, cells := 0, slots := 0, locals := 42 }
set_option maxRecDepth 100000 in
set_option maxHeartbeats 4000000 in
theorem ctX12_walker (l : Launch) (G : zG) (a0 a0_book a0_now a0_sight a0_pad a0_can a0_fitting a0_wins a0_image a0_isKept : Nat) (c0_sights : Int32) (c0_signs : Int32) (c0_offs : Int32) (c0_offAt : Int32) (c0_offWho : Int32) (c0_lastOff : Int32) (c0_reason : Int32) (c0_acts : Int32) (c0_book : Nat → Int32) (x1 : Int32) (x2 : Int32) (x3 : Int32) (x4 : Int32) {R : Int32 × (Nat → Int32)} (hf : fX12_walker c0_book x1 x2 x3 x4 = some R) : zCt l yX12_walker wsX12_walker rmX12_walker G [(a0, .inr (12, [.ref a0_book, .ref a0_now, .int c0_sights, .ref a0_sight, .int c0_signs, .ref a0_pad, .int c0_offs, .int c0_offAt, .int c0_offWho, .int c0_lastOff, .int c0_reason, .int c0_acts, .ref a0_can, .ref a0_fitting, .ref a0_wins, .ref a0_image, .ref a0_isKept])), (a0_book, .inl (G.2.1, 56, .inl c0_book))] [.ref a0, .int x1, .int x2, .int x3, .int x4] (fun v w => v = some (.int (R.1)) ∧ w = [(a0, .inr (12, [.ref a0_book, .ref a0_now, .int c0_sights, .ref a0_sight, .int c0_signs, .ref a0_pad, .int c0_offs, .int c0_offAt, .int c0_offWho, .int c0_lastOff, .int c0_reason, .int c0_acts, .ref a0_can, .ref a0_fitting, .ref a0_wins, .ref a0_image, .ref a0_isKept])), (a0_book, .inl (G.2.1, 56, .inl (R.2)))]) := by
  refine zMkI (own := RX12) false (by decide) (by decide +kernel) rfl rfl (Nat.le_of_ble_eq_true rfl) ?_
  intro Z h hret
  have hB14 : ∀ (c0_book : Nat → Int32), fX12_walker_b14 x1 x2 x3 x4  c0_book = some R → Z 0 0 [(a0, .inr (12, [.ref a0_book, .ref a0_now, .int c0_sights, .ref a0_sight, .int c0_signs, .ref a0_pad, .int c0_offs, .int c0_offAt, .int c0_offWho, .int c0_lastOff, .int c0_reason, .int c0_acts, .ref a0_can, .ref a0_fitting, .ref a0_wins, .ref a0_image, .ref a0_isKept])), (a0_book, .inl (G.2.1, 56, .inl c0_book))] [] 14 [] := by
    intro c0_book hf
    rw [fX12_walker_b14] at hf
    refine z_iconst h (v := (-1 : Int32)) dX12_walker_14 (by decide) rfl ?_
    have hf := Option.some.inj hf
    subst hf
    exact hret _ _ _ _ dX12_walker_15 ⟨rfl, rfl⟩
  have hB38 : ∀ (c0_book : Nat → Int32), fX12_walker_b38 x1 x2 x3 x4  c0_book = some R → Z 0 0 [(a0, .inr (12, [.ref a0_book, .ref a0_now, .int c0_sights, .ref a0_sight, .int c0_signs, .ref a0_pad, .int c0_offs, .int c0_offAt, .int c0_offWho, .int c0_lastOff, .int c0_reason, .int c0_acts, .ref a0_can, .ref a0_fitting, .ref a0_wins, .ref a0_image, .ref a0_isKept])), (a0_book, .inl (G.2.1, 56, .inl c0_book))] [] 38 [] := by
    intro c0_book hf
    rw [fX12_walker_b38] at hf
    refine z_bipush h (v := (-2 : Int32)) dX12_walker_38 (by decide) rfl ?_
    have hf := Option.some.inj hf
    subst hf
    exact hret _ _ _ _ dX12_walker_40 ⟨rfl, rfl⟩
  have hL94 : ∀ (n94 : Nat) (c0_book : Nat → Int32) (x5 : Int32) (x6 : Int32), fX12_walker_L94 x1 x2 x3 x4  n94 c0_book x5 x6 = some R → Z 0 0 [(a0, .inr (12, [.ref a0_book, .ref a0_now, .int c0_sights, .ref a0_sight, .int c0_signs, .ref a0_pad, .int c0_offs, .int c0_offAt, .int c0_offWho, .int c0_lastOff, .int c0_reason, .int c0_acts, .ref a0_can, .ref a0_fitting, .ref a0_wins, .ref a0_image, .ref a0_isKept])), (a0_book, .inl (G.2.1, 56, .inl c0_book))] [(0, .ref a0), (1, .int x1), (5, .int x5), (6, .int x6)] 94 [] := by
    intro n94
    induction n94 with
    | zero =>
      intro c0_book x5 x6 hf
      rw [fX12_walker_L94] at hf
      cases hf
    | succ n94 ih94 =>
      have hB145 : ∀ (c0_book : Nat → Int32) (x5 : Int32) (x6 : Int32) (s1 : Int32) (s2 : Int32), fX12_walker_b145 x1 x2 x3 x4 (fX12_walker_L94 x1 x2 x3 x4  n94) c0_book x5 x6 s1 s2 = some R → Z 0 0 [(a0, .inr (12, [.ref a0_book, .ref a0_now, .int c0_sights, .ref a0_sight, .int c0_signs, .ref a0_pad, .int c0_offs, .int c0_offAt, .int c0_offWho, .int c0_lastOff, .int c0_reason, .int c0_acts, .ref a0_can, .ref a0_fitting, .ref a0_wins, .ref a0_image, .ref a0_isKept])), (a0_book, .inl (G.2.1, 56, .inl c0_book))] [(0, .ref a0), (1, .int x1), (5, .int x5), (6, .int x6)] 145 [.int s2, .int s1, .ref a0_book] := by
        intro c0_book x5 x6 s1 s2 hf
        rw [fX12_walker_b145] at hf
        obtain ⟨hg1, hf⟩ := gd_some hf
        refine z_iast h (w2 := [(a0, .inr (12, [.ref a0_book, .ref a0_now, .int c0_sights, .ref a0_sight, .int c0_signs, .ref a0_pad, .int c0_offs, .int c0_offAt, .int c0_offWho, .int c0_lastOff, .int c0_reason, .int c0_acts, .ref a0_can, .ref a0_fitting, .ref a0_wins, .ref a0_image, .ref a0_isKept])), (a0_book, .inl (G.2.1, 56, .inl (upd c0_book (s1).toNatClampNeg s2)))]) 1 rfl rfl hg1 dX12_walker_145 rfl rfl ?_
        refine z_iinc h (v := (x6 + (1 : Int32))) (lv2 := [(6, .int (x6 + (1 : Int32))), (0, .ref a0), (1, .int x1), (5, .int x5)]) (j := 3) dX12_walker_146 rfl rfl (by decide) rfl rfl ?_
        refine z_goto h (tgt := 94) dX12_walker_149 (by decide) ?_
        refine z_locs h (lv2 := [(0, .ref a0), (1, .int x1), (5, .int x5), (6, .int (x6 + (1 : Int32)))]) [1, 2, 3, 0] rfl ?_
        exact ih94 (upd c0_book (s1).toNatClampNeg s2) x5 (x6 + (1 : Int32)) hf
      have hB130 : ∀ (c0_book : Nat → Int32) (x5 : Int32) (x6 : Int32) (s1 : Int32), fX12_walker_b130 x1 x2 x3 x4 (fX12_walker_L94 x1 x2 x3 x4  n94) c0_book x5 x6 s1 = some R → Z 0 0 [(a0, .inr (12, [.ref a0_book, .ref a0_now, .int c0_sights, .ref a0_sight, .int c0_signs, .ref a0_pad, .int c0_offs, .int c0_offAt, .int c0_offWho, .int c0_lastOff, .int c0_reason, .int c0_acts, .ref a0_can, .ref a0_fitting, .ref a0_wins, .ref a0_image, .ref a0_isKept])), (a0_book, .inl (G.2.1, 56, .inl c0_book))] [(0, .ref a0), (1, .int x1), (5, .int x5), (6, .int x6)] 130 [.int s1, .ref a0_book] := by
        intro c0_book x5 x6 s1 hf
        rw [fX12_walker_b130] at hf
        refine z_bipush h (v := (-6 : Int32)) dX12_walker_130 (by decide) rfl ?_
        refine z_goto h (tgt := 145) dX12_walker_132 (by decide) ?_
        exact hB145 c0_book x5 x6 s1 (-6 : Int32) hf
      intro c0_book x5 x6 hf
      rw [fX12_walker_L94] at hf
      refine z_iload h dX12_walker_94 3 rfl rfl ?_
      refine z_bipush h (v := (6 : Int32)) dX12_walker_96 (by decide) rfl ?_
      refine z_icmp_ge h (tgt := 152) dX12_walker_98 (by decide) rfl (fun c2 => ?_) (fun c2 => ?_)
      · have hf := ite_t hf c2
        refine z_aload_n h dX12_walker_152 0 rfl rfl ?_
        refine z_get h (C := RX12) (T := TX12) (N := 17) (v := .ref a0_book) 0 rfl rfl 0 (by decide) (by decide +kernel) (by decide +kernel) rfl dX12_walker_153 rfl ?_
        refine z_bipush h (v := (24 : Int32)) dX12_walker_156 (by decide) rfl ?_
        refine z_iload_n h dX12_walker_158 1 rfl rfl ?_
        refine z_iadd h dX12_walker_159 rfl ?_
        refine z_bipush h (v := (-6 : Int32)) dX12_walker_160 (by decide) rfl ?_
        obtain ⟨hg3, hf⟩ := gd_some hf
        refine z_iast h (w2 := [(a0, .inr (12, [.ref a0_book, .ref a0_now, .int c0_sights, .ref a0_sight, .int c0_signs, .ref a0_pad, .int c0_offs, .int c0_offAt, .int c0_offWho, .int c0_lastOff, .int c0_reason, .int c0_acts, .ref a0_can, .ref a0_fitting, .ref a0_wins, .ref a0_image, .ref a0_isKept])), (a0_book, .inl (G.2.1, 56, .inl (upd c0_book (((24 : Int32) + x1)).toNatClampNeg (-6 : Int32))))]) 1 rfl rfl hg3 dX12_walker_162 rfl rfl ?_
        refine z_iload h dX12_walker_163 2 rfl rfl ?_
        have hf := Option.some.inj hf
        subst hf
        exact hret _ _ _ _ dX12_walker_165 ⟨rfl, rfl⟩
      have hf := ite_f hf c2
      refine z_aload_n h dX12_walker_101 0 rfl rfl ?_
      refine z_get h (C := RX12) (T := TX12) (N := 17) (v := .ref a0_book) 0 rfl rfl 0 (by decide) (by decide +kernel) (by decide +kernel) rfl dX12_walker_102 rfl ?_
      refine z_bipush h (v := (18 : Int32)) dX12_walker_105 (by decide) rfl ?_
      refine z_iload h dX12_walker_107 3 rfl rfl ?_
      refine z_iadd h dX12_walker_109 rfl ?_
      refine z_iload h dX12_walker_110 3 rfl rfl ?_
      refine z_iload_n h dX12_walker_112 1 rfl rfl ?_
      refine z_icmp_eq h (tgt := 130) dX12_walker_113 (by decide) rfl (fun c4 => ?_) (fun c4 => ?_)
      · have hf := ite_t hf c4
        exact hB130 c0_book x5 x6 ((18 : Int32) + x6) hf
      have hf := ite_f hf c4
      refine z_aload_n h dX12_walker_116 0 rfl rfl ?_
      refine z_get h (C := RX12) (T := TX12) (N := 17) (v := .ref a0_book) 0 rfl rfl 0 (by decide) (by decide +kernel) (by decide +kernel) rfl dX12_walker_117 rfl ?_
      refine z_bipush h (v := (18 : Int32)) dX12_walker_120 (by decide) rfl ?_
      refine z_iload h dX12_walker_122 3 rfl rfl ?_
      refine z_iadd h dX12_walker_124 rfl ?_
      obtain ⟨hg5, hf⟩ := gd_some hf
      refine z_iald h 1 rfl rfl hg5 dX12_walker_125 rfl ?_
      refine z_iload_n h dX12_walker_126 1 rfl rfl ?_
      refine z_icmp_ne h (tgt := 135) dX12_walker_127 (by decide) rfl (fun c6 => ?_) (fun c6 => ?_)
      · have hf := ite_f hf c6
        refine z_aload_n h dX12_walker_135 0 rfl rfl ?_
        refine z_get h (C := RX12) (T := TX12) (N := 17) (v := .ref a0_book) 0 rfl rfl 0 (by decide) (by decide +kernel) (by decide +kernel) rfl dX12_walker_136 rfl ?_
        refine z_bipush h (v := (18 : Int32)) dX12_walker_139 (by decide) rfl ?_
        refine z_iload h dX12_walker_141 3 rfl rfl ?_
        refine z_iadd h dX12_walker_143 rfl ?_
        obtain ⟨hg7, hf⟩ := gd_some hf
        refine z_iald h 1 rfl rfl hg7 dX12_walker_144 rfl ?_
        exact hB145 c0_book x5 x6 ((18 : Int32) + x6) (c0_book (((18 : Int32) + x6)).toNatClampNeg) hf
      have hf := ite_t hf c6
      exact hB130 c0_book x5 x6 ((18 : Int32) + x6) hf
  rw [fX12_walker] at hf
  show Z 0 0 _ [(0, .ref a0), (1, .int x1), (2, .int x2), (3, .int x3), (4, .int x4)] 0 []
  refine z_iload_n h dX12_walker_0 1 rfl rfl ?_
  obtain ⟨v8, hv8, hf⟩ := bd_some hf
  refine z_callS h (np := 1) (st := []) (wr := [(a0, .inr (12, [.ref a0_book, .ref a0_now, .int c0_sights, .ref a0_sight, .int c0_signs, .ref a0_pad, .int c0_offs, .int c0_offAt, .int c0_offWho, .int c0_lastOff, .int c0_reason, .int c0_acts, .ref a0_can, .ref a0_fitting, .ref a0_wins, .ref a0_image, .ref a0_isKept])), (a0_book, .inl (G.2.1, 56, .inl c0_book))]) [.int x1] (ctX12_isWalker l G x1 hv8) gX12_walker_X12_isWalker (by decide +kernel) rfl ⟨Nat.le_of_ble_eq_true rfl, Nat.le_of_ble_eq_true rfl⟩ ⟨Nat.le_refl _, Nat.le_refl _⟩ rfl rfl rfl [] [0, 1] rfl rfl rfl rfl (by decide) (Nat.le_of_ble_eq_true rfl) dX12_walker_1 rfl rfl (fun rv8 wv8 hrv8 => ?_)
  obtain ⟨rfl, rfl⟩ := hrv8
  refine z_perm h (w2 := [(a0, .inr (12, [.ref a0_book, .ref a0_now, .int c0_sights, .ref a0_sight, .int c0_signs, .ref a0_pad, .int c0_offs, .int c0_offAt, .int c0_offWho, .int c0_lastOff, .int c0_reason, .int c0_acts, .ref a0_can, .ref a0_fitting, .ref a0_wins, .ref a0_image, .ref a0_isKept])), (a0_book, .inl (G.2.1, 56, .inl c0_book))]) (st := [.int v8]) [0, 1] rfl rfl ?_
  refine z_if_eq h (tgt := 14) dX12_walker_4 (by decide) rfl (fun c9 => ?_) (fun c9 => ?_)
  · have hf := ite_t hf c9
    refine z_locs h (lv2 := []) [] rfl ?_
    exact hB14 c0_book hf
  have hf := ite_f hf c9
  refine z_iload_n h dX12_walker_7 2 rfl rfl ?_
  obtain ⟨v10, hv10, hf⟩ := bd_some hf
  refine z_callS h (np := 1) (st := []) (wr := [(a0, .inr (12, [.ref a0_book, .ref a0_now, .int c0_sights, .ref a0_sight, .int c0_signs, .ref a0_pad, .int c0_offs, .int c0_offAt, .int c0_offWho, .int c0_lastOff, .int c0_reason, .int c0_acts, .ref a0_can, .ref a0_fitting, .ref a0_wins, .ref a0_image, .ref a0_isKept])), (a0_book, .inl (G.2.1, 56, .inl c0_book))]) [.int x2] (ctX12_isCell l G x2 hv10) gX12_walker_X12_isCell (by decide +kernel) rfl ⟨Nat.le_of_ble_eq_true rfl, Nat.le_of_ble_eq_true rfl⟩ ⟨Nat.le_refl _, Nat.le_refl _⟩ rfl rfl rfl [] [0, 1] rfl rfl rfl rfl (by decide) (Nat.le_of_ble_eq_true rfl) dX12_walker_8 rfl rfl (fun rv10 wv10 hrv10 => ?_)
  obtain ⟨rfl, rfl⟩ := hrv10
  refine z_perm h (w2 := [(a0, .inr (12, [.ref a0_book, .ref a0_now, .int c0_sights, .ref a0_sight, .int c0_signs, .ref a0_pad, .int c0_offs, .int c0_offAt, .int c0_offWho, .int c0_lastOff, .int c0_reason, .int c0_acts, .ref a0_can, .ref a0_fitting, .ref a0_wins, .ref a0_image, .ref a0_isKept])), (a0_book, .inl (G.2.1, 56, .inl c0_book))]) (st := [.int v10]) [0, 1] rfl rfl ?_
  refine z_if_ne h (tgt := 16) dX12_walker_11 (by decide) rfl (fun c11 => ?_) (fun c11 => ?_)
  · have hf := ite_f hf c11
    refine z_iload_n h dX12_walker_16 3 rfl rfl ?_
    refine z_iconst h (v := (0 : Int32)) dX12_walker_17 (by decide) rfl ?_
    refine z_sipush h (v := (255 : Int32)) dX12_walker_18 (by decide) rfl ?_
    obtain ⟨v12, hv12, hf⟩ := bd_some hf
    refine z_callS h (np := 3) (st := []) (wr := [(a0, .inr (12, [.ref a0_book, .ref a0_now, .int c0_sights, .ref a0_sight, .int c0_signs, .ref a0_pad, .int c0_offs, .int c0_offAt, .int c0_offWho, .int c0_lastOff, .int c0_reason, .int c0_acts, .ref a0_can, .ref a0_fitting, .ref a0_wins, .ref a0_image, .ref a0_isKept])), (a0_book, .inl (G.2.1, 56, .inl c0_book))]) [.int x3, .int (0 : Int32), .int (255 : Int32)] (ctX12_in l G x3 (0 : Int32) (255 : Int32) hv12) gX12_walker_X12_in (by decide +kernel) rfl ⟨Nat.le_of_ble_eq_true rfl, Nat.le_of_ble_eq_true rfl⟩ ⟨Nat.le_refl _, Nat.le_refl _⟩ rfl rfl rfl [] [0, 1] rfl rfl rfl rfl (by decide) (Nat.le_of_ble_eq_true rfl) dX12_walker_21 rfl rfl (fun rv12 wv12 hrv12 => ?_)
    obtain ⟨rfl, rfl⟩ := hrv12
    refine z_perm h (w2 := [(a0, .inr (12, [.ref a0_book, .ref a0_now, .int c0_sights, .ref a0_sight, .int c0_signs, .ref a0_pad, .int c0_offs, .int c0_offAt, .int c0_offWho, .int c0_lastOff, .int c0_reason, .int c0_acts, .ref a0_can, .ref a0_fitting, .ref a0_wins, .ref a0_image, .ref a0_isKept])), (a0_book, .inl (G.2.1, 56, .inl c0_book))]) (st := [.int v12]) [0, 1] rfl rfl ?_
    refine z_if_eq h (tgt := 38) dX12_walker_24 (by decide) rfl (fun c13 => ?_) (fun c13 => ?_)
    · have hf := ite_t hf c13
      refine z_locs h (lv2 := []) [] rfl ?_
      exact hB38 c0_book hf
    have hf := ite_f hf c13
    refine z_iload h dX12_walker_27 4 rfl rfl ?_
    refine z_iconst h (v := (0 : Int32)) dX12_walker_29 (by decide) rfl ?_
    refine z_bipush h (v := (9 : Int32)) dX12_walker_30 (by decide) rfl ?_
    obtain ⟨v14, hv14, hf⟩ := bd_some hf
    refine z_callS h (np := 3) (st := []) (wr := [(a0, .inr (12, [.ref a0_book, .ref a0_now, .int c0_sights, .ref a0_sight, .int c0_signs, .ref a0_pad, .int c0_offs, .int c0_offAt, .int c0_offWho, .int c0_lastOff, .int c0_reason, .int c0_acts, .ref a0_can, .ref a0_fitting, .ref a0_wins, .ref a0_image, .ref a0_isKept])), (a0_book, .inl (G.2.1, 56, .inl c0_book))]) [.int x4, .int (0 : Int32), .int (9 : Int32)] (ctX12_in l G x4 (0 : Int32) (9 : Int32) hv14) gX12_walker_X12_in (by decide +kernel) rfl ⟨Nat.le_of_ble_eq_true rfl, Nat.le_of_ble_eq_true rfl⟩ ⟨Nat.le_refl _, Nat.le_refl _⟩ rfl rfl rfl [] [0, 1] rfl rfl rfl rfl (by decide) (Nat.le_of_ble_eq_true rfl) dX12_walker_32 rfl rfl (fun rv14 wv14 hrv14 => ?_)
    obtain ⟨rfl, rfl⟩ := hrv14
    refine z_perm h (w2 := [(a0, .inr (12, [.ref a0_book, .ref a0_now, .int c0_sights, .ref a0_sight, .int c0_signs, .ref a0_pad, .int c0_offs, .int c0_offAt, .int c0_offWho, .int c0_lastOff, .int c0_reason, .int c0_acts, .ref a0_can, .ref a0_fitting, .ref a0_wins, .ref a0_image, .ref a0_isKept])), (a0_book, .inl (G.2.1, 56, .inl c0_book))]) (st := [.int v14]) [0, 1] rfl rfl ?_
    refine z_if_ne h (tgt := 41) dX12_walker_35 (by decide) rfl (fun c15 => ?_) (fun c15 => ?_)
    · have hf := ite_f hf c15
      refine z_sipush h (v := (1000 : Int32)) dX12_walker_41 (by decide) rfl ?_
      refine z_aload_n h dX12_walker_44 0 rfl rfl ?_
      refine z_get h (C := RX12) (T := TX12) (N := 17) (v := .ref a0_book) 0 rfl rfl 0 (by decide) (by decide +kernel) (by decide +kernel) rfl dX12_walker_45 rfl ?_
      refine z_iload_n h dX12_walker_48 1 rfl rfl ?_
      obtain ⟨hg16, hf⟩ := gd_some hf
      refine z_iald h 1 rfl rfl hg16 dX12_walker_49 rfl ?_
      refine z_imul h dX12_walker_50 rfl ?_
      refine z_aload_n h dX12_walker_51 0 rfl rfl ?_
      refine z_get h (C := RX12) (T := TX12) (N := 17) (v := .ref a0_book) 0 rfl rfl 0 (by decide) (by decide +kernel) (by decide +kernel) rfl dX12_walker_52 rfl ?_
      refine z_bipush h (v := (12 : Int32)) dX12_walker_55 (by decide) rfl ?_
      refine z_iload_n h dX12_walker_57 1 rfl rfl ?_
      refine z_iadd h dX12_walker_58 rfl ?_
      obtain ⟨hg17, hf⟩ := gd_some hf
      refine z_iald h 1 rfl rfl hg17 dX12_walker_59 rfl ?_
      refine z_iadd h dX12_walker_60 rfl ?_
      refine z_istore h (lv2 := [(5, .int (((1000 : Int32) * (c0_book (x1).toNatClampNeg)) + (c0_book (((12 : Int32) + x1)).toNatClampNeg))), (0, .ref a0), (1, .int x1), (2, .int x2), (3, .int x3), (4, .int x4)]) dX12_walker_61 (by decide) rfl rfl ?_
      refine z_aload_n h dX12_walker_63 1 rfl rfl ?_
      refine z_get h (C := RX12) (T := TX12) (N := 17) (v := .ref a0_book) 0 rfl rfl 0 (by decide) (by decide +kernel) (by decide +kernel) rfl dX12_walker_64 rfl ?_
      refine z_iload_n h dX12_walker_67 2 rfl rfl ?_
      refine z_iload_n h dX12_walker_68 3 rfl rfl ?_
      obtain ⟨hg18, hf⟩ := gd_some hf
      refine z_iast h (w2 := [(a0, .inr (12, [.ref a0_book, .ref a0_now, .int c0_sights, .ref a0_sight, .int c0_signs, .ref a0_pad, .int c0_offs, .int c0_offAt, .int c0_offWho, .int c0_lastOff, .int c0_reason, .int c0_acts, .ref a0_can, .ref a0_fitting, .ref a0_wins, .ref a0_image, .ref a0_isKept])), (a0_book, .inl (G.2.1, 56, .inl (upd c0_book (x1).toNatClampNeg x2)))]) 1 rfl rfl hg18 dX12_walker_69 rfl rfl ?_
      refine z_aload_n h dX12_walker_70 1 rfl rfl ?_
      refine z_get h (C := RX12) (T := TX12) (N := 17) (v := .ref a0_book) 0 rfl rfl 0 (by decide) (by decide +kernel) (by decide +kernel) rfl dX12_walker_71 rfl ?_
      refine z_bipush h (v := (6 : Int32)) dX12_walker_74 (by decide) rfl ?_
      refine z_iload_n h dX12_walker_76 2 rfl rfl ?_
      refine z_iadd h dX12_walker_77 rfl ?_
      refine z_iload_n h dX12_walker_78 4 rfl rfl ?_
      obtain ⟨hg19, hf⟩ := gd_some hf
      refine z_iast h (w2 := [(a0, .inr (12, [.ref a0_book, .ref a0_now, .int c0_sights, .ref a0_sight, .int c0_signs, .ref a0_pad, .int c0_offs, .int c0_offAt, .int c0_offWho, .int c0_lastOff, .int c0_reason, .int c0_acts, .ref a0_can, .ref a0_fitting, .ref a0_wins, .ref a0_image, .ref a0_isKept])), (a0_book, .inl (G.2.1, 56, .inl (upd (upd c0_book (x1).toNatClampNeg x2) (((6 : Int32) + x1)).toNatClampNeg x3)))]) 1 rfl rfl hg19 dX12_walker_79 rfl rfl ?_
      refine z_aload_n h dX12_walker_80 1 rfl rfl ?_
      refine z_get h (C := RX12) (T := TX12) (N := 17) (v := .ref a0_book) 0 rfl rfl 0 (by decide) (by decide +kernel) (by decide +kernel) rfl dX12_walker_81 rfl ?_
      refine z_bipush h (v := (12 : Int32)) dX12_walker_84 (by decide) rfl ?_
      refine z_iload_n h dX12_walker_86 2 rfl rfl ?_
      refine z_iadd h dX12_walker_87 rfl ?_
      refine z_iload h dX12_walker_88 5 rfl rfl ?_
      obtain ⟨hg20, hf⟩ := gd_some hf
      refine z_iast h (w2 := [(a0, .inr (12, [.ref a0_book, .ref a0_now, .int c0_sights, .ref a0_sight, .int c0_signs, .ref a0_pad, .int c0_offs, .int c0_offAt, .int c0_offWho, .int c0_lastOff, .int c0_reason, .int c0_acts, .ref a0_can, .ref a0_fitting, .ref a0_wins, .ref a0_image, .ref a0_isKept])), (a0_book, .inl (G.2.1, 56, .inl (upd (upd (upd c0_book (x1).toNatClampNeg x2) (((6 : Int32) + x1)).toNatClampNeg x3) (((12 : Int32) + x1)).toNatClampNeg x4)))]) 1 rfl rfl hg20 dX12_walker_90 rfl rfl ?_
      refine z_iconst h (v := (0 : Int32)) dX12_walker_91 (by decide) rfl ?_
      refine z_istore h (lv2 := [(6, .int (0 : Int32)), (5, .int (((1000 : Int32) * (c0_book (x1).toNatClampNeg)) + (c0_book (((12 : Int32) + x1)).toNatClampNeg))), (0, .ref a0), (1, .int x1), (2, .int x2), (3, .int x3), (4, .int x4)]) dX12_walker_92 (by decide) rfl rfl ?_
      refine z_locs h (lv2 := [(0, .ref a0), (1, .int x1), (5, .int (((1000 : Int32) * (c0_book (x1).toNatClampNeg)) + (c0_book (((12 : Int32) + x1)).toNatClampNeg))), (6, .int (0 : Int32))]) [2, 3, 1, 0] rfl ?_
      exact hL94 zF (upd (upd (upd c0_book (x1).toNatClampNeg x2) (((6 : Int32) + x1)).toNatClampNeg x3) (((12 : Int32) + x1)).toNatClampNeg x4) (((1000 : Int32) * (c0_book (x1).toNatClampNeg)) + (c0_book (((12 : Int32) + x1)).toNatClampNeg)) (0 : Int32) hf
    have hf := ite_t hf c15
    refine z_locs h (lv2 := []) [] rfl ?_
    exact hB38 c0_book hf
  have hf := ite_t hf c11
  refine z_locs h (lv2 := []) [] rfl ?_
  exact hB14 c0_book hf
def fX12_purse_b40 (x1 : Int32) (x2 : Int32) (x3 : Int32) (x4 : Int32)  (c0_book : Nat → Int32) : Option (Int32 × (Nat → Int32)) := (some ((-2 : Int32), c0_book))
def fX12_purse (c0_book : Nat → Int32) (x1 : Int32) (x2 : Int32) (x3 : Int32) (x4 : Int32) : Option (Int32 × (Nat → Int32)) := Option.bind (fX12_isWalker x1) (fun v1 => (if v1 = (0 : Int32) then (some ((-1 : Int32), c0_book)) else Option.bind (fX12_in x2 (0 : Int32) (9 : Int32)) (fun v3 => (if v3 = (0 : Int32) then (fX12_purse_b40 x1 x2 x3 x4  c0_book) else Option.bind (fX12_in x3 (0 : Int32) (9 : Int32)) (fun v5 => (if v5 = (0 : Int32) then (fX12_purse_b40 x1 x2 x3 x4  c0_book) else Option.bind (fX12_in x4 (0 : Int32) (9 : Int32)) (fun v7 => (if v7 = (0 : Int32) then (fX12_purse_b40 x1 x2 x3 x4  c0_book) else gd (inb ((30 : Int32) + x1) 56) (gd (inb ((36 : Int32) + x1) 56) (gd (inb ((42 : Int32) + x1) 56) (gd (inb ((30 : Int32) + x1) 56) (gd (inb ((36 : Int32) + x1) 56) (gd (inb ((42 : Int32) + x1) 56) ((some (((((100 : Int32) * (c0_book (((30 : Int32) + x1)).toNatClampNeg)) + ((10 : Int32) * (c0_book (((36 : Int32) + x1)).toNatClampNeg))) + (c0_book (((42 : Int32) + x1)).toNatClampNeg)), (upd (upd (upd c0_book (((30 : Int32) + x1)).toNatClampNeg x2) (((36 : Int32) + x1)).toNatClampNeg x3) (((42 : Int32) + x1)).toNatClampNeg x4)))))))))))))))))
abbrev rmX12_purse : Room := { frames := 2, cells := 0, slots := 0, locals := 42 }
set_option maxRecDepth 100000 in
set_option maxHeartbeats 4000000 in
theorem ctX12_purse (l : Launch) (G : zG) (a0 a0_book a0_now a0_sight a0_pad a0_can a0_fitting a0_wins a0_image a0_isKept : Nat) (c0_sights : Int32) (c0_signs : Int32) (c0_offs : Int32) (c0_offAt : Int32) (c0_offWho : Int32) (c0_lastOff : Int32) (c0_reason : Int32) (c0_acts : Int32) (c0_book : Nat → Int32) (x1 : Int32) (x2 : Int32) (x3 : Int32) (x4 : Int32) {R : Int32 × (Nat → Int32)} (hf : fX12_purse c0_book x1 x2 x3 x4 = some R) : zCt l yX12_purse wsX12_purse rmX12_purse G [(a0, .inr (12, [.ref a0_book, .ref a0_now, .int c0_sights, .ref a0_sight, .int c0_signs, .ref a0_pad, .int c0_offs, .int c0_offAt, .int c0_offWho, .int c0_lastOff, .int c0_reason, .int c0_acts, .ref a0_can, .ref a0_fitting, .ref a0_wins, .ref a0_image, .ref a0_isKept])), (a0_book, .inl (G.2.1, 56, .inl c0_book))] [.ref a0, .int x1, .int x2, .int x3, .int x4] (fun v w => v = some (.int (R.1)) ∧ w = [(a0, .inr (12, [.ref a0_book, .ref a0_now, .int c0_sights, .ref a0_sight, .int c0_signs, .ref a0_pad, .int c0_offs, .int c0_offAt, .int c0_offWho, .int c0_lastOff, .int c0_reason, .int c0_acts, .ref a0_can, .ref a0_fitting, .ref a0_wins, .ref a0_image, .ref a0_isKept])), (a0_book, .inl (G.2.1, 56, .inl (R.2)))]) := by
  refine zMkI (own := RX12) false (by decide) (by decide +kernel) rfl rfl (Nat.le_of_ble_eq_true rfl) ?_
  intro Z h hret
  have hB40 : ∀ (c0_book : Nat → Int32), fX12_purse_b40 x1 x2 x3 x4  c0_book = some R → Z 0 0 [(a0, .inr (12, [.ref a0_book, .ref a0_now, .int c0_sights, .ref a0_sight, .int c0_signs, .ref a0_pad, .int c0_offs, .int c0_offAt, .int c0_offWho, .int c0_lastOff, .int c0_reason, .int c0_acts, .ref a0_can, .ref a0_fitting, .ref a0_wins, .ref a0_image, .ref a0_isKept])), (a0_book, .inl (G.2.1, 56, .inl c0_book))] [] 40 [] := by
    intro c0_book hf
    rw [fX12_purse_b40] at hf
    refine z_bipush h (v := (-2 : Int32)) dX12_purse_40 (by decide) rfl ?_
    have hf := Option.some.inj hf
    subst hf
    exact hret _ _ _ _ dX12_purse_42 ⟨rfl, rfl⟩
  rw [fX12_purse] at hf
  show Z 0 0 _ [(0, .ref a0), (1, .int x1), (2, .int x2), (3, .int x3), (4, .int x4)] 0 []
  refine z_iload_n h dX12_purse_0 1 rfl rfl ?_
  obtain ⟨v1, hv1, hf⟩ := bd_some hf
  refine z_callS h (np := 1) (st := []) (wr := [(a0, .inr (12, [.ref a0_book, .ref a0_now, .int c0_sights, .ref a0_sight, .int c0_signs, .ref a0_pad, .int c0_offs, .int c0_offAt, .int c0_offWho, .int c0_lastOff, .int c0_reason, .int c0_acts, .ref a0_can, .ref a0_fitting, .ref a0_wins, .ref a0_image, .ref a0_isKept])), (a0_book, .inl (G.2.1, 56, .inl c0_book))]) [.int x1] (ctX12_isWalker l G x1 hv1) gX12_purse_X12_isWalker (by decide +kernel) rfl ⟨Nat.le_of_ble_eq_true rfl, Nat.le_of_ble_eq_true rfl⟩ ⟨Nat.le_refl _, Nat.le_refl _⟩ rfl rfl rfl [] [0, 1] rfl rfl rfl rfl (by decide) (Nat.le_of_ble_eq_true rfl) dX12_purse_1 rfl rfl (fun rv1 wv1 hrv1 => ?_)
  obtain ⟨rfl, rfl⟩ := hrv1
  refine z_perm h (w2 := [(a0, .inr (12, [.ref a0_book, .ref a0_now, .int c0_sights, .ref a0_sight, .int c0_signs, .ref a0_pad, .int c0_offs, .int c0_offAt, .int c0_offWho, .int c0_lastOff, .int c0_reason, .int c0_acts, .ref a0_can, .ref a0_fitting, .ref a0_wins, .ref a0_image, .ref a0_isKept])), (a0_book, .inl (G.2.1, 56, .inl c0_book))]) (st := [.int v1]) [0, 1] rfl rfl ?_
  refine z_if_ne h (tgt := 9) dX12_purse_4 (by decide) rfl (fun c2 => ?_) (fun c2 => ?_)
  · have hf := ite_f hf c2
    refine z_iload_n h dX12_purse_9 2 rfl rfl ?_
    refine z_iconst h (v := (0 : Int32)) dX12_purse_10 (by decide) rfl ?_
    refine z_bipush h (v := (9 : Int32)) dX12_purse_11 (by decide) rfl ?_
    obtain ⟨v3, hv3, hf⟩ := bd_some hf
    refine z_callS h (np := 3) (st := []) (wr := [(a0, .inr (12, [.ref a0_book, .ref a0_now, .int c0_sights, .ref a0_sight, .int c0_signs, .ref a0_pad, .int c0_offs, .int c0_offAt, .int c0_offWho, .int c0_lastOff, .int c0_reason, .int c0_acts, .ref a0_can, .ref a0_fitting, .ref a0_wins, .ref a0_image, .ref a0_isKept])), (a0_book, .inl (G.2.1, 56, .inl c0_book))]) [.int x2, .int (0 : Int32), .int (9 : Int32)] (ctX12_in l G x2 (0 : Int32) (9 : Int32) hv3) gX12_purse_X12_in (by decide +kernel) rfl ⟨Nat.le_of_ble_eq_true rfl, Nat.le_of_ble_eq_true rfl⟩ ⟨Nat.le_refl _, Nat.le_refl _⟩ rfl rfl rfl [] [0, 1] rfl rfl rfl rfl (by decide) (Nat.le_of_ble_eq_true rfl) dX12_purse_13 rfl rfl (fun rv3 wv3 hrv3 => ?_)
    obtain ⟨rfl, rfl⟩ := hrv3
    refine z_perm h (w2 := [(a0, .inr (12, [.ref a0_book, .ref a0_now, .int c0_sights, .ref a0_sight, .int c0_signs, .ref a0_pad, .int c0_offs, .int c0_offAt, .int c0_offWho, .int c0_lastOff, .int c0_reason, .int c0_acts, .ref a0_can, .ref a0_fitting, .ref a0_wins, .ref a0_image, .ref a0_isKept])), (a0_book, .inl (G.2.1, 56, .inl c0_book))]) (st := [.int v3]) [0, 1] rfl rfl ?_
    refine z_if_eq h (tgt := 40) dX12_purse_16 (by decide) rfl (fun c4 => ?_) (fun c4 => ?_)
    · have hf := ite_t hf c4
      refine z_locs h (lv2 := []) [] rfl ?_
      exact hB40 c0_book hf
    have hf := ite_f hf c4
    refine z_iload_n h dX12_purse_19 3 rfl rfl ?_
    refine z_iconst h (v := (0 : Int32)) dX12_purse_20 (by decide) rfl ?_
    refine z_bipush h (v := (9 : Int32)) dX12_purse_21 (by decide) rfl ?_
    obtain ⟨v5, hv5, hf⟩ := bd_some hf
    refine z_callS h (np := 3) (st := []) (wr := [(a0, .inr (12, [.ref a0_book, .ref a0_now, .int c0_sights, .ref a0_sight, .int c0_signs, .ref a0_pad, .int c0_offs, .int c0_offAt, .int c0_offWho, .int c0_lastOff, .int c0_reason, .int c0_acts, .ref a0_can, .ref a0_fitting, .ref a0_wins, .ref a0_image, .ref a0_isKept])), (a0_book, .inl (G.2.1, 56, .inl c0_book))]) [.int x3, .int (0 : Int32), .int (9 : Int32)] (ctX12_in l G x3 (0 : Int32) (9 : Int32) hv5) gX12_purse_X12_in (by decide +kernel) rfl ⟨Nat.le_of_ble_eq_true rfl, Nat.le_of_ble_eq_true rfl⟩ ⟨Nat.le_refl _, Nat.le_refl _⟩ rfl rfl rfl [] [0, 1] rfl rfl rfl rfl (by decide) (Nat.le_of_ble_eq_true rfl) dX12_purse_23 rfl rfl (fun rv5 wv5 hrv5 => ?_)
    obtain ⟨rfl, rfl⟩ := hrv5
    refine z_perm h (w2 := [(a0, .inr (12, [.ref a0_book, .ref a0_now, .int c0_sights, .ref a0_sight, .int c0_signs, .ref a0_pad, .int c0_offs, .int c0_offAt, .int c0_offWho, .int c0_lastOff, .int c0_reason, .int c0_acts, .ref a0_can, .ref a0_fitting, .ref a0_wins, .ref a0_image, .ref a0_isKept])), (a0_book, .inl (G.2.1, 56, .inl c0_book))]) (st := [.int v5]) [0, 1] rfl rfl ?_
    refine z_if_eq h (tgt := 40) dX12_purse_26 (by decide) rfl (fun c6 => ?_) (fun c6 => ?_)
    · have hf := ite_t hf c6
      refine z_locs h (lv2 := []) [] rfl ?_
      exact hB40 c0_book hf
    have hf := ite_f hf c6
    refine z_iload h dX12_purse_29 4 rfl rfl ?_
    refine z_iconst h (v := (0 : Int32)) dX12_purse_31 (by decide) rfl ?_
    refine z_bipush h (v := (9 : Int32)) dX12_purse_32 (by decide) rfl ?_
    obtain ⟨v7, hv7, hf⟩ := bd_some hf
    refine z_callS h (np := 3) (st := []) (wr := [(a0, .inr (12, [.ref a0_book, .ref a0_now, .int c0_sights, .ref a0_sight, .int c0_signs, .ref a0_pad, .int c0_offs, .int c0_offAt, .int c0_offWho, .int c0_lastOff, .int c0_reason, .int c0_acts, .ref a0_can, .ref a0_fitting, .ref a0_wins, .ref a0_image, .ref a0_isKept])), (a0_book, .inl (G.2.1, 56, .inl c0_book))]) [.int x4, .int (0 : Int32), .int (9 : Int32)] (ctX12_in l G x4 (0 : Int32) (9 : Int32) hv7) gX12_purse_X12_in (by decide +kernel) rfl ⟨Nat.le_of_ble_eq_true rfl, Nat.le_of_ble_eq_true rfl⟩ ⟨Nat.le_refl _, Nat.le_refl _⟩ rfl rfl rfl [] [0, 1] rfl rfl rfl rfl (by decide) (Nat.le_of_ble_eq_true rfl) dX12_purse_34 rfl rfl (fun rv7 wv7 hrv7 => ?_)
    obtain ⟨rfl, rfl⟩ := hrv7
    refine z_perm h (w2 := [(a0, .inr (12, [.ref a0_book, .ref a0_now, .int c0_sights, .ref a0_sight, .int c0_signs, .ref a0_pad, .int c0_offs, .int c0_offAt, .int c0_offWho, .int c0_lastOff, .int c0_reason, .int c0_acts, .ref a0_can, .ref a0_fitting, .ref a0_wins, .ref a0_image, .ref a0_isKept])), (a0_book, .inl (G.2.1, 56, .inl c0_book))]) (st := [.int v7]) [0, 1] rfl rfl ?_
    refine z_if_ne h (tgt := 43) dX12_purse_37 (by decide) rfl (fun c8 => ?_) (fun c8 => ?_)
    · have hf := ite_f hf c8
      refine z_bipush h (v := (100 : Int32)) dX12_purse_43 (by decide) rfl ?_
      refine z_aload_n h dX12_purse_45 0 rfl rfl ?_
      refine z_get h (C := RX12) (T := TX12) (N := 17) (v := .ref a0_book) 0 rfl rfl 0 (by decide) (by decide +kernel) (by decide +kernel) rfl dX12_purse_46 rfl ?_
      refine z_bipush h (v := (30 : Int32)) dX12_purse_49 (by decide) rfl ?_
      refine z_iload_n h dX12_purse_51 1 rfl rfl ?_
      refine z_iadd h dX12_purse_52 rfl ?_
      obtain ⟨hg9, hf⟩ := gd_some hf
      refine z_iald h 1 rfl rfl hg9 dX12_purse_53 rfl ?_
      refine z_imul h dX12_purse_54 rfl ?_
      refine z_bipush h (v := (10 : Int32)) dX12_purse_55 (by decide) rfl ?_
      refine z_aload_n h dX12_purse_57 0 rfl rfl ?_
      refine z_get h (C := RX12) (T := TX12) (N := 17) (v := .ref a0_book) 0 rfl rfl 0 (by decide) (by decide +kernel) (by decide +kernel) rfl dX12_purse_58 rfl ?_
      refine z_bipush h (v := (36 : Int32)) dX12_purse_61 (by decide) rfl ?_
      refine z_iload_n h dX12_purse_63 1 rfl rfl ?_
      refine z_iadd h dX12_purse_64 rfl ?_
      obtain ⟨hg10, hf⟩ := gd_some hf
      refine z_iald h 1 rfl rfl hg10 dX12_purse_65 rfl ?_
      refine z_imul h dX12_purse_66 rfl ?_
      refine z_iadd h dX12_purse_67 rfl ?_
      refine z_aload_n h dX12_purse_68 0 rfl rfl ?_
      refine z_get h (C := RX12) (T := TX12) (N := 17) (v := .ref a0_book) 0 rfl rfl 0 (by decide) (by decide +kernel) (by decide +kernel) rfl dX12_purse_69 rfl ?_
      refine z_bipush h (v := (42 : Int32)) dX12_purse_72 (by decide) rfl ?_
      refine z_iload_n h dX12_purse_74 1 rfl rfl ?_
      refine z_iadd h dX12_purse_75 rfl ?_
      obtain ⟨hg11, hf⟩ := gd_some hf
      refine z_iald h 1 rfl rfl hg11 dX12_purse_76 rfl ?_
      refine z_iadd h dX12_purse_77 rfl ?_
      refine z_istore h (lv2 := [(5, .int ((((100 : Int32) * (c0_book (((30 : Int32) + x1)).toNatClampNeg)) + ((10 : Int32) * (c0_book (((36 : Int32) + x1)).toNatClampNeg))) + (c0_book (((42 : Int32) + x1)).toNatClampNeg))), (0, .ref a0), (1, .int x1), (2, .int x2), (3, .int x3), (4, .int x4)]) dX12_purse_78 (by decide) rfl rfl ?_
      refine z_aload_n h dX12_purse_80 1 rfl rfl ?_
      refine z_get h (C := RX12) (T := TX12) (N := 17) (v := .ref a0_book) 0 rfl rfl 0 (by decide) (by decide +kernel) (by decide +kernel) rfl dX12_purse_81 rfl ?_
      refine z_bipush h (v := (30 : Int32)) dX12_purse_84 (by decide) rfl ?_
      refine z_iload_n h dX12_purse_86 2 rfl rfl ?_
      refine z_iadd h dX12_purse_87 rfl ?_
      refine z_iload_n h dX12_purse_88 3 rfl rfl ?_
      obtain ⟨hg12, hf⟩ := gd_some hf
      refine z_iast h (w2 := [(a0, .inr (12, [.ref a0_book, .ref a0_now, .int c0_sights, .ref a0_sight, .int c0_signs, .ref a0_pad, .int c0_offs, .int c0_offAt, .int c0_offWho, .int c0_lastOff, .int c0_reason, .int c0_acts, .ref a0_can, .ref a0_fitting, .ref a0_wins, .ref a0_image, .ref a0_isKept])), (a0_book, .inl (G.2.1, 56, .inl (upd c0_book (((30 : Int32) + x1)).toNatClampNeg x2)))]) 1 rfl rfl hg12 dX12_purse_89 rfl rfl ?_
      refine z_aload_n h dX12_purse_90 1 rfl rfl ?_
      refine z_get h (C := RX12) (T := TX12) (N := 17) (v := .ref a0_book) 0 rfl rfl 0 (by decide) (by decide +kernel) (by decide +kernel) rfl dX12_purse_91 rfl ?_
      refine z_bipush h (v := (36 : Int32)) dX12_purse_94 (by decide) rfl ?_
      refine z_iload_n h dX12_purse_96 2 rfl rfl ?_
      refine z_iadd h dX12_purse_97 rfl ?_
      refine z_iload_n h dX12_purse_98 4 rfl rfl ?_
      obtain ⟨hg13, hf⟩ := gd_some hf
      refine z_iast h (w2 := [(a0, .inr (12, [.ref a0_book, .ref a0_now, .int c0_sights, .ref a0_sight, .int c0_signs, .ref a0_pad, .int c0_offs, .int c0_offAt, .int c0_offWho, .int c0_lastOff, .int c0_reason, .int c0_acts, .ref a0_can, .ref a0_fitting, .ref a0_wins, .ref a0_image, .ref a0_isKept])), (a0_book, .inl (G.2.1, 56, .inl (upd (upd c0_book (((30 : Int32) + x1)).toNatClampNeg x2) (((36 : Int32) + x1)).toNatClampNeg x3)))]) 1 rfl rfl hg13 dX12_purse_99 rfl rfl ?_
      refine z_aload_n h dX12_purse_100 1 rfl rfl ?_
      refine z_get h (C := RX12) (T := TX12) (N := 17) (v := .ref a0_book) 0 rfl rfl 0 (by decide) (by decide +kernel) (by decide +kernel) rfl dX12_purse_101 rfl ?_
      refine z_bipush h (v := (42 : Int32)) dX12_purse_104 (by decide) rfl ?_
      refine z_iload_n h dX12_purse_106 2 rfl rfl ?_
      refine z_iadd h dX12_purse_107 rfl ?_
      refine z_iload h dX12_purse_108 5 rfl rfl ?_
      obtain ⟨hg14, hf⟩ := gd_some hf
      refine z_iast h (w2 := [(a0, .inr (12, [.ref a0_book, .ref a0_now, .int c0_sights, .ref a0_sight, .int c0_signs, .ref a0_pad, .int c0_offs, .int c0_offAt, .int c0_offWho, .int c0_lastOff, .int c0_reason, .int c0_acts, .ref a0_can, .ref a0_fitting, .ref a0_wins, .ref a0_image, .ref a0_isKept])), (a0_book, .inl (G.2.1, 56, .inl (upd (upd (upd c0_book (((30 : Int32) + x1)).toNatClampNeg x2) (((36 : Int32) + x1)).toNatClampNeg x3) (((42 : Int32) + x1)).toNatClampNeg x4)))]) 1 rfl rfl hg14 dX12_purse_110 rfl rfl ?_
      refine z_iload h dX12_purse_111 0 rfl rfl ?_
      have hf := Option.some.inj hf
      subst hf
      exact hret _ _ _ _ dX12_purse_113 ⟨rfl, rfl⟩
    have hf := ite_t hf c8
    refine z_locs h (lv2 := []) [] rfl ?_
    exact hB40 c0_book hf
  have hf := ite_t hf c2
  refine z_iconst h (v := (-1 : Int32)) dX12_purse_7 (by decide) rfl ?_
  have hf := Option.some.inj hf
  subst hf
  exact hret _ _ _ _ dX12_purse_8 ⟨rfl, rfl⟩
def fX12_likes_b27 (x1 : Int32) (x2 : Int32) (x3 : Int32)  (c0_book : Nat → Int32) : Option (Int32 × (Nat → Int32)) := (some ((-2 : Int32), c0_book))
def fX12_likes (c0_book : Nat → Int32) (x1 : Int32) (x2 : Int32) (x3 : Int32) : Option (Int32 × (Nat → Int32)) := Option.bind (fX12_in x1 (0 : Int32) (3 : Int32)) (fun v1 => (if v1 = (0 : Int32) then (fX12_likes_b27 x1 x2 x3  c0_book) else Option.bind (fX12_in x2 (0 : Int32) (3 : Int32)) (fun v3 => (if v3 = (0 : Int32) then (fX12_likes_b27 x1 x2 x3  c0_book) else Option.bind (fX12_in x3 (0 : Int32) (3 : Int32)) (fun v5 => (if v5 = (0 : Int32) then (fX12_likes_b27 x1 x2 x3  c0_book) else gd (inb (53 : Int32) 56) (gd (inb (54 : Int32) 56) (gd (inb (55 : Int32) 56) (gd (inb (53 : Int32) 56) (gd (inb (54 : Int32) 56) (gd (inb (55 : Int32) 56) ((some (((((100 : Int32) * (c0_book ((53 : Int32)).toNatClampNeg)) + ((10 : Int32) * (c0_book ((54 : Int32)).toNatClampNeg))) + (c0_book ((55 : Int32)).toNatClampNeg)), (upd (upd (upd c0_book ((53 : Int32)).toNatClampNeg x1) ((54 : Int32)).toNatClampNeg x2) ((55 : Int32)).toNatClampNeg x3)))))))))))))))
abbrev rmX12_likes : Room := { frames := 1, cells := 0, slots := 0, locals := 22 }
set_option maxRecDepth 100000 in
set_option maxHeartbeats 4000000 in
theorem ctX12_likes (l : Launch) (G : zG) (a0 a0_book a0_now a0_sight a0_pad a0_can a0_fitting a0_wins a0_image a0_isKept : Nat) (c0_sights : Int32) (c0_signs : Int32) (c0_offs : Int32) (c0_offAt : Int32) (c0_offWho : Int32) (c0_lastOff : Int32) (c0_reason : Int32) (c0_acts : Int32) (c0_book : Nat → Int32) (x1 : Int32) (x2 : Int32) (x3 : Int32) {R : Int32 × (Nat → Int32)} (hf : fX12_likes c0_book x1 x2 x3 = some R) : zCt l yX12_likes wsX12_likes rmX12_likes G [(a0, .inr (12, [.ref a0_book, .ref a0_now, .int c0_sights, .ref a0_sight, .int c0_signs, .ref a0_pad, .int c0_offs, .int c0_offAt, .int c0_offWho, .int c0_lastOff, .int c0_reason, .int c0_acts, .ref a0_can, .ref a0_fitting, .ref a0_wins, .ref a0_image, .ref a0_isKept])), (a0_book, .inl (G.2.1, 56, .inl c0_book))] [.ref a0, .int x1, .int x2, .int x3] (fun v w => v = some (.int (R.1)) ∧ w = [(a0, .inr (12, [.ref a0_book, .ref a0_now, .int c0_sights, .ref a0_sight, .int c0_signs, .ref a0_pad, .int c0_offs, .int c0_offAt, .int c0_offWho, .int c0_lastOff, .int c0_reason, .int c0_acts, .ref a0_can, .ref a0_fitting, .ref a0_wins, .ref a0_image, .ref a0_isKept])), (a0_book, .inl (G.2.1, 56, .inl (R.2)))]) := by
  refine zMkI (own := RX12) false (by decide) (by decide +kernel) rfl rfl (Nat.le_of_ble_eq_true rfl) ?_
  intro Z h hret
  have hB27 : ∀ (c0_book : Nat → Int32), fX12_likes_b27 x1 x2 x3  c0_book = some R → Z 0 0 [(a0, .inr (12, [.ref a0_book, .ref a0_now, .int c0_sights, .ref a0_sight, .int c0_signs, .ref a0_pad, .int c0_offs, .int c0_offAt, .int c0_offWho, .int c0_lastOff, .int c0_reason, .int c0_acts, .ref a0_can, .ref a0_fitting, .ref a0_wins, .ref a0_image, .ref a0_isKept])), (a0_book, .inl (G.2.1, 56, .inl c0_book))] [] 27 [] := by
    intro c0_book hf
    rw [fX12_likes_b27] at hf
    refine z_bipush h (v := (-2 : Int32)) dX12_likes_27 (by decide) rfl ?_
    have hf := Option.some.inj hf
    subst hf
    exact hret _ _ _ _ dX12_likes_29 ⟨rfl, rfl⟩
  rw [fX12_likes] at hf
  show Z 0 0 _ [(0, .ref a0), (1, .int x1), (2, .int x2), (3, .int x3)] 0 []
  refine z_iload_n h dX12_likes_0 1 rfl rfl ?_
  refine z_iconst h (v := (0 : Int32)) dX12_likes_1 (by decide) rfl ?_
  refine z_iconst h (v := (3 : Int32)) dX12_likes_2 (by decide) rfl ?_
  obtain ⟨v1, hv1, hf⟩ := bd_some hf
  refine z_callS h (np := 3) (st := []) (wr := [(a0, .inr (12, [.ref a0_book, .ref a0_now, .int c0_sights, .ref a0_sight, .int c0_signs, .ref a0_pad, .int c0_offs, .int c0_offAt, .int c0_offWho, .int c0_lastOff, .int c0_reason, .int c0_acts, .ref a0_can, .ref a0_fitting, .ref a0_wins, .ref a0_image, .ref a0_isKept])), (a0_book, .inl (G.2.1, 56, .inl c0_book))]) [.int x1, .int (0 : Int32), .int (3 : Int32)] (ctX12_in l G x1 (0 : Int32) (3 : Int32) hv1) gX12_likes_X12_in (by decide +kernel) rfl ⟨Nat.le_of_ble_eq_true rfl, Nat.le_of_ble_eq_true rfl⟩ ⟨Nat.le_refl _, Nat.le_refl _⟩ rfl rfl rfl [] [0, 1] rfl rfl rfl rfl (by decide) (Nat.le_of_ble_eq_true rfl) dX12_likes_3 rfl rfl (fun rv1 wv1 hrv1 => ?_)
  obtain ⟨rfl, rfl⟩ := hrv1
  refine z_perm h (w2 := [(a0, .inr (12, [.ref a0_book, .ref a0_now, .int c0_sights, .ref a0_sight, .int c0_signs, .ref a0_pad, .int c0_offs, .int c0_offAt, .int c0_offWho, .int c0_lastOff, .int c0_reason, .int c0_acts, .ref a0_can, .ref a0_fitting, .ref a0_wins, .ref a0_image, .ref a0_isKept])), (a0_book, .inl (G.2.1, 56, .inl c0_book))]) (st := [.int v1]) [0, 1] rfl rfl ?_
  refine z_if_eq h (tgt := 27) dX12_likes_6 (by decide) rfl (fun c2 => ?_) (fun c2 => ?_)
  · have hf := ite_t hf c2
    refine z_locs h (lv2 := []) [] rfl ?_
    exact hB27 c0_book hf
  have hf := ite_f hf c2
  refine z_iload_n h dX12_likes_9 2 rfl rfl ?_
  refine z_iconst h (v := (0 : Int32)) dX12_likes_10 (by decide) rfl ?_
  refine z_iconst h (v := (3 : Int32)) dX12_likes_11 (by decide) rfl ?_
  obtain ⟨v3, hv3, hf⟩ := bd_some hf
  refine z_callS h (np := 3) (st := []) (wr := [(a0, .inr (12, [.ref a0_book, .ref a0_now, .int c0_sights, .ref a0_sight, .int c0_signs, .ref a0_pad, .int c0_offs, .int c0_offAt, .int c0_offWho, .int c0_lastOff, .int c0_reason, .int c0_acts, .ref a0_can, .ref a0_fitting, .ref a0_wins, .ref a0_image, .ref a0_isKept])), (a0_book, .inl (G.2.1, 56, .inl c0_book))]) [.int x2, .int (0 : Int32), .int (3 : Int32)] (ctX12_in l G x2 (0 : Int32) (3 : Int32) hv3) gX12_likes_X12_in (by decide +kernel) rfl ⟨Nat.le_of_ble_eq_true rfl, Nat.le_of_ble_eq_true rfl⟩ ⟨Nat.le_refl _, Nat.le_refl _⟩ rfl rfl rfl [] [0, 1] rfl rfl rfl rfl (by decide) (Nat.le_of_ble_eq_true rfl) dX12_likes_12 rfl rfl (fun rv3 wv3 hrv3 => ?_)
  obtain ⟨rfl, rfl⟩ := hrv3
  refine z_perm h (w2 := [(a0, .inr (12, [.ref a0_book, .ref a0_now, .int c0_sights, .ref a0_sight, .int c0_signs, .ref a0_pad, .int c0_offs, .int c0_offAt, .int c0_offWho, .int c0_lastOff, .int c0_reason, .int c0_acts, .ref a0_can, .ref a0_fitting, .ref a0_wins, .ref a0_image, .ref a0_isKept])), (a0_book, .inl (G.2.1, 56, .inl c0_book))]) (st := [.int v3]) [0, 1] rfl rfl ?_
  refine z_if_eq h (tgt := 27) dX12_likes_15 (by decide) rfl (fun c4 => ?_) (fun c4 => ?_)
  · have hf := ite_t hf c4
    refine z_locs h (lv2 := []) [] rfl ?_
    exact hB27 c0_book hf
  have hf := ite_f hf c4
  refine z_iload_n h dX12_likes_18 3 rfl rfl ?_
  refine z_iconst h (v := (0 : Int32)) dX12_likes_19 (by decide) rfl ?_
  refine z_iconst h (v := (3 : Int32)) dX12_likes_20 (by decide) rfl ?_
  obtain ⟨v5, hv5, hf⟩ := bd_some hf
  refine z_callS h (np := 3) (st := []) (wr := [(a0, .inr (12, [.ref a0_book, .ref a0_now, .int c0_sights, .ref a0_sight, .int c0_signs, .ref a0_pad, .int c0_offs, .int c0_offAt, .int c0_offWho, .int c0_lastOff, .int c0_reason, .int c0_acts, .ref a0_can, .ref a0_fitting, .ref a0_wins, .ref a0_image, .ref a0_isKept])), (a0_book, .inl (G.2.1, 56, .inl c0_book))]) [.int x3, .int (0 : Int32), .int (3 : Int32)] (ctX12_in l G x3 (0 : Int32) (3 : Int32) hv5) gX12_likes_X12_in (by decide +kernel) rfl ⟨Nat.le_of_ble_eq_true rfl, Nat.le_of_ble_eq_true rfl⟩ ⟨Nat.le_refl _, Nat.le_refl _⟩ rfl rfl rfl [] [0, 1] rfl rfl rfl rfl (by decide) (Nat.le_of_ble_eq_true rfl) dX12_likes_21 rfl rfl (fun rv5 wv5 hrv5 => ?_)
  obtain ⟨rfl, rfl⟩ := hrv5
  refine z_perm h (w2 := [(a0, .inr (12, [.ref a0_book, .ref a0_now, .int c0_sights, .ref a0_sight, .int c0_signs, .ref a0_pad, .int c0_offs, .int c0_offAt, .int c0_offWho, .int c0_lastOff, .int c0_reason, .int c0_acts, .ref a0_can, .ref a0_fitting, .ref a0_wins, .ref a0_image, .ref a0_isKept])), (a0_book, .inl (G.2.1, 56, .inl c0_book))]) (st := [.int v5]) [0, 1] rfl rfl ?_
  refine z_if_ne h (tgt := 30) dX12_likes_24 (by decide) rfl (fun c6 => ?_) (fun c6 => ?_)
  · have hf := ite_f hf c6
    refine z_bipush h (v := (100 : Int32)) dX12_likes_30 (by decide) rfl ?_
    refine z_aload_n h dX12_likes_32 0 rfl rfl ?_
    refine z_get h (C := RX12) (T := TX12) (N := 17) (v := .ref a0_book) 0 rfl rfl 0 (by decide) (by decide +kernel) (by decide +kernel) rfl dX12_likes_33 rfl ?_
    refine z_bipush h (v := (53 : Int32)) dX12_likes_36 (by decide) rfl ?_
    obtain ⟨hg7, hf⟩ := gd_some hf
    refine z_iald h 1 rfl rfl hg7 dX12_likes_38 rfl ?_
    refine z_imul h dX12_likes_39 rfl ?_
    refine z_bipush h (v := (10 : Int32)) dX12_likes_40 (by decide) rfl ?_
    refine z_aload_n h dX12_likes_42 0 rfl rfl ?_
    refine z_get h (C := RX12) (T := TX12) (N := 17) (v := .ref a0_book) 0 rfl rfl 0 (by decide) (by decide +kernel) (by decide +kernel) rfl dX12_likes_43 rfl ?_
    refine z_bipush h (v := (54 : Int32)) dX12_likes_46 (by decide) rfl ?_
    obtain ⟨hg8, hf⟩ := gd_some hf
    refine z_iald h 1 rfl rfl hg8 dX12_likes_48 rfl ?_
    refine z_imul h dX12_likes_49 rfl ?_
    refine z_iadd h dX12_likes_50 rfl ?_
    refine z_aload_n h dX12_likes_51 0 rfl rfl ?_
    refine z_get h (C := RX12) (T := TX12) (N := 17) (v := .ref a0_book) 0 rfl rfl 0 (by decide) (by decide +kernel) (by decide +kernel) rfl dX12_likes_52 rfl ?_
    refine z_bipush h (v := (55 : Int32)) dX12_likes_55 (by decide) rfl ?_
    obtain ⟨hg9, hf⟩ := gd_some hf
    refine z_iald h 1 rfl rfl hg9 dX12_likes_57 rfl ?_
    refine z_iadd h dX12_likes_58 rfl ?_
    refine z_istore h (lv2 := [(4, .int ((((100 : Int32) * (c0_book ((53 : Int32)).toNatClampNeg)) + ((10 : Int32) * (c0_book ((54 : Int32)).toNatClampNeg))) + (c0_book ((55 : Int32)).toNatClampNeg))), (0, .ref a0), (1, .int x1), (2, .int x2), (3, .int x3)]) dX12_likes_59 (by decide) rfl rfl ?_
    refine z_aload_n h dX12_likes_61 1 rfl rfl ?_
    refine z_get h (C := RX12) (T := TX12) (N := 17) (v := .ref a0_book) 0 rfl rfl 0 (by decide) (by decide +kernel) (by decide +kernel) rfl dX12_likes_62 rfl ?_
    refine z_bipush h (v := (53 : Int32)) dX12_likes_65 (by decide) rfl ?_
    refine z_iload_n h dX12_likes_67 2 rfl rfl ?_
    obtain ⟨hg10, hf⟩ := gd_some hf
    refine z_iast h (w2 := [(a0, .inr (12, [.ref a0_book, .ref a0_now, .int c0_sights, .ref a0_sight, .int c0_signs, .ref a0_pad, .int c0_offs, .int c0_offAt, .int c0_offWho, .int c0_lastOff, .int c0_reason, .int c0_acts, .ref a0_can, .ref a0_fitting, .ref a0_wins, .ref a0_image, .ref a0_isKept])), (a0_book, .inl (G.2.1, 56, .inl (upd c0_book ((53 : Int32)).toNatClampNeg x1)))]) 1 rfl rfl hg10 dX12_likes_68 rfl rfl ?_
    refine z_aload_n h dX12_likes_69 1 rfl rfl ?_
    refine z_get h (C := RX12) (T := TX12) (N := 17) (v := .ref a0_book) 0 rfl rfl 0 (by decide) (by decide +kernel) (by decide +kernel) rfl dX12_likes_70 rfl ?_
    refine z_bipush h (v := (54 : Int32)) dX12_likes_73 (by decide) rfl ?_
    refine z_iload_n h dX12_likes_75 3 rfl rfl ?_
    obtain ⟨hg11, hf⟩ := gd_some hf
    refine z_iast h (w2 := [(a0, .inr (12, [.ref a0_book, .ref a0_now, .int c0_sights, .ref a0_sight, .int c0_signs, .ref a0_pad, .int c0_offs, .int c0_offAt, .int c0_offWho, .int c0_lastOff, .int c0_reason, .int c0_acts, .ref a0_can, .ref a0_fitting, .ref a0_wins, .ref a0_image, .ref a0_isKept])), (a0_book, .inl (G.2.1, 56, .inl (upd (upd c0_book ((53 : Int32)).toNatClampNeg x1) ((54 : Int32)).toNatClampNeg x2)))]) 1 rfl rfl hg11 dX12_likes_76 rfl rfl ?_
    refine z_aload_n h dX12_likes_77 1 rfl rfl ?_
    refine z_get h (C := RX12) (T := TX12) (N := 17) (v := .ref a0_book) 0 rfl rfl 0 (by decide) (by decide +kernel) (by decide +kernel) rfl dX12_likes_78 rfl ?_
    refine z_bipush h (v := (55 : Int32)) dX12_likes_81 (by decide) rfl ?_
    refine z_iload_n h dX12_likes_83 4 rfl rfl ?_
    obtain ⟨hg12, hf⟩ := gd_some hf
    refine z_iast h (w2 := [(a0, .inr (12, [.ref a0_book, .ref a0_now, .int c0_sights, .ref a0_sight, .int c0_signs, .ref a0_pad, .int c0_offs, .int c0_offAt, .int c0_offWho, .int c0_lastOff, .int c0_reason, .int c0_acts, .ref a0_can, .ref a0_fitting, .ref a0_wins, .ref a0_image, .ref a0_isKept])), (a0_book, .inl (G.2.1, 56, .inl (upd (upd (upd c0_book ((53 : Int32)).toNatClampNeg x1) ((54 : Int32)).toNatClampNeg x2) ((55 : Int32)).toNatClampNeg x3)))]) 1 rfl rfl hg12 dX12_likes_84 rfl rfl ?_
    refine z_iload h dX12_likes_85 0 rfl rfl ?_
    have hf := Option.some.inj hf
    subst hf
    exact hret _ _ _ _ dX12_likes_87 ⟨rfl, rfl⟩
  have hf := ite_t hf c6
  refine z_locs h (lv2 := []) [] rfl ?_
  exact hB27 c0_book hf
def fX12_wind_b28 (x1 : Int32) (x2 : Int32) (x3 : Int32)  (c0_book : Nat → Int32) : Option (Int32 × (Nat → Int32)) := (some ((-2 : Int32), c0_book))
def fX12_wind (c0_book : Nat → Int32) (x1 : Int32) (x2 : Int32) (x3 : Int32) : Option (Int32 × (Nat → Int32)) := Option.bind (fX12_isCell x1) (fun v1 => (if v1 = (0 : Int32) then (some ((-1 : Int32), c0_book)) else Option.bind (fX12_in x2 (0 : Int32) (1 : Int32)) (fun v3 => (if v3 = (0 : Int32) then (fX12_wind_b28 x1 x2 x3  c0_book) else Option.bind (fX12_in x3 (1 : Int32) (9 : Int32)) (fun v5 => (if v5 = (0 : Int32) then (fX12_wind_b28 x1 x2 x3  c0_book) else gd (inb (48 : Int32) 56) (gd (inb (49 : Int32) 56) (gd (inb (50 : Int32) 56) (gd (inb (48 : Int32) 56) (gd (inb (49 : Int32) 56) (gd (inb (50 : Int32) 56) ((some (((((100 : Int32) * (c0_book ((48 : Int32)).toNatClampNeg)) + ((10 : Int32) * (c0_book ((49 : Int32)).toNatClampNeg))) + (c0_book ((50 : Int32)).toNatClampNeg)), (upd (upd (upd c0_book ((48 : Int32)).toNatClampNeg x1) ((49 : Int32)).toNatClampNeg x2) ((50 : Int32)).toNatClampNeg x3)))))))))))))))
abbrev rmX12_wind : Room := { frames := 2, cells := 0, slots := 0, locals := 42 }
set_option maxRecDepth 100000 in
set_option maxHeartbeats 4000000 in
theorem ctX12_wind (l : Launch) (G : zG) (a0 a0_book a0_now a0_sight a0_pad a0_can a0_fitting a0_wins a0_image a0_isKept : Nat) (c0_sights : Int32) (c0_signs : Int32) (c0_offs : Int32) (c0_offAt : Int32) (c0_offWho : Int32) (c0_lastOff : Int32) (c0_reason : Int32) (c0_acts : Int32) (c0_book : Nat → Int32) (x1 : Int32) (x2 : Int32) (x3 : Int32) {R : Int32 × (Nat → Int32)} (hf : fX12_wind c0_book x1 x2 x3 = some R) : zCt l yX12_wind wsX12_wind rmX12_wind G [(a0, .inr (12, [.ref a0_book, .ref a0_now, .int c0_sights, .ref a0_sight, .int c0_signs, .ref a0_pad, .int c0_offs, .int c0_offAt, .int c0_offWho, .int c0_lastOff, .int c0_reason, .int c0_acts, .ref a0_can, .ref a0_fitting, .ref a0_wins, .ref a0_image, .ref a0_isKept])), (a0_book, .inl (G.2.1, 56, .inl c0_book))] [.ref a0, .int x1, .int x2, .int x3] (fun v w => v = some (.int (R.1)) ∧ w = [(a0, .inr (12, [.ref a0_book, .ref a0_now, .int c0_sights, .ref a0_sight, .int c0_signs, .ref a0_pad, .int c0_offs, .int c0_offAt, .int c0_offWho, .int c0_lastOff, .int c0_reason, .int c0_acts, .ref a0_can, .ref a0_fitting, .ref a0_wins, .ref a0_image, .ref a0_isKept])), (a0_book, .inl (G.2.1, 56, .inl (R.2)))]) := by
  refine zMkI (own := RX12) false (by decide) (by decide +kernel) rfl rfl (Nat.le_of_ble_eq_true rfl) ?_
  intro Z h hret
  have hB28 : ∀ (c0_book : Nat → Int32), fX12_wind_b28 x1 x2 x3  c0_book = some R → Z 0 0 [(a0, .inr (12, [.ref a0_book, .ref a0_now, .int c0_sights, .ref a0_sight, .int c0_signs, .ref a0_pad, .int c0_offs, .int c0_offAt, .int c0_offWho, .int c0_lastOff, .int c0_reason, .int c0_acts, .ref a0_can, .ref a0_fitting, .ref a0_wins, .ref a0_image, .ref a0_isKept])), (a0_book, .inl (G.2.1, 56, .inl c0_book))] [] 28 [] := by
    intro c0_book hf
    rw [fX12_wind_b28] at hf
    refine z_bipush h (v := (-2 : Int32)) dX12_wind_28 (by decide) rfl ?_
    have hf := Option.some.inj hf
    subst hf
    exact hret _ _ _ _ dX12_wind_30 ⟨rfl, rfl⟩
  rw [fX12_wind] at hf
  show Z 0 0 _ [(0, .ref a0), (1, .int x1), (2, .int x2), (3, .int x3)] 0 []
  refine z_iload_n h dX12_wind_0 1 rfl rfl ?_
  obtain ⟨v1, hv1, hf⟩ := bd_some hf
  refine z_callS h (np := 1) (st := []) (wr := [(a0, .inr (12, [.ref a0_book, .ref a0_now, .int c0_sights, .ref a0_sight, .int c0_signs, .ref a0_pad, .int c0_offs, .int c0_offAt, .int c0_offWho, .int c0_lastOff, .int c0_reason, .int c0_acts, .ref a0_can, .ref a0_fitting, .ref a0_wins, .ref a0_image, .ref a0_isKept])), (a0_book, .inl (G.2.1, 56, .inl c0_book))]) [.int x1] (ctX12_isCell l G x1 hv1) gX12_wind_X12_isCell (by decide +kernel) rfl ⟨Nat.le_of_ble_eq_true rfl, Nat.le_of_ble_eq_true rfl⟩ ⟨Nat.le_refl _, Nat.le_refl _⟩ rfl rfl rfl [] [0, 1] rfl rfl rfl rfl (by decide) (Nat.le_of_ble_eq_true rfl) dX12_wind_1 rfl rfl (fun rv1 wv1 hrv1 => ?_)
  obtain ⟨rfl, rfl⟩ := hrv1
  refine z_perm h (w2 := [(a0, .inr (12, [.ref a0_book, .ref a0_now, .int c0_sights, .ref a0_sight, .int c0_signs, .ref a0_pad, .int c0_offs, .int c0_offAt, .int c0_offWho, .int c0_lastOff, .int c0_reason, .int c0_acts, .ref a0_can, .ref a0_fitting, .ref a0_wins, .ref a0_image, .ref a0_isKept])), (a0_book, .inl (G.2.1, 56, .inl c0_book))]) (st := [.int v1]) [0, 1] rfl rfl ?_
  refine z_if_ne h (tgt := 9) dX12_wind_4 (by decide) rfl (fun c2 => ?_) (fun c2 => ?_)
  · have hf := ite_f hf c2
    refine z_iload_n h dX12_wind_9 2 rfl rfl ?_
    refine z_iconst h (v := (0 : Int32)) dX12_wind_10 (by decide) rfl ?_
    refine z_iconst h (v := (1 : Int32)) dX12_wind_11 (by decide) rfl ?_
    obtain ⟨v3, hv3, hf⟩ := bd_some hf
    refine z_callS h (np := 3) (st := []) (wr := [(a0, .inr (12, [.ref a0_book, .ref a0_now, .int c0_sights, .ref a0_sight, .int c0_signs, .ref a0_pad, .int c0_offs, .int c0_offAt, .int c0_offWho, .int c0_lastOff, .int c0_reason, .int c0_acts, .ref a0_can, .ref a0_fitting, .ref a0_wins, .ref a0_image, .ref a0_isKept])), (a0_book, .inl (G.2.1, 56, .inl c0_book))]) [.int x2, .int (0 : Int32), .int (1 : Int32)] (ctX12_in l G x2 (0 : Int32) (1 : Int32) hv3) gX12_wind_X12_in (by decide +kernel) rfl ⟨Nat.le_of_ble_eq_true rfl, Nat.le_of_ble_eq_true rfl⟩ ⟨Nat.le_refl _, Nat.le_refl _⟩ rfl rfl rfl [] [0, 1] rfl rfl rfl rfl (by decide) (Nat.le_of_ble_eq_true rfl) dX12_wind_12 rfl rfl (fun rv3 wv3 hrv3 => ?_)
    obtain ⟨rfl, rfl⟩ := hrv3
    refine z_perm h (w2 := [(a0, .inr (12, [.ref a0_book, .ref a0_now, .int c0_sights, .ref a0_sight, .int c0_signs, .ref a0_pad, .int c0_offs, .int c0_offAt, .int c0_offWho, .int c0_lastOff, .int c0_reason, .int c0_acts, .ref a0_can, .ref a0_fitting, .ref a0_wins, .ref a0_image, .ref a0_isKept])), (a0_book, .inl (G.2.1, 56, .inl c0_book))]) (st := [.int v3]) [0, 1] rfl rfl ?_
    refine z_if_eq h (tgt := 28) dX12_wind_15 (by decide) rfl (fun c4 => ?_) (fun c4 => ?_)
    · have hf := ite_t hf c4
      refine z_locs h (lv2 := []) [] rfl ?_
      exact hB28 c0_book hf
    have hf := ite_f hf c4
    refine z_iload_n h dX12_wind_18 3 rfl rfl ?_
    refine z_iconst h (v := (1 : Int32)) dX12_wind_19 (by decide) rfl ?_
    refine z_bipush h (v := (9 : Int32)) dX12_wind_20 (by decide) rfl ?_
    obtain ⟨v5, hv5, hf⟩ := bd_some hf
    refine z_callS h (np := 3) (st := []) (wr := [(a0, .inr (12, [.ref a0_book, .ref a0_now, .int c0_sights, .ref a0_sight, .int c0_signs, .ref a0_pad, .int c0_offs, .int c0_offAt, .int c0_offWho, .int c0_lastOff, .int c0_reason, .int c0_acts, .ref a0_can, .ref a0_fitting, .ref a0_wins, .ref a0_image, .ref a0_isKept])), (a0_book, .inl (G.2.1, 56, .inl c0_book))]) [.int x3, .int (1 : Int32), .int (9 : Int32)] (ctX12_in l G x3 (1 : Int32) (9 : Int32) hv5) gX12_wind_X12_in (by decide +kernel) rfl ⟨Nat.le_of_ble_eq_true rfl, Nat.le_of_ble_eq_true rfl⟩ ⟨Nat.le_refl _, Nat.le_refl _⟩ rfl rfl rfl [] [0, 1] rfl rfl rfl rfl (by decide) (Nat.le_of_ble_eq_true rfl) dX12_wind_22 rfl rfl (fun rv5 wv5 hrv5 => ?_)
    obtain ⟨rfl, rfl⟩ := hrv5
    refine z_perm h (w2 := [(a0, .inr (12, [.ref a0_book, .ref a0_now, .int c0_sights, .ref a0_sight, .int c0_signs, .ref a0_pad, .int c0_offs, .int c0_offAt, .int c0_offWho, .int c0_lastOff, .int c0_reason, .int c0_acts, .ref a0_can, .ref a0_fitting, .ref a0_wins, .ref a0_image, .ref a0_isKept])), (a0_book, .inl (G.2.1, 56, .inl c0_book))]) (st := [.int v5]) [0, 1] rfl rfl ?_
    refine z_if_ne h (tgt := 31) dX12_wind_25 (by decide) rfl (fun c6 => ?_) (fun c6 => ?_)
    · have hf := ite_f hf c6
      refine z_bipush h (v := (100 : Int32)) dX12_wind_31 (by decide) rfl ?_
      refine z_aload_n h dX12_wind_33 0 rfl rfl ?_
      refine z_get h (C := RX12) (T := TX12) (N := 17) (v := .ref a0_book) 0 rfl rfl 0 (by decide) (by decide +kernel) (by decide +kernel) rfl dX12_wind_34 rfl ?_
      refine z_bipush h (v := (48 : Int32)) dX12_wind_37 (by decide) rfl ?_
      obtain ⟨hg7, hf⟩ := gd_some hf
      refine z_iald h 1 rfl rfl hg7 dX12_wind_39 rfl ?_
      refine z_imul h dX12_wind_40 rfl ?_
      refine z_bipush h (v := (10 : Int32)) dX12_wind_41 (by decide) rfl ?_
      refine z_aload_n h dX12_wind_43 0 rfl rfl ?_
      refine z_get h (C := RX12) (T := TX12) (N := 17) (v := .ref a0_book) 0 rfl rfl 0 (by decide) (by decide +kernel) (by decide +kernel) rfl dX12_wind_44 rfl ?_
      refine z_bipush h (v := (49 : Int32)) dX12_wind_47 (by decide) rfl ?_
      obtain ⟨hg8, hf⟩ := gd_some hf
      refine z_iald h 1 rfl rfl hg8 dX12_wind_49 rfl ?_
      refine z_imul h dX12_wind_50 rfl ?_
      refine z_iadd h dX12_wind_51 rfl ?_
      refine z_aload_n h dX12_wind_52 0 rfl rfl ?_
      refine z_get h (C := RX12) (T := TX12) (N := 17) (v := .ref a0_book) 0 rfl rfl 0 (by decide) (by decide +kernel) (by decide +kernel) rfl dX12_wind_53 rfl ?_
      refine z_bipush h (v := (50 : Int32)) dX12_wind_56 (by decide) rfl ?_
      obtain ⟨hg9, hf⟩ := gd_some hf
      refine z_iald h 1 rfl rfl hg9 dX12_wind_58 rfl ?_
      refine z_iadd h dX12_wind_59 rfl ?_
      refine z_istore h (lv2 := [(4, .int ((((100 : Int32) * (c0_book ((48 : Int32)).toNatClampNeg)) + ((10 : Int32) * (c0_book ((49 : Int32)).toNatClampNeg))) + (c0_book ((50 : Int32)).toNatClampNeg))), (0, .ref a0), (1, .int x1), (2, .int x2), (3, .int x3)]) dX12_wind_60 (by decide) rfl rfl ?_
      refine z_aload_n h dX12_wind_62 1 rfl rfl ?_
      refine z_get h (C := RX12) (T := TX12) (N := 17) (v := .ref a0_book) 0 rfl rfl 0 (by decide) (by decide +kernel) (by decide +kernel) rfl dX12_wind_63 rfl ?_
      refine z_bipush h (v := (48 : Int32)) dX12_wind_66 (by decide) rfl ?_
      refine z_iload_n h dX12_wind_68 2 rfl rfl ?_
      obtain ⟨hg10, hf⟩ := gd_some hf
      refine z_iast h (w2 := [(a0, .inr (12, [.ref a0_book, .ref a0_now, .int c0_sights, .ref a0_sight, .int c0_signs, .ref a0_pad, .int c0_offs, .int c0_offAt, .int c0_offWho, .int c0_lastOff, .int c0_reason, .int c0_acts, .ref a0_can, .ref a0_fitting, .ref a0_wins, .ref a0_image, .ref a0_isKept])), (a0_book, .inl (G.2.1, 56, .inl (upd c0_book ((48 : Int32)).toNatClampNeg x1)))]) 1 rfl rfl hg10 dX12_wind_69 rfl rfl ?_
      refine z_aload_n h dX12_wind_70 1 rfl rfl ?_
      refine z_get h (C := RX12) (T := TX12) (N := 17) (v := .ref a0_book) 0 rfl rfl 0 (by decide) (by decide +kernel) (by decide +kernel) rfl dX12_wind_71 rfl ?_
      refine z_bipush h (v := (49 : Int32)) dX12_wind_74 (by decide) rfl ?_
      refine z_iload_n h dX12_wind_76 3 rfl rfl ?_
      obtain ⟨hg11, hf⟩ := gd_some hf
      refine z_iast h (w2 := [(a0, .inr (12, [.ref a0_book, .ref a0_now, .int c0_sights, .ref a0_sight, .int c0_signs, .ref a0_pad, .int c0_offs, .int c0_offAt, .int c0_offWho, .int c0_lastOff, .int c0_reason, .int c0_acts, .ref a0_can, .ref a0_fitting, .ref a0_wins, .ref a0_image, .ref a0_isKept])), (a0_book, .inl (G.2.1, 56, .inl (upd (upd c0_book ((48 : Int32)).toNatClampNeg x1) ((49 : Int32)).toNatClampNeg x2)))]) 1 rfl rfl hg11 dX12_wind_77 rfl rfl ?_
      refine z_aload_n h dX12_wind_78 1 rfl rfl ?_
      refine z_get h (C := RX12) (T := TX12) (N := 17) (v := .ref a0_book) 0 rfl rfl 0 (by decide) (by decide +kernel) (by decide +kernel) rfl dX12_wind_79 rfl ?_
      refine z_bipush h (v := (50 : Int32)) dX12_wind_82 (by decide) rfl ?_
      refine z_iload_n h dX12_wind_84 4 rfl rfl ?_
      obtain ⟨hg12, hf⟩ := gd_some hf
      refine z_iast h (w2 := [(a0, .inr (12, [.ref a0_book, .ref a0_now, .int c0_sights, .ref a0_sight, .int c0_signs, .ref a0_pad, .int c0_offs, .int c0_offAt, .int c0_offWho, .int c0_lastOff, .int c0_reason, .int c0_acts, .ref a0_can, .ref a0_fitting, .ref a0_wins, .ref a0_image, .ref a0_isKept])), (a0_book, .inl (G.2.1, 56, .inl (upd (upd (upd c0_book ((48 : Int32)).toNatClampNeg x1) ((49 : Int32)).toNatClampNeg x2) ((50 : Int32)).toNatClampNeg x3)))]) 1 rfl rfl hg12 dX12_wind_85 rfl rfl ?_
      refine z_iload h dX12_wind_86 0 rfl rfl ?_
      have hf := Option.some.inj hf
      subst hf
      exact hret _ _ _ _ dX12_wind_88 ⟨rfl, rfl⟩
    have hf := ite_t hf c6
    refine z_locs h (lv2 := []) [] rfl ?_
    exact hB28 c0_book hf
  have hf := ite_t hf c2
  refine z_iconst h (v := (-1 : Int32)) dX12_wind_7 (by decide) rfl ?_
  have hf := Option.some.inj hf
  subst hf
  exact hret _ _ _ _ dX12_wind_8 ⟨rfl, rfl⟩
def fX12_say (c0_signs : Int32) (c0_pad : Nat → Int32) (x1 : Int32) : Option (Int32 × Int32 × (Nat → Int32)) := Option.bind (fX12_in x1 (33 : Int32) (126 : Int32)) (fun v1 => (if v1 = (0 : Int32) then (some ((-2 : Int32), c0_signs, c0_pad)) else (if c0_signs = (60 : Int32) then (some ((-4 : Int32), c0_signs, c0_pad)) else gd (inb c0_signs 60) ((some ((c0_signs + (1 : Int32)), (c0_signs + (1 : Int32)), (upd c0_pad (c0_signs).toNatClampNeg x1)))))))
abbrev rmX12_say : Room := { frames := 1, cells := 0, slots := 0, locals := 22 }
set_option maxRecDepth 100000 in
set_option maxHeartbeats 4000000 in
theorem ctX12_say (l : Launch) (G : zG) (a0 a0_book a0_now a0_sight a0_pad a0_can a0_fitting a0_wins a0_image a0_isKept : Nat) (c0_sights : Int32) (c0_signs : Int32) (c0_offs : Int32) (c0_offAt : Int32) (c0_offWho : Int32) (c0_lastOff : Int32) (c0_reason : Int32) (c0_acts : Int32) (c0_pad : Nat → Int32) (x1 : Int32) {R : Int32 × Int32 × (Nat → Int32)} (hf : fX12_say c0_signs c0_pad x1 = some R) : zCt l yX12_say wsX12_say rmX12_say G [(a0, .inr (12, [.ref a0_book, .ref a0_now, .int c0_sights, .ref a0_sight, .int c0_signs, .ref a0_pad, .int c0_offs, .int c0_offAt, .int c0_offWho, .int c0_lastOff, .int c0_reason, .int c0_acts, .ref a0_can, .ref a0_fitting, .ref a0_wins, .ref a0_image, .ref a0_isKept])), (a0_pad, .inl (G.2.1, 60, .inl c0_pad))] [.ref a0, .int x1] (fun v w => v = some (.int (R.1)) ∧ w = [(a0, .inr (12, [.ref a0_book, .ref a0_now, .int c0_sights, .ref a0_sight, .int (R.2.1), .ref a0_pad, .int c0_offs, .int c0_offAt, .int c0_offWho, .int c0_lastOff, .int c0_reason, .int c0_acts, .ref a0_can, .ref a0_fitting, .ref a0_wins, .ref a0_image, .ref a0_isKept])), (a0_pad, .inl (G.2.1, 60, .inl (R.2.2)))]) := by
  refine zMkI (own := RX12) false (by decide) (by decide +kernel) rfl rfl (Nat.le_of_ble_eq_true rfl) ?_
  intro Z h hret
  rw [fX12_say] at hf
  show Z 0 0 _ [(0, .ref a0), (1, .int x1)] 0 []
  refine z_iload_n h dX12_say_0 1 rfl rfl ?_
  refine z_bipush h (v := (33 : Int32)) dX12_say_1 (by decide) rfl ?_
  refine z_bipush h (v := (126 : Int32)) dX12_say_3 (by decide) rfl ?_
  obtain ⟨v1, hv1, hf⟩ := bd_some hf
  refine z_callS h (np := 3) (st := []) (wr := [(a0, .inr (12, [.ref a0_book, .ref a0_now, .int c0_sights, .ref a0_sight, .int c0_signs, .ref a0_pad, .int c0_offs, .int c0_offAt, .int c0_offWho, .int c0_lastOff, .int c0_reason, .int c0_acts, .ref a0_can, .ref a0_fitting, .ref a0_wins, .ref a0_image, .ref a0_isKept])), (a0_pad, .inl (G.2.1, 60, .inl c0_pad))]) [.int x1, .int (33 : Int32), .int (126 : Int32)] (ctX12_in l G x1 (33 : Int32) (126 : Int32) hv1) gX12_say_X12_in (by decide +kernel) rfl ⟨Nat.le_of_ble_eq_true rfl, Nat.le_of_ble_eq_true rfl⟩ ⟨Nat.le_refl _, Nat.le_refl _⟩ rfl rfl rfl [] [0, 1] rfl rfl rfl rfl (by decide) (Nat.le_of_ble_eq_true rfl) dX12_say_5 rfl rfl (fun rv1 wv1 hrv1 => ?_)
  obtain ⟨rfl, rfl⟩ := hrv1
  refine z_perm h (w2 := [(a0, .inr (12, [.ref a0_book, .ref a0_now, .int c0_sights, .ref a0_sight, .int c0_signs, .ref a0_pad, .int c0_offs, .int c0_offAt, .int c0_offWho, .int c0_lastOff, .int c0_reason, .int c0_acts, .ref a0_can, .ref a0_fitting, .ref a0_wins, .ref a0_image, .ref a0_isKept])), (a0_pad, .inl (G.2.1, 60, .inl c0_pad))]) (st := [.int v1]) [0, 1] rfl rfl ?_
  refine z_if_ne h (tgt := 14) dX12_say_8 (by decide) rfl (fun c2 => ?_) (fun c2 => ?_)
  · have hf := ite_f hf c2
    refine z_aload_n h dX12_say_14 0 rfl rfl ?_
    refine z_get h (C := RX12) (T := TX12) (N := 17) (v := .int c0_signs) 0 rfl rfl 4 (by decide) (by decide +kernel) (by decide +kernel) rfl dX12_say_15 rfl ?_
    refine z_bipush h (v := (60 : Int32)) dX12_say_18 (by decide) rfl ?_
    refine z_icmp_ne h (tgt := 26) dX12_say_20 (by decide) rfl (fun c3 => ?_) (fun c3 => ?_)
    · have hf := ite_f hf c3
      refine z_aload_n h dX12_say_26 0 rfl rfl ?_
      refine z_get h (C := RX12) (T := TX12) (N := 17) (v := .ref a0_pad) 0 rfl rfl 5 (by decide) (by decide +kernel) (by decide +kernel) rfl dX12_say_27 rfl ?_
      refine z_aload_n h dX12_say_30 0 rfl rfl ?_
      refine z_get h (C := RX12) (T := TX12) (N := 17) (v := .int c0_signs) 0 rfl rfl 4 (by decide) (by decide +kernel) (by decide +kernel) rfl dX12_say_31 rfl ?_
      refine z_iload_n h dX12_say_34 1 rfl rfl ?_
      obtain ⟨hg4, hf⟩ := gd_some hf
      refine z_iast h (w2 := [(a0, .inr (12, [.ref a0_book, .ref a0_now, .int c0_sights, .ref a0_sight, .int c0_signs, .ref a0_pad, .int c0_offs, .int c0_offAt, .int c0_offWho, .int c0_lastOff, .int c0_reason, .int c0_acts, .ref a0_can, .ref a0_fitting, .ref a0_wins, .ref a0_image, .ref a0_isKept])), (a0_pad, .inl (G.2.1, 60, .inl (upd c0_pad (c0_signs).toNatClampNeg x1)))]) 1 rfl rfl hg4 dX12_say_35 rfl rfl ?_
      refine z_aload_n h dX12_say_36 0 rfl rfl ?_
      refine z_dup h dX12_say_37 rfl rfl ?_
      refine z_get h (C := RX12) (T := TX12) (N := 17) (v := .int c0_signs) 0 rfl rfl 4 (by decide) (by decide +kernel) (by decide +kernel) rfl dX12_say_38 rfl ?_
      refine z_iconst h (v := (1 : Int32)) dX12_say_41 (by decide) rfl ?_
      refine z_iadd h dX12_say_42 rfl ?_
      refine z_put h (C := RX12) (T := TX12) (N := 17) 0 rfl rfl 4 (by decide) (by decide +kernel) (by decide +kernel) tyX12 tyX12_ok nmX12 (w2 := [(a0, .inr (12, [.ref a0_book, .ref a0_now, .int c0_sights, .ref a0_sight, .int (c0_signs + (1 : Int32)), .ref a0_pad, .int c0_offs, .int c0_offAt, .int c0_offWho, .int c0_lastOff, .int c0_reason, .int c0_acts, .ref a0_can, .ref a0_fitting, .ref a0_wins, .ref a0_image, .ref a0_isKept])), (a0_pad, .inl (G.2.1, 60, .inl (upd c0_pad (c0_signs).toNatClampNeg x1)))]) rfl rfl rfl (Nat.le_of_ble_eq_true rfl) rfl dX12_say_43 rfl ?_
      refine z_aload_n h dX12_say_46 0 rfl rfl ?_
      refine z_get h (C := RX12) (T := TX12) (N := 17) (v := .int (c0_signs + (1 : Int32))) 0 rfl rfl 4 (by decide) (by decide +kernel) (by decide +kernel) rfl dX12_say_47 rfl ?_
      have hf := Option.some.inj hf
      subst hf
      exact hret _ _ _ _ dX12_say_50 ⟨rfl, rfl⟩
    have hf := ite_t hf c3
    refine z_bipush h (v := (-4 : Int32)) dX12_say_23 (by decide) rfl ?_
    have hf := Option.some.inj hf
    subst hf
    exact hret _ _ _ _ dX12_say_25 ⟨rfl, rfl⟩
  have hf := ite_t hf c2
  refine z_bipush h (v := (-2 : Int32)) dX12_say_11 (by decide) rfl ?_
  have hf := Option.some.inj hf
  subst hf
  exact hret _ _ _ _ dX12_say_13 ⟨rfl, rfl⟩
def fX12_wipe (c0_signs : Int32)  : Option (Int32 × Int32) := (some (c0_signs, (0 : Int32)))
abbrev rmX12_wipe : Room := { frames := 0, cells := 0, slots := 0, locals := 0 }
set_option maxRecDepth 100000 in
set_option maxHeartbeats 4000000 in
theorem ctX12_wipe (l : Launch) (G : zG) (a0 a0_book a0_now a0_sight a0_pad a0_can a0_fitting a0_wins a0_image a0_isKept : Nat) (c0_sights : Int32) (c0_signs : Int32) (c0_offs : Int32) (c0_offAt : Int32) (c0_offWho : Int32) (c0_lastOff : Int32) (c0_reason : Int32) (c0_acts : Int32)  {R : Int32 × Int32} (hf : fX12_wipe c0_signs = some R) : zCt l yX12_wipe wsX12_wipe rmX12_wipe G [(a0, .inr (12, [.ref a0_book, .ref a0_now, .int c0_sights, .ref a0_sight, .int c0_signs, .ref a0_pad, .int c0_offs, .int c0_offAt, .int c0_offWho, .int c0_lastOff, .int c0_reason, .int c0_acts, .ref a0_can, .ref a0_fitting, .ref a0_wins, .ref a0_image, .ref a0_isKept]))] [.ref a0] (fun v w => v = some (.int (R.1)) ∧ w = [(a0, .inr (12, [.ref a0_book, .ref a0_now, .int c0_sights, .ref a0_sight, .int (R.2), .ref a0_pad, .int c0_offs, .int c0_offAt, .int c0_offWho, .int c0_lastOff, .int c0_reason, .int c0_acts, .ref a0_can, .ref a0_fitting, .ref a0_wins, .ref a0_image, .ref a0_isKept]))]) := by
  refine zMkI (own := RX12) false (by decide) (by decide +kernel) rfl rfl (Nat.le_of_ble_eq_true rfl) ?_
  intro Z h hret
  rw [fX12_wipe] at hf
  show Z 0 0 _ [(0, .ref a0)] 0 []
  refine z_aload_n h dX12_wipe_0 0 rfl rfl ?_
  refine z_get h (C := RX12) (T := TX12) (N := 17) (v := .int c0_signs) 0 rfl rfl 4 (by decide) (by decide +kernel) (by decide +kernel) rfl dX12_wipe_1 rfl ?_
  refine z_istore_n h (lv2 := [(1, .int c0_signs), (0, .ref a0)]) dX12_wipe_4 (by decide) rfl rfl ?_
  refine z_aload_n h dX12_wipe_5 1 rfl rfl ?_
  refine z_iconst h (v := (0 : Int32)) dX12_wipe_6 (by decide) rfl ?_
  refine z_put h (C := RX12) (T := TX12) (N := 17) 0 rfl rfl 4 (by decide) (by decide +kernel) (by decide +kernel) tyX12 tyX12_ok nmX12 (w2 := [(a0, .inr (12, [.ref a0_book, .ref a0_now, .int c0_sights, .ref a0_sight, .int (0 : Int32), .ref a0_pad, .int c0_offs, .int c0_offAt, .int c0_offWho, .int c0_lastOff, .int c0_reason, .int c0_acts, .ref a0_can, .ref a0_fitting, .ref a0_wins, .ref a0_image, .ref a0_isKept]))]) rfl rfl rfl (Nat.le_of_ble_eq_true rfl) rfl dX12_wipe_7 rfl ?_
  refine z_iload_n h dX12_wipe_10 0 rfl rfl ?_
  have hf := Option.some.inj hf
  subst hf
  exact hret _ _ _ _ dX12_wipe_11 ⟨rfl, rfl⟩
def fX12_step_b62 (x0 : Int32) (x1 : Int32)  (s0 : Int32) : Option (Int32) := (some s0)
def fX12_step_b56 (x0 : Int32) (x1 : Int32)   : Option (Int32) := (fX12_step_b62 x0 x1  (0 : Int32))
def fX12_step_b132 (x0 : Int32) (x1 : Int32)  (s0 : Int32) : Option (Int32) := (some s0)
def fX12_step_b116 (x0 : Int32) (x1 : Int32)   : Option (Int32) := (fX12_step_b132 x0 x1  (0 : Int32))
def fX12_step_b143 (x0 : Int32) (x1 : Int32)  (s0 : Int32) : Option (Int32) := (some s0)
def fX12_step  (x0 : Int32) (x1 : Int32) : Option (Int32) := Option.bind (fX12_in x1 (65 : Int32) (70 : Int32)) (fun v1 => (if x0 = (0 : Int32) then (if v1 = (0 : Int32) then (if x1 = (33 : Int32) then (fX12_step_b56 x0 x1  ) else (if x1 = (46 : Int32) then (fX12_step_b56 x0 x1  ) else (fX12_step_b62 x0 x1  (-6 : Int32)))) else (fX12_step_b62 x0 x1  (1 : Int32))) else if x0 = (1 : Int32) then (if x1 = (62 : Int32) then (fX12_step_b116 x0 x1  ) else (if x1 = (60 : Int32) then (fX12_step_b116 x0 x1  ) else Option.bind (fX12_in x1 (48 : Int32) (55 : Int32)) (fun v9 => (if v9 = (0 : Int32) then (if x1 = (103 : Int32) then (fX12_step_b116 x0 x1  ) else (if x1 = (102 : Int32) then (fX12_step_b116 x0 x1  ) else (if x1 = (115 : Int32) then (fX12_step_b116 x0 x1  ) else (if x1 = (94 : Int32) then (fX12_step_b116 x0 x1  ) else (if x1 = (124 : Int32) then (fX12_step_b116 x0 x1  ) else (if x1 = (38 : Int32) then (fX12_step_b132 x0 x1  (2 : Int32)) else (fX12_step_b132 x0 x1  (-6 : Int32)))))))) else (fX12_step_b116 x0 x1  ))))) else (if v1 = (0 : Int32) then (fX12_step_b143 x0 x1  (-6 : Int32)) else (fX12_step_b143 x0 x1  (0 : Int32)))))
abbrev rmX12_step : Room := { frames := 1, cells := 0, slots := 0, locals := 22 }
set_option maxRecDepth 100000 in
set_option maxHeartbeats 4000000 in
theorem ctX12_step (l : Launch) (G : zG)  (x0 : Int32) (x1 : Int32) {R : Int32} (hf : fX12_step x0 x1 = some R) : zCt l yX12_step wsX12_step rmX12_step G [] [.int x0, .int x1] (fun v w => v = some (.int (R)) ∧ w = []) := by
  refine zMkI (own := RX12) false (by decide) (by decide +kernel) rfl rfl (Nat.le_of_ble_eq_true rfl) ?_
  intro Z h hret
  have hB62 : ∀ (s0 : Int32), fX12_step_b62 x0 x1  s0 = some R → Z 0 0 [] [] 62 [.int s0] := by
    intro s0 hf
    rw [fX12_step_b62] at hf
    have hf := Option.some.inj hf
    subst hf
    exact hret _ _ _ _ dX12_step_62 ⟨rfl, rfl⟩
  have hB56 : fX12_step_b56 x0 x1   = some R → Z 0 0 [] [] 56 [] := by
    intro hf
    rw [fX12_step_b56] at hf
    refine z_iconst h (v := (0 : Int32)) dX12_step_56 (by decide) rfl ?_
    refine z_goto h (tgt := 62) dX12_step_57 (by decide) ?_
    exact hB62 (0 : Int32) hf
  have hB132 : ∀ (s0 : Int32), fX12_step_b132 x0 x1  s0 = some R → Z 0 0 [] [] 132 [.int s0] := by
    intro s0 hf
    rw [fX12_step_b132] at hf
    have hf := Option.some.inj hf
    subst hf
    exact hret _ _ _ _ dX12_step_132 ⟨rfl, rfl⟩
  have hB116 : fX12_step_b116 x0 x1   = some R → Z 0 0 [] [] 116 [] := by
    intro hf
    rw [fX12_step_b116] at hf
    refine z_iconst h (v := (0 : Int32)) dX12_step_116 (by decide) rfl ?_
    refine z_goto h (tgt := 132) dX12_step_117 (by decide) ?_
    exact hB132 (0 : Int32) hf
  have hB143 : ∀ (s0 : Int32), fX12_step_b143 x0 x1  s0 = some R → Z 0 0 [] [] 143 [.int s0] := by
    intro s0 hf
    rw [fX12_step_b143] at hf
    have hf := Option.some.inj hf
    subst hf
    exact hret _ _ _ _ dX12_step_143 ⟨rfl, rfl⟩
  rw [fX12_step] at hf
  show Z 0 0 _ [(0, .int x0), (1, .int x1)] 0 []
  refine z_iload_n h dX12_step_0 1 rfl rfl ?_
  refine z_bipush h (v := (65 : Int32)) dX12_step_1 (by decide) rfl ?_
  refine z_bipush h (v := (70 : Int32)) dX12_step_3 (by decide) rfl ?_
  obtain ⟨v1, hv1, hf⟩ := bd_some hf
  refine z_callS h (np := 3) (st := []) (wr := []) [.int x1, .int (65 : Int32), .int (70 : Int32)] (ctX12_in l G x1 (65 : Int32) (70 : Int32) hv1) gX12_step_X12_in (by decide +kernel) rfl ⟨Nat.le_of_ble_eq_true rfl, Nat.le_of_ble_eq_true rfl⟩ ⟨Nat.le_refl _, Nat.le_refl _⟩ rfl rfl rfl [] [] rfl rfl rfl rfl (by decide) (Nat.le_of_ble_eq_true rfl) dX12_step_5 rfl rfl (fun rv1 wv1 hrv1 => ?_)
  obtain ⟨rfl, rfl⟩ := hrv1
  refine z_perm h (w2 := []) (st := [.int v1]) [] rfl rfl ?_
  refine z_istore_n h (lv2 := [(2, .int v1), (0, .int x0), (1, .int x1)]) dX12_step_8 (by decide) rfl rfl ?_
  refine z_iload_n h dX12_step_9 1 rfl rfl ?_
  by_cases c2 : x0 = (0 : Int32)
  · have hf := ite_t hf c2
    refine z_lookIn h (off := 26) (tgt := 36) dX12_step_10 (0 : Int32) c2 (by decide) (by decide) (by decide) ?_
    refine z_iload_n h dX12_step_36 0 rfl rfl ?_
    refine z_if_eq h (tgt := 44) dX12_step_37 (by decide) rfl (fun c3 => ?_) (fun c3 => ?_)
    · have hf := ite_t hf c3
      refine z_iload_n h dX12_step_44 2 rfl rfl ?_
      refine z_bipush h (v := (33 : Int32)) dX12_step_45 (by decide) rfl ?_
      refine z_icmp_eq h (tgt := 56) dX12_step_47 (by decide) rfl (fun c4 => ?_) (fun c4 => ?_)
      · have hf := ite_t hf c4
        refine z_locs h (lv2 := []) [] rfl ?_
        exact hB56  hf
      have hf := ite_f hf c4
      refine z_iload_n h dX12_step_50 2 rfl rfl ?_
      refine z_bipush h (v := (46 : Int32)) dX12_step_51 (by decide) rfl ?_
      refine z_icmp_ne h (tgt := 60) dX12_step_53 (by decide) rfl (fun c5 => ?_) (fun c5 => ?_)
      · have hf := ite_f hf c5
        refine z_bipush h (v := (-6 : Int32)) dX12_step_60 (by decide) rfl ?_
        refine z_locs h (lv2 := []) [] rfl ?_
        exact hB62 (-6 : Int32) hf
      have hf := ite_t hf c5
      refine z_locs h (lv2 := []) [] rfl ?_
      exact hB56  hf
    have hf := ite_f hf c3
    refine z_iconst h (v := (1 : Int32)) dX12_step_40 (by decide) rfl ?_
    refine z_goto h (tgt := 62) dX12_step_41 (by decide) ?_
    refine z_locs h (lv2 := []) [] rfl ?_
    exact hB62 (1 : Int32) hf
  have hf := ite_f hf c2
  by_cases c6 : x0 = (1 : Int32)
  · have hf := ite_t hf c6
    refine z_lookIn h (off := 53) (tgt := 63) dX12_step_10 (1 : Int32) c6 (by decide) (by decide) (by decide) ?_
    refine z_iload_n h dX12_step_63 2 rfl rfl ?_
    refine z_bipush h (v := (62 : Int32)) dX12_step_64 (by decide) rfl ?_
    refine z_icmp_eq h (tgt := 116) dX12_step_66 (by decide) rfl (fun c7 => ?_) (fun c7 => ?_)
    · have hf := ite_t hf c7
      refine z_locs h (lv2 := []) [] rfl ?_
      exact hB116  hf
    have hf := ite_f hf c7
    refine z_iload_n h dX12_step_69 2 rfl rfl ?_
    refine z_bipush h (v := (60 : Int32)) dX12_step_70 (by decide) rfl ?_
    refine z_icmp_eq h (tgt := 116) dX12_step_72 (by decide) rfl (fun c8 => ?_) (fun c8 => ?_)
    · have hf := ite_t hf c8
      refine z_locs h (lv2 := []) [] rfl ?_
      exact hB116  hf
    have hf := ite_f hf c8
    refine z_iload_n h dX12_step_75 2 rfl rfl ?_
    refine z_bipush h (v := (48 : Int32)) dX12_step_76 (by decide) rfl ?_
    refine z_bipush h (v := (55 : Int32)) dX12_step_78 (by decide) rfl ?_
    obtain ⟨v9, hv9, hf⟩ := bd_some hf
    refine z_callS h (np := 3) (st := []) (wr := []) [.int x1, .int (48 : Int32), .int (55 : Int32)] (ctX12_in l G x1 (48 : Int32) (55 : Int32) hv9) gX12_step_X12_in (by decide +kernel) rfl ⟨Nat.le_of_ble_eq_true rfl, Nat.le_of_ble_eq_true rfl⟩ ⟨Nat.le_refl _, Nat.le_refl _⟩ rfl rfl rfl [] [] rfl rfl rfl rfl (by decide) (Nat.le_of_ble_eq_true rfl) dX12_step_80 rfl rfl (fun rv9 wv9 hrv9 => ?_)
    obtain ⟨rfl, rfl⟩ := hrv9
    refine z_perm h (w2 := []) (st := [.int v9]) [] rfl rfl ?_
    refine z_if_ne h (tgt := 116) dX12_step_83 (by decide) rfl (fun c10 => ?_) (fun c10 => ?_)
    · have hf := ite_f hf c10
      refine z_locs h (lv2 := []) [] rfl ?_
      exact hB116  hf
    have hf := ite_t hf c10
    refine z_iload_n h dX12_step_86 2 rfl rfl ?_
    refine z_bipush h (v := (103 : Int32)) dX12_step_87 (by decide) rfl ?_
    refine z_icmp_eq h (tgt := 116) dX12_step_89 (by decide) rfl (fun c11 => ?_) (fun c11 => ?_)
    · have hf := ite_t hf c11
      refine z_locs h (lv2 := []) [] rfl ?_
      exact hB116  hf
    have hf := ite_f hf c11
    refine z_iload_n h dX12_step_92 2 rfl rfl ?_
    refine z_bipush h (v := (102 : Int32)) dX12_step_93 (by decide) rfl ?_
    refine z_icmp_eq h (tgt := 116) dX12_step_95 (by decide) rfl (fun c12 => ?_) (fun c12 => ?_)
    · have hf := ite_t hf c12
      refine z_locs h (lv2 := []) [] rfl ?_
      exact hB116  hf
    have hf := ite_f hf c12
    refine z_iload_n h dX12_step_98 2 rfl rfl ?_
    refine z_bipush h (v := (115 : Int32)) dX12_step_99 (by decide) rfl ?_
    refine z_icmp_eq h (tgt := 116) dX12_step_101 (by decide) rfl (fun c13 => ?_) (fun c13 => ?_)
    · have hf := ite_t hf c13
      refine z_locs h (lv2 := []) [] rfl ?_
      exact hB116  hf
    have hf := ite_f hf c13
    refine z_iload_n h dX12_step_104 2 rfl rfl ?_
    refine z_bipush h (v := (94 : Int32)) dX12_step_105 (by decide) rfl ?_
    refine z_icmp_eq h (tgt := 116) dX12_step_107 (by decide) rfl (fun c14 => ?_) (fun c14 => ?_)
    · have hf := ite_t hf c14
      refine z_locs h (lv2 := []) [] rfl ?_
      exact hB116  hf
    have hf := ite_f hf c14
    refine z_iload_n h dX12_step_110 2 rfl rfl ?_
    refine z_bipush h (v := (124 : Int32)) dX12_step_111 (by decide) rfl ?_
    refine z_icmp_ne h (tgt := 120) dX12_step_113 (by decide) rfl (fun c15 => ?_) (fun c15 => ?_)
    · have hf := ite_f hf c15
      refine z_iload_n h dX12_step_120 2 rfl rfl ?_
      refine z_bipush h (v := (38 : Int32)) dX12_step_121 (by decide) rfl ?_
      refine z_icmp_ne h (tgt := 130) dX12_step_123 (by decide) rfl (fun c16 => ?_) (fun c16 => ?_)
      · have hf := ite_f hf c16
        refine z_bipush h (v := (-6 : Int32)) dX12_step_130 (by decide) rfl ?_
        refine z_locs h (lv2 := []) [] rfl ?_
        exact hB132 (-6 : Int32) hf
      have hf := ite_t hf c16
      refine z_iconst h (v := (2 : Int32)) dX12_step_126 (by decide) rfl ?_
      refine z_goto h (tgt := 132) dX12_step_127 (by decide) ?_
      refine z_locs h (lv2 := []) [] rfl ?_
      exact hB132 (2 : Int32) hf
    have hf := ite_t hf c15
    refine z_locs h (lv2 := []) [] rfl ?_
    exact hB116  hf
  have hf := ite_f hf c6
  refine z_lookup h (off := 123) (tgt := 133) dX12_step_10 (by decide) (by show Op.lookupswitch.offset [(0, 26), (1, 53)] _ _ = _; simp only [Op.lookupswitch.offset_cons, Op.lookupswitch.offset_nil, if_neg (z_ti (a := 0) (by decide) c2), if_neg (z_ti (a := 1) (by decide) c6)]) (by decide) ?_
  refine z_iload_n h dX12_step_133 0 rfl rfl ?_
  refine z_if_eq h (tgt := 141) dX12_step_134 (by decide) rfl (fun c17 => ?_) (fun c17 => ?_)
  · have hf := ite_t hf c17
    refine z_bipush h (v := (-6 : Int32)) dX12_step_141 (by decide) rfl ?_
    refine z_locs h (lv2 := []) [] rfl ?_
    exact hB143 (-6 : Int32) hf
  have hf := ite_f hf c17
  refine z_iconst h (v := (0 : Int32)) dX12_step_137 (by decide) rfl ?_
  refine z_goto h (tgt := 143) dX12_step_138 (by decide) ?_
  refine z_locs h (lv2 := []) [] rfl ?_
  exact hB143 (0 : Int32) hf
def fX12_faultOf_b48 (c0_signs : Int32) (c0_pad : Nat → Int32)  (s0 : Int32) : Option (Int32) := (some s0)
def fX12_faultOf_L4 (c0_signs : Int32) (c0_pad : Nat → Int32)  : Nat → Int32 → Int32 → Option (Int32)
  | 0, _, _ => none
  | n + 1, x1, x2 => (if c0_signs ≤ x2 then (if x1 = (0 : Int32) then (fX12_faultOf_b48 c0_signs c0_pad  (-6 : Int32)) else (fX12_faultOf_b48 c0_signs c0_pad  c0_signs)) else gd (inb x2 60) (Option.bind (fX12_step x1 (c0_pad (x2).toNatClampNeg)) (fun v4 => (if (0 : Int32) ≤ v4 then ((fX12_faultOf_L4 c0_signs c0_pad  n) v4 (x2 + (1 : Int32))) else (some x2)))))
def fX12_faultOf (c0_signs : Int32) (c0_pad : Nat → Int32)  : Option (Int32) := (fX12_faultOf_L4 c0_signs c0_pad  zF (0 : Int32) (0 : Int32))
abbrev rmX12_faultOf : Room := { frames := 2, cells := 0, slots := 0, locals := 44 }
set_option maxRecDepth 100000 in
set_option maxHeartbeats 4000000 in
theorem ctX12_faultOf (l : Launch) (G : zG) (a0 a0_book a0_now a0_sight a0_pad a0_can a0_fitting a0_wins a0_image a0_isKept : Nat) (c0_sights : Int32) (c0_signs : Int32) (c0_offs : Int32) (c0_offAt : Int32) (c0_offWho : Int32) (c0_lastOff : Int32) (c0_reason : Int32) (c0_acts : Int32) (c0_pad : Nat → Int32)  {R : Int32} (hf : fX12_faultOf c0_signs c0_pad = some R) : zCt l yX12_faultOf wsX12_faultOf rmX12_faultOf G [(a0, .inr (12, [.ref a0_book, .ref a0_now, .int c0_sights, .ref a0_sight, .int c0_signs, .ref a0_pad, .int c0_offs, .int c0_offAt, .int c0_offWho, .int c0_lastOff, .int c0_reason, .int c0_acts, .ref a0_can, .ref a0_fitting, .ref a0_wins, .ref a0_image, .ref a0_isKept])), (a0_pad, .inl (G.2.1, 60, .inl c0_pad))] [.ref a0] (fun v w => v = some (.int (R)) ∧ w = [(a0, .inr (12, [.ref a0_book, .ref a0_now, .int c0_sights, .ref a0_sight, .int c0_signs, .ref a0_pad, .int c0_offs, .int c0_offAt, .int c0_offWho, .int c0_lastOff, .int c0_reason, .int c0_acts, .ref a0_can, .ref a0_fitting, .ref a0_wins, .ref a0_image, .ref a0_isKept])), (a0_pad, .inl (G.2.1, 60, .inl c0_pad))]) := by
  refine zMkI (own := RX12) false (by decide) (by decide +kernel) rfl rfl (Nat.le_of_ble_eq_true rfl) ?_
  intro Z h hret
  have hB48 : ∀ (s0 : Int32), fX12_faultOf_b48 c0_signs c0_pad  s0 = some R → Z 0 0 [(a0, .inr (12, [.ref a0_book, .ref a0_now, .int c0_sights, .ref a0_sight, .int c0_signs, .ref a0_pad, .int c0_offs, .int c0_offAt, .int c0_offWho, .int c0_lastOff, .int c0_reason, .int c0_acts, .ref a0_can, .ref a0_fitting, .ref a0_wins, .ref a0_image, .ref a0_isKept])), (a0_pad, .inl (G.2.1, 60, .inl c0_pad))] [] 48 [.int s0] := by
    intro s0 hf
    rw [fX12_faultOf_b48] at hf
    have hf := Option.some.inj hf
    subst hf
    exact hret _ _ _ _ dX12_faultOf_48 ⟨rfl, rfl⟩
  have hL4 : ∀ (n4 : Nat) (x1 : Int32) (x2 : Int32), fX12_faultOf_L4 c0_signs c0_pad  n4 x1 x2 = some R → Z 0 0 [(a0, .inr (12, [.ref a0_book, .ref a0_now, .int c0_sights, .ref a0_sight, .int c0_signs, .ref a0_pad, .int c0_offs, .int c0_offAt, .int c0_offWho, .int c0_lastOff, .int c0_reason, .int c0_acts, .ref a0_can, .ref a0_fitting, .ref a0_wins, .ref a0_image, .ref a0_isKept])), (a0_pad, .inl (G.2.1, 60, .inl c0_pad))] [(0, .ref a0), (1, .int x1), (2, .int x2)] 4 [] := by
    intro n4
    induction n4 with
    | zero =>
      intro x1 x2 hf
      rw [fX12_faultOf_L4] at hf
      cases hf
    | succ n4 ih4 =>
      intro x1 x2 hf
      rw [fX12_faultOf_L4] at hf
      refine z_iload_n h dX12_faultOf_4 2 rfl rfl ?_
      refine z_aload_n h dX12_faultOf_5 0 rfl rfl ?_
      refine z_get h (C := RX12) (T := TX12) (N := 17) (v := .int c0_signs) 0 rfl rfl 4 (by decide) (by decide +kernel) (by decide +kernel) rfl dX12_faultOf_6 rfl ?_
      refine z_icmp_ge h (tgt := 35) dX12_faultOf_9 (by decide) rfl (fun c1 => ?_) (fun c1 => ?_)
      · have hf := ite_t hf c1
        refine z_iload_n h dX12_faultOf_35 1 rfl rfl ?_
        refine z_if_ne h (tgt := 44) dX12_faultOf_36 (by decide) rfl (fun c2 => ?_) (fun c2 => ?_)
        · have hf := ite_f hf c2
          refine z_aload_n h dX12_faultOf_44 0 rfl rfl ?_
          refine z_get h (C := RX12) (T := TX12) (N := 17) (v := .int c0_signs) 0 rfl rfl 4 (by decide) (by decide +kernel) (by decide +kernel) rfl dX12_faultOf_45 rfl ?_
          refine z_locs h (lv2 := []) [] rfl ?_
          exact hB48 c0_signs hf
        have hf := ite_t hf c2
        refine z_bipush h (v := (-6 : Int32)) dX12_faultOf_39 (by decide) rfl ?_
        refine z_goto h (tgt := 48) dX12_faultOf_41 (by decide) ?_
        refine z_locs h (lv2 := []) [] rfl ?_
        exact hB48 (-6 : Int32) hf
      have hf := ite_f hf c1
      refine z_iload_n h dX12_faultOf_12 1 rfl rfl ?_
      refine z_aload_n h dX12_faultOf_13 0 rfl rfl ?_
      refine z_get h (C := RX12) (T := TX12) (N := 17) (v := .ref a0_pad) 0 rfl rfl 5 (by decide) (by decide +kernel) (by decide +kernel) rfl dX12_faultOf_14 rfl ?_
      refine z_iload_n h dX12_faultOf_17 2 rfl rfl ?_
      obtain ⟨hg3, hf⟩ := gd_some hf
      refine z_iald h 1 rfl rfl hg3 dX12_faultOf_18 rfl ?_
      obtain ⟨v4, hv4, hf⟩ := bd_some hf
      refine z_callS h (np := 2) (st := []) (wr := [(a0, .inr (12, [.ref a0_book, .ref a0_now, .int c0_sights, .ref a0_sight, .int c0_signs, .ref a0_pad, .int c0_offs, .int c0_offAt, .int c0_offWho, .int c0_lastOff, .int c0_reason, .int c0_acts, .ref a0_can, .ref a0_fitting, .ref a0_wins, .ref a0_image, .ref a0_isKept])), (a0_pad, .inl (G.2.1, 60, .inl c0_pad))]) [.int x1, .int (c0_pad (x2).toNatClampNeg)] (ctX12_step l G x1 (c0_pad (x2).toNatClampNeg) hv4) gX12_faultOf_X12_step (by decide +kernel) rfl ⟨Nat.le_of_ble_eq_true rfl, Nat.le_of_ble_eq_true rfl⟩ ⟨Nat.le_refl _, Nat.le_refl _⟩ rfl rfl rfl [] [0, 1] rfl rfl rfl rfl (by decide) (Nat.le_of_ble_eq_true rfl) dX12_faultOf_19 rfl rfl (fun rv4 wv4 hrv4 => ?_)
      obtain ⟨rfl, rfl⟩ := hrv4
      refine z_perm h (w2 := [(a0, .inr (12, [.ref a0_book, .ref a0_now, .int c0_sights, .ref a0_sight, .int c0_signs, .ref a0_pad, .int c0_offs, .int c0_offAt, .int c0_offWho, .int c0_lastOff, .int c0_reason, .int c0_acts, .ref a0_can, .ref a0_fitting, .ref a0_wins, .ref a0_image, .ref a0_isKept])), (a0_pad, .inl (G.2.1, 60, .inl c0_pad))]) (st := [.int v4]) [0, 1] rfl rfl ?_
      refine z_istore_n h (lv2 := [(1, .int v4), (0, .ref a0), (2, .int x2)]) dX12_faultOf_22 (by decide) rfl rfl ?_
      refine z_iload_n h dX12_faultOf_23 0 rfl rfl ?_
      refine z_if_ge h (tgt := 29) dX12_faultOf_24 (by decide) rfl (fun c5 => ?_) (fun c5 => ?_)
      · have hf := ite_t hf c5
        refine z_iinc h (v := (x2 + (1 : Int32))) (lv2 := [(2, .int (x2 + (1 : Int32))), (1, .int v4), (0, .ref a0)]) (j := 2) dX12_faultOf_29 rfl rfl (by decide) rfl rfl ?_
        refine z_goto h (tgt := 4) dX12_faultOf_32 (by decide) ?_
        refine z_locs h (lv2 := [(0, .ref a0), (1, .int v4), (2, .int (x2 + (1 : Int32)))]) [2, 1, 0] rfl ?_
        exact ih4 v4 (x2 + (1 : Int32)) hf
      have hf := ite_f hf c5
      refine z_iload_n h dX12_faultOf_27 2 rfl rfl ?_
      have hf := Option.some.inj hf
      subst hf
      exact hret _ _ _ _ dX12_faultOf_28 ⟨rfl, rfl⟩
  rw [fX12_faultOf] at hf
  show Z 0 0 _ [(0, .ref a0)] 0 []
  refine z_iconst h (v := (0 : Int32)) dX12_faultOf_0 (by decide) rfl ?_
  refine z_istore_n h (lv2 := [(1, .int (0 : Int32)), (0, .ref a0)]) dX12_faultOf_1 (by decide) rfl rfl ?_
  refine z_iconst h (v := (0 : Int32)) dX12_faultOf_2 (by decide) rfl ?_
  refine z_istore_n h (lv2 := [(2, .int (0 : Int32)), (1, .int (0 : Int32)), (0, .ref a0)]) dX12_faultOf_3 (by decide) rfl rfl ?_
  refine z_locs h (lv2 := [(0, .ref a0), (1, .int (0 : Int32)), (2, .int (0 : Int32))]) [2, 1, 0] rfl ?_
  exact hL4 zF (0 : Int32) (0 : Int32) hf
def fX12_fault (c0_signs : Int32) (c0_pad : Nat → Int32)  : Option (Int32) := Option.bind (fX12_faultOf c0_signs c0_pad) (fun v1 => (some v1))
abbrev rmX12_fault : Room := { frames := 3, cells := 0, slots := 0, locals := 66 }
set_option maxRecDepth 100000 in
set_option maxHeartbeats 4000000 in
theorem ctX12_fault (l : Launch) (G : zG) (a0 a0_book a0_now a0_sight a0_pad a0_can a0_fitting a0_wins a0_image a0_isKept : Nat) (c0_sights : Int32) (c0_signs : Int32) (c0_offs : Int32) (c0_offAt : Int32) (c0_offWho : Int32) (c0_lastOff : Int32) (c0_reason : Int32) (c0_acts : Int32) (c0_pad : Nat → Int32)  {R : Int32} (hf : fX12_fault c0_signs c0_pad = some R) : zCt l yX12_fault wsX12_fault rmX12_fault G [(a0, .inr (12, [.ref a0_book, .ref a0_now, .int c0_sights, .ref a0_sight, .int c0_signs, .ref a0_pad, .int c0_offs, .int c0_offAt, .int c0_offWho, .int c0_lastOff, .int c0_reason, .int c0_acts, .ref a0_can, .ref a0_fitting, .ref a0_wins, .ref a0_image, .ref a0_isKept])), (a0_pad, .inl (G.2.1, 60, .inl c0_pad))] [.ref a0] (fun v w => v = some (.int (R)) ∧ w = [(a0, .inr (12, [.ref a0_book, .ref a0_now, .int c0_sights, .ref a0_sight, .int c0_signs, .ref a0_pad, .int c0_offs, .int c0_offAt, .int c0_offWho, .int c0_lastOff, .int c0_reason, .int c0_acts, .ref a0_can, .ref a0_fitting, .ref a0_wins, .ref a0_image, .ref a0_isKept])), (a0_pad, .inl (G.2.1, 60, .inl c0_pad))]) := by
  refine zMkI (own := RX12) false (by decide) (by decide +kernel) rfl rfl (Nat.le_of_ble_eq_true rfl) ?_
  intro Z h hret
  rw [fX12_fault] at hf
  show Z 0 0 _ [(0, .ref a0)] 0 []
  refine z_aload_n h dX12_fault_0 0 rfl rfl ?_
  obtain ⟨v1, hv1, hf⟩ := bd_some hf
  refine z_callV h (np := 0) (st := []) (wr := []) [] (ctX12_faultOf l G a0 a0_book a0_now a0_sight a0_pad a0_can a0_fitting a0_wins a0_image a0_isKept c0_sights c0_signs c0_offs c0_offAt c0_offWho c0_lastOff c0_reason c0_acts c0_pad hv1) gX12_fault_X12_faultOf (by decide +kernel) 0 rfl rfl rfl ⟨Nat.le_of_ble_eq_true rfl, Nat.le_of_ble_eq_true rfl⟩ ⟨Nat.le_refl _, Nat.le_refl _⟩ rfl rfl rfl [0, 1] [] rfl rfl rfl rfl (by decide) (Nat.le_of_ble_eq_true rfl) dX12_fault_1 rfl rfl (fun rv1 wv1 hrv1 => ?_)
  obtain ⟨rfl, rfl⟩ := hrv1
  refine z_perm h (w2 := [(a0, .inr (12, [.ref a0_book, .ref a0_now, .int c0_sights, .ref a0_sight, .int c0_signs, .ref a0_pad, .int c0_offs, .int c0_offAt, .int c0_offWho, .int c0_lastOff, .int c0_reason, .int c0_acts, .ref a0_can, .ref a0_fitting, .ref a0_wins, .ref a0_image, .ref a0_isKept])), (a0_pad, .inl (G.2.1, 60, .inl c0_pad))]) (st := [.int v1]) [0, 1] rfl rfl ?_
  have hf := Option.some.inj hf
  subst hf
  exact hret _ _ _ _ dX12_fault_4 ⟨rfl, rfl⟩
def fX12_walk_b68 (x1 : Int32) (x2 : Int32)  (c0_now : Nat → Int32) : Option (Int32 × (Nat → Int32)) := (some ((0 : Int32), c0_now))
def fX12_walk (c0_now : Nat → Int32) (x1 : Int32) (x2 : Int32) : Option (Int32 × (Nat → Int32)) := Option.bind (fX12_holder c0_now x1) (fun v1 => (if v1 < (0 : Int32) then gd (inb x1 56) (Option.bind (fX12_isCell ((c0_now (x1).toNatClampNeg) + x2)) (fun v4 => (if v4 = (0 : Int32) then (some ((2 : Int32), c0_now)) else gd (inb x1 56) (gd (inb x1 56) (gd (inb ((18 : Int32) + x1) 56) ((if ((upd c0_now (x1).toNatClampNeg ((c0_now (x1).toNatClampNeg) + x2)) (((18 : Int32) + x1)).toNatClampNeg) < (0 : Int32) then (fX12_walk_b68 x1 x2  (upd c0_now (x1).toNatClampNeg ((c0_now (x1).toNatClampNeg) + x2))) else gd (inb ((18 : Int32) + x1) 56) (gd (inb x1 56) (gd (inb ((upd c0_now (x1).toNatClampNeg ((c0_now (x1).toNatClampNeg) + x2)) (((18 : Int32) + x1)).toNatClampNeg) 56) ((fX12_walk_b68 x1 x2  (upd (upd c0_now (x1).toNatClampNeg ((c0_now (x1).toNatClampNeg) + x2)) (((upd c0_now (x1).toNatClampNeg ((c0_now (x1).toNatClampNeg) + x2)) (((18 : Int32) + x1)).toNatClampNeg)).toNatClampNeg ((upd c0_now (x1).toNatClampNeg ((c0_now (x1).toNatClampNeg) + x2)) (x1).toNatClampNeg))))))))))))) else (some ((1 : Int32), c0_now))))
abbrev rmX12_walk : Room := { frames := 2, cells := 0, slots := 0, locals := 42 }
set_option maxRecDepth 100000 in
set_option maxHeartbeats 4000000 in
theorem ctX12_walk (l : Launch) (G : zG) (a0 a0_book a0_now a0_sight a0_pad a0_can a0_fitting a0_wins a0_image a0_isKept : Nat) (c0_sights : Int32) (c0_signs : Int32) (c0_offs : Int32) (c0_offAt : Int32) (c0_offWho : Int32) (c0_lastOff : Int32) (c0_reason : Int32) (c0_acts : Int32) (c0_now : Nat → Int32) (x1 : Int32) (x2 : Int32) {R : Int32 × (Nat → Int32)} (hf : fX12_walk c0_now x1 x2 = some R) : zCt l yX12_walk wsX12_walk rmX12_walk G [(a0, .inr (12, [.ref a0_book, .ref a0_now, .int c0_sights, .ref a0_sight, .int c0_signs, .ref a0_pad, .int c0_offs, .int c0_offAt, .int c0_offWho, .int c0_lastOff, .int c0_reason, .int c0_acts, .ref a0_can, .ref a0_fitting, .ref a0_wins, .ref a0_image, .ref a0_isKept])), (a0_now, .inl (G.2.1, 56, .inl c0_now))] [.ref a0, .int x1, .int x2] (fun v w => v = some (.int (R.1)) ∧ w = [(a0, .inr (12, [.ref a0_book, .ref a0_now, .int c0_sights, .ref a0_sight, .int c0_signs, .ref a0_pad, .int c0_offs, .int c0_offAt, .int c0_offWho, .int c0_lastOff, .int c0_reason, .int c0_acts, .ref a0_can, .ref a0_fitting, .ref a0_wins, .ref a0_image, .ref a0_isKept])), (a0_now, .inl (G.2.1, 56, .inl (R.2)))]) := by
  refine zMkI (own := RX12) false (by decide) (by decide +kernel) rfl rfl (Nat.le_of_ble_eq_true rfl) ?_
  intro Z h hret
  have hB68 : ∀ (c0_now : Nat → Int32), fX12_walk_b68 x1 x2  c0_now = some R → Z 0 0 [(a0, .inr (12, [.ref a0_book, .ref a0_now, .int c0_sights, .ref a0_sight, .int c0_signs, .ref a0_pad, .int c0_offs, .int c0_offAt, .int c0_offWho, .int c0_lastOff, .int c0_reason, .int c0_acts, .ref a0_can, .ref a0_fitting, .ref a0_wins, .ref a0_image, .ref a0_isKept])), (a0_now, .inl (G.2.1, 56, .inl c0_now))] [] 68 [] := by
    intro c0_now hf
    rw [fX12_walk_b68] at hf
    refine z_iconst h (v := (0 : Int32)) dX12_walk_68 (by decide) rfl ?_
    have hf := Option.some.inj hf
    subst hf
    exact hret _ _ _ _ dX12_walk_69 ⟨rfl, rfl⟩
  rw [fX12_walk] at hf
  show Z 0 0 _ [(0, .ref a0), (1, .int x1), (2, .int x2)] 0 []
  refine z_aload_n h dX12_walk_0 0 rfl rfl ?_
  refine z_iload_n h dX12_walk_1 1 rfl rfl ?_
  obtain ⟨v1, hv1, hf⟩ := bd_some hf
  refine z_callV h (np := 1) (st := []) (wr := []) [.int x1] (ctX12_holder l G a0 a0_book a0_now a0_sight a0_pad a0_can a0_fitting a0_wins a0_image a0_isKept c0_sights c0_signs c0_offs c0_offAt c0_offWho c0_lastOff c0_reason c0_acts c0_now x1 hv1) gX12_walk_X12_holder (by decide +kernel) 0 rfl rfl rfl ⟨Nat.le_of_ble_eq_true rfl, Nat.le_of_ble_eq_true rfl⟩ ⟨Nat.le_refl _, Nat.le_refl _⟩ rfl rfl rfl [0, 1] [] rfl rfl rfl rfl (by decide) (Nat.le_of_ble_eq_true rfl) dX12_walk_2 rfl rfl (fun rv1 wv1 hrv1 => ?_)
  obtain ⟨rfl, rfl⟩ := hrv1
  refine z_perm h (w2 := [(a0, .inr (12, [.ref a0_book, .ref a0_now, .int c0_sights, .ref a0_sight, .int c0_signs, .ref a0_pad, .int c0_offs, .int c0_offAt, .int c0_offWho, .int c0_lastOff, .int c0_reason, .int c0_acts, .ref a0_can, .ref a0_fitting, .ref a0_wins, .ref a0_image, .ref a0_isKept])), (a0_now, .inl (G.2.1, 56, .inl c0_now))]) (st := [.int v1]) [0, 1] rfl rfl ?_
  refine z_if_lt h (tgt := 10) dX12_walk_5 (by decide) rfl (fun c2 => ?_) (fun c2 => ?_)
  · have hf := ite_t hf c2
    refine z_aload_n h dX12_walk_10 0 rfl rfl ?_
    refine z_get h (C := RX12) (T := TX12) (N := 17) (v := .ref a0_now) 0 rfl rfl 1 (by decide) (by decide +kernel) (by decide +kernel) rfl dX12_walk_11 rfl ?_
    refine z_iload_n h dX12_walk_14 1 rfl rfl ?_
    obtain ⟨hg3, hf⟩ := gd_some hf
    refine z_iald h 1 rfl rfl hg3 dX12_walk_15 rfl ?_
    refine z_iload_n h dX12_walk_16 2 rfl rfl ?_
    refine z_iadd h dX12_walk_17 rfl ?_
    obtain ⟨v4, hv4, hf⟩ := bd_some hf
    refine z_callS h (np := 1) (st := []) (wr := [(a0, .inr (12, [.ref a0_book, .ref a0_now, .int c0_sights, .ref a0_sight, .int c0_signs, .ref a0_pad, .int c0_offs, .int c0_offAt, .int c0_offWho, .int c0_lastOff, .int c0_reason, .int c0_acts, .ref a0_can, .ref a0_fitting, .ref a0_wins, .ref a0_image, .ref a0_isKept])), (a0_now, .inl (G.2.1, 56, .inl c0_now))]) [.int ((c0_now (x1).toNatClampNeg) + x2)] (ctX12_isCell l G ((c0_now (x1).toNatClampNeg) + x2) hv4) gX12_walk_X12_isCell (by decide +kernel) rfl ⟨Nat.le_of_ble_eq_true rfl, Nat.le_of_ble_eq_true rfl⟩ ⟨Nat.le_refl _, Nat.le_refl _⟩ rfl rfl rfl [] [0, 1] rfl rfl rfl rfl (by decide) (Nat.le_of_ble_eq_true rfl) dX12_walk_18 rfl rfl (fun rv4 wv4 hrv4 => ?_)
    obtain ⟨rfl, rfl⟩ := hrv4
    refine z_perm h (w2 := [(a0, .inr (12, [.ref a0_book, .ref a0_now, .int c0_sights, .ref a0_sight, .int c0_signs, .ref a0_pad, .int c0_offs, .int c0_offAt, .int c0_offWho, .int c0_lastOff, .int c0_reason, .int c0_acts, .ref a0_can, .ref a0_fitting, .ref a0_wins, .ref a0_image, .ref a0_isKept])), (a0_now, .inl (G.2.1, 56, .inl c0_now))]) (st := [.int v4]) [0, 1] rfl rfl ?_
    refine z_if_ne h (tgt := 26) dX12_walk_21 (by decide) rfl (fun c5 => ?_) (fun c5 => ?_)
    · have hf := ite_f hf c5
      refine z_aload_n h dX12_walk_26 0 rfl rfl ?_
      refine z_get h (C := RX12) (T := TX12) (N := 17) (v := .ref a0_now) 0 rfl rfl 1 (by decide) (by decide +kernel) (by decide +kernel) rfl dX12_walk_27 rfl ?_
      refine z_iload_n h dX12_walk_30 1 rfl rfl ?_
      refine z_dup2 h dX12_walk_31 rfl rfl rfl ?_
      obtain ⟨hg6, hf⟩ := gd_some hf
      refine z_iald h 1 rfl rfl hg6 dX12_walk_32 rfl ?_
      refine z_iload_n h dX12_walk_33 2 rfl rfl ?_
      refine z_iadd h dX12_walk_34 rfl ?_
      obtain ⟨hg7, hf⟩ := gd_some hf
      refine z_iast h (w2 := [(a0, .inr (12, [.ref a0_book, .ref a0_now, .int c0_sights, .ref a0_sight, .int c0_signs, .ref a0_pad, .int c0_offs, .int c0_offAt, .int c0_offWho, .int c0_lastOff, .int c0_reason, .int c0_acts, .ref a0_can, .ref a0_fitting, .ref a0_wins, .ref a0_image, .ref a0_isKept])), (a0_now, .inl (G.2.1, 56, .inl (upd c0_now (x1).toNatClampNeg ((c0_now (x1).toNatClampNeg) + x2))))]) 1 rfl rfl hg7 dX12_walk_35 rfl rfl ?_
      refine z_aload_n h dX12_walk_36 0 rfl rfl ?_
      refine z_get h (C := RX12) (T := TX12) (N := 17) (v := .ref a0_now) 0 rfl rfl 1 (by decide) (by decide +kernel) (by decide +kernel) rfl dX12_walk_37 rfl ?_
      refine z_bipush h (v := (18 : Int32)) dX12_walk_40 (by decide) rfl ?_
      refine z_iload_n h dX12_walk_42 1 rfl rfl ?_
      refine z_iadd h dX12_walk_43 rfl ?_
      obtain ⟨hg8, hf⟩ := gd_some hf
      refine z_iald h 1 rfl rfl hg8 dX12_walk_44 rfl ?_
      refine z_if_lt h (tgt := 68) dX12_walk_45 (by decide) rfl (fun c9 => ?_) (fun c9 => ?_)
      · have hf := ite_t hf c9
        refine z_locs h (lv2 := []) [] rfl ?_
        exact hB68 (upd c0_now (x1).toNatClampNeg ((c0_now (x1).toNatClampNeg) + x2)) hf
      have hf := ite_f hf c9
      refine z_aload_n h dX12_walk_48 0 rfl rfl ?_
      refine z_get h (C := RX12) (T := TX12) (N := 17) (v := .ref a0_now) 0 rfl rfl 1 (by decide) (by decide +kernel) (by decide +kernel) rfl dX12_walk_49 rfl ?_
      refine z_aload_n h dX12_walk_52 0 rfl rfl ?_
      refine z_get h (C := RX12) (T := TX12) (N := 17) (v := .ref a0_now) 0 rfl rfl 1 (by decide) (by decide +kernel) (by decide +kernel) rfl dX12_walk_53 rfl ?_
      refine z_bipush h (v := (18 : Int32)) dX12_walk_56 (by decide) rfl ?_
      refine z_iload_n h dX12_walk_58 1 rfl rfl ?_
      refine z_iadd h dX12_walk_59 rfl ?_
      obtain ⟨hg10, hf⟩ := gd_some hf
      refine z_iald h 1 rfl rfl hg10 dX12_walk_60 rfl ?_
      refine z_aload_n h dX12_walk_61 0 rfl rfl ?_
      refine z_get h (C := RX12) (T := TX12) (N := 17) (v := .ref a0_now) 0 rfl rfl 1 (by decide) (by decide +kernel) (by decide +kernel) rfl dX12_walk_62 rfl ?_
      refine z_iload_n h dX12_walk_65 1 rfl rfl ?_
      obtain ⟨hg11, hf⟩ := gd_some hf
      refine z_iald h 1 rfl rfl hg11 dX12_walk_66 rfl ?_
      obtain ⟨hg12, hf⟩ := gd_some hf
      refine z_iast h (w2 := [(a0, .inr (12, [.ref a0_book, .ref a0_now, .int c0_sights, .ref a0_sight, .int c0_signs, .ref a0_pad, .int c0_offs, .int c0_offAt, .int c0_offWho, .int c0_lastOff, .int c0_reason, .int c0_acts, .ref a0_can, .ref a0_fitting, .ref a0_wins, .ref a0_image, .ref a0_isKept])), (a0_now, .inl (G.2.1, 56, .inl (upd (upd c0_now (x1).toNatClampNeg ((c0_now (x1).toNatClampNeg) + x2)) (((upd c0_now (x1).toNatClampNeg ((c0_now (x1).toNatClampNeg) + x2)) (((18 : Int32) + x1)).toNatClampNeg)).toNatClampNeg ((upd c0_now (x1).toNatClampNeg ((c0_now (x1).toNatClampNeg) + x2)) (x1).toNatClampNeg))))]) 1 rfl rfl hg12 dX12_walk_67 rfl rfl ?_
      refine z_locs h (lv2 := []) [] rfl ?_
      exact hB68 (upd (upd c0_now (x1).toNatClampNeg ((c0_now (x1).toNatClampNeg) + x2)) (((upd c0_now (x1).toNatClampNeg ((c0_now (x1).toNatClampNeg) + x2)) (((18 : Int32) + x1)).toNatClampNeg)).toNatClampNeg ((upd c0_now (x1).toNatClampNeg ((c0_now (x1).toNatClampNeg) + x2)) (x1).toNatClampNeg)) hf
    have hf := ite_t hf c5
    refine z_iconst h (v := (2 : Int32)) dX12_walk_24 (by decide) rfl ?_
    have hf := Option.some.inj hf
    subst hf
    exact hret _ _ _ _ dX12_walk_25 ⟨rfl, rfl⟩
  have hf := ite_f hf c2
  refine z_iconst h (v := (1 : Int32)) dX12_walk_8 (by decide) rfl ?_
  have hf := Option.some.inj hf
  subst hf
  exact hret _ _ _ _ dX12_walk_9 ⟨rfl, rfl⟩
def fX12_state (c0_now : Nat → Int32) (x1 : Int32) (x2 : Int32) : Option (Int32 × (Nat → Int32)) := gd (inb ((12 : Int32) + x1) 56) ((if (c0_now (((12 : Int32) + x1)).toNatClampNeg) < (4 : Int32) then gd (inb ((6 : Int32) + x1) 56) (gd (inb ((6 : Int32) + x1) 56) ((some ((0 : Int32), (upd c0_now (((6 : Int32) + x1)).toNatClampNeg ((c0_now (((6 : Int32) + x1)).toNatClampNeg) ^^^ (sl (1 : Int32) x2))))))) else (some ((3 : Int32), c0_now))))
abbrev rmX12_state : Room := { frames := 0, cells := 0, slots := 0, locals := 0 }
set_option maxRecDepth 100000 in
set_option maxHeartbeats 4000000 in
theorem ctX12_state (l : Launch) (G : zG) (a0 a0_book a0_now a0_sight a0_pad a0_can a0_fitting a0_wins a0_image a0_isKept : Nat) (c0_sights : Int32) (c0_signs : Int32) (c0_offs : Int32) (c0_offAt : Int32) (c0_offWho : Int32) (c0_lastOff : Int32) (c0_reason : Int32) (c0_acts : Int32) (c0_now : Nat → Int32) (x1 : Int32) (x2 : Int32) {R : Int32 × (Nat → Int32)} (hf : fX12_state c0_now x1 x2 = some R) : zCt l yX12_state wsX12_state rmX12_state G [(a0, .inr (12, [.ref a0_book, .ref a0_now, .int c0_sights, .ref a0_sight, .int c0_signs, .ref a0_pad, .int c0_offs, .int c0_offAt, .int c0_offWho, .int c0_lastOff, .int c0_reason, .int c0_acts, .ref a0_can, .ref a0_fitting, .ref a0_wins, .ref a0_image, .ref a0_isKept])), (a0_now, .inl (G.2.1, 56, .inl c0_now))] [.ref a0, .int x1, .int x2] (fun v w => v = some (.int (R.1)) ∧ w = [(a0, .inr (12, [.ref a0_book, .ref a0_now, .int c0_sights, .ref a0_sight, .int c0_signs, .ref a0_pad, .int c0_offs, .int c0_offAt, .int c0_offWho, .int c0_lastOff, .int c0_reason, .int c0_acts, .ref a0_can, .ref a0_fitting, .ref a0_wins, .ref a0_image, .ref a0_isKept])), (a0_now, .inl (G.2.1, 56, .inl (R.2)))]) := by
  refine zMkI (own := RX12) false (by decide) (by decide +kernel) rfl rfl (Nat.le_of_ble_eq_true rfl) ?_
  intro Z h hret
  rw [fX12_state] at hf
  show Z 0 0 _ [(0, .ref a0), (1, .int x1), (2, .int x2)] 0 []
  refine z_aload_n h dX12_state_0 0 rfl rfl ?_
  refine z_get h (C := RX12) (T := TX12) (N := 17) (v := .ref a0_now) 0 rfl rfl 1 (by decide) (by decide +kernel) (by decide +kernel) rfl dX12_state_1 rfl ?_
  refine z_bipush h (v := (12 : Int32)) dX12_state_4 (by decide) rfl ?_
  refine z_iload_n h dX12_state_6 1 rfl rfl ?_
  refine z_iadd h dX12_state_7 rfl ?_
  obtain ⟨hg1, hf⟩ := gd_some hf
  refine z_iald h 1 rfl rfl hg1 dX12_state_8 rfl ?_
  refine z_iconst h (v := (4 : Int32)) dX12_state_9 (by decide) rfl ?_
  refine z_icmp_lt h (tgt := 15) dX12_state_10 (by decide) rfl (fun c2 => ?_) (fun c2 => ?_)
  · have hf := ite_t hf c2
    refine z_aload_n h dX12_state_15 0 rfl rfl ?_
    refine z_get h (C := RX12) (T := TX12) (N := 17) (v := .ref a0_now) 0 rfl rfl 1 (by decide) (by decide +kernel) (by decide +kernel) rfl dX12_state_16 rfl ?_
    refine z_bipush h (v := (6 : Int32)) dX12_state_19 (by decide) rfl ?_
    refine z_iload_n h dX12_state_21 1 rfl rfl ?_
    refine z_iadd h dX12_state_22 rfl ?_
    refine z_dup2 h dX12_state_23 rfl rfl rfl ?_
    obtain ⟨hg3, hf⟩ := gd_some hf
    refine z_iald h 1 rfl rfl hg3 dX12_state_24 rfl ?_
    refine z_iconst h (v := (1 : Int32)) dX12_state_25 (by decide) rfl ?_
    refine z_iload_n h dX12_state_26 2 rfl rfl ?_
    refine z_ishl h dX12_state_27 rfl ?_
    refine z_ixor h dX12_state_28 rfl ?_
    obtain ⟨hg4, hf⟩ := gd_some hf
    refine z_iast h (w2 := [(a0, .inr (12, [.ref a0_book, .ref a0_now, .int c0_sights, .ref a0_sight, .int c0_signs, .ref a0_pad, .int c0_offs, .int c0_offAt, .int c0_offWho, .int c0_lastOff, .int c0_reason, .int c0_acts, .ref a0_can, .ref a0_fitting, .ref a0_wins, .ref a0_image, .ref a0_isKept])), (a0_now, .inl (G.2.1, 56, .inl (upd c0_now (((6 : Int32) + x1)).toNatClampNeg ((c0_now (((6 : Int32) + x1)).toNatClampNeg) ^^^ (sl (1 : Int32) x2)))))]) 1 rfl rfl hg4 dX12_state_29 rfl rfl ?_
    refine z_iconst h (v := (0 : Int32)) dX12_state_30 (by decide) rfl ?_
    have hf := Option.some.inj hf
    subst hf
    exact hret _ _ _ _ dX12_state_31 ⟨rfl, rfl⟩
  have hf := ite_f hf c2
  refine z_iconst h (v := (3 : Int32)) dX12_state_13 (by decide) rfl ?_
  have hf := Option.some.inj hf
  subst hf
  exact hret _ _ _ _ dX12_state_14 ⟨rfl, rfl⟩
def fX12_pay_b85 (x1 : Int32) (x2 : Int32)  (c0_now : Nat → Int32) (s1 : Int32) (s2 : Int32) : Option (Int32 × (Nat → Int32)) := gd (inb s1 56) ((some ((0 : Int32), (upd c0_now (s1).toNatClampNeg s2))))
def fX12_pay (c0_now : Nat → Int32) (x1 : Int32) (x2 : Int32) : Option (Int32 × (Nat → Int32)) := gd (inb (((30 : Int32) + ((6 : Int32) * x2)) + x1) 56) ((if (c0_now ((((30 : Int32) + ((6 : Int32) * x2)) + x1)).toNatClampNeg) = (0 : Int32) then (some ((4 : Int32), c0_now)) else gd (inb ((12 : Int32) + x1) 56) ((if (c0_now (((12 : Int32) + x1)).toNatClampNeg) = (0 : Int32) then (some ((5 : Int32), c0_now)) else gd (inb (((30 : Int32) + ((6 : Int32) * x2)) + x1) 56) (gd (inb (((30 : Int32) + ((6 : Int32) * x2)) + x1) 56) (gd (inb ((12 : Int32) + x1) 56) (gd (inb ((53 : Int32) + x2) 56) ((if (0 : Int32) ≤ (((upd c0_now ((((30 : Int32) + ((6 : Int32) * x2)) + x1)).toNatClampNeg ((c0_now ((((30 : Int32) + ((6 : Int32) * x2)) + x1)).toNatClampNeg) - (1 : Int32))) (((12 : Int32) + x1)).toNatClampNeg) - ((upd c0_now ((((30 : Int32) + ((6 : Int32) * x2)) + x1)).toNatClampNeg ((c0_now ((((30 : Int32) + ((6 : Int32) * x2)) + x1)).toNatClampNeg) - (1 : Int32))) (((53 : Int32) + x2)).toNatClampNeg)) then (fX12_pay_b85 x1 x2  (upd c0_now ((((30 : Int32) + ((6 : Int32) * x2)) + x1)).toNatClampNeg ((c0_now ((((30 : Int32) + ((6 : Int32) * x2)) + x1)).toNatClampNeg) - (1 : Int32))) ((12 : Int32) + x1) (((upd c0_now ((((30 : Int32) + ((6 : Int32) * x2)) + x1)).toNatClampNeg ((c0_now ((((30 : Int32) + ((6 : Int32) * x2)) + x1)).toNatClampNeg) - (1 : Int32))) (((12 : Int32) + x1)).toNatClampNeg) - ((upd c0_now ((((30 : Int32) + ((6 : Int32) * x2)) + x1)).toNatClampNeg ((c0_now ((((30 : Int32) + ((6 : Int32) * x2)) + x1)).toNatClampNeg) - (1 : Int32))) (((53 : Int32) + x2)).toNatClampNeg))) else (fX12_pay_b85 x1 x2  (upd c0_now ((((30 : Int32) + ((6 : Int32) * x2)) + x1)).toNatClampNeg ((c0_now ((((30 : Int32) + ((6 : Int32) * x2)) + x1)).toNatClampNeg) - (1 : Int32))) ((12 : Int32) + x1) (0 : Int32)))))))))))
abbrev rmX12_pay : Room := { frames := 0, cells := 0, slots := 0, locals := 0 }
set_option maxRecDepth 100000 in
set_option maxHeartbeats 4000000 in
theorem ctX12_pay (l : Launch) (G : zG) (a0 a0_book a0_now a0_sight a0_pad a0_can a0_fitting a0_wins a0_image a0_isKept : Nat) (c0_sights : Int32) (c0_signs : Int32) (c0_offs : Int32) (c0_offAt : Int32) (c0_offWho : Int32) (c0_lastOff : Int32) (c0_reason : Int32) (c0_acts : Int32) (c0_now : Nat → Int32) (x1 : Int32) (x2 : Int32) {R : Int32 × (Nat → Int32)} (hf : fX12_pay c0_now x1 x2 = some R) : zCt l yX12_pay wsX12_pay rmX12_pay G [(a0, .inr (12, [.ref a0_book, .ref a0_now, .int c0_sights, .ref a0_sight, .int c0_signs, .ref a0_pad, .int c0_offs, .int c0_offAt, .int c0_offWho, .int c0_lastOff, .int c0_reason, .int c0_acts, .ref a0_can, .ref a0_fitting, .ref a0_wins, .ref a0_image, .ref a0_isKept])), (a0_now, .inl (G.2.1, 56, .inl c0_now))] [.ref a0, .int x1, .int x2] (fun v w => v = some (.int (R.1)) ∧ w = [(a0, .inr (12, [.ref a0_book, .ref a0_now, .int c0_sights, .ref a0_sight, .int c0_signs, .ref a0_pad, .int c0_offs, .int c0_offAt, .int c0_offWho, .int c0_lastOff, .int c0_reason, .int c0_acts, .ref a0_can, .ref a0_fitting, .ref a0_wins, .ref a0_image, .ref a0_isKept])), (a0_now, .inl (G.2.1, 56, .inl (R.2)))]) := by
  refine zMkI (own := RX12) false (by decide) (by decide +kernel) rfl rfl (Nat.le_of_ble_eq_true rfl) ?_
  intro Z h hret
  have hB85 : ∀ (c0_now : Nat → Int32) (s1 : Int32) (s2 : Int32), fX12_pay_b85 x1 x2  c0_now s1 s2 = some R → Z 0 0 [(a0, .inr (12, [.ref a0_book, .ref a0_now, .int c0_sights, .ref a0_sight, .int c0_signs, .ref a0_pad, .int c0_offs, .int c0_offAt, .int c0_offWho, .int c0_lastOff, .int c0_reason, .int c0_acts, .ref a0_can, .ref a0_fitting, .ref a0_wins, .ref a0_image, .ref a0_isKept])), (a0_now, .inl (G.2.1, 56, .inl c0_now))] [] 85 [.int s2, .int s1, .ref a0_now] := by
    intro c0_now s1 s2 hf
    rw [fX12_pay_b85] at hf
    obtain ⟨hg1, hf⟩ := gd_some hf
    refine z_iast h (w2 := [(a0, .inr (12, [.ref a0_book, .ref a0_now, .int c0_sights, .ref a0_sight, .int c0_signs, .ref a0_pad, .int c0_offs, .int c0_offAt, .int c0_offWho, .int c0_lastOff, .int c0_reason, .int c0_acts, .ref a0_can, .ref a0_fitting, .ref a0_wins, .ref a0_image, .ref a0_isKept])), (a0_now, .inl (G.2.1, 56, .inl (upd c0_now (s1).toNatClampNeg s2)))]) 1 rfl rfl hg1 dX12_pay_85 rfl rfl ?_
    refine z_iconst h (v := (0 : Int32)) dX12_pay_86 (by decide) rfl ?_
    have hf := Option.some.inj hf
    subst hf
    exact hret _ _ _ _ dX12_pay_87 ⟨rfl, rfl⟩
  rw [fX12_pay] at hf
  show Z 0 0 _ [(0, .ref a0), (1, .int x1), (2, .int x2)] 0 []
  refine z_bipush h (v := (30 : Int32)) dX12_pay_0 (by decide) rfl ?_
  refine z_bipush h (v := (6 : Int32)) dX12_pay_2 (by decide) rfl ?_
  refine z_iload_n h dX12_pay_4 2 rfl rfl ?_
  refine z_imul h dX12_pay_5 rfl ?_
  refine z_iadd h dX12_pay_6 rfl ?_
  refine z_iload_n h dX12_pay_7 1 rfl rfl ?_
  refine z_iadd h dX12_pay_8 rfl ?_
  refine z_istore_n h (lv2 := [(3, .int (((30 : Int32) + ((6 : Int32) * x2)) + x1)), (0, .ref a0), (1, .int x1), (2, .int x2)]) dX12_pay_9 (by decide) rfl rfl ?_
  refine z_aload_n h dX12_pay_10 1 rfl rfl ?_
  refine z_get h (C := RX12) (T := TX12) (N := 17) (v := .ref a0_now) 0 rfl rfl 1 (by decide) (by decide +kernel) (by decide +kernel) rfl dX12_pay_11 rfl ?_
  refine z_iload_n h dX12_pay_14 0 rfl rfl ?_
  obtain ⟨hg2, hf⟩ := gd_some hf
  refine z_iald h 1 rfl rfl hg2 dX12_pay_15 rfl ?_
  refine z_if_ne h (tgt := 21) dX12_pay_16 (by decide) rfl (fun c3 => ?_) (fun c3 => ?_)
  · have hf := ite_f hf c3
    refine z_aload_n h dX12_pay_21 1 rfl rfl ?_
    refine z_get h (C := RX12) (T := TX12) (N := 17) (v := .ref a0_now) 0 rfl rfl 1 (by decide) (by decide +kernel) (by decide +kernel) rfl dX12_pay_22 rfl ?_
    refine z_bipush h (v := (12 : Int32)) dX12_pay_25 (by decide) rfl ?_
    refine z_iload_n h dX12_pay_27 2 rfl rfl ?_
    refine z_iadd h dX12_pay_28 rfl ?_
    obtain ⟨hg4, hf⟩ := gd_some hf
    refine z_iald h 1 rfl rfl hg4 dX12_pay_29 rfl ?_
    refine z_if_ne h (tgt := 35) dX12_pay_30 (by decide) rfl (fun c5 => ?_) (fun c5 => ?_)
    · have hf := ite_f hf c5
      refine z_aload_n h dX12_pay_35 1 rfl rfl ?_
      refine z_get h (C := RX12) (T := TX12) (N := 17) (v := .ref a0_now) 0 rfl rfl 1 (by decide) (by decide +kernel) (by decide +kernel) rfl dX12_pay_36 rfl ?_
      refine z_iload_n h dX12_pay_39 0 rfl rfl ?_
      refine z_dup2 h dX12_pay_40 rfl rfl rfl ?_
      obtain ⟨hg6, hf⟩ := gd_some hf
      refine z_iald h 1 rfl rfl hg6 dX12_pay_41 rfl ?_
      refine z_iconst h (v := (1 : Int32)) dX12_pay_42 (by decide) rfl ?_
      refine z_isub h dX12_pay_43 rfl ?_
      obtain ⟨hg7, hf⟩ := gd_some hf
      refine z_iast h (w2 := [(a0, .inr (12, [.ref a0_book, .ref a0_now, .int c0_sights, .ref a0_sight, .int c0_signs, .ref a0_pad, .int c0_offs, .int c0_offAt, .int c0_offWho, .int c0_lastOff, .int c0_reason, .int c0_acts, .ref a0_can, .ref a0_fitting, .ref a0_wins, .ref a0_image, .ref a0_isKept])), (a0_now, .inl (G.2.1, 56, .inl (upd c0_now ((((30 : Int32) + ((6 : Int32) * x2)) + x1)).toNatClampNeg ((c0_now ((((30 : Int32) + ((6 : Int32) * x2)) + x1)).toNatClampNeg) - (1 : Int32)))))]) 1 rfl rfl hg7 dX12_pay_44 rfl rfl ?_
      refine z_aload_n h dX12_pay_45 1 rfl rfl ?_
      refine z_get h (C := RX12) (T := TX12) (N := 17) (v := .ref a0_now) 0 rfl rfl 1 (by decide) (by decide +kernel) (by decide +kernel) rfl dX12_pay_46 rfl ?_
      refine z_bipush h (v := (12 : Int32)) dX12_pay_49 (by decide) rfl ?_
      refine z_iload_n h dX12_pay_51 2 rfl rfl ?_
      refine z_iadd h dX12_pay_52 rfl ?_
      obtain ⟨hg8, hf⟩ := gd_some hf
      refine z_iald h 1 rfl rfl hg8 dX12_pay_53 rfl ?_
      refine z_aload_n h dX12_pay_54 1 rfl rfl ?_
      refine z_get h (C := RX12) (T := TX12) (N := 17) (v := .ref a0_now) 0 rfl rfl 1 (by decide) (by decide +kernel) (by decide +kernel) rfl dX12_pay_55 rfl ?_
      refine z_bipush h (v := (53 : Int32)) dX12_pay_58 (by decide) rfl ?_
      refine z_iload_n h dX12_pay_60 3 rfl rfl ?_
      refine z_iadd h dX12_pay_61 rfl ?_
      obtain ⟨hg9, hf⟩ := gd_some hf
      refine z_iald h 1 rfl rfl hg9 dX12_pay_62 rfl ?_
      refine z_isub h dX12_pay_63 rfl ?_
      refine z_istore h (lv2 := [(4, .int (((upd c0_now ((((30 : Int32) + ((6 : Int32) * x2)) + x1)).toNatClampNeg ((c0_now ((((30 : Int32) + ((6 : Int32) * x2)) + x1)).toNatClampNeg) - (1 : Int32))) (((12 : Int32) + x1)).toNatClampNeg) - ((upd c0_now ((((30 : Int32) + ((6 : Int32) * x2)) + x1)).toNatClampNeg ((c0_now ((((30 : Int32) + ((6 : Int32) * x2)) + x1)).toNatClampNeg) - (1 : Int32))) (((53 : Int32) + x2)).toNatClampNeg))), (3, .int (((30 : Int32) + ((6 : Int32) * x2)) + x1)), (0, .ref a0), (1, .int x1), (2, .int x2)]) dX12_pay_64 (by decide) rfl rfl ?_
      refine z_aload_n h dX12_pay_66 2 rfl rfl ?_
      refine z_get h (C := RX12) (T := TX12) (N := 17) (v := .ref a0_now) 0 rfl rfl 1 (by decide) (by decide +kernel) (by decide +kernel) rfl dX12_pay_67 rfl ?_
      refine z_bipush h (v := (12 : Int32)) dX12_pay_70 (by decide) rfl ?_
      refine z_iload_n h dX12_pay_72 3 rfl rfl ?_
      refine z_iadd h dX12_pay_73 rfl ?_
      refine z_iload h dX12_pay_74 0 rfl rfl ?_
      refine z_if_ge h (tgt := 83) dX12_pay_76 (by decide) rfl (fun c10 => ?_) (fun c10 => ?_)
      · have hf := ite_t hf c10
        refine z_iload h dX12_pay_83 0 rfl rfl ?_
        refine z_locs h (lv2 := []) [] rfl ?_
        exact hB85 (upd c0_now ((((30 : Int32) + ((6 : Int32) * x2)) + x1)).toNatClampNeg ((c0_now ((((30 : Int32) + ((6 : Int32) * x2)) + x1)).toNatClampNeg) - (1 : Int32))) ((12 : Int32) + x1) (((upd c0_now ((((30 : Int32) + ((6 : Int32) * x2)) + x1)).toNatClampNeg ((c0_now ((((30 : Int32) + ((6 : Int32) * x2)) + x1)).toNatClampNeg) - (1 : Int32))) (((12 : Int32) + x1)).toNatClampNeg) - ((upd c0_now ((((30 : Int32) + ((6 : Int32) * x2)) + x1)).toNatClampNeg ((c0_now ((((30 : Int32) + ((6 : Int32) * x2)) + x1)).toNatClampNeg) - (1 : Int32))) (((53 : Int32) + x2)).toNatClampNeg)) hf
      have hf := ite_f hf c10
      refine z_iconst h (v := (0 : Int32)) dX12_pay_79 (by decide) rfl ?_
      refine z_goto h (tgt := 85) dX12_pay_80 (by decide) ?_
      refine z_locs h (lv2 := []) [] rfl ?_
      exact hB85 (upd c0_now ((((30 : Int32) + ((6 : Int32) * x2)) + x1)).toNatClampNeg ((c0_now ((((30 : Int32) + ((6 : Int32) * x2)) + x1)).toNatClampNeg) - (1 : Int32))) ((12 : Int32) + x1) (0 : Int32) hf
    have hf := ite_t hf c5
    refine z_iconst h (v := (5 : Int32)) dX12_pay_33 (by decide) rfl ?_
    have hf := Option.some.inj hf
    subst hf
    exact hret _ _ _ _ dX12_pay_34 ⟨rfl, rfl⟩
  have hf := ite_t hf c3
  refine z_iconst h (v := (4 : Int32)) dX12_pay_19 (by decide) rfl ?_
  have hf := Option.some.inj hf
  subst hf
  exact hret _ _ _ _ dX12_pay_20 ⟨rfl, rfl⟩
def fX12_putOn (c0_now : Nat → Int32) (x1 : Int32) : Option (Int32 × (Nat → Int32)) := Option.bind (fX12_holder c0_now x1) (fun v1 => (if v1 < (0 : Int32) then gd (inb ((24 : Int32) + x1) 56) (gd (inb x1 56) ((if (c0_now (((24 : Int32) + x1)).toNatClampNeg) = (c0_now (x1).toNatClampNeg) then gd (inb ((24 : Int32) + x1) 56) ((some ((0 : Int32), (upd c0_now (((24 : Int32) + x1)).toNatClampNeg (-6 : Int32))))) else (some ((6 : Int32), c0_now))))) else (some ((1 : Int32), c0_now))))
abbrev rmX12_putOn : Room := { frames := 1, cells := 0, slots := 0, locals := 22 }
set_option maxRecDepth 100000 in
set_option maxHeartbeats 4000000 in
theorem ctX12_putOn (l : Launch) (G : zG) (a0 a0_book a0_now a0_sight a0_pad a0_can a0_fitting a0_wins a0_image a0_isKept : Nat) (c0_sights : Int32) (c0_signs : Int32) (c0_offs : Int32) (c0_offAt : Int32) (c0_offWho : Int32) (c0_lastOff : Int32) (c0_reason : Int32) (c0_acts : Int32) (c0_now : Nat → Int32) (x1 : Int32) {R : Int32 × (Nat → Int32)} (hf : fX12_putOn c0_now x1 = some R) : zCt l yX12_putOn wsX12_putOn rmX12_putOn G [(a0, .inr (12, [.ref a0_book, .ref a0_now, .int c0_sights, .ref a0_sight, .int c0_signs, .ref a0_pad, .int c0_offs, .int c0_offAt, .int c0_offWho, .int c0_lastOff, .int c0_reason, .int c0_acts, .ref a0_can, .ref a0_fitting, .ref a0_wins, .ref a0_image, .ref a0_isKept])), (a0_now, .inl (G.2.1, 56, .inl c0_now))] [.ref a0, .int x1] (fun v w => v = some (.int (R.1)) ∧ w = [(a0, .inr (12, [.ref a0_book, .ref a0_now, .int c0_sights, .ref a0_sight, .int c0_signs, .ref a0_pad, .int c0_offs, .int c0_offAt, .int c0_offWho, .int c0_lastOff, .int c0_reason, .int c0_acts, .ref a0_can, .ref a0_fitting, .ref a0_wins, .ref a0_image, .ref a0_isKept])), (a0_now, .inl (G.2.1, 56, .inl (R.2)))]) := by
  refine zMkI (own := RX12) false (by decide) (by decide +kernel) rfl rfl (Nat.le_of_ble_eq_true rfl) ?_
  intro Z h hret
  rw [fX12_putOn] at hf
  show Z 0 0 _ [(0, .ref a0), (1, .int x1)] 0 []
  refine z_aload_n h dX12_putOn_0 0 rfl rfl ?_
  refine z_iload_n h dX12_putOn_1 1 rfl rfl ?_
  obtain ⟨v1, hv1, hf⟩ := bd_some hf
  refine z_callV h (np := 1) (st := []) (wr := []) [.int x1] (ctX12_holder l G a0 a0_book a0_now a0_sight a0_pad a0_can a0_fitting a0_wins a0_image a0_isKept c0_sights c0_signs c0_offs c0_offAt c0_offWho c0_lastOff c0_reason c0_acts c0_now x1 hv1) gX12_putOn_X12_holder (by decide +kernel) 0 rfl rfl rfl ⟨Nat.le_of_ble_eq_true rfl, Nat.le_of_ble_eq_true rfl⟩ ⟨Nat.le_refl _, Nat.le_refl _⟩ rfl rfl rfl [0, 1] [] rfl rfl rfl rfl (by decide) (Nat.le_of_ble_eq_true rfl) dX12_putOn_2 rfl rfl (fun rv1 wv1 hrv1 => ?_)
  obtain ⟨rfl, rfl⟩ := hrv1
  refine z_perm h (w2 := [(a0, .inr (12, [.ref a0_book, .ref a0_now, .int c0_sights, .ref a0_sight, .int c0_signs, .ref a0_pad, .int c0_offs, .int c0_offAt, .int c0_offWho, .int c0_lastOff, .int c0_reason, .int c0_acts, .ref a0_can, .ref a0_fitting, .ref a0_wins, .ref a0_image, .ref a0_isKept])), (a0_now, .inl (G.2.1, 56, .inl c0_now))]) (st := [.int v1]) [0, 1] rfl rfl ?_
  refine z_if_lt h (tgt := 10) dX12_putOn_5 (by decide) rfl (fun c2 => ?_) (fun c2 => ?_)
  · have hf := ite_t hf c2
    refine z_aload_n h dX12_putOn_10 0 rfl rfl ?_
    refine z_get h (C := RX12) (T := TX12) (N := 17) (v := .ref a0_now) 0 rfl rfl 1 (by decide) (by decide +kernel) (by decide +kernel) rfl dX12_putOn_11 rfl ?_
    refine z_bipush h (v := (24 : Int32)) dX12_putOn_14 (by decide) rfl ?_
    refine z_iload_n h dX12_putOn_16 1 rfl rfl ?_
    refine z_iadd h dX12_putOn_17 rfl ?_
    obtain ⟨hg3, hf⟩ := gd_some hf
    refine z_iald h 1 rfl rfl hg3 dX12_putOn_18 rfl ?_
    refine z_aload_n h dX12_putOn_19 0 rfl rfl ?_
    refine z_get h (C := RX12) (T := TX12) (N := 17) (v := .ref a0_now) 0 rfl rfl 1 (by decide) (by decide +kernel) (by decide +kernel) rfl dX12_putOn_20 rfl ?_
    refine z_iload_n h dX12_putOn_23 1 rfl rfl ?_
    obtain ⟨hg4, hf⟩ := gd_some hf
    refine z_iald h 1 rfl rfl hg4 dX12_putOn_24 rfl ?_
    refine z_icmp_eq h (tgt := 31) dX12_putOn_25 (by decide) rfl (fun c5 => ?_) (fun c5 => ?_)
    · have hf := ite_t hf c5
      refine z_aload_n h dX12_putOn_31 0 rfl rfl ?_
      refine z_get h (C := RX12) (T := TX12) (N := 17) (v := .ref a0_now) 0 rfl rfl 1 (by decide) (by decide +kernel) (by decide +kernel) rfl dX12_putOn_32 rfl ?_
      refine z_bipush h (v := (24 : Int32)) dX12_putOn_35 (by decide) rfl ?_
      refine z_iload_n h dX12_putOn_37 1 rfl rfl ?_
      refine z_iadd h dX12_putOn_38 rfl ?_
      refine z_bipush h (v := (-6 : Int32)) dX12_putOn_39 (by decide) rfl ?_
      obtain ⟨hg6, hf⟩ := gd_some hf
      refine z_iast h (w2 := [(a0, .inr (12, [.ref a0_book, .ref a0_now, .int c0_sights, .ref a0_sight, .int c0_signs, .ref a0_pad, .int c0_offs, .int c0_offAt, .int c0_offWho, .int c0_lastOff, .int c0_reason, .int c0_acts, .ref a0_can, .ref a0_fitting, .ref a0_wins, .ref a0_image, .ref a0_isKept])), (a0_now, .inl (G.2.1, 56, .inl (upd c0_now (((24 : Int32) + x1)).toNatClampNeg (-6 : Int32))))]) 1 rfl rfl hg6 dX12_putOn_41 rfl rfl ?_
      refine z_iconst h (v := (0 : Int32)) dX12_putOn_42 (by decide) rfl ?_
      have hf := Option.some.inj hf
      subst hf
      exact hret _ _ _ _ dX12_putOn_43 ⟨rfl, rfl⟩
    have hf := ite_f hf c5
    refine z_bipush h (v := (6 : Int32)) dX12_putOn_28 (by decide) rfl ?_
    have hf := Option.some.inj hf
    subst hf
    exact hret _ _ _ _ dX12_putOn_30 ⟨rfl, rfl⟩
  have hf := ite_f hf c2
  refine z_iconst h (v := (1 : Int32)) dX12_putOn_8 (by decide) rfl ?_
  have hf := Option.some.inj hf
  subst hf
  exact hret _ _ _ _ dX12_putOn_9 ⟨rfl, rfl⟩
def fX12_hold_b62 (x1 : Int32) (x2 : Int32)  (c0_now : Nat → Int32) : Option (Int32 × (Nat → Int32)) := (some ((7 : Int32), c0_now))
def fX12_hold (c0_now : Nat → Int32) (x1 : Int32) (x2 : Int32) : Option (Int32 × (Nat → Int32)) := Option.bind (fX12_holder c0_now x1) (fun v1 => (if v1 < (0 : Int32) then (if x1 = x2 then (fX12_hold_b62 x1 x2  c0_now) else gd (inb x1 56) (gd (inb x2 56) ((if (c0_now (x1).toNatClampNeg) = (c0_now (x2).toNatClampNeg) then gd (inb ((18 : Int32) + x1) 56) ((if (0 : Int32) ≤ (c0_now (((18 : Int32) + x1)).toNatClampNeg) then (fX12_hold_b62 x1 x2  c0_now) else Option.bind (fX12_holder c0_now x2) (fun v9 => (if (0 : Int32) ≤ v9 then (fX12_hold_b62 x1 x2  c0_now) else gd (inb ((18 : Int32) + x2) 56) ((if (c0_now (((18 : Int32) + x2)).toNatClampNeg) < (0 : Int32) then gd (inb ((18 : Int32) + x1) 56) ((some ((0 : Int32), (upd c0_now (((18 : Int32) + x1)).toNatClampNeg x2)))) else (fX12_hold_b62 x1 x2  c0_now))))))) else (fX12_hold_b62 x1 x2  c0_now))))) else (some ((1 : Int32), c0_now))))
abbrev rmX12_hold : Room := { frames := 1, cells := 0, slots := 0, locals := 22 }
set_option maxRecDepth 100000 in
set_option maxHeartbeats 4000000 in
theorem ctX12_hold (l : Launch) (G : zG) (a0 a0_book a0_now a0_sight a0_pad a0_can a0_fitting a0_wins a0_image a0_isKept : Nat) (c0_sights : Int32) (c0_signs : Int32) (c0_offs : Int32) (c0_offAt : Int32) (c0_offWho : Int32) (c0_lastOff : Int32) (c0_reason : Int32) (c0_acts : Int32) (c0_now : Nat → Int32) (x1 : Int32) (x2 : Int32) {R : Int32 × (Nat → Int32)} (hf : fX12_hold c0_now x1 x2 = some R) : zCt l yX12_hold wsX12_hold rmX12_hold G [(a0, .inr (12, [.ref a0_book, .ref a0_now, .int c0_sights, .ref a0_sight, .int c0_signs, .ref a0_pad, .int c0_offs, .int c0_offAt, .int c0_offWho, .int c0_lastOff, .int c0_reason, .int c0_acts, .ref a0_can, .ref a0_fitting, .ref a0_wins, .ref a0_image, .ref a0_isKept])), (a0_now, .inl (G.2.1, 56, .inl c0_now))] [.ref a0, .int x1, .int x2] (fun v w => v = some (.int (R.1)) ∧ w = [(a0, .inr (12, [.ref a0_book, .ref a0_now, .int c0_sights, .ref a0_sight, .int c0_signs, .ref a0_pad, .int c0_offs, .int c0_offAt, .int c0_offWho, .int c0_lastOff, .int c0_reason, .int c0_acts, .ref a0_can, .ref a0_fitting, .ref a0_wins, .ref a0_image, .ref a0_isKept])), (a0_now, .inl (G.2.1, 56, .inl (R.2)))]) := by
  refine zMkI (own := RX12) false (by decide) (by decide +kernel) rfl rfl (Nat.le_of_ble_eq_true rfl) ?_
  intro Z h hret
  have hB62 : ∀ (c0_now : Nat → Int32), fX12_hold_b62 x1 x2  c0_now = some R → Z 0 0 [(a0, .inr (12, [.ref a0_book, .ref a0_now, .int c0_sights, .ref a0_sight, .int c0_signs, .ref a0_pad, .int c0_offs, .int c0_offAt, .int c0_offWho, .int c0_lastOff, .int c0_reason, .int c0_acts, .ref a0_can, .ref a0_fitting, .ref a0_wins, .ref a0_image, .ref a0_isKept])), (a0_now, .inl (G.2.1, 56, .inl c0_now))] [] 62 [] := by
    intro c0_now hf
    rw [fX12_hold_b62] at hf
    refine z_bipush h (v := (7 : Int32)) dX12_hold_62 (by decide) rfl ?_
    have hf := Option.some.inj hf
    subst hf
    exact hret _ _ _ _ dX12_hold_64 ⟨rfl, rfl⟩
  rw [fX12_hold] at hf
  show Z 0 0 _ [(0, .ref a0), (1, .int x1), (2, .int x2)] 0 []
  refine z_aload_n h dX12_hold_0 0 rfl rfl ?_
  refine z_iload_n h dX12_hold_1 1 rfl rfl ?_
  obtain ⟨v1, hv1, hf⟩ := bd_some hf
  refine z_callV h (np := 1) (st := []) (wr := []) [.int x1] (ctX12_holder l G a0 a0_book a0_now a0_sight a0_pad a0_can a0_fitting a0_wins a0_image a0_isKept c0_sights c0_signs c0_offs c0_offAt c0_offWho c0_lastOff c0_reason c0_acts c0_now x1 hv1) gX12_hold_X12_holder (by decide +kernel) 0 rfl rfl rfl ⟨Nat.le_of_ble_eq_true rfl, Nat.le_of_ble_eq_true rfl⟩ ⟨Nat.le_refl _, Nat.le_refl _⟩ rfl rfl rfl [0, 1] [] rfl rfl rfl rfl (by decide) (Nat.le_of_ble_eq_true rfl) dX12_hold_2 rfl rfl (fun rv1 wv1 hrv1 => ?_)
  obtain ⟨rfl, rfl⟩ := hrv1
  refine z_perm h (w2 := [(a0, .inr (12, [.ref a0_book, .ref a0_now, .int c0_sights, .ref a0_sight, .int c0_signs, .ref a0_pad, .int c0_offs, .int c0_offAt, .int c0_offWho, .int c0_lastOff, .int c0_reason, .int c0_acts, .ref a0_can, .ref a0_fitting, .ref a0_wins, .ref a0_image, .ref a0_isKept])), (a0_now, .inl (G.2.1, 56, .inl c0_now))]) (st := [.int v1]) [0, 1] rfl rfl ?_
  refine z_if_lt h (tgt := 10) dX12_hold_5 (by decide) rfl (fun c2 => ?_) (fun c2 => ?_)
  · have hf := ite_t hf c2
    refine z_iload_n h dX12_hold_10 1 rfl rfl ?_
    refine z_iload_n h dX12_hold_11 2 rfl rfl ?_
    refine z_icmp_eq h (tgt := 62) dX12_hold_12 (by decide) rfl (fun c3 => ?_) (fun c3 => ?_)
    · have hf := ite_t hf c3
      refine z_locs h (lv2 := []) [] rfl ?_
      exact hB62 c0_now hf
    have hf := ite_f hf c3
    refine z_aload_n h dX12_hold_15 0 rfl rfl ?_
    refine z_get h (C := RX12) (T := TX12) (N := 17) (v := .ref a0_now) 0 rfl rfl 1 (by decide) (by decide +kernel) (by decide +kernel) rfl dX12_hold_16 rfl ?_
    refine z_iload_n h dX12_hold_19 1 rfl rfl ?_
    obtain ⟨hg4, hf⟩ := gd_some hf
    refine z_iald h 1 rfl rfl hg4 dX12_hold_20 rfl ?_
    refine z_aload_n h dX12_hold_21 0 rfl rfl ?_
    refine z_get h (C := RX12) (T := TX12) (N := 17) (v := .ref a0_now) 0 rfl rfl 1 (by decide) (by decide +kernel) (by decide +kernel) rfl dX12_hold_22 rfl ?_
    refine z_iload_n h dX12_hold_25 2 rfl rfl ?_
    obtain ⟨hg5, hf⟩ := gd_some hf
    refine z_iald h 1 rfl rfl hg5 dX12_hold_26 rfl ?_
    refine z_icmp_ne h (tgt := 62) dX12_hold_27 (by decide) rfl (fun c6 => ?_) (fun c6 => ?_)
    · have hf := ite_f hf c6
      refine z_locs h (lv2 := []) [] rfl ?_
      exact hB62 c0_now hf
    have hf := ite_t hf c6
    refine z_aload_n h dX12_hold_30 0 rfl rfl ?_
    refine z_get h (C := RX12) (T := TX12) (N := 17) (v := .ref a0_now) 0 rfl rfl 1 (by decide) (by decide +kernel) (by decide +kernel) rfl dX12_hold_31 rfl ?_
    refine z_bipush h (v := (18 : Int32)) dX12_hold_34 (by decide) rfl ?_
    refine z_iload_n h dX12_hold_36 1 rfl rfl ?_
    refine z_iadd h dX12_hold_37 rfl ?_
    obtain ⟨hg7, hf⟩ := gd_some hf
    refine z_iald h 1 rfl rfl hg7 dX12_hold_38 rfl ?_
    refine z_if_ge h (tgt := 62) dX12_hold_39 (by decide) rfl (fun c8 => ?_) (fun c8 => ?_)
    · have hf := ite_t hf c8
      refine z_locs h (lv2 := []) [] rfl ?_
      exact hB62 c0_now hf
    have hf := ite_f hf c8
    refine z_aload_n h dX12_hold_42 0 rfl rfl ?_
    refine z_iload_n h dX12_hold_43 2 rfl rfl ?_
    obtain ⟨v9, hv9, hf⟩ := bd_some hf
    refine z_callV h (np := 1) (st := []) (wr := []) [.int x2] (ctX12_holder l G a0 a0_book a0_now a0_sight a0_pad a0_can a0_fitting a0_wins a0_image a0_isKept c0_sights c0_signs c0_offs c0_offAt c0_offWho c0_lastOff c0_reason c0_acts c0_now x2 hv9) gX12_hold_X12_holder (by decide +kernel) 0 rfl rfl rfl ⟨Nat.le_of_ble_eq_true rfl, Nat.le_of_ble_eq_true rfl⟩ ⟨Nat.le_refl _, Nat.le_refl _⟩ rfl rfl rfl [0, 1] [] rfl rfl rfl rfl (by decide) (Nat.le_of_ble_eq_true rfl) dX12_hold_44 rfl rfl (fun rv9 wv9 hrv9 => ?_)
    obtain ⟨rfl, rfl⟩ := hrv9
    refine z_perm h (w2 := [(a0, .inr (12, [.ref a0_book, .ref a0_now, .int c0_sights, .ref a0_sight, .int c0_signs, .ref a0_pad, .int c0_offs, .int c0_offAt, .int c0_offWho, .int c0_lastOff, .int c0_reason, .int c0_acts, .ref a0_can, .ref a0_fitting, .ref a0_wins, .ref a0_image, .ref a0_isKept])), (a0_now, .inl (G.2.1, 56, .inl c0_now))]) (st := [.int v9]) [0, 1] rfl rfl ?_
    refine z_if_ge h (tgt := 62) dX12_hold_47 (by decide) rfl (fun c10 => ?_) (fun c10 => ?_)
    · have hf := ite_t hf c10
      refine z_locs h (lv2 := []) [] rfl ?_
      exact hB62 c0_now hf
    have hf := ite_f hf c10
    refine z_aload_n h dX12_hold_50 0 rfl rfl ?_
    refine z_get h (C := RX12) (T := TX12) (N := 17) (v := .ref a0_now) 0 rfl rfl 1 (by decide) (by decide +kernel) (by decide +kernel) rfl dX12_hold_51 rfl ?_
    refine z_bipush h (v := (18 : Int32)) dX12_hold_54 (by decide) rfl ?_
    refine z_iload_n h dX12_hold_56 2 rfl rfl ?_
    refine z_iadd h dX12_hold_57 rfl ?_
    obtain ⟨hg11, hf⟩ := gd_some hf
    refine z_iald h 1 rfl rfl hg11 dX12_hold_58 rfl ?_
    refine z_if_lt h (tgt := 65) dX12_hold_59 (by decide) rfl (fun c12 => ?_) (fun c12 => ?_)
    · have hf := ite_t hf c12
      refine z_aload_n h dX12_hold_65 0 rfl rfl ?_
      refine z_get h (C := RX12) (T := TX12) (N := 17) (v := .ref a0_now) 0 rfl rfl 1 (by decide) (by decide +kernel) (by decide +kernel) rfl dX12_hold_66 rfl ?_
      refine z_bipush h (v := (18 : Int32)) dX12_hold_69 (by decide) rfl ?_
      refine z_iload_n h dX12_hold_71 1 rfl rfl ?_
      refine z_iadd h dX12_hold_72 rfl ?_
      refine z_iload_n h dX12_hold_73 2 rfl rfl ?_
      obtain ⟨hg13, hf⟩ := gd_some hf
      refine z_iast h (w2 := [(a0, .inr (12, [.ref a0_book, .ref a0_now, .int c0_sights, .ref a0_sight, .int c0_signs, .ref a0_pad, .int c0_offs, .int c0_offAt, .int c0_offWho, .int c0_lastOff, .int c0_reason, .int c0_acts, .ref a0_can, .ref a0_fitting, .ref a0_wins, .ref a0_image, .ref a0_isKept])), (a0_now, .inl (G.2.1, 56, .inl (upd c0_now (((18 : Int32) + x1)).toNatClampNeg x2)))]) 1 rfl rfl hg13 dX12_hold_74 rfl rfl ?_
      refine z_iconst h (v := (0 : Int32)) dX12_hold_75 (by decide) rfl ?_
      have hf := Option.some.inj hf
      subst hf
      exact hret _ _ _ _ dX12_hold_76 ⟨rfl, rfl⟩
    have hf := ite_f hf c12
    refine z_locs h (lv2 := []) [] rfl ?_
    exact hB62 c0_now hf
  have hf := ite_f hf c2
  refine z_iconst h (v := (1 : Int32)) dX12_hold_8 (by decide) rfl ?_
  have hf := Option.some.inj hf
  subst hf
  exact hret _ _ _ _ dX12_hold_9 ⟨rfl, rfl⟩
def fX12_letGo (c0_now : Nat → Int32) (x1 : Int32) : Option (Int32 × (Nat → Int32)) := gd (inb ((18 : Int32) + x1) 56) ((if (0 : Int32) ≤ (c0_now (((18 : Int32) + x1)).toNatClampNeg) then gd (inb ((18 : Int32) + x1) 56) ((some ((0 : Int32), (upd c0_now (((18 : Int32) + x1)).toNatClampNeg (-6 : Int32))))) else (some ((8 : Int32), c0_now))))
abbrev rmX12_letGo : Room := { frames := 0, cells := 0, slots := 0, locals := 0 }
set_option maxRecDepth 100000 in
set_option maxHeartbeats 4000000 in
theorem ctX12_letGo (l : Launch) (G : zG) (a0 a0_book a0_now a0_sight a0_pad a0_can a0_fitting a0_wins a0_image a0_isKept : Nat) (c0_sights : Int32) (c0_signs : Int32) (c0_offs : Int32) (c0_offAt : Int32) (c0_offWho : Int32) (c0_lastOff : Int32) (c0_reason : Int32) (c0_acts : Int32) (c0_now : Nat → Int32) (x1 : Int32) {R : Int32 × (Nat → Int32)} (hf : fX12_letGo c0_now x1 = some R) : zCt l yX12_letGo wsX12_letGo rmX12_letGo G [(a0, .inr (12, [.ref a0_book, .ref a0_now, .int c0_sights, .ref a0_sight, .int c0_signs, .ref a0_pad, .int c0_offs, .int c0_offAt, .int c0_offWho, .int c0_lastOff, .int c0_reason, .int c0_acts, .ref a0_can, .ref a0_fitting, .ref a0_wins, .ref a0_image, .ref a0_isKept])), (a0_now, .inl (G.2.1, 56, .inl c0_now))] [.ref a0, .int x1] (fun v w => v = some (.int (R.1)) ∧ w = [(a0, .inr (12, [.ref a0_book, .ref a0_now, .int c0_sights, .ref a0_sight, .int c0_signs, .ref a0_pad, .int c0_offs, .int c0_offAt, .int c0_offWho, .int c0_lastOff, .int c0_reason, .int c0_acts, .ref a0_can, .ref a0_fitting, .ref a0_wins, .ref a0_image, .ref a0_isKept])), (a0_now, .inl (G.2.1, 56, .inl (R.2)))]) := by
  refine zMkI (own := RX12) false (by decide) (by decide +kernel) rfl rfl (Nat.le_of_ble_eq_true rfl) ?_
  intro Z h hret
  rw [fX12_letGo] at hf
  show Z 0 0 _ [(0, .ref a0), (1, .int x1)] 0 []
  refine z_aload_n h dX12_letGo_0 0 rfl rfl ?_
  refine z_get h (C := RX12) (T := TX12) (N := 17) (v := .ref a0_now) 0 rfl rfl 1 (by decide) (by decide +kernel) (by decide +kernel) rfl dX12_letGo_1 rfl ?_
  refine z_bipush h (v := (18 : Int32)) dX12_letGo_4 (by decide) rfl ?_
  refine z_iload_n h dX12_letGo_6 1 rfl rfl ?_
  refine z_iadd h dX12_letGo_7 rfl ?_
  obtain ⟨hg1, hf⟩ := gd_some hf
  refine z_iald h 1 rfl rfl hg1 dX12_letGo_8 rfl ?_
  refine z_if_ge h (tgt := 15) dX12_letGo_9 (by decide) rfl (fun c2 => ?_) (fun c2 => ?_)
  · have hf := ite_t hf c2
    refine z_aload_n h dX12_letGo_15 0 rfl rfl ?_
    refine z_get h (C := RX12) (T := TX12) (N := 17) (v := .ref a0_now) 0 rfl rfl 1 (by decide) (by decide +kernel) (by decide +kernel) rfl dX12_letGo_16 rfl ?_
    refine z_bipush h (v := (18 : Int32)) dX12_letGo_19 (by decide) rfl ?_
    refine z_iload_n h dX12_letGo_21 1 rfl rfl ?_
    refine z_iadd h dX12_letGo_22 rfl ?_
    refine z_bipush h (v := (-6 : Int32)) dX12_letGo_23 (by decide) rfl ?_
    obtain ⟨hg3, hf⟩ := gd_some hf
    refine z_iast h (w2 := [(a0, .inr (12, [.ref a0_book, .ref a0_now, .int c0_sights, .ref a0_sight, .int c0_signs, .ref a0_pad, .int c0_offs, .int c0_offAt, .int c0_offWho, .int c0_lastOff, .int c0_reason, .int c0_acts, .ref a0_can, .ref a0_fitting, .ref a0_wins, .ref a0_image, .ref a0_isKept])), (a0_now, .inl (G.2.1, 56, .inl (upd c0_now (((18 : Int32) + x1)).toNatClampNeg (-6 : Int32))))]) 1 rfl rfl hg3 dX12_letGo_25 rfl rfl ?_
    refine z_iconst h (v := (0 : Int32)) dX12_letGo_26 (by decide) rfl ?_
    have hf := Option.some.inj hf
    subst hf
    exact hret _ _ _ _ dX12_letGo_27 ⟨rfl, rfl⟩
  have hf := ite_f hf c2
  refine z_bipush h (v := (8 : Int32)) dX12_letGo_12 (by decide) rfl ?_
  have hf := Option.some.inj hf
  subst hf
  exact hret _ _ _ _ dX12_letGo_14 ⟨rfl, rfl⟩
def fX12_gust (c0_now : Nat → Int32)  : Option (Int32 × (Nat → Int32)) := gd (inb (50 : Int32) 56) ((if (c0_now ((50 : Int32)).toNatClampNeg) = (9 : Int32) then (some ((9 : Int32), c0_now)) else gd (inb (50 : Int32) 56) (gd (inb (50 : Int32) 56) ((some ((0 : Int32), (upd c0_now ((50 : Int32)).toNatClampNeg ((c0_now ((50 : Int32)).toNatClampNeg) + (1 : Int32)))))))))
abbrev rmX12_gust : Room := { frames := 0, cells := 0, slots := 0, locals := 0 }
set_option maxRecDepth 100000 in
set_option maxHeartbeats 4000000 in
theorem ctX12_gust (l : Launch) (G : zG) (a0 a0_book a0_now a0_sight a0_pad a0_can a0_fitting a0_wins a0_image a0_isKept : Nat) (c0_sights : Int32) (c0_signs : Int32) (c0_offs : Int32) (c0_offAt : Int32) (c0_offWho : Int32) (c0_lastOff : Int32) (c0_reason : Int32) (c0_acts : Int32) (c0_now : Nat → Int32)  {R : Int32 × (Nat → Int32)} (hf : fX12_gust c0_now = some R) : zCt l yX12_gust wsX12_gust rmX12_gust G [(a0, .inr (12, [.ref a0_book, .ref a0_now, .int c0_sights, .ref a0_sight, .int c0_signs, .ref a0_pad, .int c0_offs, .int c0_offAt, .int c0_offWho, .int c0_lastOff, .int c0_reason, .int c0_acts, .ref a0_can, .ref a0_fitting, .ref a0_wins, .ref a0_image, .ref a0_isKept])), (a0_now, .inl (G.2.1, 56, .inl c0_now))] [.ref a0] (fun v w => v = some (.int (R.1)) ∧ w = [(a0, .inr (12, [.ref a0_book, .ref a0_now, .int c0_sights, .ref a0_sight, .int c0_signs, .ref a0_pad, .int c0_offs, .int c0_offAt, .int c0_offWho, .int c0_lastOff, .int c0_reason, .int c0_acts, .ref a0_can, .ref a0_fitting, .ref a0_wins, .ref a0_image, .ref a0_isKept])), (a0_now, .inl (G.2.1, 56, .inl (R.2)))]) := by
  refine zMkI (own := RX12) false (by decide) (by decide +kernel) rfl rfl (Nat.le_of_ble_eq_true rfl) ?_
  intro Z h hret
  rw [fX12_gust] at hf
  show Z 0 0 _ [(0, .ref a0)] 0 []
  refine z_aload_n h dX12_gust_0 0 rfl rfl ?_
  refine z_get h (C := RX12) (T := TX12) (N := 17) (v := .ref a0_now) 0 rfl rfl 1 (by decide) (by decide +kernel) (by decide +kernel) rfl dX12_gust_1 rfl ?_
  refine z_bipush h (v := (50 : Int32)) dX12_gust_4 (by decide) rfl ?_
  obtain ⟨hg1, hf⟩ := gd_some hf
  refine z_iald h 1 rfl rfl hg1 dX12_gust_6 rfl ?_
  refine z_bipush h (v := (9 : Int32)) dX12_gust_7 (by decide) rfl ?_
  refine z_icmp_ne h (tgt := 15) dX12_gust_9 (by decide) rfl (fun c2 => ?_) (fun c2 => ?_)
  · have hf := ite_f hf c2
    refine z_aload_n h dX12_gust_15 0 rfl rfl ?_
    refine z_get h (C := RX12) (T := TX12) (N := 17) (v := .ref a0_now) 0 rfl rfl 1 (by decide) (by decide +kernel) (by decide +kernel) rfl dX12_gust_16 rfl ?_
    refine z_bipush h (v := (50 : Int32)) dX12_gust_19 (by decide) rfl ?_
    refine z_dup2 h dX12_gust_21 rfl rfl rfl ?_
    obtain ⟨hg3, hf⟩ := gd_some hf
    refine z_iald h 1 rfl rfl hg3 dX12_gust_22 rfl ?_
    refine z_iconst h (v := (1 : Int32)) dX12_gust_23 (by decide) rfl ?_
    refine z_iadd h dX12_gust_24 rfl ?_
    obtain ⟨hg4, hf⟩ := gd_some hf
    refine z_iast h (w2 := [(a0, .inr (12, [.ref a0_book, .ref a0_now, .int c0_sights, .ref a0_sight, .int c0_signs, .ref a0_pad, .int c0_offs, .int c0_offAt, .int c0_offWho, .int c0_lastOff, .int c0_reason, .int c0_acts, .ref a0_can, .ref a0_fitting, .ref a0_wins, .ref a0_image, .ref a0_isKept])), (a0_now, .inl (G.2.1, 56, .inl (upd c0_now ((50 : Int32)).toNatClampNeg ((c0_now ((50 : Int32)).toNatClampNeg) + (1 : Int32)))))]) 1 rfl rfl hg4 dX12_gust_25 rfl rfl ?_
    refine z_iconst h (v := (0 : Int32)) dX12_gust_26 (by decide) rfl ?_
    have hf := Option.some.inj hf
    subst hf
    exact hret _ _ _ _ dX12_gust_27 ⟨rfl, rfl⟩
  have hf := ite_t hf c2
  refine z_bipush h (v := (9 : Int32)) dX12_gust_12 (by decide) rfl ?_
  have hf := Option.some.inj hf
  subst hf
  exact hret _ _ _ _ dX12_gust_14 ⟨rfl, rfl⟩
def fX12_blowOn_b87   (c0_now : Nat → Int32) (x1 : Int32) : Option ((Nat → Int32)) := gd (inb (48 : Int32) 56) ((some (upd c0_now ((48 : Int32)).toNatClampNeg x1)))
def fX12_blowOn_b86   (c0_now : Nat → Int32) (s0 : Int32) : Option ((Nat → Int32)) := (fX12_blowOn_b87   c0_now s0)
def fX12_blowOn_b31   (c0_now : Nat → Int32) (s0 : Int32) : Option ((Nat → Int32)) := Option.bind (fX12_isCell s0) (fun v2 => (if v2 = (0 : Int32) then gd (inb (49 : Int32) 56) (gd (inb (49 : Int32) 56) (gd (inb (49 : Int32) 56) ((if ((upd c0_now ((49 : Int32)).toNatClampNeg ((1 : Int32) - (c0_now ((49 : Int32)).toNatClampNeg))) ((49 : Int32)).toNatClampNeg) = (0 : Int32) then gd (inb (48 : Int32) 56) ((fX12_blowOn_b86   (upd c0_now ((49 : Int32)).toNatClampNeg ((1 : Int32) - (c0_now ((49 : Int32)).toNatClampNeg))) (((upd c0_now ((49 : Int32)).toNatClampNeg ((1 : Int32) - (c0_now ((49 : Int32)).toNatClampNeg))) ((48 : Int32)).toNatClampNeg) + (1 : Int32)))) else gd (inb (48 : Int32) 56) ((fX12_blowOn_b86   (upd c0_now ((49 : Int32)).toNatClampNeg ((1 : Int32) - (c0_now ((49 : Int32)).toNatClampNeg))) (((upd c0_now ((49 : Int32)).toNatClampNeg ((1 : Int32) - (c0_now ((49 : Int32)).toNatClampNeg))) ((48 : Int32)).toNatClampNeg) - (1 : Int32)))))))) else (fX12_blowOn_b87   c0_now s0)))
def fX12_blowOn (c0_now : Nat → Int32)  : Option ((Nat → Int32)) := gd (inb (49 : Int32) 56) ((if (c0_now ((49 : Int32)).toNatClampNeg) = (0 : Int32) then gd (inb (48 : Int32) 56) ((fX12_blowOn_b31   c0_now ((c0_now ((48 : Int32)).toNatClampNeg) + (1 : Int32)))) else gd (inb (48 : Int32) 56) ((fX12_blowOn_b31   c0_now ((c0_now ((48 : Int32)).toNatClampNeg) - (1 : Int32))))))
abbrev rmX12_blowOn : Room := { frames := 2, cells := 0, slots := 0, locals := 42 }
set_option maxRecDepth 100000 in
set_option maxHeartbeats 4000000 in
theorem ctX12_blowOn (l : Launch) (G : zG) (a0 a0_book a0_now a0_sight a0_pad a0_can a0_fitting a0_wins a0_image a0_isKept : Nat) (c0_sights : Int32) (c0_signs : Int32) (c0_offs : Int32) (c0_offAt : Int32) (c0_offWho : Int32) (c0_lastOff : Int32) (c0_reason : Int32) (c0_acts : Int32) (c0_now : Nat → Int32)  {R : (Nat → Int32)} (hf : fX12_blowOn c0_now = some R) : zCt l yX12_blowOn wsX12_blowOn rmX12_blowOn G [(a0, .inr (12, [.ref a0_book, .ref a0_now, .int c0_sights, .ref a0_sight, .int c0_signs, .ref a0_pad, .int c0_offs, .int c0_offAt, .int c0_offWho, .int c0_lastOff, .int c0_reason, .int c0_acts, .ref a0_can, .ref a0_fitting, .ref a0_wins, .ref a0_image, .ref a0_isKept])), (a0_now, .inl (G.2.1, 56, .inl c0_now))] [.ref a0] (fun v w => v = none ∧ w = [(a0, .inr (12, [.ref a0_book, .ref a0_now, .int c0_sights, .ref a0_sight, .int c0_signs, .ref a0_pad, .int c0_offs, .int c0_offAt, .int c0_offWho, .int c0_lastOff, .int c0_reason, .int c0_acts, .ref a0_can, .ref a0_fitting, .ref a0_wins, .ref a0_image, .ref a0_isKept])), (a0_now, .inl (G.2.1, 56, .inl R))]) := by
  refine zMkV (own := RX12) false (by decide) (by decide +kernel) rfl rfl (Nat.le_of_ble_eq_true rfl) ?_
  intro Z h hret
  have hB87 : ∀ (c0_now : Nat → Int32) (x1 : Int32), fX12_blowOn_b87   c0_now x1 = some R → Z 0 0 [(a0, .inr (12, [.ref a0_book, .ref a0_now, .int c0_sights, .ref a0_sight, .int c0_signs, .ref a0_pad, .int c0_offs, .int c0_offAt, .int c0_offWho, .int c0_lastOff, .int c0_reason, .int c0_acts, .ref a0_can, .ref a0_fitting, .ref a0_wins, .ref a0_image, .ref a0_isKept])), (a0_now, .inl (G.2.1, 56, .inl c0_now))] [(0, .ref a0), (1, .int x1)] 87 [] := by
    intro c0_now x1 hf
    rw [fX12_blowOn_b87] at hf
    refine z_aload_n h dX12_blowOn_87 0 rfl rfl ?_
    refine z_get h (C := RX12) (T := TX12) (N := 17) (v := .ref a0_now) 0 rfl rfl 1 (by decide) (by decide +kernel) (by decide +kernel) rfl dX12_blowOn_88 rfl ?_
    refine z_bipush h (v := (48 : Int32)) dX12_blowOn_91 (by decide) rfl ?_
    refine z_iload_n h dX12_blowOn_93 1 rfl rfl ?_
    obtain ⟨hg1, hf⟩ := gd_some hf
    refine z_iast h (w2 := [(a0, .inr (12, [.ref a0_book, .ref a0_now, .int c0_sights, .ref a0_sight, .int c0_signs, .ref a0_pad, .int c0_offs, .int c0_offAt, .int c0_offWho, .int c0_lastOff, .int c0_reason, .int c0_acts, .ref a0_can, .ref a0_fitting, .ref a0_wins, .ref a0_image, .ref a0_isKept])), (a0_now, .inl (G.2.1, 56, .inl (upd c0_now ((48 : Int32)).toNatClampNeg x1)))]) 1 rfl rfl hg1 dX12_blowOn_94 rfl rfl ?_
    have hf := Option.some.inj hf
    subst hf
    exact hret _ _ _ dX12_blowOn_95 ⟨rfl, rfl⟩
  have hB86 : ∀ (c0_now : Nat → Int32) (s0 : Int32), fX12_blowOn_b86   c0_now s0 = some R → Z 0 0 [(a0, .inr (12, [.ref a0_book, .ref a0_now, .int c0_sights, .ref a0_sight, .int c0_signs, .ref a0_pad, .int c0_offs, .int c0_offAt, .int c0_offWho, .int c0_lastOff, .int c0_reason, .int c0_acts, .ref a0_can, .ref a0_fitting, .ref a0_wins, .ref a0_image, .ref a0_isKept])), (a0_now, .inl (G.2.1, 56, .inl c0_now))] [(0, .ref a0)] 86 [.int s0] := by
    intro c0_now s0 hf
    rw [fX12_blowOn_b86] at hf
    refine z_istore_n h (lv2 := [(1, .int s0), (0, .ref a0)]) dX12_blowOn_86 (by decide) rfl rfl ?_
    refine z_locs h (lv2 := [(0, .ref a0), (1, .int s0)]) [1, 0] rfl ?_
    exact hB87 c0_now s0 hf
  have hB31 : ∀ (c0_now : Nat → Int32) (s0 : Int32), fX12_blowOn_b31   c0_now s0 = some R → Z 0 0 [(a0, .inr (12, [.ref a0_book, .ref a0_now, .int c0_sights, .ref a0_sight, .int c0_signs, .ref a0_pad, .int c0_offs, .int c0_offAt, .int c0_offWho, .int c0_lastOff, .int c0_reason, .int c0_acts, .ref a0_can, .ref a0_fitting, .ref a0_wins, .ref a0_image, .ref a0_isKept])), (a0_now, .inl (G.2.1, 56, .inl c0_now))] [(0, .ref a0)] 31 [.int s0] := by
    intro c0_now s0 hf
    rw [fX12_blowOn_b31] at hf
    refine z_istore_n h (lv2 := [(1, .int s0), (0, .ref a0)]) dX12_blowOn_31 (by decide) rfl rfl ?_
    refine z_iload_n h dX12_blowOn_32 0 rfl rfl ?_
    obtain ⟨v2, hv2, hf⟩ := bd_some hf
    refine z_callS h (np := 1) (st := []) (wr := [(a0, .inr (12, [.ref a0_book, .ref a0_now, .int c0_sights, .ref a0_sight, .int c0_signs, .ref a0_pad, .int c0_offs, .int c0_offAt, .int c0_offWho, .int c0_lastOff, .int c0_reason, .int c0_acts, .ref a0_can, .ref a0_fitting, .ref a0_wins, .ref a0_image, .ref a0_isKept])), (a0_now, .inl (G.2.1, 56, .inl c0_now))]) [.int s0] (ctX12_isCell l G s0 hv2) gX12_blowOn_X12_isCell (by decide +kernel) rfl ⟨Nat.le_of_ble_eq_true rfl, Nat.le_of_ble_eq_true rfl⟩ ⟨Nat.le_refl _, Nat.le_refl _⟩ rfl rfl rfl [] [0, 1] rfl rfl rfl rfl (by decide) (Nat.le_of_ble_eq_true rfl) dX12_blowOn_33 rfl rfl (fun rv2 wv2 hrv2 => ?_)
    obtain ⟨rfl, rfl⟩ := hrv2
    refine z_perm h (w2 := [(a0, .inr (12, [.ref a0_book, .ref a0_now, .int c0_sights, .ref a0_sight, .int c0_signs, .ref a0_pad, .int c0_offs, .int c0_offAt, .int c0_offWho, .int c0_lastOff, .int c0_reason, .int c0_acts, .ref a0_can, .ref a0_fitting, .ref a0_wins, .ref a0_image, .ref a0_isKept])), (a0_now, .inl (G.2.1, 56, .inl c0_now))]) (st := [.int v2]) [0, 1] rfl rfl ?_
    refine z_if_ne h (tgt := 87) dX12_blowOn_36 (by decide) rfl (fun c3 => ?_) (fun c3 => ?_)
    · have hf := ite_f hf c3
      refine z_locs h (lv2 := [(0, .ref a0), (1, .int s0)]) [1, 0] rfl ?_
      exact hB87 c0_now s0 hf
    have hf := ite_t hf c3
    refine z_aload_n h dX12_blowOn_39 1 rfl rfl ?_
    refine z_get h (C := RX12) (T := TX12) (N := 17) (v := .ref a0_now) 0 rfl rfl 1 (by decide) (by decide +kernel) (by decide +kernel) rfl dX12_blowOn_40 rfl ?_
    refine z_bipush h (v := (49 : Int32)) dX12_blowOn_43 (by decide) rfl ?_
    refine z_iconst h (v := (1 : Int32)) dX12_blowOn_45 (by decide) rfl ?_
    refine z_aload_n h dX12_blowOn_46 1 rfl rfl ?_
    refine z_get h (C := RX12) (T := TX12) (N := 17) (v := .ref a0_now) 0 rfl rfl 1 (by decide) (by decide +kernel) (by decide +kernel) rfl dX12_blowOn_47 rfl ?_
    refine z_bipush h (v := (49 : Int32)) dX12_blowOn_50 (by decide) rfl ?_
    obtain ⟨hg4, hf⟩ := gd_some hf
    refine z_iald h 1 rfl rfl hg4 dX12_blowOn_52 rfl ?_
    refine z_isub h dX12_blowOn_53 rfl ?_
    obtain ⟨hg5, hf⟩ := gd_some hf
    refine z_iast h (w2 := [(a0, .inr (12, [.ref a0_book, .ref a0_now, .int c0_sights, .ref a0_sight, .int c0_signs, .ref a0_pad, .int c0_offs, .int c0_offAt, .int c0_offWho, .int c0_lastOff, .int c0_reason, .int c0_acts, .ref a0_can, .ref a0_fitting, .ref a0_wins, .ref a0_image, .ref a0_isKept])), (a0_now, .inl (G.2.1, 56, .inl (upd c0_now ((49 : Int32)).toNatClampNeg ((1 : Int32) - (c0_now ((49 : Int32)).toNatClampNeg)))))]) 1 rfl rfl hg5 dX12_blowOn_54 rfl rfl ?_
    refine z_aload_n h dX12_blowOn_55 1 rfl rfl ?_
    refine z_get h (C := RX12) (T := TX12) (N := 17) (v := .ref a0_now) 0 rfl rfl 1 (by decide) (by decide +kernel) (by decide +kernel) rfl dX12_blowOn_56 rfl ?_
    refine z_bipush h (v := (49 : Int32)) dX12_blowOn_59 (by decide) rfl ?_
    obtain ⟨hg6, hf⟩ := gd_some hf
    refine z_iald h 1 rfl rfl hg6 dX12_blowOn_61 rfl ?_
    refine z_if_ne h (tgt := 77) dX12_blowOn_62 (by decide) rfl (fun c7 => ?_) (fun c7 => ?_)
    · have hf := ite_f hf c7
      refine z_aload_n h dX12_blowOn_77 1 rfl rfl ?_
      refine z_get h (C := RX12) (T := TX12) (N := 17) (v := .ref a0_now) 0 rfl rfl 1 (by decide) (by decide +kernel) (by decide +kernel) rfl dX12_blowOn_78 rfl ?_
      refine z_bipush h (v := (48 : Int32)) dX12_blowOn_81 (by decide) rfl ?_
      obtain ⟨hg8, hf⟩ := gd_some hf
      refine z_iald h 1 rfl rfl hg8 dX12_blowOn_83 rfl ?_
      refine z_iconst h (v := (1 : Int32)) dX12_blowOn_84 (by decide) rfl ?_
      refine z_isub h dX12_blowOn_85 rfl ?_
      refine z_locs h (lv2 := [(0, .ref a0)]) [1] rfl ?_
      exact hB86 (upd c0_now ((49 : Int32)).toNatClampNeg ((1 : Int32) - (c0_now ((49 : Int32)).toNatClampNeg))) (((upd c0_now ((49 : Int32)).toNatClampNeg ((1 : Int32) - (c0_now ((49 : Int32)).toNatClampNeg))) ((48 : Int32)).toNatClampNeg) - (1 : Int32)) hf
    have hf := ite_t hf c7
    refine z_aload_n h dX12_blowOn_65 1 rfl rfl ?_
    refine z_get h (C := RX12) (T := TX12) (N := 17) (v := .ref a0_now) 0 rfl rfl 1 (by decide) (by decide +kernel) (by decide +kernel) rfl dX12_blowOn_66 rfl ?_
    refine z_bipush h (v := (48 : Int32)) dX12_blowOn_69 (by decide) rfl ?_
    obtain ⟨hg9, hf⟩ := gd_some hf
    refine z_iald h 1 rfl rfl hg9 dX12_blowOn_71 rfl ?_
    refine z_iconst h (v := (1 : Int32)) dX12_blowOn_72 (by decide) rfl ?_
    refine z_iadd h dX12_blowOn_73 rfl ?_
    refine z_goto h (tgt := 86) dX12_blowOn_74 (by decide) ?_
    refine z_locs h (lv2 := [(0, .ref a0)]) [1] rfl ?_
    exact hB86 (upd c0_now ((49 : Int32)).toNatClampNeg ((1 : Int32) - (c0_now ((49 : Int32)).toNatClampNeg))) (((upd c0_now ((49 : Int32)).toNatClampNeg ((1 : Int32) - (c0_now ((49 : Int32)).toNatClampNeg))) ((48 : Int32)).toNatClampNeg) + (1 : Int32)) hf
  rw [fX12_blowOn] at hf
  show Z 0 0 _ [(0, .ref a0)] 0 []
  refine z_aload_n h dX12_blowOn_0 0 rfl rfl ?_
  refine z_get h (C := RX12) (T := TX12) (N := 17) (v := .ref a0_now) 0 rfl rfl 1 (by decide) (by decide +kernel) (by decide +kernel) rfl dX12_blowOn_1 rfl ?_
  refine z_bipush h (v := (49 : Int32)) dX12_blowOn_4 (by decide) rfl ?_
  obtain ⟨hg10, hf⟩ := gd_some hf
  refine z_iald h 1 rfl rfl hg10 dX12_blowOn_6 rfl ?_
  refine z_if_ne h (tgt := 22) dX12_blowOn_7 (by decide) rfl (fun c11 => ?_) (fun c11 => ?_)
  · have hf := ite_f hf c11
    refine z_aload_n h dX12_blowOn_22 0 rfl rfl ?_
    refine z_get h (C := RX12) (T := TX12) (N := 17) (v := .ref a0_now) 0 rfl rfl 1 (by decide) (by decide +kernel) (by decide +kernel) rfl dX12_blowOn_23 rfl ?_
    refine z_bipush h (v := (48 : Int32)) dX12_blowOn_26 (by decide) rfl ?_
    obtain ⟨hg12, hf⟩ := gd_some hf
    refine z_iald h 1 rfl rfl hg12 dX12_blowOn_28 rfl ?_
    refine z_iconst h (v := (1 : Int32)) dX12_blowOn_29 (by decide) rfl ?_
    refine z_isub h dX12_blowOn_30 rfl ?_
    exact hB31 c0_now ((c0_now ((48 : Int32)).toNatClampNeg) - (1 : Int32)) hf
  have hf := ite_t hf c11
  refine z_aload_n h dX12_blowOn_10 0 rfl rfl ?_
  refine z_get h (C := RX12) (T := TX12) (N := 17) (v := .ref a0_now) 0 rfl rfl 1 (by decide) (by decide +kernel) (by decide +kernel) rfl dX12_blowOn_11 rfl ?_
  refine z_bipush h (v := (48 : Int32)) dX12_blowOn_14 (by decide) rfl ?_
  obtain ⟨hg13, hf⟩ := gd_some hf
  refine z_iald h 1 rfl rfl hg13 dX12_blowOn_16 rfl ?_
  refine z_iconst h (v := (1 : Int32)) dX12_blowOn_17 (by decide) rfl ?_
  refine z_iadd h dX12_blowOn_18 rfl ?_
  refine z_goto h (tgt := 31) dX12_blowOn_19 (by decide) ?_
  exact hB31 c0_now ((c0_now ((48 : Int32)).toNatClampNeg) + (1 : Int32)) hf
def fX12_passHour_b102   (c0_now : Nat → Int32) : Option ((Nat → Int32)) := (some c0_now)
def fX12_passHour_b95  (K44 : ((Nat → Int32) → Int32 → Option ((Nat → Int32)))) (c0_now : Nat → Int32) (x1 : Int32) (s1 : Int32) (s2 : Int32) : Option ((Nat → Int32)) := gd (inb s1 56) ((K44 (upd c0_now (s1).toNatClampNeg s2) (x1 + (1 : Int32))))
def fX12_passHour_L44   : Nat → (Nat → Int32) → Int32 → Option ((Nat → Int32))
  | 0, _, _ => none
  | n + 1, c0_now, x1 => (if (6 : Int32) ≤ x1 then (fX12_passHour_b102   c0_now) else gd (inb ((12 : Int32) + x1) 56) (gd (inb ((6 : Int32) + x1) 56) (Option.bind (fX12_bits (c0_now (((6 : Int32) + x1)).toNatClampNeg)) (fun v5 => (if ((c0_now (((12 : Int32) + x1)).toNatClampNeg) + (v5 / (2 : Int32))) ≤ (9 : Int32) then (fX12_passHour_b95  (fX12_passHour_L44   n) c0_now x1 ((12 : Int32) + x1) ((c0_now (((12 : Int32) + x1)).toNatClampNeg) + (v5 / (2 : Int32)))) else (fX12_passHour_b95  (fX12_passHour_L44   n) c0_now x1 ((12 : Int32) + x1) (9 : Int32)))))))
def fX12_passHour (c0_now : Nat → Int32)  : Option ((Nat → Int32)) := gd (inb (51 : Int32) 56) (gd (inb (51 : Int32) 56) (gd (inb (51 : Int32) 56) ((if ((upd c0_now ((51 : Int32)).toNatClampNeg ((c0_now ((51 : Int32)).toNatClampNeg) + (1 : Int32))) ((51 : Int32)).toNatClampNeg) = (8 : Int32) then gd (inb (51 : Int32) 56) (gd (inb (52 : Int32) 56) (gd (inb (52 : Int32) 56) ((fX12_passHour_L44   zF (upd (upd (upd c0_now ((51 : Int32)).toNatClampNeg ((c0_now ((51 : Int32)).toNatClampNeg) + (1 : Int32))) ((51 : Int32)).toNatClampNeg (0 : Int32)) ((52 : Int32)).toNatClampNeg (((upd (upd c0_now ((51 : Int32)).toNatClampNeg ((c0_now ((51 : Int32)).toNatClampNeg) + (1 : Int32))) ((51 : Int32)).toNatClampNeg (0 : Int32)) ((52 : Int32)).toNatClampNeg) + (1 : Int32))) (0 : Int32))))) else (fX12_passHour_b102   (upd c0_now ((51 : Int32)).toNatClampNeg ((c0_now ((51 : Int32)).toNatClampNeg) + (1 : Int32))))))))
abbrev rmX12_passHour : Room := { frames := 1, cells := 0, slots := 0, locals := 22 }
set_option maxRecDepth 100000 in
set_option maxHeartbeats 4000000 in
theorem ctX12_passHour (l : Launch) (G : zG) (a0 a0_book a0_now a0_sight a0_pad a0_can a0_fitting a0_wins a0_image a0_isKept : Nat) (c0_sights : Int32) (c0_signs : Int32) (c0_offs : Int32) (c0_offAt : Int32) (c0_offWho : Int32) (c0_lastOff : Int32) (c0_reason : Int32) (c0_acts : Int32) (c0_now : Nat → Int32)  {R : (Nat → Int32)} (hf : fX12_passHour c0_now = some R) : zCt l yX12_passHour wsX12_passHour rmX12_passHour G [(a0, .inr (12, [.ref a0_book, .ref a0_now, .int c0_sights, .ref a0_sight, .int c0_signs, .ref a0_pad, .int c0_offs, .int c0_offAt, .int c0_offWho, .int c0_lastOff, .int c0_reason, .int c0_acts, .ref a0_can, .ref a0_fitting, .ref a0_wins, .ref a0_image, .ref a0_isKept])), (a0_now, .inl (G.2.1, 56, .inl c0_now))] [.ref a0] (fun v w => v = none ∧ w = [(a0, .inr (12, [.ref a0_book, .ref a0_now, .int c0_sights, .ref a0_sight, .int c0_signs, .ref a0_pad, .int c0_offs, .int c0_offAt, .int c0_offWho, .int c0_lastOff, .int c0_reason, .int c0_acts, .ref a0_can, .ref a0_fitting, .ref a0_wins, .ref a0_image, .ref a0_isKept])), (a0_now, .inl (G.2.1, 56, .inl R))]) := by
  refine zMkV (own := RX12) false (by decide) (by decide +kernel) rfl rfl (Nat.le_of_ble_eq_true rfl) ?_
  intro Z h hret
  have hB102 : ∀ (c0_now : Nat → Int32), fX12_passHour_b102   c0_now = some R → Z 0 0 [(a0, .inr (12, [.ref a0_book, .ref a0_now, .int c0_sights, .ref a0_sight, .int c0_signs, .ref a0_pad, .int c0_offs, .int c0_offAt, .int c0_offWho, .int c0_lastOff, .int c0_reason, .int c0_acts, .ref a0_can, .ref a0_fitting, .ref a0_wins, .ref a0_image, .ref a0_isKept])), (a0_now, .inl (G.2.1, 56, .inl c0_now))] [] 102 [] := by
    intro c0_now hf
    rw [fX12_passHour_b102] at hf
    have hf := Option.some.inj hf
    subst hf
    exact hret _ _ _ dX12_passHour_102 ⟨rfl, rfl⟩
  have hL44 : ∀ (n44 : Nat) (c0_now : Nat → Int32) (x1 : Int32), fX12_passHour_L44   n44 c0_now x1 = some R → Z 0 0 [(a0, .inr (12, [.ref a0_book, .ref a0_now, .int c0_sights, .ref a0_sight, .int c0_signs, .ref a0_pad, .int c0_offs, .int c0_offAt, .int c0_offWho, .int c0_lastOff, .int c0_reason, .int c0_acts, .ref a0_can, .ref a0_fitting, .ref a0_wins, .ref a0_image, .ref a0_isKept])), (a0_now, .inl (G.2.1, 56, .inl c0_now))] [(0, .ref a0), (1, .int x1)] 44 [] := by
    intro n44
    induction n44 with
    | zero =>
      intro c0_now x1 hf
      rw [fX12_passHour_L44] at hf
      cases hf
    | succ n44 ih44 =>
      have hB95 : ∀ (c0_now : Nat → Int32) (x1 : Int32) (s1 : Int32) (s2 : Int32), fX12_passHour_b95  (fX12_passHour_L44   n44) c0_now x1 s1 s2 = some R → Z 0 0 [(a0, .inr (12, [.ref a0_book, .ref a0_now, .int c0_sights, .ref a0_sight, .int c0_signs, .ref a0_pad, .int c0_offs, .int c0_offAt, .int c0_offWho, .int c0_lastOff, .int c0_reason, .int c0_acts, .ref a0_can, .ref a0_fitting, .ref a0_wins, .ref a0_image, .ref a0_isKept])), (a0_now, .inl (G.2.1, 56, .inl c0_now))] [(0, .ref a0), (1, .int x1)] 95 [.int s2, .int s1, .ref a0_now] := by
        intro c0_now x1 s1 s2 hf
        rw [fX12_passHour_b95] at hf
        obtain ⟨hg1, hf⟩ := gd_some hf
        refine z_iast h (w2 := [(a0, .inr (12, [.ref a0_book, .ref a0_now, .int c0_sights, .ref a0_sight, .int c0_signs, .ref a0_pad, .int c0_offs, .int c0_offAt, .int c0_offWho, .int c0_lastOff, .int c0_reason, .int c0_acts, .ref a0_can, .ref a0_fitting, .ref a0_wins, .ref a0_image, .ref a0_isKept])), (a0_now, .inl (G.2.1, 56, .inl (upd c0_now (s1).toNatClampNeg s2)))]) 1 rfl rfl hg1 dX12_passHour_95 rfl rfl ?_
        refine z_iinc h (v := (x1 + (1 : Int32))) (lv2 := [(1, .int (x1 + (1 : Int32))), (0, .ref a0)]) (j := 1) dX12_passHour_96 rfl rfl (by decide) rfl rfl ?_
        refine z_goto h (tgt := 44) dX12_passHour_99 (by decide) ?_
        refine z_locs h (lv2 := [(0, .ref a0), (1, .int (x1 + (1 : Int32)))]) [1, 0] rfl ?_
        exact ih44 (upd c0_now (s1).toNatClampNeg s2) (x1 + (1 : Int32)) hf
      intro c0_now x1 hf
      rw [fX12_passHour_L44] at hf
      refine z_iload_n h dX12_passHour_44 1 rfl rfl ?_
      refine z_bipush h (v := (6 : Int32)) dX12_passHour_45 (by decide) rfl ?_
      refine z_icmp_ge h (tgt := 102) dX12_passHour_47 (by decide) rfl (fun c2 => ?_) (fun c2 => ?_)
      · have hf := ite_t hf c2
        refine z_locs h (lv2 := []) [] rfl ?_
        exact hB102 c0_now hf
      have hf := ite_f hf c2
      refine z_aload_n h dX12_passHour_50 0 rfl rfl ?_
      refine z_get h (C := RX12) (T := TX12) (N := 17) (v := .ref a0_now) 0 rfl rfl 1 (by decide) (by decide +kernel) (by decide +kernel) rfl dX12_passHour_51 rfl ?_
      refine z_bipush h (v := (12 : Int32)) dX12_passHour_54 (by decide) rfl ?_
      refine z_iload_n h dX12_passHour_56 1 rfl rfl ?_
      refine z_iadd h dX12_passHour_57 rfl ?_
      obtain ⟨hg3, hf⟩ := gd_some hf
      refine z_iald h 1 rfl rfl hg3 dX12_passHour_58 rfl ?_
      refine z_aload_n h dX12_passHour_59 0 rfl rfl ?_
      refine z_get h (C := RX12) (T := TX12) (N := 17) (v := .ref a0_now) 0 rfl rfl 1 (by decide) (by decide +kernel) (by decide +kernel) rfl dX12_passHour_60 rfl ?_
      refine z_bipush h (v := (6 : Int32)) dX12_passHour_63 (by decide) rfl ?_
      refine z_iload_n h dX12_passHour_65 1 rfl rfl ?_
      refine z_iadd h dX12_passHour_66 rfl ?_
      obtain ⟨hg4, hf⟩ := gd_some hf
      refine z_iald h 1 rfl rfl hg4 dX12_passHour_67 rfl ?_
      obtain ⟨v5, hv5, hf⟩ := bd_some hf
      refine z_callS h (np := 1) (st := [.int (c0_now (((12 : Int32) + x1)).toNatClampNeg)]) (wr := [(a0, .inr (12, [.ref a0_book, .ref a0_now, .int c0_sights, .ref a0_sight, .int c0_signs, .ref a0_pad, .int c0_offs, .int c0_offAt, .int c0_offWho, .int c0_lastOff, .int c0_reason, .int c0_acts, .ref a0_can, .ref a0_fitting, .ref a0_wins, .ref a0_image, .ref a0_isKept])), (a0_now, .inl (G.2.1, 56, .inl c0_now))]) [.int (c0_now (((6 : Int32) + x1)).toNatClampNeg)] (ctX12_bits l G (c0_now (((6 : Int32) + x1)).toNatClampNeg) hv5) gX12_passHour_X12_bits (by decide +kernel) rfl ⟨Nat.le_of_ble_eq_true rfl, Nat.le_of_ble_eq_true rfl⟩ ⟨Nat.le_refl _, Nat.le_refl _⟩ rfl rfl rfl [] [0, 1] rfl rfl rfl rfl (by decide) (Nat.le_of_ble_eq_true rfl) dX12_passHour_68 rfl rfl (fun rv5 wv5 hrv5 => ?_)
      obtain ⟨rfl, rfl⟩ := hrv5
      refine z_perm h (w2 := [(a0, .inr (12, [.ref a0_book, .ref a0_now, .int c0_sights, .ref a0_sight, .int c0_signs, .ref a0_pad, .int c0_offs, .int c0_offAt, .int c0_offWho, .int c0_lastOff, .int c0_reason, .int c0_acts, .ref a0_can, .ref a0_fitting, .ref a0_wins, .ref a0_image, .ref a0_isKept])), (a0_now, .inl (G.2.1, 56, .inl c0_now))]) (st := [.int v5, .int (c0_now (((12 : Int32) + x1)).toNatClampNeg)]) [0, 1] rfl rfl ?_
      refine z_iconst h (v := (2 : Int32)) dX12_passHour_71 (by decide) rfl ?_
      refine z_idiv h dX12_passHour_72 (by decide) rfl ?_
      refine z_iadd h dX12_passHour_73 rfl ?_
      refine z_istore_n h (lv2 := [(2, .int ((c0_now (((12 : Int32) + x1)).toNatClampNeg) + (v5 / (2 : Int32)))), (0, .ref a0), (1, .int x1)]) dX12_passHour_74 (by decide) rfl rfl ?_
      refine z_aload_n h dX12_passHour_75 1 rfl rfl ?_
      refine z_get h (C := RX12) (T := TX12) (N := 17) (v := .ref a0_now) 0 rfl rfl 1 (by decide) (by decide +kernel) (by decide +kernel) rfl dX12_passHour_76 rfl ?_
      refine z_bipush h (v := (12 : Int32)) dX12_passHour_79 (by decide) rfl ?_
      refine z_iload_n h dX12_passHour_81 2 rfl rfl ?_
      refine z_iadd h dX12_passHour_82 rfl ?_
      refine z_iload_n h dX12_passHour_83 0 rfl rfl ?_
      refine z_bipush h (v := (9 : Int32)) dX12_passHour_84 (by decide) rfl ?_
      refine z_icmp_le h (tgt := 94) dX12_passHour_86 (by decide) rfl (fun c6 => ?_) (fun c6 => ?_)
      · have hf := ite_t hf c6
        refine z_iload_n h dX12_passHour_94 0 rfl rfl ?_
        refine z_locs h (lv2 := [(0, .ref a0), (1, .int x1)]) [1, 2] rfl ?_
        exact hB95 c0_now x1 ((12 : Int32) + x1) ((c0_now (((12 : Int32) + x1)).toNatClampNeg) + (v5 / (2 : Int32))) hf
      have hf := ite_f hf c6
      refine z_bipush h (v := (9 : Int32)) dX12_passHour_89 (by decide) rfl ?_
      refine z_goto h (tgt := 95) dX12_passHour_91 (by decide) ?_
      refine z_locs h (lv2 := [(0, .ref a0), (1, .int x1)]) [1, 2] rfl ?_
      exact hB95 c0_now x1 ((12 : Int32) + x1) (9 : Int32) hf
  rw [fX12_passHour] at hf
  show Z 0 0 _ [(0, .ref a0)] 0 []
  refine z_aload_n h dX12_passHour_0 0 rfl rfl ?_
  refine z_get h (C := RX12) (T := TX12) (N := 17) (v := .ref a0_now) 0 rfl rfl 1 (by decide) (by decide +kernel) (by decide +kernel) rfl dX12_passHour_1 rfl ?_
  refine z_bipush h (v := (51 : Int32)) dX12_passHour_4 (by decide) rfl ?_
  refine z_dup2 h dX12_passHour_6 rfl rfl rfl ?_
  obtain ⟨hg7, hf⟩ := gd_some hf
  refine z_iald h 1 rfl rfl hg7 dX12_passHour_7 rfl ?_
  refine z_iconst h (v := (1 : Int32)) dX12_passHour_8 (by decide) rfl ?_
  refine z_iadd h dX12_passHour_9 rfl ?_
  obtain ⟨hg8, hf⟩ := gd_some hf
  refine z_iast h (w2 := [(a0, .inr (12, [.ref a0_book, .ref a0_now, .int c0_sights, .ref a0_sight, .int c0_signs, .ref a0_pad, .int c0_offs, .int c0_offAt, .int c0_offWho, .int c0_lastOff, .int c0_reason, .int c0_acts, .ref a0_can, .ref a0_fitting, .ref a0_wins, .ref a0_image, .ref a0_isKept])), (a0_now, .inl (G.2.1, 56, .inl (upd c0_now ((51 : Int32)).toNatClampNeg ((c0_now ((51 : Int32)).toNatClampNeg) + (1 : Int32)))))]) 1 rfl rfl hg8 dX12_passHour_10 rfl rfl ?_
  refine z_aload_n h dX12_passHour_11 0 rfl rfl ?_
  refine z_get h (C := RX12) (T := TX12) (N := 17) (v := .ref a0_now) 0 rfl rfl 1 (by decide) (by decide +kernel) (by decide +kernel) rfl dX12_passHour_12 rfl ?_
  refine z_bipush h (v := (51 : Int32)) dX12_passHour_15 (by decide) rfl ?_
  obtain ⟨hg9, hf⟩ := gd_some hf
  refine z_iald h 1 rfl rfl hg9 dX12_passHour_17 rfl ?_
  refine z_bipush h (v := (8 : Int32)) dX12_passHour_18 (by decide) rfl ?_
  refine z_icmp_ne h (tgt := 102) dX12_passHour_20 (by decide) rfl (fun c10 => ?_) (fun c10 => ?_)
  · have hf := ite_f hf c10
    refine z_locs h (lv2 := []) [] rfl ?_
    exact hB102 (upd c0_now ((51 : Int32)).toNatClampNeg ((c0_now ((51 : Int32)).toNatClampNeg) + (1 : Int32))) hf
  have hf := ite_t hf c10
  refine z_aload_n h dX12_passHour_23 0 rfl rfl ?_
  refine z_get h (C := RX12) (T := TX12) (N := 17) (v := .ref a0_now) 0 rfl rfl 1 (by decide) (by decide +kernel) (by decide +kernel) rfl dX12_passHour_24 rfl ?_
  refine z_bipush h (v := (51 : Int32)) dX12_passHour_27 (by decide) rfl ?_
  refine z_iconst h (v := (0 : Int32)) dX12_passHour_29 (by decide) rfl ?_
  obtain ⟨hg11, hf⟩ := gd_some hf
  refine z_iast h (w2 := [(a0, .inr (12, [.ref a0_book, .ref a0_now, .int c0_sights, .ref a0_sight, .int c0_signs, .ref a0_pad, .int c0_offs, .int c0_offAt, .int c0_offWho, .int c0_lastOff, .int c0_reason, .int c0_acts, .ref a0_can, .ref a0_fitting, .ref a0_wins, .ref a0_image, .ref a0_isKept])), (a0_now, .inl (G.2.1, 56, .inl (upd (upd c0_now ((51 : Int32)).toNatClampNeg ((c0_now ((51 : Int32)).toNatClampNeg) + (1 : Int32))) ((51 : Int32)).toNatClampNeg (0 : Int32))))]) 1 rfl rfl hg11 dX12_passHour_30 rfl rfl ?_
  refine z_aload_n h dX12_passHour_31 0 rfl rfl ?_
  refine z_get h (C := RX12) (T := TX12) (N := 17) (v := .ref a0_now) 0 rfl rfl 1 (by decide) (by decide +kernel) (by decide +kernel) rfl dX12_passHour_32 rfl ?_
  refine z_bipush h (v := (52 : Int32)) dX12_passHour_35 (by decide) rfl ?_
  refine z_dup2 h dX12_passHour_37 rfl rfl rfl ?_
  obtain ⟨hg12, hf⟩ := gd_some hf
  refine z_iald h 1 rfl rfl hg12 dX12_passHour_38 rfl ?_
  refine z_iconst h (v := (1 : Int32)) dX12_passHour_39 (by decide) rfl ?_
  refine z_iadd h dX12_passHour_40 rfl ?_
  obtain ⟨hg13, hf⟩ := gd_some hf
  refine z_iast h (w2 := [(a0, .inr (12, [.ref a0_book, .ref a0_now, .int c0_sights, .ref a0_sight, .int c0_signs, .ref a0_pad, .int c0_offs, .int c0_offAt, .int c0_offWho, .int c0_lastOff, .int c0_reason, .int c0_acts, .ref a0_can, .ref a0_fitting, .ref a0_wins, .ref a0_image, .ref a0_isKept])), (a0_now, .inl (G.2.1, 56, .inl (upd (upd (upd c0_now ((51 : Int32)).toNatClampNeg ((c0_now ((51 : Int32)).toNatClampNeg) + (1 : Int32))) ((51 : Int32)).toNatClampNeg (0 : Int32)) ((52 : Int32)).toNatClampNeg (((upd (upd c0_now ((51 : Int32)).toNatClampNeg ((c0_now ((51 : Int32)).toNatClampNeg) + (1 : Int32))) ((51 : Int32)).toNatClampNeg (0 : Int32)) ((52 : Int32)).toNatClampNeg) + (1 : Int32)))))]) 1 rfl rfl hg13 dX12_passHour_41 rfl rfl ?_
  refine z_iconst h (v := (0 : Int32)) dX12_passHour_42 (by decide) rfl ?_
  refine z_istore_n h (lv2 := [(1, .int (0 : Int32)), (0, .ref a0)]) dX12_passHour_43 (by decide) rfl rfl ?_
  refine z_locs h (lv2 := [(0, .ref a0), (1, .int (0 : Int32))]) [1, 0] rfl ?_
  exact hL44 zF (upd (upd (upd c0_now ((51 : Int32)).toNatClampNeg ((c0_now ((51 : Int32)).toNatClampNeg) + (1 : Int32))) ((51 : Int32)).toNatClampNeg (0 : Int32)) ((52 : Int32)).toNatClampNeg (((upd (upd c0_now ((51 : Int32)).toNatClampNeg ((c0_now ((51 : Int32)).toNatClampNeg) + (1 : Int32))) ((51 : Int32)).toNatClampNeg (0 : Int32)) ((52 : Int32)).toNatClampNeg) + (1 : Int32))) (0 : Int32) hf
def fX12_endHour_b180  (K33 : (Int32 → Int32 → (Nat → Int32) → Int32 → Option (Int32 × Int32 × Int32 × (Nat → Int32)))) (K82 : (Int32 → Int32 → (Nat → Int32) → Int32 → Int32 → Int32 → Option (Int32 × Int32 × Int32 × (Nat → Int32)))) (c0_offs : Int32) (c0_lastOff : Int32) (c0_now : Nat → Int32) (x1 : Int32) (x2 : Int32) (x3 : Int32) : Option (Int32 × Int32 × Int32 × (Nat → Int32)) := (K82 c0_offs c0_lastOff c0_now x1 x2 (x3 + (1 : Int32)))
def fX12_endHour_b177  (K33 : (Int32 → Int32 → (Nat → Int32) → Int32 → Option (Int32 × Int32 × Int32 × (Nat → Int32)))) (K82 : (Int32 → Int32 → (Nat → Int32) → Int32 → Int32 → Int32 → Option (Int32 × Int32 × Int32 × (Nat → Int32)))) (c0_offs : Int32) (c0_lastOff : Int32) (c0_now : Nat → Int32) (x1 : Int32) (x2 : Int32) (x3 : Int32) (s1 : Int32) : Option (Int32 × Int32 × Int32 × (Nat → Int32)) := (fX12_endHour_b180  K33 K82 c0_offs s1 c0_now x1 x2 x3)
def fX12_endHour_b150  (K33 : (Int32 → Int32 → (Nat → Int32) → Int32 → Option (Int32 × Int32 × Int32 × (Nat → Int32)))) (K82 : (Int32 → Int32 → (Nat → Int32) → Int32 → Int32 → Int32 → Option (Int32 × Int32 × Int32 × (Nat → Int32)))) (c0_offs : Int32) (c0_lastOff : Int32) (c0_now : Nat → Int32) (x1 : Int32) (x2 : Int32) (x3 : Int32) (s1 : Int32) (s2 : Int32) : Option (Int32 × Int32 × Int32 × (Nat → Int32)) := gd (inb s1 56) ((if (0 : Int32) ≤ c0_lastOff then (fX12_endHour_b177  K33 K82 (c0_offs + (1 : Int32)) c0_lastOff (upd c0_now (s1).toNatClampNeg s2) x1 x2 x3 c0_lastOff) else (fX12_endHour_b177  K33 K82 (c0_offs + (1 : Int32)) c0_lastOff (upd c0_now (s1).toNatClampNeg s2) x1 x2 x3 x3)))
def fX12_endHour_L82  (K33 : (Int32 → Int32 → (Nat → Int32) → Int32 → Option (Int32 × Int32 × Int32 × (Nat → Int32)))) : Nat → Int32 → Int32 → (Nat → Int32) → Int32 → Int32 → Int32 → Option (Int32 × Int32 × Int32 × (Nat → Int32))
  | 0, _, _, _, _, _, _ => none
  | n + 1, c0_offs, c0_lastOff, c0_now, x1, x2, x3 => (if (6 : Int32) ≤ x3 then (K33 c0_offs c0_lastOff c0_now (x1 + (1 : Int32))) else gd (inb x3 56) (gd (inb (48 : Int32) 56) ((if (c0_now (x3).toNatClampNeg) = (c0_now ((48 : Int32)).toNatClampNeg) then gd (inb ((24 : Int32) + x3) 56) ((if (0 : Int32) ≤ (c0_now (((24 : Int32) + x3)).toNatClampNeg) then (fX12_endHour_b180  K33 (fX12_endHour_L82  K33 n) c0_offs c0_lastOff c0_now x1 x2 x3) else Option.bind (fX12_isHushed c0_now x3) (fun v9 => (if v9 = (0 : Int32) then Option.bind (fX12_isCell x2) (fun v11 => (if v11 = (0 : Int32) then gd (inb (48 : Int32) 56) ((fX12_endHour_b150  K33 (fX12_endHour_L82  K33 n) c0_offs c0_lastOff c0_now x1 x2 x3 ((24 : Int32) + x3) (c0_now ((48 : Int32)).toNatClampNeg))) else (fX12_endHour_b150  K33 (fX12_endHour_L82  K33 n) c0_offs c0_lastOff c0_now x1 x2 x3 ((24 : Int32) + x3) x2))) else (fX12_endHour_b180  K33 (fX12_endHour_L82  K33 n) c0_offs c0_lastOff c0_now x1 x2 x3))))) else (fX12_endHour_b180  K33 (fX12_endHour_L82  K33 n) c0_offs c0_lastOff c0_now x1 x2 x3)))))
def fX12_endHour_b79  (K33 : (Int32 → Int32 → (Nat → Int32) → Int32 → Option (Int32 × Int32 × Int32 × (Nat → Int32)))) (c0_offs : Int32) (c0_lastOff : Int32) (c0_now : Nat → Int32) (x1 : Int32) (s0 : Int32) : Option (Int32 × Int32 × Int32 × (Nat → Int32)) := (fX12_endHour_L82  K33 zF c0_offs c0_lastOff c0_now x1 s0 (0 : Int32))
def fX12_endHour_L33   : Nat → Int32 → Int32 → (Nat → Int32) → Int32 → Option (Int32 × Int32 × Int32 × (Nat → Int32))
  | 0, _, _, _, _ => none
  | n + 1, c0_offs, c0_lastOff, c0_now, x1 => gd (inb (50 : Int32) 56) ((if (c0_now ((50 : Int32)).toNatClampNeg) ≤ x1 then (some ((0 : Int32), c0_offs, c0_lastOff, c0_now)) else Option.bind (fX12_blowOn c0_now) (fun v16 => gd (inb (49 : Int32) 56) ((if (v16 ((49 : Int32)).toNatClampNeg) = (0 : Int32) then gd (inb (48 : Int32) 56) ((fX12_endHour_b79  (fX12_endHour_L33   n) c0_offs c0_lastOff v16 x1 ((v16 ((48 : Int32)).toNatClampNeg) + (1 : Int32)))) else gd (inb (48 : Int32) 56) ((fX12_endHour_b79  (fX12_endHour_L33   n) c0_offs c0_lastOff v16 x1 ((v16 ((48 : Int32)).toNatClampNeg) - (1 : Int32)))))))))
def fX12_endHour_b27   (c0_offs : Int32) (c0_lastOff : Int32) (c0_now : Nat → Int32) : Option (Int32 × Int32 × Int32 × (Nat → Int32)) := Option.bind (fX12_passHour c0_now) (fun v21 => (fX12_endHour_L33   zF c0_offs c0_lastOff v21 (0 : Int32)))
def fX12_endHour (c0_offs : Int32) (c0_lastOff : Int32) (c0_now : Nat → Int32)  : Option (Int32 × Int32 × Int32 × (Nat → Int32)) := gd (inb (51 : Int32) 56) ((if (c0_now ((51 : Int32)).toNatClampNeg) = (7 : Int32) then gd (inb (52 : Int32) 56) ((if (c0_now ((52 : Int32)).toNatClampNeg) = (99 : Int32) then (some ((9 : Int32), c0_offs, c0_lastOff, c0_now)) else (fX12_endHour_b27   c0_offs c0_lastOff c0_now))) else (fX12_endHour_b27   c0_offs c0_lastOff c0_now)))
abbrev rmX12_endHour : Room := { frames := 3, cells := 0, slots := 0, locals := 63 }
set_option maxRecDepth 100000 in
set_option maxHeartbeats 4000000 in
theorem ctX12_endHour (l : Launch) (G : zG) (a0 a0_book a0_now a0_sight a0_pad a0_can a0_fitting a0_wins a0_image a0_isKept : Nat) (c0_sights : Int32) (c0_signs : Int32) (c0_offs : Int32) (c0_offAt : Int32) (c0_offWho : Int32) (c0_lastOff : Int32) (c0_reason : Int32) (c0_acts : Int32) (c0_now : Nat → Int32)  {R : Int32 × Int32 × Int32 × (Nat → Int32)} (hf : fX12_endHour c0_offs c0_lastOff c0_now = some R) : zCt l yX12_endHour wsX12_endHour rmX12_endHour G [(a0, .inr (12, [.ref a0_book, .ref a0_now, .int c0_sights, .ref a0_sight, .int c0_signs, .ref a0_pad, .int c0_offs, .int c0_offAt, .int c0_offWho, .int c0_lastOff, .int c0_reason, .int c0_acts, .ref a0_can, .ref a0_fitting, .ref a0_wins, .ref a0_image, .ref a0_isKept])), (a0_now, .inl (G.2.1, 56, .inl c0_now))] [.ref a0] (fun v w => v = some (.int (R.1)) ∧ w = [(a0, .inr (12, [.ref a0_book, .ref a0_now, .int c0_sights, .ref a0_sight, .int c0_signs, .ref a0_pad, .int (R.2.1), .int c0_offAt, .int c0_offWho, .int (R.2.2.1), .int c0_reason, .int c0_acts, .ref a0_can, .ref a0_fitting, .ref a0_wins, .ref a0_image, .ref a0_isKept])), (a0_now, .inl (G.2.1, 56, .inl (R.2.2.2)))]) := by
  refine zMkI (own := RX12) false (by decide) (by decide +kernel) rfl rfl (Nat.le_of_ble_eq_true rfl) ?_
  intro Z h hret
  have hL33 : ∀ (n33 : Nat) (c0_offs : Int32) (c0_lastOff : Int32) (c0_now : Nat → Int32) (x1 : Int32), fX12_endHour_L33   n33 c0_offs c0_lastOff c0_now x1 = some R → Z 0 0 [(a0, .inr (12, [.ref a0_book, .ref a0_now, .int c0_sights, .ref a0_sight, .int c0_signs, .ref a0_pad, .int c0_offs, .int c0_offAt, .int c0_offWho, .int c0_lastOff, .int c0_reason, .int c0_acts, .ref a0_can, .ref a0_fitting, .ref a0_wins, .ref a0_image, .ref a0_isKept])), (a0_now, .inl (G.2.1, 56, .inl c0_now))] [(0, .ref a0), (1, .int x1)] 33 [] := by
    intro n33
    induction n33 with
    | zero =>
      intro c0_offs c0_lastOff c0_now x1 hf
      rw [fX12_endHour_L33] at hf
      cases hf
    | succ n33 ih33 =>
      have hL82 : ∀ (n82 : Nat) (c0_offs : Int32) (c0_lastOff : Int32) (c0_now : Nat → Int32) (x1 : Int32) (x2 : Int32) (x3 : Int32), fX12_endHour_L82  (fX12_endHour_L33   n33) n82 c0_offs c0_lastOff c0_now x1 x2 x3 = some R → Z 0 0 [(a0, .inr (12, [.ref a0_book, .ref a0_now, .int c0_sights, .ref a0_sight, .int c0_signs, .ref a0_pad, .int c0_offs, .int c0_offAt, .int c0_offWho, .int c0_lastOff, .int c0_reason, .int c0_acts, .ref a0_can, .ref a0_fitting, .ref a0_wins, .ref a0_image, .ref a0_isKept])), (a0_now, .inl (G.2.1, 56, .inl c0_now))] [(0, .ref a0), (1, .int x1), (2, .int x2), (3, .int x3)] 82 [] := by
        intro n82
        induction n82 with
        | zero =>
          intro c0_offs c0_lastOff c0_now x1 x2 x3 hf
          rw [fX12_endHour_L82] at hf
          cases hf
        | succ n82 ih82 =>
          have hB180 : ∀ (c0_offs : Int32) (c0_lastOff : Int32) (c0_now : Nat → Int32) (x1 : Int32) (x2 : Int32) (x3 : Int32), fX12_endHour_b180  (fX12_endHour_L33   n33) (fX12_endHour_L82  (fX12_endHour_L33   n33) n82) c0_offs c0_lastOff c0_now x1 x2 x3 = some R → Z 0 0 [(a0, .inr (12, [.ref a0_book, .ref a0_now, .int c0_sights, .ref a0_sight, .int c0_signs, .ref a0_pad, .int c0_offs, .int c0_offAt, .int c0_offWho, .int c0_lastOff, .int c0_reason, .int c0_acts, .ref a0_can, .ref a0_fitting, .ref a0_wins, .ref a0_image, .ref a0_isKept])), (a0_now, .inl (G.2.1, 56, .inl c0_now))] [(0, .ref a0), (1, .int x1), (2, .int x2), (3, .int x3)] 180 [] := by
            intro c0_offs c0_lastOff c0_now x1 x2 x3 hf
            rw [fX12_endHour_b180] at hf
            refine z_iinc h (v := (x3 + (1 : Int32))) (lv2 := [(3, .int (x3 + (1 : Int32))), (0, .ref a0), (1, .int x1), (2, .int x2)]) (j := 3) dX12_endHour_180 rfl rfl (by decide) rfl rfl ?_
            refine z_goto h (tgt := 82) dX12_endHour_183 (by decide) ?_
            refine z_locs h (lv2 := [(0, .ref a0), (1, .int x1), (2, .int x2), (3, .int (x3 + (1 : Int32)))]) [1, 2, 3, 0] rfl ?_
            exact ih82 c0_offs c0_lastOff c0_now x1 x2 (x3 + (1 : Int32)) hf
          have hB177 : ∀ (c0_offs : Int32) (c0_lastOff : Int32) (c0_now : Nat → Int32) (x1 : Int32) (x2 : Int32) (x3 : Int32) (s1 : Int32), fX12_endHour_b177  (fX12_endHour_L33   n33) (fX12_endHour_L82  (fX12_endHour_L33   n33) n82) c0_offs c0_lastOff c0_now x1 x2 x3 s1 = some R → Z 0 0 [(a0, .inr (12, [.ref a0_book, .ref a0_now, .int c0_sights, .ref a0_sight, .int c0_signs, .ref a0_pad, .int c0_offs, .int c0_offAt, .int c0_offWho, .int c0_lastOff, .int c0_reason, .int c0_acts, .ref a0_can, .ref a0_fitting, .ref a0_wins, .ref a0_image, .ref a0_isKept])), (a0_now, .inl (G.2.1, 56, .inl c0_now))] [(0, .ref a0), (1, .int x1), (2, .int x2), (3, .int x3)] 177 [.int s1, .ref a0] := by
            intro c0_offs c0_lastOff c0_now x1 x2 x3 s1 hf
            rw [fX12_endHour_b177] at hf
            refine z_put h (C := RX12) (T := TX12) (N := 17) 0 rfl rfl 9 (by decide) (by decide +kernel) (by decide +kernel) tyX12 tyX12_ok nmX12 (w2 := [(a0, .inr (12, [.ref a0_book, .ref a0_now, .int c0_sights, .ref a0_sight, .int c0_signs, .ref a0_pad, .int c0_offs, .int c0_offAt, .int c0_offWho, .int s1, .int c0_reason, .int c0_acts, .ref a0_can, .ref a0_fitting, .ref a0_wins, .ref a0_image, .ref a0_isKept])), (a0_now, .inl (G.2.1, 56, .inl c0_now))]) rfl rfl rfl (Nat.le_of_ble_eq_true rfl) rfl dX12_endHour_177 rfl ?_
            exact hB180 c0_offs s1 c0_now x1 x2 x3 hf
          have hB150 : ∀ (c0_offs : Int32) (c0_lastOff : Int32) (c0_now : Nat → Int32) (x1 : Int32) (x2 : Int32) (x3 : Int32) (s1 : Int32) (s2 : Int32), fX12_endHour_b150  (fX12_endHour_L33   n33) (fX12_endHour_L82  (fX12_endHour_L33   n33) n82) c0_offs c0_lastOff c0_now x1 x2 x3 s1 s2 = some R → Z 0 0 [(a0, .inr (12, [.ref a0_book, .ref a0_now, .int c0_sights, .ref a0_sight, .int c0_signs, .ref a0_pad, .int c0_offs, .int c0_offAt, .int c0_offWho, .int c0_lastOff, .int c0_reason, .int c0_acts, .ref a0_can, .ref a0_fitting, .ref a0_wins, .ref a0_image, .ref a0_isKept])), (a0_now, .inl (G.2.1, 56, .inl c0_now))] [(0, .ref a0), (1, .int x1), (2, .int x2), (3, .int x3)] 150 [.int s2, .int s1, .ref a0_now] := by
            intro c0_offs c0_lastOff c0_now x1 x2 x3 s1 s2 hf
            rw [fX12_endHour_b150] at hf
            obtain ⟨hg1, hf⟩ := gd_some hf
            refine z_iast h (w2 := [(a0, .inr (12, [.ref a0_book, .ref a0_now, .int c0_sights, .ref a0_sight, .int c0_signs, .ref a0_pad, .int c0_offs, .int c0_offAt, .int c0_offWho, .int c0_lastOff, .int c0_reason, .int c0_acts, .ref a0_can, .ref a0_fitting, .ref a0_wins, .ref a0_image, .ref a0_isKept])), (a0_now, .inl (G.2.1, 56, .inl (upd c0_now (s1).toNatClampNeg s2)))]) 1 rfl rfl hg1 dX12_endHour_150 rfl rfl ?_
            refine z_aload_n h dX12_endHour_151 0 rfl rfl ?_
            refine z_dup h dX12_endHour_152 rfl rfl ?_
            refine z_get h (C := RX12) (T := TX12) (N := 17) (v := .int c0_offs) 0 rfl rfl 6 (by decide) (by decide +kernel) (by decide +kernel) rfl dX12_endHour_153 rfl ?_
            refine z_iconst h (v := (1 : Int32)) dX12_endHour_156 (by decide) rfl ?_
            refine z_iadd h dX12_endHour_157 rfl ?_
            refine z_put h (C := RX12) (T := TX12) (N := 17) 0 rfl rfl 6 (by decide) (by decide +kernel) (by decide +kernel) tyX12 tyX12_ok nmX12 (w2 := [(a0, .inr (12, [.ref a0_book, .ref a0_now, .int c0_sights, .ref a0_sight, .int c0_signs, .ref a0_pad, .int (c0_offs + (1 : Int32)), .int c0_offAt, .int c0_offWho, .int c0_lastOff, .int c0_reason, .int c0_acts, .ref a0_can, .ref a0_fitting, .ref a0_wins, .ref a0_image, .ref a0_isKept])), (a0_now, .inl (G.2.1, 56, .inl (upd c0_now (s1).toNatClampNeg s2)))]) rfl rfl rfl (Nat.le_of_ble_eq_true rfl) rfl dX12_endHour_158 rfl ?_
            refine z_aload_n h dX12_endHour_161 0 rfl rfl ?_
            refine z_aload_n h dX12_endHour_162 0 rfl rfl ?_
            refine z_get h (C := RX12) (T := TX12) (N := 17) (v := .int c0_lastOff) 0 rfl rfl 9 (by decide) (by decide +kernel) (by decide +kernel) rfl dX12_endHour_163 rfl ?_
            refine z_if_ge h (tgt := 173) dX12_endHour_166 (by decide) rfl (fun c2 => ?_) (fun c2 => ?_)
            · have hf := ite_t hf c2
              refine z_aload_n h dX12_endHour_173 0 rfl rfl ?_
              refine z_get h (C := RX12) (T := TX12) (N := 17) (v := .int c0_lastOff) 0 rfl rfl 9 (by decide) (by decide +kernel) (by decide +kernel) rfl dX12_endHour_174 rfl ?_
              exact hB177 (c0_offs + (1 : Int32)) c0_lastOff (upd c0_now (s1).toNatClampNeg s2) x1 x2 x3 c0_lastOff hf
            have hf := ite_f hf c2
            refine z_iload_n h dX12_endHour_169 3 rfl rfl ?_
            refine z_goto h (tgt := 177) dX12_endHour_170 (by decide) ?_
            exact hB177 (c0_offs + (1 : Int32)) c0_lastOff (upd c0_now (s1).toNatClampNeg s2) x1 x2 x3 x3 hf
          intro c0_offs c0_lastOff c0_now x1 x2 x3 hf
          rw [fX12_endHour_L82] at hf
          refine z_iload_n h dX12_endHour_82 3 rfl rfl ?_
          refine z_bipush h (v := (6 : Int32)) dX12_endHour_83 (by decide) rfl ?_
          refine z_icmp_ge h (tgt := 186) dX12_endHour_85 (by decide) rfl (fun c3 => ?_) (fun c3 => ?_)
          · have hf := ite_t hf c3
            refine z_iinc h (v := (x1 + (1 : Int32))) (lv2 := [(1, .int (x1 + (1 : Int32))), (0, .ref a0), (2, .int x2), (3, .int x3)]) (j := 1) dX12_endHour_186 rfl rfl (by decide) rfl rfl ?_
            refine z_goto h (tgt := 33) dX12_endHour_189 (by decide) ?_
            refine z_locs h (lv2 := [(0, .ref a0), (1, .int (x1 + (1 : Int32)))]) [1, 0] rfl ?_
            exact ih33 c0_offs c0_lastOff c0_now (x1 + (1 : Int32)) hf
          have hf := ite_f hf c3
          refine z_aload_n h dX12_endHour_88 0 rfl rfl ?_
          refine z_get h (C := RX12) (T := TX12) (N := 17) (v := .ref a0_now) 0 rfl rfl 1 (by decide) (by decide +kernel) (by decide +kernel) rfl dX12_endHour_89 rfl ?_
          refine z_iload_n h dX12_endHour_92 3 rfl rfl ?_
          obtain ⟨hg4, hf⟩ := gd_some hf
          refine z_iald h 1 rfl rfl hg4 dX12_endHour_93 rfl ?_
          refine z_aload_n h dX12_endHour_94 0 rfl rfl ?_
          refine z_get h (C := RX12) (T := TX12) (N := 17) (v := .ref a0_now) 0 rfl rfl 1 (by decide) (by decide +kernel) (by decide +kernel) rfl dX12_endHour_95 rfl ?_
          refine z_bipush h (v := (48 : Int32)) dX12_endHour_98 (by decide) rfl ?_
          obtain ⟨hg5, hf⟩ := gd_some hf
          refine z_iald h 1 rfl rfl hg5 dX12_endHour_100 rfl ?_
          refine z_icmp_ne h (tgt := 180) dX12_endHour_101 (by decide) rfl (fun c6 => ?_) (fun c6 => ?_)
          · have hf := ite_f hf c6
            exact hB180 c0_offs c0_lastOff c0_now x1 x2 x3 hf
          have hf := ite_t hf c6
          refine z_aload_n h dX12_endHour_104 0 rfl rfl ?_
          refine z_get h (C := RX12) (T := TX12) (N := 17) (v := .ref a0_now) 0 rfl rfl 1 (by decide) (by decide +kernel) (by decide +kernel) rfl dX12_endHour_105 rfl ?_
          refine z_bipush h (v := (24 : Int32)) dX12_endHour_108 (by decide) rfl ?_
          refine z_iload_n h dX12_endHour_110 3 rfl rfl ?_
          refine z_iadd h dX12_endHour_111 rfl ?_
          obtain ⟨hg7, hf⟩ := gd_some hf
          refine z_iald h 1 rfl rfl hg7 dX12_endHour_112 rfl ?_
          refine z_if_ge h (tgt := 180) dX12_endHour_113 (by decide) rfl (fun c8 => ?_) (fun c8 => ?_)
          · have hf := ite_t hf c8
            exact hB180 c0_offs c0_lastOff c0_now x1 x2 x3 hf
          have hf := ite_f hf c8
          refine z_aload_n h dX12_endHour_116 0 rfl rfl ?_
          refine z_iload_n h dX12_endHour_117 3 rfl rfl ?_
          obtain ⟨v9, hv9, hf⟩ := bd_some hf
          refine z_callV h (np := 1) (st := []) (wr := []) [.int x3] (ctX12_isHushed l G a0 a0_book a0_now a0_sight a0_pad a0_can a0_fitting a0_wins a0_image a0_isKept c0_sights c0_signs c0_offs c0_offAt c0_offWho c0_lastOff c0_reason c0_acts c0_now x3 hv9) gX12_endHour_X12_isHushed (by decide +kernel) 0 rfl rfl rfl ⟨Nat.le_of_ble_eq_true rfl, Nat.le_of_ble_eq_true rfl⟩ ⟨Nat.le_refl _, Nat.le_refl _⟩ rfl rfl rfl [0, 1] [] rfl rfl rfl rfl (by decide) (Nat.le_of_ble_eq_true rfl) dX12_endHour_118 rfl rfl (fun rv9 wv9 hrv9 => ?_)
          obtain ⟨rfl, rfl⟩ := hrv9
          refine z_perm h (w2 := [(a0, .inr (12, [.ref a0_book, .ref a0_now, .int c0_sights, .ref a0_sight, .int c0_signs, .ref a0_pad, .int c0_offs, .int c0_offAt, .int c0_offWho, .int c0_lastOff, .int c0_reason, .int c0_acts, .ref a0_can, .ref a0_fitting, .ref a0_wins, .ref a0_image, .ref a0_isKept])), (a0_now, .inl (G.2.1, 56, .inl c0_now))]) (st := [.int v9]) [0, 1] rfl rfl ?_
          refine z_if_ne h (tgt := 180) dX12_endHour_121 (by decide) rfl (fun c10 => ?_) (fun c10 => ?_)
          · have hf := ite_f hf c10
            exact hB180 c0_offs c0_lastOff c0_now x1 x2 x3 hf
          have hf := ite_t hf c10
          refine z_aload_n h dX12_endHour_124 0 rfl rfl ?_
          refine z_get h (C := RX12) (T := TX12) (N := 17) (v := .ref a0_now) 0 rfl rfl 1 (by decide) (by decide +kernel) (by decide +kernel) rfl dX12_endHour_125 rfl ?_
          refine z_bipush h (v := (24 : Int32)) dX12_endHour_128 (by decide) rfl ?_
          refine z_iload_n h dX12_endHour_130 3 rfl rfl ?_
          refine z_iadd h dX12_endHour_131 rfl ?_
          refine z_iload_n h dX12_endHour_132 2 rfl rfl ?_
          obtain ⟨v11, hv11, hf⟩ := bd_some hf
          refine z_callS h (np := 1) (st := [.int ((24 : Int32) + x3), .ref a0_now]) (wr := [(a0, .inr (12, [.ref a0_book, .ref a0_now, .int c0_sights, .ref a0_sight, .int c0_signs, .ref a0_pad, .int c0_offs, .int c0_offAt, .int c0_offWho, .int c0_lastOff, .int c0_reason, .int c0_acts, .ref a0_can, .ref a0_fitting, .ref a0_wins, .ref a0_image, .ref a0_isKept])), (a0_now, .inl (G.2.1, 56, .inl c0_now))]) [.int x2] (ctX12_isCell l G x2 hv11) gX12_endHour_X12_isCell (by decide +kernel) rfl ⟨Nat.le_of_ble_eq_true rfl, Nat.le_of_ble_eq_true rfl⟩ ⟨Nat.le_refl _, Nat.le_refl _⟩ rfl rfl rfl [] [0, 1] rfl rfl rfl rfl (by decide) (Nat.le_of_ble_eq_true rfl) dX12_endHour_133 rfl rfl (fun rv11 wv11 hrv11 => ?_)
          obtain ⟨rfl, rfl⟩ := hrv11
          refine z_perm h (w2 := [(a0, .inr (12, [.ref a0_book, .ref a0_now, .int c0_sights, .ref a0_sight, .int c0_signs, .ref a0_pad, .int c0_offs, .int c0_offAt, .int c0_offWho, .int c0_lastOff, .int c0_reason, .int c0_acts, .ref a0_can, .ref a0_fitting, .ref a0_wins, .ref a0_image, .ref a0_isKept])), (a0_now, .inl (G.2.1, 56, .inl c0_now))]) (st := [.int v11, .int ((24 : Int32) + x3), .ref a0_now]) [0, 1] rfl rfl ?_
          refine z_if_eq h (tgt := 143) dX12_endHour_136 (by decide) rfl (fun c12 => ?_) (fun c12 => ?_)
          · have hf := ite_t hf c12
            refine z_aload_n h dX12_endHour_143 0 rfl rfl ?_
            refine z_get h (C := RX12) (T := TX12) (N := 17) (v := .ref a0_now) 0 rfl rfl 1 (by decide) (by decide +kernel) (by decide +kernel) rfl dX12_endHour_144 rfl ?_
            refine z_bipush h (v := (48 : Int32)) dX12_endHour_147 (by decide) rfl ?_
            obtain ⟨hg13, hf⟩ := gd_some hf
            refine z_iald h 1 rfl rfl hg13 dX12_endHour_149 rfl ?_
            exact hB150 c0_offs c0_lastOff c0_now x1 x2 x3 ((24 : Int32) + x3) (c0_now ((48 : Int32)).toNatClampNeg) hf
          have hf := ite_f hf c12
          refine z_iload_n h dX12_endHour_139 2 rfl rfl ?_
          refine z_goto h (tgt := 150) dX12_endHour_140 (by decide) ?_
          exact hB150 c0_offs c0_lastOff c0_now x1 x2 x3 ((24 : Int32) + x3) x2 hf
      have hB79 : ∀ (c0_offs : Int32) (c0_lastOff : Int32) (c0_now : Nat → Int32) (x1 : Int32) (s0 : Int32), fX12_endHour_b79  (fX12_endHour_L33   n33) c0_offs c0_lastOff c0_now x1 s0 = some R → Z 0 0 [(a0, .inr (12, [.ref a0_book, .ref a0_now, .int c0_sights, .ref a0_sight, .int c0_signs, .ref a0_pad, .int c0_offs, .int c0_offAt, .int c0_offWho, .int c0_lastOff, .int c0_reason, .int c0_acts, .ref a0_can, .ref a0_fitting, .ref a0_wins, .ref a0_image, .ref a0_isKept])), (a0_now, .inl (G.2.1, 56, .inl c0_now))] [(0, .ref a0), (1, .int x1)] 79 [.int s0] := by
        intro c0_offs c0_lastOff c0_now x1 s0 hf
        rw [fX12_endHour_b79] at hf
        refine z_istore_n h (lv2 := [(2, .int s0), (0, .ref a0), (1, .int x1)]) dX12_endHour_79 (by decide) rfl rfl ?_
        refine z_iconst h (v := (0 : Int32)) dX12_endHour_80 (by decide) rfl ?_
        refine z_istore_n h (lv2 := [(3, .int (0 : Int32)), (2, .int s0), (0, .ref a0), (1, .int x1)]) dX12_endHour_81 (by decide) rfl rfl ?_
        refine z_locs h (lv2 := [(0, .ref a0), (1, .int x1), (2, .int s0), (3, .int (0 : Int32))]) [2, 3, 1, 0] rfl ?_
        exact hL82 zF c0_offs c0_lastOff c0_now x1 s0 (0 : Int32) hf
      intro c0_offs c0_lastOff c0_now x1 hf
      rw [fX12_endHour_L33] at hf
      refine z_iload_n h dX12_endHour_33 1 rfl rfl ?_
      refine z_aload_n h dX12_endHour_34 0 rfl rfl ?_
      refine z_get h (C := RX12) (T := TX12) (N := 17) (v := .ref a0_now) 0 rfl rfl 1 (by decide) (by decide +kernel) (by decide +kernel) rfl dX12_endHour_35 rfl ?_
      refine z_bipush h (v := (50 : Int32)) dX12_endHour_38 (by decide) rfl ?_
      obtain ⟨hg14, hf⟩ := gd_some hf
      refine z_iald h 1 rfl rfl hg14 dX12_endHour_40 rfl ?_
      refine z_icmp_ge h (tgt := 192) dX12_endHour_41 (by decide) rfl (fun c15 => ?_) (fun c15 => ?_)
      · have hf := ite_t hf c15
        refine z_iconst h (v := (0 : Int32)) dX12_endHour_192 (by decide) rfl ?_
        have hf := Option.some.inj hf
        subst hf
        exact hret _ _ _ _ dX12_endHour_193 ⟨rfl, rfl⟩
      have hf := ite_f hf c15
      refine z_aload_n h dX12_endHour_44 0 rfl rfl ?_
      obtain ⟨v16, hv16, hf⟩ := bd_some hf
      refine z_callV h (np := 0) (st := []) (wr := []) [] (ctX12_blowOn l G a0 a0_book a0_now a0_sight a0_pad a0_can a0_fitting a0_wins a0_image a0_isKept c0_sights c0_signs c0_offs c0_offAt c0_offWho c0_lastOff c0_reason c0_acts c0_now hv16) gX12_endHour_X12_blowOn (by decide +kernel) 0 rfl rfl rfl ⟨Nat.le_of_ble_eq_true rfl, Nat.le_of_ble_eq_true rfl⟩ ⟨Nat.le_refl _, Nat.le_refl _⟩ rfl rfl rfl [0, 1] [] rfl rfl rfl rfl (by decide) (Nat.le_of_ble_eq_true rfl) dX12_endHour_45 rfl rfl (fun rv16 wv16 hrv16 => ?_)
      obtain ⟨rfl, rfl⟩ := hrv16
      refine z_perm h (w2 := [(a0, .inr (12, [.ref a0_book, .ref a0_now, .int c0_sights, .ref a0_sight, .int c0_signs, .ref a0_pad, .int c0_offs, .int c0_offAt, .int c0_offWho, .int c0_lastOff, .int c0_reason, .int c0_acts, .ref a0_can, .ref a0_fitting, .ref a0_wins, .ref a0_image, .ref a0_isKept])), (a0_now, .inl (G.2.1, 56, .inl v16))]) (st := []) [0, 1] rfl rfl ?_
      refine z_aload_n h dX12_endHour_48 0 rfl rfl ?_
      refine z_get h (C := RX12) (T := TX12) (N := 17) (v := .ref a0_now) 0 rfl rfl 1 (by decide) (by decide +kernel) (by decide +kernel) rfl dX12_endHour_49 rfl ?_
      refine z_bipush h (v := (49 : Int32)) dX12_endHour_52 (by decide) rfl ?_
      obtain ⟨hg17, hf⟩ := gd_some hf
      refine z_iald h 1 rfl rfl hg17 dX12_endHour_54 rfl ?_
      refine z_if_ne h (tgt := 70) dX12_endHour_55 (by decide) rfl (fun c18 => ?_) (fun c18 => ?_)
      · have hf := ite_f hf c18
        refine z_aload_n h dX12_endHour_70 0 rfl rfl ?_
        refine z_get h (C := RX12) (T := TX12) (N := 17) (v := .ref a0_now) 0 rfl rfl 1 (by decide) (by decide +kernel) (by decide +kernel) rfl dX12_endHour_71 rfl ?_
        refine z_bipush h (v := (48 : Int32)) dX12_endHour_74 (by decide) rfl ?_
        obtain ⟨hg19, hf⟩ := gd_some hf
        refine z_iald h 1 rfl rfl hg19 dX12_endHour_76 rfl ?_
        refine z_iconst h (v := (1 : Int32)) dX12_endHour_77 (by decide) rfl ?_
        refine z_isub h dX12_endHour_78 rfl ?_
        exact hB79 c0_offs c0_lastOff v16 x1 ((v16 ((48 : Int32)).toNatClampNeg) - (1 : Int32)) hf
      have hf := ite_t hf c18
      refine z_aload_n h dX12_endHour_58 0 rfl rfl ?_
      refine z_get h (C := RX12) (T := TX12) (N := 17) (v := .ref a0_now) 0 rfl rfl 1 (by decide) (by decide +kernel) (by decide +kernel) rfl dX12_endHour_59 rfl ?_
      refine z_bipush h (v := (48 : Int32)) dX12_endHour_62 (by decide) rfl ?_
      obtain ⟨hg20, hf⟩ := gd_some hf
      refine z_iald h 1 rfl rfl hg20 dX12_endHour_64 rfl ?_
      refine z_iconst h (v := (1 : Int32)) dX12_endHour_65 (by decide) rfl ?_
      refine z_iadd h dX12_endHour_66 rfl ?_
      refine z_goto h (tgt := 79) dX12_endHour_67 (by decide) ?_
      exact hB79 c0_offs c0_lastOff v16 x1 ((v16 ((48 : Int32)).toNatClampNeg) + (1 : Int32)) hf
  have hB27 : ∀ (c0_offs : Int32) (c0_lastOff : Int32) (c0_now : Nat → Int32), fX12_endHour_b27   c0_offs c0_lastOff c0_now = some R → Z 0 0 [(a0, .inr (12, [.ref a0_book, .ref a0_now, .int c0_sights, .ref a0_sight, .int c0_signs, .ref a0_pad, .int c0_offs, .int c0_offAt, .int c0_offWho, .int c0_lastOff, .int c0_reason, .int c0_acts, .ref a0_can, .ref a0_fitting, .ref a0_wins, .ref a0_image, .ref a0_isKept])), (a0_now, .inl (G.2.1, 56, .inl c0_now))] [(0, .ref a0)] 27 [] := by
    intro c0_offs c0_lastOff c0_now hf
    rw [fX12_endHour_b27] at hf
    refine z_aload_n h dX12_endHour_27 0 rfl rfl ?_
    obtain ⟨v21, hv21, hf⟩ := bd_some hf
    refine z_callV h (np := 0) (st := []) (wr := []) [] (ctX12_passHour l G a0 a0_book a0_now a0_sight a0_pad a0_can a0_fitting a0_wins a0_image a0_isKept c0_sights c0_signs c0_offs c0_offAt c0_offWho c0_lastOff c0_reason c0_acts c0_now hv21) gX12_endHour_X12_passHour (by decide +kernel) 0 rfl rfl rfl ⟨Nat.le_of_ble_eq_true rfl, Nat.le_of_ble_eq_true rfl⟩ ⟨Nat.le_refl _, Nat.le_refl _⟩ rfl rfl rfl [0, 1] [] rfl rfl rfl rfl (by decide) (Nat.le_of_ble_eq_true rfl) dX12_endHour_28 rfl rfl (fun rv21 wv21 hrv21 => ?_)
    obtain ⟨rfl, rfl⟩ := hrv21
    refine z_perm h (w2 := [(a0, .inr (12, [.ref a0_book, .ref a0_now, .int c0_sights, .ref a0_sight, .int c0_signs, .ref a0_pad, .int c0_offs, .int c0_offAt, .int c0_offWho, .int c0_lastOff, .int c0_reason, .int c0_acts, .ref a0_can, .ref a0_fitting, .ref a0_wins, .ref a0_image, .ref a0_isKept])), (a0_now, .inl (G.2.1, 56, .inl v21))]) (st := []) [0, 1] rfl rfl ?_
    refine z_iconst h (v := (0 : Int32)) dX12_endHour_31 (by decide) rfl ?_
    refine z_istore_n h (lv2 := [(1, .int (0 : Int32)), (0, .ref a0)]) dX12_endHour_32 (by decide) rfl rfl ?_
    refine z_locs h (lv2 := [(0, .ref a0), (1, .int (0 : Int32))]) [1, 0] rfl ?_
    exact hL33 zF c0_offs c0_lastOff v21 (0 : Int32) hf
  rw [fX12_endHour] at hf
  show Z 0 0 _ [(0, .ref a0)] 0 []
  refine z_aload_n h dX12_endHour_0 0 rfl rfl ?_
  refine z_get h (C := RX12) (T := TX12) (N := 17) (v := .ref a0_now) 0 rfl rfl 1 (by decide) (by decide +kernel) (by decide +kernel) rfl dX12_endHour_1 rfl ?_
  refine z_bipush h (v := (51 : Int32)) dX12_endHour_4 (by decide) rfl ?_
  obtain ⟨hg22, hf⟩ := gd_some hf
  refine z_iald h 1 rfl rfl hg22 dX12_endHour_6 rfl ?_
  refine z_bipush h (v := (7 : Int32)) dX12_endHour_7 (by decide) rfl ?_
  refine z_icmp_ne h (tgt := 27) dX12_endHour_9 (by decide) rfl (fun c23 => ?_) (fun c23 => ?_)
  · have hf := ite_f hf c23
    exact hB27 c0_offs c0_lastOff c0_now hf
  have hf := ite_t hf c23
  refine z_aload_n h dX12_endHour_12 0 rfl rfl ?_
  refine z_get h (C := RX12) (T := TX12) (N := 17) (v := .ref a0_now) 0 rfl rfl 1 (by decide) (by decide +kernel) (by decide +kernel) rfl dX12_endHour_13 rfl ?_
  refine z_bipush h (v := (52 : Int32)) dX12_endHour_16 (by decide) rfl ?_
  obtain ⟨hg24, hf⟩ := gd_some hf
  refine z_iald h 1 rfl rfl hg24 dX12_endHour_18 rfl ?_
  refine z_bipush h (v := (99 : Int32)) dX12_endHour_19 (by decide) rfl ?_
  refine z_icmp_ne h (tgt := 27) dX12_endHour_21 (by decide) rfl (fun c25 => ?_) (fun c25 => ?_)
  · have hf := ite_f hf c25
    exact hB27 c0_offs c0_lastOff c0_now hf
  have hf := ite_t hf c25
  refine z_bipush h (v := (9 : Int32)) dX12_endHour_24 (by decide) rfl ?_
  have hf := Option.some.inj hf
  subst hf
  exact hret _ _ _ _ dX12_endHour_26 ⟨rfl, rfl⟩
def fX12_oneAct (c0_pad : Nat → Int32) (c0_now : Nat → Int32) (x1 : Int32) : Option (Int32 × (Nat → Int32)) := gd (inb x1 60) (gd (inb (x1 + (1 : Int32)) 60) ((if (c0_pad ((x1 + (1 : Int32))).toNatClampNeg) = (38 : Int32) then gd (inb (x1 + (2 : Int32)) 60) (Option.bind (fX12_hold c0_now ((c0_pad (x1).toNatClampNeg) - (65 : Int32)) ((c0_pad ((x1 + (2 : Int32))).toNatClampNeg) - (65 : Int32))) (fun v5 => (some (v5.1, v5.2)))) else if (c0_pad ((x1 + (1 : Int32))).toNatClampNeg) = (60 : Int32) then Option.bind (fX12_walk c0_now ((c0_pad (x1).toNatClampNeg) - (65 : Int32)) (-1 : Int32)) (fun v7 => (some (v7.1, v7.2))) else if (c0_pad ((x1 + (1 : Int32))).toNatClampNeg) = (62 : Int32) then Option.bind (fX12_walk c0_now ((c0_pad (x1).toNatClampNeg) - (65 : Int32)) (1 : Int32)) (fun v9 => (some (v9.1, v9.2))) else if (c0_pad ((x1 + (1 : Int32))).toNatClampNeg) = (94 : Int32) then Option.bind (fX12_putOn c0_now ((c0_pad (x1).toNatClampNeg) - (65 : Int32))) (fun v11 => (some (v11.1, v11.2))) else if (c0_pad ((x1 + (1 : Int32))).toNatClampNeg) = (102 : Int32) then Option.bind (fX12_pay c0_now ((c0_pad (x1).toNatClampNeg) - (65 : Int32)) (1 : Int32)) (fun v13 => (some (v13.1, v13.2))) else if (c0_pad ((x1 + (1 : Int32))).toNatClampNeg) = (103 : Int32) then Option.bind (fX12_pay c0_now ((c0_pad (x1).toNatClampNeg) - (65 : Int32)) (0 : Int32)) (fun v15 => (some (v15.1, v15.2))) else if (c0_pad ((x1 + (1 : Int32))).toNatClampNeg) = (115 : Int32) then Option.bind (fX12_pay c0_now ((c0_pad (x1).toNatClampNeg) - (65 : Int32)) (2 : Int32)) (fun v17 => (some (v17.1, v17.2))) else if (c0_pad ((x1 + (1 : Int32))).toNatClampNeg) = (124 : Int32) then Option.bind (fX12_letGo c0_now ((c0_pad (x1).toNatClampNeg) - (65 : Int32))) (fun v19 => (some (v19.1, v19.2))) else Option.bind (fX12_state c0_now ((c0_pad (x1).toNatClampNeg) - (65 : Int32)) ((c0_pad ((x1 + (1 : Int32))).toNatClampNeg) - (48 : Int32))) (fun v20 => (some (v20.1, v20.2))))))
abbrev rmX12_oneAct : Room := { frames := 3, cells := 0, slots := 0, locals := 64 }
set_option maxRecDepth 100000 in
set_option maxHeartbeats 4000000 in
theorem ctX12_oneAct (l : Launch) (G : zG) (a0 a0_book a0_now a0_sight a0_pad a0_can a0_fitting a0_wins a0_image a0_isKept : Nat) (c0_sights : Int32) (c0_signs : Int32) (c0_offs : Int32) (c0_offAt : Int32) (c0_offWho : Int32) (c0_lastOff : Int32) (c0_reason : Int32) (c0_acts : Int32) (c0_pad : Nat → Int32) (c0_now : Nat → Int32) (x1 : Int32) {R : Int32 × (Nat → Int32)} (hf : fX12_oneAct c0_pad c0_now x1 = some R) : zCt l yX12_oneAct wsX12_oneAct rmX12_oneAct G [(a0, .inr (12, [.ref a0_book, .ref a0_now, .int c0_sights, .ref a0_sight, .int c0_signs, .ref a0_pad, .int c0_offs, .int c0_offAt, .int c0_offWho, .int c0_lastOff, .int c0_reason, .int c0_acts, .ref a0_can, .ref a0_fitting, .ref a0_wins, .ref a0_image, .ref a0_isKept])), (a0_pad, .inl (G.2.1, 60, .inl c0_pad)), (a0_now, .inl (G.2.1, 56, .inl c0_now))] [.ref a0, .int x1] (fun v w => v = some (.int (R.1)) ∧ w = [(a0, .inr (12, [.ref a0_book, .ref a0_now, .int c0_sights, .ref a0_sight, .int c0_signs, .ref a0_pad, .int c0_offs, .int c0_offAt, .int c0_offWho, .int c0_lastOff, .int c0_reason, .int c0_acts, .ref a0_can, .ref a0_fitting, .ref a0_wins, .ref a0_image, .ref a0_isKept])), (a0_pad, .inl (G.2.1, 60, .inl c0_pad)), (a0_now, .inl (G.2.1, 56, .inl (R.2)))]) := by
  refine zMkI (own := RX12) false (by decide) (by decide +kernel) rfl rfl (Nat.le_of_ble_eq_true rfl) ?_
  intro Z h hret
  rw [fX12_oneAct] at hf
  show Z 0 0 _ [(0, .ref a0), (1, .int x1)] 0 []
  refine z_aload_n h dX12_oneAct_0 0 rfl rfl ?_
  refine z_get h (C := RX12) (T := TX12) (N := 17) (v := .ref a0_pad) 0 rfl rfl 5 (by decide) (by decide +kernel) (by decide +kernel) rfl dX12_oneAct_1 rfl ?_
  refine z_iload_n h dX12_oneAct_4 1 rfl rfl ?_
  obtain ⟨hg1, hf⟩ := gd_some hf
  refine z_iald h 1 rfl rfl hg1 dX12_oneAct_5 rfl ?_
  refine z_bipush h (v := (65 : Int32)) dX12_oneAct_6 (by decide) rfl ?_
  refine z_isub h dX12_oneAct_8 rfl ?_
  refine z_istore_n h (lv2 := [(2, .int ((c0_pad (x1).toNatClampNeg) - (65 : Int32))), (0, .ref a0), (1, .int x1)]) dX12_oneAct_9 (by decide) rfl rfl ?_
  refine z_aload_n h dX12_oneAct_10 1 rfl rfl ?_
  refine z_get h (C := RX12) (T := TX12) (N := 17) (v := .ref a0_pad) 0 rfl rfl 5 (by decide) (by decide +kernel) (by decide +kernel) rfl dX12_oneAct_11 rfl ?_
  refine z_iload_n h dX12_oneAct_14 2 rfl rfl ?_
  refine z_iconst h (v := (1 : Int32)) dX12_oneAct_15 (by decide) rfl ?_
  refine z_iadd h dX12_oneAct_16 rfl ?_
  obtain ⟨hg2, hf⟩ := gd_some hf
  refine z_iald h 1 rfl rfl hg2 dX12_oneAct_17 rfl ?_
  refine z_istore_n h (lv2 := [(3, .int (c0_pad ((x1 + (1 : Int32))).toNatClampNeg)), (2, .int ((c0_pad (x1).toNatClampNeg) - (65 : Int32))), (0, .ref a0), (1, .int x1)]) dX12_oneAct_18 (by decide) rfl rfl ?_
  refine z_iload_n h dX12_oneAct_19 0 rfl rfl ?_
  by_cases c3 : (c0_pad ((x1 + (1 : Int32))).toNatClampNeg) = (38 : Int32)
  · have hf := ite_t hf c3
    refine z_lookIn h (off := 117) (tgt := 137) dX12_oneAct_20 (38 : Int32) c3 (by decide) (by decide) (by decide) ?_
    refine z_aload_n h dX12_oneAct_137 2 rfl rfl ?_
    refine z_iload_n h dX12_oneAct_138 1 rfl rfl ?_
    refine z_aload_n h dX12_oneAct_139 2 rfl rfl ?_
    refine z_get h (C := RX12) (T := TX12) (N := 17) (v := .ref a0_pad) 0 rfl rfl 5 (by decide) (by decide +kernel) (by decide +kernel) rfl dX12_oneAct_140 rfl ?_
    refine z_iload_n h dX12_oneAct_143 3 rfl rfl ?_
    refine z_iconst h (v := (2 : Int32)) dX12_oneAct_144 (by decide) rfl ?_
    refine z_iadd h dX12_oneAct_145 rfl ?_
    obtain ⟨hg4, hf⟩ := gd_some hf
    refine z_iald h 1 rfl rfl hg4 dX12_oneAct_146 rfl ?_
    refine z_bipush h (v := (65 : Int32)) dX12_oneAct_147 (by decide) rfl ?_
    refine z_isub h dX12_oneAct_149 rfl ?_
    obtain ⟨v5, hv5, hf⟩ := bd_some hf
    refine z_callV h (np := 2) (st := []) (wr := [(a0_pad, .inl (G.2.1, 60, .inl c0_pad))]) [.int ((c0_pad (x1).toNatClampNeg) - (65 : Int32)), .int ((c0_pad ((x1 + (2 : Int32))).toNatClampNeg) - (65 : Int32))] (ctX12_hold l G a0 a0_book a0_now a0_sight a0_pad a0_can a0_fitting a0_wins a0_image a0_isKept c0_sights c0_signs c0_offs c0_offAt c0_offWho c0_lastOff c0_reason c0_acts c0_now ((c0_pad (x1).toNatClampNeg) - (65 : Int32)) ((c0_pad ((x1 + (2 : Int32))).toNatClampNeg) - (65 : Int32)) hv5) gX12_oneAct_X12_hold (by decide +kernel) 0 rfl rfl rfl ⟨Nat.le_of_ble_eq_true rfl, Nat.le_of_ble_eq_true rfl⟩ ⟨Nat.le_refl _, Nat.le_refl _⟩ rfl rfl rfl [0, 2] [1] rfl rfl rfl rfl (by decide) (Nat.le_of_ble_eq_true rfl) dX12_oneAct_150 rfl rfl (fun rv5 wv5 hrv5 => ?_)
    obtain ⟨rfl, rfl⟩ := hrv5
    refine z_perm h (w2 := [(a0, .inr (12, [.ref a0_book, .ref a0_now, .int c0_sights, .ref a0_sight, .int c0_signs, .ref a0_pad, .int c0_offs, .int c0_offAt, .int c0_offWho, .int c0_lastOff, .int c0_reason, .int c0_acts, .ref a0_can, .ref a0_fitting, .ref a0_wins, .ref a0_image, .ref a0_isKept])), (a0_pad, .inl (G.2.1, 60, .inl c0_pad)), (a0_now, .inl (G.2.1, 56, .inl v5.2))]) (st := [.int v5.1]) [1, 0, 2] rfl rfl ?_
    have hf := Option.some.inj hf
    subst hf
    exact hret _ _ _ _ dX12_oneAct_153 ⟨rfl, rfl⟩
  have hf := ite_f hf c3
  by_cases c6 : (c0_pad ((x1 + (1 : Int32))).toNatClampNeg) = (60 : Int32)
  · have hf := ite_t hf c6
    refine z_lookIn h (off := 83) (tgt := 103) dX12_oneAct_20 (60 : Int32) c6 (by decide) (by decide) (by decide) ?_
    refine z_aload_n h dX12_oneAct_103 2 rfl rfl ?_
    refine z_iload_n h dX12_oneAct_104 1 rfl rfl ?_
    refine z_iconst h (v := (-1 : Int32)) dX12_oneAct_105 (by decide) rfl ?_
    obtain ⟨v7, hv7, hf⟩ := bd_some hf
    refine z_callV h (np := 2) (st := []) (wr := [(a0_pad, .inl (G.2.1, 60, .inl c0_pad))]) [.int ((c0_pad (x1).toNatClampNeg) - (65 : Int32)), .int (-1 : Int32)] (ctX12_walk l G a0 a0_book a0_now a0_sight a0_pad a0_can a0_fitting a0_wins a0_image a0_isKept c0_sights c0_signs c0_offs c0_offAt c0_offWho c0_lastOff c0_reason c0_acts c0_now ((c0_pad (x1).toNatClampNeg) - (65 : Int32)) (-1 : Int32) hv7) gX12_oneAct_X12_walk (by decide +kernel) 0 rfl rfl rfl ⟨Nat.le_of_ble_eq_true rfl, Nat.le_of_ble_eq_true rfl⟩ ⟨Nat.le_refl _, Nat.le_refl _⟩ rfl rfl rfl [0, 2] [1] rfl rfl rfl rfl (by decide) (Nat.le_of_ble_eq_true rfl) dX12_oneAct_106 rfl rfl (fun rv7 wv7 hrv7 => ?_)
    obtain ⟨rfl, rfl⟩ := hrv7
    refine z_perm h (w2 := [(a0, .inr (12, [.ref a0_book, .ref a0_now, .int c0_sights, .ref a0_sight, .int c0_signs, .ref a0_pad, .int c0_offs, .int c0_offAt, .int c0_offWho, .int c0_lastOff, .int c0_reason, .int c0_acts, .ref a0_can, .ref a0_fitting, .ref a0_wins, .ref a0_image, .ref a0_isKept])), (a0_pad, .inl (G.2.1, 60, .inl c0_pad)), (a0_now, .inl (G.2.1, 56, .inl v7.2))]) (st := [.int v7.1]) [1, 0, 2] rfl rfl ?_
    have hf := Option.some.inj hf
    subst hf
    exact hret _ _ _ _ dX12_oneAct_109 ⟨rfl, rfl⟩
  have hf := ite_f hf c6
  by_cases c8 : (c0_pad ((x1 + (1 : Int32))).toNatClampNeg) = (62 : Int32)
  · have hf := ite_t hf c8
    refine z_lookIn h (off := 76) (tgt := 96) dX12_oneAct_20 (62 : Int32) c8 (by decide) (by decide) (by decide) ?_
    refine z_aload_n h dX12_oneAct_96 2 rfl rfl ?_
    refine z_iload_n h dX12_oneAct_97 1 rfl rfl ?_
    refine z_iconst h (v := (1 : Int32)) dX12_oneAct_98 (by decide) rfl ?_
    obtain ⟨v9, hv9, hf⟩ := bd_some hf
    refine z_callV h (np := 2) (st := []) (wr := [(a0_pad, .inl (G.2.1, 60, .inl c0_pad))]) [.int ((c0_pad (x1).toNatClampNeg) - (65 : Int32)), .int (1 : Int32)] (ctX12_walk l G a0 a0_book a0_now a0_sight a0_pad a0_can a0_fitting a0_wins a0_image a0_isKept c0_sights c0_signs c0_offs c0_offAt c0_offWho c0_lastOff c0_reason c0_acts c0_now ((c0_pad (x1).toNatClampNeg) - (65 : Int32)) (1 : Int32) hv9) gX12_oneAct_X12_walk (by decide +kernel) 0 rfl rfl rfl ⟨Nat.le_of_ble_eq_true rfl, Nat.le_of_ble_eq_true rfl⟩ ⟨Nat.le_refl _, Nat.le_refl _⟩ rfl rfl rfl [0, 2] [1] rfl rfl rfl rfl (by decide) (Nat.le_of_ble_eq_true rfl) dX12_oneAct_99 rfl rfl (fun rv9 wv9 hrv9 => ?_)
    obtain ⟨rfl, rfl⟩ := hrv9
    refine z_perm h (w2 := [(a0, .inr (12, [.ref a0_book, .ref a0_now, .int c0_sights, .ref a0_sight, .int c0_signs, .ref a0_pad, .int c0_offs, .int c0_offAt, .int c0_offWho, .int c0_lastOff, .int c0_reason, .int c0_acts, .ref a0_can, .ref a0_fitting, .ref a0_wins, .ref a0_image, .ref a0_isKept])), (a0_pad, .inl (G.2.1, 60, .inl c0_pad)), (a0_now, .inl (G.2.1, 56, .inl v9.2))]) (st := [.int v9.1]) [1, 0, 2] rfl rfl ?_
    have hf := Option.some.inj hf
    subst hf
    exact hret _ _ _ _ dX12_oneAct_102 ⟨rfl, rfl⟩
  have hf := ite_f hf c8
  by_cases c10 : (c0_pad ((x1 + (1 : Int32))).toNatClampNeg) = (94 : Int32)
  · have hf := ite_t hf c10
    refine z_lookIn h (off := 111) (tgt := 131) dX12_oneAct_20 (94 : Int32) c10 (by decide) (by decide) (by decide) ?_
    refine z_aload_n h dX12_oneAct_131 2 rfl rfl ?_
    refine z_iload_n h dX12_oneAct_132 1 rfl rfl ?_
    obtain ⟨v11, hv11, hf⟩ := bd_some hf
    refine z_callV h (np := 1) (st := []) (wr := [(a0_pad, .inl (G.2.1, 60, .inl c0_pad))]) [.int ((c0_pad (x1).toNatClampNeg) - (65 : Int32))] (ctX12_putOn l G a0 a0_book a0_now a0_sight a0_pad a0_can a0_fitting a0_wins a0_image a0_isKept c0_sights c0_signs c0_offs c0_offAt c0_offWho c0_lastOff c0_reason c0_acts c0_now ((c0_pad (x1).toNatClampNeg) - (65 : Int32)) hv11) gX12_oneAct_X12_putOn (by decide +kernel) 0 rfl rfl rfl ⟨Nat.le_of_ble_eq_true rfl, Nat.le_of_ble_eq_true rfl⟩ ⟨Nat.le_refl _, Nat.le_refl _⟩ rfl rfl rfl [0, 2] [1] rfl rfl rfl rfl (by decide) (Nat.le_of_ble_eq_true rfl) dX12_oneAct_133 rfl rfl (fun rv11 wv11 hrv11 => ?_)
    obtain ⟨rfl, rfl⟩ := hrv11
    refine z_perm h (w2 := [(a0, .inr (12, [.ref a0_book, .ref a0_now, .int c0_sights, .ref a0_sight, .int c0_signs, .ref a0_pad, .int c0_offs, .int c0_offAt, .int c0_offWho, .int c0_lastOff, .int c0_reason, .int c0_acts, .ref a0_can, .ref a0_fitting, .ref a0_wins, .ref a0_image, .ref a0_isKept])), (a0_pad, .inl (G.2.1, 60, .inl c0_pad)), (a0_now, .inl (G.2.1, 56, .inl v11.2))]) (st := [.int v11.1]) [1, 0, 2] rfl rfl ?_
    have hf := Option.some.inj hf
    subst hf
    exact hret _ _ _ _ dX12_oneAct_136 ⟨rfl, rfl⟩
  have hf := ite_f hf c10
  by_cases c12 : (c0_pad ((x1 + (1 : Int32))).toNatClampNeg) = (102 : Int32)
  · have hf := ite_t hf c12
    refine z_lookIn h (off := 97) (tgt := 117) dX12_oneAct_20 (102 : Int32) c12 (by decide) (by decide) (by decide) ?_
    refine z_aload_n h dX12_oneAct_117 2 rfl rfl ?_
    refine z_iload_n h dX12_oneAct_118 1 rfl rfl ?_
    refine z_iconst h (v := (1 : Int32)) dX12_oneAct_119 (by decide) rfl ?_
    obtain ⟨v13, hv13, hf⟩ := bd_some hf
    refine z_callV h (np := 2) (st := []) (wr := [(a0_pad, .inl (G.2.1, 60, .inl c0_pad))]) [.int ((c0_pad (x1).toNatClampNeg) - (65 : Int32)), .int (1 : Int32)] (ctX12_pay l G a0 a0_book a0_now a0_sight a0_pad a0_can a0_fitting a0_wins a0_image a0_isKept c0_sights c0_signs c0_offs c0_offAt c0_offWho c0_lastOff c0_reason c0_acts c0_now ((c0_pad (x1).toNatClampNeg) - (65 : Int32)) (1 : Int32) hv13) gX12_oneAct_X12_pay (by decide +kernel) 0 rfl rfl rfl ⟨Nat.le_of_ble_eq_true rfl, Nat.le_of_ble_eq_true rfl⟩ ⟨Nat.le_refl _, Nat.le_refl _⟩ rfl rfl rfl [0, 2] [1] rfl rfl rfl rfl (by decide) (Nat.le_of_ble_eq_true rfl) dX12_oneAct_120 rfl rfl (fun rv13 wv13 hrv13 => ?_)
    obtain ⟨rfl, rfl⟩ := hrv13
    refine z_perm h (w2 := [(a0, .inr (12, [.ref a0_book, .ref a0_now, .int c0_sights, .ref a0_sight, .int c0_signs, .ref a0_pad, .int c0_offs, .int c0_offAt, .int c0_offWho, .int c0_lastOff, .int c0_reason, .int c0_acts, .ref a0_can, .ref a0_fitting, .ref a0_wins, .ref a0_image, .ref a0_isKept])), (a0_pad, .inl (G.2.1, 60, .inl c0_pad)), (a0_now, .inl (G.2.1, 56, .inl v13.2))]) (st := [.int v13.1]) [1, 0, 2] rfl rfl ?_
    have hf := Option.some.inj hf
    subst hf
    exact hret _ _ _ _ dX12_oneAct_123 ⟨rfl, rfl⟩
  have hf := ite_f hf c12
  by_cases c14 : (c0_pad ((x1 + (1 : Int32))).toNatClampNeg) = (103 : Int32)
  · have hf := ite_t hf c14
    refine z_lookIn h (off := 90) (tgt := 110) dX12_oneAct_20 (103 : Int32) c14 (by decide) (by decide) (by decide) ?_
    refine z_aload_n h dX12_oneAct_110 2 rfl rfl ?_
    refine z_iload_n h dX12_oneAct_111 1 rfl rfl ?_
    refine z_iconst h (v := (0 : Int32)) dX12_oneAct_112 (by decide) rfl ?_
    obtain ⟨v15, hv15, hf⟩ := bd_some hf
    refine z_callV h (np := 2) (st := []) (wr := [(a0_pad, .inl (G.2.1, 60, .inl c0_pad))]) [.int ((c0_pad (x1).toNatClampNeg) - (65 : Int32)), .int (0 : Int32)] (ctX12_pay l G a0 a0_book a0_now a0_sight a0_pad a0_can a0_fitting a0_wins a0_image a0_isKept c0_sights c0_signs c0_offs c0_offAt c0_offWho c0_lastOff c0_reason c0_acts c0_now ((c0_pad (x1).toNatClampNeg) - (65 : Int32)) (0 : Int32) hv15) gX12_oneAct_X12_pay (by decide +kernel) 0 rfl rfl rfl ⟨Nat.le_of_ble_eq_true rfl, Nat.le_of_ble_eq_true rfl⟩ ⟨Nat.le_refl _, Nat.le_refl _⟩ rfl rfl rfl [0, 2] [1] rfl rfl rfl rfl (by decide) (Nat.le_of_ble_eq_true rfl) dX12_oneAct_113 rfl rfl (fun rv15 wv15 hrv15 => ?_)
    obtain ⟨rfl, rfl⟩ := hrv15
    refine z_perm h (w2 := [(a0, .inr (12, [.ref a0_book, .ref a0_now, .int c0_sights, .ref a0_sight, .int c0_signs, .ref a0_pad, .int c0_offs, .int c0_offAt, .int c0_offWho, .int c0_lastOff, .int c0_reason, .int c0_acts, .ref a0_can, .ref a0_fitting, .ref a0_wins, .ref a0_image, .ref a0_isKept])), (a0_pad, .inl (G.2.1, 60, .inl c0_pad)), (a0_now, .inl (G.2.1, 56, .inl v15.2))]) (st := [.int v15.1]) [1, 0, 2] rfl rfl ?_
    have hf := Option.some.inj hf
    subst hf
    exact hret _ _ _ _ dX12_oneAct_116 ⟨rfl, rfl⟩
  have hf := ite_f hf c14
  by_cases c16 : (c0_pad ((x1 + (1 : Int32))).toNatClampNeg) = (115 : Int32)
  · have hf := ite_t hf c16
    refine z_lookIn h (off := 104) (tgt := 124) dX12_oneAct_20 (115 : Int32) c16 (by decide) (by decide) (by decide) ?_
    refine z_aload_n h dX12_oneAct_124 2 rfl rfl ?_
    refine z_iload_n h dX12_oneAct_125 1 rfl rfl ?_
    refine z_iconst h (v := (2 : Int32)) dX12_oneAct_126 (by decide) rfl ?_
    obtain ⟨v17, hv17, hf⟩ := bd_some hf
    refine z_callV h (np := 2) (st := []) (wr := [(a0_pad, .inl (G.2.1, 60, .inl c0_pad))]) [.int ((c0_pad (x1).toNatClampNeg) - (65 : Int32)), .int (2 : Int32)] (ctX12_pay l G a0 a0_book a0_now a0_sight a0_pad a0_can a0_fitting a0_wins a0_image a0_isKept c0_sights c0_signs c0_offs c0_offAt c0_offWho c0_lastOff c0_reason c0_acts c0_now ((c0_pad (x1).toNatClampNeg) - (65 : Int32)) (2 : Int32) hv17) gX12_oneAct_X12_pay (by decide +kernel) 0 rfl rfl rfl ⟨Nat.le_of_ble_eq_true rfl, Nat.le_of_ble_eq_true rfl⟩ ⟨Nat.le_refl _, Nat.le_refl _⟩ rfl rfl rfl [0, 2] [1] rfl rfl rfl rfl (by decide) (Nat.le_of_ble_eq_true rfl) dX12_oneAct_127 rfl rfl (fun rv17 wv17 hrv17 => ?_)
    obtain ⟨rfl, rfl⟩ := hrv17
    refine z_perm h (w2 := [(a0, .inr (12, [.ref a0_book, .ref a0_now, .int c0_sights, .ref a0_sight, .int c0_signs, .ref a0_pad, .int c0_offs, .int c0_offAt, .int c0_offWho, .int c0_lastOff, .int c0_reason, .int c0_acts, .ref a0_can, .ref a0_fitting, .ref a0_wins, .ref a0_image, .ref a0_isKept])), (a0_pad, .inl (G.2.1, 60, .inl c0_pad)), (a0_now, .inl (G.2.1, 56, .inl v17.2))]) (st := [.int v17.1]) [1, 0, 2] rfl rfl ?_
    have hf := Option.some.inj hf
    subst hf
    exact hret _ _ _ _ dX12_oneAct_130 ⟨rfl, rfl⟩
  have hf := ite_f hf c16
  by_cases c18 : (c0_pad ((x1 + (1 : Int32))).toNatClampNeg) = (124 : Int32)
  · have hf := ite_t hf c18
    refine z_lookIn h (off := 134) (tgt := 154) dX12_oneAct_20 (124 : Int32) c18 (by decide) (by decide) (by decide) ?_
    refine z_aload_n h dX12_oneAct_154 2 rfl rfl ?_
    refine z_iload_n h dX12_oneAct_155 1 rfl rfl ?_
    obtain ⟨v19, hv19, hf⟩ := bd_some hf
    refine z_callV h (np := 1) (st := []) (wr := [(a0_pad, .inl (G.2.1, 60, .inl c0_pad))]) [.int ((c0_pad (x1).toNatClampNeg) - (65 : Int32))] (ctX12_letGo l G a0 a0_book a0_now a0_sight a0_pad a0_can a0_fitting a0_wins a0_image a0_isKept c0_sights c0_signs c0_offs c0_offAt c0_offWho c0_lastOff c0_reason c0_acts c0_now ((c0_pad (x1).toNatClampNeg) - (65 : Int32)) hv19) gX12_oneAct_X12_letGo (by decide +kernel) 0 rfl rfl rfl ⟨Nat.le_of_ble_eq_true rfl, Nat.le_of_ble_eq_true rfl⟩ ⟨Nat.le_refl _, Nat.le_refl _⟩ rfl rfl rfl [0, 2] [1] rfl rfl rfl rfl (by decide) (Nat.le_of_ble_eq_true rfl) dX12_oneAct_156 rfl rfl (fun rv19 wv19 hrv19 => ?_)
    obtain ⟨rfl, rfl⟩ := hrv19
    refine z_perm h (w2 := [(a0, .inr (12, [.ref a0_book, .ref a0_now, .int c0_sights, .ref a0_sight, .int c0_signs, .ref a0_pad, .int c0_offs, .int c0_offAt, .int c0_offWho, .int c0_lastOff, .int c0_reason, .int c0_acts, .ref a0_can, .ref a0_fitting, .ref a0_wins, .ref a0_image, .ref a0_isKept])), (a0_pad, .inl (G.2.1, 60, .inl c0_pad)), (a0_now, .inl (G.2.1, 56, .inl v19.2))]) (st := [.int v19.1]) [1, 0, 2] rfl rfl ?_
    have hf := Option.some.inj hf
    subst hf
    exact hret _ _ _ _ dX12_oneAct_159 ⟨rfl, rfl⟩
  have hf := ite_f hf c18
  refine z_lookup h (off := 140) (tgt := 160) dX12_oneAct_20 (by decide) (by show Op.lookupswitch.offset [(38, 117), (60, 83), (62, 76), (94, 111), (102, 97), (103, 90), (115, 104), (124, 134)] _ _ = _; simp only [Op.lookupswitch.offset_cons, Op.lookupswitch.offset_nil, if_neg (z_ti (a := 38) (by decide) c3), if_neg (z_ti (a := 60) (by decide) c6), if_neg (z_ti (a := 62) (by decide) c8), if_neg (z_ti (a := 94) (by decide) c10), if_neg (z_ti (a := 102) (by decide) c12), if_neg (z_ti (a := 103) (by decide) c14), if_neg (z_ti (a := 115) (by decide) c16), if_neg (z_ti (a := 124) (by decide) c18)]) (by decide) ?_
  refine z_aload_n h dX12_oneAct_160 2 rfl rfl ?_
  refine z_iload_n h dX12_oneAct_161 1 rfl rfl ?_
  refine z_iload_n h dX12_oneAct_162 0 rfl rfl ?_
  refine z_bipush h (v := (48 : Int32)) dX12_oneAct_163 (by decide) rfl ?_
  refine z_isub h dX12_oneAct_165 rfl ?_
  obtain ⟨v20, hv20, hf⟩ := bd_some hf
  refine z_callV h (np := 2) (st := []) (wr := [(a0_pad, .inl (G.2.1, 60, .inl c0_pad))]) [.int ((c0_pad (x1).toNatClampNeg) - (65 : Int32)), .int ((c0_pad ((x1 + (1 : Int32))).toNatClampNeg) - (48 : Int32))] (ctX12_state l G a0 a0_book a0_now a0_sight a0_pad a0_can a0_fitting a0_wins a0_image a0_isKept c0_sights c0_signs c0_offs c0_offAt c0_offWho c0_lastOff c0_reason c0_acts c0_now ((c0_pad (x1).toNatClampNeg) - (65 : Int32)) ((c0_pad ((x1 + (1 : Int32))).toNatClampNeg) - (48 : Int32)) hv20) gX12_oneAct_X12_state (by decide +kernel) 0 rfl rfl rfl ⟨Nat.le_of_ble_eq_true rfl, Nat.le_of_ble_eq_true rfl⟩ ⟨Nat.le_refl _, Nat.le_refl _⟩ rfl rfl rfl [0, 2] [1] rfl rfl rfl rfl (by decide) (Nat.le_of_ble_eq_true rfl) dX12_oneAct_166 rfl rfl (fun rv20 wv20 hrv20 => ?_)
  obtain ⟨rfl, rfl⟩ := hrv20
  refine z_perm h (w2 := [(a0, .inr (12, [.ref a0_book, .ref a0_now, .int c0_sights, .ref a0_sight, .int c0_signs, .ref a0_pad, .int c0_offs, .int c0_offAt, .int c0_offWho, .int c0_lastOff, .int c0_reason, .int c0_acts, .ref a0_can, .ref a0_fitting, .ref a0_wins, .ref a0_image, .ref a0_isKept])), (a0_pad, .inl (G.2.1, 60, .inl c0_pad)), (a0_now, .inl (G.2.1, 56, .inl v20.2))]) (st := [.int v20.1]) [1, 0, 2] rfl rfl ?_
  have hf := Option.some.inj hf
  subst hf
  exact hret _ _ _ _ dX12_oneAct_169 ⟨rfl, rfl⟩
def fX12_goDays_b162 (c0_signs : Int32) (c0_book : Nat → Int32) (c0_pad : Nat → Int32) (K11 : (Int32 → Int32 → Int32 → Int32 → Int32 → Int32 → (Nat → Int32) → Int32 → Option (Int32 × Int32 × Int32 × Int32 × Int32 × Int32 × Int32 × (Nat → Int32)))) (c0_offs : Int32) (c0_offAt : Int32) (c0_offWho : Int32) (c0_lastOff : Int32) (c0_reason : Int32) (c0_acts : Int32) (c0_now : Nat → Int32) (x1 : Int32) : Option (Int32 × Int32 × Int32 × Int32 × Int32 × Int32 × Int32 × (Nat → Int32)) := (K11 c0_offs c0_offAt c0_offWho c0_lastOff c0_reason (c0_acts + (1 : Int32)) c0_now x1)
def fX12_goDays_b118 (c0_signs : Int32) (c0_book : Nat → Int32) (c0_pad : Nat → Int32) (K11 : (Int32 → Int32 → Int32 → Int32 → Int32 → Int32 → (Nat → Int32) → Int32 → Option (Int32 × Int32 × Int32 × Int32 × Int32 × Int32 × Int32 × (Nat → Int32)))) (c0_offs : Int32) (c0_offAt : Int32) (c0_offWho : Int32) (c0_lastOff : Int32) (c0_reason : Int32) (c0_acts : Int32) (c0_now : Nat → Int32) (s0 : Int32) (s1 : Int32) : Option (Int32 × Int32 × Int32 × Int32 × Int32 × Int32 × Int32 × (Nat → Int32)) := (if c0_reason ≤ (0 : Int32) then (if c0_lastOff < (0 : Int32) then (fX12_goDays_b162 c0_signs c0_book c0_pad K11 c0_offs c0_offAt c0_offWho c0_lastOff c0_reason c0_acts c0_now (s0 + s1)) else (if (0 : Int32) ≤ c0_offAt then (fX12_goDays_b162 c0_signs c0_book c0_pad K11 c0_offs c0_offAt c0_offWho c0_lastOff c0_reason c0_acts c0_now (s0 + s1)) else (fX12_goDays_b162 c0_signs c0_book c0_pad K11 c0_offs c0_acts c0_lastOff c0_lastOff c0_reason c0_acts c0_now (s0 + s1)))) else (some (c0_acts, c0_offs, c0_offAt, c0_offWho, c0_lastOff, c0_reason, c0_acts, c0_now)))
def fX12_goDays_b88 (c0_signs : Int32) (c0_book : Nat → Int32) (c0_pad : Nat → Int32) (K11 : (Int32 → Int32 → Int32 → Int32 → Int32 → Int32 → (Nat → Int32) → Int32 → Option (Int32 × Int32 × Int32 × Int32 × Int32 × Int32 × Int32 × (Nat → Int32)))) (c0_offs : Int32) (c0_offAt : Int32) (c0_offWho : Int32) (c0_lastOff : Int32) (c0_reason : Int32) (c0_acts : Int32) (c0_now : Nat → Int32) (x1 : Int32) (x2 : Int32) (s1 : Int32) : Option (Int32 × Int32 × Int32 × Int32 × Int32 × Int32 × Int32 × (Nat → Int32)) := (if x2 = (0 : Int32) then gd (inb (x1 + (1 : Int32)) 60) ((if (c0_pad ((x1 + (1 : Int32))).toNatClampNeg) = (38 : Int32) then (fX12_goDays_b118 c0_signs c0_book c0_pad K11 c0_offs c0_offAt c0_offWho c0_lastOff s1 c0_acts c0_now x1 (3 : Int32)) else (fX12_goDays_b118 c0_signs c0_book c0_pad K11 c0_offs c0_offAt c0_offWho c0_lastOff s1 c0_acts c0_now x1 (2 : Int32)))) else (fX12_goDays_b118 c0_signs c0_book c0_pad K11 c0_offs c0_offAt c0_offWho c0_lastOff s1 c0_acts c0_now x1 (1 : Int32)))
def fX12_goDays_b52 (c0_signs : Int32) (c0_book : Nat → Int32) (c0_pad : Nat → Int32) (K11 : (Int32 → Int32 → Int32 → Int32 → Int32 → Int32 → (Nat → Int32) → Int32 → Option (Int32 × Int32 × Int32 × Int32 × Int32 × Int32 × Int32 × (Nat → Int32)))) (c0_offs : Int32) (c0_offAt : Int32) (c0_offWho : Int32) (c0_lastOff : Int32) (c0_reason : Int32) (c0_acts : Int32) (c0_now : Nat → Int32) (x1 : Int32) (s0 : Int32) : Option (Int32 × Int32 × Int32 × Int32 × Int32 × Int32 × Int32 × (Nat → Int32)) := gd (inb x1 60) ((if (c0_pad (x1).toNatClampNeg) = (33 : Int32) then Option.bind (fX12_gust c0_now) (fun v12 => (fX12_goDays_b88 c0_signs c0_book c0_pad K11 c0_offs c0_offAt c0_offWho c0_lastOff c0_reason c0_acts v12.2 x1 s0 v12.1)) else (if s0 = (0 : Int32) then Option.bind (fX12_oneAct c0_pad c0_now x1) (fun v10 => (fX12_goDays_b88 c0_signs c0_book c0_pad K11 c0_offs c0_offAt c0_offWho c0_lastOff c0_reason c0_acts v10.2 x1 s0 v10.1)) else Option.bind (fX12_endHour c0_offs c0_lastOff c0_now) (fun v11 => (fX12_goDays_b88 c0_signs c0_book c0_pad K11 v11.2.1 c0_offAt c0_offWho v11.2.2.1 c0_reason c0_acts v11.2.2.2 x1 s0 v11.1)))))
def fX12_goDays_b47 (c0_signs : Int32) (c0_book : Nat → Int32) (c0_pad : Nat → Int32) (K11 : (Int32 → Int32 → Int32 → Int32 → Int32 → Int32 → (Nat → Int32) → Int32 → Option (Int32 × Int32 × Int32 × Int32 × Int32 × Int32 × Int32 × (Nat → Int32)))) (c0_offs : Int32) (c0_offAt : Int32) (c0_offWho : Int32) (c0_lastOff : Int32) (c0_reason : Int32) (c0_acts : Int32) (c0_now : Nat → Int32) (x1 : Int32) : Option (Int32 × Int32 × Int32 × Int32 × Int32 × Int32 × Int32 × (Nat → Int32)) := (fX12_goDays_b52 c0_signs c0_book c0_pad K11 c0_offs c0_offAt c0_offWho c0_lastOff c0_reason c0_acts c0_now x1 (1 : Int32))
def fX12_goDays_L11 (c0_signs : Int32) (c0_book : Nat → Int32) (c0_pad : Nat → Int32)  : Nat → Int32 → Int32 → Int32 → Int32 → Int32 → Int32 → (Nat → Int32) → Int32 → Option (Int32 × Int32 × Int32 × Int32 × Int32 × Int32 × Int32 × (Nat → Int32))
  | 0, _, _, _, _, _, _, _, _ => none
  | n + 1, c0_offs, c0_offAt, c0_offWho, c0_lastOff, c0_reason, c0_acts, c0_now, x1 => (if c0_signs ≤ x1 then (some ((-6 : Int32), c0_offs, c0_offAt, c0_offWho, c0_lastOff, c0_reason, c0_acts, c0_now)) else gd (inb x1 60) ((if (c0_pad (x1).toNatClampNeg) = (33 : Int32) then (fX12_goDays_b47 c0_signs c0_book c0_pad (fX12_goDays_L11 c0_signs c0_book c0_pad  n) c0_offs c0_offAt c0_offWho (-6 : Int32) c0_reason c0_acts c0_now x1) else gd (inb x1 60) ((if (c0_pad (x1).toNatClampNeg) = (46 : Int32) then (fX12_goDays_b47 c0_signs c0_book c0_pad (fX12_goDays_L11 c0_signs c0_book c0_pad  n) c0_offs c0_offAt c0_offWho (-6 : Int32) c0_reason c0_acts c0_now x1) else (fX12_goDays_b52 c0_signs c0_book c0_pad (fX12_goDays_L11 c0_signs c0_book c0_pad  n) c0_offs c0_offAt c0_offWho (-6 : Int32) c0_reason c0_acts c0_now x1 (0 : Int32)))))))
def fX12_goDays (c0_signs : Int32) (c0_offs : Int32) (c0_offAt : Int32) (c0_offWho : Int32) (c0_lastOff : Int32) (c0_reason : Int32) (c0_acts : Int32) (c0_book : Nat → Int32) (c0_now : Nat → Int32) (c0_pad : Nat → Int32)  : Option (Int32 × Int32 × Int32 × Int32 × Int32 × Int32 × Int32 × (Nat → Int32)) := Option.bind (fX12_asNow c0_offs c0_offAt c0_offWho c0_lastOff c0_book c0_now) (fun v18 => (fX12_goDays_L11 c0_signs c0_book c0_pad  zF v18.1 v18.2.1 v18.2.2.1 v18.2.2.2.1 c0_reason (0 : Int32) v18.2.2.2.2 (0 : Int32)))
abbrev rmX12_goDays : Room := { frames := 4, cells := 0, slots := 0, locals := 87 }
set_option maxRecDepth 100000 in
set_option maxHeartbeats 4000000 in
theorem ctX12_goDays (l : Launch) (G : zG) (a0 a0_book a0_now a0_sight a0_pad a0_can a0_fitting a0_wins a0_image a0_isKept : Nat) (c0_sights : Int32) (c0_signs : Int32) (c0_offs : Int32) (c0_offAt : Int32) (c0_offWho : Int32) (c0_lastOff : Int32) (c0_reason : Int32) (c0_acts : Int32) (c0_book : Nat → Int32) (c0_now : Nat → Int32) (c0_pad : Nat → Int32)  {R : Int32 × Int32 × Int32 × Int32 × Int32 × Int32 × Int32 × (Nat → Int32)} (hf : fX12_goDays c0_signs c0_offs c0_offAt c0_offWho c0_lastOff c0_reason c0_acts c0_book c0_now c0_pad = some R) : zCt l yX12_goDays wsX12_goDays rmX12_goDays G [(a0, .inr (12, [.ref a0_book, .ref a0_now, .int c0_sights, .ref a0_sight, .int c0_signs, .ref a0_pad, .int c0_offs, .int c0_offAt, .int c0_offWho, .int c0_lastOff, .int c0_reason, .int c0_acts, .ref a0_can, .ref a0_fitting, .ref a0_wins, .ref a0_image, .ref a0_isKept])), (a0_book, .inl (G.2.1, 56, .inl c0_book)), (a0_now, .inl (G.2.1, 56, .inl c0_now)), (a0_pad, .inl (G.2.1, 60, .inl c0_pad))] [.ref a0] (fun v w => v = some (.int (R.1)) ∧ w = [(a0, .inr (12, [.ref a0_book, .ref a0_now, .int c0_sights, .ref a0_sight, .int c0_signs, .ref a0_pad, .int (R.2.1), .int (R.2.2.1), .int (R.2.2.2.1), .int (R.2.2.2.2.1), .int (R.2.2.2.2.2.1), .int (R.2.2.2.2.2.2.1), .ref a0_can, .ref a0_fitting, .ref a0_wins, .ref a0_image, .ref a0_isKept])), (a0_book, .inl (G.2.1, 56, .inl c0_book)), (a0_now, .inl (G.2.1, 56, .inl (R.2.2.2.2.2.2.2))), (a0_pad, .inl (G.2.1, 60, .inl c0_pad))]) := by
  refine zMkI (own := RX12) false (by decide) (by decide +kernel) rfl rfl (Nat.le_of_ble_eq_true rfl) ?_
  intro Z h hret
  have hL11 : ∀ (n11 : Nat) (c0_offs : Int32) (c0_offAt : Int32) (c0_offWho : Int32) (c0_lastOff : Int32) (c0_reason : Int32) (c0_acts : Int32) (c0_now : Nat → Int32) (x1 : Int32), fX12_goDays_L11 c0_signs c0_book c0_pad  n11 c0_offs c0_offAt c0_offWho c0_lastOff c0_reason c0_acts c0_now x1 = some R → Z 0 0 [(a0, .inr (12, [.ref a0_book, .ref a0_now, .int c0_sights, .ref a0_sight, .int c0_signs, .ref a0_pad, .int c0_offs, .int c0_offAt, .int c0_offWho, .int c0_lastOff, .int c0_reason, .int c0_acts, .ref a0_can, .ref a0_fitting, .ref a0_wins, .ref a0_image, .ref a0_isKept])), (a0_book, .inl (G.2.1, 56, .inl c0_book)), (a0_now, .inl (G.2.1, 56, .inl c0_now)), (a0_pad, .inl (G.2.1, 60, .inl c0_pad))] [(0, .ref a0), (1, .int x1)] 11 [] := by
    intro n11
    induction n11 with
    | zero =>
      intro c0_offs c0_offAt c0_offWho c0_lastOff c0_reason c0_acts c0_now x1 hf
      rw [fX12_goDays_L11] at hf
      cases hf
    | succ n11 ih11 =>
      have hB162 : ∀ (c0_offs : Int32) (c0_offAt : Int32) (c0_offWho : Int32) (c0_lastOff : Int32) (c0_reason : Int32) (c0_acts : Int32) (c0_now : Nat → Int32) (x1 : Int32), fX12_goDays_b162 c0_signs c0_book c0_pad (fX12_goDays_L11 c0_signs c0_book c0_pad  n11) c0_offs c0_offAt c0_offWho c0_lastOff c0_reason c0_acts c0_now x1 = some R → Z 0 0 [(a0, .inr (12, [.ref a0_book, .ref a0_now, .int c0_sights, .ref a0_sight, .int c0_signs, .ref a0_pad, .int c0_offs, .int c0_offAt, .int c0_offWho, .int c0_lastOff, .int c0_reason, .int c0_acts, .ref a0_can, .ref a0_fitting, .ref a0_wins, .ref a0_image, .ref a0_isKept])), (a0_book, .inl (G.2.1, 56, .inl c0_book)), (a0_now, .inl (G.2.1, 56, .inl c0_now)), (a0_pad, .inl (G.2.1, 60, .inl c0_pad))] [(0, .ref a0), (1, .int x1)] 162 [] := by
        intro c0_offs c0_offAt c0_offWho c0_lastOff c0_reason c0_acts c0_now x1 hf
        rw [fX12_goDays_b162] at hf
        refine z_aload_n h dX12_goDays_162 0 rfl rfl ?_
        refine z_dup h dX12_goDays_163 rfl rfl ?_
        refine z_get h (C := RX12) (T := TX12) (N := 17) (v := .int c0_acts) 0 rfl rfl 11 (by decide) (by decide +kernel) (by decide +kernel) rfl dX12_goDays_164 rfl ?_
        refine z_iconst h (v := (1 : Int32)) dX12_goDays_167 (by decide) rfl ?_
        refine z_iadd h dX12_goDays_168 rfl ?_
        refine z_put h (C := RX12) (T := TX12) (N := 17) 0 rfl rfl 11 (by decide) (by decide +kernel) (by decide +kernel) tyX12 tyX12_ok nmX12 (w2 := [(a0, .inr (12, [.ref a0_book, .ref a0_now, .int c0_sights, .ref a0_sight, .int c0_signs, .ref a0_pad, .int c0_offs, .int c0_offAt, .int c0_offWho, .int c0_lastOff, .int c0_reason, .int (c0_acts + (1 : Int32)), .ref a0_can, .ref a0_fitting, .ref a0_wins, .ref a0_image, .ref a0_isKept])), (a0_book, .inl (G.2.1, 56, .inl c0_book)), (a0_now, .inl (G.2.1, 56, .inl c0_now)), (a0_pad, .inl (G.2.1, 60, .inl c0_pad))]) rfl rfl rfl (Nat.le_of_ble_eq_true rfl) rfl dX12_goDays_169 rfl ?_
        refine z_goto h (tgt := 11) dX12_goDays_172 (by decide) ?_
        exact ih11 c0_offs c0_offAt c0_offWho c0_lastOff c0_reason (c0_acts + (1 : Int32)) c0_now x1 hf
      have hB118 : ∀ (c0_offs : Int32) (c0_offAt : Int32) (c0_offWho : Int32) (c0_lastOff : Int32) (c0_reason : Int32) (c0_acts : Int32) (c0_now : Nat → Int32) (s0 : Int32) (s1 : Int32), fX12_goDays_b118 c0_signs c0_book c0_pad (fX12_goDays_L11 c0_signs c0_book c0_pad  n11) c0_offs c0_offAt c0_offWho c0_lastOff c0_reason c0_acts c0_now s0 s1 = some R → Z 0 0 [(a0, .inr (12, [.ref a0_book, .ref a0_now, .int c0_sights, .ref a0_sight, .int c0_signs, .ref a0_pad, .int c0_offs, .int c0_offAt, .int c0_offWho, .int c0_lastOff, .int c0_reason, .int c0_acts, .ref a0_can, .ref a0_fitting, .ref a0_wins, .ref a0_image, .ref a0_isKept])), (a0_book, .inl (G.2.1, 56, .inl c0_book)), (a0_now, .inl (G.2.1, 56, .inl c0_now)), (a0_pad, .inl (G.2.1, 60, .inl c0_pad))] [(0, .ref a0)] 118 [.int s1, .int s0] := by
        intro c0_offs c0_offAt c0_offWho c0_lastOff c0_reason c0_acts c0_now s0 s1 hf
        rw [fX12_goDays_b118] at hf
        refine z_iadd h dX12_goDays_118 rfl ?_
        refine z_istore_n h (lv2 := [(1, .int (s0 + s1)), (0, .ref a0)]) dX12_goDays_119 (by decide) rfl rfl ?_
        refine z_aload_n h dX12_goDays_120 1 rfl rfl ?_
        refine z_get h (C := RX12) (T := TX12) (N := 17) (v := .int c0_reason) 0 rfl rfl 10 (by decide) (by decide +kernel) (by decide +kernel) rfl dX12_goDays_121 rfl ?_
        refine z_if_le h (tgt := 132) dX12_goDays_124 (by decide) rfl (fun c1 => ?_) (fun c1 => ?_)
        · have hf := ite_t hf c1
          refine z_aload_n h dX12_goDays_132 1 rfl rfl ?_
          refine z_get h (C := RX12) (T := TX12) (N := 17) (v := .int c0_lastOff) 0 rfl rfl 9 (by decide) (by decide +kernel) (by decide +kernel) rfl dX12_goDays_133 rfl ?_
          refine z_if_lt h (tgt := 162) dX12_goDays_136 (by decide) rfl (fun c2 => ?_) (fun c2 => ?_)
          · have hf := ite_t hf c2
            refine z_locs h (lv2 := [(0, .ref a0), (1, .int (s0 + s1))]) [1, 0] rfl ?_
            exact hB162 c0_offs c0_offAt c0_offWho c0_lastOff c0_reason c0_acts c0_now (s0 + s1) hf
          have hf := ite_f hf c2
          refine z_aload_n h dX12_goDays_139 1 rfl rfl ?_
          refine z_get h (C := RX12) (T := TX12) (N := 17) (v := .int c0_offAt) 0 rfl rfl 7 (by decide) (by decide +kernel) (by decide +kernel) rfl dX12_goDays_140 rfl ?_
          refine z_if_ge h (tgt := 162) dX12_goDays_143 (by decide) rfl (fun c3 => ?_) (fun c3 => ?_)
          · have hf := ite_t hf c3
            refine z_locs h (lv2 := [(0, .ref a0), (1, .int (s0 + s1))]) [1, 0] rfl ?_
            exact hB162 c0_offs c0_offAt c0_offWho c0_lastOff c0_reason c0_acts c0_now (s0 + s1) hf
          have hf := ite_f hf c3
          refine z_aload_n h dX12_goDays_146 1 rfl rfl ?_
          refine z_aload_n h dX12_goDays_147 1 rfl rfl ?_
          refine z_get h (C := RX12) (T := TX12) (N := 17) (v := .int c0_acts) 0 rfl rfl 11 (by decide) (by decide +kernel) (by decide +kernel) rfl dX12_goDays_148 rfl ?_
          refine z_put h (C := RX12) (T := TX12) (N := 17) 0 rfl rfl 7 (by decide) (by decide +kernel) (by decide +kernel) tyX12 tyX12_ok nmX12 (w2 := [(a0, .inr (12, [.ref a0_book, .ref a0_now, .int c0_sights, .ref a0_sight, .int c0_signs, .ref a0_pad, .int c0_offs, .int c0_acts, .int c0_offWho, .int c0_lastOff, .int c0_reason, .int c0_acts, .ref a0_can, .ref a0_fitting, .ref a0_wins, .ref a0_image, .ref a0_isKept])), (a0_book, .inl (G.2.1, 56, .inl c0_book)), (a0_now, .inl (G.2.1, 56, .inl c0_now)), (a0_pad, .inl (G.2.1, 60, .inl c0_pad))]) rfl rfl rfl (Nat.le_of_ble_eq_true rfl) rfl dX12_goDays_151 rfl ?_
          refine z_aload_n h dX12_goDays_154 1 rfl rfl ?_
          refine z_aload_n h dX12_goDays_155 1 rfl rfl ?_
          refine z_get h (C := RX12) (T := TX12) (N := 17) (v := .int c0_lastOff) 0 rfl rfl 9 (by decide) (by decide +kernel) (by decide +kernel) rfl dX12_goDays_156 rfl ?_
          refine z_put h (C := RX12) (T := TX12) (N := 17) 0 rfl rfl 8 (by decide) (by decide +kernel) (by decide +kernel) tyX12 tyX12_ok nmX12 (w2 := [(a0, .inr (12, [.ref a0_book, .ref a0_now, .int c0_sights, .ref a0_sight, .int c0_signs, .ref a0_pad, .int c0_offs, .int c0_acts, .int c0_lastOff, .int c0_lastOff, .int c0_reason, .int c0_acts, .ref a0_can, .ref a0_fitting, .ref a0_wins, .ref a0_image, .ref a0_isKept])), (a0_book, .inl (G.2.1, 56, .inl c0_book)), (a0_now, .inl (G.2.1, 56, .inl c0_now)), (a0_pad, .inl (G.2.1, 60, .inl c0_pad))]) rfl rfl rfl (Nat.le_of_ble_eq_true rfl) rfl dX12_goDays_159 rfl ?_
          refine z_locs h (lv2 := [(0, .ref a0), (1, .int (s0 + s1))]) [1, 0] rfl ?_
          exact hB162 c0_offs c0_acts c0_lastOff c0_lastOff c0_reason c0_acts c0_now (s0 + s1) hf
        have hf := ite_f hf c1
        refine z_aload_n h dX12_goDays_127 1 rfl rfl ?_
        refine z_get h (C := RX12) (T := TX12) (N := 17) (v := .int c0_acts) 0 rfl rfl 11 (by decide) (by decide +kernel) (by decide +kernel) rfl dX12_goDays_128 rfl ?_
        have hf := Option.some.inj hf
        subst hf
        exact hret _ _ _ _ dX12_goDays_131 ⟨rfl, rfl⟩
      have hB88 : ∀ (c0_offs : Int32) (c0_offAt : Int32) (c0_offWho : Int32) (c0_lastOff : Int32) (c0_reason : Int32) (c0_acts : Int32) (c0_now : Nat → Int32) (x1 : Int32) (x2 : Int32) (s1 : Int32), fX12_goDays_b88 c0_signs c0_book c0_pad (fX12_goDays_L11 c0_signs c0_book c0_pad  n11) c0_offs c0_offAt c0_offWho c0_lastOff c0_reason c0_acts c0_now x1 x2 s1 = some R → Z 0 0 [(a0, .inr (12, [.ref a0_book, .ref a0_now, .int c0_sights, .ref a0_sight, .int c0_signs, .ref a0_pad, .int c0_offs, .int c0_offAt, .int c0_offWho, .int c0_lastOff, .int c0_reason, .int c0_acts, .ref a0_can, .ref a0_fitting, .ref a0_wins, .ref a0_image, .ref a0_isKept])), (a0_book, .inl (G.2.1, 56, .inl c0_book)), (a0_now, .inl (G.2.1, 56, .inl c0_now)), (a0_pad, .inl (G.2.1, 60, .inl c0_pad))] [(0, .ref a0), (1, .int x1), (2, .int x2)] 88 [.int s1, .ref a0] := by
        intro c0_offs c0_offAt c0_offWho c0_lastOff c0_reason c0_acts c0_now x1 x2 s1 hf
        rw [fX12_goDays_b88] at hf
        refine z_put h (C := RX12) (T := TX12) (N := 17) 0 rfl rfl 10 (by decide) (by decide +kernel) (by decide +kernel) tyX12 tyX12_ok nmX12 (w2 := [(a0, .inr (12, [.ref a0_book, .ref a0_now, .int c0_sights, .ref a0_sight, .int c0_signs, .ref a0_pad, .int c0_offs, .int c0_offAt, .int c0_offWho, .int c0_lastOff, .int s1, .int c0_acts, .ref a0_can, .ref a0_fitting, .ref a0_wins, .ref a0_image, .ref a0_isKept])), (a0_book, .inl (G.2.1, 56, .inl c0_book)), (a0_now, .inl (G.2.1, 56, .inl c0_now)), (a0_pad, .inl (G.2.1, 60, .inl c0_pad))]) rfl rfl rfl (Nat.le_of_ble_eq_true rfl) rfl dX12_goDays_88 rfl ?_
        refine z_iload_n h dX12_goDays_91 1 rfl rfl ?_
        refine z_iload_n h dX12_goDays_92 2 rfl rfl ?_
        refine z_if_eq h (tgt := 100) dX12_goDays_93 (by decide) rfl (fun c4 => ?_) (fun c4 => ?_)
        · have hf := ite_t hf c4
          refine z_aload_n h dX12_goDays_100 0 rfl rfl ?_
          refine z_get h (C := RX12) (T := TX12) (N := 17) (v := .ref a0_pad) 0 rfl rfl 5 (by decide) (by decide +kernel) (by decide +kernel) rfl dX12_goDays_101 rfl ?_
          refine z_iload_n h dX12_goDays_104 1 rfl rfl ?_
          refine z_iconst h (v := (1 : Int32)) dX12_goDays_105 (by decide) rfl ?_
          refine z_iadd h dX12_goDays_106 rfl ?_
          obtain ⟨hg5, hf⟩ := gd_some hf
          refine z_iald h 3 rfl rfl hg5 dX12_goDays_107 rfl ?_
          refine z_bipush h (v := (38 : Int32)) dX12_goDays_108 (by decide) rfl ?_
          refine z_icmp_ne h (tgt := 117) dX12_goDays_110 (by decide) rfl (fun c6 => ?_) (fun c6 => ?_)
          · have hf := ite_f hf c6
            refine z_iconst h (v := (2 : Int32)) dX12_goDays_117 (by decide) rfl ?_
            refine z_locs h (lv2 := [(0, .ref a0)]) [0] rfl ?_
            exact hB118 c0_offs c0_offAt c0_offWho c0_lastOff s1 c0_acts c0_now x1 (2 : Int32) hf
          have hf := ite_t hf c6
          refine z_iconst h (v := (3 : Int32)) dX12_goDays_113 (by decide) rfl ?_
          refine z_goto h (tgt := 118) dX12_goDays_114 (by decide) ?_
          refine z_locs h (lv2 := [(0, .ref a0)]) [0] rfl ?_
          exact hB118 c0_offs c0_offAt c0_offWho c0_lastOff s1 c0_acts c0_now x1 (3 : Int32) hf
        have hf := ite_f hf c4
        refine z_iconst h (v := (1 : Int32)) dX12_goDays_96 (by decide) rfl ?_
        refine z_goto h (tgt := 118) dX12_goDays_97 (by decide) ?_
        refine z_locs h (lv2 := [(0, .ref a0)]) [0] rfl ?_
        exact hB118 c0_offs c0_offAt c0_offWho c0_lastOff s1 c0_acts c0_now x1 (1 : Int32) hf
      have hB52 : ∀ (c0_offs : Int32) (c0_offAt : Int32) (c0_offWho : Int32) (c0_lastOff : Int32) (c0_reason : Int32) (c0_acts : Int32) (c0_now : Nat → Int32) (x1 : Int32) (s0 : Int32), fX12_goDays_b52 c0_signs c0_book c0_pad (fX12_goDays_L11 c0_signs c0_book c0_pad  n11) c0_offs c0_offAt c0_offWho c0_lastOff c0_reason c0_acts c0_now x1 s0 = some R → Z 0 0 [(a0, .inr (12, [.ref a0_book, .ref a0_now, .int c0_sights, .ref a0_sight, .int c0_signs, .ref a0_pad, .int c0_offs, .int c0_offAt, .int c0_offWho, .int c0_lastOff, .int c0_reason, .int c0_acts, .ref a0_can, .ref a0_fitting, .ref a0_wins, .ref a0_image, .ref a0_isKept])), (a0_book, .inl (G.2.1, 56, .inl c0_book)), (a0_now, .inl (G.2.1, 56, .inl c0_now)), (a0_pad, .inl (G.2.1, 60, .inl c0_pad))] [(0, .ref a0), (1, .int x1)] 52 [.int s0] := by
        intro c0_offs c0_offAt c0_offWho c0_lastOff c0_reason c0_acts c0_now x1 s0 hf
        rw [fX12_goDays_b52] at hf
        refine z_istore_n h (lv2 := [(2, .int s0), (0, .ref a0), (1, .int x1)]) dX12_goDays_52 (by decide) rfl rfl ?_
        refine z_aload_n h dX12_goDays_53 1 rfl rfl ?_
        refine z_aload_n h dX12_goDays_54 1 rfl rfl ?_
        refine z_get h (C := RX12) (T := TX12) (N := 17) (v := .ref a0_pad) 0 rfl rfl 5 (by decide) (by decide +kernel) (by decide +kernel) rfl dX12_goDays_55 rfl ?_
        refine z_iload_n h dX12_goDays_58 2 rfl rfl ?_
        obtain ⟨hg7, hf⟩ := gd_some hf
        refine z_iald h 3 rfl rfl hg7 dX12_goDays_59 rfl ?_
        refine z_bipush h (v := (33 : Int32)) dX12_goDays_60 (by decide) rfl ?_
        refine z_icmp_ne h (tgt := 72) dX12_goDays_62 (by decide) rfl (fun c8 => ?_) (fun c8 => ?_)
        · have hf := ite_f hf c8
          refine z_iload_n h dX12_goDays_72 0 rfl rfl ?_
          refine z_if_eq h (tgt := 83) dX12_goDays_73 (by decide) rfl (fun c9 => ?_) (fun c9 => ?_)
          · have hf := ite_t hf c9
            refine z_aload_n h dX12_goDays_83 1 rfl rfl ?_
            refine z_iload_n h dX12_goDays_84 2 rfl rfl ?_
            obtain ⟨v10, hv10, hf⟩ := bd_some hf
            refine z_callV h (np := 1) (st := [.ref a0]) (wr := [(a0_book, .inl (G.2.1, 56, .inl c0_book))]) [.int x1] (ctX12_oneAct l G a0 a0_book a0_now a0_sight a0_pad a0_can a0_fitting a0_wins a0_image a0_isKept c0_sights c0_signs c0_offs c0_offAt c0_offWho c0_lastOff c0_reason c0_acts c0_pad c0_now x1 hv10) gX12_goDays_X12_oneAct (by decide +kernel) 0 rfl rfl rfl ⟨Nat.le_of_ble_eq_true rfl, Nat.le_of_ble_eq_true rfl⟩ ⟨Nat.le_refl _, Nat.le_refl _⟩ rfl rfl rfl [0, 3, 2] [1] rfl rfl rfl rfl (by decide) (Nat.le_of_ble_eq_true rfl) dX12_goDays_85 rfl rfl (fun rv10 wv10 hrv10 => ?_)
            obtain ⟨rfl, rfl⟩ := hrv10
            refine z_perm h (w2 := [(a0, .inr (12, [.ref a0_book, .ref a0_now, .int c0_sights, .ref a0_sight, .int c0_signs, .ref a0_pad, .int c0_offs, .int c0_offAt, .int c0_offWho, .int c0_lastOff, .int c0_reason, .int c0_acts, .ref a0_can, .ref a0_fitting, .ref a0_wins, .ref a0_image, .ref a0_isKept])), (a0_book, .inl (G.2.1, 56, .inl c0_book)), (a0_now, .inl (G.2.1, 56, .inl v10.2)), (a0_pad, .inl (G.2.1, 60, .inl c0_pad))]) (st := [.int v10.1, .ref a0]) [1, 0, 3, 2] rfl rfl ?_
            refine z_locs h (lv2 := [(0, .ref a0), (1, .int x1), (2, .int s0)]) [1, 2, 0] rfl ?_
            exact hB88 c0_offs c0_offAt c0_offWho c0_lastOff c0_reason c0_acts v10.2 x1 s0 v10.1 hf
          have hf := ite_f hf c9
          refine z_aload_n h dX12_goDays_76 1 rfl rfl ?_
          obtain ⟨v11, hv11, hf⟩ := bd_some hf
          refine z_callV h (np := 0) (st := [.ref a0]) (wr := [(a0_book, .inl (G.2.1, 56, .inl c0_book)), (a0_pad, .inl (G.2.1, 60, .inl c0_pad))]) [] (ctX12_endHour l G a0 a0_book a0_now a0_sight a0_pad a0_can a0_fitting a0_wins a0_image a0_isKept c0_sights c0_signs c0_offs c0_offAt c0_offWho c0_lastOff c0_reason c0_acts c0_now hv11) gX12_goDays_X12_endHour (by decide +kernel) 0 rfl rfl rfl ⟨Nat.le_of_ble_eq_true rfl, Nat.le_of_ble_eq_true rfl⟩ ⟨Nat.le_refl _, Nat.le_refl _⟩ rfl rfl rfl [0, 2] [1, 3] rfl rfl rfl rfl (by decide) (Nat.le_of_ble_eq_true rfl) dX12_goDays_77 rfl rfl (fun rv11 wv11 hrv11 => ?_)
          obtain ⟨rfl, rfl⟩ := hrv11
          refine z_perm h (w2 := [(a0, .inr (12, [.ref a0_book, .ref a0_now, .int c0_sights, .ref a0_sight, .int c0_signs, .ref a0_pad, .int v11.2.1, .int c0_offAt, .int c0_offWho, .int v11.2.2.1, .int c0_reason, .int c0_acts, .ref a0_can, .ref a0_fitting, .ref a0_wins, .ref a0_image, .ref a0_isKept])), (a0_book, .inl (G.2.1, 56, .inl c0_book)), (a0_now, .inl (G.2.1, 56, .inl v11.2.2.2)), (a0_pad, .inl (G.2.1, 60, .inl c0_pad))]) (st := [.int v11.1, .ref a0]) [2, 0, 3, 1] rfl rfl ?_
          refine z_goto h (tgt := 88) dX12_goDays_80 (by decide) ?_
          refine z_locs h (lv2 := [(0, .ref a0), (1, .int x1), (2, .int s0)]) [1, 2, 0] rfl ?_
          exact hB88 v11.2.1 c0_offAt c0_offWho v11.2.2.1 c0_reason c0_acts v11.2.2.2 x1 s0 v11.1 hf
        have hf := ite_t hf c8
        refine z_aload_n h dX12_goDays_65 1 rfl rfl ?_
        obtain ⟨v12, hv12, hf⟩ := bd_some hf
        refine z_callV h (np := 0) (st := [.ref a0]) (wr := [(a0_book, .inl (G.2.1, 56, .inl c0_book)), (a0_pad, .inl (G.2.1, 60, .inl c0_pad))]) [] (ctX12_gust l G a0 a0_book a0_now a0_sight a0_pad a0_can a0_fitting a0_wins a0_image a0_isKept c0_sights c0_signs c0_offs c0_offAt c0_offWho c0_lastOff c0_reason c0_acts c0_now hv12) gX12_goDays_X12_gust (by decide +kernel) 0 rfl rfl rfl ⟨Nat.le_of_ble_eq_true rfl, Nat.le_of_ble_eq_true rfl⟩ ⟨Nat.le_refl _, Nat.le_refl _⟩ rfl rfl rfl [0, 2] [1, 3] rfl rfl rfl rfl (by decide) (Nat.le_of_ble_eq_true rfl) dX12_goDays_66 rfl rfl (fun rv12 wv12 hrv12 => ?_)
        obtain ⟨rfl, rfl⟩ := hrv12
        refine z_perm h (w2 := [(a0, .inr (12, [.ref a0_book, .ref a0_now, .int c0_sights, .ref a0_sight, .int c0_signs, .ref a0_pad, .int c0_offs, .int c0_offAt, .int c0_offWho, .int c0_lastOff, .int c0_reason, .int c0_acts, .ref a0_can, .ref a0_fitting, .ref a0_wins, .ref a0_image, .ref a0_isKept])), (a0_book, .inl (G.2.1, 56, .inl c0_book)), (a0_now, .inl (G.2.1, 56, .inl v12.2)), (a0_pad, .inl (G.2.1, 60, .inl c0_pad))]) (st := [.int v12.1, .ref a0]) [2, 0, 3, 1] rfl rfl ?_
        refine z_goto h (tgt := 88) dX12_goDays_69 (by decide) ?_
        refine z_locs h (lv2 := [(0, .ref a0), (1, .int x1), (2, .int s0)]) [1, 2, 0] rfl ?_
        exact hB88 c0_offs c0_offAt c0_offWho c0_lastOff c0_reason c0_acts v12.2 x1 s0 v12.1 hf
      have hB47 : ∀ (c0_offs : Int32) (c0_offAt : Int32) (c0_offWho : Int32) (c0_lastOff : Int32) (c0_reason : Int32) (c0_acts : Int32) (c0_now : Nat → Int32) (x1 : Int32), fX12_goDays_b47 c0_signs c0_book c0_pad (fX12_goDays_L11 c0_signs c0_book c0_pad  n11) c0_offs c0_offAt c0_offWho c0_lastOff c0_reason c0_acts c0_now x1 = some R → Z 0 0 [(a0, .inr (12, [.ref a0_book, .ref a0_now, .int c0_sights, .ref a0_sight, .int c0_signs, .ref a0_pad, .int c0_offs, .int c0_offAt, .int c0_offWho, .int c0_lastOff, .int c0_reason, .int c0_acts, .ref a0_can, .ref a0_fitting, .ref a0_wins, .ref a0_image, .ref a0_isKept])), (a0_book, .inl (G.2.1, 56, .inl c0_book)), (a0_now, .inl (G.2.1, 56, .inl c0_now)), (a0_pad, .inl (G.2.1, 60, .inl c0_pad))] [(0, .ref a0), (1, .int x1)] 47 [] := by
        intro c0_offs c0_offAt c0_offWho c0_lastOff c0_reason c0_acts c0_now x1 hf
        rw [fX12_goDays_b47] at hf
        refine z_iconst h (v := (1 : Int32)) dX12_goDays_47 (by decide) rfl ?_
        refine z_goto h (tgt := 52) dX12_goDays_48 (by decide) ?_
        exact hB52 c0_offs c0_offAt c0_offWho c0_lastOff c0_reason c0_acts c0_now x1 (1 : Int32) hf
      intro c0_offs c0_offAt c0_offWho c0_lastOff c0_reason c0_acts c0_now x1 hf
      rw [fX12_goDays_L11] at hf
      refine z_iload_n h dX12_goDays_11 1 rfl rfl ?_
      refine z_aload_n h dX12_goDays_12 0 rfl rfl ?_
      refine z_get h (C := RX12) (T := TX12) (N := 17) (v := .int c0_signs) 0 rfl rfl 4 (by decide) (by decide +kernel) (by decide +kernel) rfl dX12_goDays_13 rfl ?_
      refine z_icmp_ge h (tgt := 175) dX12_goDays_16 (by decide) rfl (fun c13 => ?_) (fun c13 => ?_)
      · have hf := ite_t hf c13
        refine z_bipush h (v := (-6 : Int32)) dX12_goDays_175 (by decide) rfl ?_
        have hf := Option.some.inj hf
        subst hf
        exact hret _ _ _ _ dX12_goDays_177 ⟨rfl, rfl⟩
      have hf := ite_f hf c13
      refine z_aload_n h dX12_goDays_19 0 rfl rfl ?_
      refine z_bipush h (v := (-6 : Int32)) dX12_goDays_20 (by decide) rfl ?_
      refine z_put h (C := RX12) (T := TX12) (N := 17) 0 rfl rfl 9 (by decide) (by decide +kernel) (by decide +kernel) tyX12 tyX12_ok nmX12 (w2 := [(a0, .inr (12, [.ref a0_book, .ref a0_now, .int c0_sights, .ref a0_sight, .int c0_signs, .ref a0_pad, .int c0_offs, .int c0_offAt, .int c0_offWho, .int (-6 : Int32), .int c0_reason, .int c0_acts, .ref a0_can, .ref a0_fitting, .ref a0_wins, .ref a0_image, .ref a0_isKept])), (a0_book, .inl (G.2.1, 56, .inl c0_book)), (a0_now, .inl (G.2.1, 56, .inl c0_now)), (a0_pad, .inl (G.2.1, 60, .inl c0_pad))]) rfl rfl rfl (Nat.le_of_ble_eq_true rfl) rfl dX12_goDays_22 rfl ?_
      refine z_aload_n h dX12_goDays_25 0 rfl rfl ?_
      refine z_get h (C := RX12) (T := TX12) (N := 17) (v := .ref a0_pad) 0 rfl rfl 5 (by decide) (by decide +kernel) (by decide +kernel) rfl dX12_goDays_26 rfl ?_
      refine z_iload_n h dX12_goDays_29 1 rfl rfl ?_
      obtain ⟨hg14, hf⟩ := gd_some hf
      refine z_iald h 3 rfl rfl hg14 dX12_goDays_30 rfl ?_
      refine z_bipush h (v := (33 : Int32)) dX12_goDays_31 (by decide) rfl ?_
      refine z_icmp_eq h (tgt := 47) dX12_goDays_33 (by decide) rfl (fun c15 => ?_) (fun c15 => ?_)
      · have hf := ite_t hf c15
        exact hB47 c0_offs c0_offAt c0_offWho (-6 : Int32) c0_reason c0_acts c0_now x1 hf
      have hf := ite_f hf c15
      refine z_aload_n h dX12_goDays_36 0 rfl rfl ?_
      refine z_get h (C := RX12) (T := TX12) (N := 17) (v := .ref a0_pad) 0 rfl rfl 5 (by decide) (by decide +kernel) (by decide +kernel) rfl dX12_goDays_37 rfl ?_
      refine z_iload_n h dX12_goDays_40 1 rfl rfl ?_
      obtain ⟨hg16, hf⟩ := gd_some hf
      refine z_iald h 3 rfl rfl hg16 dX12_goDays_41 rfl ?_
      refine z_bipush h (v := (46 : Int32)) dX12_goDays_42 (by decide) rfl ?_
      refine z_icmp_ne h (tgt := 51) dX12_goDays_44 (by decide) rfl (fun c17 => ?_) (fun c17 => ?_)
      · have hf := ite_f hf c17
        refine z_iconst h (v := (0 : Int32)) dX12_goDays_51 (by decide) rfl ?_
        exact hB52 c0_offs c0_offAt c0_offWho (-6 : Int32) c0_reason c0_acts c0_now x1 (0 : Int32) hf
      have hf := ite_t hf c17
      exact hB47 c0_offs c0_offAt c0_offWho (-6 : Int32) c0_reason c0_acts c0_now x1 hf
  rw [fX12_goDays] at hf
  show Z 0 0 _ [(0, .ref a0)] 0 []
  refine z_aload_n h dX12_goDays_0 0 rfl rfl ?_
  obtain ⟨v18, hv18, hf⟩ := bd_some hf
  refine z_callV h (np := 0) (st := []) (wr := [(a0_pad, .inl (G.2.1, 60, .inl c0_pad))]) [] (ctX12_asNow l G a0 a0_book a0_now a0_sight a0_pad a0_can a0_fitting a0_wins a0_image a0_isKept c0_sights c0_signs c0_offs c0_offAt c0_offWho c0_lastOff c0_reason c0_acts c0_book c0_now hv18) gX12_goDays_X12_asNow (by decide +kernel) 0 rfl rfl rfl ⟨Nat.le_of_ble_eq_true rfl, Nat.le_of_ble_eq_true rfl⟩ ⟨Nat.le_refl _, Nat.le_refl _⟩ rfl rfl rfl [0, 1, 2] [3] rfl rfl rfl rfl (by decide) (Nat.le_of_ble_eq_true rfl) dX12_goDays_1 rfl rfl (fun rv18 wv18 hrv18 => ?_)
  obtain ⟨rfl, rfl⟩ := hrv18
  refine z_perm h (w2 := [(a0, .inr (12, [.ref a0_book, .ref a0_now, .int c0_sights, .ref a0_sight, .int c0_signs, .ref a0_pad, .int v18.1, .int v18.2.1, .int v18.2.2.1, .int v18.2.2.2.1, .int c0_reason, .int c0_acts, .ref a0_can, .ref a0_fitting, .ref a0_wins, .ref a0_image, .ref a0_isKept])), (a0_book, .inl (G.2.1, 56, .inl c0_book)), (a0_now, .inl (G.2.1, 56, .inl v18.2.2.2.2)), (a0_pad, .inl (G.2.1, 60, .inl c0_pad))]) (st := []) [1, 2, 3, 0] rfl rfl ?_
  refine z_aload_n h dX12_goDays_4 0 rfl rfl ?_
  refine z_iconst h (v := (0 : Int32)) dX12_goDays_5 (by decide) rfl ?_
  refine z_put h (C := RX12) (T := TX12) (N := 17) 0 rfl rfl 11 (by decide) (by decide +kernel) (by decide +kernel) tyX12 tyX12_ok nmX12 (w2 := [(a0, .inr (12, [.ref a0_book, .ref a0_now, .int c0_sights, .ref a0_sight, .int c0_signs, .ref a0_pad, .int v18.1, .int v18.2.1, .int v18.2.2.1, .int v18.2.2.2.1, .int c0_reason, .int (0 : Int32), .ref a0_can, .ref a0_fitting, .ref a0_wins, .ref a0_image, .ref a0_isKept])), (a0_book, .inl (G.2.1, 56, .inl c0_book)), (a0_now, .inl (G.2.1, 56, .inl v18.2.2.2.2)), (a0_pad, .inl (G.2.1, 60, .inl c0_pad))]) rfl rfl rfl (Nat.le_of_ble_eq_true rfl) rfl dX12_goDays_6 rfl ?_
  refine z_iconst h (v := (0 : Int32)) dX12_goDays_9 (by decide) rfl ?_
  refine z_istore_n h (lv2 := [(1, .int (0 : Int32)), (0, .ref a0)]) dX12_goDays_10 (by decide) rfl rfl ?_
  refine z_locs h (lv2 := [(0, .ref a0), (1, .int (0 : Int32))]) [1, 0] rfl ?_
  exact hL11 zF v18.1 v18.2.1 v18.2.2.1 v18.2.2.2.1 c0_reason (0 : Int32) v18.2.2.2.2 (0 : Int32) hf
def fX12_judge_b43 (c0_signs : Int32) (c0_pad : Nat → Int32) (c0_book : Nat → Int32) (x1 : Int32)  (c0_offs : Int32) (c0_offAt : Int32) (c0_offWho : Int32) (c0_lastOff : Int32) (c0_reason : Int32) (c0_acts : Int32) (c0_now : Nat → Int32) (s0 : Int32) : Option (Int32 × Int32 × Int32 × Int32 × Int32 × Int32 × Int32 × (Nat → Int32)) := (some (s0, c0_offs, c0_offAt, c0_offWho, c0_lastOff, c0_reason, c0_acts, c0_now))
def fX12_judge_b35 (c0_signs : Int32) (c0_pad : Nat → Int32) (c0_book : Nat → Int32) (x1 : Int32)  (c0_offs : Int32) (c0_offAt : Int32) (c0_offWho : Int32) (c0_lastOff : Int32) (c0_reason : Int32) (c0_acts : Int32) (c0_now : Nat → Int32) (x2 : Int32) : Option (Int32 × Int32 × Int32 × Int32 × Int32 × Int32 × Int32 × (Nat → Int32)) := (fX12_judge_b43 c0_signs c0_pad c0_book x1  c0_offs c0_offAt c0_offWho c0_lastOff c0_reason c0_acts c0_now x2)
def fX12_judge (c0_signs : Int32) (c0_offs : Int32) (c0_offAt : Int32) (c0_offWho : Int32) (c0_lastOff : Int32) (c0_reason : Int32) (c0_acts : Int32) (c0_pad : Nat → Int32) (c0_book : Nat → Int32) (c0_now : Nat → Int32) (x1 : Int32) : Option (Int32 × Int32 × Int32 × Int32 × Int32 × Int32 × Int32 × (Nat → Int32)) := Option.bind (fX12_in x1 (0 : Int32) (1 : Int32)) (fun v1 => (if v1 = (0 : Int32) then (some ((-2 : Int32), c0_offs, c0_offAt, c0_offWho, c0_lastOff, c0_reason, c0_acts, c0_now)) else Option.bind (fX12_faultOf c0_signs c0_pad) (fun v3 => (if v3 < (0 : Int32) then Option.bind (fX12_goDays c0_signs c0_offs c0_offAt c0_offWho c0_lastOff c0_reason c0_acts c0_book c0_now c0_pad) (fun v5 => (if v5.1 < (0 : Int32) then (fX12_judge_b35 c0_signs c0_pad c0_book x1  v5.2.1 v5.2.2.1 v5.2.2.2.1 v5.2.2.2.2.1 v5.2.2.2.2.2.1 v5.2.2.2.2.2.2.1 v5.2.2.2.2.2.2.2 v5.1) else (if x1 = (0 : Int32) then (fX12_judge_b35 c0_signs c0_pad c0_book x1  v5.2.1 v5.2.2.1 v5.2.2.2.1 v5.2.2.2.2.1 v5.2.2.2.2.2.1 v5.2.2.2.2.2.2.1 v5.2.2.2.2.2.2.2 v5.1) else (fX12_judge_b43 c0_signs c0_pad c0_book x1  v5.2.1 v5.2.2.1 v5.2.2.2.1 v5.2.2.2.2.1 v5.2.2.2.2.2.1 v5.2.2.2.2.2.2.1 v5.2.2.2.2.2.2.2 v5.2.2.2.2.2.1)))) else (some ((-5 : Int32), c0_offs, c0_offAt, c0_offWho, c0_lastOff, c0_reason, c0_acts, c0_now))))))
abbrev rmX12_judge : Room := { frames := 5, cells := 0, slots := 0, locals := 109 }
set_option maxRecDepth 100000 in
set_option maxHeartbeats 4000000 in
theorem ctX12_judge (l : Launch) (G : zG) (a0 a0_book a0_now a0_sight a0_pad a0_can a0_fitting a0_wins a0_image a0_isKept : Nat) (c0_sights : Int32) (c0_signs : Int32) (c0_offs : Int32) (c0_offAt : Int32) (c0_offWho : Int32) (c0_lastOff : Int32) (c0_reason : Int32) (c0_acts : Int32) (c0_pad : Nat → Int32) (c0_book : Nat → Int32) (c0_now : Nat → Int32) (x1 : Int32) {R : Int32 × Int32 × Int32 × Int32 × Int32 × Int32 × Int32 × (Nat → Int32)} (hf : fX12_judge c0_signs c0_offs c0_offAt c0_offWho c0_lastOff c0_reason c0_acts c0_pad c0_book c0_now x1 = some R) : zCt l yX12_judge wsX12_judge rmX12_judge G [(a0, .inr (12, [.ref a0_book, .ref a0_now, .int c0_sights, .ref a0_sight, .int c0_signs, .ref a0_pad, .int c0_offs, .int c0_offAt, .int c0_offWho, .int c0_lastOff, .int c0_reason, .int c0_acts, .ref a0_can, .ref a0_fitting, .ref a0_wins, .ref a0_image, .ref a0_isKept])), (a0_pad, .inl (G.2.1, 60, .inl c0_pad)), (a0_book, .inl (G.2.1, 56, .inl c0_book)), (a0_now, .inl (G.2.1, 56, .inl c0_now))] [.ref a0, .int x1] (fun v w => v = some (.int (R.1)) ∧ w = [(a0, .inr (12, [.ref a0_book, .ref a0_now, .int c0_sights, .ref a0_sight, .int c0_signs, .ref a0_pad, .int (R.2.1), .int (R.2.2.1), .int (R.2.2.2.1), .int (R.2.2.2.2.1), .int (R.2.2.2.2.2.1), .int (R.2.2.2.2.2.2.1), .ref a0_can, .ref a0_fitting, .ref a0_wins, .ref a0_image, .ref a0_isKept])), (a0_pad, .inl (G.2.1, 60, .inl c0_pad)), (a0_book, .inl (G.2.1, 56, .inl c0_book)), (a0_now, .inl (G.2.1, 56, .inl (R.2.2.2.2.2.2.2)))]) := by
  refine zMkI (own := RX12) false (by decide) (by decide +kernel) rfl rfl (Nat.le_of_ble_eq_true rfl) ?_
  intro Z h hret
  have hB43 : ∀ (c0_offs : Int32) (c0_offAt : Int32) (c0_offWho : Int32) (c0_lastOff : Int32) (c0_reason : Int32) (c0_acts : Int32) (c0_now : Nat → Int32) (s0 : Int32), fX12_judge_b43 c0_signs c0_pad c0_book x1  c0_offs c0_offAt c0_offWho c0_lastOff c0_reason c0_acts c0_now s0 = some R → Z 0 0 [(a0, .inr (12, [.ref a0_book, .ref a0_now, .int c0_sights, .ref a0_sight, .int c0_signs, .ref a0_pad, .int c0_offs, .int c0_offAt, .int c0_offWho, .int c0_lastOff, .int c0_reason, .int c0_acts, .ref a0_can, .ref a0_fitting, .ref a0_wins, .ref a0_image, .ref a0_isKept])), (a0_pad, .inl (G.2.1, 60, .inl c0_pad)), (a0_book, .inl (G.2.1, 56, .inl c0_book)), (a0_now, .inl (G.2.1, 56, .inl c0_now))] [] 43 [.int s0] := by
    intro c0_offs c0_offAt c0_offWho c0_lastOff c0_reason c0_acts c0_now s0 hf
    rw [fX12_judge_b43] at hf
    have hf := Option.some.inj hf
    subst hf
    exact hret _ _ _ _ dX12_judge_43 ⟨rfl, rfl⟩
  have hB35 : ∀ (c0_offs : Int32) (c0_offAt : Int32) (c0_offWho : Int32) (c0_lastOff : Int32) (c0_reason : Int32) (c0_acts : Int32) (c0_now : Nat → Int32) (x2 : Int32), fX12_judge_b35 c0_signs c0_pad c0_book x1  c0_offs c0_offAt c0_offWho c0_lastOff c0_reason c0_acts c0_now x2 = some R → Z 0 0 [(a0, .inr (12, [.ref a0_book, .ref a0_now, .int c0_sights, .ref a0_sight, .int c0_signs, .ref a0_pad, .int c0_offs, .int c0_offAt, .int c0_offWho, .int c0_lastOff, .int c0_reason, .int c0_acts, .ref a0_can, .ref a0_fitting, .ref a0_wins, .ref a0_image, .ref a0_isKept])), (a0_pad, .inl (G.2.1, 60, .inl c0_pad)), (a0_book, .inl (G.2.1, 56, .inl c0_book)), (a0_now, .inl (G.2.1, 56, .inl c0_now))] [(2, .int x2)] 35 [] := by
    intro c0_offs c0_offAt c0_offWho c0_lastOff c0_reason c0_acts c0_now x2 hf
    rw [fX12_judge_b35] at hf
    refine z_iload_n h dX12_judge_35 0 rfl rfl ?_
    refine z_goto h (tgt := 43) dX12_judge_36 (by decide) ?_
    refine z_locs h (lv2 := []) [] rfl ?_
    exact hB43 c0_offs c0_offAt c0_offWho c0_lastOff c0_reason c0_acts c0_now x2 hf
  rw [fX12_judge] at hf
  show Z 0 0 _ [(0, .ref a0), (1, .int x1)] 0 []
  refine z_iload_n h dX12_judge_0 1 rfl rfl ?_
  refine z_iconst h (v := (0 : Int32)) dX12_judge_1 (by decide) rfl ?_
  refine z_iconst h (v := (1 : Int32)) dX12_judge_2 (by decide) rfl ?_
  obtain ⟨v1, hv1, hf⟩ := bd_some hf
  refine z_callS h (np := 3) (st := []) (wr := [(a0, .inr (12, [.ref a0_book, .ref a0_now, .int c0_sights, .ref a0_sight, .int c0_signs, .ref a0_pad, .int c0_offs, .int c0_offAt, .int c0_offWho, .int c0_lastOff, .int c0_reason, .int c0_acts, .ref a0_can, .ref a0_fitting, .ref a0_wins, .ref a0_image, .ref a0_isKept])), (a0_pad, .inl (G.2.1, 60, .inl c0_pad)), (a0_book, .inl (G.2.1, 56, .inl c0_book)), (a0_now, .inl (G.2.1, 56, .inl c0_now))]) [.int x1, .int (0 : Int32), .int (1 : Int32)] (ctX12_in l G x1 (0 : Int32) (1 : Int32) hv1) gX12_judge_X12_in (by decide +kernel) rfl ⟨Nat.le_of_ble_eq_true rfl, Nat.le_of_ble_eq_true rfl⟩ ⟨Nat.le_refl _, Nat.le_refl _⟩ rfl rfl rfl [] [0, 1, 2, 3] rfl rfl rfl rfl (by decide) (Nat.le_of_ble_eq_true rfl) dX12_judge_3 rfl rfl (fun rv1 wv1 hrv1 => ?_)
  obtain ⟨rfl, rfl⟩ := hrv1
  refine z_perm h (w2 := [(a0, .inr (12, [.ref a0_book, .ref a0_now, .int c0_sights, .ref a0_sight, .int c0_signs, .ref a0_pad, .int c0_offs, .int c0_offAt, .int c0_offWho, .int c0_lastOff, .int c0_reason, .int c0_acts, .ref a0_can, .ref a0_fitting, .ref a0_wins, .ref a0_image, .ref a0_isKept])), (a0_pad, .inl (G.2.1, 60, .inl c0_pad)), (a0_book, .inl (G.2.1, 56, .inl c0_book)), (a0_now, .inl (G.2.1, 56, .inl c0_now))]) (st := [.int v1]) [0, 1, 2, 3] rfl rfl ?_
  refine z_if_ne h (tgt := 12) dX12_judge_6 (by decide) rfl (fun c2 => ?_) (fun c2 => ?_)
  · have hf := ite_f hf c2
    refine z_aload_n h dX12_judge_12 0 rfl rfl ?_
    obtain ⟨v3, hv3, hf⟩ := bd_some hf
    refine z_callV h (np := 0) (st := []) (wr := [(a0_book, .inl (G.2.1, 56, .inl c0_book)), (a0_now, .inl (G.2.1, 56, .inl c0_now))]) [] (ctX12_faultOf l G a0 a0_book a0_now a0_sight a0_pad a0_can a0_fitting a0_wins a0_image a0_isKept c0_sights c0_signs c0_offs c0_offAt c0_offWho c0_lastOff c0_reason c0_acts c0_pad hv3) gX12_judge_X12_faultOf (by decide +kernel) 0 rfl rfl rfl ⟨Nat.le_of_ble_eq_true rfl, Nat.le_of_ble_eq_true rfl⟩ ⟨Nat.le_refl _, Nat.le_refl _⟩ rfl rfl rfl [0, 1] [2, 3] rfl rfl rfl rfl (by decide) (Nat.le_of_ble_eq_true rfl) dX12_judge_13 rfl rfl (fun rv3 wv3 hrv3 => ?_)
    obtain ⟨rfl, rfl⟩ := hrv3
    refine z_perm h (w2 := [(a0, .inr (12, [.ref a0_book, .ref a0_now, .int c0_sights, .ref a0_sight, .int c0_signs, .ref a0_pad, .int c0_offs, .int c0_offAt, .int c0_offWho, .int c0_lastOff, .int c0_reason, .int c0_acts, .ref a0_can, .ref a0_fitting, .ref a0_wins, .ref a0_image, .ref a0_isKept])), (a0_pad, .inl (G.2.1, 60, .inl c0_pad)), (a0_book, .inl (G.2.1, 56, .inl c0_book)), (a0_now, .inl (G.2.1, 56, .inl c0_now))]) (st := [.int v3]) [2, 3, 0, 1] rfl rfl ?_
    refine z_if_lt h (tgt := 22) dX12_judge_16 (by decide) rfl (fun c4 => ?_) (fun c4 => ?_)
    · have hf := ite_t hf c4
      refine z_aload_n h dX12_judge_22 0 rfl rfl ?_
      obtain ⟨v5, hv5, hf⟩ := bd_some hf
      refine z_callV h (np := 0) (st := []) (wr := []) [] (ctX12_goDays l G a0 a0_book a0_now a0_sight a0_pad a0_can a0_fitting a0_wins a0_image a0_isKept c0_sights c0_signs c0_offs c0_offAt c0_offWho c0_lastOff c0_reason c0_acts c0_book c0_now c0_pad hv5) gX12_judge_X12_goDays (by decide +kernel) 0 rfl rfl rfl ⟨Nat.le_of_ble_eq_true rfl, Nat.le_of_ble_eq_true rfl⟩ ⟨Nat.le_refl _, Nat.le_refl _⟩ rfl rfl rfl [0, 2, 3, 1] [] rfl rfl rfl rfl (by decide) (Nat.le_of_ble_eq_true rfl) dX12_judge_23 rfl rfl (fun rv5 wv5 hrv5 => ?_)
      obtain ⟨rfl, rfl⟩ := hrv5
      refine z_perm h (w2 := [(a0, .inr (12, [.ref a0_book, .ref a0_now, .int c0_sights, .ref a0_sight, .int c0_signs, .ref a0_pad, .int v5.2.1, .int v5.2.2.1, .int v5.2.2.2.1, .int v5.2.2.2.2.1, .int v5.2.2.2.2.2.1, .int v5.2.2.2.2.2.2.1, .ref a0_can, .ref a0_fitting, .ref a0_wins, .ref a0_image, .ref a0_isKept])), (a0_pad, .inl (G.2.1, 60, .inl c0_pad)), (a0_book, .inl (G.2.1, 56, .inl c0_book)), (a0_now, .inl (G.2.1, 56, .inl v5.2.2.2.2.2.2.2))]) (st := [.int v5.1]) [0, 3, 1, 2] rfl rfl ?_
      refine z_istore_n h (lv2 := [(2, .int v5.1), (0, .ref a0), (1, .int x1)]) dX12_judge_26 (by decide) rfl rfl ?_
      refine z_iload_n h dX12_judge_27 0 rfl rfl ?_
      refine z_if_lt h (tgt := 35) dX12_judge_28 (by decide) rfl (fun c6 => ?_) (fun c6 => ?_)
      · have hf := ite_t hf c6
        refine z_locs h (lv2 := [(2, .int v5.1)]) [0] rfl ?_
        exact hB35 v5.2.1 v5.2.2.1 v5.2.2.2.1 v5.2.2.2.2.1 v5.2.2.2.2.2.1 v5.2.2.2.2.2.2.1 v5.2.2.2.2.2.2.2 v5.1 hf
      have hf := ite_f hf c6
      refine z_iload_n h dX12_judge_31 2 rfl rfl ?_
      refine z_if_ne h (tgt := 39) dX12_judge_32 (by decide) rfl (fun c7 => ?_) (fun c7 => ?_)
      · have hf := ite_f hf c7
        refine z_aload_n h dX12_judge_39 1 rfl rfl ?_
        refine z_get h (C := RX12) (T := TX12) (N := 17) (v := .int v5.2.2.2.2.2.1) 0 rfl rfl 10 (by decide) (by decide +kernel) (by decide +kernel) rfl dX12_judge_40 rfl ?_
        refine z_locs h (lv2 := []) [] rfl ?_
        exact hB43 v5.2.1 v5.2.2.1 v5.2.2.2.1 v5.2.2.2.2.1 v5.2.2.2.2.2.1 v5.2.2.2.2.2.2.1 v5.2.2.2.2.2.2.2 v5.2.2.2.2.2.1 hf
      have hf := ite_t hf c7
      refine z_locs h (lv2 := [(2, .int v5.1)]) [0] rfl ?_
      exact hB35 v5.2.1 v5.2.2.1 v5.2.2.2.1 v5.2.2.2.2.1 v5.2.2.2.2.2.1 v5.2.2.2.2.2.2.1 v5.2.2.2.2.2.2.2 v5.1 hf
    have hf := ite_f hf c4
    refine z_bipush h (v := (-5 : Int32)) dX12_judge_19 (by decide) rfl ?_
    have hf := Option.some.inj hf
    subst hf
    exact hret _ _ _ _ dX12_judge_21 ⟨rfl, rfl⟩
  have hf := ite_t hf c2
  refine z_bipush h (v := (-2 : Int32)) dX12_judge_9 (by decide) rfl ?_
  have hf := Option.some.inj hf
  subst hf
  exact hret _ _ _ _ dX12_judge_11 ⟨rfl, rfl⟩
def fX12_barOfDays_b20 (c0_signs : Int32) (c0_pad : Nat → Int32) (c0_book : Nat → Int32)  (c0_offs : Int32) (c0_offAt : Int32) (c0_offWho : Int32) (c0_lastOff : Int32) (c0_reason : Int32) (c0_acts : Int32) (c0_now : Nat → Int32) (s0 : Int32) : Option (Int32 × Int32 × Int32 × Int32 × Int32 × Int32 × Int32 × (Nat → Int32)) := (some (s0, c0_offs, c0_offAt, c0_offWho, c0_lastOff, c0_reason, c0_acts, c0_now))
def fX12_barOfDays_b14 (c0_signs : Int32) (c0_pad : Nat → Int32) (c0_book : Nat → Int32)  (c0_offs : Int32) (c0_offAt : Int32) (c0_offWho : Int32) (c0_lastOff : Int32) (c0_reason : Int32) (c0_acts : Int32) (c0_now : Nat → Int32) : Option (Int32 × Int32 × Int32 × Int32 × Int32 × Int32 × Int32 × (Nat → Int32)) := (fX12_barOfDays_b20 c0_signs c0_pad c0_book  c0_offs c0_offAt c0_offWho c0_lastOff c0_reason c0_acts c0_now (-5 : Int32))
def fX12_barOfDays (c0_signs : Int32) (c0_offs : Int32) (c0_offAt : Int32) (c0_offWho : Int32) (c0_lastOff : Int32) (c0_reason : Int32) (c0_acts : Int32) (c0_pad : Nat → Int32) (c0_book : Nat → Int32) (c0_now : Nat → Int32)  : Option (Int32 × Int32 × Int32 × Int32 × Int32 × Int32 × Int32 × (Nat → Int32)) := Option.bind (fX12_faultOf c0_signs c0_pad) (fun v1 => (if (0 : Int32) ≤ v1 then (fX12_barOfDays_b14 c0_signs c0_pad c0_book  c0_offs c0_offAt c0_offWho c0_lastOff c0_reason c0_acts c0_now) else Option.bind (fX12_goDays c0_signs c0_offs c0_offAt c0_offWho c0_lastOff c0_reason c0_acts c0_book c0_now c0_pad) (fun v3 => (if v3.1 < (0 : Int32) then (fX12_barOfDays_b20 c0_signs c0_pad c0_book  v3.2.1 v3.2.2.1 v3.2.2.2.1 v3.2.2.2.2.1 v3.2.2.2.2.2.1 v3.2.2.2.2.2.2.1 v3.2.2.2.2.2.2.2 (0 : Int32)) else (fX12_barOfDays_b14 c0_signs c0_pad c0_book  v3.2.1 v3.2.2.1 v3.2.2.2.1 v3.2.2.2.2.1 v3.2.2.2.2.2.1 v3.2.2.2.2.2.2.1 v3.2.2.2.2.2.2.2)))))
abbrev rmX12_barOfDays : Room := { frames := 5, cells := 0, slots := 0, locals := 109 }
set_option maxRecDepth 100000 in
set_option maxHeartbeats 4000000 in
theorem ctX12_barOfDays (l : Launch) (G : zG) (a0 a0_book a0_now a0_sight a0_pad a0_can a0_fitting a0_wins a0_image a0_isKept : Nat) (c0_sights : Int32) (c0_signs : Int32) (c0_offs : Int32) (c0_offAt : Int32) (c0_offWho : Int32) (c0_lastOff : Int32) (c0_reason : Int32) (c0_acts : Int32) (c0_pad : Nat → Int32) (c0_book : Nat → Int32) (c0_now : Nat → Int32)  {R : Int32 × Int32 × Int32 × Int32 × Int32 × Int32 × Int32 × (Nat → Int32)} (hf : fX12_barOfDays c0_signs c0_offs c0_offAt c0_offWho c0_lastOff c0_reason c0_acts c0_pad c0_book c0_now = some R) : zCt l yX12_barOfDays wsX12_barOfDays rmX12_barOfDays G [(a0, .inr (12, [.ref a0_book, .ref a0_now, .int c0_sights, .ref a0_sight, .int c0_signs, .ref a0_pad, .int c0_offs, .int c0_offAt, .int c0_offWho, .int c0_lastOff, .int c0_reason, .int c0_acts, .ref a0_can, .ref a0_fitting, .ref a0_wins, .ref a0_image, .ref a0_isKept])), (a0_pad, .inl (G.2.1, 60, .inl c0_pad)), (a0_book, .inl (G.2.1, 56, .inl c0_book)), (a0_now, .inl (G.2.1, 56, .inl c0_now))] [.ref a0] (fun v w => v = some (.int (R.1)) ∧ w = [(a0, .inr (12, [.ref a0_book, .ref a0_now, .int c0_sights, .ref a0_sight, .int c0_signs, .ref a0_pad, .int (R.2.1), .int (R.2.2.1), .int (R.2.2.2.1), .int (R.2.2.2.2.1), .int (R.2.2.2.2.2.1), .int (R.2.2.2.2.2.2.1), .ref a0_can, .ref a0_fitting, .ref a0_wins, .ref a0_image, .ref a0_isKept])), (a0_pad, .inl (G.2.1, 60, .inl c0_pad)), (a0_book, .inl (G.2.1, 56, .inl c0_book)), (a0_now, .inl (G.2.1, 56, .inl (R.2.2.2.2.2.2.2)))]) := by
  refine zMkI (own := RX12) false (by decide) (by decide +kernel) rfl rfl (Nat.le_of_ble_eq_true rfl) ?_
  intro Z h hret
  have hB20 : ∀ (c0_offs : Int32) (c0_offAt : Int32) (c0_offWho : Int32) (c0_lastOff : Int32) (c0_reason : Int32) (c0_acts : Int32) (c0_now : Nat → Int32) (s0 : Int32), fX12_barOfDays_b20 c0_signs c0_pad c0_book  c0_offs c0_offAt c0_offWho c0_lastOff c0_reason c0_acts c0_now s0 = some R → Z 0 0 [(a0, .inr (12, [.ref a0_book, .ref a0_now, .int c0_sights, .ref a0_sight, .int c0_signs, .ref a0_pad, .int c0_offs, .int c0_offAt, .int c0_offWho, .int c0_lastOff, .int c0_reason, .int c0_acts, .ref a0_can, .ref a0_fitting, .ref a0_wins, .ref a0_image, .ref a0_isKept])), (a0_pad, .inl (G.2.1, 60, .inl c0_pad)), (a0_book, .inl (G.2.1, 56, .inl c0_book)), (a0_now, .inl (G.2.1, 56, .inl c0_now))] [] 20 [.int s0] := by
    intro c0_offs c0_offAt c0_offWho c0_lastOff c0_reason c0_acts c0_now s0 hf
    rw [fX12_barOfDays_b20] at hf
    have hf := Option.some.inj hf
    subst hf
    exact hret _ _ _ _ dX12_barOfDays_20 ⟨rfl, rfl⟩
  have hB14 : ∀ (c0_offs : Int32) (c0_offAt : Int32) (c0_offWho : Int32) (c0_lastOff : Int32) (c0_reason : Int32) (c0_acts : Int32) (c0_now : Nat → Int32), fX12_barOfDays_b14 c0_signs c0_pad c0_book  c0_offs c0_offAt c0_offWho c0_lastOff c0_reason c0_acts c0_now = some R → Z 0 0 [(a0, .inr (12, [.ref a0_book, .ref a0_now, .int c0_sights, .ref a0_sight, .int c0_signs, .ref a0_pad, .int c0_offs, .int c0_offAt, .int c0_offWho, .int c0_lastOff, .int c0_reason, .int c0_acts, .ref a0_can, .ref a0_fitting, .ref a0_wins, .ref a0_image, .ref a0_isKept])), (a0_pad, .inl (G.2.1, 60, .inl c0_pad)), (a0_book, .inl (G.2.1, 56, .inl c0_book)), (a0_now, .inl (G.2.1, 56, .inl c0_now))] [] 14 [] := by
    intro c0_offs c0_offAt c0_offWho c0_lastOff c0_reason c0_acts c0_now hf
    rw [fX12_barOfDays_b14] at hf
    refine z_bipush h (v := (-5 : Int32)) dX12_barOfDays_14 (by decide) rfl ?_
    refine z_goto h (tgt := 20) dX12_barOfDays_16 (by decide) ?_
    exact hB20 c0_offs c0_offAt c0_offWho c0_lastOff c0_reason c0_acts c0_now (-5 : Int32) hf
  rw [fX12_barOfDays] at hf
  show Z 0 0 _ [(0, .ref a0)] 0 []
  refine z_aload_n h dX12_barOfDays_0 0 rfl rfl ?_
  obtain ⟨v1, hv1, hf⟩ := bd_some hf
  refine z_callV h (np := 0) (st := []) (wr := [(a0_book, .inl (G.2.1, 56, .inl c0_book)), (a0_now, .inl (G.2.1, 56, .inl c0_now))]) [] (ctX12_faultOf l G a0 a0_book a0_now a0_sight a0_pad a0_can a0_fitting a0_wins a0_image a0_isKept c0_sights c0_signs c0_offs c0_offAt c0_offWho c0_lastOff c0_reason c0_acts c0_pad hv1) gX12_barOfDays_X12_faultOf (by decide +kernel) 0 rfl rfl rfl ⟨Nat.le_of_ble_eq_true rfl, Nat.le_of_ble_eq_true rfl⟩ ⟨Nat.le_refl _, Nat.le_refl _⟩ rfl rfl rfl [0, 1] [2, 3] rfl rfl rfl rfl (by decide) (Nat.le_of_ble_eq_true rfl) dX12_barOfDays_1 rfl rfl (fun rv1 wv1 hrv1 => ?_)
  obtain ⟨rfl, rfl⟩ := hrv1
  refine z_perm h (w2 := [(a0, .inr (12, [.ref a0_book, .ref a0_now, .int c0_sights, .ref a0_sight, .int c0_signs, .ref a0_pad, .int c0_offs, .int c0_offAt, .int c0_offWho, .int c0_lastOff, .int c0_reason, .int c0_acts, .ref a0_can, .ref a0_fitting, .ref a0_wins, .ref a0_image, .ref a0_isKept])), (a0_pad, .inl (G.2.1, 60, .inl c0_pad)), (a0_book, .inl (G.2.1, 56, .inl c0_book)), (a0_now, .inl (G.2.1, 56, .inl c0_now))]) (st := [.int v1]) [2, 3, 0, 1] rfl rfl ?_
  refine z_if_ge h (tgt := 14) dX12_barOfDays_4 (by decide) rfl (fun c2 => ?_) (fun c2 => ?_)
  · have hf := ite_t hf c2
    refine z_locs h (lv2 := []) [] rfl ?_
    exact hB14 c0_offs c0_offAt c0_offWho c0_lastOff c0_reason c0_acts c0_now hf
  have hf := ite_f hf c2
  refine z_aload_n h dX12_barOfDays_7 0 rfl rfl ?_
  obtain ⟨v3, hv3, hf⟩ := bd_some hf
  refine z_callV h (np := 0) (st := []) (wr := []) [] (ctX12_goDays l G a0 a0_book a0_now a0_sight a0_pad a0_can a0_fitting a0_wins a0_image a0_isKept c0_sights c0_signs c0_offs c0_offAt c0_offWho c0_lastOff c0_reason c0_acts c0_book c0_now c0_pad hv3) gX12_barOfDays_X12_goDays (by decide +kernel) 0 rfl rfl rfl ⟨Nat.le_of_ble_eq_true rfl, Nat.le_of_ble_eq_true rfl⟩ ⟨Nat.le_refl _, Nat.le_refl _⟩ rfl rfl rfl [0, 2, 3, 1] [] rfl rfl rfl rfl (by decide) (Nat.le_of_ble_eq_true rfl) dX12_barOfDays_8 rfl rfl (fun rv3 wv3 hrv3 => ?_)
  obtain ⟨rfl, rfl⟩ := hrv3
  refine z_perm h (w2 := [(a0, .inr (12, [.ref a0_book, .ref a0_now, .int c0_sights, .ref a0_sight, .int c0_signs, .ref a0_pad, .int v3.2.1, .int v3.2.2.1, .int v3.2.2.2.1, .int v3.2.2.2.2.1, .int v3.2.2.2.2.2.1, .int v3.2.2.2.2.2.2.1, .ref a0_can, .ref a0_fitting, .ref a0_wins, .ref a0_image, .ref a0_isKept])), (a0_pad, .inl (G.2.1, 60, .inl c0_pad)), (a0_book, .inl (G.2.1, 56, .inl c0_book)), (a0_now, .inl (G.2.1, 56, .inl v3.2.2.2.2.2.2.2))]) (st := [.int v3.1]) [0, 3, 1, 2] rfl rfl ?_
  refine z_if_lt h (tgt := 19) dX12_barOfDays_11 (by decide) rfl (fun c4 => ?_) (fun c4 => ?_)
  · have hf := ite_t hf c4
    refine z_iconst h (v := (0 : Int32)) dX12_barOfDays_19 (by decide) rfl ?_
    refine z_locs h (lv2 := []) [] rfl ?_
    exact hB20 v3.2.1 v3.2.2.1 v3.2.2.2.1 v3.2.2.2.2.1 v3.2.2.2.2.2.1 v3.2.2.2.2.2.2.1 v3.2.2.2.2.2.2.2 (0 : Int32) hf
  have hf := ite_f hf c4
  refine z_locs h (lv2 := []) [] rfl ?_
  exact hB14 v3.2.1 v3.2.2.1 v3.2.2.2.1 v3.2.2.2.2.1 v3.2.2.2.2.2.1 v3.2.2.2.2.2.2.1 v3.2.2.2.2.2.2.2 hf
def fX12_done_L12 (c0_pad : Nat → Int32)  : Nat → Int32 → Int32 → Int32 → Int32 → Int32 → Int32 → Int32 → (Nat → Int32) → (Nat → Int32) → Int32 → Option (Int32 × Int32 × Int32 × Int32 × Int32 × Int32 × Int32 × Int32 × (Nat → Int32) × (Nat → Int32))
  | 0, _, _, _, _, _, _, _, _, _, _ => none
  | n + 1, c0_signs, c0_offs, c0_offAt, c0_offWho, c0_lastOff, c0_reason, c0_acts, c0_book, c0_now, x1 => (if (56 : Int32) ≤ x1 then (some (c0_acts, (0 : Int32), c0_offs, c0_offAt, c0_offWho, c0_lastOff, c0_reason, c0_acts, c0_book, c0_now)) else gd (inb x1 56) (gd (inb x1 56) (((fX12_done_L12 c0_pad  n) c0_signs c0_offs c0_offAt c0_offWho c0_lastOff c0_reason c0_acts (upd c0_book (x1).toNatClampNeg (c0_now (x1).toNatClampNeg)) c0_now (x1 + (1 : Int32))))))
def fX12_done (c0_signs : Int32) (c0_offs : Int32) (c0_offAt : Int32) (c0_offWho : Int32) (c0_lastOff : Int32) (c0_reason : Int32) (c0_acts : Int32) (c0_pad : Nat → Int32) (c0_book : Nat → Int32) (c0_now : Nat → Int32)  : Option (Int32 × Int32 × Int32 × Int32 × Int32 × Int32 × Int32 × Int32 × (Nat → Int32) × (Nat → Int32)) := Option.bind (fX12_barOfDays c0_signs c0_offs c0_offAt c0_offWho c0_lastOff c0_reason c0_acts c0_pad c0_book c0_now) (fun v4 => (if (0 : Int32) ≤ v4.1 then (fX12_done_L12 c0_pad  zF c0_signs v4.2.1 v4.2.2.1 v4.2.2.2.1 v4.2.2.2.2.1 v4.2.2.2.2.2.1 v4.2.2.2.2.2.2.1 c0_book v4.2.2.2.2.2.2.2 (0 : Int32)) else (some ((-5 : Int32), c0_signs, v4.2.1, v4.2.2.1, v4.2.2.2.1, v4.2.2.2.2.1, v4.2.2.2.2.2.1, v4.2.2.2.2.2.2.1, c0_book, v4.2.2.2.2.2.2.2))))
abbrev rmX12_done : Room := { frames := 6, cells := 0, slots := 0, locals := 129 }
set_option maxRecDepth 100000 in
set_option maxHeartbeats 4000000 in
theorem ctX12_done (l : Launch) (G : zG) (a0 a0_book a0_now a0_sight a0_pad a0_can a0_fitting a0_wins a0_image a0_isKept : Nat) (c0_sights : Int32) (c0_signs : Int32) (c0_offs : Int32) (c0_offAt : Int32) (c0_offWho : Int32) (c0_lastOff : Int32) (c0_reason : Int32) (c0_acts : Int32) (c0_pad : Nat → Int32) (c0_book : Nat → Int32) (c0_now : Nat → Int32)  {R : Int32 × Int32 × Int32 × Int32 × Int32 × Int32 × Int32 × Int32 × (Nat → Int32) × (Nat → Int32)} (hf : fX12_done c0_signs c0_offs c0_offAt c0_offWho c0_lastOff c0_reason c0_acts c0_pad c0_book c0_now = some R) : zCt l yX12_done wsX12_done rmX12_done G [(a0, .inr (12, [.ref a0_book, .ref a0_now, .int c0_sights, .ref a0_sight, .int c0_signs, .ref a0_pad, .int c0_offs, .int c0_offAt, .int c0_offWho, .int c0_lastOff, .int c0_reason, .int c0_acts, .ref a0_can, .ref a0_fitting, .ref a0_wins, .ref a0_image, .ref a0_isKept])), (a0_pad, .inl (G.2.1, 60, .inl c0_pad)), (a0_book, .inl (G.2.1, 56, .inl c0_book)), (a0_now, .inl (G.2.1, 56, .inl c0_now))] [.ref a0] (fun v w => v = some (.int (R.1)) ∧ w = [(a0, .inr (12, [.ref a0_book, .ref a0_now, .int c0_sights, .ref a0_sight, .int (R.2.1), .ref a0_pad, .int (R.2.2.1), .int (R.2.2.2.1), .int (R.2.2.2.2.1), .int (R.2.2.2.2.2.1), .int (R.2.2.2.2.2.2.1), .int (R.2.2.2.2.2.2.2.1), .ref a0_can, .ref a0_fitting, .ref a0_wins, .ref a0_image, .ref a0_isKept])), (a0_pad, .inl (G.2.1, 60, .inl c0_pad)), (a0_book, .inl (G.2.1, 56, .inl (R.2.2.2.2.2.2.2.2.1))), (a0_now, .inl (G.2.1, 56, .inl (R.2.2.2.2.2.2.2.2.2)))]) := by
  refine zMkI (own := RX12) false (by decide) (by decide +kernel) rfl rfl (Nat.le_of_ble_eq_true rfl) ?_
  intro Z h hret
  have hL12 : ∀ (n12 : Nat) (c0_signs : Int32) (c0_offs : Int32) (c0_offAt : Int32) (c0_offWho : Int32) (c0_lastOff : Int32) (c0_reason : Int32) (c0_acts : Int32) (c0_book : Nat → Int32) (c0_now : Nat → Int32) (x1 : Int32), fX12_done_L12 c0_pad  n12 c0_signs c0_offs c0_offAt c0_offWho c0_lastOff c0_reason c0_acts c0_book c0_now x1 = some R → Z 0 0 [(a0, .inr (12, [.ref a0_book, .ref a0_now, .int c0_sights, .ref a0_sight, .int c0_signs, .ref a0_pad, .int c0_offs, .int c0_offAt, .int c0_offWho, .int c0_lastOff, .int c0_reason, .int c0_acts, .ref a0_can, .ref a0_fitting, .ref a0_wins, .ref a0_image, .ref a0_isKept])), (a0_pad, .inl (G.2.1, 60, .inl c0_pad)), (a0_book, .inl (G.2.1, 56, .inl c0_book)), (a0_now, .inl (G.2.1, 56, .inl c0_now))] [(0, .ref a0), (1, .int x1)] 12 [] := by
    intro n12
    induction n12 with
    | zero =>
      intro c0_signs c0_offs c0_offAt c0_offWho c0_lastOff c0_reason c0_acts c0_book c0_now x1 hf
      rw [fX12_done_L12] at hf
      cases hf
    | succ n12 ih12 =>
      intro c0_signs c0_offs c0_offAt c0_offWho c0_lastOff c0_reason c0_acts c0_book c0_now x1 hf
      rw [fX12_done_L12] at hf
      refine z_iload_n h dX12_done_12 1 rfl rfl ?_
      refine z_bipush h (v := (56 : Int32)) dX12_done_13 (by decide) rfl ?_
      refine z_icmp_ge h (tgt := 36) dX12_done_15 (by decide) rfl (fun c1 => ?_) (fun c1 => ?_)
      · have hf := ite_t hf c1
        refine z_aload_n h dX12_done_36 0 rfl rfl ?_
        refine z_iconst h (v := (0 : Int32)) dX12_done_37 (by decide) rfl ?_
        refine z_put h (C := RX12) (T := TX12) (N := 17) 0 rfl rfl 4 (by decide) (by decide +kernel) (by decide +kernel) tyX12 tyX12_ok nmX12 (w2 := [(a0, .inr (12, [.ref a0_book, .ref a0_now, .int c0_sights, .ref a0_sight, .int (0 : Int32), .ref a0_pad, .int c0_offs, .int c0_offAt, .int c0_offWho, .int c0_lastOff, .int c0_reason, .int c0_acts, .ref a0_can, .ref a0_fitting, .ref a0_wins, .ref a0_image, .ref a0_isKept])), (a0_pad, .inl (G.2.1, 60, .inl c0_pad)), (a0_book, .inl (G.2.1, 56, .inl c0_book)), (a0_now, .inl (G.2.1, 56, .inl c0_now))]) rfl rfl rfl (Nat.le_of_ble_eq_true rfl) rfl dX12_done_38 rfl ?_
        refine z_aload_n h dX12_done_41 0 rfl rfl ?_
        refine z_get h (C := RX12) (T := TX12) (N := 17) (v := .int c0_acts) 0 rfl rfl 11 (by decide) (by decide +kernel) (by decide +kernel) rfl dX12_done_42 rfl ?_
        have hf := Option.some.inj hf
        subst hf
        exact hret _ _ _ _ dX12_done_45 ⟨rfl, rfl⟩
      have hf := ite_f hf c1
      refine z_aload_n h dX12_done_18 0 rfl rfl ?_
      refine z_get h (C := RX12) (T := TX12) (N := 17) (v := .ref a0_book) 0 rfl rfl 0 (by decide) (by decide +kernel) (by decide +kernel) rfl dX12_done_19 rfl ?_
      refine z_iload_n h dX12_done_22 1 rfl rfl ?_
      refine z_aload_n h dX12_done_23 0 rfl rfl ?_
      refine z_get h (C := RX12) (T := TX12) (N := 17) (v := .ref a0_now) 0 rfl rfl 1 (by decide) (by decide +kernel) (by decide +kernel) rfl dX12_done_24 rfl ?_
      refine z_iload_n h dX12_done_27 1 rfl rfl ?_
      obtain ⟨hg2, hf⟩ := gd_some hf
      refine z_iald h 3 rfl rfl hg2 dX12_done_28 rfl ?_
      obtain ⟨hg3, hf⟩ := gd_some hf
      refine z_iast h (w2 := [(a0, .inr (12, [.ref a0_book, .ref a0_now, .int c0_sights, .ref a0_sight, .int c0_signs, .ref a0_pad, .int c0_offs, .int c0_offAt, .int c0_offWho, .int c0_lastOff, .int c0_reason, .int c0_acts, .ref a0_can, .ref a0_fitting, .ref a0_wins, .ref a0_image, .ref a0_isKept])), (a0_pad, .inl (G.2.1, 60, .inl c0_pad)), (a0_book, .inl (G.2.1, 56, .inl (upd c0_book (x1).toNatClampNeg (c0_now (x1).toNatClampNeg)))), (a0_now, .inl (G.2.1, 56, .inl c0_now))]) 2 rfl rfl hg3 dX12_done_29 rfl rfl ?_
      refine z_iinc h (v := (x1 + (1 : Int32))) (lv2 := [(1, .int (x1 + (1 : Int32))), (0, .ref a0)]) (j := 1) dX12_done_30 rfl rfl (by decide) rfl rfl ?_
      refine z_goto h (tgt := 12) dX12_done_33 (by decide) ?_
      refine z_locs h (lv2 := [(0, .ref a0), (1, .int (x1 + (1 : Int32)))]) [1, 0] rfl ?_
      exact ih12 c0_signs c0_offs c0_offAt c0_offWho c0_lastOff c0_reason c0_acts (upd c0_book (x1).toNatClampNeg (c0_now (x1).toNatClampNeg)) c0_now (x1 + (1 : Int32)) hf
  rw [fX12_done] at hf
  show Z 0 0 _ [(0, .ref a0)] 0 []
  refine z_aload_n h dX12_done_0 0 rfl rfl ?_
  obtain ⟨v4, hv4, hf⟩ := bd_some hf
  refine z_callV h (np := 0) (st := []) (wr := []) [] (ctX12_barOfDays l G a0 a0_book a0_now a0_sight a0_pad a0_can a0_fitting a0_wins a0_image a0_isKept c0_sights c0_signs c0_offs c0_offAt c0_offWho c0_lastOff c0_reason c0_acts c0_pad c0_book c0_now hv4) gX12_done_X12_barOfDays (by decide +kernel) 0 rfl rfl rfl ⟨Nat.le_of_ble_eq_true rfl, Nat.le_of_ble_eq_true rfl⟩ ⟨Nat.le_refl _, Nat.le_refl _⟩ rfl rfl rfl [0, 1, 2, 3] [] rfl rfl rfl rfl (by decide) (Nat.le_of_ble_eq_true rfl) dX12_done_1 rfl rfl (fun rv4 wv4 hrv4 => ?_)
  obtain ⟨rfl, rfl⟩ := hrv4
  refine z_perm h (w2 := [(a0, .inr (12, [.ref a0_book, .ref a0_now, .int c0_sights, .ref a0_sight, .int c0_signs, .ref a0_pad, .int v4.2.1, .int v4.2.2.1, .int v4.2.2.2.1, .int v4.2.2.2.2.1, .int v4.2.2.2.2.2.1, .int v4.2.2.2.2.2.2.1, .ref a0_can, .ref a0_fitting, .ref a0_wins, .ref a0_image, .ref a0_isKept])), (a0_pad, .inl (G.2.1, 60, .inl c0_pad)), (a0_book, .inl (G.2.1, 56, .inl c0_book)), (a0_now, .inl (G.2.1, 56, .inl v4.2.2.2.2.2.2.2))]) (st := [.int v4.1]) [0, 1, 2, 3] rfl rfl ?_
  refine z_if_ge h (tgt := 10) dX12_done_4 (by decide) rfl (fun c5 => ?_) (fun c5 => ?_)
  · have hf := ite_t hf c5
    refine z_iconst h (v := (0 : Int32)) dX12_done_10 (by decide) rfl ?_
    refine z_istore_n h (lv2 := [(1, .int (0 : Int32)), (0, .ref a0)]) dX12_done_11 (by decide) rfl rfl ?_
    refine z_locs h (lv2 := [(0, .ref a0), (1, .int (0 : Int32))]) [1, 0] rfl ?_
    exact hL12 zF c0_signs v4.2.1 v4.2.2.1 v4.2.2.2.1 v4.2.2.2.2.1 v4.2.2.2.2.2.1 v4.2.2.2.2.2.2.1 c0_book v4.2.2.2.2.2.2.2 (0 : Int32) hf
  have hf := ite_f hf c5
  refine z_bipush h (v := (-5 : Int32)) dX12_done_7 (by decide) rfl ?_
  have hf := Option.some.inj hf
  subst hf
  exact hret _ _ _ _ dX12_done_9 ⟨rfl, rfl⟩
def fX12_behind_b45 (c0_signs : Int32) (c0_pad : Nat → Int32) (c0_book : Nat → Int32) (x1 : Int32) (x2 : Int32)  (c0_offs : Int32) (c0_offAt : Int32) (c0_offWho : Int32) (c0_lastOff : Int32) (c0_reason : Int32) (c0_acts : Int32) (c0_now : Nat → Int32) (s0 : Int32) : Option (Int32 × Int32 × Int32 × Int32 × Int32 × Int32 × Int32 × (Nat → Int32)) := (some (s0, c0_offs, c0_offAt, c0_offWho, c0_lastOff, c0_reason, c0_acts, c0_now))
def fX12_behind (c0_signs : Int32) (c0_offs : Int32) (c0_offAt : Int32) (c0_offWho : Int32) (c0_lastOff : Int32) (c0_reason : Int32) (c0_acts : Int32) (c0_pad : Nat → Int32) (c0_book : Nat → Int32) (c0_now : Nat → Int32) (x1 : Int32) (x2 : Int32) : Option (Int32 × Int32 × Int32 × Int32 × Int32 × Int32 × Int32 × (Nat → Int32)) := Option.bind (fX12_isWalker x1) (fun v1 => (if v1 = (0 : Int32) then (some ((-1 : Int32), c0_offs, c0_offAt, c0_offWho, c0_lastOff, c0_reason, c0_acts, c0_now)) else Option.bind (fX12_in x2 (0 : Int32) (7 : Int32)) (fun v3 => (if v3 = (0 : Int32) then (some ((-2 : Int32), c0_offs, c0_offAt, c0_offWho, c0_lastOff, c0_reason, c0_acts, c0_now)) else Option.bind (fX12_barOfDays c0_signs c0_offs c0_offAt c0_offWho c0_lastOff c0_reason c0_acts c0_pad c0_book c0_now) (fun v5 => (if (0 : Int32) ≤ v5.1 then gd (inb (((6 : Int32) * x2) + x1) 56) ((fX12_behind_b45 c0_signs c0_pad c0_book x1 x2  v5.2.1 v5.2.2.1 v5.2.2.2.1 v5.2.2.2.2.1 v5.2.2.2.2.2.1 v5.2.2.2.2.2.2.1 v5.2.2.2.2.2.2.2 (v5.2.2.2.2.2.2.2 ((((6 : Int32) * x2) + x1)).toNatClampNeg))) else (fX12_behind_b45 c0_signs c0_pad c0_book x1 x2  v5.2.1 v5.2.2.1 v5.2.2.2.1 v5.2.2.2.2.1 v5.2.2.2.2.2.1 v5.2.2.2.2.2.2.1 v5.2.2.2.2.2.2.2 (-5 : Int32))))))))
abbrev rmX12_behind : Room := { frames := 6, cells := 0, slots := 0, locals := 129 }
set_option maxRecDepth 100000 in
set_option maxHeartbeats 4000000 in
theorem ctX12_behind (l : Launch) (G : zG) (a0 a0_book a0_now a0_sight a0_pad a0_can a0_fitting a0_wins a0_image a0_isKept : Nat) (c0_sights : Int32) (c0_signs : Int32) (c0_offs : Int32) (c0_offAt : Int32) (c0_offWho : Int32) (c0_lastOff : Int32) (c0_reason : Int32) (c0_acts : Int32) (c0_pad : Nat → Int32) (c0_book : Nat → Int32) (c0_now : Nat → Int32) (x1 : Int32) (x2 : Int32) {R : Int32 × Int32 × Int32 × Int32 × Int32 × Int32 × Int32 × (Nat → Int32)} (hf : fX12_behind c0_signs c0_offs c0_offAt c0_offWho c0_lastOff c0_reason c0_acts c0_pad c0_book c0_now x1 x2 = some R) : zCt l yX12_behind wsX12_behind rmX12_behind G [(a0, .inr (12, [.ref a0_book, .ref a0_now, .int c0_sights, .ref a0_sight, .int c0_signs, .ref a0_pad, .int c0_offs, .int c0_offAt, .int c0_offWho, .int c0_lastOff, .int c0_reason, .int c0_acts, .ref a0_can, .ref a0_fitting, .ref a0_wins, .ref a0_image, .ref a0_isKept])), (a0_pad, .inl (G.2.1, 60, .inl c0_pad)), (a0_book, .inl (G.2.1, 56, .inl c0_book)), (a0_now, .inl (G.2.1, 56, .inl c0_now))] [.ref a0, .int x1, .int x2] (fun v w => v = some (.int (R.1)) ∧ w = [(a0, .inr (12, [.ref a0_book, .ref a0_now, .int c0_sights, .ref a0_sight, .int c0_signs, .ref a0_pad, .int (R.2.1), .int (R.2.2.1), .int (R.2.2.2.1), .int (R.2.2.2.2.1), .int (R.2.2.2.2.2.1), .int (R.2.2.2.2.2.2.1), .ref a0_can, .ref a0_fitting, .ref a0_wins, .ref a0_image, .ref a0_isKept])), (a0_pad, .inl (G.2.1, 60, .inl c0_pad)), (a0_book, .inl (G.2.1, 56, .inl c0_book)), (a0_now, .inl (G.2.1, 56, .inl (R.2.2.2.2.2.2.2)))]) := by
  refine zMkI (own := RX12) false (by decide) (by decide +kernel) rfl rfl (Nat.le_of_ble_eq_true rfl) ?_
  intro Z h hret
  have hB45 : ∀ (c0_offs : Int32) (c0_offAt : Int32) (c0_offWho : Int32) (c0_lastOff : Int32) (c0_reason : Int32) (c0_acts : Int32) (c0_now : Nat → Int32) (s0 : Int32), fX12_behind_b45 c0_signs c0_pad c0_book x1 x2  c0_offs c0_offAt c0_offWho c0_lastOff c0_reason c0_acts c0_now s0 = some R → Z 0 0 [(a0, .inr (12, [.ref a0_book, .ref a0_now, .int c0_sights, .ref a0_sight, .int c0_signs, .ref a0_pad, .int c0_offs, .int c0_offAt, .int c0_offWho, .int c0_lastOff, .int c0_reason, .int c0_acts, .ref a0_can, .ref a0_fitting, .ref a0_wins, .ref a0_image, .ref a0_isKept])), (a0_pad, .inl (G.2.1, 60, .inl c0_pad)), (a0_book, .inl (G.2.1, 56, .inl c0_book)), (a0_now, .inl (G.2.1, 56, .inl c0_now))] [] 45 [.int s0] := by
    intro c0_offs c0_offAt c0_offWho c0_lastOff c0_reason c0_acts c0_now s0 hf
    rw [fX12_behind_b45] at hf
    have hf := Option.some.inj hf
    subst hf
    exact hret _ _ _ _ dX12_behind_45 ⟨rfl, rfl⟩
  rw [fX12_behind] at hf
  show Z 0 0 _ [(0, .ref a0), (1, .int x1), (2, .int x2)] 0 []
  refine z_iload_n h dX12_behind_0 1 rfl rfl ?_
  obtain ⟨v1, hv1, hf⟩ := bd_some hf
  refine z_callS h (np := 1) (st := []) (wr := [(a0, .inr (12, [.ref a0_book, .ref a0_now, .int c0_sights, .ref a0_sight, .int c0_signs, .ref a0_pad, .int c0_offs, .int c0_offAt, .int c0_offWho, .int c0_lastOff, .int c0_reason, .int c0_acts, .ref a0_can, .ref a0_fitting, .ref a0_wins, .ref a0_image, .ref a0_isKept])), (a0_pad, .inl (G.2.1, 60, .inl c0_pad)), (a0_book, .inl (G.2.1, 56, .inl c0_book)), (a0_now, .inl (G.2.1, 56, .inl c0_now))]) [.int x1] (ctX12_isWalker l G x1 hv1) gX12_behind_X12_isWalker (by decide +kernel) rfl ⟨Nat.le_of_ble_eq_true rfl, Nat.le_of_ble_eq_true rfl⟩ ⟨Nat.le_refl _, Nat.le_refl _⟩ rfl rfl rfl [] [0, 1, 2, 3] rfl rfl rfl rfl (by decide) (Nat.le_of_ble_eq_true rfl) dX12_behind_1 rfl rfl (fun rv1 wv1 hrv1 => ?_)
  obtain ⟨rfl, rfl⟩ := hrv1
  refine z_perm h (w2 := [(a0, .inr (12, [.ref a0_book, .ref a0_now, .int c0_sights, .ref a0_sight, .int c0_signs, .ref a0_pad, .int c0_offs, .int c0_offAt, .int c0_offWho, .int c0_lastOff, .int c0_reason, .int c0_acts, .ref a0_can, .ref a0_fitting, .ref a0_wins, .ref a0_image, .ref a0_isKept])), (a0_pad, .inl (G.2.1, 60, .inl c0_pad)), (a0_book, .inl (G.2.1, 56, .inl c0_book)), (a0_now, .inl (G.2.1, 56, .inl c0_now))]) (st := [.int v1]) [0, 1, 2, 3] rfl rfl ?_
  refine z_if_ne h (tgt := 9) dX12_behind_4 (by decide) rfl (fun c2 => ?_) (fun c2 => ?_)
  · have hf := ite_f hf c2
    refine z_iload_n h dX12_behind_9 2 rfl rfl ?_
    refine z_iconst h (v := (0 : Int32)) dX12_behind_10 (by decide) rfl ?_
    refine z_bipush h (v := (7 : Int32)) dX12_behind_11 (by decide) rfl ?_
    obtain ⟨v3, hv3, hf⟩ := bd_some hf
    refine z_callS h (np := 3) (st := []) (wr := [(a0, .inr (12, [.ref a0_book, .ref a0_now, .int c0_sights, .ref a0_sight, .int c0_signs, .ref a0_pad, .int c0_offs, .int c0_offAt, .int c0_offWho, .int c0_lastOff, .int c0_reason, .int c0_acts, .ref a0_can, .ref a0_fitting, .ref a0_wins, .ref a0_image, .ref a0_isKept])), (a0_pad, .inl (G.2.1, 60, .inl c0_pad)), (a0_book, .inl (G.2.1, 56, .inl c0_book)), (a0_now, .inl (G.2.1, 56, .inl c0_now))]) [.int x2, .int (0 : Int32), .int (7 : Int32)] (ctX12_in l G x2 (0 : Int32) (7 : Int32) hv3) gX12_behind_X12_in (by decide +kernel) rfl ⟨Nat.le_of_ble_eq_true rfl, Nat.le_of_ble_eq_true rfl⟩ ⟨Nat.le_refl _, Nat.le_refl _⟩ rfl rfl rfl [] [0, 1, 2, 3] rfl rfl rfl rfl (by decide) (Nat.le_of_ble_eq_true rfl) dX12_behind_13 rfl rfl (fun rv3 wv3 hrv3 => ?_)
    obtain ⟨rfl, rfl⟩ := hrv3
    refine z_perm h (w2 := [(a0, .inr (12, [.ref a0_book, .ref a0_now, .int c0_sights, .ref a0_sight, .int c0_signs, .ref a0_pad, .int c0_offs, .int c0_offAt, .int c0_offWho, .int c0_lastOff, .int c0_reason, .int c0_acts, .ref a0_can, .ref a0_fitting, .ref a0_wins, .ref a0_image, .ref a0_isKept])), (a0_pad, .inl (G.2.1, 60, .inl c0_pad)), (a0_book, .inl (G.2.1, 56, .inl c0_book)), (a0_now, .inl (G.2.1, 56, .inl c0_now))]) (st := [.int v3]) [0, 1, 2, 3] rfl rfl ?_
    refine z_if_ne h (tgt := 22) dX12_behind_16 (by decide) rfl (fun c4 => ?_) (fun c4 => ?_)
    · have hf := ite_f hf c4
      refine z_aload_n h dX12_behind_22 0 rfl rfl ?_
      obtain ⟨v5, hv5, hf⟩ := bd_some hf
      refine z_callV h (np := 0) (st := []) (wr := []) [] (ctX12_barOfDays l G a0 a0_book a0_now a0_sight a0_pad a0_can a0_fitting a0_wins a0_image a0_isKept c0_sights c0_signs c0_offs c0_offAt c0_offWho c0_lastOff c0_reason c0_acts c0_pad c0_book c0_now hv5) gX12_behind_X12_barOfDays (by decide +kernel) 0 rfl rfl rfl ⟨Nat.le_of_ble_eq_true rfl, Nat.le_of_ble_eq_true rfl⟩ ⟨Nat.le_refl _, Nat.le_refl _⟩ rfl rfl rfl [0, 1, 2, 3] [] rfl rfl rfl rfl (by decide) (Nat.le_of_ble_eq_true rfl) dX12_behind_23 rfl rfl (fun rv5 wv5 hrv5 => ?_)
      obtain ⟨rfl, rfl⟩ := hrv5
      refine z_perm h (w2 := [(a0, .inr (12, [.ref a0_book, .ref a0_now, .int c0_sights, .ref a0_sight, .int c0_signs, .ref a0_pad, .int v5.2.1, .int v5.2.2.1, .int v5.2.2.2.1, .int v5.2.2.2.2.1, .int v5.2.2.2.2.2.1, .int v5.2.2.2.2.2.2.1, .ref a0_can, .ref a0_fitting, .ref a0_wins, .ref a0_image, .ref a0_isKept])), (a0_pad, .inl (G.2.1, 60, .inl c0_pad)), (a0_book, .inl (G.2.1, 56, .inl c0_book)), (a0_now, .inl (G.2.1, 56, .inl v5.2.2.2.2.2.2.2))]) (st := [.int v5.1]) [0, 1, 2, 3] rfl rfl ?_
      refine z_if_ge h (tgt := 34) dX12_behind_26 (by decide) rfl (fun c6 => ?_) (fun c6 => ?_)
      · have hf := ite_t hf c6
        refine z_aload_n h dX12_behind_34 0 rfl rfl ?_
        refine z_get h (C := RX12) (T := TX12) (N := 17) (v := .ref a0_now) 0 rfl rfl 1 (by decide) (by decide +kernel) (by decide +kernel) rfl dX12_behind_35 rfl ?_
        refine z_bipush h (v := (6 : Int32)) dX12_behind_38 (by decide) rfl ?_
        refine z_iload_n h dX12_behind_40 2 rfl rfl ?_
        refine z_imul h dX12_behind_41 rfl ?_
        refine z_iload_n h dX12_behind_42 1 rfl rfl ?_
        refine z_iadd h dX12_behind_43 rfl ?_
        obtain ⟨hg7, hf⟩ := gd_some hf
        refine z_iald h 3 rfl rfl hg7 dX12_behind_44 rfl ?_
        refine z_locs h (lv2 := []) [] rfl ?_
        exact hB45 v5.2.1 v5.2.2.1 v5.2.2.2.1 v5.2.2.2.2.1 v5.2.2.2.2.2.1 v5.2.2.2.2.2.2.1 v5.2.2.2.2.2.2.2 (v5.2.2.2.2.2.2.2 ((((6 : Int32) * x2) + x1)).toNatClampNeg) hf
      have hf := ite_f hf c6
      refine z_bipush h (v := (-5 : Int32)) dX12_behind_29 (by decide) rfl ?_
      refine z_goto h (tgt := 45) dX12_behind_31 (by decide) ?_
      refine z_locs h (lv2 := []) [] rfl ?_
      exact hB45 v5.2.1 v5.2.2.1 v5.2.2.2.1 v5.2.2.2.2.1 v5.2.2.2.2.2.1 v5.2.2.2.2.2.2.1 v5.2.2.2.2.2.2.2 (-5 : Int32) hf
    have hf := ite_t hf c4
    refine z_bipush h (v := (-2 : Int32)) dX12_behind_19 (by decide) rfl ?_
    have hf := Option.some.inj hf
    subst hf
    exact hret _ _ _ _ dX12_behind_21 ⟨rfl, rfl⟩
  have hf := ite_t hf c2
  refine z_iconst h (v := (-1 : Int32)) dX12_behind_7 (by decide) rfl ?_
  have hf := Option.some.inj hf
  subst hf
  exact hret _ _ _ _ dX12_behind_8 ⟨rfl, rfl⟩
def fX12_hushedOnes_b26 (c0_now : Nat → Int32) (K4 : (Int32 → Int32 → Option (Int32))) (x2 : Int32) (s0 : Int32) (s1 : Int32) : Option (Int32) := (K4 (s0 ||| s1) (x2 + (1 : Int32)))
def fX12_hushedOnes_L4 (c0_now : Nat → Int32)  : Nat → Int32 → Int32 → Option (Int32)
  | 0, _, _ => none
  | n + 1, x1, x2 => (if (6 : Int32) ≤ x2 then (some x1) else Option.bind (fX12_isHushed c0_now x2) (fun v2 => (if v2 = (0 : Int32) then (fX12_hushedOnes_b26 c0_now (fX12_hushedOnes_L4 c0_now  n) x2 x1 (0 : Int32)) else (fX12_hushedOnes_b26 c0_now (fX12_hushedOnes_L4 c0_now  n) x2 x1 (sl (1 : Int32) x2)))))
def fX12_hushedOnes (c0_now : Nat → Int32)  : Option (Int32) := (fX12_hushedOnes_L4 c0_now  zF (0 : Int32) (0 : Int32))
abbrev rmX12_hushedOnes : Room := { frames := 3, cells := 0, slots := 0, locals := 63 }
set_option maxRecDepth 100000 in
set_option maxHeartbeats 4000000 in
theorem ctX12_hushedOnes (l : Launch) (G : zG) (a0 a0_book a0_now a0_sight a0_pad a0_can a0_fitting a0_wins a0_image a0_isKept : Nat) (c0_sights : Int32) (c0_signs : Int32) (c0_offs : Int32) (c0_offAt : Int32) (c0_offWho : Int32) (c0_lastOff : Int32) (c0_reason : Int32) (c0_acts : Int32) (c0_now : Nat → Int32)  {R : Int32} (hf : fX12_hushedOnes c0_now = some R) : zCt l yX12_hushedOnes wsX12_hushedOnes rmX12_hushedOnes G [(a0, .inr (12, [.ref a0_book, .ref a0_now, .int c0_sights, .ref a0_sight, .int c0_signs, .ref a0_pad, .int c0_offs, .int c0_offAt, .int c0_offWho, .int c0_lastOff, .int c0_reason, .int c0_acts, .ref a0_can, .ref a0_fitting, .ref a0_wins, .ref a0_image, .ref a0_isKept])), (a0_now, .inl (G.2.1, 56, .inl c0_now))] [.ref a0] (fun v w => v = some (.int (R)) ∧ w = [(a0, .inr (12, [.ref a0_book, .ref a0_now, .int c0_sights, .ref a0_sight, .int c0_signs, .ref a0_pad, .int c0_offs, .int c0_offAt, .int c0_offWho, .int c0_lastOff, .int c0_reason, .int c0_acts, .ref a0_can, .ref a0_fitting, .ref a0_wins, .ref a0_image, .ref a0_isKept])), (a0_now, .inl (G.2.1, 56, .inl c0_now))]) := by
  refine zMkI (own := RX12) false (by decide) (by decide +kernel) rfl rfl (Nat.le_of_ble_eq_true rfl) ?_
  intro Z h hret
  have hL4 : ∀ (n4 : Nat) (x1 : Int32) (x2 : Int32), fX12_hushedOnes_L4 c0_now  n4 x1 x2 = some R → Z 0 0 [(a0, .inr (12, [.ref a0_book, .ref a0_now, .int c0_sights, .ref a0_sight, .int c0_signs, .ref a0_pad, .int c0_offs, .int c0_offAt, .int c0_offWho, .int c0_lastOff, .int c0_reason, .int c0_acts, .ref a0_can, .ref a0_fitting, .ref a0_wins, .ref a0_image, .ref a0_isKept])), (a0_now, .inl (G.2.1, 56, .inl c0_now))] [(0, .ref a0), (1, .int x1), (2, .int x2)] 4 [] := by
    intro n4
    induction n4 with
    | zero =>
      intro x1 x2 hf
      rw [fX12_hushedOnes_L4] at hf
      cases hf
    | succ n4 ih4 =>
      have hB26 : ∀ (x2 : Int32) (s0 : Int32) (s1 : Int32), fX12_hushedOnes_b26 c0_now (fX12_hushedOnes_L4 c0_now  n4) x2 s0 s1 = some R → Z 0 0 [(a0, .inr (12, [.ref a0_book, .ref a0_now, .int c0_sights, .ref a0_sight, .int c0_signs, .ref a0_pad, .int c0_offs, .int c0_offAt, .int c0_offWho, .int c0_lastOff, .int c0_reason, .int c0_acts, .ref a0_can, .ref a0_fitting, .ref a0_wins, .ref a0_image, .ref a0_isKept])), (a0_now, .inl (G.2.1, 56, .inl c0_now))] [(0, .ref a0), (2, .int x2)] 26 [.int s1, .int s0] := by
        intro x2 s0 s1 hf
        rw [fX12_hushedOnes_b26] at hf
        refine z_ior h dX12_hushedOnes_26 rfl ?_
        refine z_istore_n h (lv2 := [(1, .int (s0 ||| s1)), (0, .ref a0), (2, .int x2)]) dX12_hushedOnes_27 (by decide) rfl rfl ?_
        refine z_iinc h (v := (x2 + (1 : Int32))) (lv2 := [(2, .int (x2 + (1 : Int32))), (1, .int (s0 ||| s1)), (0, .ref a0)]) (j := 2) dX12_hushedOnes_28 rfl rfl (by decide) rfl rfl ?_
        refine z_goto h (tgt := 4) dX12_hushedOnes_31 (by decide) ?_
        refine z_locs h (lv2 := [(0, .ref a0), (1, .int (s0 ||| s1)), (2, .int (x2 + (1 : Int32)))]) [2, 1, 0] rfl ?_
        exact ih4 (s0 ||| s1) (x2 + (1 : Int32)) hf
      intro x1 x2 hf
      rw [fX12_hushedOnes_L4] at hf
      refine z_iload_n h dX12_hushedOnes_4 2 rfl rfl ?_
      refine z_bipush h (v := (6 : Int32)) dX12_hushedOnes_5 (by decide) rfl ?_
      refine z_icmp_ge h (tgt := 34) dX12_hushedOnes_7 (by decide) rfl (fun c1 => ?_) (fun c1 => ?_)
      · have hf := ite_t hf c1
        refine z_iload_n h dX12_hushedOnes_34 1 rfl rfl ?_
        have hf := Option.some.inj hf
        subst hf
        exact hret _ _ _ _ dX12_hushedOnes_35 ⟨rfl, rfl⟩
      have hf := ite_f hf c1
      refine z_iload_n h dX12_hushedOnes_10 1 rfl rfl ?_
      refine z_aload_n h dX12_hushedOnes_11 0 rfl rfl ?_
      refine z_iload_n h dX12_hushedOnes_12 2 rfl rfl ?_
      obtain ⟨v2, hv2, hf⟩ := bd_some hf
      refine z_callV h (np := 1) (st := [.int x1]) (wr := []) [.int x2] (ctX12_isHushed l G a0 a0_book a0_now a0_sight a0_pad a0_can a0_fitting a0_wins a0_image a0_isKept c0_sights c0_signs c0_offs c0_offAt c0_offWho c0_lastOff c0_reason c0_acts c0_now x2 hv2) gX12_hushedOnes_X12_isHushed (by decide +kernel) 0 rfl rfl rfl ⟨Nat.le_of_ble_eq_true rfl, Nat.le_of_ble_eq_true rfl⟩ ⟨Nat.le_refl _, Nat.le_refl _⟩ rfl rfl rfl [0, 1] [] rfl rfl rfl rfl (by decide) (Nat.le_of_ble_eq_true rfl) dX12_hushedOnes_13 rfl rfl (fun rv2 wv2 hrv2 => ?_)
      obtain ⟨rfl, rfl⟩ := hrv2
      refine z_perm h (w2 := [(a0, .inr (12, [.ref a0_book, .ref a0_now, .int c0_sights, .ref a0_sight, .int c0_signs, .ref a0_pad, .int c0_offs, .int c0_offAt, .int c0_offWho, .int c0_lastOff, .int c0_reason, .int c0_acts, .ref a0_can, .ref a0_fitting, .ref a0_wins, .ref a0_image, .ref a0_isKept])), (a0_now, .inl (G.2.1, 56, .inl c0_now))]) (st := [.int v2, .int x1]) [0, 1] rfl rfl ?_
      refine z_if_eq h (tgt := 25) dX12_hushedOnes_16 (by decide) rfl (fun c3 => ?_) (fun c3 => ?_)
      · have hf := ite_t hf c3
        refine z_iconst h (v := (0 : Int32)) dX12_hushedOnes_25 (by decide) rfl ?_
        refine z_locs h (lv2 := [(0, .ref a0), (2, .int x2)]) [0, 2] rfl ?_
        exact hB26 x2 x1 (0 : Int32) hf
      have hf := ite_f hf c3
      refine z_iconst h (v := (1 : Int32)) dX12_hushedOnes_19 (by decide) rfl ?_
      refine z_iload_n h dX12_hushedOnes_20 2 rfl rfl ?_
      refine z_ishl h dX12_hushedOnes_21 rfl ?_
      refine z_goto h (tgt := 26) dX12_hushedOnes_22 (by decide) ?_
      refine z_locs h (lv2 := [(0, .ref a0), (2, .int x2)]) [0, 2] rfl ?_
      exact hB26 x2 x1 (sl (1 : Int32) x2) hf
  rw [fX12_hushedOnes] at hf
  show Z 0 0 _ [(0, .ref a0)] 0 []
  refine z_iconst h (v := (0 : Int32)) dX12_hushedOnes_0 (by decide) rfl ?_
  refine z_istore_n h (lv2 := [(1, .int (0 : Int32)), (0, .ref a0)]) dX12_hushedOnes_1 (by decide) rfl rfl ?_
  refine z_iconst h (v := (0 : Int32)) dX12_hushedOnes_2 (by decide) rfl ?_
  refine z_istore_n h (lv2 := [(2, .int (0 : Int32)), (1, .int (0 : Int32)), (0, .ref a0)]) dX12_hushedOnes_3 (by decide) rfl rfl ?_
  refine z_locs h (lv2 := [(0, .ref a0), (1, .int (0 : Int32)), (2, .int (0 : Int32))]) [2, 1, 0] rfl ?_
  exact hL4 zF (0 : Int32) (0 : Int32) hf
def fX12_then_b80 (c0_signs : Int32) (c0_pad : Nat → Int32) (c0_book : Nat → Int32) (x1 : Int32)  (c0_offs : Int32) (c0_offAt : Int32) (c0_offWho : Int32) (c0_lastOff : Int32) (c0_reason : Int32) (c0_acts : Int32) (c0_now : Nat → Int32) (s0 : Int32) : Option (Int32 × Int32 × Int32 × Int32 × Int32 × Int32 × Int32 × (Nat → Int32)) := (some (s0, c0_offs, c0_offAt, c0_offWho, c0_lastOff, c0_reason, c0_acts, c0_now))
def fX12_then (c0_signs : Int32) (c0_offs : Int32) (c0_offAt : Int32) (c0_offWho : Int32) (c0_lastOff : Int32) (c0_reason : Int32) (c0_acts : Int32) (c0_pad : Nat → Int32) (c0_book : Nat → Int32) (c0_now : Nat → Int32) (x1 : Int32) : Option (Int32 × Int32 × Int32 × Int32 × Int32 × Int32 × Int32 × (Nat → Int32)) := Option.bind (fX12_in x1 (0 : Int32) (8 : Int32)) (fun v1 => (if v1 = (0 : Int32) then (some ((-2 : Int32), c0_offs, c0_offAt, c0_offWho, c0_lastOff, c0_reason, c0_acts, c0_now)) else Option.bind (fX12_barOfDays c0_signs c0_offs c0_offAt c0_offWho c0_lastOff c0_reason c0_acts c0_pad c0_book c0_now) (fun v3 => (if (0 : Int32) ≤ v3.1 then (if (5 : Int32) ≤ x1 then (if x1 = (5 : Int32) then Option.bind (fX12_hushedOnes v3.2.2.2.2.2.2.2) (fun v9 => (fX12_then_b80 c0_signs c0_pad c0_book x1  v3.2.1 v3.2.2.1 v3.2.2.2.1 v3.2.2.2.2.1 v3.2.2.2.2.2.1 v3.2.2.2.2.2.2.1 v3.2.2.2.2.2.2.2 v9)) else (if x1 = (6 : Int32) then (fX12_then_b80 c0_signs c0_pad c0_book x1  v3.2.1 v3.2.2.1 v3.2.2.2.1 v3.2.2.2.2.1 v3.2.2.2.2.2.1 v3.2.2.2.2.2.2.1 v3.2.2.2.2.2.2.2 v3.2.1) else (if x1 = (7 : Int32) then (fX12_then_b80 c0_signs c0_pad c0_book x1  v3.2.1 v3.2.2.1 v3.2.2.2.1 v3.2.2.2.2.1 v3.2.2.2.2.2.1 v3.2.2.2.2.2.2.1 v3.2.2.2.2.2.2.2 v3.2.2.1) else (fX12_then_b80 c0_signs c0_pad c0_book x1  v3.2.1 v3.2.2.1 v3.2.2.2.1 v3.2.2.2.2.1 v3.2.2.2.2.2.1 v3.2.2.2.2.2.2.1 v3.2.2.2.2.2.2.2 v3.2.2.2.1)))) else gd (inb ((48 : Int32) + x1) 56) ((some ((v3.2.2.2.2.2.2.2 (((48 : Int32) + x1)).toNatClampNeg), v3.2.1, v3.2.2.1, v3.2.2.2.1, v3.2.2.2.2.1, v3.2.2.2.2.2.1, v3.2.2.2.2.2.2.1, v3.2.2.2.2.2.2.2)))) else (some ((-5 : Int32), v3.2.1, v3.2.2.1, v3.2.2.2.1, v3.2.2.2.2.1, v3.2.2.2.2.2.1, v3.2.2.2.2.2.2.1, v3.2.2.2.2.2.2.2))))))
abbrev rmX12_then : Room := { frames := 6, cells := 0, slots := 0, locals := 129 }
set_option maxRecDepth 100000 in
set_option maxHeartbeats 4000000 in
theorem ctX12_then (l : Launch) (G : zG) (a0 a0_book a0_now a0_sight a0_pad a0_can a0_fitting a0_wins a0_image a0_isKept : Nat) (c0_sights : Int32) (c0_signs : Int32) (c0_offs : Int32) (c0_offAt : Int32) (c0_offWho : Int32) (c0_lastOff : Int32) (c0_reason : Int32) (c0_acts : Int32) (c0_pad : Nat → Int32) (c0_book : Nat → Int32) (c0_now : Nat → Int32) (x1 : Int32) {R : Int32 × Int32 × Int32 × Int32 × Int32 × Int32 × Int32 × (Nat → Int32)} (hf : fX12_then c0_signs c0_offs c0_offAt c0_offWho c0_lastOff c0_reason c0_acts c0_pad c0_book c0_now x1 = some R) : zCt l yX12_then wsX12_then rmX12_then G [(a0, .inr (12, [.ref a0_book, .ref a0_now, .int c0_sights, .ref a0_sight, .int c0_signs, .ref a0_pad, .int c0_offs, .int c0_offAt, .int c0_offWho, .int c0_lastOff, .int c0_reason, .int c0_acts, .ref a0_can, .ref a0_fitting, .ref a0_wins, .ref a0_image, .ref a0_isKept])), (a0_pad, .inl (G.2.1, 60, .inl c0_pad)), (a0_book, .inl (G.2.1, 56, .inl c0_book)), (a0_now, .inl (G.2.1, 56, .inl c0_now))] [.ref a0, .int x1] (fun v w => v = some (.int (R.1)) ∧ w = [(a0, .inr (12, [.ref a0_book, .ref a0_now, .int c0_sights, .ref a0_sight, .int c0_signs, .ref a0_pad, .int (R.2.1), .int (R.2.2.1), .int (R.2.2.2.1), .int (R.2.2.2.2.1), .int (R.2.2.2.2.2.1), .int (R.2.2.2.2.2.2.1), .ref a0_can, .ref a0_fitting, .ref a0_wins, .ref a0_image, .ref a0_isKept])), (a0_pad, .inl (G.2.1, 60, .inl c0_pad)), (a0_book, .inl (G.2.1, 56, .inl c0_book)), (a0_now, .inl (G.2.1, 56, .inl (R.2.2.2.2.2.2.2)))]) := by
  refine zMkI (own := RX12) false (by decide) (by decide +kernel) rfl rfl (Nat.le_of_ble_eq_true rfl) ?_
  intro Z h hret
  have hB80 : ∀ (c0_offs : Int32) (c0_offAt : Int32) (c0_offWho : Int32) (c0_lastOff : Int32) (c0_reason : Int32) (c0_acts : Int32) (c0_now : Nat → Int32) (s0 : Int32), fX12_then_b80 c0_signs c0_pad c0_book x1  c0_offs c0_offAt c0_offWho c0_lastOff c0_reason c0_acts c0_now s0 = some R → Z 0 0 [(a0, .inr (12, [.ref a0_book, .ref a0_now, .int c0_sights, .ref a0_sight, .int c0_signs, .ref a0_pad, .int c0_offs, .int c0_offAt, .int c0_offWho, .int c0_lastOff, .int c0_reason, .int c0_acts, .ref a0_can, .ref a0_fitting, .ref a0_wins, .ref a0_image, .ref a0_isKept])), (a0_pad, .inl (G.2.1, 60, .inl c0_pad)), (a0_book, .inl (G.2.1, 56, .inl c0_book)), (a0_now, .inl (G.2.1, 56, .inl c0_now))] [] 80 [.int s0] := by
    intro c0_offs c0_offAt c0_offWho c0_lastOff c0_reason c0_acts c0_now s0 hf
    rw [fX12_then_b80] at hf
    have hf := Option.some.inj hf
    subst hf
    exact hret _ _ _ _ dX12_then_80 ⟨rfl, rfl⟩
  rw [fX12_then] at hf
  show Z 0 0 _ [(0, .ref a0), (1, .int x1)] 0 []
  refine z_iload_n h dX12_then_0 1 rfl rfl ?_
  refine z_iconst h (v := (0 : Int32)) dX12_then_1 (by decide) rfl ?_
  refine z_bipush h (v := (8 : Int32)) dX12_then_2 (by decide) rfl ?_
  obtain ⟨v1, hv1, hf⟩ := bd_some hf
  refine z_callS h (np := 3) (st := []) (wr := [(a0, .inr (12, [.ref a0_book, .ref a0_now, .int c0_sights, .ref a0_sight, .int c0_signs, .ref a0_pad, .int c0_offs, .int c0_offAt, .int c0_offWho, .int c0_lastOff, .int c0_reason, .int c0_acts, .ref a0_can, .ref a0_fitting, .ref a0_wins, .ref a0_image, .ref a0_isKept])), (a0_pad, .inl (G.2.1, 60, .inl c0_pad)), (a0_book, .inl (G.2.1, 56, .inl c0_book)), (a0_now, .inl (G.2.1, 56, .inl c0_now))]) [.int x1, .int (0 : Int32), .int (8 : Int32)] (ctX12_in l G x1 (0 : Int32) (8 : Int32) hv1) gX12_then_X12_in (by decide +kernel) rfl ⟨Nat.le_of_ble_eq_true rfl, Nat.le_of_ble_eq_true rfl⟩ ⟨Nat.le_refl _, Nat.le_refl _⟩ rfl rfl rfl [] [0, 1, 2, 3] rfl rfl rfl rfl (by decide) (Nat.le_of_ble_eq_true rfl) dX12_then_4 rfl rfl (fun rv1 wv1 hrv1 => ?_)
  obtain ⟨rfl, rfl⟩ := hrv1
  refine z_perm h (w2 := [(a0, .inr (12, [.ref a0_book, .ref a0_now, .int c0_sights, .ref a0_sight, .int c0_signs, .ref a0_pad, .int c0_offs, .int c0_offAt, .int c0_offWho, .int c0_lastOff, .int c0_reason, .int c0_acts, .ref a0_can, .ref a0_fitting, .ref a0_wins, .ref a0_image, .ref a0_isKept])), (a0_pad, .inl (G.2.1, 60, .inl c0_pad)), (a0_book, .inl (G.2.1, 56, .inl c0_book)), (a0_now, .inl (G.2.1, 56, .inl c0_now))]) (st := [.int v1]) [0, 1, 2, 3] rfl rfl ?_
  refine z_if_ne h (tgt := 13) dX12_then_7 (by decide) rfl (fun c2 => ?_) (fun c2 => ?_)
  · have hf := ite_f hf c2
    refine z_aload_n h dX12_then_13 0 rfl rfl ?_
    obtain ⟨v3, hv3, hf⟩ := bd_some hf
    refine z_callV h (np := 0) (st := []) (wr := []) [] (ctX12_barOfDays l G a0 a0_book a0_now a0_sight a0_pad a0_can a0_fitting a0_wins a0_image a0_isKept c0_sights c0_signs c0_offs c0_offAt c0_offWho c0_lastOff c0_reason c0_acts c0_pad c0_book c0_now hv3) gX12_then_X12_barOfDays (by decide +kernel) 0 rfl rfl rfl ⟨Nat.le_of_ble_eq_true rfl, Nat.le_of_ble_eq_true rfl⟩ ⟨Nat.le_refl _, Nat.le_refl _⟩ rfl rfl rfl [0, 1, 2, 3] [] rfl rfl rfl rfl (by decide) (Nat.le_of_ble_eq_true rfl) dX12_then_14 rfl rfl (fun rv3 wv3 hrv3 => ?_)
    obtain ⟨rfl, rfl⟩ := hrv3
    refine z_perm h (w2 := [(a0, .inr (12, [.ref a0_book, .ref a0_now, .int c0_sights, .ref a0_sight, .int c0_signs, .ref a0_pad, .int v3.2.1, .int v3.2.2.1, .int v3.2.2.2.1, .int v3.2.2.2.2.1, .int v3.2.2.2.2.2.1, .int v3.2.2.2.2.2.2.1, .ref a0_can, .ref a0_fitting, .ref a0_wins, .ref a0_image, .ref a0_isKept])), (a0_pad, .inl (G.2.1, 60, .inl c0_pad)), (a0_book, .inl (G.2.1, 56, .inl c0_book)), (a0_now, .inl (G.2.1, 56, .inl v3.2.2.2.2.2.2.2))]) (st := [.int v3.1]) [0, 1, 2, 3] rfl rfl ?_
    refine z_if_ge h (tgt := 23) dX12_then_17 (by decide) rfl (fun c4 => ?_) (fun c4 => ?_)
    · have hf := ite_t hf c4
      refine z_iload_n h dX12_then_23 1 rfl rfl ?_
      refine z_iconst h (v := (5 : Int32)) dX12_then_24 (by decide) rfl ?_
      refine z_icmp_ge h (tgt := 38) dX12_then_25 (by decide) rfl (fun c5 => ?_) (fun c5 => ?_)
      · have hf := ite_t hf c5
        refine z_iload_n h dX12_then_38 1 rfl rfl ?_
        refine z_iconst h (v := (5 : Int32)) dX12_then_39 (by decide) rfl ?_
        refine z_icmp_ne h (tgt := 50) dX12_then_40 (by decide) rfl (fun c6 => ?_) (fun c6 => ?_)
        · have hf := ite_f hf c6
          refine z_iload_n h dX12_then_50 1 rfl rfl ?_
          refine z_bipush h (v := (6 : Int32)) dX12_then_51 (by decide) rfl ?_
          refine z_icmp_ne h (tgt := 63) dX12_then_53 (by decide) rfl (fun c7 => ?_) (fun c7 => ?_)
          · have hf := ite_f hf c7
            refine z_iload_n h dX12_then_63 1 rfl rfl ?_
            refine z_bipush h (v := (7 : Int32)) dX12_then_64 (by decide) rfl ?_
            refine z_icmp_ne h (tgt := 76) dX12_then_66 (by decide) rfl (fun c8 => ?_) (fun c8 => ?_)
            · have hf := ite_f hf c8
              refine z_aload_n h dX12_then_76 0 rfl rfl ?_
              refine z_get h (C := RX12) (T := TX12) (N := 17) (v := .int v3.2.2.2.1) 0 rfl rfl 8 (by decide) (by decide +kernel) (by decide +kernel) rfl dX12_then_77 rfl ?_
              refine z_locs h (lv2 := []) [] rfl ?_
              exact hB80 v3.2.1 v3.2.2.1 v3.2.2.2.1 v3.2.2.2.2.1 v3.2.2.2.2.2.1 v3.2.2.2.2.2.2.1 v3.2.2.2.2.2.2.2 v3.2.2.2.1 hf
            have hf := ite_t hf c8
            refine z_aload_n h dX12_then_69 0 rfl rfl ?_
            refine z_get h (C := RX12) (T := TX12) (N := 17) (v := .int v3.2.2.1) 0 rfl rfl 7 (by decide) (by decide +kernel) (by decide +kernel) rfl dX12_then_70 rfl ?_
            refine z_goto h (tgt := 80) dX12_then_73 (by decide) ?_
            refine z_locs h (lv2 := []) [] rfl ?_
            exact hB80 v3.2.1 v3.2.2.1 v3.2.2.2.1 v3.2.2.2.2.1 v3.2.2.2.2.2.1 v3.2.2.2.2.2.2.1 v3.2.2.2.2.2.2.2 v3.2.2.1 hf
          have hf := ite_t hf c7
          refine z_aload_n h dX12_then_56 0 rfl rfl ?_
          refine z_get h (C := RX12) (T := TX12) (N := 17) (v := .int v3.2.1) 0 rfl rfl 6 (by decide) (by decide +kernel) (by decide +kernel) rfl dX12_then_57 rfl ?_
          refine z_goto h (tgt := 80) dX12_then_60 (by decide) ?_
          refine z_locs h (lv2 := []) [] rfl ?_
          exact hB80 v3.2.1 v3.2.2.1 v3.2.2.2.1 v3.2.2.2.2.1 v3.2.2.2.2.2.1 v3.2.2.2.2.2.2.1 v3.2.2.2.2.2.2.2 v3.2.1 hf
        have hf := ite_t hf c6
        refine z_aload_n h dX12_then_43 0 rfl rfl ?_
        obtain ⟨v9, hv9, hf⟩ := bd_some hf
        refine z_callV h (np := 0) (st := []) (wr := [(a0_pad, .inl (G.2.1, 60, .inl c0_pad)), (a0_book, .inl (G.2.1, 56, .inl c0_book))]) [] (ctX12_hushedOnes l G a0 a0_book a0_now a0_sight a0_pad a0_can a0_fitting a0_wins a0_image a0_isKept c0_sights c0_signs v3.2.1 v3.2.2.1 v3.2.2.2.1 v3.2.2.2.2.1 v3.2.2.2.2.2.1 v3.2.2.2.2.2.2.1 v3.2.2.2.2.2.2.2 hv9) gX12_then_X12_hushedOnes (by decide +kernel) 0 rfl rfl rfl ⟨Nat.le_of_ble_eq_true rfl, Nat.le_of_ble_eq_true rfl⟩ ⟨Nat.le_refl _, Nat.le_refl _⟩ rfl rfl rfl [0, 3] [1, 2] rfl rfl rfl rfl (by decide) (Nat.le_of_ble_eq_true rfl) dX12_then_44 rfl rfl (fun rv9 wv9 hrv9 => ?_)
        obtain ⟨rfl, rfl⟩ := hrv9
        refine z_perm h (w2 := [(a0, .inr (12, [.ref a0_book, .ref a0_now, .int c0_sights, .ref a0_sight, .int c0_signs, .ref a0_pad, .int v3.2.1, .int v3.2.2.1, .int v3.2.2.2.1, .int v3.2.2.2.2.1, .int v3.2.2.2.2.2.1, .int v3.2.2.2.2.2.2.1, .ref a0_can, .ref a0_fitting, .ref a0_wins, .ref a0_image, .ref a0_isKept])), (a0_pad, .inl (G.2.1, 60, .inl c0_pad)), (a0_book, .inl (G.2.1, 56, .inl c0_book)), (a0_now, .inl (G.2.1, 56, .inl v3.2.2.2.2.2.2.2))]) (st := [.int v9]) [2, 0, 1, 3] rfl rfl ?_
        refine z_goto h (tgt := 80) dX12_then_47 (by decide) ?_
        refine z_locs h (lv2 := []) [] rfl ?_
        exact hB80 v3.2.1 v3.2.2.1 v3.2.2.2.1 v3.2.2.2.2.1 v3.2.2.2.2.2.1 v3.2.2.2.2.2.2.1 v3.2.2.2.2.2.2.2 v9 hf
      have hf := ite_f hf c5
      refine z_aload_n h dX12_then_28 0 rfl rfl ?_
      refine z_get h (C := RX12) (T := TX12) (N := 17) (v := .ref a0_now) 0 rfl rfl 1 (by decide) (by decide +kernel) (by decide +kernel) rfl dX12_then_29 rfl ?_
      refine z_bipush h (v := (48 : Int32)) dX12_then_32 (by decide) rfl ?_
      refine z_iload_n h dX12_then_34 1 rfl rfl ?_
      refine z_iadd h dX12_then_35 rfl ?_
      obtain ⟨hg10, hf⟩ := gd_some hf
      refine z_iald h 3 rfl rfl hg10 dX12_then_36 rfl ?_
      have hf := Option.some.inj hf
      subst hf
      exact hret _ _ _ _ dX12_then_37 ⟨rfl, rfl⟩
    have hf := ite_f hf c4
    refine z_bipush h (v := (-5 : Int32)) dX12_then_20 (by decide) rfl ?_
    have hf := Option.some.inj hf
    subst hf
    exact hret _ _ _ _ dX12_then_22 ⟨rfl, rfl⟩
  have hf := ite_t hf c2
  refine z_bipush h (v := (-2 : Int32)) dX12_then_10 (by decide) rfl ?_
  have hf := Option.some.inj hf
  subst hf
  exact hret _ _ _ _ dX12_then_12 ⟨rfl, rfl⟩
def fX12_blowHour_L4   : Nat → (Nat → Int32) → Int32 → Int32 → Option (Int32 × (Nat → Int32))
  | 0, _, _, _ => none
  | n + 1, c0_now, x1, x2 => gd (inb (50 : Int32) 56) ((if (c0_now ((50 : Int32)).toNatClampNeg) ≤ x2 then (some (x1, c0_now)) else Option.bind (fX12_blowOn c0_now) (fun v3 => gd (inb (48 : Int32) 56) (((fX12_blowHour_L4   n) v3 (x1 ||| (sl (1 : Int32) (v3 ((48 : Int32)).toNatClampNeg))) (x2 + (1 : Int32)))))))
def fX12_blowHour (c0_now : Nat → Int32)  : Option (Int32 × (Nat → Int32)) := (fX12_blowHour_L4   zF c0_now (0 : Int32) (0 : Int32))
abbrev rmX12_blowHour : Room := { frames := 3, cells := 0, slots := 0, locals := 63 }
set_option maxRecDepth 100000 in
set_option maxHeartbeats 4000000 in
theorem ctX12_blowHour (l : Launch) (G : zG) (a0 a0_book a0_now a0_sight a0_pad a0_can a0_fitting a0_wins a0_image a0_isKept : Nat) (c0_sights : Int32) (c0_signs : Int32) (c0_offs : Int32) (c0_offAt : Int32) (c0_offWho : Int32) (c0_lastOff : Int32) (c0_reason : Int32) (c0_acts : Int32) (c0_now : Nat → Int32)  {R : Int32 × (Nat → Int32)} (hf : fX12_blowHour c0_now = some R) : zCt l yX12_blowHour wsX12_blowHour rmX12_blowHour G [(a0, .inr (12, [.ref a0_book, .ref a0_now, .int c0_sights, .ref a0_sight, .int c0_signs, .ref a0_pad, .int c0_offs, .int c0_offAt, .int c0_offWho, .int c0_lastOff, .int c0_reason, .int c0_acts, .ref a0_can, .ref a0_fitting, .ref a0_wins, .ref a0_image, .ref a0_isKept])), (a0_now, .inl (G.2.1, 56, .inl c0_now))] [.ref a0] (fun v w => v = some (.int (R.1)) ∧ w = [(a0, .inr (12, [.ref a0_book, .ref a0_now, .int c0_sights, .ref a0_sight, .int c0_signs, .ref a0_pad, .int c0_offs, .int c0_offAt, .int c0_offWho, .int c0_lastOff, .int c0_reason, .int c0_acts, .ref a0_can, .ref a0_fitting, .ref a0_wins, .ref a0_image, .ref a0_isKept])), (a0_now, .inl (G.2.1, 56, .inl (R.2)))]) := by
  refine zMkI (own := RX12) false (by decide) (by decide +kernel) rfl rfl (Nat.le_of_ble_eq_true rfl) ?_
  intro Z h hret
  have hL4 : ∀ (n4 : Nat) (c0_now : Nat → Int32) (x1 : Int32) (x2 : Int32), fX12_blowHour_L4   n4 c0_now x1 x2 = some R → Z 0 0 [(a0, .inr (12, [.ref a0_book, .ref a0_now, .int c0_sights, .ref a0_sight, .int c0_signs, .ref a0_pad, .int c0_offs, .int c0_offAt, .int c0_offWho, .int c0_lastOff, .int c0_reason, .int c0_acts, .ref a0_can, .ref a0_fitting, .ref a0_wins, .ref a0_image, .ref a0_isKept])), (a0_now, .inl (G.2.1, 56, .inl c0_now))] [(0, .ref a0), (1, .int x1), (2, .int x2)] 4 [] := by
    intro n4
    induction n4 with
    | zero =>
      intro c0_now x1 x2 hf
      rw [fX12_blowHour_L4] at hf
      cases hf
    | succ n4 ih4 =>
      intro c0_now x1 x2 hf
      rw [fX12_blowHour_L4] at hf
      refine z_iload_n h dX12_blowHour_4 2 rfl rfl ?_
      refine z_aload_n h dX12_blowHour_5 0 rfl rfl ?_
      refine z_get h (C := RX12) (T := TX12) (N := 17) (v := .ref a0_now) 0 rfl rfl 1 (by decide) (by decide +kernel) (by decide +kernel) rfl dX12_blowHour_6 rfl ?_
      refine z_bipush h (v := (50 : Int32)) dX12_blowHour_9 (by decide) rfl ?_
      obtain ⟨hg1, hf⟩ := gd_some hf
      refine z_iald h 1 rfl rfl hg1 dX12_blowHour_11 rfl ?_
      refine z_icmp_ge h (tgt := 37) dX12_blowHour_12 (by decide) rfl (fun c2 => ?_) (fun c2 => ?_)
      · have hf := ite_t hf c2
        refine z_iload_n h dX12_blowHour_37 1 rfl rfl ?_
        have hf := Option.some.inj hf
        subst hf
        exact hret _ _ _ _ dX12_blowHour_38 ⟨rfl, rfl⟩
      have hf := ite_f hf c2
      refine z_aload_n h dX12_blowHour_15 0 rfl rfl ?_
      obtain ⟨v3, hv3, hf⟩ := bd_some hf
      refine z_callV h (np := 0) (st := []) (wr := []) [] (ctX12_blowOn l G a0 a0_book a0_now a0_sight a0_pad a0_can a0_fitting a0_wins a0_image a0_isKept c0_sights c0_signs c0_offs c0_offAt c0_offWho c0_lastOff c0_reason c0_acts c0_now hv3) gX12_blowHour_X12_blowOn (by decide +kernel) 0 rfl rfl rfl ⟨Nat.le_of_ble_eq_true rfl, Nat.le_of_ble_eq_true rfl⟩ ⟨Nat.le_refl _, Nat.le_refl _⟩ rfl rfl rfl [0, 1] [] rfl rfl rfl rfl (by decide) (Nat.le_of_ble_eq_true rfl) dX12_blowHour_16 rfl rfl (fun rv3 wv3 hrv3 => ?_)
      obtain ⟨rfl, rfl⟩ := hrv3
      refine z_perm h (w2 := [(a0, .inr (12, [.ref a0_book, .ref a0_now, .int c0_sights, .ref a0_sight, .int c0_signs, .ref a0_pad, .int c0_offs, .int c0_offAt, .int c0_offWho, .int c0_lastOff, .int c0_reason, .int c0_acts, .ref a0_can, .ref a0_fitting, .ref a0_wins, .ref a0_image, .ref a0_isKept])), (a0_now, .inl (G.2.1, 56, .inl v3))]) (st := []) [0, 1] rfl rfl ?_
      refine z_iload_n h dX12_blowHour_19 1 rfl rfl ?_
      refine z_iconst h (v := (1 : Int32)) dX12_blowHour_20 (by decide) rfl ?_
      refine z_aload_n h dX12_blowHour_21 0 rfl rfl ?_
      refine z_get h (C := RX12) (T := TX12) (N := 17) (v := .ref a0_now) 0 rfl rfl 1 (by decide) (by decide +kernel) (by decide +kernel) rfl dX12_blowHour_22 rfl ?_
      refine z_bipush h (v := (48 : Int32)) dX12_blowHour_25 (by decide) rfl ?_
      obtain ⟨hg4, hf⟩ := gd_some hf
      refine z_iald h 1 rfl rfl hg4 dX12_blowHour_27 rfl ?_
      refine z_ishl h dX12_blowHour_28 rfl ?_
      refine z_ior h dX12_blowHour_29 rfl ?_
      refine z_istore_n h (lv2 := [(1, .int (x1 ||| (sl (1 : Int32) (v3 ((48 : Int32)).toNatClampNeg)))), (0, .ref a0), (2, .int x2)]) dX12_blowHour_30 (by decide) rfl rfl ?_
      refine z_iinc h (v := (x2 + (1 : Int32))) (lv2 := [(2, .int (x2 + (1 : Int32))), (1, .int (x1 ||| (sl (1 : Int32) (v3 ((48 : Int32)).toNatClampNeg)))), (0, .ref a0)]) (j := 2) dX12_blowHour_31 rfl rfl (by decide) rfl rfl ?_
      refine z_goto h (tgt := 4) dX12_blowHour_34 (by decide) ?_
      refine z_locs h (lv2 := [(0, .ref a0), (1, .int (x1 ||| (sl (1 : Int32) (v3 ((48 : Int32)).toNatClampNeg)))), (2, .int (x2 + (1 : Int32)))]) [2, 1, 0] rfl ?_
      exact ih4 v3 (x1 ||| (sl (1 : Int32) (v3 ((48 : Int32)).toNatClampNeg))) (x2 + (1 : Int32)) hf
  rw [fX12_blowHour] at hf
  show Z 0 0 _ [(0, .ref a0)] 0 []
  refine z_iconst h (v := (0 : Int32)) dX12_blowHour_0 (by decide) rfl ?_
  refine z_istore_n h (lv2 := [(1, .int (0 : Int32)), (0, .ref a0)]) dX12_blowHour_1 (by decide) rfl rfl ?_
  refine z_iconst h (v := (0 : Int32)) dX12_blowHour_2 (by decide) rfl ?_
  refine z_istore_n h (lv2 := [(2, .int (0 : Int32)), (1, .int (0 : Int32)), (0, .ref a0)]) dX12_blowHour_3 (by decide) rfl rfl ?_
  refine z_locs h (lv2 := [(0, .ref a0), (1, .int (0 : Int32)), (2, .int (0 : Int32))]) [2, 1, 0] rfl ?_
  exact hL4 zF c0_now (0 : Int32) (0 : Int32) hf
def fX12_when_b53 (c0_book : Nat → Int32) (x1 : Int32) (K17 : (Int32 → Int32 → Int32 → Int32 → (Nat → Int32) → Int32 → Int32 → Option (Int32 × Int32 × Int32 × Int32 × Int32 × (Nat → Int32)))) (c0_offs : Int32) (c0_offAt : Int32) (c0_offWho : Int32) (c0_lastOff : Int32) (c0_now : Nat → Int32) (x3 : Int32) (s0 : Int32) (s1 : Int32) : Option (Int32 × Int32 × Int32 × Int32 × Int32 × (Nat → Int32)) := (K17 c0_offs c0_offAt c0_offWho c0_lastOff c0_now (s0 ||| s1) (x3 + (1 : Int32)))
def fX12_when_L17 (c0_book : Nat → Int32) (x1 : Int32)  : Nat → Int32 → Int32 → Int32 → Int32 → (Nat → Int32) → Int32 → Int32 → Option (Int32 × Int32 × Int32 × Int32 × Int32 × (Nat → Int32))
  | 0, _, _, _, _, _, _, _ => none
  | n + 1, c0_offs, c0_offAt, c0_offWho, c0_lastOff, c0_now, x2, x3 => (if (9 : Int32) ≤ x3 then (some (x2, c0_offs, c0_offAt, c0_offWho, c0_lastOff, c0_now)) else Option.bind (fX12_blowHour c0_now) (fun v2 => Option.bind (fX12_has v2.1 x1) (fun v3 => (if v3 = (0 : Int32) then (fX12_when_b53 c0_book x1 (fX12_when_L17 c0_book x1  n) c0_offs c0_offAt c0_offWho c0_lastOff v2.2 x3 x2 (0 : Int32)) else gd (inb (51 : Int32) 56) ((fX12_when_b53 c0_book x1 (fX12_when_L17 c0_book x1  n) c0_offs c0_offAt c0_offWho c0_lastOff v2.2 x3 x2 (sl (1 : Int32) (irm ((c0_book ((51 : Int32)).toNatClampNeg) + x3) (8 : Int32)))))))))
def fX12_when (c0_offs : Int32) (c0_offAt : Int32) (c0_offWho : Int32) (c0_lastOff : Int32) (c0_book : Nat → Int32) (c0_now : Nat → Int32) (x1 : Int32) : Option (Int32 × Int32 × Int32 × Int32 × Int32 × (Nat → Int32)) := Option.bind (fX12_isCell x1) (fun v6 => (if v6 = (0 : Int32) then (some ((-1 : Int32), c0_offs, c0_offAt, c0_offWho, c0_lastOff, c0_now)) else Option.bind (fX12_asNow c0_offs c0_offAt c0_offWho c0_lastOff c0_book c0_now) (fun v8 => (fX12_when_L17 c0_book x1  zF v8.1 v8.2.1 v8.2.2.1 v8.2.2.2.1 v8.2.2.2.2 (0 : Int32) (1 : Int32)))))
abbrev rmX12_when : Room := { frames := 4, cells := 0, slots := 0, locals := 85 }
set_option maxRecDepth 100000 in
set_option maxHeartbeats 4000000 in
theorem ctX12_when (l : Launch) (G : zG) (a0 a0_book a0_now a0_sight a0_pad a0_can a0_fitting a0_wins a0_image a0_isKept : Nat) (c0_sights : Int32) (c0_signs : Int32) (c0_offs : Int32) (c0_offAt : Int32) (c0_offWho : Int32) (c0_lastOff : Int32) (c0_reason : Int32) (c0_acts : Int32) (c0_book : Nat → Int32) (c0_now : Nat → Int32) (x1 : Int32) {R : Int32 × Int32 × Int32 × Int32 × Int32 × (Nat → Int32)} (hf : fX12_when c0_offs c0_offAt c0_offWho c0_lastOff c0_book c0_now x1 = some R) : zCt l yX12_when wsX12_when rmX12_when G [(a0, .inr (12, [.ref a0_book, .ref a0_now, .int c0_sights, .ref a0_sight, .int c0_signs, .ref a0_pad, .int c0_offs, .int c0_offAt, .int c0_offWho, .int c0_lastOff, .int c0_reason, .int c0_acts, .ref a0_can, .ref a0_fitting, .ref a0_wins, .ref a0_image, .ref a0_isKept])), (a0_book, .inl (G.2.1, 56, .inl c0_book)), (a0_now, .inl (G.2.1, 56, .inl c0_now))] [.ref a0, .int x1] (fun v w => v = some (.int (R.1)) ∧ w = [(a0, .inr (12, [.ref a0_book, .ref a0_now, .int c0_sights, .ref a0_sight, .int c0_signs, .ref a0_pad, .int (R.2.1), .int (R.2.2.1), .int (R.2.2.2.1), .int (R.2.2.2.2.1), .int c0_reason, .int c0_acts, .ref a0_can, .ref a0_fitting, .ref a0_wins, .ref a0_image, .ref a0_isKept])), (a0_book, .inl (G.2.1, 56, .inl c0_book)), (a0_now, .inl (G.2.1, 56, .inl (R.2.2.2.2.2)))]) := by
  refine zMkI (own := RX12) false (by decide) (by decide +kernel) rfl rfl (Nat.le_of_ble_eq_true rfl) ?_
  intro Z h hret
  have hL17 : ∀ (n17 : Nat) (c0_offs : Int32) (c0_offAt : Int32) (c0_offWho : Int32) (c0_lastOff : Int32) (c0_now : Nat → Int32) (x2 : Int32) (x3 : Int32), fX12_when_L17 c0_book x1  n17 c0_offs c0_offAt c0_offWho c0_lastOff c0_now x2 x3 = some R → Z 0 0 [(a0, .inr (12, [.ref a0_book, .ref a0_now, .int c0_sights, .ref a0_sight, .int c0_signs, .ref a0_pad, .int c0_offs, .int c0_offAt, .int c0_offWho, .int c0_lastOff, .int c0_reason, .int c0_acts, .ref a0_can, .ref a0_fitting, .ref a0_wins, .ref a0_image, .ref a0_isKept])), (a0_book, .inl (G.2.1, 56, .inl c0_book)), (a0_now, .inl (G.2.1, 56, .inl c0_now))] [(0, .ref a0), (1, .int x1), (2, .int x2), (3, .int x3)] 17 [] := by
    intro n17
    induction n17 with
    | zero =>
      intro c0_offs c0_offAt c0_offWho c0_lastOff c0_now x2 x3 hf
      rw [fX12_when_L17] at hf
      cases hf
    | succ n17 ih17 =>
      have hB53 : ∀ (c0_offs : Int32) (c0_offAt : Int32) (c0_offWho : Int32) (c0_lastOff : Int32) (c0_now : Nat → Int32) (x3 : Int32) (s0 : Int32) (s1 : Int32), fX12_when_b53 c0_book x1 (fX12_when_L17 c0_book x1  n17) c0_offs c0_offAt c0_offWho c0_lastOff c0_now x3 s0 s1 = some R → Z 0 0 [(a0, .inr (12, [.ref a0_book, .ref a0_now, .int c0_sights, .ref a0_sight, .int c0_signs, .ref a0_pad, .int c0_offs, .int c0_offAt, .int c0_offWho, .int c0_lastOff, .int c0_reason, .int c0_acts, .ref a0_can, .ref a0_fitting, .ref a0_wins, .ref a0_image, .ref a0_isKept])), (a0_book, .inl (G.2.1, 56, .inl c0_book)), (a0_now, .inl (G.2.1, 56, .inl c0_now))] [(0, .ref a0), (1, .int x1), (3, .int x3)] 53 [.int s1, .int s0] := by
        intro c0_offs c0_offAt c0_offWho c0_lastOff c0_now x3 s0 s1 hf
        rw [fX12_when_b53] at hf
        refine z_ior h dX12_when_53 rfl ?_
        refine z_istore_n h (lv2 := [(2, .int (s0 ||| s1)), (0, .ref a0), (1, .int x1), (3, .int x3)]) dX12_when_54 (by decide) rfl rfl ?_
        refine z_iinc h (v := (x3 + (1 : Int32))) (lv2 := [(3, .int (x3 + (1 : Int32))), (2, .int (s0 ||| s1)), (0, .ref a0), (1, .int x1)]) (j := 3) dX12_when_55 rfl rfl (by decide) rfl rfl ?_
        refine z_goto h (tgt := 17) dX12_when_58 (by decide) ?_
        refine z_locs h (lv2 := [(0, .ref a0), (1, .int x1), (2, .int (s0 ||| s1)), (3, .int (x3 + (1 : Int32)))]) [2, 3, 1, 0] rfl ?_
        exact ih17 c0_offs c0_offAt c0_offWho c0_lastOff c0_now (s0 ||| s1) (x3 + (1 : Int32)) hf
      intro c0_offs c0_offAt c0_offWho c0_lastOff c0_now x2 x3 hf
      rw [fX12_when_L17] at hf
      refine z_iload_n h dX12_when_17 3 rfl rfl ?_
      refine z_bipush h (v := (9 : Int32)) dX12_when_18 (by decide) rfl ?_
      refine z_icmp_ge h (tgt := 61) dX12_when_20 (by decide) rfl (fun c1 => ?_) (fun c1 => ?_)
      · have hf := ite_t hf c1
        refine z_iload_n h dX12_when_61 2 rfl rfl ?_
        have hf := Option.some.inj hf
        subst hf
        exact hret _ _ _ _ dX12_when_62 ⟨rfl, rfl⟩
      have hf := ite_f hf c1
      refine z_iload_n h dX12_when_23 2 rfl rfl ?_
      refine z_aload_n h dX12_when_24 0 rfl rfl ?_
      obtain ⟨v2, hv2, hf⟩ := bd_some hf
      refine z_callV h (np := 0) (st := [.int x2]) (wr := [(a0_book, .inl (G.2.1, 56, .inl c0_book))]) [] (ctX12_blowHour l G a0 a0_book a0_now a0_sight a0_pad a0_can a0_fitting a0_wins a0_image a0_isKept c0_sights c0_signs c0_offs c0_offAt c0_offWho c0_lastOff c0_reason c0_acts c0_now hv2) gX12_when_X12_blowHour (by decide +kernel) 0 rfl rfl rfl ⟨Nat.le_of_ble_eq_true rfl, Nat.le_of_ble_eq_true rfl⟩ ⟨Nat.le_refl _, Nat.le_refl _⟩ rfl rfl rfl [0, 2] [1] rfl rfl rfl rfl (by decide) (Nat.le_of_ble_eq_true rfl) dX12_when_25 rfl rfl (fun rv2 wv2 hrv2 => ?_)
      obtain ⟨rfl, rfl⟩ := hrv2
      refine z_perm h (w2 := [(a0, .inr (12, [.ref a0_book, .ref a0_now, .int c0_sights, .ref a0_sight, .int c0_signs, .ref a0_pad, .int c0_offs, .int c0_offAt, .int c0_offWho, .int c0_lastOff, .int c0_reason, .int c0_acts, .ref a0_can, .ref a0_fitting, .ref a0_wins, .ref a0_image, .ref a0_isKept])), (a0_book, .inl (G.2.1, 56, .inl c0_book)), (a0_now, .inl (G.2.1, 56, .inl v2.2))]) (st := [.int v2.1, .int x2]) [1, 0, 2] rfl rfl ?_
      refine z_iload_n h dX12_when_28 1 rfl rfl ?_
      obtain ⟨v3, hv3, hf⟩ := bd_some hf
      refine z_callS h (np := 2) (st := [.int x2]) (wr := [(a0, .inr (12, [.ref a0_book, .ref a0_now, .int c0_sights, .ref a0_sight, .int c0_signs, .ref a0_pad, .int c0_offs, .int c0_offAt, .int c0_offWho, .int c0_lastOff, .int c0_reason, .int c0_acts, .ref a0_can, .ref a0_fitting, .ref a0_wins, .ref a0_image, .ref a0_isKept])), (a0_book, .inl (G.2.1, 56, .inl c0_book)), (a0_now, .inl (G.2.1, 56, .inl v2.2))]) [.int v2.1, .int x1] (ctX12_has l G v2.1 x1 hv3) gX12_when_X12_has (by decide +kernel) rfl ⟨Nat.le_of_ble_eq_true rfl, Nat.le_of_ble_eq_true rfl⟩ ⟨Nat.le_refl _, Nat.le_refl _⟩ rfl rfl rfl [] [0, 1, 2] rfl rfl rfl rfl (by decide) (Nat.le_of_ble_eq_true rfl) dX12_when_29 rfl rfl (fun rv3 wv3 hrv3 => ?_)
      obtain ⟨rfl, rfl⟩ := hrv3
      refine z_perm h (w2 := [(a0, .inr (12, [.ref a0_book, .ref a0_now, .int c0_sights, .ref a0_sight, .int c0_signs, .ref a0_pad, .int c0_offs, .int c0_offAt, .int c0_offWho, .int c0_lastOff, .int c0_reason, .int c0_acts, .ref a0_can, .ref a0_fitting, .ref a0_wins, .ref a0_image, .ref a0_isKept])), (a0_book, .inl (G.2.1, 56, .inl c0_book)), (a0_now, .inl (G.2.1, 56, .inl v2.2))]) (st := [.int v3, .int x2]) [0, 1, 2] rfl rfl ?_
      refine z_if_eq h (tgt := 52) dX12_when_32 (by decide) rfl (fun c4 => ?_) (fun c4 => ?_)
      · have hf := ite_t hf c4
        refine z_iconst h (v := (0 : Int32)) dX12_when_52 (by decide) rfl ?_
        refine z_locs h (lv2 := [(0, .ref a0), (1, .int x1), (3, .int x3)]) [0, 1, 3] rfl ?_
        exact hB53 c0_offs c0_offAt c0_offWho c0_lastOff v2.2 x3 x2 (0 : Int32) hf
      have hf := ite_f hf c4
      refine z_iconst h (v := (1 : Int32)) dX12_when_35 (by decide) rfl ?_
      refine z_aload_n h dX12_when_36 0 rfl rfl ?_
      refine z_get h (C := RX12) (T := TX12) (N := 17) (v := .ref a0_book) 0 rfl rfl 0 (by decide) (by decide +kernel) (by decide +kernel) rfl dX12_when_37 rfl ?_
      refine z_bipush h (v := (51 : Int32)) dX12_when_40 (by decide) rfl ?_
      obtain ⟨hg5, hf⟩ := gd_some hf
      refine z_iald h 1 rfl rfl hg5 dX12_when_42 rfl ?_
      refine z_iload_n h dX12_when_43 3 rfl rfl ?_
      refine z_iadd h dX12_when_44 rfl ?_
      refine z_bipush h (v := (8 : Int32)) dX12_when_45 (by decide) rfl ?_
      refine z_irem h dX12_when_47 (by decide) rfl ?_
      refine z_ishl h dX12_when_48 rfl ?_
      refine z_goto h (tgt := 53) dX12_when_49 (by decide) ?_
      refine z_locs h (lv2 := [(0, .ref a0), (1, .int x1), (3, .int x3)]) [0, 1, 3] rfl ?_
      exact hB53 c0_offs c0_offAt c0_offWho c0_lastOff v2.2 x3 x2 (sl (1 : Int32) (irm ((c0_book ((51 : Int32)).toNatClampNeg) + x3) (8 : Int32))) hf
  rw [fX12_when] at hf
  show Z 0 0 _ [(0, .ref a0), (1, .int x1)] 0 []
  refine z_iload_n h dX12_when_0 1 rfl rfl ?_
  obtain ⟨v6, hv6, hf⟩ := bd_some hf
  refine z_callS h (np := 1) (st := []) (wr := [(a0, .inr (12, [.ref a0_book, .ref a0_now, .int c0_sights, .ref a0_sight, .int c0_signs, .ref a0_pad, .int c0_offs, .int c0_offAt, .int c0_offWho, .int c0_lastOff, .int c0_reason, .int c0_acts, .ref a0_can, .ref a0_fitting, .ref a0_wins, .ref a0_image, .ref a0_isKept])), (a0_book, .inl (G.2.1, 56, .inl c0_book)), (a0_now, .inl (G.2.1, 56, .inl c0_now))]) [.int x1] (ctX12_isCell l G x1 hv6) gX12_when_X12_isCell (by decide +kernel) rfl ⟨Nat.le_of_ble_eq_true rfl, Nat.le_of_ble_eq_true rfl⟩ ⟨Nat.le_refl _, Nat.le_refl _⟩ rfl rfl rfl [] [0, 1, 2] rfl rfl rfl rfl (by decide) (Nat.le_of_ble_eq_true rfl) dX12_when_1 rfl rfl (fun rv6 wv6 hrv6 => ?_)
  obtain ⟨rfl, rfl⟩ := hrv6
  refine z_perm h (w2 := [(a0, .inr (12, [.ref a0_book, .ref a0_now, .int c0_sights, .ref a0_sight, .int c0_signs, .ref a0_pad, .int c0_offs, .int c0_offAt, .int c0_offWho, .int c0_lastOff, .int c0_reason, .int c0_acts, .ref a0_can, .ref a0_fitting, .ref a0_wins, .ref a0_image, .ref a0_isKept])), (a0_book, .inl (G.2.1, 56, .inl c0_book)), (a0_now, .inl (G.2.1, 56, .inl c0_now))]) (st := [.int v6]) [0, 1, 2] rfl rfl ?_
  refine z_if_ne h (tgt := 9) dX12_when_4 (by decide) rfl (fun c7 => ?_) (fun c7 => ?_)
  · have hf := ite_f hf c7
    refine z_aload_n h dX12_when_9 0 rfl rfl ?_
    obtain ⟨v8, hv8, hf⟩ := bd_some hf
    refine z_callV h (np := 0) (st := []) (wr := []) [] (ctX12_asNow l G a0 a0_book a0_now a0_sight a0_pad a0_can a0_fitting a0_wins a0_image a0_isKept c0_sights c0_signs c0_offs c0_offAt c0_offWho c0_lastOff c0_reason c0_acts c0_book c0_now hv8) gX12_when_X12_asNow (by decide +kernel) 0 rfl rfl rfl ⟨Nat.le_of_ble_eq_true rfl, Nat.le_of_ble_eq_true rfl⟩ ⟨Nat.le_refl _, Nat.le_refl _⟩ rfl rfl rfl [0, 1, 2] [] rfl rfl rfl rfl (by decide) (Nat.le_of_ble_eq_true rfl) dX12_when_10 rfl rfl (fun rv8 wv8 hrv8 => ?_)
    obtain ⟨rfl, rfl⟩ := hrv8
    refine z_perm h (w2 := [(a0, .inr (12, [.ref a0_book, .ref a0_now, .int c0_sights, .ref a0_sight, .int c0_signs, .ref a0_pad, .int v8.1, .int v8.2.1, .int v8.2.2.1, .int v8.2.2.2.1, .int c0_reason, .int c0_acts, .ref a0_can, .ref a0_fitting, .ref a0_wins, .ref a0_image, .ref a0_isKept])), (a0_book, .inl (G.2.1, 56, .inl c0_book)), (a0_now, .inl (G.2.1, 56, .inl v8.2.2.2.2))]) (st := []) [0, 1, 2] rfl rfl ?_
    refine z_iconst h (v := (0 : Int32)) dX12_when_13 (by decide) rfl ?_
    refine z_istore_n h (lv2 := [(2, .int (0 : Int32)), (0, .ref a0), (1, .int x1)]) dX12_when_14 (by decide) rfl rfl ?_
    refine z_iconst h (v := (1 : Int32)) dX12_when_15 (by decide) rfl ?_
    refine z_istore_n h (lv2 := [(3, .int (1 : Int32)), (2, .int (0 : Int32)), (0, .ref a0), (1, .int x1)]) dX12_when_16 (by decide) rfl rfl ?_
    refine z_locs h (lv2 := [(0, .ref a0), (1, .int x1), (2, .int (0 : Int32)), (3, .int (1 : Int32))]) [2, 3, 1, 0] rfl ?_
    exact hL17 zF v8.1 v8.2.1 v8.2.2.1 v8.2.2.2.1 v8.2.2.2.2 (0 : Int32) (1 : Int32) hf
  have hf := ite_t hf c7
  refine z_iconst h (v := (-1 : Int32)) dX12_when_7 (by decide) rfl ?_
  have hf := Option.some.inj hf
  subst hf
  exact hret _ _ _ _ dX12_when_8 ⟨rfl, rfl⟩
def fX12_hoursTo_L7 (x1 : Int32) (x2 : Int32)  : Nat → (Nat → Int32) → Int32 → Int32 → Option (Int32 × (Nat → Int32))
  | 0, _, _, _ => none
  | n + 1, c0_now, x3, x4 => (if (600 : Int32) ≤ x4 then (some ((1000000 : Int32), c0_now)) else Option.bind (fX12_has x3 x2) (fun v2 => (if v2 = (0 : Int32) then Option.bind (fX12_blowHour c0_now) (fun v4 => ((fX12_hoursTo_L7 x1 x2  n) v4.2 ((((x3 ||| (sl x3 (1 : Int32))) ||| (sr x3 (1 : Int32))) &&& (4095 : Int32)) &&& (v4.1 ^^^ (-1 : Int32))) (x4 + (1 : Int32)))) else (some (x4, c0_now)))))
def fX12_hoursTo (c0_now : Nat → Int32) (x1 : Int32) (x2 : Int32) : Option (Int32 × (Nat → Int32)) := (fX12_hoursTo_L7 x1 x2  zF c0_now (sl (1 : Int32) x1) (0 : Int32))
abbrev rmX12_hoursTo : Room := { frames := 4, cells := 0, slots := 0, locals := 85 }
set_option maxRecDepth 100000 in
set_option maxHeartbeats 4000000 in
theorem ctX12_hoursTo (l : Launch) (G : zG) (a0 a0_book a0_now a0_sight a0_pad a0_can a0_fitting a0_wins a0_image a0_isKept : Nat) (c0_sights : Int32) (c0_signs : Int32) (c0_offs : Int32) (c0_offAt : Int32) (c0_offWho : Int32) (c0_lastOff : Int32) (c0_reason : Int32) (c0_acts : Int32) (c0_now : Nat → Int32) (x1 : Int32) (x2 : Int32) {R : Int32 × (Nat → Int32)} (hf : fX12_hoursTo c0_now x1 x2 = some R) : zCt l yX12_hoursTo wsX12_hoursTo rmX12_hoursTo G [(a0, .inr (12, [.ref a0_book, .ref a0_now, .int c0_sights, .ref a0_sight, .int c0_signs, .ref a0_pad, .int c0_offs, .int c0_offAt, .int c0_offWho, .int c0_lastOff, .int c0_reason, .int c0_acts, .ref a0_can, .ref a0_fitting, .ref a0_wins, .ref a0_image, .ref a0_isKept])), (a0_now, .inl (G.2.1, 56, .inl c0_now))] [.ref a0, .int x1, .int x2] (fun v w => v = some (.int (R.1)) ∧ w = [(a0, .inr (12, [.ref a0_book, .ref a0_now, .int c0_sights, .ref a0_sight, .int c0_signs, .ref a0_pad, .int c0_offs, .int c0_offAt, .int c0_offWho, .int c0_lastOff, .int c0_reason, .int c0_acts, .ref a0_can, .ref a0_fitting, .ref a0_wins, .ref a0_image, .ref a0_isKept])), (a0_now, .inl (G.2.1, 56, .inl (R.2)))]) := by
  refine zMkI (own := RX12) false (by decide) (by decide +kernel) rfl rfl (Nat.le_of_ble_eq_true rfl) ?_
  intro Z h hret
  have hL7 : ∀ (n7 : Nat) (c0_now : Nat → Int32) (x3 : Int32) (x4 : Int32), fX12_hoursTo_L7 x1 x2  n7 c0_now x3 x4 = some R → Z 0 0 [(a0, .inr (12, [.ref a0_book, .ref a0_now, .int c0_sights, .ref a0_sight, .int c0_signs, .ref a0_pad, .int c0_offs, .int c0_offAt, .int c0_offWho, .int c0_lastOff, .int c0_reason, .int c0_acts, .ref a0_can, .ref a0_fitting, .ref a0_wins, .ref a0_image, .ref a0_isKept])), (a0_now, .inl (G.2.1, 56, .inl c0_now))] [(0, .ref a0), (2, .int x2), (3, .int x3), (4, .int x4)] 7 [] := by
    intro n7
    induction n7 with
    | zero =>
      intro c0_now x3 x4 hf
      rw [fX12_hoursTo_L7] at hf
      cases hf
    | succ n7 ih7 =>
      intro c0_now x3 x4 hf
      rw [fX12_hoursTo_L7] at hf
      refine z_iload h dX12_hoursTo_7 3 rfl rfl ?_
      refine z_sipush h (v := (600 : Int32)) dX12_hoursTo_9 (by decide) rfl ?_
      refine z_icmp_ge h (tgt := 57) dX12_hoursTo_12 (by decide) rfl (fun c1 => ?_) (fun c1 => ?_)
      · have hf := ite_t hf c1
        refine z_ldc h (v := (1000000 : Int32)) dX12_hoursTo_57 (by decide +kernel) rfl ?_
        have hf := Option.some.inj hf
        subst hf
        exact hret _ _ _ _ dX12_hoursTo_59 ⟨rfl, rfl⟩
      have hf := ite_f hf c1
      refine z_iload_n h dX12_hoursTo_15 2 rfl rfl ?_
      refine z_iload_n h dX12_hoursTo_16 1 rfl rfl ?_
      obtain ⟨v2, hv2, hf⟩ := bd_some hf
      refine z_callS h (np := 2) (st := []) (wr := [(a0, .inr (12, [.ref a0_book, .ref a0_now, .int c0_sights, .ref a0_sight, .int c0_signs, .ref a0_pad, .int c0_offs, .int c0_offAt, .int c0_offWho, .int c0_lastOff, .int c0_reason, .int c0_acts, .ref a0_can, .ref a0_fitting, .ref a0_wins, .ref a0_image, .ref a0_isKept])), (a0_now, .inl (G.2.1, 56, .inl c0_now))]) [.int x3, .int x2] (ctX12_has l G x3 x2 hv2) gX12_hoursTo_X12_has (by decide +kernel) rfl ⟨Nat.le_of_ble_eq_true rfl, Nat.le_of_ble_eq_true rfl⟩ ⟨Nat.le_refl _, Nat.le_refl _⟩ rfl rfl rfl [] [0, 1] rfl rfl rfl rfl (by decide) (Nat.le_of_ble_eq_true rfl) dX12_hoursTo_17 rfl rfl (fun rv2 wv2 hrv2 => ?_)
      obtain ⟨rfl, rfl⟩ := hrv2
      refine z_perm h (w2 := [(a0, .inr (12, [.ref a0_book, .ref a0_now, .int c0_sights, .ref a0_sight, .int c0_signs, .ref a0_pad, .int c0_offs, .int c0_offAt, .int c0_offWho, .int c0_lastOff, .int c0_reason, .int c0_acts, .ref a0_can, .ref a0_fitting, .ref a0_wins, .ref a0_image, .ref a0_isKept])), (a0_now, .inl (G.2.1, 56, .inl c0_now))]) (st := [.int v2]) [0, 1] rfl rfl ?_
      refine z_if_eq h (tgt := 26) dX12_hoursTo_20 (by decide) rfl (fun c3 => ?_) (fun c3 => ?_)
      · have hf := ite_t hf c3
        refine z_iload_n h dX12_hoursTo_26 2 rfl rfl ?_
        refine z_iload_n h dX12_hoursTo_27 2 rfl rfl ?_
        refine z_iconst h (v := (1 : Int32)) dX12_hoursTo_28 (by decide) rfl ?_
        refine z_ishl h dX12_hoursTo_29 rfl ?_
        refine z_ior h dX12_hoursTo_30 rfl ?_
        refine z_iload_n h dX12_hoursTo_31 2 rfl rfl ?_
        refine z_iconst h (v := (1 : Int32)) dX12_hoursTo_32 (by decide) rfl ?_
        refine z_ishr h dX12_hoursTo_33 rfl ?_
        refine z_ior h dX12_hoursTo_34 rfl ?_
        refine z_sipush h (v := (4095 : Int32)) dX12_hoursTo_35 (by decide) rfl ?_
        refine z_iand h dX12_hoursTo_38 rfl ?_
        refine z_istore h (lv2 := [(5, .int (((x3 ||| (sl x3 (1 : Int32))) ||| (sr x3 (1 : Int32))) &&& (4095 : Int32))), (0, .ref a0), (2, .int x2), (3, .int x3), (4, .int x4)]) dX12_hoursTo_39 (by decide) rfl rfl ?_
        refine z_iload h dX12_hoursTo_41 0 rfl rfl ?_
        refine z_aload_n h dX12_hoursTo_43 1 rfl rfl ?_
        obtain ⟨v4, hv4, hf⟩ := bd_some hf
        refine z_callV h (np := 0) (st := [.int (((x3 ||| (sl x3 (1 : Int32))) ||| (sr x3 (1 : Int32))) &&& (4095 : Int32))]) (wr := []) [] (ctX12_blowHour l G a0 a0_book a0_now a0_sight a0_pad a0_can a0_fitting a0_wins a0_image a0_isKept c0_sights c0_signs c0_offs c0_offAt c0_offWho c0_lastOff c0_reason c0_acts c0_now hv4) gX12_hoursTo_X12_blowHour (by decide +kernel) 0 rfl rfl rfl ⟨Nat.le_of_ble_eq_true rfl, Nat.le_of_ble_eq_true rfl⟩ ⟨Nat.le_refl _, Nat.le_refl _⟩ rfl rfl rfl [0, 1] [] rfl rfl rfl rfl (by decide) (Nat.le_of_ble_eq_true rfl) dX12_hoursTo_44 rfl rfl (fun rv4 wv4 hrv4 => ?_)
        obtain ⟨rfl, rfl⟩ := hrv4
        refine z_perm h (w2 := [(a0, .inr (12, [.ref a0_book, .ref a0_now, .int c0_sights, .ref a0_sight, .int c0_signs, .ref a0_pad, .int c0_offs, .int c0_offAt, .int c0_offWho, .int c0_lastOff, .int c0_reason, .int c0_acts, .ref a0_can, .ref a0_fitting, .ref a0_wins, .ref a0_image, .ref a0_isKept])), (a0_now, .inl (G.2.1, 56, .inl v4.2))]) (st := [.int v4.1, .int (((x3 ||| (sl x3 (1 : Int32))) ||| (sr x3 (1 : Int32))) &&& (4095 : Int32))]) [0, 1] rfl rfl ?_
        refine z_iconst h (v := (-1 : Int32)) dX12_hoursTo_47 (by decide) rfl ?_
        refine z_ixor h dX12_hoursTo_48 rfl ?_
        refine z_iand h dX12_hoursTo_49 rfl ?_
        refine z_istore_n h (lv2 := [(3, .int ((((x3 ||| (sl x3 (1 : Int32))) ||| (sr x3 (1 : Int32))) &&& (4095 : Int32)) &&& (v4.1 ^^^ (-1 : Int32)))), (5, .int (((x3 ||| (sl x3 (1 : Int32))) ||| (sr x3 (1 : Int32))) &&& (4095 : Int32))), (0, .ref a0), (2, .int x2), (4, .int x4)]) dX12_hoursTo_50 (by decide) rfl rfl ?_
        refine z_iinc h (v := (x4 + (1 : Int32))) (lv2 := [(4, .int (x4 + (1 : Int32))), (3, .int ((((x3 ||| (sl x3 (1 : Int32))) ||| (sr x3 (1 : Int32))) &&& (4095 : Int32)) &&& (v4.1 ^^^ (-1 : Int32)))), (5, .int (((x3 ||| (sl x3 (1 : Int32))) ||| (sr x3 (1 : Int32))) &&& (4095 : Int32))), (0, .ref a0), (2, .int x2)]) (j := 4) dX12_hoursTo_51 rfl rfl (by decide) rfl rfl ?_
        refine z_goto h (tgt := 7) dX12_hoursTo_54 (by decide) ?_
        refine z_locs h (lv2 := [(0, .ref a0), (2, .int x2), (3, .int ((((x3 ||| (sl x3 (1 : Int32))) ||| (sr x3 (1 : Int32))) &&& (4095 : Int32)) &&& (v4.1 ^^^ (-1 : Int32)))), (4, .int (x4 + (1 : Int32)))]) [3, 4, 1, 0] rfl ?_
        exact ih7 v4.2 ((((x3 ||| (sl x3 (1 : Int32))) ||| (sr x3 (1 : Int32))) &&& (4095 : Int32)) &&& (v4.1 ^^^ (-1 : Int32))) (x4 + (1 : Int32)) hf
      have hf := ite_f hf c3
      refine z_iload h dX12_hoursTo_23 3 rfl rfl ?_
      have hf := Option.some.inj hf
      subst hf
      exact hret _ _ _ _ dX12_hoursTo_25 ⟨rfl, rfl⟩
  rw [fX12_hoursTo] at hf
  show Z 0 0 _ [(0, .ref a0), (1, .int x1), (2, .int x2)] 0 []
  refine z_iconst h (v := (1 : Int32)) dX12_hoursTo_0 (by decide) rfl ?_
  refine z_iload_n h dX12_hoursTo_1 1 rfl rfl ?_
  refine z_ishl h dX12_hoursTo_2 rfl ?_
  refine z_istore_n h (lv2 := [(3, .int (sl (1 : Int32) x1)), (0, .ref a0), (1, .int x1), (2, .int x2)]) dX12_hoursTo_3 (by decide) rfl rfl ?_
  refine z_iconst h (v := (0 : Int32)) dX12_hoursTo_4 (by decide) rfl ?_
  refine z_istore h (lv2 := [(4, .int (0 : Int32)), (3, .int (sl (1 : Int32) x1)), (0, .ref a0), (1, .int x1), (2, .int x2)]) dX12_hoursTo_5 (by decide) rfl rfl ?_
  refine z_locs h (lv2 := [(0, .ref a0), (2, .int x2), (3, .int (sl (1 : Int32) x1)), (4, .int (0 : Int32))]) [2, 4, 1, 0] rfl ?_
  exact hL7 zF c0_now (sl (1 : Int32) x1) (0 : Int32) hf
def fX12_pass_b14 (c0_book : Nat → Int32) (x1 : Int32) (x2 : Int32) (x3 : Int32)  (c0_offs : Int32) (c0_offAt : Int32) (c0_offWho : Int32) (c0_lastOff : Int32) (c0_now : Nat → Int32) : Option (Int32 × Int32 × Int32 × Int32 × Int32 × (Nat → Int32)) := (some ((-1 : Int32), c0_offs, c0_offAt, c0_offWho, c0_lastOff, c0_now))
def fX12_pass_b57 (c0_book : Nat → Int32) (x1 : Int32) (x2 : Int32) (x3 : Int32)  (c0_offs : Int32) (c0_offAt : Int32) (c0_offWho : Int32) (c0_lastOff : Int32) (c0_now : Nat → Int32) : Option (Int32 × Int32 × Int32 × Int32 × Int32 × (Nat → Int32)) := (some ((-6 : Int32), c0_offs, c0_offAt, c0_offWho, c0_lastOff, c0_now))
def fX12_pass_b155 (c0_book : Nat → Int32) (x1 : Int32) (x2 : Int32) (x3 : Int32) (K70 : (Int32 → Int32 → Int32 → Int32 → (Nat → Int32) → Int32 → Int32 → Option (Int32 × Int32 × Int32 × Int32 × Int32 × (Nat → Int32)))) (c0_offs : Int32) (c0_offAt : Int32) (c0_offWho : Int32) (c0_lastOff : Int32) (c0_now : Nat → Int32) (x4 : Int32) (x5 : Int32) : Option (Int32 × Int32 × Int32 × Int32 × Int32 × (Nat → Int32)) := (K70 c0_offs c0_offAt c0_offWho c0_lastOff c0_now x4 (x5 + (1 : Int32)))
def fX12_pass_b131 (c0_book : Nat → Int32) (x1 : Int32) (x2 : Int32) (x3 : Int32) (K70 : (Int32 → Int32 → Int32 → Int32 → (Nat → Int32) → Int32 → Int32 → Option (Int32 × Int32 × Int32 × Int32 × Int32 × (Nat → Int32)))) (c0_offs : Int32) (c0_offAt : Int32) (c0_offWho : Int32) (c0_lastOff : Int32) (c0_now : Nat → Int32) (x4 : Int32) (x5 : Int32) (x6 : Int32) (s0 : Int32) : Option (Int32 × Int32 × Int32 × Int32 × Int32 × (Nat → Int32)) := (if s0 = (0 : Int32) then (fX12_pass_b155 c0_book x1 x2 x3 K70 c0_offs c0_offAt c0_offWho c0_lastOff c0_now x4 x5) else Option.bind (fX12_hoursTo c0_now x6 x2) (fun v2 => (if v2.1 = (x4 - (1 : Int32)) then (some (x5, c0_offs, c0_offAt, c0_offWho, c0_lastOff, v2.2)) else (fX12_pass_b155 c0_book x1 x2 x3 K70 c0_offs c0_offAt c0_offWho c0_lastOff v2.2 x4 x5))))
def fX12_pass_b130 (c0_book : Nat → Int32) (x1 : Int32) (x2 : Int32) (x3 : Int32) (K70 : (Int32 → Int32 → Int32 → Int32 → (Nat → Int32) → Int32 → Int32 → Option (Int32 × Int32 × Int32 × Int32 × Int32 × (Nat → Int32)))) (c0_offs : Int32) (c0_offAt : Int32) (c0_offWho : Int32) (c0_lastOff : Int32) (c0_now : Nat → Int32) (x4 : Int32) (x5 : Int32) (x6 : Int32) : Option (Int32 × Int32 × Int32 × Int32 × Int32 × (Nat → Int32)) := (fX12_pass_b131 c0_book x1 x2 x3 K70 c0_offs c0_offAt c0_offWho c0_lastOff c0_now x4 x5 x6 (0 : Int32))
def fX12_pass_b100 (c0_book : Nat → Int32) (x1 : Int32) (x2 : Int32) (x3 : Int32) (K70 : (Int32 → Int32 → Int32 → Int32 → (Nat → Int32) → Int32 → Int32 → Option (Int32 × Int32 × Int32 × Int32 × Int32 × (Nat → Int32)))) (c0_offs : Int32) (c0_offAt : Int32) (c0_offWho : Int32) (c0_lastOff : Int32) (c0_now : Nat → Int32) (x4 : Int32) (x5 : Int32) (s0 : Int32) : Option (Int32 × Int32 × Int32 × Int32 × Int32 × (Nat → Int32)) := Option.bind (fX12_asNow c0_offs c0_offAt c0_offWho c0_lastOff c0_book c0_now) (fun v4 => Option.bind (fX12_isCell s0) (fun v5 => (if v5 = (0 : Int32) then (fX12_pass_b130 c0_book x1 x2 x3 K70 v4.1 v4.2.1 v4.2.2.1 v4.2.2.2.1 v4.2.2.2.2 x4 x5 s0) else Option.bind (fX12_blowHour v4.2.2.2.2) (fun v7 => Option.bind (fX12_has v7.1 s0) (fun v8 => (if v8 = (0 : Int32) then (fX12_pass_b131 c0_book x1 x2 x3 K70 v4.1 v4.2.1 v4.2.2.1 v4.2.2.2.1 v7.2 x4 x5 s0 (1 : Int32)) else (fX12_pass_b130 c0_book x1 x2 x3 K70 v4.1 v4.2.1 v4.2.2.1 v4.2.2.2.1 v7.2 x4 x5 s0)))))))
def fX12_pass_L70 (c0_book : Nat → Int32) (x1 : Int32) (x2 : Int32) (x3 : Int32)  : Nat → Int32 → Int32 → Int32 → Int32 → (Nat → Int32) → Int32 → Int32 → Option (Int32 × Int32 × Int32 × Int32 × Int32 × (Nat → Int32))
  | 0, _, _, _, _, _, _, _ => none
  | n + 1, c0_offs, c0_offAt, c0_offWho, c0_lastOff, c0_now, x4, x5 => (if (3 : Int32) ≤ x5 then (some ((-6 : Int32), c0_offs, c0_offAt, c0_offWho, c0_lastOff, c0_now)) else (if x5 = (0 : Int32) then (fX12_pass_b100 c0_book x1 x2 x3 (fX12_pass_L70 c0_book x1 x2 x3  n) c0_offs c0_offAt c0_offWho c0_lastOff c0_now x4 x5 x1) else (if x5 = (1 : Int32) then (fX12_pass_b100 c0_book x1 x2 x3 (fX12_pass_L70 c0_book x1 x2 x3  n) c0_offs c0_offAt c0_offWho c0_lastOff c0_now x4 x5 (x1 + (1 : Int32))) else (fX12_pass_b100 c0_book x1 x2 x3 (fX12_pass_L70 c0_book x1 x2 x3  n) c0_offs c0_offAt c0_offWho c0_lastOff c0_now x4 x5 (x1 - (1 : Int32))))))
def fX12_pass_b60 (c0_book : Nat → Int32) (x1 : Int32) (x2 : Int32) (x3 : Int32)  (c0_offs : Int32) (c0_offAt : Int32) (c0_offWho : Int32) (c0_lastOff : Int32) (c0_now : Nat → Int32) (x4 : Int32) : Option (Int32 × Int32 × Int32 × Int32 × Int32 × (Nat → Int32)) := (if x3 = (0 : Int32) then (some (x4, c0_offs, c0_offAt, c0_offWho, c0_lastOff, c0_now)) else (fX12_pass_L70 c0_book x1 x2 x3  zF c0_offs c0_offAt c0_offWho c0_lastOff c0_now x4 (0 : Int32)))
def fX12_pass (c0_offs : Int32) (c0_offAt : Int32) (c0_offWho : Int32) (c0_lastOff : Int32) (c0_book : Nat → Int32) (c0_now : Nat → Int32) (x1 : Int32) (x2 : Int32) (x3 : Int32) : Option (Int32 × Int32 × Int32 × Int32 × Int32 × (Nat → Int32)) := Option.bind (fX12_isCell x1) (fun v14 => (if v14 = (0 : Int32) then (fX12_pass_b14 c0_book x1 x2 x3  c0_offs c0_offAt c0_offWho c0_lastOff c0_now) else Option.bind (fX12_isCell x2) (fun v16 => (if v16 = (0 : Int32) then (fX12_pass_b14 c0_book x1 x2 x3  c0_offs c0_offAt c0_offWho c0_lastOff c0_now) else Option.bind (fX12_in x3 (0 : Int32) (1 : Int32)) (fun v18 => (if v18 = (0 : Int32) then (some ((-2 : Int32), c0_offs, c0_offAt, c0_offWho, c0_lastOff, c0_now)) else Option.bind (fX12_asNow c0_offs c0_offAt c0_offWho c0_lastOff c0_book c0_now) (fun v20 => Option.bind (fX12_hoursTo v20.2.2.2.2 x1 x2) (fun v21 => (if v21.1 = (1000000 : Int32) then (fX12_pass_b57 c0_book x1 x2 x3  v20.1 v20.2.1 v20.2.2.1 v20.2.2.2.1 v21.2) else (if x3 = (1 : Int32) then (if v21.1 = (0 : Int32) then (fX12_pass_b57 c0_book x1 x2 x3  v20.1 v20.2.1 v20.2.2.1 v20.2.2.2.1 v21.2) else (fX12_pass_b60 c0_book x1 x2 x3  v20.1 v20.2.1 v20.2.2.1 v20.2.2.2.1 v21.2 v21.1)) else (fX12_pass_b60 c0_book x1 x2 x3  v20.1 v20.2.1 v20.2.2.1 v20.2.2.2.1 v21.2 v21.1)))))))))))
abbrev rmX12_pass : Room := { frames := 5, cells := 0, slots := 0, locals := 110 }
set_option maxRecDepth 100000 in
set_option maxHeartbeats 4000000 in
theorem ctX12_pass (l : Launch) (G : zG) (a0 a0_book a0_now a0_sight a0_pad a0_can a0_fitting a0_wins a0_image a0_isKept : Nat) (c0_sights : Int32) (c0_signs : Int32) (c0_offs : Int32) (c0_offAt : Int32) (c0_offWho : Int32) (c0_lastOff : Int32) (c0_reason : Int32) (c0_acts : Int32) (c0_book : Nat → Int32) (c0_now : Nat → Int32) (x1 : Int32) (x2 : Int32) (x3 : Int32) {R : Int32 × Int32 × Int32 × Int32 × Int32 × (Nat → Int32)} (hf : fX12_pass c0_offs c0_offAt c0_offWho c0_lastOff c0_book c0_now x1 x2 x3 = some R) : zCt l yX12_pass wsX12_pass rmX12_pass G [(a0, .inr (12, [.ref a0_book, .ref a0_now, .int c0_sights, .ref a0_sight, .int c0_signs, .ref a0_pad, .int c0_offs, .int c0_offAt, .int c0_offWho, .int c0_lastOff, .int c0_reason, .int c0_acts, .ref a0_can, .ref a0_fitting, .ref a0_wins, .ref a0_image, .ref a0_isKept])), (a0_book, .inl (G.2.1, 56, .inl c0_book)), (a0_now, .inl (G.2.1, 56, .inl c0_now))] [.ref a0, .int x1, .int x2, .int x3] (fun v w => v = some (.int (R.1)) ∧ w = [(a0, .inr (12, [.ref a0_book, .ref a0_now, .int c0_sights, .ref a0_sight, .int c0_signs, .ref a0_pad, .int (R.2.1), .int (R.2.2.1), .int (R.2.2.2.1), .int (R.2.2.2.2.1), .int c0_reason, .int c0_acts, .ref a0_can, .ref a0_fitting, .ref a0_wins, .ref a0_image, .ref a0_isKept])), (a0_book, .inl (G.2.1, 56, .inl c0_book)), (a0_now, .inl (G.2.1, 56, .inl (R.2.2.2.2.2)))]) := by
  refine zMkI (own := RX12) false (by decide) (by decide +kernel) rfl rfl (Nat.le_of_ble_eq_true rfl) ?_
  intro Z h hret
  have hB14 : ∀ (c0_offs : Int32) (c0_offAt : Int32) (c0_offWho : Int32) (c0_lastOff : Int32) (c0_now : Nat → Int32), fX12_pass_b14 c0_book x1 x2 x3  c0_offs c0_offAt c0_offWho c0_lastOff c0_now = some R → Z 0 0 [(a0, .inr (12, [.ref a0_book, .ref a0_now, .int c0_sights, .ref a0_sight, .int c0_signs, .ref a0_pad, .int c0_offs, .int c0_offAt, .int c0_offWho, .int c0_lastOff, .int c0_reason, .int c0_acts, .ref a0_can, .ref a0_fitting, .ref a0_wins, .ref a0_image, .ref a0_isKept])), (a0_book, .inl (G.2.1, 56, .inl c0_book)), (a0_now, .inl (G.2.1, 56, .inl c0_now))] [] 14 [] := by
    intro c0_offs c0_offAt c0_offWho c0_lastOff c0_now hf
    rw [fX12_pass_b14] at hf
    refine z_iconst h (v := (-1 : Int32)) dX12_pass_14 (by decide) rfl ?_
    have hf := Option.some.inj hf
    subst hf
    exact hret _ _ _ _ dX12_pass_15 ⟨rfl, rfl⟩
  have hB57 : ∀ (c0_offs : Int32) (c0_offAt : Int32) (c0_offWho : Int32) (c0_lastOff : Int32) (c0_now : Nat → Int32), fX12_pass_b57 c0_book x1 x2 x3  c0_offs c0_offAt c0_offWho c0_lastOff c0_now = some R → Z 0 0 [(a0, .inr (12, [.ref a0_book, .ref a0_now, .int c0_sights, .ref a0_sight, .int c0_signs, .ref a0_pad, .int c0_offs, .int c0_offAt, .int c0_offWho, .int c0_lastOff, .int c0_reason, .int c0_acts, .ref a0_can, .ref a0_fitting, .ref a0_wins, .ref a0_image, .ref a0_isKept])), (a0_book, .inl (G.2.1, 56, .inl c0_book)), (a0_now, .inl (G.2.1, 56, .inl c0_now))] [] 57 [] := by
    intro c0_offs c0_offAt c0_offWho c0_lastOff c0_now hf
    rw [fX12_pass_b57] at hf
    refine z_bipush h (v := (-6 : Int32)) dX12_pass_57 (by decide) rfl ?_
    have hf := Option.some.inj hf
    subst hf
    exact hret _ _ _ _ dX12_pass_59 ⟨rfl, rfl⟩
  have hL70 : ∀ (n70 : Nat) (c0_offs : Int32) (c0_offAt : Int32) (c0_offWho : Int32) (c0_lastOff : Int32) (c0_now : Nat → Int32) (x4 : Int32) (x5 : Int32), fX12_pass_L70 c0_book x1 x2 x3  n70 c0_offs c0_offAt c0_offWho c0_lastOff c0_now x4 x5 = some R → Z 0 0 [(a0, .inr (12, [.ref a0_book, .ref a0_now, .int c0_sights, .ref a0_sight, .int c0_signs, .ref a0_pad, .int c0_offs, .int c0_offAt, .int c0_offWho, .int c0_lastOff, .int c0_reason, .int c0_acts, .ref a0_can, .ref a0_fitting, .ref a0_wins, .ref a0_image, .ref a0_isKept])), (a0_book, .inl (G.2.1, 56, .inl c0_book)), (a0_now, .inl (G.2.1, 56, .inl c0_now))] [(0, .ref a0), (1, .int x1), (2, .int x2), (4, .int x4), (5, .int x5)] 70 [] := by
    intro n70
    induction n70 with
    | zero =>
      intro c0_offs c0_offAt c0_offWho c0_lastOff c0_now x4 x5 hf
      rw [fX12_pass_L70] at hf
      cases hf
    | succ n70 ih70 =>
      have hB155 : ∀ (c0_offs : Int32) (c0_offAt : Int32) (c0_offWho : Int32) (c0_lastOff : Int32) (c0_now : Nat → Int32) (x4 : Int32) (x5 : Int32), fX12_pass_b155 c0_book x1 x2 x3 (fX12_pass_L70 c0_book x1 x2 x3  n70) c0_offs c0_offAt c0_offWho c0_lastOff c0_now x4 x5 = some R → Z 0 0 [(a0, .inr (12, [.ref a0_book, .ref a0_now, .int c0_sights, .ref a0_sight, .int c0_signs, .ref a0_pad, .int c0_offs, .int c0_offAt, .int c0_offWho, .int c0_lastOff, .int c0_reason, .int c0_acts, .ref a0_can, .ref a0_fitting, .ref a0_wins, .ref a0_image, .ref a0_isKept])), (a0_book, .inl (G.2.1, 56, .inl c0_book)), (a0_now, .inl (G.2.1, 56, .inl c0_now))] [(0, .ref a0), (1, .int x1), (2, .int x2), (4, .int x4), (5, .int x5)] 155 [] := by
        intro c0_offs c0_offAt c0_offWho c0_lastOff c0_now x4 x5 hf
        rw [fX12_pass_b155] at hf
        refine z_iinc h (v := (x5 + (1 : Int32))) (lv2 := [(5, .int (x5 + (1 : Int32))), (0, .ref a0), (1, .int x1), (2, .int x2), (4, .int x4)]) (j := 4) dX12_pass_155 rfl rfl (by decide) rfl rfl ?_
        refine z_goto h (tgt := 70) dX12_pass_158 (by decide) ?_
        refine z_locs h (lv2 := [(0, .ref a0), (1, .int x1), (2, .int x2), (4, .int x4), (5, .int (x5 + (1 : Int32)))]) [1, 2, 3, 4, 0] rfl ?_
        exact ih70 c0_offs c0_offAt c0_offWho c0_lastOff c0_now x4 (x5 + (1 : Int32)) hf
      have hB131 : ∀ (c0_offs : Int32) (c0_offAt : Int32) (c0_offWho : Int32) (c0_lastOff : Int32) (c0_now : Nat → Int32) (x4 : Int32) (x5 : Int32) (x6 : Int32) (s0 : Int32), fX12_pass_b131 c0_book x1 x2 x3 (fX12_pass_L70 c0_book x1 x2 x3  n70) c0_offs c0_offAt c0_offWho c0_lastOff c0_now x4 x5 x6 s0 = some R → Z 0 0 [(a0, .inr (12, [.ref a0_book, .ref a0_now, .int c0_sights, .ref a0_sight, .int c0_signs, .ref a0_pad, .int c0_offs, .int c0_offAt, .int c0_offWho, .int c0_lastOff, .int c0_reason, .int c0_acts, .ref a0_can, .ref a0_fitting, .ref a0_wins, .ref a0_image, .ref a0_isKept])), (a0_book, .inl (G.2.1, 56, .inl c0_book)), (a0_now, .inl (G.2.1, 56, .inl c0_now))] [(0, .ref a0), (1, .int x1), (2, .int x2), (4, .int x4), (5, .int x5), (6, .int x6)] 131 [.int s0] := by
        intro c0_offs c0_offAt c0_offWho c0_lastOff c0_now x4 x5 x6 s0 hf
        rw [fX12_pass_b131] at hf
        refine z_istore h (lv2 := [(7, .int s0), (0, .ref a0), (1, .int x1), (2, .int x2), (4, .int x4), (5, .int x5), (6, .int x6)]) dX12_pass_131 (by decide) rfl rfl ?_
        refine z_iload h dX12_pass_133 0 rfl rfl ?_
        refine z_if_eq h (tgt := 155) dX12_pass_135 (by decide) rfl (fun c1 => ?_) (fun c1 => ?_)
        · have hf := ite_t hf c1
          refine z_locs h (lv2 := [(0, .ref a0), (1, .int x1), (2, .int x2), (4, .int x4), (5, .int x5)]) [1, 2, 3, 4, 5] rfl ?_
          exact hB155 c0_offs c0_offAt c0_offWho c0_lastOff c0_now x4 x5 hf
        have hf := ite_f hf c1
        refine z_aload_n h dX12_pass_138 1 rfl rfl ?_
        refine z_iload h dX12_pass_139 6 rfl rfl ?_
        refine z_iload_n h dX12_pass_141 3 rfl rfl ?_
        obtain ⟨v2, hv2, hf⟩ := bd_some hf
        refine z_callV h (np := 2) (st := []) (wr := [(a0_book, .inl (G.2.1, 56, .inl c0_book))]) [.int x6, .int x2] (ctX12_hoursTo l G a0 a0_book a0_now a0_sight a0_pad a0_can a0_fitting a0_wins a0_image a0_isKept c0_sights c0_signs c0_offs c0_offAt c0_offWho c0_lastOff c0_reason c0_acts c0_now x6 x2 hv2) gX12_pass_X12_hoursTo (by decide +kernel) 0 rfl rfl rfl ⟨Nat.le_of_ble_eq_true rfl, Nat.le_of_ble_eq_true rfl⟩ ⟨Nat.le_refl _, Nat.le_refl _⟩ rfl rfl rfl [0, 2] [1] rfl rfl rfl rfl (by decide) (Nat.le_of_ble_eq_true rfl) dX12_pass_142 rfl rfl (fun rv2 wv2 hrv2 => ?_)
        obtain ⟨rfl, rfl⟩ := hrv2
        refine z_perm h (w2 := [(a0, .inr (12, [.ref a0_book, .ref a0_now, .int c0_sights, .ref a0_sight, .int c0_signs, .ref a0_pad, .int c0_offs, .int c0_offAt, .int c0_offWho, .int c0_lastOff, .int c0_reason, .int c0_acts, .ref a0_can, .ref a0_fitting, .ref a0_wins, .ref a0_image, .ref a0_isKept])), (a0_book, .inl (G.2.1, 56, .inl c0_book)), (a0_now, .inl (G.2.1, 56, .inl v2.2))]) (st := [.int v2.1]) [1, 0, 2] rfl rfl ?_
        refine z_iload h dX12_pass_145 4 rfl rfl ?_
        refine z_iconst h (v := (1 : Int32)) dX12_pass_147 (by decide) rfl ?_
        refine z_isub h dX12_pass_148 rfl ?_
        refine z_icmp_ne h (tgt := 155) dX12_pass_149 (by decide) rfl (fun c3 => ?_) (fun c3 => ?_)
        · have hf := ite_f hf c3
          refine z_locs h (lv2 := [(0, .ref a0), (1, .int x1), (2, .int x2), (4, .int x4), (5, .int x5)]) [1, 2, 3, 4, 5] rfl ?_
          exact hB155 c0_offs c0_offAt c0_offWho c0_lastOff v2.2 x4 x5 hf
        have hf := ite_t hf c3
        refine z_iload h dX12_pass_152 5 rfl rfl ?_
        have hf := Option.some.inj hf
        subst hf
        exact hret _ _ _ _ dX12_pass_154 ⟨rfl, rfl⟩
      have hB130 : ∀ (c0_offs : Int32) (c0_offAt : Int32) (c0_offWho : Int32) (c0_lastOff : Int32) (c0_now : Nat → Int32) (x4 : Int32) (x5 : Int32) (x6 : Int32), fX12_pass_b130 c0_book x1 x2 x3 (fX12_pass_L70 c0_book x1 x2 x3  n70) c0_offs c0_offAt c0_offWho c0_lastOff c0_now x4 x5 x6 = some R → Z 0 0 [(a0, .inr (12, [.ref a0_book, .ref a0_now, .int c0_sights, .ref a0_sight, .int c0_signs, .ref a0_pad, .int c0_offs, .int c0_offAt, .int c0_offWho, .int c0_lastOff, .int c0_reason, .int c0_acts, .ref a0_can, .ref a0_fitting, .ref a0_wins, .ref a0_image, .ref a0_isKept])), (a0_book, .inl (G.2.1, 56, .inl c0_book)), (a0_now, .inl (G.2.1, 56, .inl c0_now))] [(0, .ref a0), (1, .int x1), (2, .int x2), (4, .int x4), (5, .int x5), (6, .int x6)] 130 [] := by
        intro c0_offs c0_offAt c0_offWho c0_lastOff c0_now x4 x5 x6 hf
        rw [fX12_pass_b130] at hf
        refine z_iconst h (v := (0 : Int32)) dX12_pass_130 (by decide) rfl ?_
        exact hB131 c0_offs c0_offAt c0_offWho c0_lastOff c0_now x4 x5 x6 (0 : Int32) hf
      have hB100 : ∀ (c0_offs : Int32) (c0_offAt : Int32) (c0_offWho : Int32) (c0_lastOff : Int32) (c0_now : Nat → Int32) (x4 : Int32) (x5 : Int32) (s0 : Int32), fX12_pass_b100 c0_book x1 x2 x3 (fX12_pass_L70 c0_book x1 x2 x3  n70) c0_offs c0_offAt c0_offWho c0_lastOff c0_now x4 x5 s0 = some R → Z 0 0 [(a0, .inr (12, [.ref a0_book, .ref a0_now, .int c0_sights, .ref a0_sight, .int c0_signs, .ref a0_pad, .int c0_offs, .int c0_offAt, .int c0_offWho, .int c0_lastOff, .int c0_reason, .int c0_acts, .ref a0_can, .ref a0_fitting, .ref a0_wins, .ref a0_image, .ref a0_isKept])), (a0_book, .inl (G.2.1, 56, .inl c0_book)), (a0_now, .inl (G.2.1, 56, .inl c0_now))] [(0, .ref a0), (1, .int x1), (2, .int x2), (4, .int x4), (5, .int x5)] 100 [.int s0] := by
        intro c0_offs c0_offAt c0_offWho c0_lastOff c0_now x4 x5 s0 hf
        rw [fX12_pass_b100] at hf
        refine z_istore h (lv2 := [(6, .int s0), (0, .ref a0), (1, .int x1), (2, .int x2), (4, .int x4), (5, .int x5)]) dX12_pass_100 (by decide) rfl rfl ?_
        refine z_aload_n h dX12_pass_102 1 rfl rfl ?_
        obtain ⟨v4, hv4, hf⟩ := bd_some hf
        refine z_callV h (np := 0) (st := []) (wr := []) [] (ctX12_asNow l G a0 a0_book a0_now a0_sight a0_pad a0_can a0_fitting a0_wins a0_image a0_isKept c0_sights c0_signs c0_offs c0_offAt c0_offWho c0_lastOff c0_reason c0_acts c0_book c0_now hv4) gX12_pass_X12_asNow (by decide +kernel) 0 rfl rfl rfl ⟨Nat.le_of_ble_eq_true rfl, Nat.le_of_ble_eq_true rfl⟩ ⟨Nat.le_refl _, Nat.le_refl _⟩ rfl rfl rfl [0, 1, 2] [] rfl rfl rfl rfl (by decide) (Nat.le_of_ble_eq_true rfl) dX12_pass_103 rfl rfl (fun rv4 wv4 hrv4 => ?_)
        obtain ⟨rfl, rfl⟩ := hrv4
        refine z_perm h (w2 := [(a0, .inr (12, [.ref a0_book, .ref a0_now, .int c0_sights, .ref a0_sight, .int c0_signs, .ref a0_pad, .int v4.1, .int v4.2.1, .int v4.2.2.1, .int v4.2.2.2.1, .int c0_reason, .int c0_acts, .ref a0_can, .ref a0_fitting, .ref a0_wins, .ref a0_image, .ref a0_isKept])), (a0_book, .inl (G.2.1, 56, .inl c0_book)), (a0_now, .inl (G.2.1, 56, .inl v4.2.2.2.2))]) (st := []) [0, 1, 2] rfl rfl ?_
        refine z_iload h dX12_pass_106 0 rfl rfl ?_
        obtain ⟨v5, hv5, hf⟩ := bd_some hf
        refine z_callS h (np := 1) (st := []) (wr := [(a0, .inr (12, [.ref a0_book, .ref a0_now, .int c0_sights, .ref a0_sight, .int c0_signs, .ref a0_pad, .int v4.1, .int v4.2.1, .int v4.2.2.1, .int v4.2.2.2.1, .int c0_reason, .int c0_acts, .ref a0_can, .ref a0_fitting, .ref a0_wins, .ref a0_image, .ref a0_isKept])), (a0_book, .inl (G.2.1, 56, .inl c0_book)), (a0_now, .inl (G.2.1, 56, .inl v4.2.2.2.2))]) [.int s0] (ctX12_isCell l G s0 hv5) gX12_pass_X12_isCell (by decide +kernel) rfl ⟨Nat.le_of_ble_eq_true rfl, Nat.le_of_ble_eq_true rfl⟩ ⟨Nat.le_refl _, Nat.le_refl _⟩ rfl rfl rfl [] [0, 1, 2] rfl rfl rfl rfl (by decide) (Nat.le_of_ble_eq_true rfl) dX12_pass_108 rfl rfl (fun rv5 wv5 hrv5 => ?_)
        obtain ⟨rfl, rfl⟩ := hrv5
        refine z_perm h (w2 := [(a0, .inr (12, [.ref a0_book, .ref a0_now, .int c0_sights, .ref a0_sight, .int c0_signs, .ref a0_pad, .int v4.1, .int v4.2.1, .int v4.2.2.1, .int v4.2.2.2.1, .int c0_reason, .int c0_acts, .ref a0_can, .ref a0_fitting, .ref a0_wins, .ref a0_image, .ref a0_isKept])), (a0_book, .inl (G.2.1, 56, .inl c0_book)), (a0_now, .inl (G.2.1, 56, .inl v4.2.2.2.2))]) (st := [.int v5]) [0, 1, 2] rfl rfl ?_
        refine z_if_eq h (tgt := 130) dX12_pass_111 (by decide) rfl (fun c6 => ?_) (fun c6 => ?_)
        · have hf := ite_t hf c6
          refine z_locs h (lv2 := [(0, .ref a0), (1, .int x1), (2, .int x2), (4, .int x4), (5, .int x5), (6, .int s0)]) [1, 2, 3, 4, 5, 0] rfl ?_
          exact hB130 v4.1 v4.2.1 v4.2.2.1 v4.2.2.2.1 v4.2.2.2.2 x4 x5 s0 hf
        have hf := ite_f hf c6
        refine z_aload_n h dX12_pass_114 1 rfl rfl ?_
        obtain ⟨v7, hv7, hf⟩ := bd_some hf
        refine z_callV h (np := 0) (st := []) (wr := [(a0_book, .inl (G.2.1, 56, .inl c0_book))]) [] (ctX12_blowHour l G a0 a0_book a0_now a0_sight a0_pad a0_can a0_fitting a0_wins a0_image a0_isKept c0_sights c0_signs v4.1 v4.2.1 v4.2.2.1 v4.2.2.2.1 c0_reason c0_acts v4.2.2.2.2 hv7) gX12_pass_X12_blowHour (by decide +kernel) 0 rfl rfl rfl ⟨Nat.le_of_ble_eq_true rfl, Nat.le_of_ble_eq_true rfl⟩ ⟨Nat.le_refl _, Nat.le_refl _⟩ rfl rfl rfl [0, 2] [1] rfl rfl rfl rfl (by decide) (Nat.le_of_ble_eq_true rfl) dX12_pass_115 rfl rfl (fun rv7 wv7 hrv7 => ?_)
        obtain ⟨rfl, rfl⟩ := hrv7
        refine z_perm h (w2 := [(a0, .inr (12, [.ref a0_book, .ref a0_now, .int c0_sights, .ref a0_sight, .int c0_signs, .ref a0_pad, .int v4.1, .int v4.2.1, .int v4.2.2.1, .int v4.2.2.2.1, .int c0_reason, .int c0_acts, .ref a0_can, .ref a0_fitting, .ref a0_wins, .ref a0_image, .ref a0_isKept])), (a0_book, .inl (G.2.1, 56, .inl c0_book)), (a0_now, .inl (G.2.1, 56, .inl v7.2))]) (st := [.int v7.1]) [1, 0, 2] rfl rfl ?_
        refine z_iload h dX12_pass_118 0 rfl rfl ?_
        obtain ⟨v8, hv8, hf⟩ := bd_some hf
        refine z_callS h (np := 2) (st := []) (wr := [(a0, .inr (12, [.ref a0_book, .ref a0_now, .int c0_sights, .ref a0_sight, .int c0_signs, .ref a0_pad, .int v4.1, .int v4.2.1, .int v4.2.2.1, .int v4.2.2.2.1, .int c0_reason, .int c0_acts, .ref a0_can, .ref a0_fitting, .ref a0_wins, .ref a0_image, .ref a0_isKept])), (a0_book, .inl (G.2.1, 56, .inl c0_book)), (a0_now, .inl (G.2.1, 56, .inl v7.2))]) [.int v7.1, .int s0] (ctX12_has l G v7.1 s0 hv8) gX12_pass_X12_has (by decide +kernel) rfl ⟨Nat.le_of_ble_eq_true rfl, Nat.le_of_ble_eq_true rfl⟩ ⟨Nat.le_refl _, Nat.le_refl _⟩ rfl rfl rfl [] [0, 1, 2] rfl rfl rfl rfl (by decide) (Nat.le_of_ble_eq_true rfl) dX12_pass_120 rfl rfl (fun rv8 wv8 hrv8 => ?_)
        obtain ⟨rfl, rfl⟩ := hrv8
        refine z_perm h (w2 := [(a0, .inr (12, [.ref a0_book, .ref a0_now, .int c0_sights, .ref a0_sight, .int c0_signs, .ref a0_pad, .int v4.1, .int v4.2.1, .int v4.2.2.1, .int v4.2.2.2.1, .int c0_reason, .int c0_acts, .ref a0_can, .ref a0_fitting, .ref a0_wins, .ref a0_image, .ref a0_isKept])), (a0_book, .inl (G.2.1, 56, .inl c0_book)), (a0_now, .inl (G.2.1, 56, .inl v7.2))]) (st := [.int v8]) [0, 1, 2] rfl rfl ?_
        refine z_if_ne h (tgt := 130) dX12_pass_123 (by decide) rfl (fun c9 => ?_) (fun c9 => ?_)
        · have hf := ite_f hf c9
          refine z_locs h (lv2 := [(0, .ref a0), (1, .int x1), (2, .int x2), (4, .int x4), (5, .int x5), (6, .int s0)]) [1, 2, 3, 4, 5, 0] rfl ?_
          exact hB130 v4.1 v4.2.1 v4.2.2.1 v4.2.2.2.1 v7.2 x4 x5 s0 hf
        have hf := ite_t hf c9
        refine z_iconst h (v := (1 : Int32)) dX12_pass_126 (by decide) rfl ?_
        refine z_goto h (tgt := 131) dX12_pass_127 (by decide) ?_
        refine z_locs h (lv2 := [(0, .ref a0), (1, .int x1), (2, .int x2), (4, .int x4), (5, .int x5), (6, .int s0)]) [1, 2, 3, 4, 5, 0] rfl ?_
        exact hB131 v4.1 v4.2.1 v4.2.2.1 v4.2.2.2.1 v7.2 x4 x5 s0 (1 : Int32) hf
      intro c0_offs c0_offAt c0_offWho c0_lastOff c0_now x4 x5 hf
      rw [fX12_pass_L70] at hf
      refine z_iload h dX12_pass_70 4 rfl rfl ?_
      refine z_iconst h (v := (3 : Int32)) dX12_pass_72 (by decide) rfl ?_
      refine z_icmp_ge h (tgt := 161) dX12_pass_73 (by decide) rfl (fun c10 => ?_) (fun c10 => ?_)
      · have hf := ite_t hf c10
        refine z_bipush h (v := (-6 : Int32)) dX12_pass_161 (by decide) rfl ?_
        have hf := Option.some.inj hf
        subst hf
        exact hret _ _ _ _ dX12_pass_163 ⟨rfl, rfl⟩
      have hf := ite_f hf c10
      refine z_iload h dX12_pass_76 4 rfl rfl ?_
      refine z_if_ne h (tgt := 85) dX12_pass_78 (by decide) rfl (fun c11 => ?_) (fun c11 => ?_)
      · have hf := ite_f hf c11
        refine z_iload h dX12_pass_85 4 rfl rfl ?_
        refine z_iconst h (v := (1 : Int32)) dX12_pass_87 (by decide) rfl ?_
        refine z_icmp_ne h (tgt := 97) dX12_pass_88 (by decide) rfl (fun c12 => ?_) (fun c12 => ?_)
        · have hf := ite_f hf c12
          refine z_iload_n h dX12_pass_97 1 rfl rfl ?_
          refine z_iconst h (v := (1 : Int32)) dX12_pass_98 (by decide) rfl ?_
          refine z_isub h dX12_pass_99 rfl ?_
          exact hB100 c0_offs c0_offAt c0_offWho c0_lastOff c0_now x4 x5 (x1 - (1 : Int32)) hf
        have hf := ite_t hf c12
        refine z_iload_n h dX12_pass_91 1 rfl rfl ?_
        refine z_iconst h (v := (1 : Int32)) dX12_pass_92 (by decide) rfl ?_
        refine z_iadd h dX12_pass_93 rfl ?_
        refine z_goto h (tgt := 100) dX12_pass_94 (by decide) ?_
        exact hB100 c0_offs c0_offAt c0_offWho c0_lastOff c0_now x4 x5 (x1 + (1 : Int32)) hf
      have hf := ite_t hf c11
      refine z_iload_n h dX12_pass_81 1 rfl rfl ?_
      refine z_goto h (tgt := 100) dX12_pass_82 (by decide) ?_
      exact hB100 c0_offs c0_offAt c0_offWho c0_lastOff c0_now x4 x5 x1 hf
  have hB60 : ∀ (c0_offs : Int32) (c0_offAt : Int32) (c0_offWho : Int32) (c0_lastOff : Int32) (c0_now : Nat → Int32) (x4 : Int32), fX12_pass_b60 c0_book x1 x2 x3  c0_offs c0_offAt c0_offWho c0_lastOff c0_now x4 = some R → Z 0 0 [(a0, .inr (12, [.ref a0_book, .ref a0_now, .int c0_sights, .ref a0_sight, .int c0_signs, .ref a0_pad, .int c0_offs, .int c0_offAt, .int c0_offWho, .int c0_lastOff, .int c0_reason, .int c0_acts, .ref a0_can, .ref a0_fitting, .ref a0_wins, .ref a0_image, .ref a0_isKept])), (a0_book, .inl (G.2.1, 56, .inl c0_book)), (a0_now, .inl (G.2.1, 56, .inl c0_now))] [(0, .ref a0), (1, .int x1), (2, .int x2), (3, .int x3), (4, .int x4)] 60 [] := by
    intro c0_offs c0_offAt c0_offWho c0_lastOff c0_now x4 hf
    rw [fX12_pass_b60] at hf
    refine z_iload_n h dX12_pass_60 3 rfl rfl ?_
    refine z_if_ne h (tgt := 67) dX12_pass_61 (by decide) rfl (fun c13 => ?_) (fun c13 => ?_)
    · have hf := ite_f hf c13
      refine z_iconst h (v := (0 : Int32)) dX12_pass_67 (by decide) rfl ?_
      refine z_istore h (lv2 := [(5, .int (0 : Int32)), (0, .ref a0), (1, .int x1), (2, .int x2), (3, .int x3), (4, .int x4)]) dX12_pass_68 (by decide) rfl rfl ?_
      refine z_locs h (lv2 := [(0, .ref a0), (1, .int x1), (2, .int x2), (4, .int x4), (5, .int (0 : Int32))]) [1, 2, 3, 5, 0] rfl ?_
      exact hL70 zF c0_offs c0_offAt c0_offWho c0_lastOff c0_now x4 (0 : Int32) hf
    have hf := ite_t hf c13
    refine z_iload h dX12_pass_64 4 rfl rfl ?_
    have hf := Option.some.inj hf
    subst hf
    exact hret _ _ _ _ dX12_pass_66 ⟨rfl, rfl⟩
  rw [fX12_pass] at hf
  show Z 0 0 _ [(0, .ref a0), (1, .int x1), (2, .int x2), (3, .int x3)] 0 []
  refine z_iload_n h dX12_pass_0 1 rfl rfl ?_
  obtain ⟨v14, hv14, hf⟩ := bd_some hf
  refine z_callS h (np := 1) (st := []) (wr := [(a0, .inr (12, [.ref a0_book, .ref a0_now, .int c0_sights, .ref a0_sight, .int c0_signs, .ref a0_pad, .int c0_offs, .int c0_offAt, .int c0_offWho, .int c0_lastOff, .int c0_reason, .int c0_acts, .ref a0_can, .ref a0_fitting, .ref a0_wins, .ref a0_image, .ref a0_isKept])), (a0_book, .inl (G.2.1, 56, .inl c0_book)), (a0_now, .inl (G.2.1, 56, .inl c0_now))]) [.int x1] (ctX12_isCell l G x1 hv14) gX12_pass_X12_isCell (by decide +kernel) rfl ⟨Nat.le_of_ble_eq_true rfl, Nat.le_of_ble_eq_true rfl⟩ ⟨Nat.le_refl _, Nat.le_refl _⟩ rfl rfl rfl [] [0, 1, 2] rfl rfl rfl rfl (by decide) (Nat.le_of_ble_eq_true rfl) dX12_pass_1 rfl rfl (fun rv14 wv14 hrv14 => ?_)
  obtain ⟨rfl, rfl⟩ := hrv14
  refine z_perm h (w2 := [(a0, .inr (12, [.ref a0_book, .ref a0_now, .int c0_sights, .ref a0_sight, .int c0_signs, .ref a0_pad, .int c0_offs, .int c0_offAt, .int c0_offWho, .int c0_lastOff, .int c0_reason, .int c0_acts, .ref a0_can, .ref a0_fitting, .ref a0_wins, .ref a0_image, .ref a0_isKept])), (a0_book, .inl (G.2.1, 56, .inl c0_book)), (a0_now, .inl (G.2.1, 56, .inl c0_now))]) (st := [.int v14]) [0, 1, 2] rfl rfl ?_
  refine z_if_eq h (tgt := 14) dX12_pass_4 (by decide) rfl (fun c15 => ?_) (fun c15 => ?_)
  · have hf := ite_t hf c15
    refine z_locs h (lv2 := []) [] rfl ?_
    exact hB14 c0_offs c0_offAt c0_offWho c0_lastOff c0_now hf
  have hf := ite_f hf c15
  refine z_iload_n h dX12_pass_7 2 rfl rfl ?_
  obtain ⟨v16, hv16, hf⟩ := bd_some hf
  refine z_callS h (np := 1) (st := []) (wr := [(a0, .inr (12, [.ref a0_book, .ref a0_now, .int c0_sights, .ref a0_sight, .int c0_signs, .ref a0_pad, .int c0_offs, .int c0_offAt, .int c0_offWho, .int c0_lastOff, .int c0_reason, .int c0_acts, .ref a0_can, .ref a0_fitting, .ref a0_wins, .ref a0_image, .ref a0_isKept])), (a0_book, .inl (G.2.1, 56, .inl c0_book)), (a0_now, .inl (G.2.1, 56, .inl c0_now))]) [.int x2] (ctX12_isCell l G x2 hv16) gX12_pass_X12_isCell (by decide +kernel) rfl ⟨Nat.le_of_ble_eq_true rfl, Nat.le_of_ble_eq_true rfl⟩ ⟨Nat.le_refl _, Nat.le_refl _⟩ rfl rfl rfl [] [0, 1, 2] rfl rfl rfl rfl (by decide) (Nat.le_of_ble_eq_true rfl) dX12_pass_8 rfl rfl (fun rv16 wv16 hrv16 => ?_)
  obtain ⟨rfl, rfl⟩ := hrv16
  refine z_perm h (w2 := [(a0, .inr (12, [.ref a0_book, .ref a0_now, .int c0_sights, .ref a0_sight, .int c0_signs, .ref a0_pad, .int c0_offs, .int c0_offAt, .int c0_offWho, .int c0_lastOff, .int c0_reason, .int c0_acts, .ref a0_can, .ref a0_fitting, .ref a0_wins, .ref a0_image, .ref a0_isKept])), (a0_book, .inl (G.2.1, 56, .inl c0_book)), (a0_now, .inl (G.2.1, 56, .inl c0_now))]) (st := [.int v16]) [0, 1, 2] rfl rfl ?_
  refine z_if_ne h (tgt := 16) dX12_pass_11 (by decide) rfl (fun c17 => ?_) (fun c17 => ?_)
  · have hf := ite_f hf c17
    refine z_iload_n h dX12_pass_16 3 rfl rfl ?_
    refine z_iconst h (v := (0 : Int32)) dX12_pass_17 (by decide) rfl ?_
    refine z_iconst h (v := (1 : Int32)) dX12_pass_18 (by decide) rfl ?_
    obtain ⟨v18, hv18, hf⟩ := bd_some hf
    refine z_callS h (np := 3) (st := []) (wr := [(a0, .inr (12, [.ref a0_book, .ref a0_now, .int c0_sights, .ref a0_sight, .int c0_signs, .ref a0_pad, .int c0_offs, .int c0_offAt, .int c0_offWho, .int c0_lastOff, .int c0_reason, .int c0_acts, .ref a0_can, .ref a0_fitting, .ref a0_wins, .ref a0_image, .ref a0_isKept])), (a0_book, .inl (G.2.1, 56, .inl c0_book)), (a0_now, .inl (G.2.1, 56, .inl c0_now))]) [.int x3, .int (0 : Int32), .int (1 : Int32)] (ctX12_in l G x3 (0 : Int32) (1 : Int32) hv18) gX12_pass_X12_in (by decide +kernel) rfl ⟨Nat.le_of_ble_eq_true rfl, Nat.le_of_ble_eq_true rfl⟩ ⟨Nat.le_refl _, Nat.le_refl _⟩ rfl rfl rfl [] [0, 1, 2] rfl rfl rfl rfl (by decide) (Nat.le_of_ble_eq_true rfl) dX12_pass_19 rfl rfl (fun rv18 wv18 hrv18 => ?_)
    obtain ⟨rfl, rfl⟩ := hrv18
    refine z_perm h (w2 := [(a0, .inr (12, [.ref a0_book, .ref a0_now, .int c0_sights, .ref a0_sight, .int c0_signs, .ref a0_pad, .int c0_offs, .int c0_offAt, .int c0_offWho, .int c0_lastOff, .int c0_reason, .int c0_acts, .ref a0_can, .ref a0_fitting, .ref a0_wins, .ref a0_image, .ref a0_isKept])), (a0_book, .inl (G.2.1, 56, .inl c0_book)), (a0_now, .inl (G.2.1, 56, .inl c0_now))]) (st := [.int v18]) [0, 1, 2] rfl rfl ?_
    refine z_if_ne h (tgt := 28) dX12_pass_22 (by decide) rfl (fun c19 => ?_) (fun c19 => ?_)
    · have hf := ite_f hf c19
      refine z_aload_n h dX12_pass_28 0 rfl rfl ?_
      obtain ⟨v20, hv20, hf⟩ := bd_some hf
      refine z_callV h (np := 0) (st := []) (wr := []) [] (ctX12_asNow l G a0 a0_book a0_now a0_sight a0_pad a0_can a0_fitting a0_wins a0_image a0_isKept c0_sights c0_signs c0_offs c0_offAt c0_offWho c0_lastOff c0_reason c0_acts c0_book c0_now hv20) gX12_pass_X12_asNow (by decide +kernel) 0 rfl rfl rfl ⟨Nat.le_of_ble_eq_true rfl, Nat.le_of_ble_eq_true rfl⟩ ⟨Nat.le_refl _, Nat.le_refl _⟩ rfl rfl rfl [0, 1, 2] [] rfl rfl rfl rfl (by decide) (Nat.le_of_ble_eq_true rfl) dX12_pass_29 rfl rfl (fun rv20 wv20 hrv20 => ?_)
      obtain ⟨rfl, rfl⟩ := hrv20
      refine z_perm h (w2 := [(a0, .inr (12, [.ref a0_book, .ref a0_now, .int c0_sights, .ref a0_sight, .int c0_signs, .ref a0_pad, .int v20.1, .int v20.2.1, .int v20.2.2.1, .int v20.2.2.2.1, .int c0_reason, .int c0_acts, .ref a0_can, .ref a0_fitting, .ref a0_wins, .ref a0_image, .ref a0_isKept])), (a0_book, .inl (G.2.1, 56, .inl c0_book)), (a0_now, .inl (G.2.1, 56, .inl v20.2.2.2.2))]) (st := []) [0, 1, 2] rfl rfl ?_
      refine z_aload_n h dX12_pass_32 0 rfl rfl ?_
      refine z_iload_n h dX12_pass_33 1 rfl rfl ?_
      refine z_iload_n h dX12_pass_34 2 rfl rfl ?_
      obtain ⟨v21, hv21, hf⟩ := bd_some hf
      refine z_callV h (np := 2) (st := []) (wr := [(a0_book, .inl (G.2.1, 56, .inl c0_book))]) [.int x1, .int x2] (ctX12_hoursTo l G a0 a0_book a0_now a0_sight a0_pad a0_can a0_fitting a0_wins a0_image a0_isKept c0_sights c0_signs v20.1 v20.2.1 v20.2.2.1 v20.2.2.2.1 c0_reason c0_acts v20.2.2.2.2 x1 x2 hv21) gX12_pass_X12_hoursTo (by decide +kernel) 0 rfl rfl rfl ⟨Nat.le_of_ble_eq_true rfl, Nat.le_of_ble_eq_true rfl⟩ ⟨Nat.le_refl _, Nat.le_refl _⟩ rfl rfl rfl [0, 2] [1] rfl rfl rfl rfl (by decide) (Nat.le_of_ble_eq_true rfl) dX12_pass_35 rfl rfl (fun rv21 wv21 hrv21 => ?_)
      obtain ⟨rfl, rfl⟩ := hrv21
      refine z_perm h (w2 := [(a0, .inr (12, [.ref a0_book, .ref a0_now, .int c0_sights, .ref a0_sight, .int c0_signs, .ref a0_pad, .int v20.1, .int v20.2.1, .int v20.2.2.1, .int v20.2.2.2.1, .int c0_reason, .int c0_acts, .ref a0_can, .ref a0_fitting, .ref a0_wins, .ref a0_image, .ref a0_isKept])), (a0_book, .inl (G.2.1, 56, .inl c0_book)), (a0_now, .inl (G.2.1, 56, .inl v21.2))]) (st := [.int v21.1]) [1, 0, 2] rfl rfl ?_
      refine z_istore h (lv2 := [(4, .int v21.1), (0, .ref a0), (1, .int x1), (2, .int x2), (3, .int x3)]) dX12_pass_38 (by decide) rfl rfl ?_
      refine z_iload h dX12_pass_40 0 rfl rfl ?_
      refine z_ldc h (v := (1000000 : Int32)) dX12_pass_42 (by decide +kernel) rfl ?_
      refine z_icmp_eq h (tgt := 57) dX12_pass_44 (by decide) rfl (fun c22 => ?_) (fun c22 => ?_)
      · have hf := ite_t hf c22
        refine z_locs h (lv2 := []) [] rfl ?_
        exact hB57 v20.1 v20.2.1 v20.2.2.1 v20.2.2.2.1 v21.2 hf
      have hf := ite_f hf c22
      refine z_iload_n h dX12_pass_47 4 rfl rfl ?_
      refine z_iconst h (v := (1 : Int32)) dX12_pass_48 (by decide) rfl ?_
      refine z_icmp_ne h (tgt := 60) dX12_pass_49 (by decide) rfl (fun c23 => ?_) (fun c23 => ?_)
      · have hf := ite_f hf c23
        refine z_locs h (lv2 := [(0, .ref a0), (1, .int x1), (2, .int x2), (3, .int x3), (4, .int v21.1)]) [1, 2, 3, 4, 0] rfl ?_
        exact hB60 v20.1 v20.2.1 v20.2.2.1 v20.2.2.2.1 v21.2 v21.1 hf
      have hf := ite_t hf c23
      refine z_iload h dX12_pass_52 0 rfl rfl ?_
      refine z_if_ne h (tgt := 60) dX12_pass_54 (by decide) rfl (fun c24 => ?_) (fun c24 => ?_)
      · have hf := ite_f hf c24
        refine z_locs h (lv2 := [(0, .ref a0), (1, .int x1), (2, .int x2), (3, .int x3), (4, .int v21.1)]) [1, 2, 3, 4, 0] rfl ?_
        exact hB60 v20.1 v20.2.1 v20.2.2.1 v20.2.2.2.1 v21.2 v21.1 hf
      have hf := ite_t hf c24
      refine z_locs h (lv2 := []) [] rfl ?_
      exact hB57 v20.1 v20.2.1 v20.2.2.1 v20.2.2.2.1 v21.2 hf
    have hf := ite_t hf c19
    refine z_bipush h (v := (-2 : Int32)) dX12_pass_25 (by decide) rfl ?_
    have hf := Option.some.inj hf
    subst hf
    exact hret _ _ _ _ dX12_pass_27 ⟨rfl, rfl⟩
  have hf := ite_t hf c17
  refine z_locs h (lv2 := []) [] rfl ?_
  exact hB14 c0_offs c0_offAt c0_offWho c0_lastOff c0_now hf
def fX12_arms_b19 (c0_book : Nat → Int32) (x1 : Int32) (x2 : Int32)  (c0_offs : Int32) (c0_offAt : Int32) (c0_offWho : Int32) (c0_lastOff : Int32) (c0_now : Nat → Int32) (c0_can : Nat → Int32) : Option (Int32 × Int32 × Int32 × Int32 × Int32 × (Nat → Int32) × (Nat → Int32)) := (some ((-2 : Int32), c0_offs, c0_offAt, c0_offWho, c0_lastOff, c0_now, c0_can))
def fX12_arms_b292 (c0_book : Nat → Int32) (x1 : Int32) (x2 : Int32)  (c0_offs : Int32) (c0_offAt : Int32) (c0_offWho : Int32) (c0_lastOff : Int32) (c0_now : Nat → Int32) (c0_can : Nat → Int32) (s0 : Int32) : Option (Int32 × Int32 × Int32 × Int32 × Int32 × (Nat → Int32) × (Nat → Int32)) := (some (s0, c0_offs, c0_offAt, c0_offWho, c0_lastOff, c0_now, c0_can))
def fX12_arms_b273 (c0_book : Nat → Int32) (x1 : Int32) (x2 : Int32) (K238 : (Int32 → Int32 → Int32 → Int32 → (Nat → Int32) → (Nat → Int32) → Int32 → Int32 → Option (Int32 × Int32 × Int32 × Int32 × Int32 × (Nat → Int32) × (Nat → Int32)))) (c0_offs : Int32) (c0_offAt : Int32) (c0_offWho : Int32) (c0_lastOff : Int32) (c0_now : Nat → Int32) (c0_can : Nat → Int32) (x4 : Int32) (s0 : Int32) : Option (Int32 × Int32 × Int32 × Int32 × Int32 × (Nat → Int32) × (Nat → Int32)) := (K238 c0_offs c0_offAt c0_offWho c0_lastOff c0_now c0_can s0 (x4 + (1 : Int32)))
def fX12_arms_b272 (c0_book : Nat → Int32) (x1 : Int32) (x2 : Int32) (K238 : (Int32 → Int32 → Int32 → Int32 → (Nat → Int32) → (Nat → Int32) → Int32 → Int32 → Option (Int32 × Int32 × Int32 × Int32 × Int32 × (Nat → Int32) × (Nat → Int32)))) (c0_offs : Int32) (c0_offAt : Int32) (c0_offWho : Int32) (c0_lastOff : Int32) (c0_now : Nat → Int32) (c0_can : Nat → Int32) (x3 : Int32) (x4 : Int32) : Option (Int32 × Int32 × Int32 × Int32 × Int32 × (Nat → Int32) × (Nat → Int32)) := (fX12_arms_b273 c0_book x1 x2 K238 c0_offs c0_offAt c0_offWho c0_lastOff c0_now c0_can x4 x3)
def fX12_arms_L238 (c0_book : Nat → Int32) (x1 : Int32) (x2 : Int32)  : Nat → Int32 → Int32 → Int32 → Int32 → (Nat → Int32) → (Nat → Int32) → Int32 → Int32 → Option (Int32 × Int32 × Int32 × Int32 × Int32 × (Nat → Int32) × (Nat → Int32))
  | 0, _, _, _, _, _, _, _, _ => none
  | n + 1, c0_offs, c0_offAt, c0_offWho, c0_lastOff, c0_now, c0_can, x3, x4 => (if (64 : Int32) ≤ x4 then (if x2 = (0 : Int32) then Option.bind (fX12_bits x3) (fun v3 => (fX12_arms_b292 c0_book x1 x2  c0_offs c0_offAt c0_offWho c0_lastOff c0_now c0_can v3)) else (fX12_arms_b292 c0_book x1 x2  c0_offs c0_offAt c0_offWho c0_lastOff c0_now c0_can x3)) else gd (inb x4 64) ((if (c0_can (x4).toNatClampNeg) = (0 : Int32) then (fX12_arms_b272 c0_book x1 x2 (fX12_arms_L238 c0_book x1 x2  n) c0_offs c0_offAt c0_offWho c0_lastOff c0_now c0_can x3 x4) else Option.bind (fX12_bits x4) (fun v6 => Option.bind (fX12_bits x3) (fun v7 => (if v6 ≤ v7 then (fX12_arms_b272 c0_book x1 x2 (fX12_arms_L238 c0_book x1 x2  n) c0_offs c0_offAt c0_offWho c0_lastOff c0_now c0_can x3 x4) else (fX12_arms_b273 c0_book x1 x2 (fX12_arms_L238 c0_book x1 x2  n) c0_offs c0_offAt c0_offWho c0_lastOff c0_now c0_can x4 x4)))))))
def fX12_arms_b227 (c0_book : Nat → Int32) (x1 : Int32) (x2 : Int32) (K57 : (Int32 → Int32 → Int32 → Int32 → (Nat → Int32) → (Nat → Int32) → Int32 → Option (Int32 × Int32 × Int32 × Int32 × Int32 × (Nat → Int32) × (Nat → Int32)))) (c0_offs : Int32) (c0_offAt : Int32) (c0_offWho : Int32) (c0_lastOff : Int32) (c0_now : Nat → Int32) (c0_can : Nat → Int32) (x3 : Int32) : Option (Int32 × Int32 × Int32 × Int32 × Int32 × (Nat → Int32) × (Nat → Int32)) := (K57 c0_offs c0_offAt c0_offWho c0_lastOff c0_now c0_can (x3 + (1 : Int32)))
def fX12_arms_b214 (c0_book : Nat → Int32) (x1 : Int32) (x2 : Int32) (K57 : (Int32 → Int32 → Int32 → Int32 → (Nat → Int32) → (Nat → Int32) → Int32 → Option (Int32 × Int32 × Int32 × Int32 × Int32 × (Nat → Int32) × (Nat → Int32)))) (K67 : (Int32 → Int32 → Int32 → Int32 → (Nat → Int32) → (Nat → Int32) → Int32 → Int32 → Option (Int32 × Int32 × Int32 × Int32 × Int32 × (Nat → Int32) × (Nat → Int32)))) (K83 : (Int32 → Int32 → Int32 → Int32 → (Nat → Int32) → (Nat → Int32) → Int32 → Int32 → Int32 → Option (Int32 × Int32 × Int32 × Int32 × Int32 × (Nat → Int32) × (Nat → Int32)))) (c0_offs : Int32) (c0_offAt : Int32) (c0_offWho : Int32) (c0_lastOff : Int32) (c0_now : Nat → Int32) (c0_can : Nat → Int32) (x3 : Int32) (x4 : Int32) (x5 : Int32) (s1 : Int32) (s2 : Int32) : Option (Int32 × Int32 × Int32 × Int32 × Int32 × (Nat → Int32) × (Nat → Int32)) := gd (inb s1 64) ((K83 c0_offs c0_offAt c0_offWho c0_lastOff c0_now (upd c0_can (s1).toNatClampNeg (vp_nar .boolean s2)) x3 x4 (x5 + (1 : Int32))))
def fX12_arms_b209 (c0_book : Nat → Int32) (x1 : Int32) (x2 : Int32) (K57 : (Int32 → Int32 → Int32 → Int32 → (Nat → Int32) → (Nat → Int32) → Int32 → Option (Int32 × Int32 × Int32 × Int32 × Int32 × (Nat → Int32) × (Nat → Int32)))) (K67 : (Int32 → Int32 → Int32 → Int32 → (Nat → Int32) → (Nat → Int32) → Int32 → Int32 → Option (Int32 × Int32 × Int32 × Int32 × Int32 × (Nat → Int32) × (Nat → Int32)))) (K83 : (Int32 → Int32 → Int32 → Int32 → (Nat → Int32) → (Nat → Int32) → Int32 → Int32 → Int32 → Option (Int32 × Int32 × Int32 × Int32 × Int32 × (Nat → Int32) × (Nat → Int32)))) (c0_offs : Int32) (c0_offAt : Int32) (c0_offWho : Int32) (c0_lastOff : Int32) (c0_now : Nat → Int32) (c0_can : Nat → Int32) (x3 : Int32) (x4 : Int32) (x5 : Int32) (s1 : Int32) : Option (Int32 × Int32 × Int32 × Int32 × Int32 × (Nat → Int32) × (Nat → Int32)) := (fX12_arms_b214 c0_book x1 x2 K57 K67 K83 c0_offs c0_offAt c0_offWho c0_lastOff c0_now c0_can x3 x4 x5 s1 (1 : Int32))
def fX12_arms_b186 (c0_book : Nat → Int32) (x1 : Int32) (x2 : Int32) (K57 : (Int32 → Int32 → Int32 → Int32 → (Nat → Int32) → (Nat → Int32) → Int32 → Option (Int32 × Int32 × Int32 × Int32 × Int32 × (Nat → Int32) × (Nat → Int32)))) (K67 : (Int32 → Int32 → Int32 → Int32 → (Nat → Int32) → (Nat → Int32) → Int32 → Int32 → Option (Int32 × Int32 × Int32 × Int32 × Int32 × (Nat → Int32) × (Nat → Int32)))) (K83 : (Int32 → Int32 → Int32 → Int32 → (Nat → Int32) → (Nat → Int32) → Int32 → Int32 → Int32 → Option (Int32 × Int32 × Int32 × Int32 × Int32 × (Nat → Int32) × (Nat → Int32)))) (c0_offs : Int32) (c0_offAt : Int32) (c0_offWho : Int32) (c0_lastOff : Int32) (c0_now : Nat → Int32) (c0_can : Nat → Int32) (x3 : Int32) (x4 : Int32) (x5 : Int32) (s0 : Int32) : Option (Int32 × Int32 × Int32 × Int32 × Int32 × (Nat → Int32) × (Nat → Int32)) := gd (inb x4 64) ((if (c0_can (x4).toNatClampNeg) = (0 : Int32) then (if s0 = (0 : Int32) then (fX12_arms_b214 c0_book x1 x2 K57 K67 K83 c0_offs c0_offAt c0_offWho c0_lastOff c0_now c0_can x3 x4 x5 x4 (0 : Int32)) else (fX12_arms_b209 c0_book x1 x2 K57 K67 K83 c0_offs c0_offAt c0_offWho c0_lastOff c0_now c0_can x3 x4 x5 x4)) else (fX12_arms_b209 c0_book x1 x2 K57 K67 K83 c0_offs c0_offAt c0_offWho c0_lastOff c0_now c0_can x3 x4 x5 x4)))
def fX12_arms_b185 (c0_book : Nat → Int32) (x1 : Int32) (x2 : Int32) (K57 : (Int32 → Int32 → Int32 → Int32 → (Nat → Int32) → (Nat → Int32) → Int32 → Option (Int32 × Int32 × Int32 × Int32 × Int32 × (Nat → Int32) × (Nat → Int32)))) (K67 : (Int32 → Int32 → Int32 → Int32 → (Nat → Int32) → (Nat → Int32) → Int32 → Int32 → Option (Int32 × Int32 × Int32 × Int32 × Int32 × (Nat → Int32) × (Nat → Int32)))) (K83 : (Int32 → Int32 → Int32 → Int32 → (Nat → Int32) → (Nat → Int32) → Int32 → Int32 → Int32 → Option (Int32 × Int32 × Int32 × Int32 × Int32 × (Nat → Int32) × (Nat → Int32)))) (c0_offs : Int32) (c0_offAt : Int32) (c0_offWho : Int32) (c0_lastOff : Int32) (c0_now : Nat → Int32) (c0_can : Nat → Int32) (x3 : Int32) (x4 : Int32) (x5 : Int32) : Option (Int32 × Int32 × Int32 × Int32 × Int32 × (Nat → Int32) × (Nat → Int32)) := (fX12_arms_b186 c0_book x1 x2 K57 K67 K83 c0_offs c0_offAt c0_offWho c0_lastOff c0_now c0_can x3 x4 x5 (0 : Int32))
def fX12_arms_b137 (c0_book : Nat → Int32) (x1 : Int32) (x2 : Int32) (K57 : (Int32 → Int32 → Int32 → Int32 → (Nat → Int32) → (Nat → Int32) → Int32 → Option (Int32 × Int32 × Int32 × Int32 × Int32 × (Nat → Int32) × (Nat → Int32)))) (K67 : (Int32 → Int32 → Int32 → Int32 → (Nat → Int32) → (Nat → Int32) → Int32 → Int32 → Option (Int32 × Int32 × Int32 × Int32 × Int32 × (Nat → Int32) × (Nat → Int32)))) (K83 : (Int32 → Int32 → Int32 → Int32 → (Nat → Int32) → (Nat → Int32) → Int32 → Int32 → Int32 → Option (Int32 × Int32 × Int32 × Int32 × Int32 × (Nat → Int32) × (Nat → Int32)))) (c0_offs : Int32) (c0_offAt : Int32) (c0_offWho : Int32) (c0_lastOff : Int32) (c0_now : Nat → Int32) (c0_can : Nat → Int32) (x3 : Int32) (x4 : Int32) (x5 : Int32) (s0 : Int32) : Option (Int32 × Int32 × Int32 × Int32 × Int32 × (Nat → Int32) × (Nat → Int32)) := Option.bind (fX12_has x4 x5) (fun v13 => (if v13 = (0 : Int32) then (fX12_arms_b185 c0_book x1 x2 K57 K67 K83 c0_offs c0_offAt c0_offWho c0_lastOff c0_now c0_can x3 x4 x5) else Option.bind (fX12_atPeace c0_now x5) (fun v15 => (if v15 = (0 : Int32) then (if x1 < s0 then (fX12_arms_b185 c0_book x1 x2 K57 K67 K83 c0_offs c0_offAt c0_offWho c0_lastOff c0_now c0_can x3 x4 x5) else gd (inb (x4 &&& ((sl (1 : Int32) x5) ^^^ (-1 : Int32))) 64) ((if (c0_can ((x4 &&& ((sl (1 : Int32) x5) ^^^ (-1 : Int32)))).toNatClampNeg) = (0 : Int32) then (fX12_arms_b185 c0_book x1 x2 K57 K67 K83 c0_offs c0_offAt c0_offWho c0_lastOff c0_now c0_can x3 x4 x5) else (fX12_arms_b186 c0_book x1 x2 K57 K67 K83 c0_offs c0_offAt c0_offWho c0_lastOff c0_now c0_can x3 x4 x5 (1 : Int32))))) else (fX12_arms_b185 c0_book x1 x2 K57 K67 K83 c0_offs c0_offAt c0_offWho c0_lastOff c0_now c0_can x3 x4 x5)))))
def fX12_arms_L83 (c0_book : Nat → Int32) (x1 : Int32) (x2 : Int32) (K57 : (Int32 → Int32 → Int32 → Int32 → (Nat → Int32) → (Nat → Int32) → Int32 → Option (Int32 × Int32 × Int32 × Int32 × Int32 × (Nat → Int32) × (Nat → Int32)))) (K67 : (Int32 → Int32 → Int32 → Int32 → (Nat → Int32) → (Nat → Int32) → Int32 → Int32 → Option (Int32 × Int32 × Int32 × Int32 × Int32 × (Nat → Int32) × (Nat → Int32)))) : Nat → Int32 → Int32 → Int32 → Int32 → (Nat → Int32) → (Nat → Int32) → Int32 → Int32 → Int32 → Option (Int32 × Int32 × Int32 × Int32 × Int32 × (Nat → Int32) × (Nat → Int32))
  | 0, _, _, _, _, _, _, _, _, _ => none
  | n + 1, c0_offs, c0_offAt, c0_offWho, c0_lastOff, c0_now, c0_can, x3, x4, x5 => (if (6 : Int32) ≤ x5 then (K67 c0_offs c0_offAt c0_offWho c0_lastOff c0_now c0_can x3 (x4 + (-1 : Int32))) else gd (inb x5 56) (gd (inb x3 56) ((if (c0_now (x5).toNatClampNeg) ≤ (c0_now (x3).toNatClampNeg) then gd (inb x3 56) (gd (inb x5 56) ((fX12_arms_b137 c0_book x1 x2 K57 K67 (fX12_arms_L83 c0_book x1 x2 K57 K67 n) c0_offs c0_offAt c0_offWho c0_lastOff c0_now c0_can x3 x4 x5 ((c0_now (x3).toNatClampNeg) - (c0_now (x5).toNatClampNeg))))) else gd (inb x5 56) (gd (inb x3 56) ((fX12_arms_b137 c0_book x1 x2 K57 K67 (fX12_arms_L83 c0_book x1 x2 K57 K67 n) c0_offs c0_offAt c0_offWho c0_lastOff c0_now c0_can x3 x4 x5 ((c0_now (x5).toNatClampNeg) - (c0_now (x3).toNatClampNeg)))))))))
def fX12_arms_L67 (c0_book : Nat → Int32) (x1 : Int32) (x2 : Int32) (K57 : (Int32 → Int32 → Int32 → Int32 → (Nat → Int32) → (Nat → Int32) → Int32 → Option (Int32 × Int32 × Int32 × Int32 × Int32 × (Nat → Int32) × (Nat → Int32)))) : Nat → Int32 → Int32 → Int32 → Int32 → (Nat → Int32) → (Nat → Int32) → Int32 → Int32 → Option (Int32 × Int32 × Int32 × Int32 × Int32 × (Nat → Int32) × (Nat → Int32))
  | 0, _, _, _, _, _, _, _, _ => none
  | n + 1, c0_offs, c0_offAt, c0_offWho, c0_lastOff, c0_now, c0_can, x3, x4 => (if x4 ≤ (0 : Int32) then (fX12_arms_b227 c0_book x1 x2 K57 c0_offs c0_offAt c0_offWho c0_lastOff c0_now c0_can x3) else Option.bind (fX12_atPeace c0_now x3) (fun v29 => (if v29 = (0 : Int32) then (fX12_arms_b227 c0_book x1 x2 K57 c0_offs c0_offAt c0_offWho c0_lastOff c0_now c0_can x3) else (fX12_arms_L83 c0_book x1 x2 K57 (fX12_arms_L67 c0_book x1 x2 K57 n) zF c0_offs c0_offAt c0_offWho c0_lastOff c0_now c0_can x3 x4 (0 : Int32)))))
def fX12_arms_L57 (c0_book : Nat → Int32) (x1 : Int32) (x2 : Int32)  : Nat → Int32 → Int32 → Int32 → Int32 → (Nat → Int32) → (Nat → Int32) → Int32 → Option (Int32 × Int32 × Int32 × Int32 × Int32 × (Nat → Int32) × (Nat → Int32))
  | 0, _, _, _, _, _, _, _ => none
  | n + 1, c0_offs, c0_offAt, c0_offWho, c0_lastOff, c0_now, c0_can, x3 => (if (6 : Int32) ≤ x3 then (fX12_arms_L238 c0_book x1 x2  zF c0_offs c0_offAt c0_offWho c0_lastOff c0_now c0_can (0 : Int32) (1 : Int32)) else (fX12_arms_L67 c0_book x1 x2 (fX12_arms_L57 c0_book x1 x2  n) zF c0_offs c0_offAt c0_offWho c0_lastOff c0_now c0_can x3 (63 : Int32)))
def fX12_arms_b48 (c0_book : Nat → Int32) (x1 : Int32) (x2 : Int32) (K28 : (Int32 → Int32 → Int32 → Int32 → (Nat → Int32) → (Nat → Int32) → Int32 → Option (Int32 × Int32 × Int32 × Int32 × Int32 × (Nat → Int32) × (Nat → Int32)))) (c0_offs : Int32) (c0_offAt : Int32) (c0_offWho : Int32) (c0_lastOff : Int32) (c0_now : Nat → Int32) (c0_can : Nat → Int32) (x3 : Int32) (s1 : Int32) (s2 : Int32) : Option (Int32 × Int32 × Int32 × Int32 × Int32 × (Nat → Int32) × (Nat → Int32)) := gd (inb s1 64) ((K28 c0_offs c0_offAt c0_offWho c0_lastOff c0_now (upd c0_can (s1).toNatClampNeg (vp_nar .boolean s2)) (x3 + (1 : Int32))))
def fX12_arms_L28 (c0_book : Nat → Int32) (x1 : Int32) (x2 : Int32)  : Nat → Int32 → Int32 → Int32 → Int32 → (Nat → Int32) → (Nat → Int32) → Int32 → Option (Int32 × Int32 × Int32 × Int32 × Int32 × (Nat → Int32) × (Nat → Int32))
  | 0, _, _, _, _, _, _, _ => none
  | n + 1, c0_offs, c0_offAt, c0_offWho, c0_lastOff, c0_now, c0_can, x3 => (if (64 : Int32) ≤ x3 then (fX12_arms_L57 c0_book x1 x2  zF c0_offs c0_offAt c0_offWho c0_lastOff c0_now c0_can (0 : Int32)) else (if x3 = (0 : Int32) then (fX12_arms_b48 c0_book x1 x2 (fX12_arms_L28 c0_book x1 x2  n) c0_offs c0_offAt c0_offWho c0_lastOff c0_now c0_can x3 x3 (1 : Int32)) else (fX12_arms_b48 c0_book x1 x2 (fX12_arms_L28 c0_book x1 x2  n) c0_offs c0_offAt c0_offWho c0_lastOff c0_now c0_can x3 x3 (0 : Int32))))
def fX12_arms (c0_offs : Int32) (c0_offAt : Int32) (c0_offWho : Int32) (c0_lastOff : Int32) (c0_book : Nat → Int32) (c0_now : Nat → Int32) (c0_can : Nat → Int32) (x1 : Int32) (x2 : Int32) : Option (Int32 × Int32 × Int32 × Int32 × Int32 × (Nat → Int32) × (Nat → Int32)) := Option.bind (fX12_in x1 (0 : Int32) (11 : Int32)) (fun v35 => (if v35 = (0 : Int32) then (fX12_arms_b19 c0_book x1 x2  c0_offs c0_offAt c0_offWho c0_lastOff c0_now c0_can) else Option.bind (fX12_in x2 (0 : Int32) (1 : Int32)) (fun v37 => (if v37 = (0 : Int32) then (fX12_arms_b19 c0_book x1 x2  c0_offs c0_offAt c0_offWho c0_lastOff c0_now c0_can) else Option.bind (fX12_asNow c0_offs c0_offAt c0_offWho c0_lastOff c0_book c0_now) (fun v39 => (fX12_arms_L28 c0_book x1 x2  zF v39.1 v39.2.1 v39.2.2.1 v39.2.2.2.1 v39.2.2.2.2 c0_can (0 : Int32)))))))
abbrev rmX12_arms : Room := { frames := 2, cells := 0, slots := 0, locals := 42 }
set_option maxRecDepth 100000 in
set_option maxHeartbeats 4000000 in
theorem ctX12_arms (l : Launch) (G : zG) (a0 a0_book a0_now a0_sight a0_pad a0_can a0_fitting a0_wins a0_image a0_isKept : Nat) (c0_sights : Int32) (c0_signs : Int32) (c0_offs : Int32) (c0_offAt : Int32) (c0_offWho : Int32) (c0_lastOff : Int32) (c0_reason : Int32) (c0_acts : Int32) (c0_book : Nat → Int32) (c0_now : Nat → Int32) (c0_can : Nat → Int32) (x1 : Int32) (x2 : Int32) {R : Int32 × Int32 × Int32 × Int32 × Int32 × (Nat → Int32) × (Nat → Int32)} (hf : fX12_arms c0_offs c0_offAt c0_offWho c0_lastOff c0_book c0_now c0_can x1 x2 = some R) : zCt l yX12_arms wsX12_arms rmX12_arms G [(a0, .inr (12, [.ref a0_book, .ref a0_now, .int c0_sights, .ref a0_sight, .int c0_signs, .ref a0_pad, .int c0_offs, .int c0_offAt, .int c0_offWho, .int c0_lastOff, .int c0_reason, .int c0_acts, .ref a0_can, .ref a0_fitting, .ref a0_wins, .ref a0_image, .ref a0_isKept])), (a0_book, .inl (G.2.1, 56, .inl c0_book)), (a0_now, .inl (G.2.1, 56, .inl c0_now)), (a0_can, .inl (G.2.2.1, 64, .inl c0_can))] [.ref a0, .int x1, .int x2] (fun v w => v = some (.int (R.1)) ∧ w = [(a0, .inr (12, [.ref a0_book, .ref a0_now, .int c0_sights, .ref a0_sight, .int c0_signs, .ref a0_pad, .int (R.2.1), .int (R.2.2.1), .int (R.2.2.2.1), .int (R.2.2.2.2.1), .int c0_reason, .int c0_acts, .ref a0_can, .ref a0_fitting, .ref a0_wins, .ref a0_image, .ref a0_isKept])), (a0_book, .inl (G.2.1, 56, .inl c0_book)), (a0_now, .inl (G.2.1, 56, .inl (R.2.2.2.2.2.1))), (a0_can, .inl (G.2.2.1, 64, .inl (R.2.2.2.2.2.2)))]) := by
  refine zMkI (own := RX12) false (by decide) (by decide +kernel) rfl rfl (Nat.le_of_ble_eq_true rfl) ?_
  intro Z h hret
  have hB19 : ∀ (c0_offs : Int32) (c0_offAt : Int32) (c0_offWho : Int32) (c0_lastOff : Int32) (c0_now : Nat → Int32) (c0_can : Nat → Int32), fX12_arms_b19 c0_book x1 x2  c0_offs c0_offAt c0_offWho c0_lastOff c0_now c0_can = some R → Z 0 0 [(a0, .inr (12, [.ref a0_book, .ref a0_now, .int c0_sights, .ref a0_sight, .int c0_signs, .ref a0_pad, .int c0_offs, .int c0_offAt, .int c0_offWho, .int c0_lastOff, .int c0_reason, .int c0_acts, .ref a0_can, .ref a0_fitting, .ref a0_wins, .ref a0_image, .ref a0_isKept])), (a0_book, .inl (G.2.1, 56, .inl c0_book)), (a0_now, .inl (G.2.1, 56, .inl c0_now)), (a0_can, .inl (G.2.2.1, 64, .inl c0_can))] [] 19 [] := by
    intro c0_offs c0_offAt c0_offWho c0_lastOff c0_now c0_can hf
    rw [fX12_arms_b19] at hf
    refine z_bipush h (v := (-2 : Int32)) dX12_arms_19 (by decide) rfl ?_
    have hf := Option.some.inj hf
    subst hf
    exact hret _ _ _ _ dX12_arms_21 ⟨rfl, rfl⟩
  have hB292 : ∀ (c0_offs : Int32) (c0_offAt : Int32) (c0_offWho : Int32) (c0_lastOff : Int32) (c0_now : Nat → Int32) (c0_can : Nat → Int32) (s0 : Int32), fX12_arms_b292 c0_book x1 x2  c0_offs c0_offAt c0_offWho c0_lastOff c0_now c0_can s0 = some R → Z 0 0 [(a0, .inr (12, [.ref a0_book, .ref a0_now, .int c0_sights, .ref a0_sight, .int c0_signs, .ref a0_pad, .int c0_offs, .int c0_offAt, .int c0_offWho, .int c0_lastOff, .int c0_reason, .int c0_acts, .ref a0_can, .ref a0_fitting, .ref a0_wins, .ref a0_image, .ref a0_isKept])), (a0_book, .inl (G.2.1, 56, .inl c0_book)), (a0_now, .inl (G.2.1, 56, .inl c0_now)), (a0_can, .inl (G.2.2.1, 64, .inl c0_can))] [] 292 [.int s0] := by
    intro c0_offs c0_offAt c0_offWho c0_lastOff c0_now c0_can s0 hf
    rw [fX12_arms_b292] at hf
    have hf := Option.some.inj hf
    subst hf
    exact hret _ _ _ _ dX12_arms_292 ⟨rfl, rfl⟩
  have hL238 : ∀ (n238 : Nat) (c0_offs : Int32) (c0_offAt : Int32) (c0_offWho : Int32) (c0_lastOff : Int32) (c0_now : Nat → Int32) (c0_can : Nat → Int32) (x3 : Int32) (x4 : Int32), fX12_arms_L238 c0_book x1 x2  n238 c0_offs c0_offAt c0_offWho c0_lastOff c0_now c0_can x3 x4 = some R → Z 0 0 [(a0, .inr (12, [.ref a0_book, .ref a0_now, .int c0_sights, .ref a0_sight, .int c0_signs, .ref a0_pad, .int c0_offs, .int c0_offAt, .int c0_offWho, .int c0_lastOff, .int c0_reason, .int c0_acts, .ref a0_can, .ref a0_fitting, .ref a0_wins, .ref a0_image, .ref a0_isKept])), (a0_book, .inl (G.2.1, 56, .inl c0_book)), (a0_now, .inl (G.2.1, 56, .inl c0_now)), (a0_can, .inl (G.2.2.1, 64, .inl c0_can))] [(0, .ref a0), (2, .int x2), (3, .int x3), (4, .int x4)] 238 [] := by
    intro n238
    induction n238 with
    | zero =>
      intro c0_offs c0_offAt c0_offWho c0_lastOff c0_now c0_can x3 x4 hf
      rw [fX12_arms_L238] at hf
      cases hf
    | succ n238 ih238 =>
      have hB273 : ∀ (c0_offs : Int32) (c0_offAt : Int32) (c0_offWho : Int32) (c0_lastOff : Int32) (c0_now : Nat → Int32) (c0_can : Nat → Int32) (x4 : Int32) (s0 : Int32), fX12_arms_b273 c0_book x1 x2 (fX12_arms_L238 c0_book x1 x2  n238) c0_offs c0_offAt c0_offWho c0_lastOff c0_now c0_can x4 s0 = some R → Z 0 0 [(a0, .inr (12, [.ref a0_book, .ref a0_now, .int c0_sights, .ref a0_sight, .int c0_signs, .ref a0_pad, .int c0_offs, .int c0_offAt, .int c0_offWho, .int c0_lastOff, .int c0_reason, .int c0_acts, .ref a0_can, .ref a0_fitting, .ref a0_wins, .ref a0_image, .ref a0_isKept])), (a0_book, .inl (G.2.1, 56, .inl c0_book)), (a0_now, .inl (G.2.1, 56, .inl c0_now)), (a0_can, .inl (G.2.2.1, 64, .inl c0_can))] [(0, .ref a0), (2, .int x2), (4, .int x4)] 273 [.int s0] := by
        intro c0_offs c0_offAt c0_offWho c0_lastOff c0_now c0_can x4 s0 hf
        rw [fX12_arms_b273] at hf
        refine z_istore_n h (lv2 := [(3, .int s0), (0, .ref a0), (2, .int x2), (4, .int x4)]) dX12_arms_273 (by decide) rfl rfl ?_
        refine z_iinc h (v := (x4 + (1 : Int32))) (lv2 := [(4, .int (x4 + (1 : Int32))), (3, .int s0), (0, .ref a0), (2, .int x2)]) (j := 3) dX12_arms_274 rfl rfl (by decide) rfl rfl ?_
        refine z_goto h (tgt := 238) dX12_arms_277 (by decide) ?_
        refine z_locs h (lv2 := [(0, .ref a0), (2, .int x2), (3, .int s0), (4, .int (x4 + (1 : Int32)))]) [2, 3, 1, 0] rfl ?_
        exact ih238 c0_offs c0_offAt c0_offWho c0_lastOff c0_now c0_can s0 (x4 + (1 : Int32)) hf
      have hB272 : ∀ (c0_offs : Int32) (c0_offAt : Int32) (c0_offWho : Int32) (c0_lastOff : Int32) (c0_now : Nat → Int32) (c0_can : Nat → Int32) (x3 : Int32) (x4 : Int32), fX12_arms_b272 c0_book x1 x2 (fX12_arms_L238 c0_book x1 x2  n238) c0_offs c0_offAt c0_offWho c0_lastOff c0_now c0_can x3 x4 = some R → Z 0 0 [(a0, .inr (12, [.ref a0_book, .ref a0_now, .int c0_sights, .ref a0_sight, .int c0_signs, .ref a0_pad, .int c0_offs, .int c0_offAt, .int c0_offWho, .int c0_lastOff, .int c0_reason, .int c0_acts, .ref a0_can, .ref a0_fitting, .ref a0_wins, .ref a0_image, .ref a0_isKept])), (a0_book, .inl (G.2.1, 56, .inl c0_book)), (a0_now, .inl (G.2.1, 56, .inl c0_now)), (a0_can, .inl (G.2.2.1, 64, .inl c0_can))] [(0, .ref a0), (2, .int x2), (3, .int x3), (4, .int x4)] 272 [] := by
        intro c0_offs c0_offAt c0_offWho c0_lastOff c0_now c0_can x3 x4 hf
        rw [fX12_arms_b272] at hf
        refine z_iload_n h dX12_arms_272 2 rfl rfl ?_
        refine z_locs h (lv2 := [(0, .ref a0), (2, .int x2), (4, .int x4)]) [0, 1, 3] rfl ?_
        exact hB273 c0_offs c0_offAt c0_offWho c0_lastOff c0_now c0_can x4 x3 hf
      intro c0_offs c0_offAt c0_offWho c0_lastOff c0_now c0_can x3 x4 hf
      rw [fX12_arms_L238] at hf
      refine z_iload h dX12_arms_238 3 rfl rfl ?_
      refine z_bipush h (v := (64 : Int32)) dX12_arms_240 (by decide) rfl ?_
      refine z_icmp_ge h (tgt := 280) dX12_arms_242 (by decide) rfl (fun c1 => ?_) (fun c1 => ?_)
      · have hf := ite_t hf c1
        refine z_iload_n h dX12_arms_280 1 rfl rfl ?_
        refine z_if_ne h (tgt := 291) dX12_arms_281 (by decide) rfl (fun c2 => ?_) (fun c2 => ?_)
        · have hf := ite_f hf c2
          refine z_iload_n h dX12_arms_291 2 rfl rfl ?_
          refine z_locs h (lv2 := []) [] rfl ?_
          exact hB292 c0_offs c0_offAt c0_offWho c0_lastOff c0_now c0_can x3 hf
        have hf := ite_t hf c2
        refine z_iload_n h dX12_arms_284 2 rfl rfl ?_
        obtain ⟨v3, hv3, hf⟩ := bd_some hf
        refine z_callS h (np := 1) (st := []) (wr := [(a0, .inr (12, [.ref a0_book, .ref a0_now, .int c0_sights, .ref a0_sight, .int c0_signs, .ref a0_pad, .int c0_offs, .int c0_offAt, .int c0_offWho, .int c0_lastOff, .int c0_reason, .int c0_acts, .ref a0_can, .ref a0_fitting, .ref a0_wins, .ref a0_image, .ref a0_isKept])), (a0_book, .inl (G.2.1, 56, .inl c0_book)), (a0_now, .inl (G.2.1, 56, .inl c0_now)), (a0_can, .inl (G.2.2.1, 64, .inl c0_can))]) [.int x3] (ctX12_bits l G x3 hv3) gX12_arms_X12_bits (by decide +kernel) rfl ⟨Nat.le_of_ble_eq_true rfl, Nat.le_of_ble_eq_true rfl⟩ ⟨Nat.le_refl _, Nat.le_refl _⟩ rfl rfl rfl [] [0, 1, 2, 3] rfl rfl rfl rfl (by decide) (Nat.le_of_ble_eq_true rfl) dX12_arms_285 rfl rfl (fun rv3 wv3 hrv3 => ?_)
        obtain ⟨rfl, rfl⟩ := hrv3
        refine z_perm h (w2 := [(a0, .inr (12, [.ref a0_book, .ref a0_now, .int c0_sights, .ref a0_sight, .int c0_signs, .ref a0_pad, .int c0_offs, .int c0_offAt, .int c0_offWho, .int c0_lastOff, .int c0_reason, .int c0_acts, .ref a0_can, .ref a0_fitting, .ref a0_wins, .ref a0_image, .ref a0_isKept])), (a0_book, .inl (G.2.1, 56, .inl c0_book)), (a0_now, .inl (G.2.1, 56, .inl c0_now)), (a0_can, .inl (G.2.2.1, 64, .inl c0_can))]) (st := [.int v3]) [0, 1, 2, 3] rfl rfl ?_
        refine z_goto h (tgt := 292) dX12_arms_288 (by decide) ?_
        refine z_locs h (lv2 := []) [] rfl ?_
        exact hB292 c0_offs c0_offAt c0_offWho c0_lastOff c0_now c0_can v3 hf
      have hf := ite_f hf c1
      refine z_aload_n h dX12_arms_245 0 rfl rfl ?_
      refine z_get h (C := RX12) (T := TX12) (N := 17) (v := .ref a0_can) 0 rfl rfl 12 (by decide) (by decide +kernel) (by decide +kernel) rfl dX12_arms_246 rfl ?_
      refine z_iload h dX12_arms_249 3 rfl rfl ?_
      obtain ⟨hg4, hf⟩ := gd_some hf
      refine z_zald h 3 rfl rfl hg4 dX12_arms_251 rfl ?_
      refine z_if_eq h (tgt := 272) dX12_arms_252 (by decide) rfl (fun c5 => ?_) (fun c5 => ?_)
      · have hf := ite_t hf c5
        exact hB272 c0_offs c0_offAt c0_offWho c0_lastOff c0_now c0_can x3 x4 hf
      have hf := ite_f hf c5
      refine z_iload h dX12_arms_255 3 rfl rfl ?_
      obtain ⟨v6, hv6, hf⟩ := bd_some hf
      refine z_callS h (np := 1) (st := []) (wr := [(a0, .inr (12, [.ref a0_book, .ref a0_now, .int c0_sights, .ref a0_sight, .int c0_signs, .ref a0_pad, .int c0_offs, .int c0_offAt, .int c0_offWho, .int c0_lastOff, .int c0_reason, .int c0_acts, .ref a0_can, .ref a0_fitting, .ref a0_wins, .ref a0_image, .ref a0_isKept])), (a0_book, .inl (G.2.1, 56, .inl c0_book)), (a0_now, .inl (G.2.1, 56, .inl c0_now)), (a0_can, .inl (G.2.2.1, 64, .inl c0_can))]) [.int x4] (ctX12_bits l G x4 hv6) gX12_arms_X12_bits (by decide +kernel) rfl ⟨Nat.le_of_ble_eq_true rfl, Nat.le_of_ble_eq_true rfl⟩ ⟨Nat.le_refl _, Nat.le_refl _⟩ rfl rfl rfl [] [0, 1, 2, 3] rfl rfl rfl rfl (by decide) (Nat.le_of_ble_eq_true rfl) dX12_arms_257 rfl rfl (fun rv6 wv6 hrv6 => ?_)
      obtain ⟨rfl, rfl⟩ := hrv6
      refine z_perm h (w2 := [(a0, .inr (12, [.ref a0_book, .ref a0_now, .int c0_sights, .ref a0_sight, .int c0_signs, .ref a0_pad, .int c0_offs, .int c0_offAt, .int c0_offWho, .int c0_lastOff, .int c0_reason, .int c0_acts, .ref a0_can, .ref a0_fitting, .ref a0_wins, .ref a0_image, .ref a0_isKept])), (a0_book, .inl (G.2.1, 56, .inl c0_book)), (a0_now, .inl (G.2.1, 56, .inl c0_now)), (a0_can, .inl (G.2.2.1, 64, .inl c0_can))]) (st := [.int v6]) [0, 1, 2, 3] rfl rfl ?_
      refine z_iload_n h dX12_arms_260 2 rfl rfl ?_
      obtain ⟨v7, hv7, hf⟩ := bd_some hf
      refine z_callS h (np := 1) (st := [.int v6]) (wr := [(a0, .inr (12, [.ref a0_book, .ref a0_now, .int c0_sights, .ref a0_sight, .int c0_signs, .ref a0_pad, .int c0_offs, .int c0_offAt, .int c0_offWho, .int c0_lastOff, .int c0_reason, .int c0_acts, .ref a0_can, .ref a0_fitting, .ref a0_wins, .ref a0_image, .ref a0_isKept])), (a0_book, .inl (G.2.1, 56, .inl c0_book)), (a0_now, .inl (G.2.1, 56, .inl c0_now)), (a0_can, .inl (G.2.2.1, 64, .inl c0_can))]) [.int x3] (ctX12_bits l G x3 hv7) gX12_arms_X12_bits (by decide +kernel) rfl ⟨Nat.le_of_ble_eq_true rfl, Nat.le_of_ble_eq_true rfl⟩ ⟨Nat.le_refl _, Nat.le_refl _⟩ rfl rfl rfl [] [0, 1, 2, 3] rfl rfl rfl rfl (by decide) (Nat.le_of_ble_eq_true rfl) dX12_arms_261 rfl rfl (fun rv7 wv7 hrv7 => ?_)
      obtain ⟨rfl, rfl⟩ := hrv7
      refine z_perm h (w2 := [(a0, .inr (12, [.ref a0_book, .ref a0_now, .int c0_sights, .ref a0_sight, .int c0_signs, .ref a0_pad, .int c0_offs, .int c0_offAt, .int c0_offWho, .int c0_lastOff, .int c0_reason, .int c0_acts, .ref a0_can, .ref a0_fitting, .ref a0_wins, .ref a0_image, .ref a0_isKept])), (a0_book, .inl (G.2.1, 56, .inl c0_book)), (a0_now, .inl (G.2.1, 56, .inl c0_now)), (a0_can, .inl (G.2.2.1, 64, .inl c0_can))]) (st := [.int v7, .int v6]) [0, 1, 2, 3] rfl rfl ?_
      refine z_icmp_le h (tgt := 272) dX12_arms_264 (by decide) rfl (fun c8 => ?_) (fun c8 => ?_)
      · have hf := ite_t hf c8
        exact hB272 c0_offs c0_offAt c0_offWho c0_lastOff c0_now c0_can x3 x4 hf
      have hf := ite_f hf c8
      refine z_iload h dX12_arms_267 3 rfl rfl ?_
      refine z_goto h (tgt := 273) dX12_arms_269 (by decide) ?_
      refine z_locs h (lv2 := [(0, .ref a0), (2, .int x2), (4, .int x4)]) [0, 1, 3] rfl ?_
      exact hB273 c0_offs c0_offAt c0_offWho c0_lastOff c0_now c0_can x4 x4 hf
  have hL57 : ∀ (n57 : Nat) (c0_offs : Int32) (c0_offAt : Int32) (c0_offWho : Int32) (c0_lastOff : Int32) (c0_now : Nat → Int32) (c0_can : Nat → Int32) (x3 : Int32), fX12_arms_L57 c0_book x1 x2  n57 c0_offs c0_offAt c0_offWho c0_lastOff c0_now c0_can x3 = some R → Z 0 0 [(a0, .inr (12, [.ref a0_book, .ref a0_now, .int c0_sights, .ref a0_sight, .int c0_signs, .ref a0_pad, .int c0_offs, .int c0_offAt, .int c0_offWho, .int c0_lastOff, .int c0_reason, .int c0_acts, .ref a0_can, .ref a0_fitting, .ref a0_wins, .ref a0_image, .ref a0_isKept])), (a0_book, .inl (G.2.1, 56, .inl c0_book)), (a0_now, .inl (G.2.1, 56, .inl c0_now)), (a0_can, .inl (G.2.2.1, 64, .inl c0_can))] [(0, .ref a0), (1, .int x1), (2, .int x2), (3, .int x3)] 57 [] := by
    intro n57
    induction n57 with
    | zero =>
      intro c0_offs c0_offAt c0_offWho c0_lastOff c0_now c0_can x3 hf
      rw [fX12_arms_L57] at hf
      cases hf
    | succ n57 ih57 =>
      have hB227 : ∀ (c0_offs : Int32) (c0_offAt : Int32) (c0_offWho : Int32) (c0_lastOff : Int32) (c0_now : Nat → Int32) (c0_can : Nat → Int32) (x3 : Int32), fX12_arms_b227 c0_book x1 x2 (fX12_arms_L57 c0_book x1 x2  n57) c0_offs c0_offAt c0_offWho c0_lastOff c0_now c0_can x3 = some R → Z 0 0 [(a0, .inr (12, [.ref a0_book, .ref a0_now, .int c0_sights, .ref a0_sight, .int c0_signs, .ref a0_pad, .int c0_offs, .int c0_offAt, .int c0_offWho, .int c0_lastOff, .int c0_reason, .int c0_acts, .ref a0_can, .ref a0_fitting, .ref a0_wins, .ref a0_image, .ref a0_isKept])), (a0_book, .inl (G.2.1, 56, .inl c0_book)), (a0_now, .inl (G.2.1, 56, .inl c0_now)), (a0_can, .inl (G.2.2.1, 64, .inl c0_can))] [(0, .ref a0), (1, .int x1), (2, .int x2), (3, .int x3)] 227 [] := by
        intro c0_offs c0_offAt c0_offWho c0_lastOff c0_now c0_can x3 hf
        rw [fX12_arms_b227] at hf
        refine z_iinc h (v := (x3 + (1 : Int32))) (lv2 := [(3, .int (x3 + (1 : Int32))), (0, .ref a0), (1, .int x1), (2, .int x2)]) (j := 3) dX12_arms_227 rfl rfl (by decide) rfl rfl ?_
        refine z_goto h (tgt := 57) dX12_arms_230 (by decide) ?_
        refine z_locs h (lv2 := [(0, .ref a0), (1, .int x1), (2, .int x2), (3, .int (x3 + (1 : Int32)))]) [1, 2, 3, 0] rfl ?_
        exact ih57 c0_offs c0_offAt c0_offWho c0_lastOff c0_now c0_can (x3 + (1 : Int32)) hf
      have hL67 : ∀ (n67 : Nat) (c0_offs : Int32) (c0_offAt : Int32) (c0_offWho : Int32) (c0_lastOff : Int32) (c0_now : Nat → Int32) (c0_can : Nat → Int32) (x3 : Int32) (x4 : Int32), fX12_arms_L67 c0_book x1 x2 (fX12_arms_L57 c0_book x1 x2  n57) n67 c0_offs c0_offAt c0_offWho c0_lastOff c0_now c0_can x3 x4 = some R → Z 0 0 [(a0, .inr (12, [.ref a0_book, .ref a0_now, .int c0_sights, .ref a0_sight, .int c0_signs, .ref a0_pad, .int c0_offs, .int c0_offAt, .int c0_offWho, .int c0_lastOff, .int c0_reason, .int c0_acts, .ref a0_can, .ref a0_fitting, .ref a0_wins, .ref a0_image, .ref a0_isKept])), (a0_book, .inl (G.2.1, 56, .inl c0_book)), (a0_now, .inl (G.2.1, 56, .inl c0_now)), (a0_can, .inl (G.2.2.1, 64, .inl c0_can))] [(0, .ref a0), (1, .int x1), (2, .int x2), (3, .int x3), (4, .int x4)] 67 [] := by
        intro n67
        induction n67 with
        | zero =>
          intro c0_offs c0_offAt c0_offWho c0_lastOff c0_now c0_can x3 x4 hf
          rw [fX12_arms_L67] at hf
          cases hf
        | succ n67 ih67 =>
          have hL83 : ∀ (n83 : Nat) (c0_offs : Int32) (c0_offAt : Int32) (c0_offWho : Int32) (c0_lastOff : Int32) (c0_now : Nat → Int32) (c0_can : Nat → Int32) (x3 : Int32) (x4 : Int32) (x5 : Int32), fX12_arms_L83 c0_book x1 x2 (fX12_arms_L57 c0_book x1 x2  n57) (fX12_arms_L67 c0_book x1 x2 (fX12_arms_L57 c0_book x1 x2  n57) n67) n83 c0_offs c0_offAt c0_offWho c0_lastOff c0_now c0_can x3 x4 x5 = some R → Z 0 0 [(a0, .inr (12, [.ref a0_book, .ref a0_now, .int c0_sights, .ref a0_sight, .int c0_signs, .ref a0_pad, .int c0_offs, .int c0_offAt, .int c0_offWho, .int c0_lastOff, .int c0_reason, .int c0_acts, .ref a0_can, .ref a0_fitting, .ref a0_wins, .ref a0_image, .ref a0_isKept])), (a0_book, .inl (G.2.1, 56, .inl c0_book)), (a0_now, .inl (G.2.1, 56, .inl c0_now)), (a0_can, .inl (G.2.2.1, 64, .inl c0_can))] [(0, .ref a0), (1, .int x1), (2, .int x2), (3, .int x3), (4, .int x4), (5, .int x5)] 83 [] := by
            intro n83
            induction n83 with
            | zero =>
              intro c0_offs c0_offAt c0_offWho c0_lastOff c0_now c0_can x3 x4 x5 hf
              rw [fX12_arms_L83] at hf
              cases hf
            | succ n83 ih83 =>
              have hB214 : ∀ (c0_offs : Int32) (c0_offAt : Int32) (c0_offWho : Int32) (c0_lastOff : Int32) (c0_now : Nat → Int32) (c0_can : Nat → Int32) (x3 : Int32) (x4 : Int32) (x5 : Int32) (s1 : Int32) (s2 : Int32), fX12_arms_b214 c0_book x1 x2 (fX12_arms_L57 c0_book x1 x2  n57) (fX12_arms_L67 c0_book x1 x2 (fX12_arms_L57 c0_book x1 x2  n57) n67) (fX12_arms_L83 c0_book x1 x2 (fX12_arms_L57 c0_book x1 x2  n57) (fX12_arms_L67 c0_book x1 x2 (fX12_arms_L57 c0_book x1 x2  n57) n67) n83) c0_offs c0_offAt c0_offWho c0_lastOff c0_now c0_can x3 x4 x5 s1 s2 = some R → Z 0 0 [(a0, .inr (12, [.ref a0_book, .ref a0_now, .int c0_sights, .ref a0_sight, .int c0_signs, .ref a0_pad, .int c0_offs, .int c0_offAt, .int c0_offWho, .int c0_lastOff, .int c0_reason, .int c0_acts, .ref a0_can, .ref a0_fitting, .ref a0_wins, .ref a0_image, .ref a0_isKept])), (a0_book, .inl (G.2.1, 56, .inl c0_book)), (a0_now, .inl (G.2.1, 56, .inl c0_now)), (a0_can, .inl (G.2.2.1, 64, .inl c0_can))] [(0, .ref a0), (1, .int x1), (2, .int x2), (3, .int x3), (4, .int x4), (5, .int x5)] 214 [.int s2, .int s1, .ref a0_can] := by
                intro c0_offs c0_offAt c0_offWho c0_lastOff c0_now c0_can x3 x4 x5 s1 s2 hf
                rw [fX12_arms_b214] at hf
                obtain ⟨hg9, hf⟩ := gd_some hf
                refine z_zast h (w2 := [(a0, .inr (12, [.ref a0_book, .ref a0_now, .int c0_sights, .ref a0_sight, .int c0_signs, .ref a0_pad, .int c0_offs, .int c0_offAt, .int c0_offWho, .int c0_lastOff, .int c0_reason, .int c0_acts, .ref a0_can, .ref a0_fitting, .ref a0_wins, .ref a0_image, .ref a0_isKept])), (a0_book, .inl (G.2.1, 56, .inl c0_book)), (a0_now, .inl (G.2.1, 56, .inl c0_now)), (a0_can, .inl (G.2.2.1, 64, .inl (upd c0_can (s1).toNatClampNeg (vp_nar .boolean s2))))]) 3 rfl rfl hg9 dX12_arms_214 rfl rfl ?_
                refine z_iinc h (v := (x5 + (1 : Int32))) (lv2 := [(5, .int (x5 + (1 : Int32))), (0, .ref a0), (1, .int x1), (2, .int x2), (3, .int x3), (4, .int x4)]) (j := 5) dX12_arms_215 rfl rfl (by decide) rfl rfl ?_
                refine z_goto h (tgt := 83) dX12_arms_218 (by decide) ?_
                refine z_locs h (lv2 := [(0, .ref a0), (1, .int x1), (2, .int x2), (3, .int x3), (4, .int x4), (5, .int (x5 + (1 : Int32)))]) [1, 2, 3, 4, 5, 0] rfl ?_
                exact ih83 c0_offs c0_offAt c0_offWho c0_lastOff c0_now (upd c0_can (s1).toNatClampNeg (vp_nar .boolean s2)) x3 x4 (x5 + (1 : Int32)) hf
              have hB209 : ∀ (c0_offs : Int32) (c0_offAt : Int32) (c0_offWho : Int32) (c0_lastOff : Int32) (c0_now : Nat → Int32) (c0_can : Nat → Int32) (x3 : Int32) (x4 : Int32) (x5 : Int32) (s1 : Int32), fX12_arms_b209 c0_book x1 x2 (fX12_arms_L57 c0_book x1 x2  n57) (fX12_arms_L67 c0_book x1 x2 (fX12_arms_L57 c0_book x1 x2  n57) n67) (fX12_arms_L83 c0_book x1 x2 (fX12_arms_L57 c0_book x1 x2  n57) (fX12_arms_L67 c0_book x1 x2 (fX12_arms_L57 c0_book x1 x2  n57) n67) n83) c0_offs c0_offAt c0_offWho c0_lastOff c0_now c0_can x3 x4 x5 s1 = some R → Z 0 0 [(a0, .inr (12, [.ref a0_book, .ref a0_now, .int c0_sights, .ref a0_sight, .int c0_signs, .ref a0_pad, .int c0_offs, .int c0_offAt, .int c0_offWho, .int c0_lastOff, .int c0_reason, .int c0_acts, .ref a0_can, .ref a0_fitting, .ref a0_wins, .ref a0_image, .ref a0_isKept])), (a0_book, .inl (G.2.1, 56, .inl c0_book)), (a0_now, .inl (G.2.1, 56, .inl c0_now)), (a0_can, .inl (G.2.2.1, 64, .inl c0_can))] [(0, .ref a0), (1, .int x1), (2, .int x2), (3, .int x3), (4, .int x4), (5, .int x5)] 209 [.int s1, .ref a0_can] := by
                intro c0_offs c0_offAt c0_offWho c0_lastOff c0_now c0_can x3 x4 x5 s1 hf
                rw [fX12_arms_b209] at hf
                refine z_iconst h (v := (1 : Int32)) dX12_arms_209 (by decide) rfl ?_
                refine z_goto h (tgt := 214) dX12_arms_210 (by decide) ?_
                exact hB214 c0_offs c0_offAt c0_offWho c0_lastOff c0_now c0_can x3 x4 x5 s1 (1 : Int32) hf
              have hB186 : ∀ (c0_offs : Int32) (c0_offAt : Int32) (c0_offWho : Int32) (c0_lastOff : Int32) (c0_now : Nat → Int32) (c0_can : Nat → Int32) (x3 : Int32) (x4 : Int32) (x5 : Int32) (s0 : Int32), fX12_arms_b186 c0_book x1 x2 (fX12_arms_L57 c0_book x1 x2  n57) (fX12_arms_L67 c0_book x1 x2 (fX12_arms_L57 c0_book x1 x2  n57) n67) (fX12_arms_L83 c0_book x1 x2 (fX12_arms_L57 c0_book x1 x2  n57) (fX12_arms_L67 c0_book x1 x2 (fX12_arms_L57 c0_book x1 x2  n57) n67) n83) c0_offs c0_offAt c0_offWho c0_lastOff c0_now c0_can x3 x4 x5 s0 = some R → Z 0 0 [(a0, .inr (12, [.ref a0_book, .ref a0_now, .int c0_sights, .ref a0_sight, .int c0_signs, .ref a0_pad, .int c0_offs, .int c0_offAt, .int c0_offWho, .int c0_lastOff, .int c0_reason, .int c0_acts, .ref a0_can, .ref a0_fitting, .ref a0_wins, .ref a0_image, .ref a0_isKept])), (a0_book, .inl (G.2.1, 56, .inl c0_book)), (a0_now, .inl (G.2.1, 56, .inl c0_now)), (a0_can, .inl (G.2.2.1, 64, .inl c0_can))] [(0, .ref a0), (1, .int x1), (2, .int x2), (3, .int x3), (4, .int x4), (5, .int x5)] 186 [.int s0] := by
                intro c0_offs c0_offAt c0_offWho c0_lastOff c0_now c0_can x3 x4 x5 s0 hf
                rw [fX12_arms_b186] at hf
                refine z_istore h (lv2 := [(7, .int s0), (0, .ref a0), (1, .int x1), (2, .int x2), (3, .int x3), (4, .int x4), (5, .int x5)]) dX12_arms_186 (by decide) rfl rfl ?_
                refine z_aload_n h dX12_arms_188 1 rfl rfl ?_
                refine z_get h (C := RX12) (T := TX12) (N := 17) (v := .ref a0_can) 0 rfl rfl 12 (by decide) (by decide +kernel) (by decide +kernel) rfl dX12_arms_189 rfl ?_
                refine z_iload h dX12_arms_192 5 rfl rfl ?_
                refine z_aload_n h dX12_arms_194 1 rfl rfl ?_
                refine z_get h (C := RX12) (T := TX12) (N := 17) (v := .ref a0_can) 0 rfl rfl 12 (by decide) (by decide +kernel) (by decide +kernel) rfl dX12_arms_195 rfl ?_
                refine z_iload h dX12_arms_198 5 rfl rfl ?_
                obtain ⟨hg10, hf⟩ := gd_some hf
                refine z_zald h 3 rfl rfl hg10 dX12_arms_200 rfl ?_
                refine z_if_ne h (tgt := 209) dX12_arms_201 (by decide) rfl (fun c11 => ?_) (fun c11 => ?_)
                · have hf := ite_f hf c11
                  refine z_locs h (lv2 := [(0, .ref a0), (1, .int x1), (2, .int x2), (3, .int x3), (4, .int x4), (5, .int x5)]) [1, 2, 3, 4, 5, 6] rfl ?_
                  exact hB209 c0_offs c0_offAt c0_offWho c0_lastOff c0_now c0_can x3 x4 x5 x4 hf
                have hf := ite_t hf c11
                refine z_iload h dX12_arms_204 0 rfl rfl ?_
                refine z_if_eq h (tgt := 213) dX12_arms_206 (by decide) rfl (fun c12 => ?_) (fun c12 => ?_)
                · have hf := ite_t hf c12
                  refine z_iconst h (v := (0 : Int32)) dX12_arms_213 (by decide) rfl ?_
                  refine z_locs h (lv2 := [(0, .ref a0), (1, .int x1), (2, .int x2), (3, .int x3), (4, .int x4), (5, .int x5)]) [1, 2, 3, 4, 5, 6] rfl ?_
                  exact hB214 c0_offs c0_offAt c0_offWho c0_lastOff c0_now c0_can x3 x4 x5 x4 (0 : Int32) hf
                have hf := ite_f hf c12
                refine z_locs h (lv2 := [(0, .ref a0), (1, .int x1), (2, .int x2), (3, .int x3), (4, .int x4), (5, .int x5)]) [1, 2, 3, 4, 5, 6] rfl ?_
                exact hB209 c0_offs c0_offAt c0_offWho c0_lastOff c0_now c0_can x3 x4 x5 x4 hf
              have hB185 : ∀ (c0_offs : Int32) (c0_offAt : Int32) (c0_offWho : Int32) (c0_lastOff : Int32) (c0_now : Nat → Int32) (c0_can : Nat → Int32) (x3 : Int32) (x4 : Int32) (x5 : Int32), fX12_arms_b185 c0_book x1 x2 (fX12_arms_L57 c0_book x1 x2  n57) (fX12_arms_L67 c0_book x1 x2 (fX12_arms_L57 c0_book x1 x2  n57) n67) (fX12_arms_L83 c0_book x1 x2 (fX12_arms_L57 c0_book x1 x2  n57) (fX12_arms_L67 c0_book x1 x2 (fX12_arms_L57 c0_book x1 x2  n57) n67) n83) c0_offs c0_offAt c0_offWho c0_lastOff c0_now c0_can x3 x4 x5 = some R → Z 0 0 [(a0, .inr (12, [.ref a0_book, .ref a0_now, .int c0_sights, .ref a0_sight, .int c0_signs, .ref a0_pad, .int c0_offs, .int c0_offAt, .int c0_offWho, .int c0_lastOff, .int c0_reason, .int c0_acts, .ref a0_can, .ref a0_fitting, .ref a0_wins, .ref a0_image, .ref a0_isKept])), (a0_book, .inl (G.2.1, 56, .inl c0_book)), (a0_now, .inl (G.2.1, 56, .inl c0_now)), (a0_can, .inl (G.2.2.1, 64, .inl c0_can))] [(0, .ref a0), (1, .int x1), (2, .int x2), (3, .int x3), (4, .int x4), (5, .int x5)] 185 [] := by
                intro c0_offs c0_offAt c0_offWho c0_lastOff c0_now c0_can x3 x4 x5 hf
                rw [fX12_arms_b185] at hf
                refine z_iconst h (v := (0 : Int32)) dX12_arms_185 (by decide) rfl ?_
                exact hB186 c0_offs c0_offAt c0_offWho c0_lastOff c0_now c0_can x3 x4 x5 (0 : Int32) hf
              have hB137 : ∀ (c0_offs : Int32) (c0_offAt : Int32) (c0_offWho : Int32) (c0_lastOff : Int32) (c0_now : Nat → Int32) (c0_can : Nat → Int32) (x3 : Int32) (x4 : Int32) (x5 : Int32) (s0 : Int32), fX12_arms_b137 c0_book x1 x2 (fX12_arms_L57 c0_book x1 x2  n57) (fX12_arms_L67 c0_book x1 x2 (fX12_arms_L57 c0_book x1 x2  n57) n67) (fX12_arms_L83 c0_book x1 x2 (fX12_arms_L57 c0_book x1 x2  n57) (fX12_arms_L67 c0_book x1 x2 (fX12_arms_L57 c0_book x1 x2  n57) n67) n83) c0_offs c0_offAt c0_offWho c0_lastOff c0_now c0_can x3 x4 x5 s0 = some R → Z 0 0 [(a0, .inr (12, [.ref a0_book, .ref a0_now, .int c0_sights, .ref a0_sight, .int c0_signs, .ref a0_pad, .int c0_offs, .int c0_offAt, .int c0_offWho, .int c0_lastOff, .int c0_reason, .int c0_acts, .ref a0_can, .ref a0_fitting, .ref a0_wins, .ref a0_image, .ref a0_isKept])), (a0_book, .inl (G.2.1, 56, .inl c0_book)), (a0_now, .inl (G.2.1, 56, .inl c0_now)), (a0_can, .inl (G.2.2.1, 64, .inl c0_can))] [(0, .ref a0), (1, .int x1), (2, .int x2), (3, .int x3), (4, .int x4), (5, .int x5)] 137 [.int s0] := by
                intro c0_offs c0_offAt c0_offWho c0_lastOff c0_now c0_can x3 x4 x5 s0 hf
                rw [fX12_arms_b137] at hf
                refine z_istore h (lv2 := [(6, .int s0), (0, .ref a0), (1, .int x1), (2, .int x2), (3, .int x3), (4, .int x4), (5, .int x5)]) dX12_arms_137 (by decide) rfl rfl ?_
                refine z_iload h dX12_arms_139 5 rfl rfl ?_
                refine z_iload h dX12_arms_141 6 rfl rfl ?_
                obtain ⟨v13, hv13, hf⟩ := bd_some hf
                refine z_callS h (np := 2) (st := []) (wr := [(a0, .inr (12, [.ref a0_book, .ref a0_now, .int c0_sights, .ref a0_sight, .int c0_signs, .ref a0_pad, .int c0_offs, .int c0_offAt, .int c0_offWho, .int c0_lastOff, .int c0_reason, .int c0_acts, .ref a0_can, .ref a0_fitting, .ref a0_wins, .ref a0_image, .ref a0_isKept])), (a0_book, .inl (G.2.1, 56, .inl c0_book)), (a0_now, .inl (G.2.1, 56, .inl c0_now)), (a0_can, .inl (G.2.2.1, 64, .inl c0_can))]) [.int x4, .int x5] (ctX12_has l G x4 x5 hv13) gX12_arms_X12_has (by decide +kernel) rfl ⟨Nat.le_of_ble_eq_true rfl, Nat.le_of_ble_eq_true rfl⟩ ⟨Nat.le_refl _, Nat.le_refl _⟩ rfl rfl rfl [] [0, 1, 2, 3] rfl rfl rfl rfl (by decide) (Nat.le_of_ble_eq_true rfl) dX12_arms_143 rfl rfl (fun rv13 wv13 hrv13 => ?_)
                obtain ⟨rfl, rfl⟩ := hrv13
                refine z_perm h (w2 := [(a0, .inr (12, [.ref a0_book, .ref a0_now, .int c0_sights, .ref a0_sight, .int c0_signs, .ref a0_pad, .int c0_offs, .int c0_offAt, .int c0_offWho, .int c0_lastOff, .int c0_reason, .int c0_acts, .ref a0_can, .ref a0_fitting, .ref a0_wins, .ref a0_image, .ref a0_isKept])), (a0_book, .inl (G.2.1, 56, .inl c0_book)), (a0_now, .inl (G.2.1, 56, .inl c0_now)), (a0_can, .inl (G.2.2.1, 64, .inl c0_can))]) (st := [.int v13]) [0, 1, 2, 3] rfl rfl ?_
                refine z_if_eq h (tgt := 185) dX12_arms_146 (by decide) rfl (fun c14 => ?_) (fun c14 => ?_)
                · have hf := ite_t hf c14
                  refine z_locs h (lv2 := [(0, .ref a0), (1, .int x1), (2, .int x2), (3, .int x3), (4, .int x4), (5, .int x5)]) [1, 2, 3, 4, 5, 6] rfl ?_
                  exact hB185 c0_offs c0_offAt c0_offWho c0_lastOff c0_now c0_can x3 x4 x5 hf
                have hf := ite_f hf c14
                refine z_aload_n h dX12_arms_149 1 rfl rfl ?_
                refine z_iload h dX12_arms_150 6 rfl rfl ?_
                obtain ⟨v15, hv15, hf⟩ := bd_some hf
                refine z_callV h (np := 1) (st := []) (wr := [(a0_book, .inl (G.2.1, 56, .inl c0_book)), (a0_can, .inl (G.2.2.1, 64, .inl c0_can))]) [.int x5] (ctX12_atPeace l G a0 a0_book a0_now a0_sight a0_pad a0_can a0_fitting a0_wins a0_image a0_isKept c0_sights c0_signs c0_offs c0_offAt c0_offWho c0_lastOff c0_reason c0_acts c0_now x5 hv15) gX12_arms_X12_atPeace (by decide +kernel) 0 rfl rfl rfl ⟨Nat.le_of_ble_eq_true rfl, Nat.le_of_ble_eq_true rfl⟩ ⟨Nat.le_refl _, Nat.le_refl _⟩ rfl rfl rfl [0, 2] [1, 3] rfl rfl rfl rfl (by decide) (Nat.le_of_ble_eq_true rfl) dX12_arms_152 rfl rfl (fun rv15 wv15 hrv15 => ?_)
                obtain ⟨rfl, rfl⟩ := hrv15
                refine z_perm h (w2 := [(a0, .inr (12, [.ref a0_book, .ref a0_now, .int c0_sights, .ref a0_sight, .int c0_signs, .ref a0_pad, .int c0_offs, .int c0_offAt, .int c0_offWho, .int c0_lastOff, .int c0_reason, .int c0_acts, .ref a0_can, .ref a0_fitting, .ref a0_wins, .ref a0_image, .ref a0_isKept])), (a0_book, .inl (G.2.1, 56, .inl c0_book)), (a0_now, .inl (G.2.1, 56, .inl c0_now)), (a0_can, .inl (G.2.2.1, 64, .inl c0_can))]) (st := [.int v15]) [2, 0, 3, 1] rfl rfl ?_
                refine z_if_ne h (tgt := 185) dX12_arms_155 (by decide) rfl (fun c16 => ?_) (fun c16 => ?_)
                · have hf := ite_f hf c16
                  refine z_locs h (lv2 := [(0, .ref a0), (1, .int x1), (2, .int x2), (3, .int x3), (4, .int x4), (5, .int x5)]) [1, 2, 3, 4, 5, 6] rfl ?_
                  exact hB185 c0_offs c0_offAt c0_offWho c0_lastOff c0_now c0_can x3 x4 x5 hf
                have hf := ite_t hf c16
                refine z_iload h dX12_arms_158 0 rfl rfl ?_
                refine z_iload_n h dX12_arms_160 2 rfl rfl ?_
                refine z_icmp_gt h (tgt := 185) dX12_arms_161 (by decide) rfl (fun c17 => ?_) (fun c17 => ?_)
                · have hf := ite_t hf c17
                  refine z_locs h (lv2 := [(0, .ref a0), (1, .int x1), (2, .int x2), (3, .int x3), (4, .int x4), (5, .int x5)]) [1, 2, 3, 4, 5, 6] rfl ?_
                  exact hB185 c0_offs c0_offAt c0_offWho c0_lastOff c0_now c0_can x3 x4 x5 hf
                have hf := ite_f hf c17
                refine z_aload_n h dX12_arms_164 1 rfl rfl ?_
                refine z_get h (C := RX12) (T := TX12) (N := 17) (v := .ref a0_can) 0 rfl rfl 12 (by decide) (by decide +kernel) (by decide +kernel) rfl dX12_arms_165 rfl ?_
                refine z_iload h dX12_arms_168 5 rfl rfl ?_
                refine z_iconst h (v := (1 : Int32)) dX12_arms_170 (by decide) rfl ?_
                refine z_iload h dX12_arms_171 6 rfl rfl ?_
                refine z_ishl h dX12_arms_173 rfl ?_
                refine z_iconst h (v := (-1 : Int32)) dX12_arms_174 (by decide) rfl ?_
                refine z_ixor h dX12_arms_175 rfl ?_
                refine z_iand h dX12_arms_176 rfl ?_
                obtain ⟨hg18, hf⟩ := gd_some hf
                refine z_zald h 3 rfl rfl hg18 dX12_arms_177 rfl ?_
                refine z_if_eq h (tgt := 185) dX12_arms_178 (by decide) rfl (fun c19 => ?_) (fun c19 => ?_)
                · have hf := ite_t hf c19
                  refine z_locs h (lv2 := [(0, .ref a0), (1, .int x1), (2, .int x2), (3, .int x3), (4, .int x4), (5, .int x5)]) [1, 2, 3, 4, 5, 6] rfl ?_
                  exact hB185 c0_offs c0_offAt c0_offWho c0_lastOff c0_now c0_can x3 x4 x5 hf
                have hf := ite_f hf c19
                refine z_iconst h (v := (1 : Int32)) dX12_arms_181 (by decide) rfl ?_
                refine z_goto h (tgt := 186) dX12_arms_182 (by decide) ?_
                refine z_locs h (lv2 := [(0, .ref a0), (1, .int x1), (2, .int x2), (3, .int x3), (4, .int x4), (5, .int x5)]) [1, 2, 3, 4, 5, 6] rfl ?_
                exact hB186 c0_offs c0_offAt c0_offWho c0_lastOff c0_now c0_can x3 x4 x5 (1 : Int32) hf
              intro c0_offs c0_offAt c0_offWho c0_lastOff c0_now c0_can x3 x4 x5 hf
              rw [fX12_arms_L83] at hf
              refine z_iload h dX12_arms_83 5 rfl rfl ?_
              refine z_bipush h (v := (6 : Int32)) dX12_arms_85 (by decide) rfl ?_
              refine z_icmp_ge h (tgt := 221) dX12_arms_87 (by decide) rfl (fun c20 => ?_) (fun c20 => ?_)
              · have hf := ite_t hf c20
                refine z_iinc h (v := (x4 + (-1 : Int32))) (lv2 := [(4, .int (x4 + (-1 : Int32))), (0, .ref a0), (1, .int x1), (2, .int x2), (3, .int x3), (5, .int x5)]) (j := 4) dX12_arms_221 rfl rfl (by decide) rfl rfl ?_
                refine z_goto h (tgt := 67) dX12_arms_224 (by decide) ?_
                refine z_locs h (lv2 := [(0, .ref a0), (1, .int x1), (2, .int x2), (3, .int x3), (4, .int (x4 + (-1 : Int32)))]) [1, 2, 3, 4, 0] rfl ?_
                exact ih67 c0_offs c0_offAt c0_offWho c0_lastOff c0_now c0_can x3 (x4 + (-1 : Int32)) hf
              have hf := ite_f hf c20
              refine z_aload_n h dX12_arms_90 0 rfl rfl ?_
              refine z_get h (C := RX12) (T := TX12) (N := 17) (v := .ref a0_now) 0 rfl rfl 1 (by decide) (by decide +kernel) (by decide +kernel) rfl dX12_arms_91 rfl ?_
              refine z_iload h dX12_arms_94 5 rfl rfl ?_
              obtain ⟨hg21, hf⟩ := gd_some hf
              refine z_iald h 2 rfl rfl hg21 dX12_arms_96 rfl ?_
              refine z_aload_n h dX12_arms_97 0 rfl rfl ?_
              refine z_get h (C := RX12) (T := TX12) (N := 17) (v := .ref a0_now) 0 rfl rfl 1 (by decide) (by decide +kernel) (by decide +kernel) rfl dX12_arms_98 rfl ?_
              refine z_iload_n h dX12_arms_101 3 rfl rfl ?_
              obtain ⟨hg22, hf⟩ := gd_some hf
              refine z_iald h 2 rfl rfl hg22 dX12_arms_102 rfl ?_
              refine z_icmp_le h (tgt := 123) dX12_arms_103 (by decide) rfl (fun c23 => ?_) (fun c23 => ?_)
              · have hf := ite_t hf c23
                refine z_aload_n h dX12_arms_123 0 rfl rfl ?_
                refine z_get h (C := RX12) (T := TX12) (N := 17) (v := .ref a0_now) 0 rfl rfl 1 (by decide) (by decide +kernel) (by decide +kernel) rfl dX12_arms_124 rfl ?_
                refine z_iload_n h dX12_arms_127 3 rfl rfl ?_
                obtain ⟨hg24, hf⟩ := gd_some hf
                refine z_iald h 2 rfl rfl hg24 dX12_arms_128 rfl ?_
                refine z_aload_n h dX12_arms_129 0 rfl rfl ?_
                refine z_get h (C := RX12) (T := TX12) (N := 17) (v := .ref a0_now) 0 rfl rfl 1 (by decide) (by decide +kernel) (by decide +kernel) rfl dX12_arms_130 rfl ?_
                refine z_iload h dX12_arms_133 5 rfl rfl ?_
                obtain ⟨hg25, hf⟩ := gd_some hf
                refine z_iald h 2 rfl rfl hg25 dX12_arms_135 rfl ?_
                refine z_isub h dX12_arms_136 rfl ?_
                exact hB137 c0_offs c0_offAt c0_offWho c0_lastOff c0_now c0_can x3 x4 x5 ((c0_now (x3).toNatClampNeg) - (c0_now (x5).toNatClampNeg)) hf
              have hf := ite_f hf c23
              refine z_aload_n h dX12_arms_106 0 rfl rfl ?_
              refine z_get h (C := RX12) (T := TX12) (N := 17) (v := .ref a0_now) 0 rfl rfl 1 (by decide) (by decide +kernel) (by decide +kernel) rfl dX12_arms_107 rfl ?_
              refine z_iload h dX12_arms_110 5 rfl rfl ?_
              obtain ⟨hg26, hf⟩ := gd_some hf
              refine z_iald h 2 rfl rfl hg26 dX12_arms_112 rfl ?_
              refine z_aload_n h dX12_arms_113 0 rfl rfl ?_
              refine z_get h (C := RX12) (T := TX12) (N := 17) (v := .ref a0_now) 0 rfl rfl 1 (by decide) (by decide +kernel) (by decide +kernel) rfl dX12_arms_114 rfl ?_
              refine z_iload_n h dX12_arms_117 3 rfl rfl ?_
              obtain ⟨hg27, hf⟩ := gd_some hf
              refine z_iald h 2 rfl rfl hg27 dX12_arms_118 rfl ?_
              refine z_isub h dX12_arms_119 rfl ?_
              refine z_goto h (tgt := 137) dX12_arms_120 (by decide) ?_
              exact hB137 c0_offs c0_offAt c0_offWho c0_lastOff c0_now c0_can x3 x4 x5 ((c0_now (x5).toNatClampNeg) - (c0_now (x3).toNatClampNeg)) hf
          intro c0_offs c0_offAt c0_offWho c0_lastOff c0_now c0_can x3 x4 hf
          rw [fX12_arms_L67] at hf
          refine z_iload h dX12_arms_67 4 rfl rfl ?_
          refine z_if_le h (tgt := 227) dX12_arms_69 (by decide) rfl (fun c28 => ?_) (fun c28 => ?_)
          · have hf := ite_t hf c28
            refine z_locs h (lv2 := [(0, .ref a0), (1, .int x1), (2, .int x2), (3, .int x3)]) [0, 1, 2, 3] rfl ?_
            exact hB227 c0_offs c0_offAt c0_offWho c0_lastOff c0_now c0_can x3 hf
          have hf := ite_f hf c28
          refine z_aload_n h dX12_arms_72 0 rfl rfl ?_
          refine z_iload_n h dX12_arms_73 3 rfl rfl ?_
          obtain ⟨v29, hv29, hf⟩ := bd_some hf
          refine z_callV h (np := 1) (st := []) (wr := [(a0_book, .inl (G.2.1, 56, .inl c0_book)), (a0_can, .inl (G.2.2.1, 64, .inl c0_can))]) [.int x3] (ctX12_atPeace l G a0 a0_book a0_now a0_sight a0_pad a0_can a0_fitting a0_wins a0_image a0_isKept c0_sights c0_signs c0_offs c0_offAt c0_offWho c0_lastOff c0_reason c0_acts c0_now x3 hv29) gX12_arms_X12_atPeace (by decide +kernel) 0 rfl rfl rfl ⟨Nat.le_of_ble_eq_true rfl, Nat.le_of_ble_eq_true rfl⟩ ⟨Nat.le_refl _, Nat.le_refl _⟩ rfl rfl rfl [0, 2] [1, 3] rfl rfl rfl rfl (by decide) (Nat.le_of_ble_eq_true rfl) dX12_arms_74 rfl rfl (fun rv29 wv29 hrv29 => ?_)
          obtain ⟨rfl, rfl⟩ := hrv29
          refine z_perm h (w2 := [(a0, .inr (12, [.ref a0_book, .ref a0_now, .int c0_sights, .ref a0_sight, .int c0_signs, .ref a0_pad, .int c0_offs, .int c0_offAt, .int c0_offWho, .int c0_lastOff, .int c0_reason, .int c0_acts, .ref a0_can, .ref a0_fitting, .ref a0_wins, .ref a0_image, .ref a0_isKept])), (a0_book, .inl (G.2.1, 56, .inl c0_book)), (a0_now, .inl (G.2.1, 56, .inl c0_now)), (a0_can, .inl (G.2.2.1, 64, .inl c0_can))]) (st := [.int v29]) [2, 0, 3, 1] rfl rfl ?_
          refine z_if_eq h (tgt := 227) dX12_arms_77 (by decide) rfl (fun c30 => ?_) (fun c30 => ?_)
          · have hf := ite_t hf c30
            refine z_locs h (lv2 := [(0, .ref a0), (1, .int x1), (2, .int x2), (3, .int x3)]) [0, 1, 2, 3] rfl ?_
            exact hB227 c0_offs c0_offAt c0_offWho c0_lastOff c0_now c0_can x3 hf
          have hf := ite_f hf c30
          refine z_iconst h (v := (0 : Int32)) dX12_arms_80 (by decide) rfl ?_
          refine z_istore h (lv2 := [(5, .int (0 : Int32)), (0, .ref a0), (1, .int x1), (2, .int x2), (3, .int x3), (4, .int x4)]) dX12_arms_81 (by decide) rfl rfl ?_
          refine z_locs h (lv2 := [(0, .ref a0), (1, .int x1), (2, .int x2), (3, .int x3), (4, .int x4), (5, .int (0 : Int32))]) [1, 2, 3, 4, 5, 0] rfl ?_
          exact hL83 zF c0_offs c0_offAt c0_offWho c0_lastOff c0_now c0_can x3 x4 (0 : Int32) hf
      intro c0_offs c0_offAt c0_offWho c0_lastOff c0_now c0_can x3 hf
      rw [fX12_arms_L57] at hf
      refine z_iload_n h dX12_arms_57 3 rfl rfl ?_
      refine z_bipush h (v := (6 : Int32)) dX12_arms_58 (by decide) rfl ?_
      refine z_icmp_ge h (tgt := 233) dX12_arms_60 (by decide) rfl (fun c31 => ?_) (fun c31 => ?_)
      · have hf := ite_t hf c31
        refine z_iconst h (v := (0 : Int32)) dX12_arms_233 (by decide) rfl ?_
        refine z_istore_n h (lv2 := [(3, .int (0 : Int32)), (0, .ref a0), (1, .int x1), (2, .int x2)]) dX12_arms_234 (by decide) rfl rfl ?_
        refine z_iconst h (v := (1 : Int32)) dX12_arms_235 (by decide) rfl ?_
        refine z_istore h (lv2 := [(4, .int (1 : Int32)), (3, .int (0 : Int32)), (0, .ref a0), (1, .int x1), (2, .int x2)]) dX12_arms_236 (by decide) rfl rfl ?_
        refine z_locs h (lv2 := [(0, .ref a0), (2, .int x2), (3, .int (0 : Int32)), (4, .int (1 : Int32))]) [2, 4, 1, 0] rfl ?_
        exact hL238 zF c0_offs c0_offAt c0_offWho c0_lastOff c0_now c0_can (0 : Int32) (1 : Int32) hf
      have hf := ite_f hf c31
      refine z_bipush h (v := (63 : Int32)) dX12_arms_63 (by decide) rfl ?_
      refine z_istore h (lv2 := [(4, .int (63 : Int32)), (0, .ref a0), (1, .int x1), (2, .int x2), (3, .int x3)]) dX12_arms_65 (by decide) rfl rfl ?_
      refine z_locs h (lv2 := [(0, .ref a0), (1, .int x1), (2, .int x2), (3, .int x3), (4, .int (63 : Int32))]) [1, 2, 3, 4, 0] rfl ?_
      exact hL67 zF c0_offs c0_offAt c0_offWho c0_lastOff c0_now c0_can x3 (63 : Int32) hf
  have hL28 : ∀ (n28 : Nat) (c0_offs : Int32) (c0_offAt : Int32) (c0_offWho : Int32) (c0_lastOff : Int32) (c0_now : Nat → Int32) (c0_can : Nat → Int32) (x3 : Int32), fX12_arms_L28 c0_book x1 x2  n28 c0_offs c0_offAt c0_offWho c0_lastOff c0_now c0_can x3 = some R → Z 0 0 [(a0, .inr (12, [.ref a0_book, .ref a0_now, .int c0_sights, .ref a0_sight, .int c0_signs, .ref a0_pad, .int c0_offs, .int c0_offAt, .int c0_offWho, .int c0_lastOff, .int c0_reason, .int c0_acts, .ref a0_can, .ref a0_fitting, .ref a0_wins, .ref a0_image, .ref a0_isKept])), (a0_book, .inl (G.2.1, 56, .inl c0_book)), (a0_now, .inl (G.2.1, 56, .inl c0_now)), (a0_can, .inl (G.2.2.1, 64, .inl c0_can))] [(0, .ref a0), (1, .int x1), (2, .int x2), (3, .int x3)] 28 [] := by
    intro n28
    induction n28 with
    | zero =>
      intro c0_offs c0_offAt c0_offWho c0_lastOff c0_now c0_can x3 hf
      rw [fX12_arms_L28] at hf
      cases hf
    | succ n28 ih28 =>
      have hB48 : ∀ (c0_offs : Int32) (c0_offAt : Int32) (c0_offWho : Int32) (c0_lastOff : Int32) (c0_now : Nat → Int32) (c0_can : Nat → Int32) (x3 : Int32) (s1 : Int32) (s2 : Int32), fX12_arms_b48 c0_book x1 x2 (fX12_arms_L28 c0_book x1 x2  n28) c0_offs c0_offAt c0_offWho c0_lastOff c0_now c0_can x3 s1 s2 = some R → Z 0 0 [(a0, .inr (12, [.ref a0_book, .ref a0_now, .int c0_sights, .ref a0_sight, .int c0_signs, .ref a0_pad, .int c0_offs, .int c0_offAt, .int c0_offWho, .int c0_lastOff, .int c0_reason, .int c0_acts, .ref a0_can, .ref a0_fitting, .ref a0_wins, .ref a0_image, .ref a0_isKept])), (a0_book, .inl (G.2.1, 56, .inl c0_book)), (a0_now, .inl (G.2.1, 56, .inl c0_now)), (a0_can, .inl (G.2.2.1, 64, .inl c0_can))] [(0, .ref a0), (1, .int x1), (2, .int x2), (3, .int x3)] 48 [.int s2, .int s1, .ref a0_can] := by
        intro c0_offs c0_offAt c0_offWho c0_lastOff c0_now c0_can x3 s1 s2 hf
        rw [fX12_arms_b48] at hf
        obtain ⟨hg32, hf⟩ := gd_some hf
        refine z_zast h (w2 := [(a0, .inr (12, [.ref a0_book, .ref a0_now, .int c0_sights, .ref a0_sight, .int c0_signs, .ref a0_pad, .int c0_offs, .int c0_offAt, .int c0_offWho, .int c0_lastOff, .int c0_reason, .int c0_acts, .ref a0_can, .ref a0_fitting, .ref a0_wins, .ref a0_image, .ref a0_isKept])), (a0_book, .inl (G.2.1, 56, .inl c0_book)), (a0_now, .inl (G.2.1, 56, .inl c0_now)), (a0_can, .inl (G.2.2.1, 64, .inl (upd c0_can (s1).toNatClampNeg (vp_nar .boolean s2))))]) 3 rfl rfl hg32 dX12_arms_48 rfl rfl ?_
        refine z_iinc h (v := (x3 + (1 : Int32))) (lv2 := [(3, .int (x3 + (1 : Int32))), (0, .ref a0), (1, .int x1), (2, .int x2)]) (j := 3) dX12_arms_49 rfl rfl (by decide) rfl rfl ?_
        refine z_goto h (tgt := 28) dX12_arms_52 (by decide) ?_
        refine z_locs h (lv2 := [(0, .ref a0), (1, .int x1), (2, .int x2), (3, .int (x3 + (1 : Int32)))]) [1, 2, 3, 0] rfl ?_
        exact ih28 c0_offs c0_offAt c0_offWho c0_lastOff c0_now (upd c0_can (s1).toNatClampNeg (vp_nar .boolean s2)) (x3 + (1 : Int32)) hf
      intro c0_offs c0_offAt c0_offWho c0_lastOff c0_now c0_can x3 hf
      rw [fX12_arms_L28] at hf
      refine z_iload_n h dX12_arms_28 3 rfl rfl ?_
      refine z_bipush h (v := (64 : Int32)) dX12_arms_29 (by decide) rfl ?_
      refine z_icmp_ge h (tgt := 55) dX12_arms_31 (by decide) rfl (fun c33 => ?_) (fun c33 => ?_)
      · have hf := ite_t hf c33
        refine z_iconst h (v := (0 : Int32)) dX12_arms_55 (by decide) rfl ?_
        refine z_istore_n h (lv2 := [(3, .int (0 : Int32)), (0, .ref a0), (1, .int x1), (2, .int x2)]) dX12_arms_56 (by decide) rfl rfl ?_
        refine z_locs h (lv2 := [(0, .ref a0), (1, .int x1), (2, .int x2), (3, .int (0 : Int32))]) [1, 2, 3, 0] rfl ?_
        exact hL57 zF c0_offs c0_offAt c0_offWho c0_lastOff c0_now c0_can (0 : Int32) hf
      have hf := ite_f hf c33
      refine z_aload_n h dX12_arms_34 0 rfl rfl ?_
      refine z_get h (C := RX12) (T := TX12) (N := 17) (v := .ref a0_can) 0 rfl rfl 12 (by decide) (by decide +kernel) (by decide +kernel) rfl dX12_arms_35 rfl ?_
      refine z_iload_n h dX12_arms_38 3 rfl rfl ?_
      refine z_iload_n h dX12_arms_39 3 rfl rfl ?_
      refine z_if_ne h (tgt := 47) dX12_arms_40 (by decide) rfl (fun c34 => ?_) (fun c34 => ?_)
      · have hf := ite_f hf c34
        refine z_iconst h (v := (0 : Int32)) dX12_arms_47 (by decide) rfl ?_
        exact hB48 c0_offs c0_offAt c0_offWho c0_lastOff c0_now c0_can x3 x3 (0 : Int32) hf
      have hf := ite_t hf c34
      refine z_iconst h (v := (1 : Int32)) dX12_arms_43 (by decide) rfl ?_
      refine z_goto h (tgt := 48) dX12_arms_44 (by decide) ?_
      exact hB48 c0_offs c0_offAt c0_offWho c0_lastOff c0_now c0_can x3 x3 (1 : Int32) hf
  rw [fX12_arms] at hf
  show Z 0 0 _ [(0, .ref a0), (1, .int x1), (2, .int x2)] 0 []
  refine z_iload_n h dX12_arms_0 1 rfl rfl ?_
  refine z_iconst h (v := (0 : Int32)) dX12_arms_1 (by decide) rfl ?_
  refine z_bipush h (v := (11 : Int32)) dX12_arms_2 (by decide) rfl ?_
  obtain ⟨v35, hv35, hf⟩ := bd_some hf
  refine z_callS h (np := 3) (st := []) (wr := [(a0, .inr (12, [.ref a0_book, .ref a0_now, .int c0_sights, .ref a0_sight, .int c0_signs, .ref a0_pad, .int c0_offs, .int c0_offAt, .int c0_offWho, .int c0_lastOff, .int c0_reason, .int c0_acts, .ref a0_can, .ref a0_fitting, .ref a0_wins, .ref a0_image, .ref a0_isKept])), (a0_book, .inl (G.2.1, 56, .inl c0_book)), (a0_now, .inl (G.2.1, 56, .inl c0_now)), (a0_can, .inl (G.2.2.1, 64, .inl c0_can))]) [.int x1, .int (0 : Int32), .int (11 : Int32)] (ctX12_in l G x1 (0 : Int32) (11 : Int32) hv35) gX12_arms_X12_in (by decide +kernel) rfl ⟨Nat.le_of_ble_eq_true rfl, Nat.le_of_ble_eq_true rfl⟩ ⟨Nat.le_refl _, Nat.le_refl _⟩ rfl rfl rfl [] [0, 1, 2, 3] rfl rfl rfl rfl (by decide) (Nat.le_of_ble_eq_true rfl) dX12_arms_4 rfl rfl (fun rv35 wv35 hrv35 => ?_)
  obtain ⟨rfl, rfl⟩ := hrv35
  refine z_perm h (w2 := [(a0, .inr (12, [.ref a0_book, .ref a0_now, .int c0_sights, .ref a0_sight, .int c0_signs, .ref a0_pad, .int c0_offs, .int c0_offAt, .int c0_offWho, .int c0_lastOff, .int c0_reason, .int c0_acts, .ref a0_can, .ref a0_fitting, .ref a0_wins, .ref a0_image, .ref a0_isKept])), (a0_book, .inl (G.2.1, 56, .inl c0_book)), (a0_now, .inl (G.2.1, 56, .inl c0_now)), (a0_can, .inl (G.2.2.1, 64, .inl c0_can))]) (st := [.int v35]) [0, 1, 2, 3] rfl rfl ?_
  refine z_if_eq h (tgt := 19) dX12_arms_7 (by decide) rfl (fun c36 => ?_) (fun c36 => ?_)
  · have hf := ite_t hf c36
    refine z_locs h (lv2 := []) [] rfl ?_
    exact hB19 c0_offs c0_offAt c0_offWho c0_lastOff c0_now c0_can hf
  have hf := ite_f hf c36
  refine z_iload_n h dX12_arms_10 2 rfl rfl ?_
  refine z_iconst h (v := (0 : Int32)) dX12_arms_11 (by decide) rfl ?_
  refine z_iconst h (v := (1 : Int32)) dX12_arms_12 (by decide) rfl ?_
  obtain ⟨v37, hv37, hf⟩ := bd_some hf
  refine z_callS h (np := 3) (st := []) (wr := [(a0, .inr (12, [.ref a0_book, .ref a0_now, .int c0_sights, .ref a0_sight, .int c0_signs, .ref a0_pad, .int c0_offs, .int c0_offAt, .int c0_offWho, .int c0_lastOff, .int c0_reason, .int c0_acts, .ref a0_can, .ref a0_fitting, .ref a0_wins, .ref a0_image, .ref a0_isKept])), (a0_book, .inl (G.2.1, 56, .inl c0_book)), (a0_now, .inl (G.2.1, 56, .inl c0_now)), (a0_can, .inl (G.2.2.1, 64, .inl c0_can))]) [.int x2, .int (0 : Int32), .int (1 : Int32)] (ctX12_in l G x2 (0 : Int32) (1 : Int32) hv37) gX12_arms_X12_in (by decide +kernel) rfl ⟨Nat.le_of_ble_eq_true rfl, Nat.le_of_ble_eq_true rfl⟩ ⟨Nat.le_refl _, Nat.le_refl _⟩ rfl rfl rfl [] [0, 1, 2, 3] rfl rfl rfl rfl (by decide) (Nat.le_of_ble_eq_true rfl) dX12_arms_13 rfl rfl (fun rv37 wv37 hrv37 => ?_)
  obtain ⟨rfl, rfl⟩ := hrv37
  refine z_perm h (w2 := [(a0, .inr (12, [.ref a0_book, .ref a0_now, .int c0_sights, .ref a0_sight, .int c0_signs, .ref a0_pad, .int c0_offs, .int c0_offAt, .int c0_offWho, .int c0_lastOff, .int c0_reason, .int c0_acts, .ref a0_can, .ref a0_fitting, .ref a0_wins, .ref a0_image, .ref a0_isKept])), (a0_book, .inl (G.2.1, 56, .inl c0_book)), (a0_now, .inl (G.2.1, 56, .inl c0_now)), (a0_can, .inl (G.2.2.1, 64, .inl c0_can))]) (st := [.int v37]) [0, 1, 2, 3] rfl rfl ?_
  refine z_if_ne h (tgt := 22) dX12_arms_16 (by decide) rfl (fun c38 => ?_) (fun c38 => ?_)
  · have hf := ite_f hf c38
    refine z_aload_n h dX12_arms_22 0 rfl rfl ?_
    obtain ⟨v39, hv39, hf⟩ := bd_some hf
    refine z_callV h (np := 0) (st := []) (wr := [(a0_can, .inl (G.2.2.1, 64, .inl c0_can))]) [] (ctX12_asNow l G a0 a0_book a0_now a0_sight a0_pad a0_can a0_fitting a0_wins a0_image a0_isKept c0_sights c0_signs c0_offs c0_offAt c0_offWho c0_lastOff c0_reason c0_acts c0_book c0_now hv39) gX12_arms_X12_asNow (by decide +kernel) 0 rfl rfl rfl ⟨Nat.le_of_ble_eq_true rfl, Nat.le_of_ble_eq_true rfl⟩ ⟨Nat.le_refl _, Nat.le_refl _⟩ rfl rfl rfl [0, 1, 2] [3] rfl rfl rfl rfl (by decide) (Nat.le_of_ble_eq_true rfl) dX12_arms_23 rfl rfl (fun rv39 wv39 hrv39 => ?_)
    obtain ⟨rfl, rfl⟩ := hrv39
    refine z_perm h (w2 := [(a0, .inr (12, [.ref a0_book, .ref a0_now, .int c0_sights, .ref a0_sight, .int c0_signs, .ref a0_pad, .int v39.1, .int v39.2.1, .int v39.2.2.1, .int v39.2.2.2.1, .int c0_reason, .int c0_acts, .ref a0_can, .ref a0_fitting, .ref a0_wins, .ref a0_image, .ref a0_isKept])), (a0_book, .inl (G.2.1, 56, .inl c0_book)), (a0_now, .inl (G.2.1, 56, .inl v39.2.2.2.2)), (a0_can, .inl (G.2.2.1, 64, .inl c0_can))]) (st := []) [1, 2, 3, 0] rfl rfl ?_
    refine z_iconst h (v := (0 : Int32)) dX12_arms_26 (by decide) rfl ?_
    refine z_istore_n h (lv2 := [(3, .int (0 : Int32)), (0, .ref a0), (1, .int x1), (2, .int x2)]) dX12_arms_27 (by decide) rfl rfl ?_
    refine z_locs h (lv2 := [(0, .ref a0), (1, .int x1), (2, .int x2), (3, .int (0 : Int32))]) [1, 2, 3, 0] rfl ?_
    exact hL28 zF v39.1 v39.2.1 v39.2.2.1 v39.2.2.2.1 v39.2.2.2.2 c0_can (0 : Int32) hf
  have hf := ite_t hf c38
  refine z_locs h (lv2 := []) [] rfl ?_
  exact hB19 c0_offs c0_offAt c0_offWho c0_lastOff c0_now c0_can hf
def fX12_paid_b220 (c0_book : Nat → Int32) (x1 : Int32) (x2 : Int32)  (s0 : Int32) : Option (Int32) := (some s0)
def fX12_paid_b214 (c0_book : Nat → Int32) (x1 : Int32) (x2 : Int32)  (x4 : Int32) : Option (Int32) := (fX12_paid_b220 c0_book x1 x2  x4)
def fX12_paid_b198 (c0_book : Nat → Int32) (x1 : Int32) (x2 : Int32) (K31 : (Int32 → Int32 → Int32 → Option (Int32))) (x3 : Int32) (x4 : Int32) (x5 : Int32) : Option (Int32) := (K31 x3 x4 (x5 + (1 : Int32)))
def fX12_paid_b161 (c0_book : Nat → Int32) (x1 : Int32) (x2 : Int32) (K31 : (Int32 → Int32 → Int32 → Option (Int32))) (x3 : Int32) (x4 : Int32) (x5 : Int32) (x6 : Int32) (x7 : Int32) (x8 : Int32) (x9 : Int32) (s0 : Int32) : Option (Int32) := (if x9 = (0 : Int32) then (fX12_paid_b198 c0_book x1 x2 K31 x3 x4 x5) else (if s0 = (0 : Int32) then (fX12_paid_b198 c0_book x1 x2 K31 x3 x4 x5) else (if x3 ≤ ((x6 + x7) + x8) then (fX12_paid_b198 c0_book x1 x2 K31 x3 x4 x5) else (fX12_paid_b198 c0_book x1 x2 K31 ((x6 + x7) + x8) x5 x5))))
def fX12_paid_b110 (c0_book : Nat → Int32) (x1 : Int32) (x2 : Int32) (K31 : (Int32 → Int32 → Int32 → Option (Int32))) (x3 : Int32) (x4 : Int32) (x5 : Int32) (x6 : Int32) (x7 : Int32) (x8 : Int32) (s0 : Int32) : Option (Int32) := gd (inb (53 : Int32) 56) (gd (inb (54 : Int32) 56) (gd (inb (55 : Int32) 56) (gd (inb ((12 : Int32) + x1) 56) ((if (((x6 * (c0_book ((53 : Int32)).toNatClampNeg)) + (x7 * (c0_book ((54 : Int32)).toNatClampNeg))) + (x8 * (c0_book ((55 : Int32)).toNatClampNeg))) < (c0_book (((12 : Int32) + x1)).toNatClampNeg) then (fX12_paid_b161 c0_book x1 x2 K31 x3 x4 x5 x6 x7 x8 s0 (0 : Int32)) else (fX12_paid_b161 c0_book x1 x2 K31 x3 x4 x5 x6 x7 x8 s0 (1 : Int32)))))))
def fX12_paid_b109 (c0_book : Nat → Int32) (x1 : Int32) (x2 : Int32) (K31 : (Int32 → Int32 → Int32 → Option (Int32))) (x3 : Int32) (x4 : Int32) (x5 : Int32) (x6 : Int32) (x7 : Int32) (x8 : Int32) : Option (Int32) := (fX12_paid_b110 c0_book x1 x2 K31 x3 x4 x5 x6 x7 x8 (0 : Int32))
def fX12_paid_L31 (c0_book : Nat → Int32) (x1 : Int32) (x2 : Int32)  : Nat → Int32 → Int32 → Int32 → Option (Int32)
  | 0, _, _, _ => none
  | n + 1, x3, x4, x5 => (if (1000 : Int32) ≤ x5 then (if x4 < (0 : Int32) then (fX12_paid_b214 c0_book x1 x2  x4) else (if x2 = (1 : Int32) then (fX12_paid_b214 c0_book x1 x2  x4) else (fX12_paid_b220 c0_book x1 x2  x3))) else gd (inb ((30 : Int32) + x1) 56) ((if (c0_book (((30 : Int32) + x1)).toNatClampNeg) < (x5 / (100 : Int32)) then (fX12_paid_b109 c0_book x1 x2 (fX12_paid_L31 c0_book x1 x2  n) x3 x4 x5 (x5 / (100 : Int32)) (irm (x5 / (10 : Int32)) (10 : Int32)) (irm x5 (10 : Int32))) else gd (inb ((36 : Int32) + x1) 56) ((if (c0_book (((36 : Int32) + x1)).toNatClampNeg) < (irm (x5 / (10 : Int32)) (10 : Int32)) then (fX12_paid_b109 c0_book x1 x2 (fX12_paid_L31 c0_book x1 x2  n) x3 x4 x5 (x5 / (100 : Int32)) (irm (x5 / (10 : Int32)) (10 : Int32)) (irm x5 (10 : Int32))) else gd (inb ((42 : Int32) + x1) 56) ((if (c0_book (((42 : Int32) + x1)).toNatClampNeg) < (irm x5 (10 : Int32)) then (fX12_paid_b109 c0_book x1 x2 (fX12_paid_L31 c0_book x1 x2  n) x3 x4 x5 (x5 / (100 : Int32)) (irm (x5 / (10 : Int32)) (10 : Int32)) (irm x5 (10 : Int32))) else (fX12_paid_b110 c0_book x1 x2 (fX12_paid_L31 c0_book x1 x2  n) x3 x4 x5 (x5 / (100 : Int32)) (irm (x5 / (10 : Int32)) (10 : Int32)) (irm x5 (10 : Int32)) (1 : Int32)))))))))
def fX12_paid (c0_book : Nat → Int32) (x1 : Int32) (x2 : Int32) : Option (Int32) := Option.bind (fX12_isWalker x1) (fun v18 => (if v18 = (0 : Int32) then (some (-1 : Int32)) else Option.bind (fX12_in x2 (0 : Int32) (1 : Int32)) (fun v20 => (if v20 = (0 : Int32) then (some (-2 : Int32)) else (fX12_paid_L31 c0_book x1 x2  zF (1000000 : Int32) (-6 : Int32) (0 : Int32))))))
abbrev rmX12_paid : Room := { frames := 2, cells := 0, slots := 0, locals := 42 }
set_option maxRecDepth 100000 in
set_option maxHeartbeats 4000000 in
theorem ctX12_paid (l : Launch) (G : zG) (a0 a0_book a0_now a0_sight a0_pad a0_can a0_fitting a0_wins a0_image a0_isKept : Nat) (c0_sights : Int32) (c0_signs : Int32) (c0_offs : Int32) (c0_offAt : Int32) (c0_offWho : Int32) (c0_lastOff : Int32) (c0_reason : Int32) (c0_acts : Int32) (c0_book : Nat → Int32) (x1 : Int32) (x2 : Int32) {R : Int32} (hf : fX12_paid c0_book x1 x2 = some R) : zCt l yX12_paid wsX12_paid rmX12_paid G [(a0, .inr (12, [.ref a0_book, .ref a0_now, .int c0_sights, .ref a0_sight, .int c0_signs, .ref a0_pad, .int c0_offs, .int c0_offAt, .int c0_offWho, .int c0_lastOff, .int c0_reason, .int c0_acts, .ref a0_can, .ref a0_fitting, .ref a0_wins, .ref a0_image, .ref a0_isKept])), (a0_book, .inl (G.2.1, 56, .inl c0_book))] [.ref a0, .int x1, .int x2] (fun v w => v = some (.int (R)) ∧ w = [(a0, .inr (12, [.ref a0_book, .ref a0_now, .int c0_sights, .ref a0_sight, .int c0_signs, .ref a0_pad, .int c0_offs, .int c0_offAt, .int c0_offWho, .int c0_lastOff, .int c0_reason, .int c0_acts, .ref a0_can, .ref a0_fitting, .ref a0_wins, .ref a0_image, .ref a0_isKept])), (a0_book, .inl (G.2.1, 56, .inl c0_book))]) := by
  refine zMkI (own := RX12) false (by decide) (by decide +kernel) rfl rfl (Nat.le_of_ble_eq_true rfl) ?_
  intro Z h hret
  have hB220 : ∀ (s0 : Int32), fX12_paid_b220 c0_book x1 x2  s0 = some R → Z 0 0 [(a0, .inr (12, [.ref a0_book, .ref a0_now, .int c0_sights, .ref a0_sight, .int c0_signs, .ref a0_pad, .int c0_offs, .int c0_offAt, .int c0_offWho, .int c0_lastOff, .int c0_reason, .int c0_acts, .ref a0_can, .ref a0_fitting, .ref a0_wins, .ref a0_image, .ref a0_isKept])), (a0_book, .inl (G.2.1, 56, .inl c0_book))] [] 220 [.int s0] := by
    intro s0 hf
    rw [fX12_paid_b220] at hf
    have hf := Option.some.inj hf
    subst hf
    exact hret _ _ _ _ dX12_paid_220 ⟨rfl, rfl⟩
  have hB214 : ∀ (x4 : Int32), fX12_paid_b214 c0_book x1 x2  x4 = some R → Z 0 0 [(a0, .inr (12, [.ref a0_book, .ref a0_now, .int c0_sights, .ref a0_sight, .int c0_signs, .ref a0_pad, .int c0_offs, .int c0_offAt, .int c0_offWho, .int c0_lastOff, .int c0_reason, .int c0_acts, .ref a0_can, .ref a0_fitting, .ref a0_wins, .ref a0_image, .ref a0_isKept])), (a0_book, .inl (G.2.1, 56, .inl c0_book))] [(4, .int x4)] 214 [] := by
    intro x4 hf
    rw [fX12_paid_b214] at hf
    refine z_iload h dX12_paid_214 0 rfl rfl ?_
    refine z_goto h (tgt := 220) dX12_paid_216 (by decide) ?_
    refine z_locs h (lv2 := []) [] rfl ?_
    exact hB220 x4 hf
  have hL31 : ∀ (n31 : Nat) (x3 : Int32) (x4 : Int32) (x5 : Int32), fX12_paid_L31 c0_book x1 x2  n31 x3 x4 x5 = some R → Z 0 0 [(a0, .inr (12, [.ref a0_book, .ref a0_now, .int c0_sights, .ref a0_sight, .int c0_signs, .ref a0_pad, .int c0_offs, .int c0_offAt, .int c0_offWho, .int c0_lastOff, .int c0_reason, .int c0_acts, .ref a0_can, .ref a0_fitting, .ref a0_wins, .ref a0_image, .ref a0_isKept])), (a0_book, .inl (G.2.1, 56, .inl c0_book))] [(0, .ref a0), (1, .int x1), (2, .int x2), (3, .int x3), (4, .int x4), (5, .int x5)] 31 [] := by
    intro n31
    induction n31 with
    | zero =>
      intro x3 x4 x5 hf
      rw [fX12_paid_L31] at hf
      cases hf
    | succ n31 ih31 =>
      have hB198 : ∀ (x3 : Int32) (x4 : Int32) (x5 : Int32), fX12_paid_b198 c0_book x1 x2 (fX12_paid_L31 c0_book x1 x2  n31) x3 x4 x5 = some R → Z 0 0 [(a0, .inr (12, [.ref a0_book, .ref a0_now, .int c0_sights, .ref a0_sight, .int c0_signs, .ref a0_pad, .int c0_offs, .int c0_offAt, .int c0_offWho, .int c0_lastOff, .int c0_reason, .int c0_acts, .ref a0_can, .ref a0_fitting, .ref a0_wins, .ref a0_image, .ref a0_isKept])), (a0_book, .inl (G.2.1, 56, .inl c0_book))] [(0, .ref a0), (1, .int x1), (2, .int x2), (3, .int x3), (4, .int x4), (5, .int x5)] 198 [] := by
        intro x3 x4 x5 hf
        rw [fX12_paid_b198] at hf
        refine z_iinc h (v := (x5 + (1 : Int32))) (lv2 := [(5, .int (x5 + (1 : Int32))), (0, .ref a0), (1, .int x1), (2, .int x2), (3, .int x3), (4, .int x4)]) (j := 5) dX12_paid_198 rfl rfl (by decide) rfl rfl ?_
        refine z_goto h (tgt := 31) dX12_paid_201 (by decide) ?_
        refine z_locs h (lv2 := [(0, .ref a0), (1, .int x1), (2, .int x2), (3, .int x3), (4, .int x4), (5, .int (x5 + (1 : Int32)))]) [1, 2, 3, 4, 5, 0] rfl ?_
        exact ih31 x3 x4 (x5 + (1 : Int32)) hf
      have hB161 : ∀ (x3 : Int32) (x4 : Int32) (x5 : Int32) (x6 : Int32) (x7 : Int32) (x8 : Int32) (x9 : Int32) (s0 : Int32), fX12_paid_b161 c0_book x1 x2 (fX12_paid_L31 c0_book x1 x2  n31) x3 x4 x5 x6 x7 x8 x9 s0 = some R → Z 0 0 [(a0, .inr (12, [.ref a0_book, .ref a0_now, .int c0_sights, .ref a0_sight, .int c0_signs, .ref a0_pad, .int c0_offs, .int c0_offAt, .int c0_offWho, .int c0_lastOff, .int c0_reason, .int c0_acts, .ref a0_can, .ref a0_fitting, .ref a0_wins, .ref a0_image, .ref a0_isKept])), (a0_book, .inl (G.2.1, 56, .inl c0_book))] [(0, .ref a0), (1, .int x1), (2, .int x2), (3, .int x3), (4, .int x4), (5, .int x5), (6, .int x6), (7, .int x7), (8, .int x8), (9, .int x9)] 161 [.int s0] := by
        intro x3 x4 x5 x6 x7 x8 x9 s0 hf
        rw [fX12_paid_b161] at hf
        refine z_istore h (lv2 := [(10, .int s0), (0, .ref a0), (1, .int x1), (2, .int x2), (3, .int x3), (4, .int x4), (5, .int x5), (6, .int x6), (7, .int x7), (8, .int x8), (9, .int x9)]) dX12_paid_161 (by decide) rfl rfl ?_
        refine z_iload h dX12_paid_163 10 rfl rfl ?_
        refine z_if_eq h (tgt := 198) dX12_paid_165 (by decide) rfl (fun c1 => ?_) (fun c1 => ?_)
        · have hf := ite_t hf c1
          refine z_locs h (lv2 := [(0, .ref a0), (1, .int x1), (2, .int x2), (3, .int x3), (4, .int x4), (5, .int x5)]) [1, 2, 3, 4, 5, 6] rfl ?_
          exact hB198 x3 x4 x5 hf
        have hf := ite_f hf c1
        refine z_iload h dX12_paid_168 0 rfl rfl ?_
        refine z_if_eq h (tgt := 198) dX12_paid_170 (by decide) rfl (fun c2 => ?_) (fun c2 => ?_)
        · have hf := ite_t hf c2
          refine z_locs h (lv2 := [(0, .ref a0), (1, .int x1), (2, .int x2), (3, .int x3), (4, .int x4), (5, .int x5)]) [1, 2, 3, 4, 5, 6] rfl ?_
          exact hB198 x3 x4 x5 hf
        have hf := ite_f hf c2
        refine z_iload h dX12_paid_173 7 rfl rfl ?_
        refine z_iload h dX12_paid_175 8 rfl rfl ?_
        refine z_iadd h dX12_paid_177 rfl ?_
        refine z_iload h dX12_paid_178 9 rfl rfl ?_
        refine z_iadd h dX12_paid_180 rfl ?_
        refine z_iload_n h dX12_paid_181 4 rfl rfl ?_
        refine z_icmp_ge h (tgt := 198) dX12_paid_182 (by decide) rfl (fun c3 => ?_) (fun c3 => ?_)
        · have hf := ite_t hf c3
          refine z_locs h (lv2 := [(0, .ref a0), (1, .int x1), (2, .int x2), (3, .int x3), (4, .int x4), (5, .int x5)]) [1, 2, 3, 4, 5, 6] rfl ?_
          exact hB198 x3 x4 x5 hf
        have hf := ite_f hf c3
        refine z_iload h dX12_paid_185 7 rfl rfl ?_
        refine z_iload h dX12_paid_187 8 rfl rfl ?_
        refine z_iadd h dX12_paid_189 rfl ?_
        refine z_iload h dX12_paid_190 9 rfl rfl ?_
        refine z_iadd h dX12_paid_192 rfl ?_
        refine z_istore_n h (lv2 := [(3, .int ((x6 + x7) + x8)), (10, .int s0), (0, .ref a0), (1, .int x1), (2, .int x2), (4, .int x4), (5, .int x5), (6, .int x6), (7, .int x7), (8, .int x8), (9, .int x9)]) dX12_paid_193 (by decide) rfl rfl ?_
        refine z_iload h dX12_paid_194 6 rfl rfl ?_
        refine z_istore h (lv2 := [(4, .int x5), (3, .int ((x6 + x7) + x8)), (10, .int s0), (0, .ref a0), (1, .int x1), (2, .int x2), (5, .int x5), (6, .int x6), (7, .int x7), (8, .int x8), (9, .int x9)]) dX12_paid_196 (by decide) rfl rfl ?_
        refine z_locs h (lv2 := [(0, .ref a0), (1, .int x1), (2, .int x2), (3, .int ((x6 + x7) + x8)), (4, .int x5), (5, .int x5)]) [3, 4, 5, 1, 0, 6] rfl ?_
        exact hB198 ((x6 + x7) + x8) x5 x5 hf
      have hB110 : ∀ (x3 : Int32) (x4 : Int32) (x5 : Int32) (x6 : Int32) (x7 : Int32) (x8 : Int32) (s0 : Int32), fX12_paid_b110 c0_book x1 x2 (fX12_paid_L31 c0_book x1 x2  n31) x3 x4 x5 x6 x7 x8 s0 = some R → Z 0 0 [(a0, .inr (12, [.ref a0_book, .ref a0_now, .int c0_sights, .ref a0_sight, .int c0_signs, .ref a0_pad, .int c0_offs, .int c0_offAt, .int c0_offWho, .int c0_lastOff, .int c0_reason, .int c0_acts, .ref a0_can, .ref a0_fitting, .ref a0_wins, .ref a0_image, .ref a0_isKept])), (a0_book, .inl (G.2.1, 56, .inl c0_book))] [(0, .ref a0), (1, .int x1), (2, .int x2), (3, .int x3), (4, .int x4), (5, .int x5), (6, .int x6), (7, .int x7), (8, .int x8)] 110 [.int s0] := by
        intro x3 x4 x5 x6 x7 x8 s0 hf
        rw [fX12_paid_b110] at hf
        refine z_istore h (lv2 := [(9, .int s0), (0, .ref a0), (1, .int x1), (2, .int x2), (3, .int x3), (4, .int x4), (5, .int x5), (6, .int x6), (7, .int x7), (8, .int x8)]) dX12_paid_110 (by decide) rfl rfl ?_
        refine z_iload h dX12_paid_112 7 rfl rfl ?_
        refine z_aload_n h dX12_paid_114 1 rfl rfl ?_
        refine z_get h (C := RX12) (T := TX12) (N := 17) (v := .ref a0_book) 0 rfl rfl 0 (by decide) (by decide +kernel) (by decide +kernel) rfl dX12_paid_115 rfl ?_
        refine z_bipush h (v := (53 : Int32)) dX12_paid_118 (by decide) rfl ?_
        obtain ⟨hg4, hf⟩ := gd_some hf
        refine z_iald h 1 rfl rfl hg4 dX12_paid_120 rfl ?_
        refine z_imul h dX12_paid_121 rfl ?_
        refine z_iload h dX12_paid_122 8 rfl rfl ?_
        refine z_aload_n h dX12_paid_124 1 rfl rfl ?_
        refine z_get h (C := RX12) (T := TX12) (N := 17) (v := .ref a0_book) 0 rfl rfl 0 (by decide) (by decide +kernel) (by decide +kernel) rfl dX12_paid_125 rfl ?_
        refine z_bipush h (v := (54 : Int32)) dX12_paid_128 (by decide) rfl ?_
        obtain ⟨hg5, hf⟩ := gd_some hf
        refine z_iald h 1 rfl rfl hg5 dX12_paid_130 rfl ?_
        refine z_imul h dX12_paid_131 rfl ?_
        refine z_iadd h dX12_paid_132 rfl ?_
        refine z_iload h dX12_paid_133 9 rfl rfl ?_
        refine z_aload_n h dX12_paid_135 1 rfl rfl ?_
        refine z_get h (C := RX12) (T := TX12) (N := 17) (v := .ref a0_book) 0 rfl rfl 0 (by decide) (by decide +kernel) (by decide +kernel) rfl dX12_paid_136 rfl ?_
        refine z_bipush h (v := (55 : Int32)) dX12_paid_139 (by decide) rfl ?_
        obtain ⟨hg6, hf⟩ := gd_some hf
        refine z_iald h 1 rfl rfl hg6 dX12_paid_141 rfl ?_
        refine z_imul h dX12_paid_142 rfl ?_
        refine z_iadd h dX12_paid_143 rfl ?_
        refine z_aload_n h dX12_paid_144 1 rfl rfl ?_
        refine z_get h (C := RX12) (T := TX12) (N := 17) (v := .ref a0_book) 0 rfl rfl 0 (by decide) (by decide +kernel) (by decide +kernel) rfl dX12_paid_145 rfl ?_
        refine z_bipush h (v := (12 : Int32)) dX12_paid_148 (by decide) rfl ?_
        refine z_iload_n h dX12_paid_150 2 rfl rfl ?_
        refine z_iadd h dX12_paid_151 rfl ?_
        obtain ⟨hg7, hf⟩ := gd_some hf
        refine z_iald h 1 rfl rfl hg7 dX12_paid_152 rfl ?_
        refine z_icmp_lt h (tgt := 160) dX12_paid_153 (by decide) rfl (fun c8 => ?_) (fun c8 => ?_)
        · have hf := ite_t hf c8
          refine z_iconst h (v := (0 : Int32)) dX12_paid_160 (by decide) rfl ?_
          refine z_locs h (lv2 := [(0, .ref a0), (1, .int x1), (2, .int x2), (3, .int x3), (4, .int x4), (5, .int x5), (6, .int x6), (7, .int x7), (8, .int x8), (9, .int s0)]) [1, 2, 3, 4, 5, 6, 7, 8, 9, 0] rfl ?_
          exact hB161 x3 x4 x5 x6 x7 x8 s0 (0 : Int32) hf
        have hf := ite_f hf c8
        refine z_iconst h (v := (1 : Int32)) dX12_paid_156 (by decide) rfl ?_
        refine z_goto h (tgt := 161) dX12_paid_157 (by decide) ?_
        refine z_locs h (lv2 := [(0, .ref a0), (1, .int x1), (2, .int x2), (3, .int x3), (4, .int x4), (5, .int x5), (6, .int x6), (7, .int x7), (8, .int x8), (9, .int s0)]) [1, 2, 3, 4, 5, 6, 7, 8, 9, 0] rfl ?_
        exact hB161 x3 x4 x5 x6 x7 x8 s0 (1 : Int32) hf
      have hB109 : ∀ (x3 : Int32) (x4 : Int32) (x5 : Int32) (x6 : Int32) (x7 : Int32) (x8 : Int32), fX12_paid_b109 c0_book x1 x2 (fX12_paid_L31 c0_book x1 x2  n31) x3 x4 x5 x6 x7 x8 = some R → Z 0 0 [(a0, .inr (12, [.ref a0_book, .ref a0_now, .int c0_sights, .ref a0_sight, .int c0_signs, .ref a0_pad, .int c0_offs, .int c0_offAt, .int c0_offWho, .int c0_lastOff, .int c0_reason, .int c0_acts, .ref a0_can, .ref a0_fitting, .ref a0_wins, .ref a0_image, .ref a0_isKept])), (a0_book, .inl (G.2.1, 56, .inl c0_book))] [(0, .ref a0), (1, .int x1), (2, .int x2), (3, .int x3), (4, .int x4), (5, .int x5), (6, .int x6), (7, .int x7), (8, .int x8)] 109 [] := by
        intro x3 x4 x5 x6 x7 x8 hf
        rw [fX12_paid_b109] at hf
        refine z_iconst h (v := (0 : Int32)) dX12_paid_109 (by decide) rfl ?_
        exact hB110 x3 x4 x5 x6 x7 x8 (0 : Int32) hf
      intro x3 x4 x5 hf
      rw [fX12_paid_L31] at hf
      refine z_iload h dX12_paid_31 5 rfl rfl ?_
      refine z_sipush h (v := (1000 : Int32)) dX12_paid_33 (by decide) rfl ?_
      refine z_icmp_ge h (tgt := 204) dX12_paid_36 (by decide) rfl (fun c9 => ?_) (fun c9 => ?_)
      · have hf := ite_t hf c9
        refine z_iload h dX12_paid_204 4 rfl rfl ?_
        refine z_if_lt h (tgt := 214) dX12_paid_206 (by decide) rfl (fun c10 => ?_) (fun c10 => ?_)
        · have hf := ite_t hf c10
          refine z_locs h (lv2 := [(4, .int x4)]) [4] rfl ?_
          exact hB214 x4 hf
        have hf := ite_f hf c10
        refine z_iload_n h dX12_paid_209 2 rfl rfl ?_
        refine z_iconst h (v := (1 : Int32)) dX12_paid_210 (by decide) rfl ?_
        refine z_icmp_ne h (tgt := 219) dX12_paid_211 (by decide) rfl (fun c11 => ?_) (fun c11 => ?_)
        · have hf := ite_f hf c11
          refine z_iload_n h dX12_paid_219 3 rfl rfl ?_
          refine z_locs h (lv2 := []) [] rfl ?_
          exact hB220 x3 hf
        have hf := ite_t hf c11
        refine z_locs h (lv2 := [(4, .int x4)]) [4] rfl ?_
        exact hB214 x4 hf
      have hf := ite_f hf c9
      refine z_iload h dX12_paid_39 5 rfl rfl ?_
      refine z_bipush h (v := (100 : Int32)) dX12_paid_41 (by decide) rfl ?_
      refine z_idiv h dX12_paid_43 (by decide) rfl ?_
      refine z_istore h (lv2 := [(6, .int (x5 / (100 : Int32))), (0, .ref a0), (1, .int x1), (2, .int x2), (3, .int x3), (4, .int x4), (5, .int x5)]) dX12_paid_44 (by decide) rfl rfl ?_
      refine z_iload h dX12_paid_46 6 rfl rfl ?_
      refine z_bipush h (v := (10 : Int32)) dX12_paid_48 (by decide) rfl ?_
      refine z_idiv h dX12_paid_50 (by decide) rfl ?_
      refine z_bipush h (v := (10 : Int32)) dX12_paid_51 (by decide) rfl ?_
      refine z_irem h dX12_paid_53 (by decide) rfl ?_
      refine z_istore h (lv2 := [(7, .int (irm (x5 / (10 : Int32)) (10 : Int32))), (6, .int (x5 / (100 : Int32))), (0, .ref a0), (1, .int x1), (2, .int x2), (3, .int x3), (4, .int x4), (5, .int x5)]) dX12_paid_54 (by decide) rfl rfl ?_
      refine z_iload h dX12_paid_56 7 rfl rfl ?_
      refine z_bipush h (v := (10 : Int32)) dX12_paid_58 (by decide) rfl ?_
      refine z_irem h dX12_paid_60 (by decide) rfl ?_
      refine z_istore h (lv2 := [(8, .int (irm x5 (10 : Int32))), (7, .int (irm (x5 / (10 : Int32)) (10 : Int32))), (6, .int (x5 / (100 : Int32))), (0, .ref a0), (1, .int x1), (2, .int x2), (3, .int x3), (4, .int x4), (5, .int x5)]) dX12_paid_61 (by decide) rfl rfl ?_
      refine z_iload h dX12_paid_63 2 rfl rfl ?_
      refine z_aload_n h dX12_paid_65 3 rfl rfl ?_
      refine z_get h (C := RX12) (T := TX12) (N := 17) (v := .ref a0_book) 0 rfl rfl 0 (by decide) (by decide +kernel) (by decide +kernel) rfl dX12_paid_66 rfl ?_
      refine z_bipush h (v := (30 : Int32)) dX12_paid_69 (by decide) rfl ?_
      refine z_iload_n h dX12_paid_71 4 rfl rfl ?_
      refine z_iadd h dX12_paid_72 rfl ?_
      obtain ⟨hg12, hf⟩ := gd_some hf
      refine z_iald h 1 rfl rfl hg12 dX12_paid_73 rfl ?_
      refine z_icmp_gt h (tgt := 109) dX12_paid_74 (by decide) rfl (fun c13 => ?_) (fun c13 => ?_)
      · have hf := ite_t hf c13
        refine z_locs h (lv2 := [(0, .ref a0), (1, .int x1), (2, .int x2), (3, .int x3), (4, .int x4), (5, .int x5), (6, .int (x5 / (100 : Int32))), (7, .int (irm (x5 / (10 : Int32)) (10 : Int32))), (8, .int (irm x5 (10 : Int32)))]) [3, 4, 5, 6, 7, 8, 2, 1, 0] rfl ?_
        exact hB109 x3 x4 x5 (x5 / (100 : Int32)) (irm (x5 / (10 : Int32)) (10 : Int32)) (irm x5 (10 : Int32)) hf
      have hf := ite_f hf c13
      refine z_iload h dX12_paid_77 1 rfl rfl ?_
      refine z_aload_n h dX12_paid_79 3 rfl rfl ?_
      refine z_get h (C := RX12) (T := TX12) (N := 17) (v := .ref a0_book) 0 rfl rfl 0 (by decide) (by decide +kernel) (by decide +kernel) rfl dX12_paid_80 rfl ?_
      refine z_bipush h (v := (36 : Int32)) dX12_paid_83 (by decide) rfl ?_
      refine z_iload_n h dX12_paid_85 4 rfl rfl ?_
      refine z_iadd h dX12_paid_86 rfl ?_
      obtain ⟨hg14, hf⟩ := gd_some hf
      refine z_iald h 1 rfl rfl hg14 dX12_paid_87 rfl ?_
      refine z_icmp_gt h (tgt := 109) dX12_paid_88 (by decide) rfl (fun c15 => ?_) (fun c15 => ?_)
      · have hf := ite_t hf c15
        refine z_locs h (lv2 := [(0, .ref a0), (1, .int x1), (2, .int x2), (3, .int x3), (4, .int x4), (5, .int x5), (6, .int (x5 / (100 : Int32))), (7, .int (irm (x5 / (10 : Int32)) (10 : Int32))), (8, .int (irm x5 (10 : Int32)))]) [3, 4, 5, 6, 7, 8, 2, 1, 0] rfl ?_
        exact hB109 x3 x4 x5 (x5 / (100 : Int32)) (irm (x5 / (10 : Int32)) (10 : Int32)) (irm x5 (10 : Int32)) hf
      have hf := ite_f hf c15
      refine z_iload h dX12_paid_91 0 rfl rfl ?_
      refine z_aload_n h dX12_paid_93 3 rfl rfl ?_
      refine z_get h (C := RX12) (T := TX12) (N := 17) (v := .ref a0_book) 0 rfl rfl 0 (by decide) (by decide +kernel) (by decide +kernel) rfl dX12_paid_94 rfl ?_
      refine z_bipush h (v := (42 : Int32)) dX12_paid_97 (by decide) rfl ?_
      refine z_iload_n h dX12_paid_99 4 rfl rfl ?_
      refine z_iadd h dX12_paid_100 rfl ?_
      obtain ⟨hg16, hf⟩ := gd_some hf
      refine z_iald h 1 rfl rfl hg16 dX12_paid_101 rfl ?_
      refine z_icmp_gt h (tgt := 109) dX12_paid_102 (by decide) rfl (fun c17 => ?_) (fun c17 => ?_)
      · have hf := ite_t hf c17
        refine z_locs h (lv2 := [(0, .ref a0), (1, .int x1), (2, .int x2), (3, .int x3), (4, .int x4), (5, .int x5), (6, .int (x5 / (100 : Int32))), (7, .int (irm (x5 / (10 : Int32)) (10 : Int32))), (8, .int (irm x5 (10 : Int32)))]) [3, 4, 5, 6, 7, 8, 2, 1, 0] rfl ?_
        exact hB109 x3 x4 x5 (x5 / (100 : Int32)) (irm (x5 / (10 : Int32)) (10 : Int32)) (irm x5 (10 : Int32)) hf
      have hf := ite_f hf c17
      refine z_iconst h (v := (1 : Int32)) dX12_paid_105 (by decide) rfl ?_
      refine z_goto h (tgt := 110) dX12_paid_106 (by decide) ?_
      refine z_locs h (lv2 := [(0, .ref a0), (1, .int x1), (2, .int x2), (3, .int x3), (4, .int x4), (5, .int x5), (6, .int (x5 / (100 : Int32))), (7, .int (irm (x5 / (10 : Int32)) (10 : Int32))), (8, .int (irm x5 (10 : Int32)))]) [3, 4, 5, 6, 7, 8, 2, 1, 0] rfl ?_
      exact hB110 x3 x4 x5 (x5 / (100 : Int32)) (irm (x5 / (10 : Int32)) (10 : Int32)) (irm x5 (10 : Int32)) (1 : Int32) hf
  rw [fX12_paid] at hf
  show Z 0 0 _ [(0, .ref a0), (1, .int x1), (2, .int x2)] 0 []
  refine z_iload_n h dX12_paid_0 1 rfl rfl ?_
  obtain ⟨v18, hv18, hf⟩ := bd_some hf
  refine z_callS h (np := 1) (st := []) (wr := [(a0, .inr (12, [.ref a0_book, .ref a0_now, .int c0_sights, .ref a0_sight, .int c0_signs, .ref a0_pad, .int c0_offs, .int c0_offAt, .int c0_offWho, .int c0_lastOff, .int c0_reason, .int c0_acts, .ref a0_can, .ref a0_fitting, .ref a0_wins, .ref a0_image, .ref a0_isKept])), (a0_book, .inl (G.2.1, 56, .inl c0_book))]) [.int x1] (ctX12_isWalker l G x1 hv18) gX12_paid_X12_isWalker (by decide +kernel) rfl ⟨Nat.le_of_ble_eq_true rfl, Nat.le_of_ble_eq_true rfl⟩ ⟨Nat.le_refl _, Nat.le_refl _⟩ rfl rfl rfl [] [0, 1] rfl rfl rfl rfl (by decide) (Nat.le_of_ble_eq_true rfl) dX12_paid_1 rfl rfl (fun rv18 wv18 hrv18 => ?_)
  obtain ⟨rfl, rfl⟩ := hrv18
  refine z_perm h (w2 := [(a0, .inr (12, [.ref a0_book, .ref a0_now, .int c0_sights, .ref a0_sight, .int c0_signs, .ref a0_pad, .int c0_offs, .int c0_offAt, .int c0_offWho, .int c0_lastOff, .int c0_reason, .int c0_acts, .ref a0_can, .ref a0_fitting, .ref a0_wins, .ref a0_image, .ref a0_isKept])), (a0_book, .inl (G.2.1, 56, .inl c0_book))]) (st := [.int v18]) [0, 1] rfl rfl ?_
  refine z_if_ne h (tgt := 9) dX12_paid_4 (by decide) rfl (fun c19 => ?_) (fun c19 => ?_)
  · have hf := ite_f hf c19
    refine z_iload_n h dX12_paid_9 2 rfl rfl ?_
    refine z_iconst h (v := (0 : Int32)) dX12_paid_10 (by decide) rfl ?_
    refine z_iconst h (v := (1 : Int32)) dX12_paid_11 (by decide) rfl ?_
    obtain ⟨v20, hv20, hf⟩ := bd_some hf
    refine z_callS h (np := 3) (st := []) (wr := [(a0, .inr (12, [.ref a0_book, .ref a0_now, .int c0_sights, .ref a0_sight, .int c0_signs, .ref a0_pad, .int c0_offs, .int c0_offAt, .int c0_offWho, .int c0_lastOff, .int c0_reason, .int c0_acts, .ref a0_can, .ref a0_fitting, .ref a0_wins, .ref a0_image, .ref a0_isKept])), (a0_book, .inl (G.2.1, 56, .inl c0_book))]) [.int x2, .int (0 : Int32), .int (1 : Int32)] (ctX12_in l G x2 (0 : Int32) (1 : Int32) hv20) gX12_paid_X12_in (by decide +kernel) rfl ⟨Nat.le_of_ble_eq_true rfl, Nat.le_of_ble_eq_true rfl⟩ ⟨Nat.le_refl _, Nat.le_refl _⟩ rfl rfl rfl [] [0, 1] rfl rfl rfl rfl (by decide) (Nat.le_of_ble_eq_true rfl) dX12_paid_12 rfl rfl (fun rv20 wv20 hrv20 => ?_)
    obtain ⟨rfl, rfl⟩ := hrv20
    refine z_perm h (w2 := [(a0, .inr (12, [.ref a0_book, .ref a0_now, .int c0_sights, .ref a0_sight, .int c0_signs, .ref a0_pad, .int c0_offs, .int c0_offAt, .int c0_offWho, .int c0_lastOff, .int c0_reason, .int c0_acts, .ref a0_can, .ref a0_fitting, .ref a0_wins, .ref a0_image, .ref a0_isKept])), (a0_book, .inl (G.2.1, 56, .inl c0_book))]) (st := [.int v20]) [0, 1] rfl rfl ?_
    refine z_if_ne h (tgt := 21) dX12_paid_15 (by decide) rfl (fun c21 => ?_) (fun c21 => ?_)
    · have hf := ite_f hf c21
      refine z_ldc h (v := (1000000 : Int32)) dX12_paid_21 (by decide +kernel) rfl ?_
      refine z_istore_n h (lv2 := [(3, .int (1000000 : Int32)), (0, .ref a0), (1, .int x1), (2, .int x2)]) dX12_paid_23 (by decide) rfl rfl ?_
      refine z_bipush h (v := (-6 : Int32)) dX12_paid_24 (by decide) rfl ?_
      refine z_istore h (lv2 := [(4, .int (-6 : Int32)), (3, .int (1000000 : Int32)), (0, .ref a0), (1, .int x1), (2, .int x2)]) dX12_paid_26 (by decide) rfl rfl ?_
      refine z_iconst h (v := (0 : Int32)) dX12_paid_28 (by decide) rfl ?_
      refine z_istore h (lv2 := [(5, .int (0 : Int32)), (4, .int (-6 : Int32)), (3, .int (1000000 : Int32)), (0, .ref a0), (1, .int x1), (2, .int x2)]) dX12_paid_29 (by decide) rfl rfl ?_
      refine z_locs h (lv2 := [(0, .ref a0), (1, .int x1), (2, .int x2), (3, .int (1000000 : Int32)), (4, .int (-6 : Int32)), (5, .int (0 : Int32))]) [3, 4, 5, 2, 1, 0] rfl ?_
      exact hL31 zF (1000000 : Int32) (-6 : Int32) (0 : Int32) hf
    have hf := ite_t hf c21
    refine z_bipush h (v := (-2 : Int32)) dX12_paid_18 (by decide) rfl ?_
    have hf := Option.some.inj hf
    subst hf
    exact hret _ _ _ _ dX12_paid_20 ⟨rfl, rfl⟩
  have hf := ite_t hf c19
  refine z_iconst h (v := (-1 : Int32)) dX12_paid_7 (by decide) rfl ?_
  have hf := Option.some.inj hf
  subst hf
  exact hret _ _ _ _ dX12_paid_8 ⟨rfl, rfl⟩
def fX12_seen_b38 (x1 : Int32) (x2 : Int32) (x3 : Int32) (x4 : Int32) (x5 : Int32)  (c0_sights : Int32) (c0_sight : Nat → Int32) : Option (Int32 × Int32 × (Nat → Int32)) := (some ((-2 : Int32), c0_sights, c0_sight))
def fX12_seen_b104 (x1 : Int32) (x2 : Int32) (x3 : Int32) (x4 : Int32) (x5 : Int32)  (c0_sights : Int32) (c0_sight : Nat → Int32) (s1 : Int32) (s2 : Int32) : Option (Int32 × Int32 × (Nat → Int32)) := gd (inb s1 40) ((some ((c0_sights + (1 : Int32)), (c0_sights + (1 : Int32)), (upd c0_sight (s1).toNatClampNeg s2))))
def fX12_seen (c0_sights : Int32) (c0_sight : Nat → Int32) (x1 : Int32) (x2 : Int32) (x3 : Int32) (x4 : Int32) (x5 : Int32) : Option (Int32 × Int32 × (Nat → Int32)) := Option.bind (fX12_in x1 (1 : Int32) (9 : Int32)) (fun v2 => (if v2 = (0 : Int32) then (fX12_seen_b38 x1 x2 x3 x4 x5  c0_sights c0_sight) else Option.bind (fX12_in x2 (0 : Int32) (3 : Int32)) (fun v4 => (if v4 = (0 : Int32) then (fX12_seen_b38 x1 x2 x3 x4 x5  c0_sights c0_sight) else Option.bind (fX12_in x3 (0 : Int32) (3 : Int32)) (fun v6 => (if v6 = (0 : Int32) then (fX12_seen_b38 x1 x2 x3 x4 x5  c0_sights c0_sight) else Option.bind (fX12_in x4 (0 : Int32) (3 : Int32)) (fun v8 => (if v8 = (0 : Int32) then (fX12_seen_b38 x1 x2 x3 x4 x5  c0_sights c0_sight) else (if c0_sights = (8 : Int32) then (some ((-4 : Int32), c0_sights, c0_sight)) else gd (inb ((2 : Int32) * c0_sights) 40) ((if x5 = (0 : Int32) then (fX12_seen_b104 x1 x2 x3 x4 x5  c0_sights (upd c0_sight (((2 : Int32) * c0_sights)).toNatClampNeg (((((1000 : Int32) * x1) + ((100 : Int32) * x2)) + ((10 : Int32) * x3)) + x4)) (((2 : Int32) * c0_sights) + (1 : Int32)) (0 : Int32)) else (fX12_seen_b104 x1 x2 x3 x4 x5  c0_sights (upd c0_sight (((2 : Int32) * c0_sights)).toNatClampNeg (((((1000 : Int32) * x1) + ((100 : Int32) * x2)) + ((10 : Int32) * x3)) + x4)) (((2 : Int32) * c0_sights) + (1 : Int32)) (1 : Int32)))))))))))))
abbrev rmX12_seen : Room := { frames := 1, cells := 0, slots := 0, locals := 22 }
set_option maxRecDepth 100000 in
set_option maxHeartbeats 4000000 in
theorem ctX12_seen (l : Launch) (G : zG) (a0 a0_book a0_now a0_sight a0_pad a0_can a0_fitting a0_wins a0_image a0_isKept : Nat) (c0_sights : Int32) (c0_signs : Int32) (c0_offs : Int32) (c0_offAt : Int32) (c0_offWho : Int32) (c0_lastOff : Int32) (c0_reason : Int32) (c0_acts : Int32) (c0_sight : Nat → Int32) (x1 : Int32) (x2 : Int32) (x3 : Int32) (x4 : Int32) (x5 : Int32) {R : Int32 × Int32 × (Nat → Int32)} (hf : fX12_seen c0_sights c0_sight x1 x2 x3 x4 x5 = some R) : zCt l yX12_seen wsX12_seen rmX12_seen G [(a0, .inr (12, [.ref a0_book, .ref a0_now, .int c0_sights, .ref a0_sight, .int c0_signs, .ref a0_pad, .int c0_offs, .int c0_offAt, .int c0_offWho, .int c0_lastOff, .int c0_reason, .int c0_acts, .ref a0_can, .ref a0_fitting, .ref a0_wins, .ref a0_image, .ref a0_isKept])), (a0_sight, .inl (G.2.1, 40, .inl c0_sight))] [.ref a0, .int x1, .int x2, .int x3, .int x4, .int x5] (fun v w => v = some (.int (R.1)) ∧ w = [(a0, .inr (12, [.ref a0_book, .ref a0_now, .int (R.2.1), .ref a0_sight, .int c0_signs, .ref a0_pad, .int c0_offs, .int c0_offAt, .int c0_offWho, .int c0_lastOff, .int c0_reason, .int c0_acts, .ref a0_can, .ref a0_fitting, .ref a0_wins, .ref a0_image, .ref a0_isKept])), (a0_sight, .inl (G.2.1, 40, .inl (R.2.2)))]) := by
  refine zMkI (own := RX12) false (by decide) (by decide +kernel) rfl rfl (Nat.le_of_ble_eq_true rfl) ?_
  intro Z h hret
  have hB38 : ∀ (c0_sights : Int32) (c0_sight : Nat → Int32), fX12_seen_b38 x1 x2 x3 x4 x5  c0_sights c0_sight = some R → Z 0 0 [(a0, .inr (12, [.ref a0_book, .ref a0_now, .int c0_sights, .ref a0_sight, .int c0_signs, .ref a0_pad, .int c0_offs, .int c0_offAt, .int c0_offWho, .int c0_lastOff, .int c0_reason, .int c0_acts, .ref a0_can, .ref a0_fitting, .ref a0_wins, .ref a0_image, .ref a0_isKept])), (a0_sight, .inl (G.2.1, 40, .inl c0_sight))] [] 38 [] := by
    intro c0_sights c0_sight hf
    rw [fX12_seen_b38] at hf
    refine z_bipush h (v := (-2 : Int32)) dX12_seen_38 (by decide) rfl ?_
    have hf := Option.some.inj hf
    subst hf
    exact hret _ _ _ _ dX12_seen_40 ⟨rfl, rfl⟩
  have hB104 : ∀ (c0_sights : Int32) (c0_sight : Nat → Int32) (s1 : Int32) (s2 : Int32), fX12_seen_b104 x1 x2 x3 x4 x5  c0_sights c0_sight s1 s2 = some R → Z 0 0 [(a0, .inr (12, [.ref a0_book, .ref a0_now, .int c0_sights, .ref a0_sight, .int c0_signs, .ref a0_pad, .int c0_offs, .int c0_offAt, .int c0_offWho, .int c0_lastOff, .int c0_reason, .int c0_acts, .ref a0_can, .ref a0_fitting, .ref a0_wins, .ref a0_image, .ref a0_isKept])), (a0_sight, .inl (G.2.1, 40, .inl c0_sight))] [(0, .ref a0)] 104 [.int s2, .int s1, .ref a0_sight] := by
    intro c0_sights c0_sight s1 s2 hf
    rw [fX12_seen_b104] at hf
    obtain ⟨hg1, hf⟩ := gd_some hf
    refine z_iast h (w2 := [(a0, .inr (12, [.ref a0_book, .ref a0_now, .int c0_sights, .ref a0_sight, .int c0_signs, .ref a0_pad, .int c0_offs, .int c0_offAt, .int c0_offWho, .int c0_lastOff, .int c0_reason, .int c0_acts, .ref a0_can, .ref a0_fitting, .ref a0_wins, .ref a0_image, .ref a0_isKept])), (a0_sight, .inl (G.2.1, 40, .inl (upd c0_sight (s1).toNatClampNeg s2)))]) 1 rfl rfl hg1 dX12_seen_104 rfl rfl ?_
    refine z_aload_n h dX12_seen_105 0 rfl rfl ?_
    refine z_dup h dX12_seen_106 rfl rfl ?_
    refine z_get h (C := RX12) (T := TX12) (N := 17) (v := .int c0_sights) 0 rfl rfl 2 (by decide) (by decide +kernel) (by decide +kernel) rfl dX12_seen_107 rfl ?_
    refine z_iconst h (v := (1 : Int32)) dX12_seen_110 (by decide) rfl ?_
    refine z_iadd h dX12_seen_111 rfl ?_
    refine z_put h (C := RX12) (T := TX12) (N := 17) 0 rfl rfl 2 (by decide) (by decide +kernel) (by decide +kernel) tyX12 tyX12_ok nmX12 (w2 := [(a0, .inr (12, [.ref a0_book, .ref a0_now, .int (c0_sights + (1 : Int32)), .ref a0_sight, .int c0_signs, .ref a0_pad, .int c0_offs, .int c0_offAt, .int c0_offWho, .int c0_lastOff, .int c0_reason, .int c0_acts, .ref a0_can, .ref a0_fitting, .ref a0_wins, .ref a0_image, .ref a0_isKept])), (a0_sight, .inl (G.2.1, 40, .inl (upd c0_sight (s1).toNatClampNeg s2)))]) rfl rfl rfl (Nat.le_of_ble_eq_true rfl) rfl dX12_seen_112 rfl ?_
    refine z_aload_n h dX12_seen_115 0 rfl rfl ?_
    refine z_get h (C := RX12) (T := TX12) (N := 17) (v := .int (c0_sights + (1 : Int32))) 0 rfl rfl 2 (by decide) (by decide +kernel) (by decide +kernel) rfl dX12_seen_116 rfl ?_
    have hf := Option.some.inj hf
    subst hf
    exact hret _ _ _ _ dX12_seen_119 ⟨rfl, rfl⟩
  rw [fX12_seen] at hf
  show Z 0 0 _ [(0, .ref a0), (1, .int x1), (2, .int x2), (3, .int x3), (4, .int x4), (5, .int x5)] 0 []
  refine z_iload_n h dX12_seen_0 1 rfl rfl ?_
  refine z_iconst h (v := (1 : Int32)) dX12_seen_1 (by decide) rfl ?_
  refine z_bipush h (v := (9 : Int32)) dX12_seen_2 (by decide) rfl ?_
  obtain ⟨v2, hv2, hf⟩ := bd_some hf
  refine z_callS h (np := 3) (st := []) (wr := [(a0, .inr (12, [.ref a0_book, .ref a0_now, .int c0_sights, .ref a0_sight, .int c0_signs, .ref a0_pad, .int c0_offs, .int c0_offAt, .int c0_offWho, .int c0_lastOff, .int c0_reason, .int c0_acts, .ref a0_can, .ref a0_fitting, .ref a0_wins, .ref a0_image, .ref a0_isKept])), (a0_sight, .inl (G.2.1, 40, .inl c0_sight))]) [.int x1, .int (1 : Int32), .int (9 : Int32)] (ctX12_in l G x1 (1 : Int32) (9 : Int32) hv2) gX12_seen_X12_in (by decide +kernel) rfl ⟨Nat.le_of_ble_eq_true rfl, Nat.le_of_ble_eq_true rfl⟩ ⟨Nat.le_refl _, Nat.le_refl _⟩ rfl rfl rfl [] [0, 1] rfl rfl rfl rfl (by decide) (Nat.le_of_ble_eq_true rfl) dX12_seen_4 rfl rfl (fun rv2 wv2 hrv2 => ?_)
  obtain ⟨rfl, rfl⟩ := hrv2
  refine z_perm h (w2 := [(a0, .inr (12, [.ref a0_book, .ref a0_now, .int c0_sights, .ref a0_sight, .int c0_signs, .ref a0_pad, .int c0_offs, .int c0_offAt, .int c0_offWho, .int c0_lastOff, .int c0_reason, .int c0_acts, .ref a0_can, .ref a0_fitting, .ref a0_wins, .ref a0_image, .ref a0_isKept])), (a0_sight, .inl (G.2.1, 40, .inl c0_sight))]) (st := [.int v2]) [0, 1] rfl rfl ?_
  refine z_if_eq h (tgt := 38) dX12_seen_7 (by decide) rfl (fun c3 => ?_) (fun c3 => ?_)
  · have hf := ite_t hf c3
    refine z_locs h (lv2 := []) [] rfl ?_
    exact hB38 c0_sights c0_sight hf
  have hf := ite_f hf c3
  refine z_iload_n h dX12_seen_10 2 rfl rfl ?_
  refine z_iconst h (v := (0 : Int32)) dX12_seen_11 (by decide) rfl ?_
  refine z_iconst h (v := (3 : Int32)) dX12_seen_12 (by decide) rfl ?_
  obtain ⟨v4, hv4, hf⟩ := bd_some hf
  refine z_callS h (np := 3) (st := []) (wr := [(a0, .inr (12, [.ref a0_book, .ref a0_now, .int c0_sights, .ref a0_sight, .int c0_signs, .ref a0_pad, .int c0_offs, .int c0_offAt, .int c0_offWho, .int c0_lastOff, .int c0_reason, .int c0_acts, .ref a0_can, .ref a0_fitting, .ref a0_wins, .ref a0_image, .ref a0_isKept])), (a0_sight, .inl (G.2.1, 40, .inl c0_sight))]) [.int x2, .int (0 : Int32), .int (3 : Int32)] (ctX12_in l G x2 (0 : Int32) (3 : Int32) hv4) gX12_seen_X12_in (by decide +kernel) rfl ⟨Nat.le_of_ble_eq_true rfl, Nat.le_of_ble_eq_true rfl⟩ ⟨Nat.le_refl _, Nat.le_refl _⟩ rfl rfl rfl [] [0, 1] rfl rfl rfl rfl (by decide) (Nat.le_of_ble_eq_true rfl) dX12_seen_13 rfl rfl (fun rv4 wv4 hrv4 => ?_)
  obtain ⟨rfl, rfl⟩ := hrv4
  refine z_perm h (w2 := [(a0, .inr (12, [.ref a0_book, .ref a0_now, .int c0_sights, .ref a0_sight, .int c0_signs, .ref a0_pad, .int c0_offs, .int c0_offAt, .int c0_offWho, .int c0_lastOff, .int c0_reason, .int c0_acts, .ref a0_can, .ref a0_fitting, .ref a0_wins, .ref a0_image, .ref a0_isKept])), (a0_sight, .inl (G.2.1, 40, .inl c0_sight))]) (st := [.int v4]) [0, 1] rfl rfl ?_
  refine z_if_eq h (tgt := 38) dX12_seen_16 (by decide) rfl (fun c5 => ?_) (fun c5 => ?_)
  · have hf := ite_t hf c5
    refine z_locs h (lv2 := []) [] rfl ?_
    exact hB38 c0_sights c0_sight hf
  have hf := ite_f hf c5
  refine z_iload_n h dX12_seen_19 3 rfl rfl ?_
  refine z_iconst h (v := (0 : Int32)) dX12_seen_20 (by decide) rfl ?_
  refine z_iconst h (v := (3 : Int32)) dX12_seen_21 (by decide) rfl ?_
  obtain ⟨v6, hv6, hf⟩ := bd_some hf
  refine z_callS h (np := 3) (st := []) (wr := [(a0, .inr (12, [.ref a0_book, .ref a0_now, .int c0_sights, .ref a0_sight, .int c0_signs, .ref a0_pad, .int c0_offs, .int c0_offAt, .int c0_offWho, .int c0_lastOff, .int c0_reason, .int c0_acts, .ref a0_can, .ref a0_fitting, .ref a0_wins, .ref a0_image, .ref a0_isKept])), (a0_sight, .inl (G.2.1, 40, .inl c0_sight))]) [.int x3, .int (0 : Int32), .int (3 : Int32)] (ctX12_in l G x3 (0 : Int32) (3 : Int32) hv6) gX12_seen_X12_in (by decide +kernel) rfl ⟨Nat.le_of_ble_eq_true rfl, Nat.le_of_ble_eq_true rfl⟩ ⟨Nat.le_refl _, Nat.le_refl _⟩ rfl rfl rfl [] [0, 1] rfl rfl rfl rfl (by decide) (Nat.le_of_ble_eq_true rfl) dX12_seen_22 rfl rfl (fun rv6 wv6 hrv6 => ?_)
  obtain ⟨rfl, rfl⟩ := hrv6
  refine z_perm h (w2 := [(a0, .inr (12, [.ref a0_book, .ref a0_now, .int c0_sights, .ref a0_sight, .int c0_signs, .ref a0_pad, .int c0_offs, .int c0_offAt, .int c0_offWho, .int c0_lastOff, .int c0_reason, .int c0_acts, .ref a0_can, .ref a0_fitting, .ref a0_wins, .ref a0_image, .ref a0_isKept])), (a0_sight, .inl (G.2.1, 40, .inl c0_sight))]) (st := [.int v6]) [0, 1] rfl rfl ?_
  refine z_if_eq h (tgt := 38) dX12_seen_25 (by decide) rfl (fun c7 => ?_) (fun c7 => ?_)
  · have hf := ite_t hf c7
    refine z_locs h (lv2 := []) [] rfl ?_
    exact hB38 c0_sights c0_sight hf
  have hf := ite_f hf c7
  refine z_iload h dX12_seen_28 4 rfl rfl ?_
  refine z_iconst h (v := (0 : Int32)) dX12_seen_30 (by decide) rfl ?_
  refine z_iconst h (v := (3 : Int32)) dX12_seen_31 (by decide) rfl ?_
  obtain ⟨v8, hv8, hf⟩ := bd_some hf
  refine z_callS h (np := 3) (st := []) (wr := [(a0, .inr (12, [.ref a0_book, .ref a0_now, .int c0_sights, .ref a0_sight, .int c0_signs, .ref a0_pad, .int c0_offs, .int c0_offAt, .int c0_offWho, .int c0_lastOff, .int c0_reason, .int c0_acts, .ref a0_can, .ref a0_fitting, .ref a0_wins, .ref a0_image, .ref a0_isKept])), (a0_sight, .inl (G.2.1, 40, .inl c0_sight))]) [.int x4, .int (0 : Int32), .int (3 : Int32)] (ctX12_in l G x4 (0 : Int32) (3 : Int32) hv8) gX12_seen_X12_in (by decide +kernel) rfl ⟨Nat.le_of_ble_eq_true rfl, Nat.le_of_ble_eq_true rfl⟩ ⟨Nat.le_refl _, Nat.le_refl _⟩ rfl rfl rfl [] [0, 1] rfl rfl rfl rfl (by decide) (Nat.le_of_ble_eq_true rfl) dX12_seen_32 rfl rfl (fun rv8 wv8 hrv8 => ?_)
  obtain ⟨rfl, rfl⟩ := hrv8
  refine z_perm h (w2 := [(a0, .inr (12, [.ref a0_book, .ref a0_now, .int c0_sights, .ref a0_sight, .int c0_signs, .ref a0_pad, .int c0_offs, .int c0_offAt, .int c0_offWho, .int c0_lastOff, .int c0_reason, .int c0_acts, .ref a0_can, .ref a0_fitting, .ref a0_wins, .ref a0_image, .ref a0_isKept])), (a0_sight, .inl (G.2.1, 40, .inl c0_sight))]) (st := [.int v8]) [0, 1] rfl rfl ?_
  refine z_if_ne h (tgt := 41) dX12_seen_35 (by decide) rfl (fun c9 => ?_) (fun c9 => ?_)
  · have hf := ite_f hf c9
    refine z_aload_n h dX12_seen_41 0 rfl rfl ?_
    refine z_get h (C := RX12) (T := TX12) (N := 17) (v := .int c0_sights) 0 rfl rfl 2 (by decide) (by decide +kernel) (by decide +kernel) rfl dX12_seen_42 rfl ?_
    refine z_bipush h (v := (8 : Int32)) dX12_seen_45 (by decide) rfl ?_
    refine z_icmp_ne h (tgt := 53) dX12_seen_47 (by decide) rfl (fun c10 => ?_) (fun c10 => ?_)
    · have hf := ite_f hf c10
      refine z_aload_n h dX12_seen_53 0 rfl rfl ?_
      refine z_get h (C := RX12) (T := TX12) (N := 17) (v := .ref a0_sight) 0 rfl rfl 3 (by decide) (by decide +kernel) (by decide +kernel) rfl dX12_seen_54 rfl ?_
      refine z_iconst h (v := (2 : Int32)) dX12_seen_57 (by decide) rfl ?_
      refine z_aload_n h dX12_seen_58 0 rfl rfl ?_
      refine z_get h (C := RX12) (T := TX12) (N := 17) (v := .int c0_sights) 0 rfl rfl 2 (by decide) (by decide +kernel) (by decide +kernel) rfl dX12_seen_59 rfl ?_
      refine z_imul h dX12_seen_62 rfl ?_
      refine z_sipush h (v := (1000 : Int32)) dX12_seen_63 (by decide) rfl ?_
      refine z_iload_n h dX12_seen_66 1 rfl rfl ?_
      refine z_imul h dX12_seen_67 rfl ?_
      refine z_bipush h (v := (100 : Int32)) dX12_seen_68 (by decide) rfl ?_
      refine z_iload_n h dX12_seen_70 2 rfl rfl ?_
      refine z_imul h dX12_seen_71 rfl ?_
      refine z_iadd h dX12_seen_72 rfl ?_
      refine z_bipush h (v := (10 : Int32)) dX12_seen_73 (by decide) rfl ?_
      refine z_iload_n h dX12_seen_75 3 rfl rfl ?_
      refine z_imul h dX12_seen_76 rfl ?_
      refine z_iadd h dX12_seen_77 rfl ?_
      refine z_iload h dX12_seen_78 4 rfl rfl ?_
      refine z_iadd h dX12_seen_80 rfl ?_
      obtain ⟨hg11, hf⟩ := gd_some hf
      refine z_iast h (w2 := [(a0, .inr (12, [.ref a0_book, .ref a0_now, .int c0_sights, .ref a0_sight, .int c0_signs, .ref a0_pad, .int c0_offs, .int c0_offAt, .int c0_offWho, .int c0_lastOff, .int c0_reason, .int c0_acts, .ref a0_can, .ref a0_fitting, .ref a0_wins, .ref a0_image, .ref a0_isKept])), (a0_sight, .inl (G.2.1, 40, .inl (upd c0_sight (((2 : Int32) * c0_sights)).toNatClampNeg (((((1000 : Int32) * x1) + ((100 : Int32) * x2)) + ((10 : Int32) * x3)) + x4))))]) 1 rfl rfl hg11 dX12_seen_81 rfl rfl ?_
      refine z_aload_n h dX12_seen_82 0 rfl rfl ?_
      refine z_get h (C := RX12) (T := TX12) (N := 17) (v := .ref a0_sight) 0 rfl rfl 3 (by decide) (by decide +kernel) (by decide +kernel) rfl dX12_seen_83 rfl ?_
      refine z_iconst h (v := (2 : Int32)) dX12_seen_86 (by decide) rfl ?_
      refine z_aload_n h dX12_seen_87 0 rfl rfl ?_
      refine z_get h (C := RX12) (T := TX12) (N := 17) (v := .int c0_sights) 0 rfl rfl 2 (by decide) (by decide +kernel) (by decide +kernel) rfl dX12_seen_88 rfl ?_
      refine z_imul h dX12_seen_91 rfl ?_
      refine z_iconst h (v := (1 : Int32)) dX12_seen_92 (by decide) rfl ?_
      refine z_iadd h dX12_seen_93 rfl ?_
      refine z_iload h dX12_seen_94 5 rfl rfl ?_
      refine z_if_eq h (tgt := 103) dX12_seen_96 (by decide) rfl (fun c12 => ?_) (fun c12 => ?_)
      · have hf := ite_t hf c12
        refine z_iconst h (v := (0 : Int32)) dX12_seen_103 (by decide) rfl ?_
        refine z_locs h (lv2 := [(0, .ref a0)]) [0] rfl ?_
        exact hB104 c0_sights (upd c0_sight (((2 : Int32) * c0_sights)).toNatClampNeg (((((1000 : Int32) * x1) + ((100 : Int32) * x2)) + ((10 : Int32) * x3)) + x4)) (((2 : Int32) * c0_sights) + (1 : Int32)) (0 : Int32) hf
      have hf := ite_f hf c12
      refine z_iconst h (v := (1 : Int32)) dX12_seen_99 (by decide) rfl ?_
      refine z_goto h (tgt := 104) dX12_seen_100 (by decide) ?_
      refine z_locs h (lv2 := [(0, .ref a0)]) [0] rfl ?_
      exact hB104 c0_sights (upd c0_sight (((2 : Int32) * c0_sights)).toNatClampNeg (((((1000 : Int32) * x1) + ((100 : Int32) * x2)) + ((10 : Int32) * x3)) + x4)) (((2 : Int32) * c0_sights) + (1 : Int32)) (1 : Int32) hf
    have hf := ite_t hf c10
    refine z_bipush h (v := (-4 : Int32)) dX12_seen_50 (by decide) rfl ?_
    have hf := Option.some.inj hf
    subst hf
    exact hret _ _ _ _ dX12_seen_52 ⟨rfl, rfl⟩
  have hf := ite_t hf c9
  refine z_locs h (lv2 := []) [] rfl ?_
  exact hB38 c0_sights c0_sight hf
def fX12_forget (c0_sights : Int32)  : Option (Int32 × Int32) := (some (c0_sights, (0 : Int32)))
abbrev rmX12_forget : Room := { frames := 0, cells := 0, slots := 0, locals := 0 }
set_option maxRecDepth 100000 in
set_option maxHeartbeats 4000000 in
theorem ctX12_forget (l : Launch) (G : zG) (a0 a0_book a0_now a0_sight a0_pad a0_can a0_fitting a0_wins a0_image a0_isKept : Nat) (c0_sights : Int32) (c0_signs : Int32) (c0_offs : Int32) (c0_offAt : Int32) (c0_offWho : Int32) (c0_lastOff : Int32) (c0_reason : Int32) (c0_acts : Int32)  {R : Int32 × Int32} (hf : fX12_forget c0_sights = some R) : zCt l yX12_forget wsX12_forget rmX12_forget G [(a0, .inr (12, [.ref a0_book, .ref a0_now, .int c0_sights, .ref a0_sight, .int c0_signs, .ref a0_pad, .int c0_offs, .int c0_offAt, .int c0_offWho, .int c0_lastOff, .int c0_reason, .int c0_acts, .ref a0_can, .ref a0_fitting, .ref a0_wins, .ref a0_image, .ref a0_isKept]))] [.ref a0] (fun v w => v = some (.int (R.1)) ∧ w = [(a0, .inr (12, [.ref a0_book, .ref a0_now, .int (R.2), .ref a0_sight, .int c0_signs, .ref a0_pad, .int c0_offs, .int c0_offAt, .int c0_offWho, .int c0_lastOff, .int c0_reason, .int c0_acts, .ref a0_can, .ref a0_fitting, .ref a0_wins, .ref a0_image, .ref a0_isKept]))]) := by
  refine zMkI (own := RX12) false (by decide) (by decide +kernel) rfl rfl (Nat.le_of_ble_eq_true rfl) ?_
  intro Z h hret
  rw [fX12_forget] at hf
  show Z 0 0 _ [(0, .ref a0)] 0 []
  refine z_aload_n h dX12_forget_0 0 rfl rfl ?_
  refine z_get h (C := RX12) (T := TX12) (N := 17) (v := .int c0_sights) 0 rfl rfl 2 (by decide) (by decide +kernel) (by decide +kernel) rfl dX12_forget_1 rfl ?_
  refine z_istore_n h (lv2 := [(1, .int c0_sights), (0, .ref a0)]) dX12_forget_4 (by decide) rfl rfl ?_
  refine z_aload_n h dX12_forget_5 1 rfl rfl ?_
  refine z_iconst h (v := (0 : Int32)) dX12_forget_6 (by decide) rfl ?_
  refine z_put h (C := RX12) (T := TX12) (N := 17) 0 rfl rfl 2 (by decide) (by decide +kernel) (by decide +kernel) tyX12 tyX12_ok nmX12 (w2 := [(a0, .inr (12, [.ref a0_book, .ref a0_now, .int (0 : Int32), .ref a0_sight, .int c0_signs, .ref a0_pad, .int c0_offs, .int c0_offAt, .int c0_offWho, .int c0_lastOff, .int c0_reason, .int c0_acts, .ref a0_can, .ref a0_fitting, .ref a0_wins, .ref a0_image, .ref a0_isKept]))]) rfl rfl rfl (Nat.le_of_ble_eq_true rfl) rfl dX12_forget_7 rfl ?_
  refine z_iload_n h dX12_forget_10 0 rfl rfl ?_
  have hf := Option.some.inj hf
  subst hf
  exact hret _ _ _ _ dX12_forget_11 ⟨rfl, rfl⟩
def fX12_isEnough_b53 (x0 : Int32) (x1 : Int32)  (s0 : Int32) : Option (Int32) := gd (s0 == 0 || s0 == 1) ((some s0))
def fX12_isEnough  (x0 : Int32) (x1 : Int32) : Option (Int32) := (if ((((x0 / (100 : Int32)) * (irm (x1 / (100 : Int32)) (10 : Int32))) + ((irm (x0 / (10 : Int32)) (10 : Int32)) * (irm (x1 / (10 : Int32)) (10 : Int32)))) + ((irm x0 (10 : Int32)) * (irm x1 (10 : Int32)))) < (x1 / (1000 : Int32)) then (fX12_isEnough_b53 x0 x1  (0 : Int32)) else (fX12_isEnough_b53 x0 x1  (1 : Int32)))
abbrev rmX12_isEnough : Room := { frames := 0, cells := 0, slots := 0, locals := 0 }
set_option maxRecDepth 100000 in
set_option maxHeartbeats 4000000 in
theorem ctX12_isEnough (l : Launch) (G : zG)  (x0 : Int32) (x1 : Int32) {R : Int32} (hf : fX12_isEnough x0 x1 = some R) : zCt l yX12_isEnough wsX12_isEnough rmX12_isEnough G [] [.int x0, .int x1] (fun v w => v = some (.int (R)) ∧ w = []) := by
  refine zMkB (own := RX12) false (by decide) (by decide +kernel) rfl rfl (Nat.le_of_ble_eq_true rfl) ?_
  intro Z h hret
  have hB53 : ∀ (s0 : Int32), fX12_isEnough_b53 x0 x1  s0 = some R → Z 0 0 [] [] 53 [.int s0] := by
    intro s0 hf
    rw [fX12_isEnough_b53] at hf
    obtain ⟨hg1, hf⟩ := gd_some hf
    have hf := Option.some.inj hf
    subst hf
    exact hret _ _ _ _ dX12_isEnough_53 hg1 ⟨rfl, rfl⟩
  rw [fX12_isEnough] at hf
  show Z 0 0 _ [(0, .int x0), (1, .int x1)] 0 []
  refine z_iload_n h dX12_isEnough_0 0 rfl rfl ?_
  refine z_bipush h (v := (100 : Int32)) dX12_isEnough_1 (by decide) rfl ?_
  refine z_idiv h dX12_isEnough_3 (by decide) rfl ?_
  refine z_iload_n h dX12_isEnough_4 1 rfl rfl ?_
  refine z_bipush h (v := (100 : Int32)) dX12_isEnough_5 (by decide) rfl ?_
  refine z_idiv h dX12_isEnough_7 (by decide) rfl ?_
  refine z_bipush h (v := (10 : Int32)) dX12_isEnough_8 (by decide) rfl ?_
  refine z_irem h dX12_isEnough_10 (by decide) rfl ?_
  refine z_imul h dX12_isEnough_11 rfl ?_
  refine z_iload_n h dX12_isEnough_12 0 rfl rfl ?_
  refine z_bipush h (v := (10 : Int32)) dX12_isEnough_13 (by decide) rfl ?_
  refine z_idiv h dX12_isEnough_15 (by decide) rfl ?_
  refine z_bipush h (v := (10 : Int32)) dX12_isEnough_16 (by decide) rfl ?_
  refine z_irem h dX12_isEnough_18 (by decide) rfl ?_
  refine z_iload_n h dX12_isEnough_19 1 rfl rfl ?_
  refine z_bipush h (v := (10 : Int32)) dX12_isEnough_20 (by decide) rfl ?_
  refine z_idiv h dX12_isEnough_22 (by decide) rfl ?_
  refine z_bipush h (v := (10 : Int32)) dX12_isEnough_23 (by decide) rfl ?_
  refine z_irem h dX12_isEnough_25 (by decide) rfl ?_
  refine z_imul h dX12_isEnough_26 rfl ?_
  refine z_iadd h dX12_isEnough_27 rfl ?_
  refine z_iload_n h dX12_isEnough_28 0 rfl rfl ?_
  refine z_bipush h (v := (10 : Int32)) dX12_isEnough_29 (by decide) rfl ?_
  refine z_irem h dX12_isEnough_31 (by decide) rfl ?_
  refine z_iload_n h dX12_isEnough_32 1 rfl rfl ?_
  refine z_bipush h (v := (10 : Int32)) dX12_isEnough_33 (by decide) rfl ?_
  refine z_irem h dX12_isEnough_35 (by decide) rfl ?_
  refine z_imul h dX12_isEnough_36 rfl ?_
  refine z_iadd h dX12_isEnough_37 rfl ?_
  refine z_istore_n h (lv2 := [(2, .int ((((x0 / (100 : Int32)) * (irm (x1 / (100 : Int32)) (10 : Int32))) + ((irm (x0 / (10 : Int32)) (10 : Int32)) * (irm (x1 / (10 : Int32)) (10 : Int32)))) + ((irm x0 (10 : Int32)) * (irm x1 (10 : Int32))))), (0, .int x0), (1, .int x1)]) dX12_isEnough_38 (by decide) rfl rfl ?_
  refine z_iload_n h dX12_isEnough_39 0 rfl rfl ?_
  refine z_iload_n h dX12_isEnough_40 2 rfl rfl ?_
  refine z_sipush h (v := (1000 : Int32)) dX12_isEnough_41 (by decide) rfl ?_
  refine z_idiv h dX12_isEnough_44 (by decide) rfl ?_
  refine z_icmp_lt h (tgt := 52) dX12_isEnough_45 (by decide) rfl (fun c2 => ?_) (fun c2 => ?_)
  · have hf := ite_t hf c2
    refine z_iconst h (v := (0 : Int32)) dX12_isEnough_52 (by decide) rfl ?_
    refine z_locs h (lv2 := []) [] rfl ?_
    exact hB53 (0 : Int32) hf
  have hf := ite_f hf c2
  refine z_iconst h (v := (1 : Int32)) dX12_isEnough_48 (by decide) rfl ?_
  refine z_goto h (tgt := 53) dX12_isEnough_49 (by decide) ?_
  refine z_locs h (lv2 := []) [] rfl ?_
  exact hB53 (1 : Int32) hf
def fX12_isFit_b93 (c0_sights : Int32) (c0_sight : Nat → Int32) (x1 : Int32)  (x2 : Int32) : Option (Int32) := gd (x2 == 0 || x2 == 1) ((some x2))
def fX12_isFit_b86 (c0_sights : Int32) (c0_sight : Nat → Int32) (x1 : Int32) (K35 : (Int32 → Int32 → Option (Int32))) (x3 : Int32) (s0 : Int32) : Option (Int32) := (K35 s0 (x3 + (1 : Int32)))
def fX12_isFit_b78 (c0_sights : Int32) (c0_sight : Nat → Int32) (x1 : Int32) (K35 : (Int32 → Int32 → Option (Int32))) (x3 : Int32) (s0 : Int32) (s1 : Int32) : Option (Int32) := (if s0 = s1 then (fX12_isFit_b86 c0_sights c0_sight x1 K35 x3 (1 : Int32)) else (fX12_isFit_b86 c0_sights c0_sight x1 K35 x3 (0 : Int32)))
def fX12_isFit_L35 (c0_sights : Int32) (c0_sight : Nat → Int32) (x1 : Int32)  : Nat → Int32 → Int32 → Option (Int32)
  | 0, _, _ => none
  | n + 1, x2, x3 => (if c0_sights ≤ x3 then (fX12_isFit_b93 c0_sights c0_sight x1  x2) else (if x2 = (0 : Int32) then (fX12_isFit_b93 c0_sights c0_sight x1  x2) else gd (inb ((2 : Int32) * x3) 40) (Option.bind (fX12_isEnough x1 (c0_sight (((2 : Int32) * x3)).toNatClampNeg)) (fun v6 => gd (inb (((2 : Int32) * x3) + (1 : Int32)) 40) ((if (c0_sight ((((2 : Int32) * x3) + (1 : Int32))).toNatClampNeg) = (1 : Int32) then (fX12_isFit_b78 c0_sights c0_sight x1 (fX12_isFit_L35 c0_sights c0_sight x1  n) x3 v6 (1 : Int32)) else (fX12_isFit_b78 c0_sights c0_sight x1 (fX12_isFit_L35 c0_sights c0_sight x1  n) x3 v6 (0 : Int32))))))))
def fX12_isFit_b32 (c0_sights : Int32) (c0_sight : Nat → Int32) (x1 : Int32)  (s0 : Int32) : Option (Int32) := (fX12_isFit_L35 c0_sights c0_sight x1  zF s0 (0 : Int32))
def fX12_isFit_b31 (c0_sights : Int32) (c0_sight : Nat → Int32) (x1 : Int32)   : Option (Int32) := (fX12_isFit_b32 c0_sights c0_sight x1  (0 : Int32))
def fX12_isFit (c0_sights : Int32) (c0_sight : Nat → Int32) (x1 : Int32) : Option (Int32) := (if (4 : Int32) ≤ (x1 / (100 : Int32)) then (fX12_isFit_b31 c0_sights c0_sight x1  ) else (if (4 : Int32) ≤ (irm (x1 / (10 : Int32)) (10 : Int32)) then (fX12_isFit_b31 c0_sights c0_sight x1  ) else (if (4 : Int32) ≤ (irm x1 (10 : Int32)) then (fX12_isFit_b31 c0_sights c0_sight x1  ) else (fX12_isFit_b32 c0_sights c0_sight x1  (1 : Int32)))))
abbrev rmX12_isFit : Room := { frames := 1, cells := 0, slots := 0, locals := 22 }
set_option maxRecDepth 100000 in
set_option maxHeartbeats 4000000 in
theorem ctX12_isFit (l : Launch) (G : zG) (a0 a0_book a0_now a0_sight a0_pad a0_can a0_fitting a0_wins a0_image a0_isKept : Nat) (c0_sights : Int32) (c0_signs : Int32) (c0_offs : Int32) (c0_offAt : Int32) (c0_offWho : Int32) (c0_lastOff : Int32) (c0_reason : Int32) (c0_acts : Int32) (c0_sight : Nat → Int32) (x1 : Int32) {R : Int32} (hf : fX12_isFit c0_sights c0_sight x1 = some R) : zCt l yX12_isFit wsX12_isFit rmX12_isFit G [(a0, .inr (12, [.ref a0_book, .ref a0_now, .int c0_sights, .ref a0_sight, .int c0_signs, .ref a0_pad, .int c0_offs, .int c0_offAt, .int c0_offWho, .int c0_lastOff, .int c0_reason, .int c0_acts, .ref a0_can, .ref a0_fitting, .ref a0_wins, .ref a0_image, .ref a0_isKept])), (a0_sight, .inl (G.2.1, 40, .inl c0_sight))] [.ref a0, .int x1] (fun v w => v = some (.int (R)) ∧ w = [(a0, .inr (12, [.ref a0_book, .ref a0_now, .int c0_sights, .ref a0_sight, .int c0_signs, .ref a0_pad, .int c0_offs, .int c0_offAt, .int c0_offWho, .int c0_lastOff, .int c0_reason, .int c0_acts, .ref a0_can, .ref a0_fitting, .ref a0_wins, .ref a0_image, .ref a0_isKept])), (a0_sight, .inl (G.2.1, 40, .inl c0_sight))]) := by
  refine zMkB (own := RX12) false (by decide) (by decide +kernel) rfl rfl (Nat.le_of_ble_eq_true rfl) ?_
  intro Z h hret
  have hB93 : ∀ (x2 : Int32), fX12_isFit_b93 c0_sights c0_sight x1  x2 = some R → Z 0 0 [(a0, .inr (12, [.ref a0_book, .ref a0_now, .int c0_sights, .ref a0_sight, .int c0_signs, .ref a0_pad, .int c0_offs, .int c0_offAt, .int c0_offWho, .int c0_lastOff, .int c0_reason, .int c0_acts, .ref a0_can, .ref a0_fitting, .ref a0_wins, .ref a0_image, .ref a0_isKept])), (a0_sight, .inl (G.2.1, 40, .inl c0_sight))] [(2, .int x2)] 93 [] := by
    intro x2 hf
    rw [fX12_isFit_b93] at hf
    refine z_iload_n h dX12_isFit_93 0 rfl rfl ?_
    obtain ⟨hg1, hf⟩ := gd_some hf
    have hf := Option.some.inj hf
    subst hf
    exact hret _ _ _ _ dX12_isFit_94 hg1 ⟨rfl, rfl⟩
  have hL35 : ∀ (n35 : Nat) (x2 : Int32) (x3 : Int32), fX12_isFit_L35 c0_sights c0_sight x1  n35 x2 x3 = some R → Z 0 0 [(a0, .inr (12, [.ref a0_book, .ref a0_now, .int c0_sights, .ref a0_sight, .int c0_signs, .ref a0_pad, .int c0_offs, .int c0_offAt, .int c0_offWho, .int c0_lastOff, .int c0_reason, .int c0_acts, .ref a0_can, .ref a0_fitting, .ref a0_wins, .ref a0_image, .ref a0_isKept])), (a0_sight, .inl (G.2.1, 40, .inl c0_sight))] [(0, .ref a0), (1, .int x1), (2, .int x2), (3, .int x3)] 35 [] := by
    intro n35
    induction n35 with
    | zero =>
      intro x2 x3 hf
      rw [fX12_isFit_L35] at hf
      cases hf
    | succ n35 ih35 =>
      have hB86 : ∀ (x3 : Int32) (s0 : Int32), fX12_isFit_b86 c0_sights c0_sight x1 (fX12_isFit_L35 c0_sights c0_sight x1  n35) x3 s0 = some R → Z 0 0 [(a0, .inr (12, [.ref a0_book, .ref a0_now, .int c0_sights, .ref a0_sight, .int c0_signs, .ref a0_pad, .int c0_offs, .int c0_offAt, .int c0_offWho, .int c0_lastOff, .int c0_reason, .int c0_acts, .ref a0_can, .ref a0_fitting, .ref a0_wins, .ref a0_image, .ref a0_isKept])), (a0_sight, .inl (G.2.1, 40, .inl c0_sight))] [(0, .ref a0), (1, .int x1), (3, .int x3)] 86 [.int s0] := by
        intro x3 s0 hf
        rw [fX12_isFit_b86] at hf
        refine z_istore_n h (lv2 := [(2, .int s0), (0, .ref a0), (1, .int x1), (3, .int x3)]) dX12_isFit_86 (by decide) rfl rfl ?_
        refine z_iinc h (v := (x3 + (1 : Int32))) (lv2 := [(3, .int (x3 + (1 : Int32))), (2, .int s0), (0, .ref a0), (1, .int x1)]) (j := 3) dX12_isFit_87 rfl rfl (by decide) rfl rfl ?_
        refine z_goto h (tgt := 35) dX12_isFit_90 (by decide) ?_
        refine z_locs h (lv2 := [(0, .ref a0), (1, .int x1), (2, .int s0), (3, .int (x3 + (1 : Int32)))]) [2, 3, 1, 0] rfl ?_
        exact ih35 s0 (x3 + (1 : Int32)) hf
      have hB78 : ∀ (x3 : Int32) (s0 : Int32) (s1 : Int32), fX12_isFit_b78 c0_sights c0_sight x1 (fX12_isFit_L35 c0_sights c0_sight x1  n35) x3 s0 s1 = some R → Z 0 0 [(a0, .inr (12, [.ref a0_book, .ref a0_now, .int c0_sights, .ref a0_sight, .int c0_signs, .ref a0_pad, .int c0_offs, .int c0_offAt, .int c0_offWho, .int c0_lastOff, .int c0_reason, .int c0_acts, .ref a0_can, .ref a0_fitting, .ref a0_wins, .ref a0_image, .ref a0_isKept])), (a0_sight, .inl (G.2.1, 40, .inl c0_sight))] [(0, .ref a0), (1, .int x1), (3, .int x3)] 78 [.int s1, .int s0] := by
        intro x3 s0 s1 hf
        rw [fX12_isFit_b78] at hf
        refine z_icmp_ne h (tgt := 85) dX12_isFit_78 (by decide) rfl (fun c2 => ?_) (fun c2 => ?_)
        · have hf := ite_f hf c2
          refine z_iconst h (v := (0 : Int32)) dX12_isFit_85 (by decide) rfl ?_
          exact hB86 x3 (0 : Int32) hf
        have hf := ite_t hf c2
        refine z_iconst h (v := (1 : Int32)) dX12_isFit_81 (by decide) rfl ?_
        refine z_goto h (tgt := 86) dX12_isFit_82 (by decide) ?_
        exact hB86 x3 (1 : Int32) hf
      intro x2 x3 hf
      rw [fX12_isFit_L35] at hf
      refine z_iload_n h dX12_isFit_35 3 rfl rfl ?_
      refine z_aload_n h dX12_isFit_36 0 rfl rfl ?_
      refine z_get h (C := RX12) (T := TX12) (N := 17) (v := .int c0_sights) 0 rfl rfl 2 (by decide) (by decide +kernel) (by decide +kernel) rfl dX12_isFit_37 rfl ?_
      refine z_icmp_ge h (tgt := 93) dX12_isFit_40 (by decide) rfl (fun c3 => ?_) (fun c3 => ?_)
      · have hf := ite_t hf c3
        refine z_locs h (lv2 := [(2, .int x2)]) [2] rfl ?_
        exact hB93 x2 hf
      have hf := ite_f hf c3
      refine z_iload_n h dX12_isFit_43 2 rfl rfl ?_
      refine z_if_eq h (tgt := 93) dX12_isFit_44 (by decide) rfl (fun c4 => ?_) (fun c4 => ?_)
      · have hf := ite_t hf c4
        refine z_locs h (lv2 := [(2, .int x2)]) [2] rfl ?_
        exact hB93 x2 hf
      have hf := ite_f hf c4
      refine z_iload_n h dX12_isFit_47 1 rfl rfl ?_
      refine z_aload_n h dX12_isFit_48 0 rfl rfl ?_
      refine z_get h (C := RX12) (T := TX12) (N := 17) (v := .ref a0_sight) 0 rfl rfl 3 (by decide) (by decide +kernel) (by decide +kernel) rfl dX12_isFit_49 rfl ?_
      refine z_iconst h (v := (2 : Int32)) dX12_isFit_52 (by decide) rfl ?_
      refine z_iload_n h dX12_isFit_53 3 rfl rfl ?_
      refine z_imul h dX12_isFit_54 rfl ?_
      obtain ⟨hg5, hf⟩ := gd_some hf
      refine z_iald h 1 rfl rfl hg5 dX12_isFit_55 rfl ?_
      obtain ⟨v6, hv6, hf⟩ := bd_some hf
      refine z_callS h (np := 2) (st := []) (wr := [(a0, .inr (12, [.ref a0_book, .ref a0_now, .int c0_sights, .ref a0_sight, .int c0_signs, .ref a0_pad, .int c0_offs, .int c0_offAt, .int c0_offWho, .int c0_lastOff, .int c0_reason, .int c0_acts, .ref a0_can, .ref a0_fitting, .ref a0_wins, .ref a0_image, .ref a0_isKept])), (a0_sight, .inl (G.2.1, 40, .inl c0_sight))]) [.int x1, .int (c0_sight (((2 : Int32) * x3)).toNatClampNeg)] (ctX12_isEnough l G x1 (c0_sight (((2 : Int32) * x3)).toNatClampNeg) hv6) gX12_isFit_X12_isEnough (by decide +kernel) rfl ⟨Nat.le_of_ble_eq_true rfl, Nat.le_of_ble_eq_true rfl⟩ ⟨Nat.le_refl _, Nat.le_refl _⟩ rfl rfl rfl [] [0, 1] rfl rfl rfl rfl (by decide) (Nat.le_of_ble_eq_true rfl) dX12_isFit_56 rfl rfl (fun rv6 wv6 hrv6 => ?_)
      obtain ⟨rfl, rfl⟩ := hrv6
      refine z_perm h (w2 := [(a0, .inr (12, [.ref a0_book, .ref a0_now, .int c0_sights, .ref a0_sight, .int c0_signs, .ref a0_pad, .int c0_offs, .int c0_offAt, .int c0_offWho, .int c0_lastOff, .int c0_reason, .int c0_acts, .ref a0_can, .ref a0_fitting, .ref a0_wins, .ref a0_image, .ref a0_isKept])), (a0_sight, .inl (G.2.1, 40, .inl c0_sight))]) (st := [.int v6]) [0, 1] rfl rfl ?_
      refine z_aload_n h dX12_isFit_59 0 rfl rfl ?_
      refine z_get h (C := RX12) (T := TX12) (N := 17) (v := .ref a0_sight) 0 rfl rfl 3 (by decide) (by decide +kernel) (by decide +kernel) rfl dX12_isFit_60 rfl ?_
      refine z_iconst h (v := (2 : Int32)) dX12_isFit_63 (by decide) rfl ?_
      refine z_iload_n h dX12_isFit_64 3 rfl rfl ?_
      refine z_imul h dX12_isFit_65 rfl ?_
      refine z_iconst h (v := (1 : Int32)) dX12_isFit_66 (by decide) rfl ?_
      refine z_iadd h dX12_isFit_67 rfl ?_
      obtain ⟨hg7, hf⟩ := gd_some hf
      refine z_iald h 1 rfl rfl hg7 dX12_isFit_68 rfl ?_
      refine z_iconst h (v := (1 : Int32)) dX12_isFit_69 (by decide) rfl ?_
      refine z_icmp_ne h (tgt := 77) dX12_isFit_70 (by decide) rfl (fun c8 => ?_) (fun c8 => ?_)
      · have hf := ite_f hf c8
        refine z_iconst h (v := (0 : Int32)) dX12_isFit_77 (by decide) rfl ?_
        refine z_locs h (lv2 := [(0, .ref a0), (1, .int x1), (3, .int x3)]) [0, 1, 3] rfl ?_
        exact hB78 x3 v6 (0 : Int32) hf
      have hf := ite_t hf c8
      refine z_iconst h (v := (1 : Int32)) dX12_isFit_73 (by decide) rfl ?_
      refine z_goto h (tgt := 78) dX12_isFit_74 (by decide) ?_
      refine z_locs h (lv2 := [(0, .ref a0), (1, .int x1), (3, .int x3)]) [0, 1, 3] rfl ?_
      exact hB78 x3 v6 (1 : Int32) hf
  have hB32 : ∀ (s0 : Int32), fX12_isFit_b32 c0_sights c0_sight x1  s0 = some R → Z 0 0 [(a0, .inr (12, [.ref a0_book, .ref a0_now, .int c0_sights, .ref a0_sight, .int c0_signs, .ref a0_pad, .int c0_offs, .int c0_offAt, .int c0_offWho, .int c0_lastOff, .int c0_reason, .int c0_acts, .ref a0_can, .ref a0_fitting, .ref a0_wins, .ref a0_image, .ref a0_isKept])), (a0_sight, .inl (G.2.1, 40, .inl c0_sight))] [(0, .ref a0), (1, .int x1)] 32 [.int s0] := by
    intro s0 hf
    rw [fX12_isFit_b32] at hf
    refine z_istore_n h (lv2 := [(2, .int s0), (0, .ref a0), (1, .int x1)]) dX12_isFit_32 (by decide) rfl rfl ?_
    refine z_iconst h (v := (0 : Int32)) dX12_isFit_33 (by decide) rfl ?_
    refine z_istore_n h (lv2 := [(3, .int (0 : Int32)), (2, .int s0), (0, .ref a0), (1, .int x1)]) dX12_isFit_34 (by decide) rfl rfl ?_
    refine z_locs h (lv2 := [(0, .ref a0), (1, .int x1), (2, .int s0), (3, .int (0 : Int32))]) [2, 3, 1, 0] rfl ?_
    exact hL35 zF s0 (0 : Int32) hf
  have hB31 : fX12_isFit_b31 c0_sights c0_sight x1   = some R → Z 0 0 [(a0, .inr (12, [.ref a0_book, .ref a0_now, .int c0_sights, .ref a0_sight, .int c0_signs, .ref a0_pad, .int c0_offs, .int c0_offAt, .int c0_offWho, .int c0_lastOff, .int c0_reason, .int c0_acts, .ref a0_can, .ref a0_fitting, .ref a0_wins, .ref a0_image, .ref a0_isKept])), (a0_sight, .inl (G.2.1, 40, .inl c0_sight))] [(0, .ref a0), (1, .int x1)] 31 [] := by
    intro hf
    rw [fX12_isFit_b31] at hf
    refine z_iconst h (v := (0 : Int32)) dX12_isFit_31 (by decide) rfl ?_
    exact hB32 (0 : Int32) hf
  rw [fX12_isFit] at hf
  show Z 0 0 _ [(0, .ref a0), (1, .int x1)] 0 []
  refine z_iload_n h dX12_isFit_0 1 rfl rfl ?_
  refine z_bipush h (v := (100 : Int32)) dX12_isFit_1 (by decide) rfl ?_
  refine z_idiv h dX12_isFit_3 (by decide) rfl ?_
  refine z_iconst h (v := (4 : Int32)) dX12_isFit_4 (by decide) rfl ?_
  refine z_icmp_ge h (tgt := 31) dX12_isFit_5 (by decide) rfl (fun c9 => ?_) (fun c9 => ?_)
  · have hf := ite_t hf c9
    exact hB31  hf
  have hf := ite_f hf c9
  refine z_iload_n h dX12_isFit_8 1 rfl rfl ?_
  refine z_bipush h (v := (10 : Int32)) dX12_isFit_9 (by decide) rfl ?_
  refine z_idiv h dX12_isFit_11 (by decide) rfl ?_
  refine z_bipush h (v := (10 : Int32)) dX12_isFit_12 (by decide) rfl ?_
  refine z_irem h dX12_isFit_14 (by decide) rfl ?_
  refine z_iconst h (v := (4 : Int32)) dX12_isFit_15 (by decide) rfl ?_
  refine z_icmp_ge h (tgt := 31) dX12_isFit_16 (by decide) rfl (fun c10 => ?_) (fun c10 => ?_)
  · have hf := ite_t hf c10
    exact hB31  hf
  have hf := ite_f hf c10
  refine z_iload_n h dX12_isFit_19 1 rfl rfl ?_
  refine z_bipush h (v := (10 : Int32)) dX12_isFit_20 (by decide) rfl ?_
  refine z_irem h dX12_isFit_22 (by decide) rfl ?_
  refine z_iconst h (v := (4 : Int32)) dX12_isFit_23 (by decide) rfl ?_
  refine z_icmp_ge h (tgt := 31) dX12_isFit_24 (by decide) rfl (fun c11 => ?_) (fun c11 => ?_)
  · have hf := ite_t hf c11
    exact hB31  hf
  have hf := ite_f hf c11
  refine z_iconst h (v := (1 : Int32)) dX12_isFit_27 (by decide) rfl ?_
  refine z_goto h (tgt := 32) dX12_isFit_28 (by decide) ?_
  exact hB32 (1 : Int32) hf
def fX12_likings_b46 (c0_sights : Int32) (c0_sight : Nat → Int32) (x1 : Int32)  (s0 : Int32) : Option (Int32) := (some s0)
def fX12_likings_b29 (c0_sights : Int32) (c0_sight : Nat → Int32) (x1 : Int32) (K4 : (Int32 → Int32 → Option (Int32))) (x2 : Int32) (x3 : Int32) : Option (Int32) := (K4 x2 (x3 + (1 : Int32)))
def fX12_likings_L4 (c0_sights : Int32) (c0_sight : Nat → Int32) (x1 : Int32)  : Nat → Int32 → Int32 → Option (Int32)
  | 0, _, _ => none
  | n + 1, x2, x3 => (if (334 : Int32) ≤ x3 then (if x1 = (-1 : Int32) then (fX12_likings_b46 c0_sights c0_sight x1  x2) else (fX12_likings_b46 c0_sights c0_sight x1  (-6 : Int32))) else Option.bind (fX12_isFit c0_sights c0_sight x3) (fun v3 => (if v3 = (0 : Int32) then (fX12_likings_b29 c0_sights c0_sight x1 (fX12_likings_L4 c0_sights c0_sight x1  n) x2 x3) else (if x2 = x1 then (some x3) else (fX12_likings_b29 c0_sights c0_sight x1 (fX12_likings_L4 c0_sights c0_sight x1  n) (x2 + (1 : Int32)) x3)))))
def fX12_likings (c0_sights : Int32) (c0_sight : Nat → Int32) (x1 : Int32) : Option (Int32) := (fX12_likings_L4 c0_sights c0_sight x1  zF (0 : Int32) (0 : Int32))
abbrev rmX12_likings : Room := { frames := 2, cells := 0, slots := 0, locals := 45 }
set_option maxRecDepth 100000 in
set_option maxHeartbeats 4000000 in
theorem ctX12_likings (l : Launch) (G : zG) (a0 a0_book a0_now a0_sight a0_pad a0_can a0_fitting a0_wins a0_image a0_isKept : Nat) (c0_sights : Int32) (c0_signs : Int32) (c0_offs : Int32) (c0_offAt : Int32) (c0_offWho : Int32) (c0_lastOff : Int32) (c0_reason : Int32) (c0_acts : Int32) (c0_sight : Nat → Int32) (x1 : Int32) {R : Int32} (hf : fX12_likings c0_sights c0_sight x1 = some R) : zCt l yX12_likings wsX12_likings rmX12_likings G [(a0, .inr (12, [.ref a0_book, .ref a0_now, .int c0_sights, .ref a0_sight, .int c0_signs, .ref a0_pad, .int c0_offs, .int c0_offAt, .int c0_offWho, .int c0_lastOff, .int c0_reason, .int c0_acts, .ref a0_can, .ref a0_fitting, .ref a0_wins, .ref a0_image, .ref a0_isKept])), (a0_sight, .inl (G.2.1, 40, .inl c0_sight))] [.ref a0, .int x1] (fun v w => v = some (.int (R)) ∧ w = [(a0, .inr (12, [.ref a0_book, .ref a0_now, .int c0_sights, .ref a0_sight, .int c0_signs, .ref a0_pad, .int c0_offs, .int c0_offAt, .int c0_offWho, .int c0_lastOff, .int c0_reason, .int c0_acts, .ref a0_can, .ref a0_fitting, .ref a0_wins, .ref a0_image, .ref a0_isKept])), (a0_sight, .inl (G.2.1, 40, .inl c0_sight))]) := by
  refine zMkI (own := RX12) false (by decide) (by decide +kernel) rfl rfl (Nat.le_of_ble_eq_true rfl) ?_
  intro Z h hret
  have hB46 : ∀ (s0 : Int32), fX12_likings_b46 c0_sights c0_sight x1  s0 = some R → Z 0 0 [(a0, .inr (12, [.ref a0_book, .ref a0_now, .int c0_sights, .ref a0_sight, .int c0_signs, .ref a0_pad, .int c0_offs, .int c0_offAt, .int c0_offWho, .int c0_lastOff, .int c0_reason, .int c0_acts, .ref a0_can, .ref a0_fitting, .ref a0_wins, .ref a0_image, .ref a0_isKept])), (a0_sight, .inl (G.2.1, 40, .inl c0_sight))] [] 46 [.int s0] := by
    intro s0 hf
    rw [fX12_likings_b46] at hf
    have hf := Option.some.inj hf
    subst hf
    exact hret _ _ _ _ dX12_likings_46 ⟨rfl, rfl⟩
  have hL4 : ∀ (n4 : Nat) (x2 : Int32) (x3 : Int32), fX12_likings_L4 c0_sights c0_sight x1  n4 x2 x3 = some R → Z 0 0 [(a0, .inr (12, [.ref a0_book, .ref a0_now, .int c0_sights, .ref a0_sight, .int c0_signs, .ref a0_pad, .int c0_offs, .int c0_offAt, .int c0_offWho, .int c0_lastOff, .int c0_reason, .int c0_acts, .ref a0_can, .ref a0_fitting, .ref a0_wins, .ref a0_image, .ref a0_isKept])), (a0_sight, .inl (G.2.1, 40, .inl c0_sight))] [(0, .ref a0), (1, .int x1), (2, .int x2), (3, .int x3)] 4 [] := by
    intro n4
    induction n4 with
    | zero =>
      intro x2 x3 hf
      rw [fX12_likings_L4] at hf
      cases hf
    | succ n4 ih4 =>
      have hB29 : ∀ (x2 : Int32) (x3 : Int32), fX12_likings_b29 c0_sights c0_sight x1 (fX12_likings_L4 c0_sights c0_sight x1  n4) x2 x3 = some R → Z 0 0 [(a0, .inr (12, [.ref a0_book, .ref a0_now, .int c0_sights, .ref a0_sight, .int c0_signs, .ref a0_pad, .int c0_offs, .int c0_offAt, .int c0_offWho, .int c0_lastOff, .int c0_reason, .int c0_acts, .ref a0_can, .ref a0_fitting, .ref a0_wins, .ref a0_image, .ref a0_isKept])), (a0_sight, .inl (G.2.1, 40, .inl c0_sight))] [(0, .ref a0), (1, .int x1), (2, .int x2), (3, .int x3)] 29 [] := by
        intro x2 x3 hf
        rw [fX12_likings_b29] at hf
        refine z_iinc h (v := (x3 + (1 : Int32))) (lv2 := [(3, .int (x3 + (1 : Int32))), (0, .ref a0), (1, .int x1), (2, .int x2)]) (j := 3) dX12_likings_29 rfl rfl (by decide) rfl rfl ?_
        refine z_goto h (tgt := 4) dX12_likings_32 (by decide) ?_
        refine z_locs h (lv2 := [(0, .ref a0), (1, .int x1), (2, .int x2), (3, .int (x3 + (1 : Int32)))]) [1, 2, 3, 0] rfl ?_
        exact ih4 x2 (x3 + (1 : Int32)) hf
      intro x2 x3 hf
      rw [fX12_likings_L4] at hf
      refine z_iload_n h dX12_likings_4 3 rfl rfl ?_
      refine z_sipush h (v := (334 : Int32)) dX12_likings_5 (by decide) rfl ?_
      refine z_icmp_ge h (tgt := 35) dX12_likings_8 (by decide) rfl (fun c1 => ?_) (fun c1 => ?_)
      · have hf := ite_t hf c1
        refine z_iload_n h dX12_likings_35 1 rfl rfl ?_
        refine z_iconst h (v := (-1 : Int32)) dX12_likings_36 (by decide) rfl ?_
        refine z_icmp_ne h (tgt := 44) dX12_likings_37 (by decide) rfl (fun c2 => ?_) (fun c2 => ?_)
        · have hf := ite_f hf c2
          refine z_bipush h (v := (-6 : Int32)) dX12_likings_44 (by decide) rfl ?_
          refine z_locs h (lv2 := []) [] rfl ?_
          exact hB46 (-6 : Int32) hf
        have hf := ite_t hf c2
        refine z_iload_n h dX12_likings_40 2 rfl rfl ?_
        refine z_goto h (tgt := 46) dX12_likings_41 (by decide) ?_
        refine z_locs h (lv2 := []) [] rfl ?_
        exact hB46 x2 hf
      have hf := ite_f hf c1
      refine z_aload_n h dX12_likings_11 0 rfl rfl ?_
      refine z_iload_n h dX12_likings_12 3 rfl rfl ?_
      obtain ⟨v3, hv3, hf⟩ := bd_some hf
      refine z_callV h (np := 1) (st := []) (wr := []) [.int x3] (ctX12_isFit l G a0 a0_book a0_now a0_sight a0_pad a0_can a0_fitting a0_wins a0_image a0_isKept c0_sights c0_signs c0_offs c0_offAt c0_offWho c0_lastOff c0_reason c0_acts c0_sight x3 hv3) gX12_likings_X12_isFit (by decide +kernel) 0 rfl rfl rfl ⟨Nat.le_of_ble_eq_true rfl, Nat.le_of_ble_eq_true rfl⟩ ⟨Nat.le_refl _, Nat.le_refl _⟩ rfl rfl rfl [0, 1] [] rfl rfl rfl rfl (by decide) (Nat.le_of_ble_eq_true rfl) dX12_likings_13 rfl rfl (fun rv3 wv3 hrv3 => ?_)
      obtain ⟨rfl, rfl⟩ := hrv3
      refine z_perm h (w2 := [(a0, .inr (12, [.ref a0_book, .ref a0_now, .int c0_sights, .ref a0_sight, .int c0_signs, .ref a0_pad, .int c0_offs, .int c0_offAt, .int c0_offWho, .int c0_lastOff, .int c0_reason, .int c0_acts, .ref a0_can, .ref a0_fitting, .ref a0_wins, .ref a0_image, .ref a0_isKept])), (a0_sight, .inl (G.2.1, 40, .inl c0_sight))]) (st := [.int v3]) [0, 1] rfl rfl ?_
      refine z_if_eq h (tgt := 29) dX12_likings_16 (by decide) rfl (fun c4 => ?_) (fun c4 => ?_)
      · have hf := ite_t hf c4
        exact hB29 x2 x3 hf
      have hf := ite_f hf c4
      refine z_iload_n h dX12_likings_19 2 rfl rfl ?_
      refine z_iload_n h dX12_likings_20 1 rfl rfl ?_
      refine z_icmp_ne h (tgt := 26) dX12_likings_21 (by decide) rfl (fun c5 => ?_) (fun c5 => ?_)
      · have hf := ite_f hf c5
        refine z_iinc h (v := (x2 + (1 : Int32))) (lv2 := [(2, .int (x2 + (1 : Int32))), (0, .ref a0), (1, .int x1), (3, .int x3)]) (j := 2) dX12_likings_26 rfl rfl (by decide) rfl rfl ?_
        refine z_locs h (lv2 := [(0, .ref a0), (1, .int x1), (2, .int (x2 + (1 : Int32))), (3, .int x3)]) [1, 2, 0, 3] rfl ?_
        exact hB29 (x2 + (1 : Int32)) x3 hf
      have hf := ite_t hf c5
      refine z_iload_n h dX12_likings_24 3 rfl rfl ?_
      have hf := Option.some.inj hf
      subst hf
      exact hret _ _ _ _ dX12_likings_25 ⟨rfl, rfl⟩
  rw [fX12_likings] at hf
  show Z 0 0 _ [(0, .ref a0), (1, .int x1)] 0 []
  refine z_iconst h (v := (0 : Int32)) dX12_likings_0 (by decide) rfl ?_
  refine z_istore_n h (lv2 := [(2, .int (0 : Int32)), (0, .ref a0), (1, .int x1)]) dX12_likings_1 (by decide) rfl rfl ?_
  refine z_iconst h (v := (0 : Int32)) dX12_likings_2 (by decide) rfl ?_
  refine z_istore_n h (lv2 := [(3, .int (0 : Int32)), (2, .int (0 : Int32)), (0, .ref a0), (1, .int x1)]) dX12_likings_3 (by decide) rfl rfl ?_
  refine z_locs h (lv2 := [(0, .ref a0), (1, .int x1), (2, .int (0 : Int32)), (3, .int (0 : Int32))]) [2, 3, 1, 0] rfl ?_
  exact hL4 zF (0 : Int32) (0 : Int32) hf
def fX12_ask_b244 (c0_sights : Int32) (c0_sight : Nat → Int32) (x1 : Int32)  (c0_fitting : Nat → Int32) (s0 : Int32) : Option (Int32 × (Nat → Int32)) := (some (s0, c0_fitting))
def fX12_ask_b238 (c0_sights : Int32) (c0_sight : Nat → Int32) (x1 : Int32)  (c0_fitting : Nat → Int32) (x3 : Int32) : Option (Int32 × (Nat → Int32)) := (fX12_ask_b244 c0_sights c0_sight x1  c0_fitting x3)
def fX12_ask_b230 (c0_sights : Int32) (c0_sight : Nat → Int32) (x1 : Int32)  (c0_fitting : Nat → Int32) (x3 : Int32) (x4 : Int32) : Option (Int32 × (Nat → Int32)) := (if x3 < (0 : Int32) then (fX12_ask_b238 c0_sights c0_sight x1  c0_fitting x3) else (if x1 = (0 : Int32) then (fX12_ask_b238 c0_sights c0_sight x1  c0_fitting x3) else (fX12_ask_b244 c0_sights c0_sight x1  c0_fitting x4)))
def fX12_ask_b222 (c0_sights : Int32) (c0_sight : Nat → Int32) (x1 : Int32) (K59 : ((Nat → Int32) → Int32 → Int32 → Int32 → Int32 → Option (Int32 × (Nat → Int32)))) (c0_fitting : Nat → Int32) (x2 : Int32) (x3 : Int32) (x5 : Int32) (s0 : Int32) : Option (Int32 × (Nat → Int32)) := (K59 c0_fitting x2 x3 s0 (x5 + (1 : Int32)))
def fX12_ask_b209 (c0_sights : Int32) (c0_sight : Nat → Int32) (x1 : Int32) (K59 : ((Nat → Int32) → Int32 → Int32 → Int32 → Int32 → Option (Int32 × (Nat → Int32)))) (c0_fitting : Nat → Int32) (x2 : Int32) (x4 : Int32) (x5 : Int32) (x8 : Int32) (x9 : Int32) (s0 : Int32) : Option (Int32 × (Nat → Int32)) := (if x9 = (0 : Int32) then (fX12_ask_b222 c0_sights c0_sight x1 K59 c0_fitting x2 s0 x5 x4) else (fX12_ask_b222 c0_sights c0_sight x1 K59 c0_fitting x2 s0 x5 x8))
def fX12_ask_b196 (c0_sights : Int32) (c0_sight : Nat → Int32) (x1 : Int32) (K59 : ((Nat → Int32) → Int32 → Int32 → Int32 → Int32 → Option (Int32 × (Nat → Int32)))) (c0_fitting : Nat → Int32) (x2 : Int32) (x3 : Int32) (x4 : Int32) (x5 : Int32) (x8 : Int32) (s0 : Int32) : Option (Int32 × (Nat → Int32)) := (if s0 = (0 : Int32) then (fX12_ask_b209 c0_sights c0_sight x1 K59 c0_fitting x2 x4 x5 x8 s0 x3) else (fX12_ask_b209 c0_sights c0_sight x1 K59 c0_fitting x2 x4 x5 x8 s0 x5))
def fX12_ask_b195 (c0_sights : Int32) (c0_sight : Nat → Int32) (x1 : Int32) (K59 : ((Nat → Int32) → Int32 → Int32 → Int32 → Int32 → Option (Int32 × (Nat → Int32)))) (c0_fitting : Nat → Int32) (x2 : Int32) (x3 : Int32) (x4 : Int32) (x5 : Int32) (x8 : Int32) : Option (Int32 × (Nat → Int32)) := (fX12_ask_b196 c0_sights c0_sight x1 K59 c0_fitting x2 x3 x4 x5 x8 (0 : Int32))
def fX12_ask_b177 (c0_sights : Int32) (c0_sight : Nat → Int32) (x1 : Int32) (K59 : ((Nat → Int32) → Int32 → Int32 → Int32 → Int32 → Option (Int32 × (Nat → Int32)))) (c0_fitting : Nat → Int32) (x2 : Int32) (x3 : Int32) (x4 : Int32) (x5 : Int32) (x6 : Int32) (s0 : Int32) : Option (Int32 × (Nat → Int32)) := (if x6 = (0 : Int32) then (fX12_ask_b195 c0_sights c0_sight x1 K59 c0_fitting x2 x3 x4 x5 s0) else (if x4 ≤ s0 then (fX12_ask_b195 c0_sights c0_sight x1 K59 c0_fitting x2 x3 x4 x5 s0) else (fX12_ask_b196 c0_sights c0_sight x1 K59 c0_fitting x2 x3 x4 x5 s0 (1 : Int32))))
def fX12_ask_b159 (c0_sights : Int32) (c0_sight : Nat → Int32) (x1 : Int32) (K59 : ((Nat → Int32) → Int32 → Int32 → Int32 → Int32 → Option (Int32 × (Nat → Int32)))) (c0_fitting : Nat → Int32) (x2 : Int32) (x3 : Int32) (x4 : Int32) (x5 : Int32) (x6 : Int32) (x7 : Int32) : Option (Int32 × (Nat → Int32)) := (if x7 ≤ (x2 - x7) then (fX12_ask_b177 c0_sights c0_sight x1 K59 c0_fitting x2 x3 x4 x5 x6 (x2 - x7)) else (fX12_ask_b177 c0_sights c0_sight x1 K59 c0_fitting x2 x3 x4 x5 x6 x7))
def fX12_ask_b150 (c0_sights : Int32) (c0_sight : Nat → Int32) (x1 : Int32) (K59 : ((Nat → Int32) → Int32 → Int32 → Int32 → Int32 → Option (Int32 × (Nat → Int32)))) (K117 : ((Nat → Int32) → Int32 → Int32 → Int32 → Int32 → Int32 → Int32 → Int32 → Option (Int32 × (Nat → Int32)))) (c0_fitting : Nat → Int32) (x2 : Int32) (x3 : Int32) (x4 : Int32) (x5 : Int32) (x6 : Int32) (x8 : Int32) (s0 : Int32) (s1 : Int32) : Option (Int32 × (Nat → Int32)) := (K117 c0_fitting x2 x3 x4 x5 x6 (s0 + s1) (x8 + (1 : Int32)))
def fX12_ask_L117 (c0_sights : Int32) (c0_sight : Nat → Int32) (x1 : Int32) (K59 : ((Nat → Int32) → Int32 → Int32 → Int32 → Int32 → Option (Int32 × (Nat → Int32)))) : Nat → (Nat → Int32) → Int32 → Int32 → Int32 → Int32 → Int32 → Int32 → Int32 → Option (Int32 × (Nat → Int32))
  | 0, _, _, _, _, _, _, _, _ => none
  | n + 1, c0_fitting, x2, x3, x4, x5, x6, x7, x8 => (if x2 ≤ x8 then (fX12_ask_b159 c0_sights c0_sight x1 K59 c0_fitting x2 x3 x4 x5 x6 x7) else (if x6 = (0 : Int32) then (fX12_ask_b159 c0_sights c0_sight x1 K59 c0_fitting x2 x3 x4 x5 x6 x7) else gd (inb x8 64) (Option.bind (fX12_isEnough (c0_fitting (x8).toNatClampNeg) x5) (fun v11 => (if v11 = (0 : Int32) then (fX12_ask_b150 c0_sights c0_sight x1 K59 (fX12_ask_L117 c0_sights c0_sight x1 K59 n) c0_fitting x2 x3 x4 x5 x6 x8 x7 (0 : Int32)) else (fX12_ask_b150 c0_sights c0_sight x1 K59 (fX12_ask_L117 c0_sights c0_sight x1 K59 n) c0_fitting x2 x3 x4 x5 x6 x8 x7 (1 : Int32)))))))
def fX12_ask_b109 (c0_sights : Int32) (c0_sight : Nat → Int32) (x1 : Int32) (K59 : ((Nat → Int32) → Int32 → Int32 → Int32 → Int32 → Option (Int32 × (Nat → Int32)))) (c0_fitting : Nat → Int32) (x2 : Int32) (x3 : Int32) (x4 : Int32) (x5 : Int32) (s0 : Int32) : Option (Int32 × (Nat → Int32)) := (fX12_ask_L117 c0_sights c0_sight x1 K59 zF c0_fitting x2 x3 x4 x5 s0 (0 : Int32) (0 : Int32))
def fX12_ask_b108 (c0_sights : Int32) (c0_sight : Nat → Int32) (x1 : Int32) (K59 : ((Nat → Int32) → Int32 → Int32 → Int32 → Int32 → Option (Int32 × (Nat → Int32)))) (c0_fitting : Nat → Int32) (x2 : Int32) (x3 : Int32) (x4 : Int32) (x5 : Int32) : Option (Int32 × (Nat → Int32)) := (fX12_ask_b109 c0_sights c0_sight x1 K59 c0_fitting x2 x3 x4 x5 (0 : Int32))
def fX12_ask_L59 (c0_sights : Int32) (c0_sight : Nat → Int32) (x1 : Int32)  : Nat → (Nat → Int32) → Int32 → Int32 → Int32 → Int32 → Option (Int32 × (Nat → Int32))
  | 0, _, _, _, _, _ => none
  | n + 1, c0_fitting, x2, x3, x4, x5 => (if (9334 : Int32) ≤ x5 then (fX12_ask_b230 c0_sights c0_sight x1  c0_fitting x3 x4) else (if x2 ≤ (0 : Int32) then (fX12_ask_b230 c0_sights c0_sight x1  c0_fitting x3 x4) else (if (4 : Int32) ≤ (irm (x5 / (100 : Int32)) (10 : Int32)) then (fX12_ask_b108 c0_sights c0_sight x1 (fX12_ask_L59 c0_sights c0_sight x1  n) c0_fitting x2 x3 x4 x5) else (if (4 : Int32) ≤ (irm (x5 / (10 : Int32)) (10 : Int32)) then (fX12_ask_b108 c0_sights c0_sight x1 (fX12_ask_L59 c0_sights c0_sight x1  n) c0_fitting x2 x3 x4 x5) else (if (4 : Int32) ≤ (irm x5 (10 : Int32)) then (fX12_ask_b108 c0_sights c0_sight x1 (fX12_ask_L59 c0_sights c0_sight x1  n) c0_fitting x2 x3 x4 x5) else (fX12_ask_b109 c0_sights c0_sight x1 (fX12_ask_L59 c0_sights c0_sight x1  n) c0_fitting x2 x3 x4 x5 (1 : Int32)))))))
def fX12_ask_b41 (c0_sights : Int32) (c0_sight : Nat → Int32) (x1 : Int32) (K16 : ((Nat → Int32) → Int32 → Int32 → Option (Int32 × (Nat → Int32)))) (c0_fitting : Nat → Int32) (x2 : Int32) (x3 : Int32) : Option (Int32 × (Nat → Int32)) := (K16 c0_fitting x2 (x3 + (1 : Int32)))
def fX12_ask_L16 (c0_sights : Int32) (c0_sight : Nat → Int32) (x1 : Int32)  : Nat → (Nat → Int32) → Int32 → Int32 → Option (Int32 × (Nat → Int32))
  | 0, _, _, _ => none
  | n + 1, c0_fitting, x2, x3 => (if (334 : Int32) ≤ x3 then (fX12_ask_L59 c0_sights c0_sight x1  zF c0_fitting x2 (-6 : Int32) (1000000 : Int32) (1000 : Int32)) else Option.bind (fX12_isFit c0_sights c0_sight x3) (fun v19 => (if v19 = (0 : Int32) then (fX12_ask_b41 c0_sights c0_sight x1 (fX12_ask_L16 c0_sights c0_sight x1  n) c0_fitting x2 x3) else gd (inb x2 64) ((fX12_ask_b41 c0_sights c0_sight x1 (fX12_ask_L16 c0_sights c0_sight x1  n) (upd c0_fitting (x2).toNatClampNeg x3) (x2 + (1 : Int32)) x3)))))
def fX12_ask (c0_sights : Int32) (c0_sight : Nat → Int32) (c0_fitting : Nat → Int32) (x1 : Int32) : Option (Int32 × (Nat → Int32)) := Option.bind (fX12_in x1 (0 : Int32) (1 : Int32)) (fun v22 => (if v22 = (0 : Int32) then (some ((-2 : Int32), c0_fitting)) else (fX12_ask_L16 c0_sights c0_sight x1  zF c0_fitting (0 : Int32) (0 : Int32))))
abbrev rmX12_ask : Room := { frames := 2, cells := 0, slots := 0, locals := 45 }
set_option maxRecDepth 100000 in
set_option maxHeartbeats 4000000 in
theorem ctX12_ask (l : Launch) (G : zG) (a0 a0_book a0_now a0_sight a0_pad a0_can a0_fitting a0_wins a0_image a0_isKept : Nat) (c0_sights : Int32) (c0_signs : Int32) (c0_offs : Int32) (c0_offAt : Int32) (c0_offWho : Int32) (c0_lastOff : Int32) (c0_reason : Int32) (c0_acts : Int32) (c0_sight : Nat → Int32) (c0_fitting : Nat → Int32) (x1 : Int32) {R : Int32 × (Nat → Int32)} (hf : fX12_ask c0_sights c0_sight c0_fitting x1 = some R) : zCt l yX12_ask wsX12_ask rmX12_ask G [(a0, .inr (12, [.ref a0_book, .ref a0_now, .int c0_sights, .ref a0_sight, .int c0_signs, .ref a0_pad, .int c0_offs, .int c0_offAt, .int c0_offWho, .int c0_lastOff, .int c0_reason, .int c0_acts, .ref a0_can, .ref a0_fitting, .ref a0_wins, .ref a0_image, .ref a0_isKept])), (a0_sight, .inl (G.2.1, 40, .inl c0_sight)), (a0_fitting, .inl (G.2.1, 64, .inl c0_fitting))] [.ref a0, .int x1] (fun v w => v = some (.int (R.1)) ∧ w = [(a0, .inr (12, [.ref a0_book, .ref a0_now, .int c0_sights, .ref a0_sight, .int c0_signs, .ref a0_pad, .int c0_offs, .int c0_offAt, .int c0_offWho, .int c0_lastOff, .int c0_reason, .int c0_acts, .ref a0_can, .ref a0_fitting, .ref a0_wins, .ref a0_image, .ref a0_isKept])), (a0_sight, .inl (G.2.1, 40, .inl c0_sight)), (a0_fitting, .inl (G.2.1, 64, .inl (R.2)))]) := by
  refine zMkI (own := RX12) false (by decide) (by decide +kernel) rfl rfl (Nat.le_of_ble_eq_true rfl) ?_
  intro Z h hret
  have hB244 : ∀ (c0_fitting : Nat → Int32) (s0 : Int32), fX12_ask_b244 c0_sights c0_sight x1  c0_fitting s0 = some R → Z 0 0 [(a0, .inr (12, [.ref a0_book, .ref a0_now, .int c0_sights, .ref a0_sight, .int c0_signs, .ref a0_pad, .int c0_offs, .int c0_offAt, .int c0_offWho, .int c0_lastOff, .int c0_reason, .int c0_acts, .ref a0_can, .ref a0_fitting, .ref a0_wins, .ref a0_image, .ref a0_isKept])), (a0_sight, .inl (G.2.1, 40, .inl c0_sight)), (a0_fitting, .inl (G.2.1, 64, .inl c0_fitting))] [] 244 [.int s0] := by
    intro c0_fitting s0 hf
    rw [fX12_ask_b244] at hf
    have hf := Option.some.inj hf
    subst hf
    exact hret _ _ _ _ dX12_ask_244 ⟨rfl, rfl⟩
  have hB238 : ∀ (c0_fitting : Nat → Int32) (x3 : Int32), fX12_ask_b238 c0_sights c0_sight x1  c0_fitting x3 = some R → Z 0 0 [(a0, .inr (12, [.ref a0_book, .ref a0_now, .int c0_sights, .ref a0_sight, .int c0_signs, .ref a0_pad, .int c0_offs, .int c0_offAt, .int c0_offWho, .int c0_lastOff, .int c0_reason, .int c0_acts, .ref a0_can, .ref a0_fitting, .ref a0_wins, .ref a0_image, .ref a0_isKept])), (a0_sight, .inl (G.2.1, 40, .inl c0_sight)), (a0_fitting, .inl (G.2.1, 64, .inl c0_fitting))] [(3, .int x3)] 238 [] := by
    intro c0_fitting x3 hf
    rw [fX12_ask_b238] at hf
    refine z_iload_n h dX12_ask_238 0 rfl rfl ?_
    refine z_goto h (tgt := 244) dX12_ask_239 (by decide) ?_
    refine z_locs h (lv2 := []) [] rfl ?_
    exact hB244 c0_fitting x3 hf
  have hB230 : ∀ (c0_fitting : Nat → Int32) (x3 : Int32) (x4 : Int32), fX12_ask_b230 c0_sights c0_sight x1  c0_fitting x3 x4 = some R → Z 0 0 [(a0, .inr (12, [.ref a0_book, .ref a0_now, .int c0_sights, .ref a0_sight, .int c0_signs, .ref a0_pad, .int c0_offs, .int c0_offAt, .int c0_offWho, .int c0_lastOff, .int c0_reason, .int c0_acts, .ref a0_can, .ref a0_fitting, .ref a0_wins, .ref a0_image, .ref a0_isKept])), (a0_sight, .inl (G.2.1, 40, .inl c0_sight)), (a0_fitting, .inl (G.2.1, 64, .inl c0_fitting))] [(1, .int x1), (3, .int x3), (4, .int x4)] 230 [] := by
    intro c0_fitting x3 x4 hf
    rw [fX12_ask_b230] at hf
    refine z_iload_n h dX12_ask_230 1 rfl rfl ?_
    refine z_if_lt h (tgt := 238) dX12_ask_231 (by decide) rfl (fun c1 => ?_) (fun c1 => ?_)
    · have hf := ite_t hf c1
      refine z_locs h (lv2 := [(3, .int x3)]) [1] rfl ?_
      exact hB238 c0_fitting x3 hf
    have hf := ite_f hf c1
    refine z_iload_n h dX12_ask_234 0 rfl rfl ?_
    refine z_if_ne h (tgt := 242) dX12_ask_235 (by decide) rfl (fun c2 => ?_) (fun c2 => ?_)
    · have hf := ite_f hf c2
      refine z_iload h dX12_ask_242 2 rfl rfl ?_
      refine z_locs h (lv2 := []) [] rfl ?_
      exact hB244 c0_fitting x4 hf
    have hf := ite_t hf c2
    refine z_locs h (lv2 := [(3, .int x3)]) [1] rfl ?_
    exact hB238 c0_fitting x3 hf
  have hL59 : ∀ (n59 : Nat) (c0_fitting : Nat → Int32) (x2 : Int32) (x3 : Int32) (x4 : Int32) (x5 : Int32), fX12_ask_L59 c0_sights c0_sight x1  n59 c0_fitting x2 x3 x4 x5 = some R → Z 0 0 [(a0, .inr (12, [.ref a0_book, .ref a0_now, .int c0_sights, .ref a0_sight, .int c0_signs, .ref a0_pad, .int c0_offs, .int c0_offAt, .int c0_offWho, .int c0_lastOff, .int c0_reason, .int c0_acts, .ref a0_can, .ref a0_fitting, .ref a0_wins, .ref a0_image, .ref a0_isKept])), (a0_sight, .inl (G.2.1, 40, .inl c0_sight)), (a0_fitting, .inl (G.2.1, 64, .inl c0_fitting))] [(0, .ref a0), (1, .int x1), (2, .int x2), (3, .int x3), (4, .int x4), (5, .int x5)] 59 [] := by
    intro n59
    induction n59 with
    | zero =>
      intro c0_fitting x2 x3 x4 x5 hf
      rw [fX12_ask_L59] at hf
      cases hf
    | succ n59 ih59 =>
      have hB222 : ∀ (c0_fitting : Nat → Int32) (x2 : Int32) (x3 : Int32) (x5 : Int32) (s0 : Int32), fX12_ask_b222 c0_sights c0_sight x1 (fX12_ask_L59 c0_sights c0_sight x1  n59) c0_fitting x2 x3 x5 s0 = some R → Z 0 0 [(a0, .inr (12, [.ref a0_book, .ref a0_now, .int c0_sights, .ref a0_sight, .int c0_signs, .ref a0_pad, .int c0_offs, .int c0_offAt, .int c0_offWho, .int c0_lastOff, .int c0_reason, .int c0_acts, .ref a0_can, .ref a0_fitting, .ref a0_wins, .ref a0_image, .ref a0_isKept])), (a0_sight, .inl (G.2.1, 40, .inl c0_sight)), (a0_fitting, .inl (G.2.1, 64, .inl c0_fitting))] [(0, .ref a0), (1, .int x1), (2, .int x2), (3, .int x3), (5, .int x5)] 222 [.int s0] := by
        intro c0_fitting x2 x3 x5 s0 hf
        rw [fX12_ask_b222] at hf
        refine z_istore h (lv2 := [(4, .int s0), (0, .ref a0), (1, .int x1), (2, .int x2), (3, .int x3), (5, .int x5)]) dX12_ask_222 (by decide) rfl rfl ?_
        refine z_iinc h (v := (x5 + (1 : Int32))) (lv2 := [(5, .int (x5 + (1 : Int32))), (4, .int s0), (0, .ref a0), (1, .int x1), (2, .int x2), (3, .int x3)]) (j := 5) dX12_ask_224 rfl rfl (by decide) rfl rfl ?_
        refine z_goto h (tgt := 59) dX12_ask_227 (by decide) ?_
        refine z_locs h (lv2 := [(0, .ref a0), (1, .int x1), (2, .int x2), (3, .int x3), (4, .int s0), (5, .int (x5 + (1 : Int32)))]) [2, 3, 4, 5, 1, 0] rfl ?_
        exact ih59 c0_fitting x2 x3 s0 (x5 + (1 : Int32)) hf
      have hB209 : ∀ (c0_fitting : Nat → Int32) (x2 : Int32) (x4 : Int32) (x5 : Int32) (x8 : Int32) (x9 : Int32) (s0 : Int32), fX12_ask_b209 c0_sights c0_sight x1 (fX12_ask_L59 c0_sights c0_sight x1  n59) c0_fitting x2 x4 x5 x8 x9 s0 = some R → Z 0 0 [(a0, .inr (12, [.ref a0_book, .ref a0_now, .int c0_sights, .ref a0_sight, .int c0_signs, .ref a0_pad, .int c0_offs, .int c0_offAt, .int c0_offWho, .int c0_lastOff, .int c0_reason, .int c0_acts, .ref a0_can, .ref a0_fitting, .ref a0_wins, .ref a0_image, .ref a0_isKept])), (a0_sight, .inl (G.2.1, 40, .inl c0_sight)), (a0_fitting, .inl (G.2.1, 64, .inl c0_fitting))] [(0, .ref a0), (1, .int x1), (2, .int x2), (4, .int x4), (5, .int x5), (8, .int x8), (9, .int x9)] 209 [.int s0] := by
        intro c0_fitting x2 x4 x5 x8 x9 s0 hf
        rw [fX12_ask_b209] at hf
        refine z_istore_n h (lv2 := [(3, .int s0), (0, .ref a0), (1, .int x1), (2, .int x2), (4, .int x4), (5, .int x5), (8, .int x8), (9, .int x9)]) dX12_ask_209 (by decide) rfl rfl ?_
        refine z_iload h dX12_ask_210 7 rfl rfl ?_
        refine z_if_eq h (tgt := 220) dX12_ask_212 (by decide) rfl (fun c3 => ?_) (fun c3 => ?_)
        · have hf := ite_t hf c3
          refine z_iload h dX12_ask_220 4 rfl rfl ?_
          refine z_locs h (lv2 := [(0, .ref a0), (1, .int x1), (2, .int x2), (3, .int s0), (5, .int x5)]) [1, 2, 3, 0, 5] rfl ?_
          exact hB222 c0_fitting x2 s0 x5 x4 hf
        have hf := ite_f hf c3
        refine z_iload h dX12_ask_215 6 rfl rfl ?_
        refine z_goto h (tgt := 222) dX12_ask_217 (by decide) ?_
        refine z_locs h (lv2 := [(0, .ref a0), (1, .int x1), (2, .int x2), (3, .int s0), (5, .int x5)]) [1, 2, 3, 0, 5] rfl ?_
        exact hB222 c0_fitting x2 s0 x5 x8 hf
      have hB196 : ∀ (c0_fitting : Nat → Int32) (x2 : Int32) (x3 : Int32) (x4 : Int32) (x5 : Int32) (x8 : Int32) (s0 : Int32), fX12_ask_b196 c0_sights c0_sight x1 (fX12_ask_L59 c0_sights c0_sight x1  n59) c0_fitting x2 x3 x4 x5 x8 s0 = some R → Z 0 0 [(a0, .inr (12, [.ref a0_book, .ref a0_now, .int c0_sights, .ref a0_sight, .int c0_signs, .ref a0_pad, .int c0_offs, .int c0_offAt, .int c0_offWho, .int c0_lastOff, .int c0_reason, .int c0_acts, .ref a0_can, .ref a0_fitting, .ref a0_wins, .ref a0_image, .ref a0_isKept])), (a0_sight, .inl (G.2.1, 40, .inl c0_sight)), (a0_fitting, .inl (G.2.1, 64, .inl c0_fitting))] [(0, .ref a0), (1, .int x1), (2, .int x2), (3, .int x3), (4, .int x4), (5, .int x5), (8, .int x8)] 196 [.int s0] := by
        intro c0_fitting x2 x3 x4 x5 x8 s0 hf
        rw [fX12_ask_b196] at hf
        refine z_istore h (lv2 := [(9, .int s0), (0, .ref a0), (1, .int x1), (2, .int x2), (3, .int x3), (4, .int x4), (5, .int x5), (8, .int x8)]) dX12_ask_196 (by decide) rfl rfl ?_
        refine z_iload h dX12_ask_198 0 rfl rfl ?_
        refine z_if_eq h (tgt := 208) dX12_ask_200 (by decide) rfl (fun c4 => ?_) (fun c4 => ?_)
        · have hf := ite_t hf c4
          refine z_iload_n h dX12_ask_208 4 rfl rfl ?_
          refine z_locs h (lv2 := [(0, .ref a0), (1, .int x1), (2, .int x2), (4, .int x4), (5, .int x5), (8, .int x8), (9, .int s0)]) [1, 2, 3, 5, 6, 7, 0] rfl ?_
          exact hB209 c0_fitting x2 x4 x5 x8 s0 x3 hf
        have hf := ite_f hf c4
        refine z_iload h dX12_ask_203 6 rfl rfl ?_
        refine z_goto h (tgt := 209) dX12_ask_205 (by decide) ?_
        refine z_locs h (lv2 := [(0, .ref a0), (1, .int x1), (2, .int x2), (4, .int x4), (5, .int x5), (8, .int x8), (9, .int s0)]) [1, 2, 3, 5, 6, 7, 0] rfl ?_
        exact hB209 c0_fitting x2 x4 x5 x8 s0 x5 hf
      have hB195 : ∀ (c0_fitting : Nat → Int32) (x2 : Int32) (x3 : Int32) (x4 : Int32) (x5 : Int32) (x8 : Int32), fX12_ask_b195 c0_sights c0_sight x1 (fX12_ask_L59 c0_sights c0_sight x1  n59) c0_fitting x2 x3 x4 x5 x8 = some R → Z 0 0 [(a0, .inr (12, [.ref a0_book, .ref a0_now, .int c0_sights, .ref a0_sight, .int c0_signs, .ref a0_pad, .int c0_offs, .int c0_offAt, .int c0_offWho, .int c0_lastOff, .int c0_reason, .int c0_acts, .ref a0_can, .ref a0_fitting, .ref a0_wins, .ref a0_image, .ref a0_isKept])), (a0_sight, .inl (G.2.1, 40, .inl c0_sight)), (a0_fitting, .inl (G.2.1, 64, .inl c0_fitting))] [(0, .ref a0), (1, .int x1), (2, .int x2), (3, .int x3), (4, .int x4), (5, .int x5), (8, .int x8)] 195 [] := by
        intro c0_fitting x2 x3 x4 x5 x8 hf
        rw [fX12_ask_b195] at hf
        refine z_iconst h (v := (0 : Int32)) dX12_ask_195 (by decide) rfl ?_
        exact hB196 c0_fitting x2 x3 x4 x5 x8 (0 : Int32) hf
      have hB177 : ∀ (c0_fitting : Nat → Int32) (x2 : Int32) (x3 : Int32) (x4 : Int32) (x5 : Int32) (x6 : Int32) (s0 : Int32), fX12_ask_b177 c0_sights c0_sight x1 (fX12_ask_L59 c0_sights c0_sight x1  n59) c0_fitting x2 x3 x4 x5 x6 s0 = some R → Z 0 0 [(a0, .inr (12, [.ref a0_book, .ref a0_now, .int c0_sights, .ref a0_sight, .int c0_signs, .ref a0_pad, .int c0_offs, .int c0_offAt, .int c0_offWho, .int c0_lastOff, .int c0_reason, .int c0_acts, .ref a0_can, .ref a0_fitting, .ref a0_wins, .ref a0_image, .ref a0_isKept])), (a0_sight, .inl (G.2.1, 40, .inl c0_sight)), (a0_fitting, .inl (G.2.1, 64, .inl c0_fitting))] [(0, .ref a0), (1, .int x1), (2, .int x2), (3, .int x3), (4, .int x4), (5, .int x5), (6, .int x6)] 177 [.int s0] := by
        intro c0_fitting x2 x3 x4 x5 x6 s0 hf
        rw [fX12_ask_b177] at hf
        refine z_istore h (lv2 := [(8, .int s0), (0, .ref a0), (1, .int x1), (2, .int x2), (3, .int x3), (4, .int x4), (5, .int x5), (6, .int x6)]) dX12_ask_177 (by decide) rfl rfl ?_
        refine z_iload h dX12_ask_179 7 rfl rfl ?_
        refine z_if_eq h (tgt := 195) dX12_ask_181 (by decide) rfl (fun c5 => ?_) (fun c5 => ?_)
        · have hf := ite_t hf c5
          refine z_locs h (lv2 := [(0, .ref a0), (1, .int x1), (2, .int x2), (3, .int x3), (4, .int x4), (5, .int x5), (8, .int s0)]) [1, 2, 3, 4, 5, 6, 0] rfl ?_
          exact hB195 c0_fitting x2 x3 x4 x5 s0 hf
        have hf := ite_f hf c5
        refine z_iload h dX12_ask_184 0 rfl rfl ?_
        refine z_iload h dX12_ask_186 5 rfl rfl ?_
        refine z_icmp_ge h (tgt := 195) dX12_ask_188 (by decide) rfl (fun c6 => ?_) (fun c6 => ?_)
        · have hf := ite_t hf c6
          refine z_locs h (lv2 := [(0, .ref a0), (1, .int x1), (2, .int x2), (3, .int x3), (4, .int x4), (5, .int x5), (8, .int s0)]) [1, 2, 3, 4, 5, 6, 0] rfl ?_
          exact hB195 c0_fitting x2 x3 x4 x5 s0 hf
        have hf := ite_f hf c6
        refine z_iconst h (v := (1 : Int32)) dX12_ask_191 (by decide) rfl ?_
        refine z_goto h (tgt := 196) dX12_ask_192 (by decide) ?_
        refine z_locs h (lv2 := [(0, .ref a0), (1, .int x1), (2, .int x2), (3, .int x3), (4, .int x4), (5, .int x5), (8, .int s0)]) [1, 2, 3, 4, 5, 6, 0] rfl ?_
        exact hB196 c0_fitting x2 x3 x4 x5 s0 (1 : Int32) hf
      have hB159 : ∀ (c0_fitting : Nat → Int32) (x2 : Int32) (x3 : Int32) (x4 : Int32) (x5 : Int32) (x6 : Int32) (x7 : Int32), fX12_ask_b159 c0_sights c0_sight x1 (fX12_ask_L59 c0_sights c0_sight x1  n59) c0_fitting x2 x3 x4 x5 x6 x7 = some R → Z 0 0 [(a0, .inr (12, [.ref a0_book, .ref a0_now, .int c0_sights, .ref a0_sight, .int c0_signs, .ref a0_pad, .int c0_offs, .int c0_offAt, .int c0_offWho, .int c0_lastOff, .int c0_reason, .int c0_acts, .ref a0_can, .ref a0_fitting, .ref a0_wins, .ref a0_image, .ref a0_isKept])), (a0_sight, .inl (G.2.1, 40, .inl c0_sight)), (a0_fitting, .inl (G.2.1, 64, .inl c0_fitting))] [(0, .ref a0), (1, .int x1), (2, .int x2), (3, .int x3), (4, .int x4), (5, .int x5), (6, .int x6), (7, .int x7)] 159 [] := by
        intro c0_fitting x2 x3 x4 x5 x6 x7 hf
        rw [fX12_ask_b159] at hf
        refine z_iload h dX12_ask_159 7 rfl rfl ?_
        refine z_iload_n h dX12_ask_161 2 rfl rfl ?_
        refine z_iload h dX12_ask_162 7 rfl rfl ?_
        refine z_isub h dX12_ask_164 rfl ?_
        refine z_icmp_le h (tgt := 173) dX12_ask_165 (by decide) rfl (fun c7 => ?_) (fun c7 => ?_)
        · have hf := ite_t hf c7
          refine z_iload_n h dX12_ask_173 2 rfl rfl ?_
          refine z_iload h dX12_ask_174 7 rfl rfl ?_
          refine z_isub h dX12_ask_176 rfl ?_
          refine z_locs h (lv2 := [(0, .ref a0), (1, .int x1), (2, .int x2), (3, .int x3), (4, .int x4), (5, .int x5), (6, .int x6)]) [0, 1, 2, 3, 4, 5, 6] rfl ?_
          exact hB177 c0_fitting x2 x3 x4 x5 x6 (x2 - x7) hf
        have hf := ite_f hf c7
        refine z_iload h dX12_ask_168 7 rfl rfl ?_
        refine z_goto h (tgt := 177) dX12_ask_170 (by decide) ?_
        refine z_locs h (lv2 := [(0, .ref a0), (1, .int x1), (2, .int x2), (3, .int x3), (4, .int x4), (5, .int x5), (6, .int x6)]) [0, 1, 2, 3, 4, 5, 6] rfl ?_
        exact hB177 c0_fitting x2 x3 x4 x5 x6 x7 hf
      have hL117 : ∀ (n117 : Nat) (c0_fitting : Nat → Int32) (x2 : Int32) (x3 : Int32) (x4 : Int32) (x5 : Int32) (x6 : Int32) (x7 : Int32) (x8 : Int32), fX12_ask_L117 c0_sights c0_sight x1 (fX12_ask_L59 c0_sights c0_sight x1  n59) n117 c0_fitting x2 x3 x4 x5 x6 x7 x8 = some R → Z 0 0 [(a0, .inr (12, [.ref a0_book, .ref a0_now, .int c0_sights, .ref a0_sight, .int c0_signs, .ref a0_pad, .int c0_offs, .int c0_offAt, .int c0_offWho, .int c0_lastOff, .int c0_reason, .int c0_acts, .ref a0_can, .ref a0_fitting, .ref a0_wins, .ref a0_image, .ref a0_isKept])), (a0_sight, .inl (G.2.1, 40, .inl c0_sight)), (a0_fitting, .inl (G.2.1, 64, .inl c0_fitting))] [(0, .ref a0), (1, .int x1), (2, .int x2), (3, .int x3), (4, .int x4), (5, .int x5), (6, .int x6), (7, .int x7), (8, .int x8)] 117 [] := by
        intro n117
        induction n117 with
        | zero =>
          intro c0_fitting x2 x3 x4 x5 x6 x7 x8 hf
          rw [fX12_ask_L117] at hf
          cases hf
        | succ n117 ih117 =>
          have hB150 : ∀ (c0_fitting : Nat → Int32) (x2 : Int32) (x3 : Int32) (x4 : Int32) (x5 : Int32) (x6 : Int32) (x8 : Int32) (s0 : Int32) (s1 : Int32), fX12_ask_b150 c0_sights c0_sight x1 (fX12_ask_L59 c0_sights c0_sight x1  n59) (fX12_ask_L117 c0_sights c0_sight x1 (fX12_ask_L59 c0_sights c0_sight x1  n59) n117) c0_fitting x2 x3 x4 x5 x6 x8 s0 s1 = some R → Z 0 0 [(a0, .inr (12, [.ref a0_book, .ref a0_now, .int c0_sights, .ref a0_sight, .int c0_signs, .ref a0_pad, .int c0_offs, .int c0_offAt, .int c0_offWho, .int c0_lastOff, .int c0_reason, .int c0_acts, .ref a0_can, .ref a0_fitting, .ref a0_wins, .ref a0_image, .ref a0_isKept])), (a0_sight, .inl (G.2.1, 40, .inl c0_sight)), (a0_fitting, .inl (G.2.1, 64, .inl c0_fitting))] [(0, .ref a0), (1, .int x1), (2, .int x2), (3, .int x3), (4, .int x4), (5, .int x5), (6, .int x6), (8, .int x8)] 150 [.int s1, .int s0] := by
            intro c0_fitting x2 x3 x4 x5 x6 x8 s0 s1 hf
            rw [fX12_ask_b150] at hf
            refine z_iadd h dX12_ask_150 rfl ?_
            refine z_istore h (lv2 := [(7, .int (s0 + s1)), (0, .ref a0), (1, .int x1), (2, .int x2), (3, .int x3), (4, .int x4), (5, .int x5), (6, .int x6), (8, .int x8)]) dX12_ask_151 (by decide) rfl rfl ?_
            refine z_iinc h (v := (x8 + (1 : Int32))) (lv2 := [(8, .int (x8 + (1 : Int32))), (7, .int (s0 + s1)), (0, .ref a0), (1, .int x1), (2, .int x2), (3, .int x3), (4, .int x4), (5, .int x5), (6, .int x6)]) (j := 8) dX12_ask_153 rfl rfl (by decide) rfl rfl ?_
            refine z_goto h (tgt := 117) dX12_ask_156 (by decide) ?_
            refine z_locs h (lv2 := [(0, .ref a0), (1, .int x1), (2, .int x2), (3, .int x3), (4, .int x4), (5, .int x5), (6, .int x6), (7, .int (s0 + s1)), (8, .int (x8 + (1 : Int32)))]) [2, 3, 4, 5, 6, 7, 8, 1, 0] rfl ?_
            exact ih117 c0_fitting x2 x3 x4 x5 x6 (s0 + s1) (x8 + (1 : Int32)) hf
          intro c0_fitting x2 x3 x4 x5 x6 x7 x8 hf
          rw [fX12_ask_L117] at hf
          refine z_iload h dX12_ask_117 8 rfl rfl ?_
          refine z_iload_n h dX12_ask_119 2 rfl rfl ?_
          refine z_icmp_ge h (tgt := 159) dX12_ask_120 (by decide) rfl (fun c8 => ?_) (fun c8 => ?_)
          · have hf := ite_t hf c8
            refine z_locs h (lv2 := [(0, .ref a0), (1, .int x1), (2, .int x2), (3, .int x3), (4, .int x4), (5, .int x5), (6, .int x6), (7, .int x7)]) [0, 1, 2, 3, 4, 5, 6, 7] rfl ?_
            exact hB159 c0_fitting x2 x3 x4 x5 x6 x7 hf
          have hf := ite_f hf c8
          refine z_iload h dX12_ask_123 6 rfl rfl ?_
          refine z_if_eq h (tgt := 159) dX12_ask_125 (by decide) rfl (fun c9 => ?_) (fun c9 => ?_)
          · have hf := ite_t hf c9
            refine z_locs h (lv2 := [(0, .ref a0), (1, .int x1), (2, .int x2), (3, .int x3), (4, .int x4), (5, .int x5), (6, .int x6), (7, .int x7)]) [0, 1, 2, 3, 4, 5, 6, 7] rfl ?_
            exact hB159 c0_fitting x2 x3 x4 x5 x6 x7 hf
          have hf := ite_f hf c9
          refine z_iload h dX12_ask_128 7 rfl rfl ?_
          refine z_aload_n h dX12_ask_130 0 rfl rfl ?_
          refine z_get h (C := RX12) (T := TX12) (N := 17) (v := .ref a0_fitting) 0 rfl rfl 13 (by decide) (by decide +kernel) (by decide +kernel) rfl dX12_ask_131 rfl ?_
          refine z_iload h dX12_ask_134 8 rfl rfl ?_
          obtain ⟨hg10, hf⟩ := gd_some hf
          refine z_iald h 2 rfl rfl hg10 dX12_ask_136 rfl ?_
          refine z_iload h dX12_ask_137 5 rfl rfl ?_
          obtain ⟨v11, hv11, hf⟩ := bd_some hf
          refine z_callS h (np := 2) (st := [.int x7]) (wr := [(a0, .inr (12, [.ref a0_book, .ref a0_now, .int c0_sights, .ref a0_sight, .int c0_signs, .ref a0_pad, .int c0_offs, .int c0_offAt, .int c0_offWho, .int c0_lastOff, .int c0_reason, .int c0_acts, .ref a0_can, .ref a0_fitting, .ref a0_wins, .ref a0_image, .ref a0_isKept])), (a0_sight, .inl (G.2.1, 40, .inl c0_sight)), (a0_fitting, .inl (G.2.1, 64, .inl c0_fitting))]) [.int (c0_fitting (x8).toNatClampNeg), .int x5] (ctX12_isEnough l G (c0_fitting (x8).toNatClampNeg) x5 hv11) gX12_ask_X12_isEnough (by decide +kernel) rfl ⟨Nat.le_of_ble_eq_true rfl, Nat.le_of_ble_eq_true rfl⟩ ⟨Nat.le_refl _, Nat.le_refl _⟩ rfl rfl rfl [] [0, 1, 2] rfl rfl rfl rfl (by decide) (Nat.le_of_ble_eq_true rfl) dX12_ask_139 rfl rfl (fun rv11 wv11 hrv11 => ?_)
          obtain ⟨rfl, rfl⟩ := hrv11
          refine z_perm h (w2 := [(a0, .inr (12, [.ref a0_book, .ref a0_now, .int c0_sights, .ref a0_sight, .int c0_signs, .ref a0_pad, .int c0_offs, .int c0_offAt, .int c0_offWho, .int c0_lastOff, .int c0_reason, .int c0_acts, .ref a0_can, .ref a0_fitting, .ref a0_wins, .ref a0_image, .ref a0_isKept])), (a0_sight, .inl (G.2.1, 40, .inl c0_sight)), (a0_fitting, .inl (G.2.1, 64, .inl c0_fitting))]) (st := [.int v11, .int x7]) [0, 1, 2] rfl rfl ?_
          refine z_if_eq h (tgt := 149) dX12_ask_142 (by decide) rfl (fun c12 => ?_) (fun c12 => ?_)
          · have hf := ite_t hf c12
            refine z_iconst h (v := (0 : Int32)) dX12_ask_149 (by decide) rfl ?_
            refine z_locs h (lv2 := [(0, .ref a0), (1, .int x1), (2, .int x2), (3, .int x3), (4, .int x4), (5, .int x5), (6, .int x6), (8, .int x8)]) [0, 1, 2, 3, 4, 5, 6, 8] rfl ?_
            exact hB150 c0_fitting x2 x3 x4 x5 x6 x8 x7 (0 : Int32) hf
          have hf := ite_f hf c12
          refine z_iconst h (v := (1 : Int32)) dX12_ask_145 (by decide) rfl ?_
          refine z_goto h (tgt := 150) dX12_ask_146 (by decide) ?_
          refine z_locs h (lv2 := [(0, .ref a0), (1, .int x1), (2, .int x2), (3, .int x3), (4, .int x4), (5, .int x5), (6, .int x6), (8, .int x8)]) [0, 1, 2, 3, 4, 5, 6, 8] rfl ?_
          exact hB150 c0_fitting x2 x3 x4 x5 x6 x8 x7 (1 : Int32) hf
      have hB109 : ∀ (c0_fitting : Nat → Int32) (x2 : Int32) (x3 : Int32) (x4 : Int32) (x5 : Int32) (s0 : Int32), fX12_ask_b109 c0_sights c0_sight x1 (fX12_ask_L59 c0_sights c0_sight x1  n59) c0_fitting x2 x3 x4 x5 s0 = some R → Z 0 0 [(a0, .inr (12, [.ref a0_book, .ref a0_now, .int c0_sights, .ref a0_sight, .int c0_signs, .ref a0_pad, .int c0_offs, .int c0_offAt, .int c0_offWho, .int c0_lastOff, .int c0_reason, .int c0_acts, .ref a0_can, .ref a0_fitting, .ref a0_wins, .ref a0_image, .ref a0_isKept])), (a0_sight, .inl (G.2.1, 40, .inl c0_sight)), (a0_fitting, .inl (G.2.1, 64, .inl c0_fitting))] [(0, .ref a0), (1, .int x1), (2, .int x2), (3, .int x3), (4, .int x4), (5, .int x5)] 109 [.int s0] := by
        intro c0_fitting x2 x3 x4 x5 s0 hf
        rw [fX12_ask_b109] at hf
        refine z_istore h (lv2 := [(6, .int s0), (0, .ref a0), (1, .int x1), (2, .int x2), (3, .int x3), (4, .int x4), (5, .int x5)]) dX12_ask_109 (by decide) rfl rfl ?_
        refine z_iconst h (v := (0 : Int32)) dX12_ask_111 (by decide) rfl ?_
        refine z_istore h (lv2 := [(7, .int (0 : Int32)), (6, .int s0), (0, .ref a0), (1, .int x1), (2, .int x2), (3, .int x3), (4, .int x4), (5, .int x5)]) dX12_ask_112 (by decide) rfl rfl ?_
        refine z_iconst h (v := (0 : Int32)) dX12_ask_114 (by decide) rfl ?_
        refine z_istore h (lv2 := [(8, .int (0 : Int32)), (7, .int (0 : Int32)), (6, .int s0), (0, .ref a0), (1, .int x1), (2, .int x2), (3, .int x3), (4, .int x4), (5, .int x5)]) dX12_ask_115 (by decide) rfl rfl ?_
        refine z_locs h (lv2 := [(0, .ref a0), (1, .int x1), (2, .int x2), (3, .int x3), (4, .int x4), (5, .int x5), (6, .int s0), (7, .int (0 : Int32)), (8, .int (0 : Int32))]) [3, 4, 5, 6, 7, 8, 2, 1, 0] rfl ?_
        exact hL117 zF c0_fitting x2 x3 x4 x5 s0 (0 : Int32) (0 : Int32) hf
      have hB108 : ∀ (c0_fitting : Nat → Int32) (x2 : Int32) (x3 : Int32) (x4 : Int32) (x5 : Int32), fX12_ask_b108 c0_sights c0_sight x1 (fX12_ask_L59 c0_sights c0_sight x1  n59) c0_fitting x2 x3 x4 x5 = some R → Z 0 0 [(a0, .inr (12, [.ref a0_book, .ref a0_now, .int c0_sights, .ref a0_sight, .int c0_signs, .ref a0_pad, .int c0_offs, .int c0_offAt, .int c0_offWho, .int c0_lastOff, .int c0_reason, .int c0_acts, .ref a0_can, .ref a0_fitting, .ref a0_wins, .ref a0_image, .ref a0_isKept])), (a0_sight, .inl (G.2.1, 40, .inl c0_sight)), (a0_fitting, .inl (G.2.1, 64, .inl c0_fitting))] [(0, .ref a0), (1, .int x1), (2, .int x2), (3, .int x3), (4, .int x4), (5, .int x5)] 108 [] := by
        intro c0_fitting x2 x3 x4 x5 hf
        rw [fX12_ask_b108] at hf
        refine z_iconst h (v := (0 : Int32)) dX12_ask_108 (by decide) rfl ?_
        exact hB109 c0_fitting x2 x3 x4 x5 (0 : Int32) hf
      intro c0_fitting x2 x3 x4 x5 hf
      rw [fX12_ask_L59] at hf
      refine z_iload h dX12_ask_59 5 rfl rfl ?_
      refine z_sipush h (v := (9334 : Int32)) dX12_ask_61 (by decide) rfl ?_
      refine z_icmp_ge h (tgt := 230) dX12_ask_64 (by decide) rfl (fun c13 => ?_) (fun c13 => ?_)
      · have hf := ite_t hf c13
        refine z_locs h (lv2 := [(1, .int x1), (3, .int x3), (4, .int x4)]) [1, 3, 4] rfl ?_
        exact hB230 c0_fitting x3 x4 hf
      have hf := ite_f hf c13
      refine z_iload_n h dX12_ask_67 2 rfl rfl ?_
      refine z_if_le h (tgt := 230) dX12_ask_68 (by decide) rfl (fun c14 => ?_) (fun c14 => ?_)
      · have hf := ite_t hf c14
        refine z_locs h (lv2 := [(1, .int x1), (3, .int x3), (4, .int x4)]) [1, 3, 4] rfl ?_
        exact hB230 c0_fitting x3 x4 hf
      have hf := ite_f hf c14
      refine z_iload h dX12_ask_71 5 rfl rfl ?_
      refine z_bipush h (v := (100 : Int32)) dX12_ask_73 (by decide) rfl ?_
      refine z_idiv h dX12_ask_75 (by decide) rfl ?_
      refine z_bipush h (v := (10 : Int32)) dX12_ask_76 (by decide) rfl ?_
      refine z_irem h dX12_ask_78 (by decide) rfl ?_
      refine z_iconst h (v := (4 : Int32)) dX12_ask_79 (by decide) rfl ?_
      refine z_icmp_ge h (tgt := 108) dX12_ask_80 (by decide) rfl (fun c15 => ?_) (fun c15 => ?_)
      · have hf := ite_t hf c15
        exact hB108 c0_fitting x2 x3 x4 x5 hf
      have hf := ite_f hf c15
      refine z_iload h dX12_ask_83 5 rfl rfl ?_
      refine z_bipush h (v := (10 : Int32)) dX12_ask_85 (by decide) rfl ?_
      refine z_idiv h dX12_ask_87 (by decide) rfl ?_
      refine z_bipush h (v := (10 : Int32)) dX12_ask_88 (by decide) rfl ?_
      refine z_irem h dX12_ask_90 (by decide) rfl ?_
      refine z_iconst h (v := (4 : Int32)) dX12_ask_91 (by decide) rfl ?_
      refine z_icmp_ge h (tgt := 108) dX12_ask_92 (by decide) rfl (fun c16 => ?_) (fun c16 => ?_)
      · have hf := ite_t hf c16
        exact hB108 c0_fitting x2 x3 x4 x5 hf
      have hf := ite_f hf c16
      refine z_iload h dX12_ask_95 5 rfl rfl ?_
      refine z_bipush h (v := (10 : Int32)) dX12_ask_97 (by decide) rfl ?_
      refine z_irem h dX12_ask_99 (by decide) rfl ?_
      refine z_iconst h (v := (4 : Int32)) dX12_ask_100 (by decide) rfl ?_
      refine z_icmp_ge h (tgt := 108) dX12_ask_101 (by decide) rfl (fun c17 => ?_) (fun c17 => ?_)
      · have hf := ite_t hf c17
        exact hB108 c0_fitting x2 x3 x4 x5 hf
      have hf := ite_f hf c17
      refine z_iconst h (v := (1 : Int32)) dX12_ask_104 (by decide) rfl ?_
      refine z_goto h (tgt := 109) dX12_ask_105 (by decide) ?_
      exact hB109 c0_fitting x2 x3 x4 x5 (1 : Int32) hf
  have hL16 : ∀ (n16 : Nat) (c0_fitting : Nat → Int32) (x2 : Int32) (x3 : Int32), fX12_ask_L16 c0_sights c0_sight x1  n16 c0_fitting x2 x3 = some R → Z 0 0 [(a0, .inr (12, [.ref a0_book, .ref a0_now, .int c0_sights, .ref a0_sight, .int c0_signs, .ref a0_pad, .int c0_offs, .int c0_offAt, .int c0_offWho, .int c0_lastOff, .int c0_reason, .int c0_acts, .ref a0_can, .ref a0_fitting, .ref a0_wins, .ref a0_image, .ref a0_isKept])), (a0_sight, .inl (G.2.1, 40, .inl c0_sight)), (a0_fitting, .inl (G.2.1, 64, .inl c0_fitting))] [(0, .ref a0), (1, .int x1), (2, .int x2), (3, .int x3)] 16 [] := by
    intro n16
    induction n16 with
    | zero =>
      intro c0_fitting x2 x3 hf
      rw [fX12_ask_L16] at hf
      cases hf
    | succ n16 ih16 =>
      have hB41 : ∀ (c0_fitting : Nat → Int32) (x2 : Int32) (x3 : Int32), fX12_ask_b41 c0_sights c0_sight x1 (fX12_ask_L16 c0_sights c0_sight x1  n16) c0_fitting x2 x3 = some R → Z 0 0 [(a0, .inr (12, [.ref a0_book, .ref a0_now, .int c0_sights, .ref a0_sight, .int c0_signs, .ref a0_pad, .int c0_offs, .int c0_offAt, .int c0_offWho, .int c0_lastOff, .int c0_reason, .int c0_acts, .ref a0_can, .ref a0_fitting, .ref a0_wins, .ref a0_image, .ref a0_isKept])), (a0_sight, .inl (G.2.1, 40, .inl c0_sight)), (a0_fitting, .inl (G.2.1, 64, .inl c0_fitting))] [(0, .ref a0), (1, .int x1), (2, .int x2), (3, .int x3)] 41 [] := by
        intro c0_fitting x2 x3 hf
        rw [fX12_ask_b41] at hf
        refine z_iinc h (v := (x3 + (1 : Int32))) (lv2 := [(3, .int (x3 + (1 : Int32))), (0, .ref a0), (1, .int x1), (2, .int x2)]) (j := 3) dX12_ask_41 rfl rfl (by decide) rfl rfl ?_
        refine z_goto h (tgt := 16) dX12_ask_44 (by decide) ?_
        refine z_locs h (lv2 := [(0, .ref a0), (1, .int x1), (2, .int x2), (3, .int (x3 + (1 : Int32)))]) [1, 2, 3, 0] rfl ?_
        exact ih16 c0_fitting x2 (x3 + (1 : Int32)) hf
      intro c0_fitting x2 x3 hf
      rw [fX12_ask_L16] at hf
      refine z_iload_n h dX12_ask_16 3 rfl rfl ?_
      refine z_sipush h (v := (334 : Int32)) dX12_ask_17 (by decide) rfl ?_
      refine z_icmp_ge h (tgt := 47) dX12_ask_20 (by decide) rfl (fun c18 => ?_) (fun c18 => ?_)
      · have hf := ite_t hf c18
        refine z_bipush h (v := (-6 : Int32)) dX12_ask_47 (by decide) rfl ?_
        refine z_istore_n h (lv2 := [(3, .int (-6 : Int32)), (0, .ref a0), (1, .int x1), (2, .int x2)]) dX12_ask_49 (by decide) rfl rfl ?_
        refine z_ldc h (v := (1000000 : Int32)) dX12_ask_50 (by decide +kernel) rfl ?_
        refine z_istore h (lv2 := [(4, .int (1000000 : Int32)), (3, .int (-6 : Int32)), (0, .ref a0), (1, .int x1), (2, .int x2)]) dX12_ask_52 (by decide) rfl rfl ?_
        refine z_sipush h (v := (1000 : Int32)) dX12_ask_54 (by decide) rfl ?_
        refine z_istore h (lv2 := [(5, .int (1000 : Int32)), (4, .int (1000000 : Int32)), (3, .int (-6 : Int32)), (0, .ref a0), (1, .int x1), (2, .int x2)]) dX12_ask_57 (by decide) rfl rfl ?_
        refine z_locs h (lv2 := [(0, .ref a0), (1, .int x1), (2, .int x2), (3, .int (-6 : Int32)), (4, .int (1000000 : Int32)), (5, .int (1000 : Int32))]) [3, 4, 5, 2, 1, 0] rfl ?_
        exact hL59 zF c0_fitting x2 (-6 : Int32) (1000000 : Int32) (1000 : Int32) hf
      have hf := ite_f hf c18
      refine z_aload_n h dX12_ask_23 0 rfl rfl ?_
      refine z_iload_n h dX12_ask_24 3 rfl rfl ?_
      obtain ⟨v19, hv19, hf⟩ := bd_some hf
      refine z_callV h (np := 1) (st := []) (wr := [(a0_fitting, .inl (G.2.1, 64, .inl c0_fitting))]) [.int x3] (ctX12_isFit l G a0 a0_book a0_now a0_sight a0_pad a0_can a0_fitting a0_wins a0_image a0_isKept c0_sights c0_signs c0_offs c0_offAt c0_offWho c0_lastOff c0_reason c0_acts c0_sight x3 hv19) gX12_ask_X12_isFit (by decide +kernel) 0 rfl rfl rfl ⟨Nat.le_of_ble_eq_true rfl, Nat.le_of_ble_eq_true rfl⟩ ⟨Nat.le_refl _, Nat.le_refl _⟩ rfl rfl rfl [0, 1] [2] rfl rfl rfl rfl (by decide) (Nat.le_of_ble_eq_true rfl) dX12_ask_25 rfl rfl (fun rv19 wv19 hrv19 => ?_)
      obtain ⟨rfl, rfl⟩ := hrv19
      refine z_perm h (w2 := [(a0, .inr (12, [.ref a0_book, .ref a0_now, .int c0_sights, .ref a0_sight, .int c0_signs, .ref a0_pad, .int c0_offs, .int c0_offAt, .int c0_offWho, .int c0_lastOff, .int c0_reason, .int c0_acts, .ref a0_can, .ref a0_fitting, .ref a0_wins, .ref a0_image, .ref a0_isKept])), (a0_sight, .inl (G.2.1, 40, .inl c0_sight)), (a0_fitting, .inl (G.2.1, 64, .inl c0_fitting))]) (st := [.int v19]) [1, 2, 0] rfl rfl ?_
      refine z_if_eq h (tgt := 41) dX12_ask_28 (by decide) rfl (fun c20 => ?_) (fun c20 => ?_)
      · have hf := ite_t hf c20
        exact hB41 c0_fitting x2 x3 hf
      have hf := ite_f hf c20
      refine z_aload_n h dX12_ask_31 0 rfl rfl ?_
      refine z_get h (C := RX12) (T := TX12) (N := 17) (v := .ref a0_fitting) 0 rfl rfl 13 (by decide) (by decide +kernel) (by decide +kernel) rfl dX12_ask_32 rfl ?_
      refine z_iload_n h dX12_ask_35 2 rfl rfl ?_
      refine z_iload_n h dX12_ask_36 3 rfl rfl ?_
      obtain ⟨hg21, hf⟩ := gd_some hf
      refine z_iast h (w2 := [(a0, .inr (12, [.ref a0_book, .ref a0_now, .int c0_sights, .ref a0_sight, .int c0_signs, .ref a0_pad, .int c0_offs, .int c0_offAt, .int c0_offWho, .int c0_lastOff, .int c0_reason, .int c0_acts, .ref a0_can, .ref a0_fitting, .ref a0_wins, .ref a0_image, .ref a0_isKept])), (a0_sight, .inl (G.2.1, 40, .inl c0_sight)), (a0_fitting, .inl (G.2.1, 64, .inl (upd c0_fitting (x2).toNatClampNeg x3)))]) 2 rfl rfl hg21 dX12_ask_37 rfl rfl ?_
      refine z_iinc h (v := (x2 + (1 : Int32))) (lv2 := [(2, .int (x2 + (1 : Int32))), (0, .ref a0), (1, .int x1), (3, .int x3)]) (j := 2) dX12_ask_38 rfl rfl (by decide) rfl rfl ?_
      refine z_locs h (lv2 := [(0, .ref a0), (1, .int x1), (2, .int (x2 + (1 : Int32))), (3, .int x3)]) [1, 2, 0, 3] rfl ?_
      exact hB41 (upd c0_fitting (x2).toNatClampNeg x3) (x2 + (1 : Int32)) x3 hf
  rw [fX12_ask] at hf
  show Z 0 0 _ [(0, .ref a0), (1, .int x1)] 0 []
  refine z_iload_n h dX12_ask_0 1 rfl rfl ?_
  refine z_iconst h (v := (0 : Int32)) dX12_ask_1 (by decide) rfl ?_
  refine z_iconst h (v := (1 : Int32)) dX12_ask_2 (by decide) rfl ?_
  obtain ⟨v22, hv22, hf⟩ := bd_some hf
  refine z_callS h (np := 3) (st := []) (wr := [(a0, .inr (12, [.ref a0_book, .ref a0_now, .int c0_sights, .ref a0_sight, .int c0_signs, .ref a0_pad, .int c0_offs, .int c0_offAt, .int c0_offWho, .int c0_lastOff, .int c0_reason, .int c0_acts, .ref a0_can, .ref a0_fitting, .ref a0_wins, .ref a0_image, .ref a0_isKept])), (a0_sight, .inl (G.2.1, 40, .inl c0_sight)), (a0_fitting, .inl (G.2.1, 64, .inl c0_fitting))]) [.int x1, .int (0 : Int32), .int (1 : Int32)] (ctX12_in l G x1 (0 : Int32) (1 : Int32) hv22) gX12_ask_X12_in (by decide +kernel) rfl ⟨Nat.le_of_ble_eq_true rfl, Nat.le_of_ble_eq_true rfl⟩ ⟨Nat.le_refl _, Nat.le_refl _⟩ rfl rfl rfl [] [0, 1, 2] rfl rfl rfl rfl (by decide) (Nat.le_of_ble_eq_true rfl) dX12_ask_3 rfl rfl (fun rv22 wv22 hrv22 => ?_)
  obtain ⟨rfl, rfl⟩ := hrv22
  refine z_perm h (w2 := [(a0, .inr (12, [.ref a0_book, .ref a0_now, .int c0_sights, .ref a0_sight, .int c0_signs, .ref a0_pad, .int c0_offs, .int c0_offAt, .int c0_offWho, .int c0_lastOff, .int c0_reason, .int c0_acts, .ref a0_can, .ref a0_fitting, .ref a0_wins, .ref a0_image, .ref a0_isKept])), (a0_sight, .inl (G.2.1, 40, .inl c0_sight)), (a0_fitting, .inl (G.2.1, 64, .inl c0_fitting))]) (st := [.int v22]) [0, 1, 2] rfl rfl ?_
  refine z_if_ne h (tgt := 12) dX12_ask_6 (by decide) rfl (fun c23 => ?_) (fun c23 => ?_)
  · have hf := ite_f hf c23
    refine z_iconst h (v := (0 : Int32)) dX12_ask_12 (by decide) rfl ?_
    refine z_istore_n h (lv2 := [(2, .int (0 : Int32)), (0, .ref a0), (1, .int x1)]) dX12_ask_13 (by decide) rfl rfl ?_
    refine z_iconst h (v := (0 : Int32)) dX12_ask_14 (by decide) rfl ?_
    refine z_istore_n h (lv2 := [(3, .int (0 : Int32)), (2, .int (0 : Int32)), (0, .ref a0), (1, .int x1)]) dX12_ask_15 (by decide) rfl rfl ?_
    refine z_locs h (lv2 := [(0, .ref a0), (1, .int x1), (2, .int (0 : Int32)), (3, .int (0 : Int32))]) [2, 3, 1, 0] rfl ?_
    exact hL16 zF c0_fitting (0 : Int32) (0 : Int32) hf
  have hf := ite_t hf c23
  refine z_bipush h (v := (-2 : Int32)) dX12_ask_9 (by decide) rfl ?_
  have hf := Option.some.inj hf
  subst hf
  exact hret _ _ _ _ dX12_ask_11 ⟨rfl, rfl⟩
def fX12_firstOf_b40 (c0_wins : Nat → Int32) (x1 : Int32) (x2 : Int32)   : Option (Int32) := (some (-6 : Int32))
def fX12_firstOf_b34 (c0_wins : Nat → Int32) (x1 : Int32) (x2 : Int32) (K2 : (Int32 → Option (Int32))) (x3 : Int32) : Option (Int32) := (K2 (x3 + (1 : Int32)))
def fX12_firstOf_L2 (c0_wins : Nat → Int32) (x1 : Int32) (x2 : Int32)  : Nat → Int32 → Option (Int32)
  | 0, _ => none
  | n + 1, x3 => (if (5 : Int32) ≤ x3 then (fX12_firstOf_b40 c0_wins x1 x2  ) else (if x1 < x3 then (fX12_firstOf_b40 c0_wins x1 x2  ) else (if x3 = x2 then (fX12_firstOf_b34 c0_wins x1 x2 (fX12_firstOf_L2 c0_wins x1 x2  n) x3) else gd (inb (((5 : Int32) * (x1 - x3)) + x3) 500) ((if (c0_wins ((((5 : Int32) * (x1 - x3)) + x3)).toNatClampNeg) = (0 : Int32) then (some x3) else (fX12_firstOf_b34 c0_wins x1 x2 (fX12_firstOf_L2 c0_wins x1 x2  n) x3))))))
def fX12_firstOf (c0_wins : Nat → Int32) (x1 : Int32) (x2 : Int32) : Option (Int32) := (fX12_firstOf_L2 c0_wins x1 x2  zF (1 : Int32))
abbrev rmX12_firstOf : Room := { frames := 0, cells := 0, slots := 0, locals := 0 }
set_option maxRecDepth 100000 in
set_option maxHeartbeats 4000000 in
theorem ctX12_firstOf (l : Launch) (G : zG) (a0 a0_book a0_now a0_sight a0_pad a0_can a0_fitting a0_wins a0_image a0_isKept : Nat) (c0_sights : Int32) (c0_signs : Int32) (c0_offs : Int32) (c0_offAt : Int32) (c0_offWho : Int32) (c0_lastOff : Int32) (c0_reason : Int32) (c0_acts : Int32) (c0_wins : Nat → Int32) (x1 : Int32) (x2 : Int32) {R : Int32} (hf : fX12_firstOf c0_wins x1 x2 = some R) : zCt l yX12_firstOf wsX12_firstOf rmX12_firstOf G [(a0, .inr (12, [.ref a0_book, .ref a0_now, .int c0_sights, .ref a0_sight, .int c0_signs, .ref a0_pad, .int c0_offs, .int c0_offAt, .int c0_offWho, .int c0_lastOff, .int c0_reason, .int c0_acts, .ref a0_can, .ref a0_fitting, .ref a0_wins, .ref a0_image, .ref a0_isKept])), (a0_wins, .inl (G.2.2.1, 500, .inl c0_wins))] [.ref a0, .int x1, .int x2] (fun v w => v = some (.int (R)) ∧ w = [(a0, .inr (12, [.ref a0_book, .ref a0_now, .int c0_sights, .ref a0_sight, .int c0_signs, .ref a0_pad, .int c0_offs, .int c0_offAt, .int c0_offWho, .int c0_lastOff, .int c0_reason, .int c0_acts, .ref a0_can, .ref a0_fitting, .ref a0_wins, .ref a0_image, .ref a0_isKept])), (a0_wins, .inl (G.2.2.1, 500, .inl c0_wins))]) := by
  refine zMkI (own := RX12) false (by decide) (by decide +kernel) rfl rfl (Nat.le_of_ble_eq_true rfl) ?_
  intro Z h hret
  have hB40 : fX12_firstOf_b40 c0_wins x1 x2   = some R → Z 0 0 [(a0, .inr (12, [.ref a0_book, .ref a0_now, .int c0_sights, .ref a0_sight, .int c0_signs, .ref a0_pad, .int c0_offs, .int c0_offAt, .int c0_offWho, .int c0_lastOff, .int c0_reason, .int c0_acts, .ref a0_can, .ref a0_fitting, .ref a0_wins, .ref a0_image, .ref a0_isKept])), (a0_wins, .inl (G.2.2.1, 500, .inl c0_wins))] [] 40 [] := by
    intro hf
    rw [fX12_firstOf_b40] at hf
    refine z_bipush h (v := (-6 : Int32)) dX12_firstOf_40 (by decide) rfl ?_
    have hf := Option.some.inj hf
    subst hf
    exact hret _ _ _ _ dX12_firstOf_42 ⟨rfl, rfl⟩
  have hL2 : ∀ (n2 : Nat) (x3 : Int32), fX12_firstOf_L2 c0_wins x1 x2  n2 x3 = some R → Z 0 0 [(a0, .inr (12, [.ref a0_book, .ref a0_now, .int c0_sights, .ref a0_sight, .int c0_signs, .ref a0_pad, .int c0_offs, .int c0_offAt, .int c0_offWho, .int c0_lastOff, .int c0_reason, .int c0_acts, .ref a0_can, .ref a0_fitting, .ref a0_wins, .ref a0_image, .ref a0_isKept])), (a0_wins, .inl (G.2.2.1, 500, .inl c0_wins))] [(0, .ref a0), (1, .int x1), (2, .int x2), (3, .int x3)] 2 [] := by
    intro n2
    induction n2 with
    | zero =>
      intro x3 hf
      rw [fX12_firstOf_L2] at hf
      cases hf
    | succ n2 ih2 =>
      have hB34 : ∀ (x3 : Int32), fX12_firstOf_b34 c0_wins x1 x2 (fX12_firstOf_L2 c0_wins x1 x2  n2) x3 = some R → Z 0 0 [(a0, .inr (12, [.ref a0_book, .ref a0_now, .int c0_sights, .ref a0_sight, .int c0_signs, .ref a0_pad, .int c0_offs, .int c0_offAt, .int c0_offWho, .int c0_lastOff, .int c0_reason, .int c0_acts, .ref a0_can, .ref a0_fitting, .ref a0_wins, .ref a0_image, .ref a0_isKept])), (a0_wins, .inl (G.2.2.1, 500, .inl c0_wins))] [(0, .ref a0), (1, .int x1), (2, .int x2), (3, .int x3)] 34 [] := by
        intro x3 hf
        rw [fX12_firstOf_b34] at hf
        refine z_iinc h (v := (x3 + (1 : Int32))) (lv2 := [(3, .int (x3 + (1 : Int32))), (0, .ref a0), (1, .int x1), (2, .int x2)]) (j := 3) dX12_firstOf_34 rfl rfl (by decide) rfl rfl ?_
        refine z_goto h (tgt := 2) dX12_firstOf_37 (by decide) ?_
        refine z_locs h (lv2 := [(0, .ref a0), (1, .int x1), (2, .int x2), (3, .int (x3 + (1 : Int32)))]) [1, 2, 3, 0] rfl ?_
        exact ih2 (x3 + (1 : Int32)) hf
      intro x3 hf
      rw [fX12_firstOf_L2] at hf
      refine z_iload_n h dX12_firstOf_2 3 rfl rfl ?_
      refine z_iconst h (v := (5 : Int32)) dX12_firstOf_3 (by decide) rfl ?_
      refine z_icmp_ge h (tgt := 40) dX12_firstOf_4 (by decide) rfl (fun c1 => ?_) (fun c1 => ?_)
      · have hf := ite_t hf c1
        refine z_locs h (lv2 := []) [] rfl ?_
        exact hB40  hf
      have hf := ite_f hf c1
      refine z_iload_n h dX12_firstOf_7 3 rfl rfl ?_
      refine z_iload_n h dX12_firstOf_8 1 rfl rfl ?_
      refine z_icmp_gt h (tgt := 40) dX12_firstOf_9 (by decide) rfl (fun c2 => ?_) (fun c2 => ?_)
      · have hf := ite_t hf c2
        refine z_locs h (lv2 := []) [] rfl ?_
        exact hB40  hf
      have hf := ite_f hf c2
      refine z_iload_n h dX12_firstOf_12 3 rfl rfl ?_
      refine z_iload_n h dX12_firstOf_13 2 rfl rfl ?_
      refine z_icmp_eq h (tgt := 34) dX12_firstOf_14 (by decide) rfl (fun c3 => ?_) (fun c3 => ?_)
      · have hf := ite_t hf c3
        exact hB34 x3 hf
      have hf := ite_f hf c3
      refine z_aload_n h dX12_firstOf_17 0 rfl rfl ?_
      refine z_get h (C := RX12) (T := TX12) (N := 17) (v := .ref a0_wins) 0 rfl rfl 14 (by decide) (by decide +kernel) (by decide +kernel) rfl dX12_firstOf_18 rfl ?_
      refine z_iconst h (v := (5 : Int32)) dX12_firstOf_21 (by decide) rfl ?_
      refine z_iload_n h dX12_firstOf_22 1 rfl rfl ?_
      refine z_iload_n h dX12_firstOf_23 3 rfl rfl ?_
      refine z_isub h dX12_firstOf_24 rfl ?_
      refine z_imul h dX12_firstOf_25 rfl ?_
      refine z_iload_n h dX12_firstOf_26 3 rfl rfl ?_
      refine z_iadd h dX12_firstOf_27 rfl ?_
      obtain ⟨hg4, hf⟩ := gd_some hf
      refine z_zald h 1 rfl rfl hg4 dX12_firstOf_28 rfl ?_
      refine z_if_ne h (tgt := 34) dX12_firstOf_29 (by decide) rfl (fun c5 => ?_) (fun c5 => ?_)
      · have hf := ite_f hf c5
        exact hB34 x3 hf
      have hf := ite_t hf c5
      refine z_iload_n h dX12_firstOf_32 3 rfl rfl ?_
      have hf := Option.some.inj hf
      subst hf
      exact hret _ _ _ _ dX12_firstOf_33 ⟨rfl, rfl⟩
  rw [fX12_firstOf] at hf
  show Z 0 0 _ [(0, .ref a0), (1, .int x1), (2, .int x2)] 0 []
  refine z_iconst h (v := (1 : Int32)) dX12_firstOf_0 (by decide) rfl ?_
  refine z_istore_n h (lv2 := [(3, .int (1 : Int32)), (0, .ref a0), (1, .int x1), (2, .int x2)]) dX12_firstOf_1 (by decide) rfl rfl ?_
  refine z_locs h (lv2 := [(0, .ref a0), (1, .int x1), (2, .int x2), (3, .int (1 : Int32))]) [1, 2, 3, 0] rfl ?_
  exact hL2 zF (1 : Int32) hf
def fX12_bowls_b28 (x1 : Int32) (x2 : Int32) (x3 : Int32)  (c0_wins : Nat → Int32) : Option (Int32 × (Nat → Int32)) := (some ((-2 : Int32), c0_wins))
def fX12_bowls_b117 (x1 : Int32) (x2 : Int32) (x3 : Int32)  (c0_wins : Nat → Int32) (s0 : Int32) : Option (Int32 × (Nat → Int32)) := (some (s0, c0_wins))
def fX12_bowls_b76 (x1 : Int32) (x2 : Int32) (x3 : Int32) (K34 : ((Nat → Int32) → Int32 → Option (Int32 × (Nat → Int32)))) (K43 : ((Nat → Int32) → Int32 → Int32 → Option (Int32 × (Nat → Int32)))) (c0_wins : Nat → Int32) (x4 : Int32) (x5 : Int32) (s1 : Int32) (s2 : Int32) : Option (Int32 × (Nat → Int32)) := gd (inb s1 500) ((K43 (upd c0_wins (s1).toNatClampNeg (vp_nar .boolean s2)) x4 (x5 + (1 : Int32))))
def fX12_bowls_L43 (x1 : Int32) (x2 : Int32) (x3 : Int32) (K34 : ((Nat → Int32) → Int32 → Option (Int32 × (Nat → Int32)))) : Nat → (Nat → Int32) → Int32 → Int32 → Option (Int32 × (Nat → Int32))
  | 0, _, _, _ => none
  | n + 1, c0_wins, x4, x5 => (if (5 : Int32) ≤ x5 then (K34 c0_wins (x4 + (1 : Int32))) else Option.bind (fX12_firstOf c0_wins x4 x5) (fun v3 => (if v3 < (0 : Int32) then (fX12_bowls_b76 x1 x2 x3 K34 (fX12_bowls_L43 x1 x2 x3 K34 n) c0_wins x4 x5 (((5 : Int32) * x4) + x5) (0 : Int32)) else (fX12_bowls_b76 x1 x2 x3 K34 (fX12_bowls_L43 x1 x2 x3 K34 n) c0_wins x4 x5 (((5 : Int32) * x4) + x5) (1 : Int32)))))
def fX12_bowls_L34 (x1 : Int32) (x2 : Int32) (x3 : Int32)  : Nat → (Nat → Int32) → Int32 → Option (Int32 × (Nat → Int32))
  | 0, _, _ => none
  | n + 1, c0_wins, x4 => (if x1 ≤ x4 then Option.bind (fX12_firstOf c0_wins x1 x2) (fun v6 => (if x3 = (1 : Int32) then (fX12_bowls_b117 x1 x2 x3  c0_wins v6) else (if (0 : Int32) ≤ v6 then (fX12_bowls_b117 x1 x2 x3  c0_wins (1 : Int32)) else (fX12_bowls_b117 x1 x2 x3  c0_wins (0 : Int32))))) else (fX12_bowls_L43 x1 x2 x3 (fX12_bowls_L34 x1 x2 x3  n) zF c0_wins x4 (0 : Int32)))
def fX12_bowls (c0_wins : Nat → Int32) (x1 : Int32) (x2 : Int32) (x3 : Int32) : Option (Int32 × (Nat → Int32)) := Option.bind (fX12_in x1 (0 : Int32) (99 : Int32)) (fun v9 => (if v9 = (0 : Int32) then (fX12_bowls_b28 x1 x2 x3  c0_wins) else Option.bind (fX12_in x2 (0 : Int32) (4 : Int32)) (fun v11 => (if v11 = (0 : Int32) then (fX12_bowls_b28 x1 x2 x3  c0_wins) else Option.bind (fX12_in x3 (0 : Int32) (1 : Int32)) (fun v13 => (if v13 = (0 : Int32) then (fX12_bowls_b28 x1 x2 x3  c0_wins) else (fX12_bowls_L34 x1 x2 x3  zF c0_wins (0 : Int32))))))))
abbrev rmX12_bowls : Room := { frames := 1, cells := 0, slots := 0, locals := 23 }
set_option maxRecDepth 100000 in
set_option maxHeartbeats 4000000 in
theorem ctX12_bowls (l : Launch) (G : zG) (a0 a0_book a0_now a0_sight a0_pad a0_can a0_fitting a0_wins a0_image a0_isKept : Nat) (c0_sights : Int32) (c0_signs : Int32) (c0_offs : Int32) (c0_offAt : Int32) (c0_offWho : Int32) (c0_lastOff : Int32) (c0_reason : Int32) (c0_acts : Int32) (c0_wins : Nat → Int32) (x1 : Int32) (x2 : Int32) (x3 : Int32) {R : Int32 × (Nat → Int32)} (hf : fX12_bowls c0_wins x1 x2 x3 = some R) : zCt l yX12_bowls wsX12_bowls rmX12_bowls G [(a0, .inr (12, [.ref a0_book, .ref a0_now, .int c0_sights, .ref a0_sight, .int c0_signs, .ref a0_pad, .int c0_offs, .int c0_offAt, .int c0_offWho, .int c0_lastOff, .int c0_reason, .int c0_acts, .ref a0_can, .ref a0_fitting, .ref a0_wins, .ref a0_image, .ref a0_isKept])), (a0_wins, .inl (G.2.2.1, 500, .inl c0_wins))] [.ref a0, .int x1, .int x2, .int x3] (fun v w => v = some (.int (R.1)) ∧ w = [(a0, .inr (12, [.ref a0_book, .ref a0_now, .int c0_sights, .ref a0_sight, .int c0_signs, .ref a0_pad, .int c0_offs, .int c0_offAt, .int c0_offWho, .int c0_lastOff, .int c0_reason, .int c0_acts, .ref a0_can, .ref a0_fitting, .ref a0_wins, .ref a0_image, .ref a0_isKept])), (a0_wins, .inl (G.2.2.1, 500, .inl (R.2)))]) := by
  refine zMkI (own := RX12) false (by decide) (by decide +kernel) rfl rfl (Nat.le_of_ble_eq_true rfl) ?_
  intro Z h hret
  have hB28 : ∀ (c0_wins : Nat → Int32), fX12_bowls_b28 x1 x2 x3  c0_wins = some R → Z 0 0 [(a0, .inr (12, [.ref a0_book, .ref a0_now, .int c0_sights, .ref a0_sight, .int c0_signs, .ref a0_pad, .int c0_offs, .int c0_offAt, .int c0_offWho, .int c0_lastOff, .int c0_reason, .int c0_acts, .ref a0_can, .ref a0_fitting, .ref a0_wins, .ref a0_image, .ref a0_isKept])), (a0_wins, .inl (G.2.2.1, 500, .inl c0_wins))] [] 28 [] := by
    intro c0_wins hf
    rw [fX12_bowls_b28] at hf
    refine z_bipush h (v := (-2 : Int32)) dX12_bowls_28 (by decide) rfl ?_
    have hf := Option.some.inj hf
    subst hf
    exact hret _ _ _ _ dX12_bowls_30 ⟨rfl, rfl⟩
  have hB117 : ∀ (c0_wins : Nat → Int32) (s0 : Int32), fX12_bowls_b117 x1 x2 x3  c0_wins s0 = some R → Z 0 0 [(a0, .inr (12, [.ref a0_book, .ref a0_now, .int c0_sights, .ref a0_sight, .int c0_signs, .ref a0_pad, .int c0_offs, .int c0_offAt, .int c0_offWho, .int c0_lastOff, .int c0_reason, .int c0_acts, .ref a0_can, .ref a0_fitting, .ref a0_wins, .ref a0_image, .ref a0_isKept])), (a0_wins, .inl (G.2.2.1, 500, .inl c0_wins))] [] 117 [.int s0] := by
    intro c0_wins s0 hf
    rw [fX12_bowls_b117] at hf
    have hf := Option.some.inj hf
    subst hf
    exact hret _ _ _ _ dX12_bowls_117 ⟨rfl, rfl⟩
  have hL34 : ∀ (n34 : Nat) (c0_wins : Nat → Int32) (x4 : Int32), fX12_bowls_L34 x1 x2 x3  n34 c0_wins x4 = some R → Z 0 0 [(a0, .inr (12, [.ref a0_book, .ref a0_now, .int c0_sights, .ref a0_sight, .int c0_signs, .ref a0_pad, .int c0_offs, .int c0_offAt, .int c0_offWho, .int c0_lastOff, .int c0_reason, .int c0_acts, .ref a0_can, .ref a0_fitting, .ref a0_wins, .ref a0_image, .ref a0_isKept])), (a0_wins, .inl (G.2.2.1, 500, .inl c0_wins))] [(0, .ref a0), (1, .int x1), (2, .int x2), (3, .int x3), (4, .int x4)] 34 [] := by
    intro n34
    induction n34 with
    | zero =>
      intro c0_wins x4 hf
      rw [fX12_bowls_L34] at hf
      cases hf
    | succ n34 ih34 =>
      have hL43 : ∀ (n43 : Nat) (c0_wins : Nat → Int32) (x4 : Int32) (x5 : Int32), fX12_bowls_L43 x1 x2 x3 (fX12_bowls_L34 x1 x2 x3  n34) n43 c0_wins x4 x5 = some R → Z 0 0 [(a0, .inr (12, [.ref a0_book, .ref a0_now, .int c0_sights, .ref a0_sight, .int c0_signs, .ref a0_pad, .int c0_offs, .int c0_offAt, .int c0_offWho, .int c0_lastOff, .int c0_reason, .int c0_acts, .ref a0_can, .ref a0_fitting, .ref a0_wins, .ref a0_image, .ref a0_isKept])), (a0_wins, .inl (G.2.2.1, 500, .inl c0_wins))] [(0, .ref a0), (1, .int x1), (2, .int x2), (3, .int x3), (4, .int x4), (5, .int x5)] 43 [] := by
        intro n43
        induction n43 with
        | zero =>
          intro c0_wins x4 x5 hf
          rw [fX12_bowls_L43] at hf
          cases hf
        | succ n43 ih43 =>
          have hB76 : ∀ (c0_wins : Nat → Int32) (x4 : Int32) (x5 : Int32) (s1 : Int32) (s2 : Int32), fX12_bowls_b76 x1 x2 x3 (fX12_bowls_L34 x1 x2 x3  n34) (fX12_bowls_L43 x1 x2 x3 (fX12_bowls_L34 x1 x2 x3  n34) n43) c0_wins x4 x5 s1 s2 = some R → Z 0 0 [(a0, .inr (12, [.ref a0_book, .ref a0_now, .int c0_sights, .ref a0_sight, .int c0_signs, .ref a0_pad, .int c0_offs, .int c0_offAt, .int c0_offWho, .int c0_lastOff, .int c0_reason, .int c0_acts, .ref a0_can, .ref a0_fitting, .ref a0_wins, .ref a0_image, .ref a0_isKept])), (a0_wins, .inl (G.2.2.1, 500, .inl c0_wins))] [(0, .ref a0), (1, .int x1), (2, .int x2), (3, .int x3), (4, .int x4), (5, .int x5)] 76 [.int s2, .int s1, .ref a0_wins] := by
            intro c0_wins x4 x5 s1 s2 hf
            rw [fX12_bowls_b76] at hf
            obtain ⟨hg1, hf⟩ := gd_some hf
            refine z_zast h (w2 := [(a0, .inr (12, [.ref a0_book, .ref a0_now, .int c0_sights, .ref a0_sight, .int c0_signs, .ref a0_pad, .int c0_offs, .int c0_offAt, .int c0_offWho, .int c0_lastOff, .int c0_reason, .int c0_acts, .ref a0_can, .ref a0_fitting, .ref a0_wins, .ref a0_image, .ref a0_isKept])), (a0_wins, .inl (G.2.2.1, 500, .inl (upd c0_wins (s1).toNatClampNeg (vp_nar .boolean s2))))]) 1 rfl rfl hg1 dX12_bowls_76 rfl rfl ?_
            refine z_iinc h (v := (x5 + (1 : Int32))) (lv2 := [(5, .int (x5 + (1 : Int32))), (0, .ref a0), (1, .int x1), (2, .int x2), (3, .int x3), (4, .int x4)]) (j := 5) dX12_bowls_77 rfl rfl (by decide) rfl rfl ?_
            refine z_goto h (tgt := 43) dX12_bowls_80 (by decide) ?_
            refine z_locs h (lv2 := [(0, .ref a0), (1, .int x1), (2, .int x2), (3, .int x3), (4, .int x4), (5, .int (x5 + (1 : Int32)))]) [1, 2, 3, 4, 5, 0] rfl ?_
            exact ih43 (upd c0_wins (s1).toNatClampNeg (vp_nar .boolean s2)) x4 (x5 + (1 : Int32)) hf
          intro c0_wins x4 x5 hf
          rw [fX12_bowls_L43] at hf
          refine z_iload h dX12_bowls_43 5 rfl rfl ?_
          refine z_iconst h (v := (5 : Int32)) dX12_bowls_45 (by decide) rfl ?_
          refine z_icmp_ge h (tgt := 83) dX12_bowls_46 (by decide) rfl (fun c2 => ?_) (fun c2 => ?_)
          · have hf := ite_t hf c2
            refine z_iinc h (v := (x4 + (1 : Int32))) (lv2 := [(4, .int (x4 + (1 : Int32))), (0, .ref a0), (1, .int x1), (2, .int x2), (3, .int x3), (5, .int x5)]) (j := 4) dX12_bowls_83 rfl rfl (by decide) rfl rfl ?_
            refine z_goto h (tgt := 34) dX12_bowls_86 (by decide) ?_
            refine z_locs h (lv2 := [(0, .ref a0), (1, .int x1), (2, .int x2), (3, .int x3), (4, .int (x4 + (1 : Int32)))]) [1, 2, 3, 4, 0] rfl ?_
            exact ih34 c0_wins (x4 + (1 : Int32)) hf
          have hf := ite_f hf c2
          refine z_aload_n h dX12_bowls_49 0 rfl rfl ?_
          refine z_get h (C := RX12) (T := TX12) (N := 17) (v := .ref a0_wins) 0 rfl rfl 14 (by decide) (by decide +kernel) (by decide +kernel) rfl dX12_bowls_50 rfl ?_
          refine z_iconst h (v := (5 : Int32)) dX12_bowls_53 (by decide) rfl ?_
          refine z_iload h dX12_bowls_54 4 rfl rfl ?_
          refine z_imul h dX12_bowls_56 rfl ?_
          refine z_iload h dX12_bowls_57 5 rfl rfl ?_
          refine z_iadd h dX12_bowls_59 rfl ?_
          refine z_aload_n h dX12_bowls_60 0 rfl rfl ?_
          refine z_iload h dX12_bowls_61 4 rfl rfl ?_
          refine z_iload h dX12_bowls_63 5 rfl rfl ?_
          obtain ⟨v3, hv3, hf⟩ := bd_some hf
          refine z_callV h (np := 2) (st := [.int (((5 : Int32) * x4) + x5), .ref a0_wins]) (wr := []) [.int x4, .int x5] (ctX12_firstOf l G a0 a0_book a0_now a0_sight a0_pad a0_can a0_fitting a0_wins a0_image a0_isKept c0_sights c0_signs c0_offs c0_offAt c0_offWho c0_lastOff c0_reason c0_acts c0_wins x4 x5 hv3) gX12_bowls_X12_firstOf (by decide +kernel) 0 rfl rfl rfl ⟨Nat.le_of_ble_eq_true rfl, Nat.le_of_ble_eq_true rfl⟩ ⟨Nat.le_refl _, Nat.le_refl _⟩ rfl rfl rfl [0, 1] [] rfl rfl rfl rfl (by decide) (Nat.le_of_ble_eq_true rfl) dX12_bowls_65 rfl rfl (fun rv3 wv3 hrv3 => ?_)
          obtain ⟨rfl, rfl⟩ := hrv3
          refine z_perm h (w2 := [(a0, .inr (12, [.ref a0_book, .ref a0_now, .int c0_sights, .ref a0_sight, .int c0_signs, .ref a0_pad, .int c0_offs, .int c0_offAt, .int c0_offWho, .int c0_lastOff, .int c0_reason, .int c0_acts, .ref a0_can, .ref a0_fitting, .ref a0_wins, .ref a0_image, .ref a0_isKept])), (a0_wins, .inl (G.2.2.1, 500, .inl c0_wins))]) (st := [.int v3, .int (((5 : Int32) * x4) + x5), .ref a0_wins]) [0, 1] rfl rfl ?_
          refine z_if_lt h (tgt := 75) dX12_bowls_68 (by decide) rfl (fun c4 => ?_) (fun c4 => ?_)
          · have hf := ite_t hf c4
            refine z_iconst h (v := (0 : Int32)) dX12_bowls_75 (by decide) rfl ?_
            exact hB76 c0_wins x4 x5 (((5 : Int32) * x4) + x5) (0 : Int32) hf
          have hf := ite_f hf c4
          refine z_iconst h (v := (1 : Int32)) dX12_bowls_71 (by decide) rfl ?_
          refine z_goto h (tgt := 76) dX12_bowls_72 (by decide) ?_
          exact hB76 c0_wins x4 x5 (((5 : Int32) * x4) + x5) (1 : Int32) hf
      intro c0_wins x4 hf
      rw [fX12_bowls_L34] at hf
      refine z_iload h dX12_bowls_34 4 rfl rfl ?_
      refine z_iload_n h dX12_bowls_36 1 rfl rfl ?_
      refine z_icmp_ge h (tgt := 89) dX12_bowls_37 (by decide) rfl (fun c5 => ?_) (fun c5 => ?_)
      · have hf := ite_t hf c5
        refine z_aload_n h dX12_bowls_89 0 rfl rfl ?_
        refine z_iload_n h dX12_bowls_90 1 rfl rfl ?_
        refine z_iload_n h dX12_bowls_91 2 rfl rfl ?_
        obtain ⟨v6, hv6, hf⟩ := bd_some hf
        refine z_callV h (np := 2) (st := []) (wr := []) [.int x1, .int x2] (ctX12_firstOf l G a0 a0_book a0_now a0_sight a0_pad a0_can a0_fitting a0_wins a0_image a0_isKept c0_sights c0_signs c0_offs c0_offAt c0_offWho c0_lastOff c0_reason c0_acts c0_wins x1 x2 hv6) gX12_bowls_X12_firstOf (by decide +kernel) 0 rfl rfl rfl ⟨Nat.le_of_ble_eq_true rfl, Nat.le_of_ble_eq_true rfl⟩ ⟨Nat.le_refl _, Nat.le_refl _⟩ rfl rfl rfl [0, 1] [] rfl rfl rfl rfl (by decide) (Nat.le_of_ble_eq_true rfl) dX12_bowls_92 rfl rfl (fun rv6 wv6 hrv6 => ?_)
        obtain ⟨rfl, rfl⟩ := hrv6
        refine z_perm h (w2 := [(a0, .inr (12, [.ref a0_book, .ref a0_now, .int c0_sights, .ref a0_sight, .int c0_signs, .ref a0_pad, .int c0_offs, .int c0_offAt, .int c0_offWho, .int c0_lastOff, .int c0_reason, .int c0_acts, .ref a0_can, .ref a0_fitting, .ref a0_wins, .ref a0_image, .ref a0_isKept])), (a0_wins, .inl (G.2.2.1, 500, .inl c0_wins))]) (st := [.int v6]) [0, 1] rfl rfl ?_
        refine z_istore h (lv2 := [(4, .int v6), (0, .ref a0), (1, .int x1), (2, .int x2), (3, .int x3)]) dX12_bowls_95 (by decide) rfl rfl ?_
        refine z_iload_n h dX12_bowls_97 4 rfl rfl ?_
        refine z_iconst h (v := (1 : Int32)) dX12_bowls_98 (by decide) rfl ?_
        refine z_icmp_ne h (tgt := 107) dX12_bowls_99 (by decide) rfl (fun c7 => ?_) (fun c7 => ?_)
        · have hf := ite_f hf c7
          refine z_iload h dX12_bowls_107 0 rfl rfl ?_
          refine z_if_ge h (tgt := 116) dX12_bowls_109 (by decide) rfl (fun c8 => ?_) (fun c8 => ?_)
          · have hf := ite_t hf c8
            refine z_iconst h (v := (1 : Int32)) dX12_bowls_116 (by decide) rfl ?_
            refine z_locs h (lv2 := []) [] rfl ?_
            exact hB117 c0_wins (1 : Int32) hf
          have hf := ite_f hf c8
          refine z_iconst h (v := (0 : Int32)) dX12_bowls_112 (by decide) rfl ?_
          refine z_goto h (tgt := 117) dX12_bowls_113 (by decide) ?_
          refine z_locs h (lv2 := []) [] rfl ?_
          exact hB117 c0_wins (0 : Int32) hf
        have hf := ite_t hf c7
        refine z_iload h dX12_bowls_102 0 rfl rfl ?_
        refine z_goto h (tgt := 117) dX12_bowls_104 (by decide) ?_
        refine z_locs h (lv2 := []) [] rfl ?_
        exact hB117 c0_wins v6 hf
      have hf := ite_f hf c5
      refine z_iconst h (v := (0 : Int32)) dX12_bowls_40 (by decide) rfl ?_
      refine z_istore h (lv2 := [(5, .int (0 : Int32)), (0, .ref a0), (1, .int x1), (2, .int x2), (3, .int x3), (4, .int x4)]) dX12_bowls_41 (by decide) rfl rfl ?_
      refine z_locs h (lv2 := [(0, .ref a0), (1, .int x1), (2, .int x2), (3, .int x3), (4, .int x4), (5, .int (0 : Int32))]) [1, 2, 3, 4, 5, 0] rfl ?_
      exact hL43 zF c0_wins x4 (0 : Int32) hf
  rw [fX12_bowls] at hf
  show Z 0 0 _ [(0, .ref a0), (1, .int x1), (2, .int x2), (3, .int x3)] 0 []
  refine z_iload_n h dX12_bowls_0 1 rfl rfl ?_
  refine z_iconst h (v := (0 : Int32)) dX12_bowls_1 (by decide) rfl ?_
  refine z_bipush h (v := (99 : Int32)) dX12_bowls_2 (by decide) rfl ?_
  obtain ⟨v9, hv9, hf⟩ := bd_some hf
  refine z_callS h (np := 3) (st := []) (wr := [(a0, .inr (12, [.ref a0_book, .ref a0_now, .int c0_sights, .ref a0_sight, .int c0_signs, .ref a0_pad, .int c0_offs, .int c0_offAt, .int c0_offWho, .int c0_lastOff, .int c0_reason, .int c0_acts, .ref a0_can, .ref a0_fitting, .ref a0_wins, .ref a0_image, .ref a0_isKept])), (a0_wins, .inl (G.2.2.1, 500, .inl c0_wins))]) [.int x1, .int (0 : Int32), .int (99 : Int32)] (ctX12_in l G x1 (0 : Int32) (99 : Int32) hv9) gX12_bowls_X12_in (by decide +kernel) rfl ⟨Nat.le_of_ble_eq_true rfl, Nat.le_of_ble_eq_true rfl⟩ ⟨Nat.le_refl _, Nat.le_refl _⟩ rfl rfl rfl [] [0, 1] rfl rfl rfl rfl (by decide) (Nat.le_of_ble_eq_true rfl) dX12_bowls_4 rfl rfl (fun rv9 wv9 hrv9 => ?_)
  obtain ⟨rfl, rfl⟩ := hrv9
  refine z_perm h (w2 := [(a0, .inr (12, [.ref a0_book, .ref a0_now, .int c0_sights, .ref a0_sight, .int c0_signs, .ref a0_pad, .int c0_offs, .int c0_offAt, .int c0_offWho, .int c0_lastOff, .int c0_reason, .int c0_acts, .ref a0_can, .ref a0_fitting, .ref a0_wins, .ref a0_image, .ref a0_isKept])), (a0_wins, .inl (G.2.2.1, 500, .inl c0_wins))]) (st := [.int v9]) [0, 1] rfl rfl ?_
  refine z_if_eq h (tgt := 28) dX12_bowls_7 (by decide) rfl (fun c10 => ?_) (fun c10 => ?_)
  · have hf := ite_t hf c10
    refine z_locs h (lv2 := []) [] rfl ?_
    exact hB28 c0_wins hf
  have hf := ite_f hf c10
  refine z_iload_n h dX12_bowls_10 2 rfl rfl ?_
  refine z_iconst h (v := (0 : Int32)) dX12_bowls_11 (by decide) rfl ?_
  refine z_iconst h (v := (4 : Int32)) dX12_bowls_12 (by decide) rfl ?_
  obtain ⟨v11, hv11, hf⟩ := bd_some hf
  refine z_callS h (np := 3) (st := []) (wr := [(a0, .inr (12, [.ref a0_book, .ref a0_now, .int c0_sights, .ref a0_sight, .int c0_signs, .ref a0_pad, .int c0_offs, .int c0_offAt, .int c0_offWho, .int c0_lastOff, .int c0_reason, .int c0_acts, .ref a0_can, .ref a0_fitting, .ref a0_wins, .ref a0_image, .ref a0_isKept])), (a0_wins, .inl (G.2.2.1, 500, .inl c0_wins))]) [.int x2, .int (0 : Int32), .int (4 : Int32)] (ctX12_in l G x2 (0 : Int32) (4 : Int32) hv11) gX12_bowls_X12_in (by decide +kernel) rfl ⟨Nat.le_of_ble_eq_true rfl, Nat.le_of_ble_eq_true rfl⟩ ⟨Nat.le_refl _, Nat.le_refl _⟩ rfl rfl rfl [] [0, 1] rfl rfl rfl rfl (by decide) (Nat.le_of_ble_eq_true rfl) dX12_bowls_13 rfl rfl (fun rv11 wv11 hrv11 => ?_)
  obtain ⟨rfl, rfl⟩ := hrv11
  refine z_perm h (w2 := [(a0, .inr (12, [.ref a0_book, .ref a0_now, .int c0_sights, .ref a0_sight, .int c0_signs, .ref a0_pad, .int c0_offs, .int c0_offAt, .int c0_offWho, .int c0_lastOff, .int c0_reason, .int c0_acts, .ref a0_can, .ref a0_fitting, .ref a0_wins, .ref a0_image, .ref a0_isKept])), (a0_wins, .inl (G.2.2.1, 500, .inl c0_wins))]) (st := [.int v11]) [0, 1] rfl rfl ?_
  refine z_if_eq h (tgt := 28) dX12_bowls_16 (by decide) rfl (fun c12 => ?_) (fun c12 => ?_)
  · have hf := ite_t hf c12
    refine z_locs h (lv2 := []) [] rfl ?_
    exact hB28 c0_wins hf
  have hf := ite_f hf c12
  refine z_iload_n h dX12_bowls_19 3 rfl rfl ?_
  refine z_iconst h (v := (0 : Int32)) dX12_bowls_20 (by decide) rfl ?_
  refine z_iconst h (v := (1 : Int32)) dX12_bowls_21 (by decide) rfl ?_
  obtain ⟨v13, hv13, hf⟩ := bd_some hf
  refine z_callS h (np := 3) (st := []) (wr := [(a0, .inr (12, [.ref a0_book, .ref a0_now, .int c0_sights, .ref a0_sight, .int c0_signs, .ref a0_pad, .int c0_offs, .int c0_offAt, .int c0_offWho, .int c0_lastOff, .int c0_reason, .int c0_acts, .ref a0_can, .ref a0_fitting, .ref a0_wins, .ref a0_image, .ref a0_isKept])), (a0_wins, .inl (G.2.2.1, 500, .inl c0_wins))]) [.int x3, .int (0 : Int32), .int (1 : Int32)] (ctX12_in l G x3 (0 : Int32) (1 : Int32) hv13) gX12_bowls_X12_in (by decide +kernel) rfl ⟨Nat.le_of_ble_eq_true rfl, Nat.le_of_ble_eq_true rfl⟩ ⟨Nat.le_refl _, Nat.le_refl _⟩ rfl rfl rfl [] [0, 1] rfl rfl rfl rfl (by decide) (Nat.le_of_ble_eq_true rfl) dX12_bowls_22 rfl rfl (fun rv13 wv13 hrv13 => ?_)
  obtain ⟨rfl, rfl⟩ := hrv13
  refine z_perm h (w2 := [(a0, .inr (12, [.ref a0_book, .ref a0_now, .int c0_sights, .ref a0_sight, .int c0_signs, .ref a0_pad, .int c0_offs, .int c0_offAt, .int c0_offWho, .int c0_lastOff, .int c0_reason, .int c0_acts, .ref a0_can, .ref a0_fitting, .ref a0_wins, .ref a0_image, .ref a0_isKept])), (a0_wins, .inl (G.2.2.1, 500, .inl c0_wins))]) (st := [.int v13]) [0, 1] rfl rfl ?_
  refine z_if_ne h (tgt := 31) dX12_bowls_25 (by decide) rfl (fun c14 => ?_) (fun c14 => ?_)
  · have hf := ite_f hf c14
    refine z_iconst h (v := (0 : Int32)) dX12_bowls_31 (by decide) rfl ?_
    refine z_istore h (lv2 := [(4, .int (0 : Int32)), (0, .ref a0), (1, .int x1), (2, .int x2), (3, .int x3)]) dX12_bowls_32 (by decide) rfl rfl ?_
    refine z_locs h (lv2 := [(0, .ref a0), (1, .int x1), (2, .int x2), (3, .int x3), (4, .int (0 : Int32))]) [1, 2, 3, 4, 0] rfl ?_
    exact hL34 zF c0_wins (0 : Int32) hf
  have hf := ite_t hf c14
  refine z_locs h (lv2 := []) [] rfl ?_
  exact hB28 c0_wins hf
def fX12_gale_b29 (x1 : Int32) (x2 : Int32) (x3 : Int32)  (c0_now : Nat → Int32) : Option (Int64 × (Nat → Int32)) := (some ((-1000000000000000002 : Int64), c0_now))
def fX12_gale_b184 (x1 : Int32) (x2 : Int32) (x3 : Int32)  (c0_now : Nat → Int32) (s0 : Int64) : Option (Int64 × (Nat → Int32)) := (some (s0, c0_now))
def fX12_gale_L141 (x1 : Int32) (x2 : Int32) (x3 : Int32)  : Nat → (Nat → Int32) → Int64 → Int64 → Int64 → Option (Int64 × (Nat → Int32))
  | 0, _, _, _, _ => none
  | n + 1, c0_now, x4, x6, x8 => (if (lg_cmp x8 (0 : Int64)) = (0 : Int32) then (if x3 = (0 : Int32) then gd (x6 != 0) ((fX12_gale_b184 x1 x2 x3  c0_now (x4 / x6))) else gd (x6 != 0) ((fX12_gale_b184 x1 x2 x3  c0_now ((216 : Int64) / x6)))) else gd (x8 != 0) (((fX12_gale_L141 x1 x2 x3  n) c0_now x4 x8 (lrm x6 x8))))
def fX12_gale_b123 (x1 : Int32) (x2 : Int32) (x3 : Int32) (K39 : ((Nat → Int32) → Int64 → Int32 → Option (Int64 × (Nat → Int32)))) (c0_now : Nat → Int32) (x6 : Int32) (s0 : Int64) (s1 : Int64) : Option (Int64 × (Nat → Int32)) := (K39 c0_now (s0 + s1) (x6 + (1 : Int32)))
def fX12_gale_L39 (x1 : Int32) (x2 : Int32) (x3 : Int32)  : Nat → (Nat → Int32) → Int64 → Int32 → Option (Int64 × (Nat → Int32))
  | 0, _, _, _ => none
  | n + 1, c0_now, x4, x6 => (if (216 : Int32) ≤ x6 then (fX12_gale_L141 x1 x2 x3  zF c0_now x4 x4 (216 : Int64)) else gd (inb (48 : Int32) 56) (gd (inb (49 : Int32) 56) (gd (inb (50 : Int32) 56) (Option.bind (fX12_blowHour (upd (upd (upd c0_now ((48 : Int32)).toNatClampNeg (x6 / (18 : Int32))) ((49 : Int32)).toNatClampNeg (irm (x6 / (9 : Int32)) (2 : Int32))) ((50 : Int32)).toNatClampNeg ((1 : Int32) + (irm x6 (9 : Int32))))) (fun v10 => (if x2 = (1 : Int32) then Option.bind (fX12_bits v10.1) (fun v14 => (fX12_gale_b123 x1 x2 x3 (fX12_gale_L39 x1 x2 x3  n) v10.2 x6 x4 (Int32.toInt64 v14))) else Option.bind (fX12_has v10.1 x1) (fun v12 => (if v12 = (0 : Int32) then (fX12_gale_b123 x1 x2 x3 (fX12_gale_L39 x1 x2 x3  n) v10.2 x6 x4 (0 : Int64)) else (fX12_gale_b123 x1 x2 x3 (fX12_gale_L39 x1 x2 x3  n) v10.2 x6 x4 (1 : Int64))))))))))
def fX12_gale (c0_now : Nat → Int32) (x1 : Int32) (x2 : Int32) (x3 : Int32) : Option (Int64 × (Nat → Int32)) := Option.bind (fX12_isCell x1) (fun v15 => (if v15 = (0 : Int32) then (some ((-1000000000000000001 : Int64), c0_now)) else Option.bind (fX12_in x2 (0 : Int32) (1 : Int32)) (fun v17 => (if v17 = (0 : Int32) then (fX12_gale_b29 x1 x2 x3  c0_now) else Option.bind (fX12_in x3 (0 : Int32) (1 : Int32)) (fun v19 => (if v19 = (0 : Int32) then (fX12_gale_b29 x1 x2 x3  c0_now) else (fX12_gale_L39 x1 x2 x3  zF c0_now (0 : Int64) (0 : Int32))))))))
abbrev rmX12_gale : Room := { frames := 4, cells := 0, slots := 0, locals := 85 }
set_option maxRecDepth 100000 in
set_option maxHeartbeats 4000000 in
theorem ctX12_gale (l : Launch) (G : zG) (a0 a0_book a0_now a0_sight a0_pad a0_can a0_fitting a0_wins a0_image a0_isKept : Nat) (c0_sights : Int32) (c0_signs : Int32) (c0_offs : Int32) (c0_offAt : Int32) (c0_offWho : Int32) (c0_lastOff : Int32) (c0_reason : Int32) (c0_acts : Int32) (c0_now : Nat → Int32) (x1 : Int32) (x2 : Int32) (x3 : Int32) {R : Int64 × (Nat → Int32)} (hf : fX12_gale c0_now x1 x2 x3 = some R) : zCt l yX12_gale wsX12_gale rmX12_gale G [(a0, .inr (12, [.ref a0_book, .ref a0_now, .int c0_sights, .ref a0_sight, .int c0_signs, .ref a0_pad, .int c0_offs, .int c0_offAt, .int c0_offWho, .int c0_lastOff, .int c0_reason, .int c0_acts, .ref a0_can, .ref a0_fitting, .ref a0_wins, .ref a0_image, .ref a0_isKept])), (a0_now, .inl (G.2.1, 56, .inl c0_now))] [.ref a0, .int x1, .int x2, .int x3] (fun v w => v = some (.long (R.1)) ∧ w = [(a0, .inr (12, [.ref a0_book, .ref a0_now, .int c0_sights, .ref a0_sight, .int c0_signs, .ref a0_pad, .int c0_offs, .int c0_offAt, .int c0_offWho, .int c0_lastOff, .int c0_reason, .int c0_acts, .ref a0_can, .ref a0_fitting, .ref a0_wins, .ref a0_image, .ref a0_isKept])), (a0_now, .inl (G.2.1, 56, .inl (R.2)))]) := by
  refine zMkL (own := RX12) false (by decide) (by decide +kernel) rfl rfl (Nat.le_of_ble_eq_true rfl) ?_
  intro Z h hret
  have hB29 : ∀ (c0_now : Nat → Int32), fX12_gale_b29 x1 x2 x3  c0_now = some R → Z 0 0 [(a0, .inr (12, [.ref a0_book, .ref a0_now, .int c0_sights, .ref a0_sight, .int c0_signs, .ref a0_pad, .int c0_offs, .int c0_offAt, .int c0_offWho, .int c0_lastOff, .int c0_reason, .int c0_acts, .ref a0_can, .ref a0_fitting, .ref a0_wins, .ref a0_image, .ref a0_isKept])), (a0_now, .inl (G.2.1, 56, .inl c0_now))] [] 29 [] := by
    intro c0_now hf
    rw [fX12_gale_b29] at hf
    refine z_ldc2_w h (v := (-1000000000000000002 : Int64)) dX12_gale_29 (by decide +kernel) rfl ?_
    have hf := Option.some.inj hf
    subst hf
    exact hret _ _ _ _ dX12_gale_32 ⟨rfl, rfl⟩
  have hB184 : ∀ (c0_now : Nat → Int32) (s0 : Int64), fX12_gale_b184 x1 x2 x3  c0_now s0 = some R → Z 0 0 [(a0, .inr (12, [.ref a0_book, .ref a0_now, .int c0_sights, .ref a0_sight, .int c0_signs, .ref a0_pad, .int c0_offs, .int c0_offAt, .int c0_offWho, .int c0_lastOff, .int c0_reason, .int c0_acts, .ref a0_can, .ref a0_fitting, .ref a0_wins, .ref a0_image, .ref a0_isKept])), (a0_now, .inl (G.2.1, 56, .inl c0_now))] [] 184 [.long s0] := by
    intro c0_now s0 hf
    rw [fX12_gale_b184] at hf
    have hf := Option.some.inj hf
    subst hf
    exact hret _ _ _ _ dX12_gale_184 ⟨rfl, rfl⟩
  have hL141 : ∀ (n141 : Nat) (c0_now : Nat → Int32) (x4 : Int64) (x6 : Int64) (x8 : Int64), fX12_gale_L141 x1 x2 x3  n141 c0_now x4 x6 x8 = some R → Z 0 0 [(a0, .inr (12, [.ref a0_book, .ref a0_now, .int c0_sights, .ref a0_sight, .int c0_signs, .ref a0_pad, .int c0_offs, .int c0_offAt, .int c0_offWho, .int c0_lastOff, .int c0_reason, .int c0_acts, .ref a0_can, .ref a0_fitting, .ref a0_wins, .ref a0_image, .ref a0_isKept])), (a0_now, .inl (G.2.1, 56, .inl c0_now))] [(3, .int x3), (4, .long x4), (6, .long x6), (8, .long x8)] 141 [] := by
    intro n141
    induction n141 with
    | zero =>
      intro c0_now x4 x6 x8 hf
      rw [fX12_gale_L141] at hf
      cases hf
    | succ n141 ih141 =>
      intro c0_now x4 x6 x8 hf
      rw [fX12_gale_L141] at hf
      refine z_lload h dX12_gale_141 3 rfl rfl ?_
      refine z_lconst h (v := (0 : Int64)) dX12_gale_143 (by decide) rfl ?_
      refine z_lcmp h dX12_gale_144 rfl ?_
      refine z_if_eq h (tgt := 166) dX12_gale_145 (by decide) rfl (fun c1 => ?_) (fun c1 => ?_)
      · have hf := ite_t hf c1
        refine z_iload_n h dX12_gale_166 0 rfl rfl ?_
        refine z_if_ne h (tgt := 178) dX12_gale_167 (by decide) rfl (fun c2 => ?_) (fun c2 => ?_)
        · have hf := ite_f hf c2
          refine z_ldc2_w h (v := (216 : Int64)) dX12_gale_178 (by decide +kernel) rfl ?_
          refine z_lload h dX12_gale_181 2 rfl rfl ?_
          obtain ⟨hg3, hf⟩ := gd_some hf
          refine z_ldiv h dX12_gale_183 (nz_neL hg3) rfl ?_
          refine z_locs h (lv2 := []) [] rfl ?_
          exact hB184 c0_now ((216 : Int64) / x6) hf
        have hf := ite_t hf c2
        refine z_lload h dX12_gale_170 1 rfl rfl ?_
        refine z_lload h dX12_gale_172 2 rfl rfl ?_
        obtain ⟨hg4, hf⟩ := gd_some hf
        refine z_ldiv h dX12_gale_174 (nz_neL hg4) rfl ?_
        refine z_goto h (tgt := 184) dX12_gale_175 (by decide) ?_
        refine z_locs h (lv2 := []) [] rfl ?_
        exact hB184 c0_now (x4 / x6) hf
      have hf := ite_f hf c1
      refine z_lload h dX12_gale_148 2 rfl rfl ?_
      refine z_lload h dX12_gale_150 3 rfl rfl ?_
      obtain ⟨hg5, hf⟩ := gd_some hf
      refine z_lrem h dX12_gale_152 (nz_neL hg5) rfl ?_
      refine z_lstore h (lv2 := [(10, .long (lrm x6 x8)), (3, .int x3), (4, .long x4), (6, .long x6), (8, .long x8)]) dX12_gale_153 (by decide) rfl rfl ?_
      refine z_lload h dX12_gale_155 4 rfl rfl ?_
      refine z_lstore h (lv2 := [(6, .long x8), (10, .long (lrm x6 x8)), (3, .int x3), (4, .long x4), (8, .long x8)]) dX12_gale_157 (by decide) rfl rfl ?_
      refine z_lload h dX12_gale_159 1 rfl rfl ?_
      refine z_lstore h (lv2 := [(8, .long (lrm x6 x8)), (6, .long x8), (10, .long (lrm x6 x8)), (3, .int x3), (4, .long x4)]) dX12_gale_161 (by decide) rfl rfl ?_
      refine z_goto h (tgt := 141) dX12_gale_163 (by decide) ?_
      refine z_locs h (lv2 := [(3, .int x3), (4, .long x4), (6, .long x8), (8, .long (lrm x6 x8))]) [3, 4, 1, 0] rfl ?_
      exact ih141 c0_now x4 x8 (lrm x6 x8) hf
  have hL39 : ∀ (n39 : Nat) (c0_now : Nat → Int32) (x4 : Int64) (x6 : Int32), fX12_gale_L39 x1 x2 x3  n39 c0_now x4 x6 = some R → Z 0 0 [(a0, .inr (12, [.ref a0_book, .ref a0_now, .int c0_sights, .ref a0_sight, .int c0_signs, .ref a0_pad, .int c0_offs, .int c0_offAt, .int c0_offWho, .int c0_lastOff, .int c0_reason, .int c0_acts, .ref a0_can, .ref a0_fitting, .ref a0_wins, .ref a0_image, .ref a0_isKept])), (a0_now, .inl (G.2.1, 56, .inl c0_now))] [(0, .ref a0), (1, .int x1), (2, .int x2), (3, .int x3), (4, .long x4), (6, .int x6)] 39 [] := by
    intro n39
    induction n39 with
    | zero =>
      intro c0_now x4 x6 hf
      rw [fX12_gale_L39] at hf
      cases hf
    | succ n39 ih39 =>
      have hB123 : ∀ (c0_now : Nat → Int32) (x6 : Int32) (s0 : Int64) (s1 : Int64), fX12_gale_b123 x1 x2 x3 (fX12_gale_L39 x1 x2 x3  n39) c0_now x6 s0 s1 = some R → Z 0 0 [(a0, .inr (12, [.ref a0_book, .ref a0_now, .int c0_sights, .ref a0_sight, .int c0_signs, .ref a0_pad, .int c0_offs, .int c0_offAt, .int c0_offWho, .int c0_lastOff, .int c0_reason, .int c0_acts, .ref a0_can, .ref a0_fitting, .ref a0_wins, .ref a0_image, .ref a0_isKept])), (a0_now, .inl (G.2.1, 56, .inl c0_now))] [(0, .ref a0), (1, .int x1), (2, .int x2), (3, .int x3), (6, .int x6)] 123 [.long s1, .long s0] := by
        intro c0_now x6 s0 s1 hf
        rw [fX12_gale_b123] at hf
        refine z_ladd h dX12_gale_123 rfl ?_
        refine z_lstore h (lv2 := [(4, .long (s0 + s1)), (0, .ref a0), (1, .int x1), (2, .int x2), (3, .int x3), (6, .int x6)]) dX12_gale_124 (by decide) rfl rfl ?_
        refine z_iinc h (v := (x6 + (1 : Int32))) (lv2 := [(6, .int (x6 + (1 : Int32))), (4, .long (s0 + s1)), (0, .ref a0), (1, .int x1), (2, .int x2), (3, .int x3)]) (j := 5) dX12_gale_126 rfl rfl (by decide) rfl rfl ?_
        refine z_goto h (tgt := 39) dX12_gale_129 (by decide) ?_
        refine z_locs h (lv2 := [(0, .ref a0), (1, .int x1), (2, .int x2), (3, .int x3), (4, .long (s0 + s1)), (6, .int (x6 + (1 : Int32)))]) [2, 3, 4, 5, 1, 0] rfl ?_
        exact ih39 c0_now (s0 + s1) (x6 + (1 : Int32)) hf
      intro c0_now x4 x6 hf
      rw [fX12_gale_L39] at hf
      refine z_iload h dX12_gale_39 5 rfl rfl ?_
      refine z_sipush h (v := (216 : Int32)) dX12_gale_41 (by decide) rfl ?_
      refine z_icmp_ge h (tgt := 132) dX12_gale_44 (by decide) rfl (fun c6 => ?_) (fun c6 => ?_)
      · have hf := ite_t hf c6
        refine z_lload h dX12_gale_132 4 rfl rfl ?_
        refine z_lstore h (lv2 := [(6, .long x4), (0, .ref a0), (1, .int x1), (2, .int x2), (3, .int x3), (4, .long x4)]) dX12_gale_134 (by decide) rfl rfl ?_
        refine z_ldc2_w h (v := (216 : Int64)) dX12_gale_136 (by decide +kernel) rfl ?_
        refine z_lstore h (lv2 := [(8, .long (216 : Int64)), (6, .long x4), (0, .ref a0), (1, .int x1), (2, .int x2), (3, .int x3), (4, .long x4)]) dX12_gale_139 (by decide) rfl rfl ?_
        refine z_locs h (lv2 := [(3, .int x3), (4, .long x4), (6, .long x4), (8, .long (216 : Int64))]) [5, 6, 1, 0] rfl ?_
        exact hL141 zF c0_now x4 x4 (216 : Int64) hf
      have hf := ite_f hf c6
      refine z_aload_n h dX12_gale_47 0 rfl rfl ?_
      refine z_get h (C := RX12) (T := TX12) (N := 17) (v := .ref a0_now) 0 rfl rfl 1 (by decide) (by decide +kernel) (by decide +kernel) rfl dX12_gale_48 rfl ?_
      refine z_bipush h (v := (48 : Int32)) dX12_gale_51 (by decide) rfl ?_
      refine z_iload h dX12_gale_53 5 rfl rfl ?_
      refine z_bipush h (v := (18 : Int32)) dX12_gale_55 (by decide) rfl ?_
      refine z_idiv h dX12_gale_57 (by decide) rfl ?_
      obtain ⟨hg7, hf⟩ := gd_some hf
      refine z_iast h (w2 := [(a0, .inr (12, [.ref a0_book, .ref a0_now, .int c0_sights, .ref a0_sight, .int c0_signs, .ref a0_pad, .int c0_offs, .int c0_offAt, .int c0_offWho, .int c0_lastOff, .int c0_reason, .int c0_acts, .ref a0_can, .ref a0_fitting, .ref a0_wins, .ref a0_image, .ref a0_isKept])), (a0_now, .inl (G.2.1, 56, .inl (upd c0_now ((48 : Int32)).toNatClampNeg (x6 / (18 : Int32)))))]) 1 rfl rfl hg7 dX12_gale_58 rfl rfl ?_
      refine z_aload_n h dX12_gale_59 0 rfl rfl ?_
      refine z_get h (C := RX12) (T := TX12) (N := 17) (v := .ref a0_now) 0 rfl rfl 1 (by decide) (by decide +kernel) (by decide +kernel) rfl dX12_gale_60 rfl ?_
      refine z_bipush h (v := (49 : Int32)) dX12_gale_63 (by decide) rfl ?_
      refine z_iload h dX12_gale_65 5 rfl rfl ?_
      refine z_bipush h (v := (9 : Int32)) dX12_gale_67 (by decide) rfl ?_
      refine z_idiv h dX12_gale_69 (by decide) rfl ?_
      refine z_iconst h (v := (2 : Int32)) dX12_gale_70 (by decide) rfl ?_
      refine z_irem h dX12_gale_71 (by decide) rfl ?_
      obtain ⟨hg8, hf⟩ := gd_some hf
      refine z_iast h (w2 := [(a0, .inr (12, [.ref a0_book, .ref a0_now, .int c0_sights, .ref a0_sight, .int c0_signs, .ref a0_pad, .int c0_offs, .int c0_offAt, .int c0_offWho, .int c0_lastOff, .int c0_reason, .int c0_acts, .ref a0_can, .ref a0_fitting, .ref a0_wins, .ref a0_image, .ref a0_isKept])), (a0_now, .inl (G.2.1, 56, .inl (upd (upd c0_now ((48 : Int32)).toNatClampNeg (x6 / (18 : Int32))) ((49 : Int32)).toNatClampNeg (irm (x6 / (9 : Int32)) (2 : Int32)))))]) 1 rfl rfl hg8 dX12_gale_72 rfl rfl ?_
      refine z_aload_n h dX12_gale_73 0 rfl rfl ?_
      refine z_get h (C := RX12) (T := TX12) (N := 17) (v := .ref a0_now) 0 rfl rfl 1 (by decide) (by decide +kernel) (by decide +kernel) rfl dX12_gale_74 rfl ?_
      refine z_bipush h (v := (50 : Int32)) dX12_gale_77 (by decide) rfl ?_
      refine z_iconst h (v := (1 : Int32)) dX12_gale_79 (by decide) rfl ?_
      refine z_iload h dX12_gale_80 5 rfl rfl ?_
      refine z_bipush h (v := (9 : Int32)) dX12_gale_82 (by decide) rfl ?_
      refine z_irem h dX12_gale_84 (by decide) rfl ?_
      refine z_iadd h dX12_gale_85 rfl ?_
      obtain ⟨hg9, hf⟩ := gd_some hf
      refine z_iast h (w2 := [(a0, .inr (12, [.ref a0_book, .ref a0_now, .int c0_sights, .ref a0_sight, .int c0_signs, .ref a0_pad, .int c0_offs, .int c0_offAt, .int c0_offWho, .int c0_lastOff, .int c0_reason, .int c0_acts, .ref a0_can, .ref a0_fitting, .ref a0_wins, .ref a0_image, .ref a0_isKept])), (a0_now, .inl (G.2.1, 56, .inl (upd (upd (upd c0_now ((48 : Int32)).toNatClampNeg (x6 / (18 : Int32))) ((49 : Int32)).toNatClampNeg (irm (x6 / (9 : Int32)) (2 : Int32))) ((50 : Int32)).toNatClampNeg ((1 : Int32) + (irm x6 (9 : Int32))))))]) 1 rfl rfl hg9 dX12_gale_86 rfl rfl ?_
      refine z_aload_n h dX12_gale_87 0 rfl rfl ?_
      obtain ⟨v10, hv10, hf⟩ := bd_some hf
      refine z_callV h (np := 0) (st := []) (wr := []) [] (ctX12_blowHour l G a0 a0_book a0_now a0_sight a0_pad a0_can a0_fitting a0_wins a0_image a0_isKept c0_sights c0_signs c0_offs c0_offAt c0_offWho c0_lastOff c0_reason c0_acts (upd (upd (upd c0_now ((48 : Int32)).toNatClampNeg (x6 / (18 : Int32))) ((49 : Int32)).toNatClampNeg (irm (x6 / (9 : Int32)) (2 : Int32))) ((50 : Int32)).toNatClampNeg ((1 : Int32) + (irm x6 (9 : Int32)))) hv10) gX12_gale_X12_blowHour (by decide +kernel) 0 rfl rfl rfl ⟨Nat.le_of_ble_eq_true rfl, Nat.le_of_ble_eq_true rfl⟩ ⟨Nat.le_refl _, Nat.le_refl _⟩ rfl rfl rfl [0, 1] [] rfl rfl rfl rfl (by decide) (Nat.le_of_ble_eq_true rfl) dX12_gale_88 rfl rfl (fun rv10 wv10 hrv10 => ?_)
      obtain ⟨rfl, rfl⟩ := hrv10
      refine z_perm h (w2 := [(a0, .inr (12, [.ref a0_book, .ref a0_now, .int c0_sights, .ref a0_sight, .int c0_signs, .ref a0_pad, .int c0_offs, .int c0_offAt, .int c0_offWho, .int c0_lastOff, .int c0_reason, .int c0_acts, .ref a0_can, .ref a0_fitting, .ref a0_wins, .ref a0_image, .ref a0_isKept])), (a0_now, .inl (G.2.1, 56, .inl v10.2))]) (st := [.int v10.1]) [0, 1] rfl rfl ?_
      refine z_istore h (lv2 := [(7, .int v10.1), (0, .ref a0), (1, .int x1), (2, .int x2), (3, .int x3), (4, .long x4), (6, .int x6)]) dX12_gale_91 (by decide) rfl rfl ?_
      refine z_lload h dX12_gale_93 5 rfl rfl ?_
      refine z_iload_n h dX12_gale_95 3 rfl rfl ?_
      refine z_iconst h (v := (1 : Int32)) dX12_gale_96 (by decide) rfl ?_
      refine z_icmp_ne h (tgt := 109) dX12_gale_97 (by decide) rfl (fun c11 => ?_) (fun c11 => ?_)
      · have hf := ite_f hf c11
        refine z_iload h dX12_gale_109 0 rfl rfl ?_
        refine z_iload_n h dX12_gale_111 2 rfl rfl ?_
        obtain ⟨v12, hv12, hf⟩ := bd_some hf
        refine z_callS h (np := 2) (st := [.long x4]) (wr := [(a0, .inr (12, [.ref a0_book, .ref a0_now, .int c0_sights, .ref a0_sight, .int c0_signs, .ref a0_pad, .int c0_offs, .int c0_offAt, .int c0_offWho, .int c0_lastOff, .int c0_reason, .int c0_acts, .ref a0_can, .ref a0_fitting, .ref a0_wins, .ref a0_image, .ref a0_isKept])), (a0_now, .inl (G.2.1, 56, .inl v10.2))]) [.int v10.1, .int x1] (ctX12_has l G v10.1 x1 hv12) gX12_gale_X12_has (by decide +kernel) rfl ⟨Nat.le_of_ble_eq_true rfl, Nat.le_of_ble_eq_true rfl⟩ ⟨Nat.le_refl _, Nat.le_refl _⟩ rfl rfl rfl [] [0, 1] rfl rfl rfl rfl (by decide) (Nat.le_of_ble_eq_true rfl) dX12_gale_112 rfl rfl (fun rv12 wv12 hrv12 => ?_)
        obtain ⟨rfl, rfl⟩ := hrv12
        refine z_perm h (w2 := [(a0, .inr (12, [.ref a0_book, .ref a0_now, .int c0_sights, .ref a0_sight, .int c0_signs, .ref a0_pad, .int c0_offs, .int c0_offAt, .int c0_offWho, .int c0_lastOff, .int c0_reason, .int c0_acts, .ref a0_can, .ref a0_fitting, .ref a0_wins, .ref a0_image, .ref a0_isKept])), (a0_now, .inl (G.2.1, 56, .inl v10.2))]) (st := [.int v12, .long x4]) [0, 1] rfl rfl ?_
        refine z_if_eq h (tgt := 122) dX12_gale_115 (by decide) rfl (fun c13 => ?_) (fun c13 => ?_)
        · have hf := ite_t hf c13
          refine z_lconst h (v := (0 : Int64)) dX12_gale_122 (by decide) rfl ?_
          refine z_locs h (lv2 := [(0, .ref a0), (1, .int x1), (2, .int x2), (3, .int x3), (6, .int x6)]) [1, 2, 3, 4, 6] rfl ?_
          exact hB123 v10.2 x6 x4 (0 : Int64) hf
        have hf := ite_f hf c13
        refine z_lconst h (v := (1 : Int64)) dX12_gale_118 (by decide) rfl ?_
        refine z_goto h (tgt := 123) dX12_gale_119 (by decide) ?_
        refine z_locs h (lv2 := [(0, .ref a0), (1, .int x1), (2, .int x2), (3, .int x3), (6, .int x6)]) [1, 2, 3, 4, 6] rfl ?_
        exact hB123 v10.2 x6 x4 (1 : Int64) hf
      have hf := ite_t hf c11
      refine z_iload h dX12_gale_100 0 rfl rfl ?_
      obtain ⟨v14, hv14, hf⟩ := bd_some hf
      refine z_callS h (np := 1) (st := [.long x4]) (wr := [(a0, .inr (12, [.ref a0_book, .ref a0_now, .int c0_sights, .ref a0_sight, .int c0_signs, .ref a0_pad, .int c0_offs, .int c0_offAt, .int c0_offWho, .int c0_lastOff, .int c0_reason, .int c0_acts, .ref a0_can, .ref a0_fitting, .ref a0_wins, .ref a0_image, .ref a0_isKept])), (a0_now, .inl (G.2.1, 56, .inl v10.2))]) [.int v10.1] (ctX12_bits l G v10.1 hv14) gX12_gale_X12_bits (by decide +kernel) rfl ⟨Nat.le_of_ble_eq_true rfl, Nat.le_of_ble_eq_true rfl⟩ ⟨Nat.le_refl _, Nat.le_refl _⟩ rfl rfl rfl [] [0, 1] rfl rfl rfl rfl (by decide) (Nat.le_of_ble_eq_true rfl) dX12_gale_102 rfl rfl (fun rv14 wv14 hrv14 => ?_)
      obtain ⟨rfl, rfl⟩ := hrv14
      refine z_perm h (w2 := [(a0, .inr (12, [.ref a0_book, .ref a0_now, .int c0_sights, .ref a0_sight, .int c0_signs, .ref a0_pad, .int c0_offs, .int c0_offAt, .int c0_offWho, .int c0_lastOff, .int c0_reason, .int c0_acts, .ref a0_can, .ref a0_fitting, .ref a0_wins, .ref a0_image, .ref a0_isKept])), (a0_now, .inl (G.2.1, 56, .inl v10.2))]) (st := [.int v14, .long x4]) [0, 1] rfl rfl ?_
      refine z_i2l h dX12_gale_105 rfl ?_
      refine z_goto h (tgt := 123) dX12_gale_106 (by decide) ?_
      refine z_locs h (lv2 := [(0, .ref a0), (1, .int x1), (2, .int x2), (3, .int x3), (6, .int x6)]) [1, 2, 3, 4, 6] rfl ?_
      exact hB123 v10.2 x6 x4 (Int32.toInt64 v14) hf
  rw [fX12_gale] at hf
  show Z 0 0 _ [(0, .ref a0), (1, .int x1), (2, .int x2), (3, .int x3)] 0 []
  refine z_iload_n h dX12_gale_0 1 rfl rfl ?_
  obtain ⟨v15, hv15, hf⟩ := bd_some hf
  refine z_callS h (np := 1) (st := []) (wr := [(a0, .inr (12, [.ref a0_book, .ref a0_now, .int c0_sights, .ref a0_sight, .int c0_signs, .ref a0_pad, .int c0_offs, .int c0_offAt, .int c0_offWho, .int c0_lastOff, .int c0_reason, .int c0_acts, .ref a0_can, .ref a0_fitting, .ref a0_wins, .ref a0_image, .ref a0_isKept])), (a0_now, .inl (G.2.1, 56, .inl c0_now))]) [.int x1] (ctX12_isCell l G x1 hv15) gX12_gale_X12_isCell (by decide +kernel) rfl ⟨Nat.le_of_ble_eq_true rfl, Nat.le_of_ble_eq_true rfl⟩ ⟨Nat.le_refl _, Nat.le_refl _⟩ rfl rfl rfl [] [0, 1] rfl rfl rfl rfl (by decide) (Nat.le_of_ble_eq_true rfl) dX12_gale_1 rfl rfl (fun rv15 wv15 hrv15 => ?_)
  obtain ⟨rfl, rfl⟩ := hrv15
  refine z_perm h (w2 := [(a0, .inr (12, [.ref a0_book, .ref a0_now, .int c0_sights, .ref a0_sight, .int c0_signs, .ref a0_pad, .int c0_offs, .int c0_offAt, .int c0_offWho, .int c0_lastOff, .int c0_reason, .int c0_acts, .ref a0_can, .ref a0_fitting, .ref a0_wins, .ref a0_image, .ref a0_isKept])), (a0_now, .inl (G.2.1, 56, .inl c0_now))]) (st := [.int v15]) [0, 1] rfl rfl ?_
  refine z_if_ne h (tgt := 11) dX12_gale_4 (by decide) rfl (fun c16 => ?_) (fun c16 => ?_)
  · have hf := ite_f hf c16
    refine z_iload_n h dX12_gale_11 2 rfl rfl ?_
    refine z_iconst h (v := (0 : Int32)) dX12_gale_12 (by decide) rfl ?_
    refine z_iconst h (v := (1 : Int32)) dX12_gale_13 (by decide) rfl ?_
    obtain ⟨v17, hv17, hf⟩ := bd_some hf
    refine z_callS h (np := 3) (st := []) (wr := [(a0, .inr (12, [.ref a0_book, .ref a0_now, .int c0_sights, .ref a0_sight, .int c0_signs, .ref a0_pad, .int c0_offs, .int c0_offAt, .int c0_offWho, .int c0_lastOff, .int c0_reason, .int c0_acts, .ref a0_can, .ref a0_fitting, .ref a0_wins, .ref a0_image, .ref a0_isKept])), (a0_now, .inl (G.2.1, 56, .inl c0_now))]) [.int x2, .int (0 : Int32), .int (1 : Int32)] (ctX12_in l G x2 (0 : Int32) (1 : Int32) hv17) gX12_gale_X12_in (by decide +kernel) rfl ⟨Nat.le_of_ble_eq_true rfl, Nat.le_of_ble_eq_true rfl⟩ ⟨Nat.le_refl _, Nat.le_refl _⟩ rfl rfl rfl [] [0, 1] rfl rfl rfl rfl (by decide) (Nat.le_of_ble_eq_true rfl) dX12_gale_14 rfl rfl (fun rv17 wv17 hrv17 => ?_)
    obtain ⟨rfl, rfl⟩ := hrv17
    refine z_perm h (w2 := [(a0, .inr (12, [.ref a0_book, .ref a0_now, .int c0_sights, .ref a0_sight, .int c0_signs, .ref a0_pad, .int c0_offs, .int c0_offAt, .int c0_offWho, .int c0_lastOff, .int c0_reason, .int c0_acts, .ref a0_can, .ref a0_fitting, .ref a0_wins, .ref a0_image, .ref a0_isKept])), (a0_now, .inl (G.2.1, 56, .inl c0_now))]) (st := [.int v17]) [0, 1] rfl rfl ?_
    refine z_if_eq h (tgt := 29) dX12_gale_17 (by decide) rfl (fun c18 => ?_) (fun c18 => ?_)
    · have hf := ite_t hf c18
      refine z_locs h (lv2 := []) [] rfl ?_
      exact hB29 c0_now hf
    have hf := ite_f hf c18
    refine z_iload_n h dX12_gale_20 3 rfl rfl ?_
    refine z_iconst h (v := (0 : Int32)) dX12_gale_21 (by decide) rfl ?_
    refine z_iconst h (v := (1 : Int32)) dX12_gale_22 (by decide) rfl ?_
    obtain ⟨v19, hv19, hf⟩ := bd_some hf
    refine z_callS h (np := 3) (st := []) (wr := [(a0, .inr (12, [.ref a0_book, .ref a0_now, .int c0_sights, .ref a0_sight, .int c0_signs, .ref a0_pad, .int c0_offs, .int c0_offAt, .int c0_offWho, .int c0_lastOff, .int c0_reason, .int c0_acts, .ref a0_can, .ref a0_fitting, .ref a0_wins, .ref a0_image, .ref a0_isKept])), (a0_now, .inl (G.2.1, 56, .inl c0_now))]) [.int x3, .int (0 : Int32), .int (1 : Int32)] (ctX12_in l G x3 (0 : Int32) (1 : Int32) hv19) gX12_gale_X12_in (by decide +kernel) rfl ⟨Nat.le_of_ble_eq_true rfl, Nat.le_of_ble_eq_true rfl⟩ ⟨Nat.le_refl _, Nat.le_refl _⟩ rfl rfl rfl [] [0, 1] rfl rfl rfl rfl (by decide) (Nat.le_of_ble_eq_true rfl) dX12_gale_23 rfl rfl (fun rv19 wv19 hrv19 => ?_)
    obtain ⟨rfl, rfl⟩ := hrv19
    refine z_perm h (w2 := [(a0, .inr (12, [.ref a0_book, .ref a0_now, .int c0_sights, .ref a0_sight, .int c0_signs, .ref a0_pad, .int c0_offs, .int c0_offAt, .int c0_offWho, .int c0_lastOff, .int c0_reason, .int c0_acts, .ref a0_can, .ref a0_fitting, .ref a0_wins, .ref a0_image, .ref a0_isKept])), (a0_now, .inl (G.2.1, 56, .inl c0_now))]) (st := [.int v19]) [0, 1] rfl rfl ?_
    refine z_if_ne h (tgt := 33) dX12_gale_26 (by decide) rfl (fun c20 => ?_) (fun c20 => ?_)
    · have hf := ite_f hf c20
      refine z_lconst h (v := (0 : Int64)) dX12_gale_33 (by decide) rfl ?_
      refine z_lstore h (lv2 := [(4, .long (0 : Int64)), (0, .ref a0), (1, .int x1), (2, .int x2), (3, .int x3)]) dX12_gale_34 (by decide) rfl rfl ?_
      refine z_iconst h (v := (0 : Int32)) dX12_gale_36 (by decide) rfl ?_
      refine z_istore h (lv2 := [(6, .int (0 : Int32)), (4, .long (0 : Int64)), (0, .ref a0), (1, .int x1), (2, .int x2), (3, .int x3)]) dX12_gale_37 (by decide) rfl rfl ?_
      refine z_locs h (lv2 := [(0, .ref a0), (1, .int x1), (2, .int x2), (3, .int x3), (4, .long (0 : Int64)), (6, .int (0 : Int32))]) [2, 3, 4, 5, 1, 0] rfl ?_
      exact hL39 zF c0_now (0 : Int64) (0 : Int32) hf
    have hf := ite_t hf c20
    refine z_locs h (lv2 := []) [] rfl ?_
    exact hB29 c0_now hf
  have hf := ite_t hf c16
  refine z_ldc2_w h (v := (-1000000000000000001 : Int64)) dX12_gale_7 (by decide +kernel) rfl ?_
  have hf := Option.some.inj hf
  subst hf
  exact hret _ _ _ _ dX12_gale_10 ⟨rfl, rfl⟩
def fX12_offOnes_b30 (c0_now : Nat → Int32) (K4 : (Int32 → Int32 → Option (Int32))) (x2 : Int32) (s0 : Int32) (s1 : Int32) : Option (Int32) := (K4 (s0 ||| s1) (x2 + (1 : Int32)))
def fX12_offOnes_L4 (c0_now : Nat → Int32)  : Nat → Int32 → Int32 → Option (Int32)
  | 0, _, _ => none
  | n + 1, x1, x2 => (if (6 : Int32) ≤ x2 then (some x1) else gd (inb ((24 : Int32) + x2) 56) ((if (c0_now (((24 : Int32) + x2)).toNatClampNeg) < (0 : Int32) then (fX12_offOnes_b30 c0_now (fX12_offOnes_L4 c0_now  n) x2 x1 (0 : Int32)) else (fX12_offOnes_b30 c0_now (fX12_offOnes_L4 c0_now  n) x2 x1 (sl (1 : Int32) x2)))))
def fX12_offOnes (c0_now : Nat → Int32)  : Option (Int32) := (fX12_offOnes_L4 c0_now  zF (0 : Int32) (0 : Int32))
abbrev rmX12_offOnes : Room := { frames := 0, cells := 0, slots := 0, locals := 0 }
set_option maxRecDepth 100000 in
set_option maxHeartbeats 4000000 in
theorem ctX12_offOnes (l : Launch) (G : zG) (a0 a0_book a0_now a0_sight a0_pad a0_can a0_fitting a0_wins a0_image a0_isKept : Nat) (c0_sights : Int32) (c0_signs : Int32) (c0_offs : Int32) (c0_offAt : Int32) (c0_offWho : Int32) (c0_lastOff : Int32) (c0_reason : Int32) (c0_acts : Int32) (c0_now : Nat → Int32)  {R : Int32} (hf : fX12_offOnes c0_now = some R) : zCt l yX12_offOnes wsX12_offOnes rmX12_offOnes G [(a0, .inr (12, [.ref a0_book, .ref a0_now, .int c0_sights, .ref a0_sight, .int c0_signs, .ref a0_pad, .int c0_offs, .int c0_offAt, .int c0_offWho, .int c0_lastOff, .int c0_reason, .int c0_acts, .ref a0_can, .ref a0_fitting, .ref a0_wins, .ref a0_image, .ref a0_isKept])), (a0_now, .inl (G.2.1, 56, .inl c0_now))] [.ref a0] (fun v w => v = some (.int (R)) ∧ w = [(a0, .inr (12, [.ref a0_book, .ref a0_now, .int c0_sights, .ref a0_sight, .int c0_signs, .ref a0_pad, .int c0_offs, .int c0_offAt, .int c0_offWho, .int c0_lastOff, .int c0_reason, .int c0_acts, .ref a0_can, .ref a0_fitting, .ref a0_wins, .ref a0_image, .ref a0_isKept])), (a0_now, .inl (G.2.1, 56, .inl c0_now))]) := by
  refine zMkI (own := RX12) false (by decide) (by decide +kernel) rfl rfl (Nat.le_of_ble_eq_true rfl) ?_
  intro Z h hret
  have hL4 : ∀ (n4 : Nat) (x1 : Int32) (x2 : Int32), fX12_offOnes_L4 c0_now  n4 x1 x2 = some R → Z 0 0 [(a0, .inr (12, [.ref a0_book, .ref a0_now, .int c0_sights, .ref a0_sight, .int c0_signs, .ref a0_pad, .int c0_offs, .int c0_offAt, .int c0_offWho, .int c0_lastOff, .int c0_reason, .int c0_acts, .ref a0_can, .ref a0_fitting, .ref a0_wins, .ref a0_image, .ref a0_isKept])), (a0_now, .inl (G.2.1, 56, .inl c0_now))] [(0, .ref a0), (1, .int x1), (2, .int x2)] 4 [] := by
    intro n4
    induction n4 with
    | zero =>
      intro x1 x2 hf
      rw [fX12_offOnes_L4] at hf
      cases hf
    | succ n4 ih4 =>
      have hB30 : ∀ (x2 : Int32) (s0 : Int32) (s1 : Int32), fX12_offOnes_b30 c0_now (fX12_offOnes_L4 c0_now  n4) x2 s0 s1 = some R → Z 0 0 [(a0, .inr (12, [.ref a0_book, .ref a0_now, .int c0_sights, .ref a0_sight, .int c0_signs, .ref a0_pad, .int c0_offs, .int c0_offAt, .int c0_offWho, .int c0_lastOff, .int c0_reason, .int c0_acts, .ref a0_can, .ref a0_fitting, .ref a0_wins, .ref a0_image, .ref a0_isKept])), (a0_now, .inl (G.2.1, 56, .inl c0_now))] [(0, .ref a0), (2, .int x2)] 30 [.int s1, .int s0] := by
        intro x2 s0 s1 hf
        rw [fX12_offOnes_b30] at hf
        refine z_ior h dX12_offOnes_30 rfl ?_
        refine z_istore_n h (lv2 := [(1, .int (s0 ||| s1)), (0, .ref a0), (2, .int x2)]) dX12_offOnes_31 (by decide) rfl rfl ?_
        refine z_iinc h (v := (x2 + (1 : Int32))) (lv2 := [(2, .int (x2 + (1 : Int32))), (1, .int (s0 ||| s1)), (0, .ref a0)]) (j := 2) dX12_offOnes_32 rfl rfl (by decide) rfl rfl ?_
        refine z_goto h (tgt := 4) dX12_offOnes_35 (by decide) ?_
        refine z_locs h (lv2 := [(0, .ref a0), (1, .int (s0 ||| s1)), (2, .int (x2 + (1 : Int32)))]) [2, 1, 0] rfl ?_
        exact ih4 (s0 ||| s1) (x2 + (1 : Int32)) hf
      intro x1 x2 hf
      rw [fX12_offOnes_L4] at hf
      refine z_iload_n h dX12_offOnes_4 2 rfl rfl ?_
      refine z_bipush h (v := (6 : Int32)) dX12_offOnes_5 (by decide) rfl ?_
      refine z_icmp_ge h (tgt := 38) dX12_offOnes_7 (by decide) rfl (fun c1 => ?_) (fun c1 => ?_)
      · have hf := ite_t hf c1
        refine z_iload_n h dX12_offOnes_38 1 rfl rfl ?_
        have hf := Option.some.inj hf
        subst hf
        exact hret _ _ _ _ dX12_offOnes_39 ⟨rfl, rfl⟩
      have hf := ite_f hf c1
      refine z_iload_n h dX12_offOnes_10 1 rfl rfl ?_
      refine z_aload_n h dX12_offOnes_11 0 rfl rfl ?_
      refine z_get h (C := RX12) (T := TX12) (N := 17) (v := .ref a0_now) 0 rfl rfl 1 (by decide) (by decide +kernel) (by decide +kernel) rfl dX12_offOnes_12 rfl ?_
      refine z_bipush h (v := (24 : Int32)) dX12_offOnes_15 (by decide) rfl ?_
      refine z_iload_n h dX12_offOnes_17 2 rfl rfl ?_
      refine z_iadd h dX12_offOnes_18 rfl ?_
      obtain ⟨hg2, hf⟩ := gd_some hf
      refine z_iald h 1 rfl rfl hg2 dX12_offOnes_19 rfl ?_
      refine z_if_lt h (tgt := 29) dX12_offOnes_20 (by decide) rfl (fun c3 => ?_) (fun c3 => ?_)
      · have hf := ite_t hf c3
        refine z_iconst h (v := (0 : Int32)) dX12_offOnes_29 (by decide) rfl ?_
        refine z_locs h (lv2 := [(0, .ref a0), (2, .int x2)]) [0, 2] rfl ?_
        exact hB30 x2 x1 (0 : Int32) hf
      have hf := ite_f hf c3
      refine z_iconst h (v := (1 : Int32)) dX12_offOnes_23 (by decide) rfl ?_
      refine z_iload_n h dX12_offOnes_24 2 rfl rfl ?_
      refine z_ishl h dX12_offOnes_25 rfl ?_
      refine z_goto h (tgt := 30) dX12_offOnes_26 (by decide) ?_
      refine z_locs h (lv2 := [(0, .ref a0), (2, .int x2)]) [0, 2] rfl ?_
      exact hB30 x2 x1 (sl (1 : Int32) x2) hf
  rw [fX12_offOnes] at hf
  show Z 0 0 _ [(0, .ref a0)] 0 []
  refine z_iconst h (v := (0 : Int32)) dX12_offOnes_0 (by decide) rfl ?_
  refine z_istore_n h (lv2 := [(1, .int (0 : Int32)), (0, .ref a0)]) dX12_offOnes_1 (by decide) rfl rfl ?_
  refine z_iconst h (v := (0 : Int32)) dX12_offOnes_2 (by decide) rfl ?_
  refine z_istore_n h (lv2 := [(2, .int (0 : Int32)), (1, .int (0 : Int32)), (0, .ref a0)]) dX12_offOnes_3 (by decide) rfl rfl ?_
  refine z_locs h (lv2 := [(0, .ref a0), (1, .int (0 : Int32)), (2, .int (0 : Int32))]) [2, 1, 0] rfl ?_
  exact hL4 zF (0 : Int32) (0 : Int32) hf
def fX12_year_b30 (c0_book : Nat → Int32) (x1 : Int32) (x2 : Int32) (x3 : Int32)  (c0_offs : Int32) (c0_offAt : Int32) (c0_offWho : Int32) (c0_lastOff : Int32) (c0_reason : Int32) (c0_now : Nat → Int32) : Option (Int32 × Int32 × Int32 × Int32 × Int32 × Int32 × (Nat → Int32)) := (some ((-2 : Int32), c0_offs, c0_offAt, c0_offWho, c0_lastOff, c0_reason, c0_now))
def fX12_year_b339 (c0_book : Nat → Int32) (x1 : Int32) (x2 : Int32) (x3 : Int32)  (c0_offs : Int32) (c0_offAt : Int32) (c0_offWho : Int32) (c0_lastOff : Int32) (c0_reason : Int32) (c0_now : Nat → Int32) (s0 : Int32) : Option (Int32 × Int32 × Int32 × Int32 × Int32 × Int32 × (Nat → Int32)) := (some (s0, c0_offs, c0_offAt, c0_offWho, c0_lastOff, c0_reason, c0_now))
def fX12_year_L286 (c0_book : Nat → Int32) (x1 : Int32) (x2 : Int32) (x3 : Int32)  : Nat → Int32 → Int32 → Int32 → Int32 → Int32 → (Nat → Int32) → Int32 → Int32 → Option (Int32 × Int32 × Int32 × Int32 × Int32 × Int32 × (Nat → Int32))
  | 0, _, _, _, _, _, _, _, _ => none
  | n + 1, c0_offs, c0_offAt, c0_offWho, c0_lastOff, c0_reason, c0_now, x5, x6 => (if (6 : Int32) ≤ x6 then (if x3 = (0 : Int32) then Option.bind (fX12_offOnes c0_now) (fun v4 => (fX12_year_b339 c0_book x1 x2 x3  c0_offs c0_offAt c0_offWho c0_lastOff c0_reason c0_now v4)) else (if x3 = (1 : Int32) then (fX12_year_b339 c0_book x1 x2 x3  c0_offs c0_offAt c0_offWho c0_lastOff c0_reason c0_now x5) else (fX12_year_b339 c0_book x1 x2 x3  c0_offs c0_offAt c0_offWho c0_lastOff c0_reason c0_now c0_offs))) else gd (inb ((12 : Int32) + x6) 56) (((fX12_year_L286 c0_book x1 x2 x3  n) c0_offs c0_offAt c0_offWho c0_lastOff c0_reason c0_now (x5 + (c0_now (((12 : Int32) + x6)).toNatClampNeg)) (x6 + (1 : Int32)))))
def fX12_year_b274 (c0_book : Nat → Int32) (x1 : Int32) (x2 : Int32) (x3 : Int32) (K43 : (Int32 → Int32 → Int32 → Int32 → Int32 → (Nat → Int32) → Int32 → Int32 → Option (Int32 × Int32 × Int32 × Int32 × Int32 × Int32 × (Nat → Int32)))) (c0_offs : Int32) (c0_offAt : Int32) (c0_offWho : Int32) (c0_lastOff : Int32) (c0_reason : Int32) (c0_now : Nat → Int32) (x4 : Int32) (x5 : Int32) : Option (Int32 × Int32 × Int32 × Int32 × Int32 × Int32 × (Nat → Int32)) := (K43 c0_offs c0_offAt c0_offWho c0_lastOff c0_reason c0_now x4 (x5 + (1 : Int32)))
def fX12_year_b235 (c0_book : Nat → Int32) (x1 : Int32) (x2 : Int32) (x3 : Int32) (K43 : (Int32 → Int32 → Int32 → Int32 → Int32 → (Nat → Int32) → Int32 → Int32 → Option (Int32 × Int32 × Int32 × Int32 × Int32 × Int32 × (Nat → Int32)))) (c0_offs : Int32) (c0_offAt : Int32) (c0_offWho : Int32) (c0_lastOff : Int32) (c0_reason : Int32) (c0_now : Nat → Int32) (x4 : Int32) (x5 : Int32) (s1 : Int32) : Option (Int32 × Int32 × Int32 × Int32 × Int32 × Int32 × (Nat → Int32)) := (fX12_year_b274 c0_book x1 x2 x3 K43 c0_offs c0_offAt c0_offWho c0_lastOff s1 c0_now x4 x5)
def fX12_year_b260 (c0_book : Nat → Int32) (x1 : Int32) (x2 : Int32) (x3 : Int32) (K43 : (Int32 → Int32 → Int32 → Int32 → Int32 → (Nat → Int32) → Int32 → Int32 → Option (Int32 × Int32 × Int32 × Int32 × Int32 × Int32 × (Nat → Int32)))) (c0_offs : Int32) (c0_offAt : Int32) (c0_offWho : Int32) (c0_lastOff : Int32) (c0_reason : Int32) (c0_now : Nat → Int32) (x4 : Int32) (x5 : Int32) (s1 : Int32) : Option (Int32 × Int32 × Int32 × Int32 × Int32 × Int32 × (Nat → Int32)) := (fX12_year_b274 c0_book x1 x2 x3 K43 c0_offs c0_offAt c0_offWho c0_lastOff s1 c0_now x4 x5)
def fX12_year_L43 (c0_book : Nat → Int32) (x1 : Int32) (x2 : Int32) (x3 : Int32)  : Nat → Int32 → Int32 → Int32 → Int32 → Int32 → (Nat → Int32) → Int32 → Int32 → Option (Int32 × Int32 × Int32 × Int32 × Int32 × Int32 × (Nat → Int32))
  | 0, _, _, _, _, _, _, _, _ => none
  | n + 1, c0_offs, c0_offAt, c0_offWho, c0_lastOff, c0_reason, c0_now, x4, x5 => (if x2 ≤ x5 then (fX12_year_L286 c0_book x1 x2 x3  zF c0_offs c0_offAt c0_offWho c0_lastOff c0_reason c0_now (0 : Int32) (0 : Int32)) else (if (irm ((irm (((75 : Int32) * x4) + (74 : Int32)) (65537 : Int32)) / (6 : Int32)) (8 : Int32)) = (0 : Int32) then Option.bind (fX12_walk c0_now (irm (irm (((75 : Int32) * x4) + (74 : Int32)) (65537 : Int32)) (6 : Int32)) (1 : Int32)) (fun v8 => (fX12_year_b274 c0_book x1 x2 x3 (fX12_year_L43 c0_book x1 x2 x3  n) c0_offs c0_offAt c0_offWho c0_lastOff v8.1 v8.2 (irm (((75 : Int32) * x4) + (74 : Int32)) (65537 : Int32)) x5)) else if (irm ((irm (((75 : Int32) * x4) + (74 : Int32)) (65537 : Int32)) / (6 : Int32)) (8 : Int32)) = (1 : Int32) then Option.bind (fX12_walk c0_now (irm (irm (((75 : Int32) * x4) + (74 : Int32)) (65537 : Int32)) (6 : Int32)) (-1 : Int32)) (fun v10 => (fX12_year_b274 c0_book x1 x2 x3 (fX12_year_L43 c0_book x1 x2 x3  n) c0_offs c0_offAt c0_offWho c0_lastOff v10.1 v10.2 (irm (((75 : Int32) * x4) + (74 : Int32)) (65537 : Int32)) x5)) else if (irm ((irm (((75 : Int32) * x4) + (74 : Int32)) (65537 : Int32)) / (6 : Int32)) (8 : Int32)) = (2 : Int32) then Option.bind (fX12_state c0_now (irm (irm (((75 : Int32) * x4) + (74 : Int32)) (65537 : Int32)) (6 : Int32)) (irm ((irm (((75 : Int32) * x4) + (74 : Int32)) (65537 : Int32)) / (48 : Int32)) (8 : Int32))) (fun v12 => (fX12_year_b274 c0_book x1 x2 x3 (fX12_year_L43 c0_book x1 x2 x3  n) c0_offs c0_offAt c0_offWho c0_lastOff v12.1 v12.2 (irm (((75 : Int32) * x4) + (74 : Int32)) (65537 : Int32)) x5)) else if (irm ((irm (((75 : Int32) * x4) + (74 : Int32)) (65537 : Int32)) / (6 : Int32)) (8 : Int32)) = (3 : Int32) then Option.bind (fX12_pay c0_now (irm (irm (((75 : Int32) * x4) + (74 : Int32)) (65537 : Int32)) (6 : Int32)) (irm ((irm (((75 : Int32) * x4) + (74 : Int32)) (65537 : Int32)) / (48 : Int32)) (3 : Int32))) (fun v14 => (fX12_year_b274 c0_book x1 x2 x3 (fX12_year_L43 c0_book x1 x2 x3  n) c0_offs c0_offAt c0_offWho c0_lastOff v14.1 v14.2 (irm (((75 : Int32) * x4) + (74 : Int32)) (65537 : Int32)) x5)) else if (irm ((irm (((75 : Int32) * x4) + (74 : Int32)) (65537 : Int32)) / (6 : Int32)) (8 : Int32)) = (4 : Int32) then Option.bind (fX12_putOn c0_now (irm (irm (((75 : Int32) * x4) + (74 : Int32)) (65537 : Int32)) (6 : Int32))) (fun v16 => (fX12_year_b274 c0_book x1 x2 x3 (fX12_year_L43 c0_book x1 x2 x3  n) c0_offs c0_offAt c0_offWho c0_lastOff v16.1 v16.2 (irm (((75 : Int32) * x4) + (74 : Int32)) (65537 : Int32)) x5)) else if (irm ((irm (((75 : Int32) * x4) + (74 : Int32)) (65537 : Int32)) / (6 : Int32)) (8 : Int32)) = (5 : Int32) then (if (irm (((irm (((75 : Int32) * x4) + (74 : Int32)) (65537 : Int32)) / (48 : Int32)) / (6 : Int32)) (2 : Int32)) = (0 : Int32) then Option.bind (fX12_hold c0_now (irm (irm (((75 : Int32) * x4) + (74 : Int32)) (65537 : Int32)) (6 : Int32)) (irm ((irm (((75 : Int32) * x4) + (74 : Int32)) (65537 : Int32)) / (48 : Int32)) (6 : Int32))) (fun v20 => (fX12_year_b235 c0_book x1 x2 x3 (fX12_year_L43 c0_book x1 x2 x3  n) c0_offs c0_offAt c0_offWho c0_lastOff c0_reason v20.2 (irm (((75 : Int32) * x4) + (74 : Int32)) (65537 : Int32)) x5 v20.1)) else Option.bind (fX12_letGo c0_now (irm (irm (((75 : Int32) * x4) + (74 : Int32)) (65537 : Int32)) (6 : Int32))) (fun v19 => (fX12_year_b235 c0_book x1 x2 x3 (fX12_year_L43 c0_book x1 x2 x3  n) c0_offs c0_offAt c0_offWho c0_lastOff c0_reason v19.2 (irm (((75 : Int32) * x4) + (74 : Int32)) (65537 : Int32)) x5 v19.1))) else if (irm ((irm (((75 : Int32) * x4) + (74 : Int32)) (65537 : Int32)) / (6 : Int32)) (8 : Int32)) = (6 : Int32) then (if (irm ((irm (((75 : Int32) * x4) + (74 : Int32)) (65537 : Int32)) / (48 : Int32)) (4 : Int32)) = (0 : Int32) then Option.bind (fX12_gust c0_now) (fun v24 => (fX12_year_b260 c0_book x1 x2 x3 (fX12_year_L43 c0_book x1 x2 x3  n) c0_offs c0_offAt c0_offWho c0_lastOff c0_reason v24.2 (irm (((75 : Int32) * x4) + (74 : Int32)) (65537 : Int32)) x5 v24.1)) else Option.bind (fX12_endHour c0_offs c0_lastOff c0_now) (fun v23 => (fX12_year_b260 c0_book x1 x2 x3 (fX12_year_L43 c0_book x1 x2 x3  n) v23.2.1 c0_offAt c0_offWho v23.2.2.1 c0_reason v23.2.2.2 (irm (((75 : Int32) * x4) + (74 : Int32)) (65537 : Int32)) x5 v23.1))) else Option.bind (fX12_endHour c0_offs c0_lastOff c0_now) (fun v25 => (fX12_year_b274 c0_book x1 x2 x3 (fX12_year_L43 c0_book x1 x2 x3  n) v25.2.1 c0_offAt c0_offWho v25.2.2.1 v25.1 v25.2.2.2 (irm (((75 : Int32) * x4) + (74 : Int32)) (65537 : Int32)) x5))))
def fX12_year (c0_offs : Int32) (c0_offAt : Int32) (c0_offWho : Int32) (c0_lastOff : Int32) (c0_reason : Int32) (c0_book : Nat → Int32) (c0_now : Nat → Int32) (x1 : Int32) (x2 : Int32) (x3 : Int32) : Option (Int32 × Int32 × Int32 × Int32 × Int32 × Int32 × (Nat → Int32)) := Option.bind (fX12_in x1 (0 : Int32) (9999 : Int32)) (fun v26 => (if v26 = (0 : Int32) then (fX12_year_b30 c0_book x1 x2 x3  c0_offs c0_offAt c0_offWho c0_lastOff c0_reason c0_now) else Option.bind (fX12_in x2 (1 : Int32) (99 : Int32)) (fun v28 => (if v28 = (0 : Int32) then (fX12_year_b30 c0_book x1 x2 x3  c0_offs c0_offAt c0_offWho c0_lastOff c0_reason c0_now) else Option.bind (fX12_in x3 (0 : Int32) (2 : Int32)) (fun v30 => (if v30 = (0 : Int32) then (fX12_year_b30 c0_book x1 x2 x3  c0_offs c0_offAt c0_offWho c0_lastOff c0_reason c0_now) else Option.bind (fX12_asNow c0_offs c0_offAt c0_offWho c0_lastOff c0_book c0_now) (fun v32 => (fX12_year_L43 c0_book x1 x2 x3  zF v32.1 v32.2.1 v32.2.2.1 v32.2.2.2.1 c0_reason v32.2.2.2.2 x1 (0 : Int32)))))))))
abbrev rmX12_year : Room := { frames := 4, cells := 0, slots := 0, locals := 86 }
set_option maxRecDepth 100000 in
set_option maxHeartbeats 4000000 in
theorem ctX12_year (l : Launch) (G : zG) (a0 a0_book a0_now a0_sight a0_pad a0_can a0_fitting a0_wins a0_image a0_isKept : Nat) (c0_sights : Int32) (c0_signs : Int32) (c0_offs : Int32) (c0_offAt : Int32) (c0_offWho : Int32) (c0_lastOff : Int32) (c0_reason : Int32) (c0_acts : Int32) (c0_book : Nat → Int32) (c0_now : Nat → Int32) (x1 : Int32) (x2 : Int32) (x3 : Int32) {R : Int32 × Int32 × Int32 × Int32 × Int32 × Int32 × (Nat → Int32)} (hf : fX12_year c0_offs c0_offAt c0_offWho c0_lastOff c0_reason c0_book c0_now x1 x2 x3 = some R) : zCt l yX12_year wsX12_year rmX12_year G [(a0, .inr (12, [.ref a0_book, .ref a0_now, .int c0_sights, .ref a0_sight, .int c0_signs, .ref a0_pad, .int c0_offs, .int c0_offAt, .int c0_offWho, .int c0_lastOff, .int c0_reason, .int c0_acts, .ref a0_can, .ref a0_fitting, .ref a0_wins, .ref a0_image, .ref a0_isKept])), (a0_book, .inl (G.2.1, 56, .inl c0_book)), (a0_now, .inl (G.2.1, 56, .inl c0_now))] [.ref a0, .int x1, .int x2, .int x3] (fun v w => v = some (.int (R.1)) ∧ w = [(a0, .inr (12, [.ref a0_book, .ref a0_now, .int c0_sights, .ref a0_sight, .int c0_signs, .ref a0_pad, .int (R.2.1), .int (R.2.2.1), .int (R.2.2.2.1), .int (R.2.2.2.2.1), .int (R.2.2.2.2.2.1), .int c0_acts, .ref a0_can, .ref a0_fitting, .ref a0_wins, .ref a0_image, .ref a0_isKept])), (a0_book, .inl (G.2.1, 56, .inl c0_book)), (a0_now, .inl (G.2.1, 56, .inl (R.2.2.2.2.2.2)))]) := by
  refine zMkI (own := RX12) false (by decide) (by decide +kernel) rfl rfl (Nat.le_of_ble_eq_true rfl) ?_
  intro Z h hret
  have hB30 : ∀ (c0_offs : Int32) (c0_offAt : Int32) (c0_offWho : Int32) (c0_lastOff : Int32) (c0_reason : Int32) (c0_now : Nat → Int32), fX12_year_b30 c0_book x1 x2 x3  c0_offs c0_offAt c0_offWho c0_lastOff c0_reason c0_now = some R → Z 0 0 [(a0, .inr (12, [.ref a0_book, .ref a0_now, .int c0_sights, .ref a0_sight, .int c0_signs, .ref a0_pad, .int c0_offs, .int c0_offAt, .int c0_offWho, .int c0_lastOff, .int c0_reason, .int c0_acts, .ref a0_can, .ref a0_fitting, .ref a0_wins, .ref a0_image, .ref a0_isKept])), (a0_book, .inl (G.2.1, 56, .inl c0_book)), (a0_now, .inl (G.2.1, 56, .inl c0_now))] [] 30 [] := by
    intro c0_offs c0_offAt c0_offWho c0_lastOff c0_reason c0_now hf
    rw [fX12_year_b30] at hf
    refine z_bipush h (v := (-2 : Int32)) dX12_year_30 (by decide) rfl ?_
    have hf := Option.some.inj hf
    subst hf
    exact hret _ _ _ _ dX12_year_32 ⟨rfl, rfl⟩
  have hB339 : ∀ (c0_offs : Int32) (c0_offAt : Int32) (c0_offWho : Int32) (c0_lastOff : Int32) (c0_reason : Int32) (c0_now : Nat → Int32) (s0 : Int32), fX12_year_b339 c0_book x1 x2 x3  c0_offs c0_offAt c0_offWho c0_lastOff c0_reason c0_now s0 = some R → Z 0 0 [(a0, .inr (12, [.ref a0_book, .ref a0_now, .int c0_sights, .ref a0_sight, .int c0_signs, .ref a0_pad, .int c0_offs, .int c0_offAt, .int c0_offWho, .int c0_lastOff, .int c0_reason, .int c0_acts, .ref a0_can, .ref a0_fitting, .ref a0_wins, .ref a0_image, .ref a0_isKept])), (a0_book, .inl (G.2.1, 56, .inl c0_book)), (a0_now, .inl (G.2.1, 56, .inl c0_now))] [] 339 [.int s0] := by
    intro c0_offs c0_offAt c0_offWho c0_lastOff c0_reason c0_now s0 hf
    rw [fX12_year_b339] at hf
    have hf := Option.some.inj hf
    subst hf
    exact hret _ _ _ _ dX12_year_339 ⟨rfl, rfl⟩
  have hL286 : ∀ (n286 : Nat) (c0_offs : Int32) (c0_offAt : Int32) (c0_offWho : Int32) (c0_lastOff : Int32) (c0_reason : Int32) (c0_now : Nat → Int32) (x5 : Int32) (x6 : Int32), fX12_year_L286 c0_book x1 x2 x3  n286 c0_offs c0_offAt c0_offWho c0_lastOff c0_reason c0_now x5 x6 = some R → Z 0 0 [(a0, .inr (12, [.ref a0_book, .ref a0_now, .int c0_sights, .ref a0_sight, .int c0_signs, .ref a0_pad, .int c0_offs, .int c0_offAt, .int c0_offWho, .int c0_lastOff, .int c0_reason, .int c0_acts, .ref a0_can, .ref a0_fitting, .ref a0_wins, .ref a0_image, .ref a0_isKept])), (a0_book, .inl (G.2.1, 56, .inl c0_book)), (a0_now, .inl (G.2.1, 56, .inl c0_now))] [(0, .ref a0), (3, .int x3), (5, .int x5), (6, .int x6)] 286 [] := by
    intro n286
    induction n286 with
    | zero =>
      intro c0_offs c0_offAt c0_offWho c0_lastOff c0_reason c0_now x5 x6 hf
      rw [fX12_year_L286] at hf
      cases hf
    | succ n286 ih286 =>
      intro c0_offs c0_offAt c0_offWho c0_lastOff c0_reason c0_now x5 x6 hf
      rw [fX12_year_L286] at hf
      refine z_iload h dX12_year_286 3 rfl rfl ?_
      refine z_bipush h (v := (6 : Int32)) dX12_year_288 (by decide) rfl ?_
      refine z_icmp_ge h (tgt := 314) dX12_year_290 (by decide) rfl (fun c1 => ?_) (fun c1 => ?_)
      · have hf := ite_t hf c1
        refine z_iload_n h dX12_year_314 1 rfl rfl ?_
        refine z_if_ne h (tgt := 325) dX12_year_315 (by decide) rfl (fun c2 => ?_) (fun c2 => ?_)
        · have hf := ite_f hf c2
          refine z_iload_n h dX12_year_325 1 rfl rfl ?_
          refine z_iconst h (v := (1 : Int32)) dX12_year_326 (by decide) rfl ?_
          refine z_icmp_ne h (tgt := 335) dX12_year_327 (by decide) rfl (fun c3 => ?_) (fun c3 => ?_)
          · have hf := ite_f hf c3
            refine z_aload_n h dX12_year_335 0 rfl rfl ?_
            refine z_get h (C := RX12) (T := TX12) (N := 17) (v := .int c0_offs) 0 rfl rfl 6 (by decide) (by decide +kernel) (by decide +kernel) rfl dX12_year_336 rfl ?_
            refine z_locs h (lv2 := []) [] rfl ?_
            exact hB339 c0_offs c0_offAt c0_offWho c0_lastOff c0_reason c0_now c0_offs hf
          have hf := ite_t hf c3
          refine z_iload h dX12_year_330 2 rfl rfl ?_
          refine z_goto h (tgt := 339) dX12_year_332 (by decide) ?_
          refine z_locs h (lv2 := []) [] rfl ?_
          exact hB339 c0_offs c0_offAt c0_offWho c0_lastOff c0_reason c0_now x5 hf
        have hf := ite_t hf c2
        refine z_aload_n h dX12_year_318 0 rfl rfl ?_
        obtain ⟨v4, hv4, hf⟩ := bd_some hf
        refine z_callV h (np := 0) (st := []) (wr := [(a0_book, .inl (G.2.1, 56, .inl c0_book))]) [] (ctX12_offOnes l G a0 a0_book a0_now a0_sight a0_pad a0_can a0_fitting a0_wins a0_image a0_isKept c0_sights c0_signs c0_offs c0_offAt c0_offWho c0_lastOff c0_reason c0_acts c0_now hv4) gX12_year_X12_offOnes (by decide +kernel) 0 rfl rfl rfl ⟨Nat.le_of_ble_eq_true rfl, Nat.le_of_ble_eq_true rfl⟩ ⟨Nat.le_refl _, Nat.le_refl _⟩ rfl rfl rfl [0, 2] [1] rfl rfl rfl rfl (by decide) (Nat.le_of_ble_eq_true rfl) dX12_year_319 rfl rfl (fun rv4 wv4 hrv4 => ?_)
        obtain ⟨rfl, rfl⟩ := hrv4
        refine z_perm h (w2 := [(a0, .inr (12, [.ref a0_book, .ref a0_now, .int c0_sights, .ref a0_sight, .int c0_signs, .ref a0_pad, .int c0_offs, .int c0_offAt, .int c0_offWho, .int c0_lastOff, .int c0_reason, .int c0_acts, .ref a0_can, .ref a0_fitting, .ref a0_wins, .ref a0_image, .ref a0_isKept])), (a0_book, .inl (G.2.1, 56, .inl c0_book)), (a0_now, .inl (G.2.1, 56, .inl c0_now))]) (st := [.int v4]) [1, 0, 2] rfl rfl ?_
        refine z_goto h (tgt := 339) dX12_year_322 (by decide) ?_
        refine z_locs h (lv2 := []) [] rfl ?_
        exact hB339 c0_offs c0_offAt c0_offWho c0_lastOff c0_reason c0_now v4 hf
      have hf := ite_f hf c1
      refine z_iload h dX12_year_293 2 rfl rfl ?_
      refine z_aload_n h dX12_year_295 0 rfl rfl ?_
      refine z_get h (C := RX12) (T := TX12) (N := 17) (v := .ref a0_now) 0 rfl rfl 1 (by decide) (by decide +kernel) (by decide +kernel) rfl dX12_year_296 rfl ?_
      refine z_bipush h (v := (12 : Int32)) dX12_year_299 (by decide) rfl ?_
      refine z_iload h dX12_year_301 3 rfl rfl ?_
      refine z_iadd h dX12_year_303 rfl ?_
      obtain ⟨hg5, hf⟩ := gd_some hf
      refine z_iald h 2 rfl rfl hg5 dX12_year_304 rfl ?_
      refine z_iadd h dX12_year_305 rfl ?_
      refine z_istore h (lv2 := [(5, .int (x5 + (c0_now (((12 : Int32) + x6)).toNatClampNeg))), (0, .ref a0), (3, .int x3), (6, .int x6)]) dX12_year_306 (by decide) rfl rfl ?_
      refine z_iinc h (v := (x6 + (1 : Int32))) (lv2 := [(6, .int (x6 + (1 : Int32))), (5, .int (x5 + (c0_now (((12 : Int32) + x6)).toNatClampNeg))), (0, .ref a0), (3, .int x3)]) (j := 3) dX12_year_308 rfl rfl (by decide) rfl rfl ?_
      refine z_goto h (tgt := 286) dX12_year_311 (by decide) ?_
      refine z_locs h (lv2 := [(0, .ref a0), (3, .int x3), (5, .int (x5 + (c0_now (((12 : Int32) + x6)).toNatClampNeg))), (6, .int (x6 + (1 : Int32)))]) [2, 3, 1, 0] rfl ?_
      exact ih286 c0_offs c0_offAt c0_offWho c0_lastOff c0_reason c0_now (x5 + (c0_now (((12 : Int32) + x6)).toNatClampNeg)) (x6 + (1 : Int32)) hf
  have hL43 : ∀ (n43 : Nat) (c0_offs : Int32) (c0_offAt : Int32) (c0_offWho : Int32) (c0_lastOff : Int32) (c0_reason : Int32) (c0_now : Nat → Int32) (x4 : Int32) (x5 : Int32), fX12_year_L43 c0_book x1 x2 x3  n43 c0_offs c0_offAt c0_offWho c0_lastOff c0_reason c0_now x4 x5 = some R → Z 0 0 [(a0, .inr (12, [.ref a0_book, .ref a0_now, .int c0_sights, .ref a0_sight, .int c0_signs, .ref a0_pad, .int c0_offs, .int c0_offAt, .int c0_offWho, .int c0_lastOff, .int c0_reason, .int c0_acts, .ref a0_can, .ref a0_fitting, .ref a0_wins, .ref a0_image, .ref a0_isKept])), (a0_book, .inl (G.2.1, 56, .inl c0_book)), (a0_now, .inl (G.2.1, 56, .inl c0_now))] [(0, .ref a0), (2, .int x2), (3, .int x3), (4, .int x4), (5, .int x5)] 43 [] := by
    intro n43
    induction n43 with
    | zero =>
      intro c0_offs c0_offAt c0_offWho c0_lastOff c0_reason c0_now x4 x5 hf
      rw [fX12_year_L43] at hf
      cases hf
    | succ n43 ih43 =>
      have hB274 : ∀ (c0_offs : Int32) (c0_offAt : Int32) (c0_offWho : Int32) (c0_lastOff : Int32) (c0_reason : Int32) (c0_now : Nat → Int32) (x4 : Int32) (x5 : Int32), fX12_year_b274 c0_book x1 x2 x3 (fX12_year_L43 c0_book x1 x2 x3  n43) c0_offs c0_offAt c0_offWho c0_lastOff c0_reason c0_now x4 x5 = some R → Z 0 0 [(a0, .inr (12, [.ref a0_book, .ref a0_now, .int c0_sights, .ref a0_sight, .int c0_signs, .ref a0_pad, .int c0_offs, .int c0_offAt, .int c0_offWho, .int c0_lastOff, .int c0_reason, .int c0_acts, .ref a0_can, .ref a0_fitting, .ref a0_wins, .ref a0_image, .ref a0_isKept])), (a0_book, .inl (G.2.1, 56, .inl c0_book)), (a0_now, .inl (G.2.1, 56, .inl c0_now))] [(0, .ref a0), (2, .int x2), (3, .int x3), (4, .int x4), (5, .int x5)] 274 [] := by
        intro c0_offs c0_offAt c0_offWho c0_lastOff c0_reason c0_now x4 x5 hf
        rw [fX12_year_b274] at hf
        refine z_iinc h (v := (x5 + (1 : Int32))) (lv2 := [(5, .int (x5 + (1 : Int32))), (0, .ref a0), (2, .int x2), (3, .int x3), (4, .int x4)]) (j := 4) dX12_year_274 rfl rfl (by decide) rfl rfl ?_
        refine z_goto h (tgt := 43) dX12_year_277 (by decide) ?_
        refine z_locs h (lv2 := [(0, .ref a0), (2, .int x2), (3, .int x3), (4, .int x4), (5, .int (x5 + (1 : Int32)))]) [1, 2, 3, 4, 0] rfl ?_
        exact ih43 c0_offs c0_offAt c0_offWho c0_lastOff c0_reason c0_now x4 (x5 + (1 : Int32)) hf
      have hB235 : ∀ (c0_offs : Int32) (c0_offAt : Int32) (c0_offWho : Int32) (c0_lastOff : Int32) (c0_reason : Int32) (c0_now : Nat → Int32) (x4 : Int32) (x5 : Int32) (s1 : Int32), fX12_year_b235 c0_book x1 x2 x3 (fX12_year_L43 c0_book x1 x2 x3  n43) c0_offs c0_offAt c0_offWho c0_lastOff c0_reason c0_now x4 x5 s1 = some R → Z 0 0 [(a0, .inr (12, [.ref a0_book, .ref a0_now, .int c0_sights, .ref a0_sight, .int c0_signs, .ref a0_pad, .int c0_offs, .int c0_offAt, .int c0_offWho, .int c0_lastOff, .int c0_reason, .int c0_acts, .ref a0_can, .ref a0_fitting, .ref a0_wins, .ref a0_image, .ref a0_isKept])), (a0_book, .inl (G.2.1, 56, .inl c0_book)), (a0_now, .inl (G.2.1, 56, .inl c0_now))] [(0, .ref a0), (2, .int x2), (3, .int x3), (4, .int x4), (5, .int x5)] 235 [.int s1, .ref a0] := by
        intro c0_offs c0_offAt c0_offWho c0_lastOff c0_reason c0_now x4 x5 s1 hf
        rw [fX12_year_b235] at hf
        refine z_put h (C := RX12) (T := TX12) (N := 17) 0 rfl rfl 10 (by decide) (by decide +kernel) (by decide +kernel) tyX12 tyX12_ok nmX12 (w2 := [(a0, .inr (12, [.ref a0_book, .ref a0_now, .int c0_sights, .ref a0_sight, .int c0_signs, .ref a0_pad, .int c0_offs, .int c0_offAt, .int c0_offWho, .int c0_lastOff, .int s1, .int c0_acts, .ref a0_can, .ref a0_fitting, .ref a0_wins, .ref a0_image, .ref a0_isKept])), (a0_book, .inl (G.2.1, 56, .inl c0_book)), (a0_now, .inl (G.2.1, 56, .inl c0_now))]) rfl rfl rfl (Nat.le_of_ble_eq_true rfl) rfl dX12_year_235 rfl ?_
        refine z_goto h (tgt := 274) dX12_year_238 (by decide) ?_
        exact hB274 c0_offs c0_offAt c0_offWho c0_lastOff s1 c0_now x4 x5 hf
      have hB260 : ∀ (c0_offs : Int32) (c0_offAt : Int32) (c0_offWho : Int32) (c0_lastOff : Int32) (c0_reason : Int32) (c0_now : Nat → Int32) (x4 : Int32) (x5 : Int32) (s1 : Int32), fX12_year_b260 c0_book x1 x2 x3 (fX12_year_L43 c0_book x1 x2 x3  n43) c0_offs c0_offAt c0_offWho c0_lastOff c0_reason c0_now x4 x5 s1 = some R → Z 0 0 [(a0, .inr (12, [.ref a0_book, .ref a0_now, .int c0_sights, .ref a0_sight, .int c0_signs, .ref a0_pad, .int c0_offs, .int c0_offAt, .int c0_offWho, .int c0_lastOff, .int c0_reason, .int c0_acts, .ref a0_can, .ref a0_fitting, .ref a0_wins, .ref a0_image, .ref a0_isKept])), (a0_book, .inl (G.2.1, 56, .inl c0_book)), (a0_now, .inl (G.2.1, 56, .inl c0_now))] [(0, .ref a0), (2, .int x2), (3, .int x3), (4, .int x4), (5, .int x5)] 260 [.int s1, .ref a0] := by
        intro c0_offs c0_offAt c0_offWho c0_lastOff c0_reason c0_now x4 x5 s1 hf
        rw [fX12_year_b260] at hf
        refine z_put h (C := RX12) (T := TX12) (N := 17) 0 rfl rfl 10 (by decide) (by decide +kernel) (by decide +kernel) tyX12 tyX12_ok nmX12 (w2 := [(a0, .inr (12, [.ref a0_book, .ref a0_now, .int c0_sights, .ref a0_sight, .int c0_signs, .ref a0_pad, .int c0_offs, .int c0_offAt, .int c0_offWho, .int c0_lastOff, .int s1, .int c0_acts, .ref a0_can, .ref a0_fitting, .ref a0_wins, .ref a0_image, .ref a0_isKept])), (a0_book, .inl (G.2.1, 56, .inl c0_book)), (a0_now, .inl (G.2.1, 56, .inl c0_now))]) rfl rfl rfl (Nat.le_of_ble_eq_true rfl) rfl dX12_year_260 rfl ?_
        refine z_goto h (tgt := 274) dX12_year_263 (by decide) ?_
        exact hB274 c0_offs c0_offAt c0_offWho c0_lastOff s1 c0_now x4 x5 hf
      intro c0_offs c0_offAt c0_offWho c0_lastOff c0_reason c0_now x4 x5 hf
      rw [fX12_year_L43] at hf
      refine z_iload h dX12_year_43 4 rfl rfl ?_
      refine z_iload_n h dX12_year_45 1 rfl rfl ?_
      refine z_icmp_ge h (tgt := 280) dX12_year_46 (by decide) rfl (fun c6 => ?_) (fun c6 => ?_)
      · have hf := ite_t hf c6
        refine z_iconst h (v := (0 : Int32)) dX12_year_280 (by decide) rfl ?_
        refine z_istore h (lv2 := [(5, .int (0 : Int32)), (0, .ref a0), (2, .int x2), (3, .int x3), (4, .int x4)]) dX12_year_281 (by decide) rfl rfl ?_
        refine z_iconst h (v := (0 : Int32)) dX12_year_283 (by decide) rfl ?_
        refine z_istore h (lv2 := [(6, .int (0 : Int32)), (5, .int (0 : Int32)), (0, .ref a0), (2, .int x2), (3, .int x3), (4, .int x4)]) dX12_year_284 (by decide) rfl rfl ?_
        refine z_locs h (lv2 := [(0, .ref a0), (3, .int x3), (5, .int (0 : Int32)), (6, .int (0 : Int32))]) [2, 4, 1, 0] rfl ?_
        exact hL286 zF c0_offs c0_offAt c0_offWho c0_lastOff c0_reason c0_now (0 : Int32) (0 : Int32) hf
      have hf := ite_f hf c6
      refine z_bipush h (v := (75 : Int32)) dX12_year_49 (by decide) rfl ?_
      refine z_iload h dX12_year_51 3 rfl rfl ?_
      refine z_imul h dX12_year_53 rfl ?_
      refine z_bipush h (v := (74 : Int32)) dX12_year_54 (by decide) rfl ?_
      refine z_iadd h dX12_year_56 rfl ?_
      refine z_ldc h (v := (65537 : Int32)) dX12_year_57 (by decide +kernel) rfl ?_
      refine z_irem h dX12_year_59 (by decide) rfl ?_
      refine z_istore h (lv2 := [(4, .int (irm (((75 : Int32) * x4) + (74 : Int32)) (65537 : Int32))), (0, .ref a0), (2, .int x2), (3, .int x3), (5, .int x5)]) dX12_year_60 (by decide) rfl rfl ?_
      refine z_iload h dX12_year_62 0 rfl rfl ?_
      refine z_bipush h (v := (6 : Int32)) dX12_year_64 (by decide) rfl ?_
      refine z_irem h dX12_year_66 (by decide) rfl ?_
      refine z_istore h (lv2 := [(6, .int (irm (irm (((75 : Int32) * x4) + (74 : Int32)) (65537 : Int32)) (6 : Int32))), (4, .int (irm (((75 : Int32) * x4) + (74 : Int32)) (65537 : Int32))), (0, .ref a0), (2, .int x2), (3, .int x3), (5, .int x5)]) dX12_year_67 (by decide) rfl rfl ?_
      refine z_iload h dX12_year_69 1 rfl rfl ?_
      refine z_bipush h (v := (48 : Int32)) dX12_year_71 (by decide) rfl ?_
      refine z_idiv h dX12_year_73 (by decide) rfl ?_
      refine z_istore h (lv2 := [(7, .int ((irm (((75 : Int32) * x4) + (74 : Int32)) (65537 : Int32)) / (48 : Int32))), (6, .int (irm (irm (((75 : Int32) * x4) + (74 : Int32)) (65537 : Int32)) (6 : Int32))), (4, .int (irm (((75 : Int32) * x4) + (74 : Int32)) (65537 : Int32))), (0, .ref a0), (2, .int x2), (3, .int x3), (5, .int x5)]) dX12_year_74 (by decide) rfl rfl ?_
      refine z_iload h dX12_year_76 2 rfl rfl ?_
      refine z_bipush h (v := (6 : Int32)) dX12_year_78 (by decide) rfl ?_
      refine z_idiv h dX12_year_80 (by decide) rfl ?_
      refine z_bipush h (v := (8 : Int32)) dX12_year_81 (by decide) rfl ?_
      refine z_irem h dX12_year_83 (by decide) rfl ?_
      by_cases c7 : (irm ((irm (((75 : Int32) * x4) + (74 : Int32)) (65537 : Int32)) / (6 : Int32)) (8 : Int32)) = (0 : Int32)
      · have hf := ite_t hf c7
        refine z_tableIn h (off := 44) (tgt := 128) dX12_year_84 (0 : Int32) c7 (by decide) (by decide) (by decide) (by decide) ?_
        refine z_aload_n h dX12_year_128 3 rfl rfl ?_
        refine z_aload_n h dX12_year_129 3 rfl rfl ?_
        refine z_iload h dX12_year_130 1 rfl rfl ?_
        refine z_iconst h (v := (1 : Int32)) dX12_year_132 (by decide) rfl ?_
        obtain ⟨v8, hv8, hf⟩ := bd_some hf
        refine z_callV h (np := 2) (st := [.ref a0]) (wr := [(a0_book, .inl (G.2.1, 56, .inl c0_book))]) [.int (irm (irm (((75 : Int32) * x4) + (74 : Int32)) (65537 : Int32)) (6 : Int32)), .int (1 : Int32)] (ctX12_walk l G a0 a0_book a0_now a0_sight a0_pad a0_can a0_fitting a0_wins a0_image a0_isKept c0_sights c0_signs c0_offs c0_offAt c0_offWho c0_lastOff c0_reason c0_acts c0_now (irm (irm (((75 : Int32) * x4) + (74 : Int32)) (65537 : Int32)) (6 : Int32)) (1 : Int32) hv8) gX12_year_X12_walk (by decide +kernel) 0 rfl rfl rfl ⟨Nat.le_of_ble_eq_true rfl, Nat.le_of_ble_eq_true rfl⟩ ⟨Nat.le_refl _, Nat.le_refl _⟩ rfl rfl rfl [0, 2] [1] rfl rfl rfl rfl (by decide) (Nat.le_of_ble_eq_true rfl) dX12_year_133 rfl rfl (fun rv8 wv8 hrv8 => ?_)
        obtain ⟨rfl, rfl⟩ := hrv8
        refine z_perm h (w2 := [(a0, .inr (12, [.ref a0_book, .ref a0_now, .int c0_sights, .ref a0_sight, .int c0_signs, .ref a0_pad, .int c0_offs, .int c0_offAt, .int c0_offWho, .int c0_lastOff, .int c0_reason, .int c0_acts, .ref a0_can, .ref a0_fitting, .ref a0_wins, .ref a0_image, .ref a0_isKept])), (a0_book, .inl (G.2.1, 56, .inl c0_book)), (a0_now, .inl (G.2.1, 56, .inl v8.2))]) (st := [.int v8.1, .ref a0]) [1, 0, 2] rfl rfl ?_
        refine z_put h (C := RX12) (T := TX12) (N := 17) 0 rfl rfl 10 (by decide) (by decide +kernel) (by decide +kernel) tyX12 tyX12_ok nmX12 (w2 := [(a0, .inr (12, [.ref a0_book, .ref a0_now, .int c0_sights, .ref a0_sight, .int c0_signs, .ref a0_pad, .int c0_offs, .int c0_offAt, .int c0_offWho, .int c0_lastOff, .int v8.1, .int c0_acts, .ref a0_can, .ref a0_fitting, .ref a0_wins, .ref a0_image, .ref a0_isKept])), (a0_book, .inl (G.2.1, 56, .inl c0_book)), (a0_now, .inl (G.2.1, 56, .inl v8.2))]) rfl rfl rfl (Nat.le_of_ble_eq_true rfl) rfl dX12_year_136 rfl ?_
        refine z_goto h (tgt := 274) dX12_year_139 (by decide) ?_
        refine z_locs h (lv2 := [(0, .ref a0), (2, .int x2), (3, .int x3), (4, .int (irm (((75 : Int32) * x4) + (74 : Int32)) (65537 : Int32))), (5, .int x5)]) [3, 4, 5, 2, 6] rfl ?_
        exact hB274 c0_offs c0_offAt c0_offWho c0_lastOff v8.1 v8.2 (irm (((75 : Int32) * x4) + (74 : Int32)) (65537 : Int32)) x5 hf
      have hf := ite_f hf c7
      by_cases c9 : (irm ((irm (((75 : Int32) * x4) + (74 : Int32)) (65537 : Int32)) / (6 : Int32)) (8 : Int32)) = (1 : Int32)
      · have hf := ite_t hf c9
        refine z_tableIn h (off := 58) (tgt := 142) dX12_year_84 (1 : Int32) c9 (by decide) (by decide) (by decide) (by decide) ?_
        refine z_aload_n h dX12_year_142 3 rfl rfl ?_
        refine z_aload_n h dX12_year_143 3 rfl rfl ?_
        refine z_iload h dX12_year_144 1 rfl rfl ?_
        refine z_iconst h (v := (-1 : Int32)) dX12_year_146 (by decide) rfl ?_
        obtain ⟨v10, hv10, hf⟩ := bd_some hf
        refine z_callV h (np := 2) (st := [.ref a0]) (wr := [(a0_book, .inl (G.2.1, 56, .inl c0_book))]) [.int (irm (irm (((75 : Int32) * x4) + (74 : Int32)) (65537 : Int32)) (6 : Int32)), .int (-1 : Int32)] (ctX12_walk l G a0 a0_book a0_now a0_sight a0_pad a0_can a0_fitting a0_wins a0_image a0_isKept c0_sights c0_signs c0_offs c0_offAt c0_offWho c0_lastOff c0_reason c0_acts c0_now (irm (irm (((75 : Int32) * x4) + (74 : Int32)) (65537 : Int32)) (6 : Int32)) (-1 : Int32) hv10) gX12_year_X12_walk (by decide +kernel) 0 rfl rfl rfl ⟨Nat.le_of_ble_eq_true rfl, Nat.le_of_ble_eq_true rfl⟩ ⟨Nat.le_refl _, Nat.le_refl _⟩ rfl rfl rfl [0, 2] [1] rfl rfl rfl rfl (by decide) (Nat.le_of_ble_eq_true rfl) dX12_year_147 rfl rfl (fun rv10 wv10 hrv10 => ?_)
        obtain ⟨rfl, rfl⟩ := hrv10
        refine z_perm h (w2 := [(a0, .inr (12, [.ref a0_book, .ref a0_now, .int c0_sights, .ref a0_sight, .int c0_signs, .ref a0_pad, .int c0_offs, .int c0_offAt, .int c0_offWho, .int c0_lastOff, .int c0_reason, .int c0_acts, .ref a0_can, .ref a0_fitting, .ref a0_wins, .ref a0_image, .ref a0_isKept])), (a0_book, .inl (G.2.1, 56, .inl c0_book)), (a0_now, .inl (G.2.1, 56, .inl v10.2))]) (st := [.int v10.1, .ref a0]) [1, 0, 2] rfl rfl ?_
        refine z_put h (C := RX12) (T := TX12) (N := 17) 0 rfl rfl 10 (by decide) (by decide +kernel) (by decide +kernel) tyX12 tyX12_ok nmX12 (w2 := [(a0, .inr (12, [.ref a0_book, .ref a0_now, .int c0_sights, .ref a0_sight, .int c0_signs, .ref a0_pad, .int c0_offs, .int c0_offAt, .int c0_offWho, .int c0_lastOff, .int v10.1, .int c0_acts, .ref a0_can, .ref a0_fitting, .ref a0_wins, .ref a0_image, .ref a0_isKept])), (a0_book, .inl (G.2.1, 56, .inl c0_book)), (a0_now, .inl (G.2.1, 56, .inl v10.2))]) rfl rfl rfl (Nat.le_of_ble_eq_true rfl) rfl dX12_year_150 rfl ?_
        refine z_goto h (tgt := 274) dX12_year_153 (by decide) ?_
        refine z_locs h (lv2 := [(0, .ref a0), (2, .int x2), (3, .int x3), (4, .int (irm (((75 : Int32) * x4) + (74 : Int32)) (65537 : Int32))), (5, .int x5)]) [3, 4, 5, 2, 6] rfl ?_
        exact hB274 c0_offs c0_offAt c0_offWho c0_lastOff v10.1 v10.2 (irm (((75 : Int32) * x4) + (74 : Int32)) (65537 : Int32)) x5 hf
      have hf := ite_f hf c9
      by_cases c11 : (irm ((irm (((75 : Int32) * x4) + (74 : Int32)) (65537 : Int32)) / (6 : Int32)) (8 : Int32)) = (2 : Int32)
      · have hf := ite_t hf c11
        refine z_tableIn h (off := 72) (tgt := 156) dX12_year_84 (2 : Int32) c11 (by decide) (by decide) (by decide) (by decide) ?_
        refine z_aload_n h dX12_year_156 3 rfl rfl ?_
        refine z_aload_n h dX12_year_157 3 rfl rfl ?_
        refine z_iload h dX12_year_158 1 rfl rfl ?_
        refine z_iload h dX12_year_160 0 rfl rfl ?_
        refine z_bipush h (v := (8 : Int32)) dX12_year_162 (by decide) rfl ?_
        refine z_irem h dX12_year_164 (by decide) rfl ?_
        obtain ⟨v12, hv12, hf⟩ := bd_some hf
        refine z_callV h (np := 2) (st := [.ref a0]) (wr := [(a0_book, .inl (G.2.1, 56, .inl c0_book))]) [.int (irm (irm (((75 : Int32) * x4) + (74 : Int32)) (65537 : Int32)) (6 : Int32)), .int (irm ((irm (((75 : Int32) * x4) + (74 : Int32)) (65537 : Int32)) / (48 : Int32)) (8 : Int32))] (ctX12_state l G a0 a0_book a0_now a0_sight a0_pad a0_can a0_fitting a0_wins a0_image a0_isKept c0_sights c0_signs c0_offs c0_offAt c0_offWho c0_lastOff c0_reason c0_acts c0_now (irm (irm (((75 : Int32) * x4) + (74 : Int32)) (65537 : Int32)) (6 : Int32)) (irm ((irm (((75 : Int32) * x4) + (74 : Int32)) (65537 : Int32)) / (48 : Int32)) (8 : Int32)) hv12) gX12_year_X12_state (by decide +kernel) 0 rfl rfl rfl ⟨Nat.le_of_ble_eq_true rfl, Nat.le_of_ble_eq_true rfl⟩ ⟨Nat.le_refl _, Nat.le_refl _⟩ rfl rfl rfl [0, 2] [1] rfl rfl rfl rfl (by decide) (Nat.le_of_ble_eq_true rfl) dX12_year_165 rfl rfl (fun rv12 wv12 hrv12 => ?_)
        obtain ⟨rfl, rfl⟩ := hrv12
        refine z_perm h (w2 := [(a0, .inr (12, [.ref a0_book, .ref a0_now, .int c0_sights, .ref a0_sight, .int c0_signs, .ref a0_pad, .int c0_offs, .int c0_offAt, .int c0_offWho, .int c0_lastOff, .int c0_reason, .int c0_acts, .ref a0_can, .ref a0_fitting, .ref a0_wins, .ref a0_image, .ref a0_isKept])), (a0_book, .inl (G.2.1, 56, .inl c0_book)), (a0_now, .inl (G.2.1, 56, .inl v12.2))]) (st := [.int v12.1, .ref a0]) [1, 0, 2] rfl rfl ?_
        refine z_put h (C := RX12) (T := TX12) (N := 17) 0 rfl rfl 10 (by decide) (by decide +kernel) (by decide +kernel) tyX12 tyX12_ok nmX12 (w2 := [(a0, .inr (12, [.ref a0_book, .ref a0_now, .int c0_sights, .ref a0_sight, .int c0_signs, .ref a0_pad, .int c0_offs, .int c0_offAt, .int c0_offWho, .int c0_lastOff, .int v12.1, .int c0_acts, .ref a0_can, .ref a0_fitting, .ref a0_wins, .ref a0_image, .ref a0_isKept])), (a0_book, .inl (G.2.1, 56, .inl c0_book)), (a0_now, .inl (G.2.1, 56, .inl v12.2))]) rfl rfl rfl (Nat.le_of_ble_eq_true rfl) rfl dX12_year_168 rfl ?_
        refine z_goto h (tgt := 274) dX12_year_171 (by decide) ?_
        refine z_locs h (lv2 := [(0, .ref a0), (2, .int x2), (3, .int x3), (4, .int (irm (((75 : Int32) * x4) + (74 : Int32)) (65537 : Int32))), (5, .int x5)]) [3, 4, 5, 2, 6] rfl ?_
        exact hB274 c0_offs c0_offAt c0_offWho c0_lastOff v12.1 v12.2 (irm (((75 : Int32) * x4) + (74 : Int32)) (65537 : Int32)) x5 hf
      have hf := ite_f hf c11
      by_cases c13 : (irm ((irm (((75 : Int32) * x4) + (74 : Int32)) (65537 : Int32)) / (6 : Int32)) (8 : Int32)) = (3 : Int32)
      · have hf := ite_t hf c13
        refine z_tableIn h (off := 90) (tgt := 174) dX12_year_84 (3 : Int32) c13 (by decide) (by decide) (by decide) (by decide) ?_
        refine z_aload_n h dX12_year_174 3 rfl rfl ?_
        refine z_aload_n h dX12_year_175 3 rfl rfl ?_
        refine z_iload h dX12_year_176 1 rfl rfl ?_
        refine z_iload h dX12_year_178 0 rfl rfl ?_
        refine z_iconst h (v := (3 : Int32)) dX12_year_180 (by decide) rfl ?_
        refine z_irem h dX12_year_181 (by decide) rfl ?_
        obtain ⟨v14, hv14, hf⟩ := bd_some hf
        refine z_callV h (np := 2) (st := [.ref a0]) (wr := [(a0_book, .inl (G.2.1, 56, .inl c0_book))]) [.int (irm (irm (((75 : Int32) * x4) + (74 : Int32)) (65537 : Int32)) (6 : Int32)), .int (irm ((irm (((75 : Int32) * x4) + (74 : Int32)) (65537 : Int32)) / (48 : Int32)) (3 : Int32))] (ctX12_pay l G a0 a0_book a0_now a0_sight a0_pad a0_can a0_fitting a0_wins a0_image a0_isKept c0_sights c0_signs c0_offs c0_offAt c0_offWho c0_lastOff c0_reason c0_acts c0_now (irm (irm (((75 : Int32) * x4) + (74 : Int32)) (65537 : Int32)) (6 : Int32)) (irm ((irm (((75 : Int32) * x4) + (74 : Int32)) (65537 : Int32)) / (48 : Int32)) (3 : Int32)) hv14) gX12_year_X12_pay (by decide +kernel) 0 rfl rfl rfl ⟨Nat.le_of_ble_eq_true rfl, Nat.le_of_ble_eq_true rfl⟩ ⟨Nat.le_refl _, Nat.le_refl _⟩ rfl rfl rfl [0, 2] [1] rfl rfl rfl rfl (by decide) (Nat.le_of_ble_eq_true rfl) dX12_year_182 rfl rfl (fun rv14 wv14 hrv14 => ?_)
        obtain ⟨rfl, rfl⟩ := hrv14
        refine z_perm h (w2 := [(a0, .inr (12, [.ref a0_book, .ref a0_now, .int c0_sights, .ref a0_sight, .int c0_signs, .ref a0_pad, .int c0_offs, .int c0_offAt, .int c0_offWho, .int c0_lastOff, .int c0_reason, .int c0_acts, .ref a0_can, .ref a0_fitting, .ref a0_wins, .ref a0_image, .ref a0_isKept])), (a0_book, .inl (G.2.1, 56, .inl c0_book)), (a0_now, .inl (G.2.1, 56, .inl v14.2))]) (st := [.int v14.1, .ref a0]) [1, 0, 2] rfl rfl ?_
        refine z_put h (C := RX12) (T := TX12) (N := 17) 0 rfl rfl 10 (by decide) (by decide +kernel) (by decide +kernel) tyX12 tyX12_ok nmX12 (w2 := [(a0, .inr (12, [.ref a0_book, .ref a0_now, .int c0_sights, .ref a0_sight, .int c0_signs, .ref a0_pad, .int c0_offs, .int c0_offAt, .int c0_offWho, .int c0_lastOff, .int v14.1, .int c0_acts, .ref a0_can, .ref a0_fitting, .ref a0_wins, .ref a0_image, .ref a0_isKept])), (a0_book, .inl (G.2.1, 56, .inl c0_book)), (a0_now, .inl (G.2.1, 56, .inl v14.2))]) rfl rfl rfl (Nat.le_of_ble_eq_true rfl) rfl dX12_year_185 rfl ?_
        refine z_goto h (tgt := 274) dX12_year_188 (by decide) ?_
        refine z_locs h (lv2 := [(0, .ref a0), (2, .int x2), (3, .int x3), (4, .int (irm (((75 : Int32) * x4) + (74 : Int32)) (65537 : Int32))), (5, .int x5)]) [3, 4, 5, 2, 6] rfl ?_
        exact hB274 c0_offs c0_offAt c0_offWho c0_lastOff v14.1 v14.2 (irm (((75 : Int32) * x4) + (74 : Int32)) (65537 : Int32)) x5 hf
      have hf := ite_f hf c13
      by_cases c15 : (irm ((irm (((75 : Int32) * x4) + (74 : Int32)) (65537 : Int32)) / (6 : Int32)) (8 : Int32)) = (4 : Int32)
      · have hf := ite_t hf c15
        refine z_tableIn h (off := 107) (tgt := 191) dX12_year_84 (4 : Int32) c15 (by decide) (by decide) (by decide) (by decide) ?_
        refine z_aload_n h dX12_year_191 3 rfl rfl ?_
        refine z_aload_n h dX12_year_192 3 rfl rfl ?_
        refine z_iload h dX12_year_193 1 rfl rfl ?_
        obtain ⟨v16, hv16, hf⟩ := bd_some hf
        refine z_callV h (np := 1) (st := [.ref a0]) (wr := [(a0_book, .inl (G.2.1, 56, .inl c0_book))]) [.int (irm (irm (((75 : Int32) * x4) + (74 : Int32)) (65537 : Int32)) (6 : Int32))] (ctX12_putOn l G a0 a0_book a0_now a0_sight a0_pad a0_can a0_fitting a0_wins a0_image a0_isKept c0_sights c0_signs c0_offs c0_offAt c0_offWho c0_lastOff c0_reason c0_acts c0_now (irm (irm (((75 : Int32) * x4) + (74 : Int32)) (65537 : Int32)) (6 : Int32)) hv16) gX12_year_X12_putOn (by decide +kernel) 0 rfl rfl rfl ⟨Nat.le_of_ble_eq_true rfl, Nat.le_of_ble_eq_true rfl⟩ ⟨Nat.le_refl _, Nat.le_refl _⟩ rfl rfl rfl [0, 2] [1] rfl rfl rfl rfl (by decide) (Nat.le_of_ble_eq_true rfl) dX12_year_195 rfl rfl (fun rv16 wv16 hrv16 => ?_)
        obtain ⟨rfl, rfl⟩ := hrv16
        refine z_perm h (w2 := [(a0, .inr (12, [.ref a0_book, .ref a0_now, .int c0_sights, .ref a0_sight, .int c0_signs, .ref a0_pad, .int c0_offs, .int c0_offAt, .int c0_offWho, .int c0_lastOff, .int c0_reason, .int c0_acts, .ref a0_can, .ref a0_fitting, .ref a0_wins, .ref a0_image, .ref a0_isKept])), (a0_book, .inl (G.2.1, 56, .inl c0_book)), (a0_now, .inl (G.2.1, 56, .inl v16.2))]) (st := [.int v16.1, .ref a0]) [1, 0, 2] rfl rfl ?_
        refine z_put h (C := RX12) (T := TX12) (N := 17) 0 rfl rfl 10 (by decide) (by decide +kernel) (by decide +kernel) tyX12 tyX12_ok nmX12 (w2 := [(a0, .inr (12, [.ref a0_book, .ref a0_now, .int c0_sights, .ref a0_sight, .int c0_signs, .ref a0_pad, .int c0_offs, .int c0_offAt, .int c0_offWho, .int c0_lastOff, .int v16.1, .int c0_acts, .ref a0_can, .ref a0_fitting, .ref a0_wins, .ref a0_image, .ref a0_isKept])), (a0_book, .inl (G.2.1, 56, .inl c0_book)), (a0_now, .inl (G.2.1, 56, .inl v16.2))]) rfl rfl rfl (Nat.le_of_ble_eq_true rfl) rfl dX12_year_198 rfl ?_
        refine z_goto h (tgt := 274) dX12_year_201 (by decide) ?_
        refine z_locs h (lv2 := [(0, .ref a0), (2, .int x2), (3, .int x3), (4, .int (irm (((75 : Int32) * x4) + (74 : Int32)) (65537 : Int32))), (5, .int x5)]) [3, 4, 5, 2, 6] rfl ?_
        exact hB274 c0_offs c0_offAt c0_offWho c0_lastOff v16.1 v16.2 (irm (((75 : Int32) * x4) + (74 : Int32)) (65537 : Int32)) x5 hf
      have hf := ite_f hf c15
      by_cases c17 : (irm ((irm (((75 : Int32) * x4) + (74 : Int32)) (65537 : Int32)) / (6 : Int32)) (8 : Int32)) = (5 : Int32)
      · have hf := ite_t hf c17
        refine z_tableIn h (off := 120) (tgt := 204) dX12_year_84 (5 : Int32) c17 (by decide) (by decide) (by decide) (by decide) ?_
        refine z_aload_n h dX12_year_204 3 rfl rfl ?_
        refine z_iload h dX12_year_205 0 rfl rfl ?_
        refine z_bipush h (v := (6 : Int32)) dX12_year_207 (by decide) rfl ?_
        refine z_idiv h dX12_year_209 (by decide) rfl ?_
        refine z_iconst h (v := (2 : Int32)) dX12_year_210 (by decide) rfl ?_
        refine z_irem h dX12_year_211 (by decide) rfl ?_
        refine z_if_ne h (tgt := 229) dX12_year_212 (by decide) rfl (fun c18 => ?_) (fun c18 => ?_)
        · have hf := ite_f hf c18
          refine z_aload_n h dX12_year_229 3 rfl rfl ?_
          refine z_iload h dX12_year_230 1 rfl rfl ?_
          obtain ⟨v19, hv19, hf⟩ := bd_some hf
          refine z_callV h (np := 1) (st := [.ref a0]) (wr := [(a0_book, .inl (G.2.1, 56, .inl c0_book))]) [.int (irm (irm (((75 : Int32) * x4) + (74 : Int32)) (65537 : Int32)) (6 : Int32))] (ctX12_letGo l G a0 a0_book a0_now a0_sight a0_pad a0_can a0_fitting a0_wins a0_image a0_isKept c0_sights c0_signs c0_offs c0_offAt c0_offWho c0_lastOff c0_reason c0_acts c0_now (irm (irm (((75 : Int32) * x4) + (74 : Int32)) (65537 : Int32)) (6 : Int32)) hv19) gX12_year_X12_letGo (by decide +kernel) 0 rfl rfl rfl ⟨Nat.le_of_ble_eq_true rfl, Nat.le_of_ble_eq_true rfl⟩ ⟨Nat.le_refl _, Nat.le_refl _⟩ rfl rfl rfl [0, 2] [1] rfl rfl rfl rfl (by decide) (Nat.le_of_ble_eq_true rfl) dX12_year_232 rfl rfl (fun rv19 wv19 hrv19 => ?_)
          obtain ⟨rfl, rfl⟩ := hrv19
          refine z_perm h (w2 := [(a0, .inr (12, [.ref a0_book, .ref a0_now, .int c0_sights, .ref a0_sight, .int c0_signs, .ref a0_pad, .int c0_offs, .int c0_offAt, .int c0_offWho, .int c0_lastOff, .int c0_reason, .int c0_acts, .ref a0_can, .ref a0_fitting, .ref a0_wins, .ref a0_image, .ref a0_isKept])), (a0_book, .inl (G.2.1, 56, .inl c0_book)), (a0_now, .inl (G.2.1, 56, .inl v19.2))]) (st := [.int v19.1, .ref a0]) [1, 0, 2] rfl rfl ?_
          refine z_locs h (lv2 := [(0, .ref a0), (2, .int x2), (3, .int x3), (4, .int (irm (((75 : Int32) * x4) + (74 : Int32)) (65537 : Int32))), (5, .int x5)]) [3, 4, 5, 2, 6] rfl ?_
          exact hB235 c0_offs c0_offAt c0_offWho c0_lastOff c0_reason v19.2 (irm (((75 : Int32) * x4) + (74 : Int32)) (65537 : Int32)) x5 v19.1 hf
        have hf := ite_t hf c18
        refine z_aload_n h dX12_year_215 3 rfl rfl ?_
        refine z_iload h dX12_year_216 1 rfl rfl ?_
        refine z_iload h dX12_year_218 0 rfl rfl ?_
        refine z_bipush h (v := (6 : Int32)) dX12_year_220 (by decide) rfl ?_
        refine z_irem h dX12_year_222 (by decide) rfl ?_
        obtain ⟨v20, hv20, hf⟩ := bd_some hf
        refine z_callV h (np := 2) (st := [.ref a0]) (wr := [(a0_book, .inl (G.2.1, 56, .inl c0_book))]) [.int (irm (irm (((75 : Int32) * x4) + (74 : Int32)) (65537 : Int32)) (6 : Int32)), .int (irm ((irm (((75 : Int32) * x4) + (74 : Int32)) (65537 : Int32)) / (48 : Int32)) (6 : Int32))] (ctX12_hold l G a0 a0_book a0_now a0_sight a0_pad a0_can a0_fitting a0_wins a0_image a0_isKept c0_sights c0_signs c0_offs c0_offAt c0_offWho c0_lastOff c0_reason c0_acts c0_now (irm (irm (((75 : Int32) * x4) + (74 : Int32)) (65537 : Int32)) (6 : Int32)) (irm ((irm (((75 : Int32) * x4) + (74 : Int32)) (65537 : Int32)) / (48 : Int32)) (6 : Int32)) hv20) gX12_year_X12_hold (by decide +kernel) 0 rfl rfl rfl ⟨Nat.le_of_ble_eq_true rfl, Nat.le_of_ble_eq_true rfl⟩ ⟨Nat.le_refl _, Nat.le_refl _⟩ rfl rfl rfl [0, 2] [1] rfl rfl rfl rfl (by decide) (Nat.le_of_ble_eq_true rfl) dX12_year_223 rfl rfl (fun rv20 wv20 hrv20 => ?_)
        obtain ⟨rfl, rfl⟩ := hrv20
        refine z_perm h (w2 := [(a0, .inr (12, [.ref a0_book, .ref a0_now, .int c0_sights, .ref a0_sight, .int c0_signs, .ref a0_pad, .int c0_offs, .int c0_offAt, .int c0_offWho, .int c0_lastOff, .int c0_reason, .int c0_acts, .ref a0_can, .ref a0_fitting, .ref a0_wins, .ref a0_image, .ref a0_isKept])), (a0_book, .inl (G.2.1, 56, .inl c0_book)), (a0_now, .inl (G.2.1, 56, .inl v20.2))]) (st := [.int v20.1, .ref a0]) [1, 0, 2] rfl rfl ?_
        refine z_goto h (tgt := 235) dX12_year_226 (by decide) ?_
        refine z_locs h (lv2 := [(0, .ref a0), (2, .int x2), (3, .int x3), (4, .int (irm (((75 : Int32) * x4) + (74 : Int32)) (65537 : Int32))), (5, .int x5)]) [3, 4, 5, 2, 6] rfl ?_
        exact hB235 c0_offs c0_offAt c0_offWho c0_lastOff c0_reason v20.2 (irm (((75 : Int32) * x4) + (74 : Int32)) (65537 : Int32)) x5 v20.1 hf
      have hf := ite_f hf c17
      by_cases c21 : (irm ((irm (((75 : Int32) * x4) + (74 : Int32)) (65537 : Int32)) / (6 : Int32)) (8 : Int32)) = (6 : Int32)
      · have hf := ite_t hf c21
        refine z_tableIn h (off := 157) (tgt := 241) dX12_year_84 (6 : Int32) c21 (by decide) (by decide) (by decide) (by decide) ?_
        refine z_aload_n h dX12_year_241 3 rfl rfl ?_
        refine z_iload h dX12_year_242 0 rfl rfl ?_
        refine z_iconst h (v := (4 : Int32)) dX12_year_244 (by decide) rfl ?_
        refine z_irem h dX12_year_245 (by decide) rfl ?_
        refine z_if_ne h (tgt := 256) dX12_year_246 (by decide) rfl (fun c22 => ?_) (fun c22 => ?_)
        · have hf := ite_f hf c22
          refine z_aload_n h dX12_year_256 3 rfl rfl ?_
          obtain ⟨v23, hv23, hf⟩ := bd_some hf
          refine z_callV h (np := 0) (st := [.ref a0]) (wr := [(a0_book, .inl (G.2.1, 56, .inl c0_book))]) [] (ctX12_endHour l G a0 a0_book a0_now a0_sight a0_pad a0_can a0_fitting a0_wins a0_image a0_isKept c0_sights c0_signs c0_offs c0_offAt c0_offWho c0_lastOff c0_reason c0_acts c0_now hv23) gX12_year_X12_endHour (by decide +kernel) 0 rfl rfl rfl ⟨Nat.le_of_ble_eq_true rfl, Nat.le_of_ble_eq_true rfl⟩ ⟨Nat.le_refl _, Nat.le_refl _⟩ rfl rfl rfl [0, 2] [1] rfl rfl rfl rfl (by decide) (Nat.le_of_ble_eq_true rfl) dX12_year_257 rfl rfl (fun rv23 wv23 hrv23 => ?_)
          obtain ⟨rfl, rfl⟩ := hrv23
          refine z_perm h (w2 := [(a0, .inr (12, [.ref a0_book, .ref a0_now, .int c0_sights, .ref a0_sight, .int c0_signs, .ref a0_pad, .int v23.2.1, .int c0_offAt, .int c0_offWho, .int v23.2.2.1, .int c0_reason, .int c0_acts, .ref a0_can, .ref a0_fitting, .ref a0_wins, .ref a0_image, .ref a0_isKept])), (a0_book, .inl (G.2.1, 56, .inl c0_book)), (a0_now, .inl (G.2.1, 56, .inl v23.2.2.2))]) (st := [.int v23.1, .ref a0]) [1, 0, 2] rfl rfl ?_
          refine z_locs h (lv2 := [(0, .ref a0), (2, .int x2), (3, .int x3), (4, .int (irm (((75 : Int32) * x4) + (74 : Int32)) (65537 : Int32))), (5, .int x5)]) [3, 4, 5, 2, 6] rfl ?_
          exact hB260 v23.2.1 c0_offAt c0_offWho v23.2.2.1 c0_reason v23.2.2.2 (irm (((75 : Int32) * x4) + (74 : Int32)) (65537 : Int32)) x5 v23.1 hf
        have hf := ite_t hf c22
        refine z_aload_n h dX12_year_249 3 rfl rfl ?_
        obtain ⟨v24, hv24, hf⟩ := bd_some hf
        refine z_callV h (np := 0) (st := [.ref a0]) (wr := [(a0_book, .inl (G.2.1, 56, .inl c0_book))]) [] (ctX12_gust l G a0 a0_book a0_now a0_sight a0_pad a0_can a0_fitting a0_wins a0_image a0_isKept c0_sights c0_signs c0_offs c0_offAt c0_offWho c0_lastOff c0_reason c0_acts c0_now hv24) gX12_year_X12_gust (by decide +kernel) 0 rfl rfl rfl ⟨Nat.le_of_ble_eq_true rfl, Nat.le_of_ble_eq_true rfl⟩ ⟨Nat.le_refl _, Nat.le_refl _⟩ rfl rfl rfl [0, 2] [1] rfl rfl rfl rfl (by decide) (Nat.le_of_ble_eq_true rfl) dX12_year_250 rfl rfl (fun rv24 wv24 hrv24 => ?_)
        obtain ⟨rfl, rfl⟩ := hrv24
        refine z_perm h (w2 := [(a0, .inr (12, [.ref a0_book, .ref a0_now, .int c0_sights, .ref a0_sight, .int c0_signs, .ref a0_pad, .int c0_offs, .int c0_offAt, .int c0_offWho, .int c0_lastOff, .int c0_reason, .int c0_acts, .ref a0_can, .ref a0_fitting, .ref a0_wins, .ref a0_image, .ref a0_isKept])), (a0_book, .inl (G.2.1, 56, .inl c0_book)), (a0_now, .inl (G.2.1, 56, .inl v24.2))]) (st := [.int v24.1, .ref a0]) [1, 0, 2] rfl rfl ?_
        refine z_goto h (tgt := 260) dX12_year_253 (by decide) ?_
        refine z_locs h (lv2 := [(0, .ref a0), (2, .int x2), (3, .int x3), (4, .int (irm (((75 : Int32) * x4) + (74 : Int32)) (65537 : Int32))), (5, .int x5)]) [3, 4, 5, 2, 6] rfl ?_
        exact hB260 c0_offs c0_offAt c0_offWho c0_lastOff c0_reason v24.2 (irm (((75 : Int32) * x4) + (74 : Int32)) (65537 : Int32)) x5 v24.1 hf
      have hf := ite_f hf c21
      refine z_tableOut h (tgt := 266) dX12_year_84 (z_tout 7 (by decide) (by decide) (by decide) (fun j hj => match j, hj with
        | 0, _ => c7
        | 1, _ => c9
        | 2, _ => c11
        | 3, _ => c13
        | 4, _ => c15
        | 5, _ => c17
        | 6, _ => c21
        | j + 7, hj => absurd hj (by omega))) (by decide) ?_
      refine z_aload_n h dX12_year_266 3 rfl rfl ?_
      refine z_aload_n h dX12_year_267 3 rfl rfl ?_
      obtain ⟨v25, hv25, hf⟩ := bd_some hf
      refine z_callV h (np := 0) (st := [.ref a0]) (wr := [(a0_book, .inl (G.2.1, 56, .inl c0_book))]) [] (ctX12_endHour l G a0 a0_book a0_now a0_sight a0_pad a0_can a0_fitting a0_wins a0_image a0_isKept c0_sights c0_signs c0_offs c0_offAt c0_offWho c0_lastOff c0_reason c0_acts c0_now hv25) gX12_year_X12_endHour (by decide +kernel) 0 rfl rfl rfl ⟨Nat.le_of_ble_eq_true rfl, Nat.le_of_ble_eq_true rfl⟩ ⟨Nat.le_refl _, Nat.le_refl _⟩ rfl rfl rfl [0, 2] [1] rfl rfl rfl rfl (by decide) (Nat.le_of_ble_eq_true rfl) dX12_year_268 rfl rfl (fun rv25 wv25 hrv25 => ?_)
      obtain ⟨rfl, rfl⟩ := hrv25
      refine z_perm h (w2 := [(a0, .inr (12, [.ref a0_book, .ref a0_now, .int c0_sights, .ref a0_sight, .int c0_signs, .ref a0_pad, .int v25.2.1, .int c0_offAt, .int c0_offWho, .int v25.2.2.1, .int c0_reason, .int c0_acts, .ref a0_can, .ref a0_fitting, .ref a0_wins, .ref a0_image, .ref a0_isKept])), (a0_book, .inl (G.2.1, 56, .inl c0_book)), (a0_now, .inl (G.2.1, 56, .inl v25.2.2.2))]) (st := [.int v25.1, .ref a0]) [1, 0, 2] rfl rfl ?_
      refine z_put h (C := RX12) (T := TX12) (N := 17) 0 rfl rfl 10 (by decide) (by decide +kernel) (by decide +kernel) tyX12 tyX12_ok nmX12 (w2 := [(a0, .inr (12, [.ref a0_book, .ref a0_now, .int c0_sights, .ref a0_sight, .int c0_signs, .ref a0_pad, .int v25.2.1, .int c0_offAt, .int c0_offWho, .int v25.2.2.1, .int v25.1, .int c0_acts, .ref a0_can, .ref a0_fitting, .ref a0_wins, .ref a0_image, .ref a0_isKept])), (a0_book, .inl (G.2.1, 56, .inl c0_book)), (a0_now, .inl (G.2.1, 56, .inl v25.2.2.2))]) rfl rfl rfl (Nat.le_of_ble_eq_true rfl) rfl dX12_year_271 rfl ?_
      refine z_locs h (lv2 := [(0, .ref a0), (2, .int x2), (3, .int x3), (4, .int (irm (((75 : Int32) * x4) + (74 : Int32)) (65537 : Int32))), (5, .int x5)]) [3, 4, 5, 2, 6] rfl ?_
      exact hB274 v25.2.1 c0_offAt c0_offWho v25.2.2.1 v25.1 v25.2.2.2 (irm (((75 : Int32) * x4) + (74 : Int32)) (65537 : Int32)) x5 hf
  rw [fX12_year] at hf
  show Z 0 0 _ [(0, .ref a0), (1, .int x1), (2, .int x2), (3, .int x3)] 0 []
  refine z_iload_n h dX12_year_0 1 rfl rfl ?_
  refine z_iconst h (v := (0 : Int32)) dX12_year_1 (by decide) rfl ?_
  refine z_sipush h (v := (9999 : Int32)) dX12_year_2 (by decide) rfl ?_
  obtain ⟨v26, hv26, hf⟩ := bd_some hf
  refine z_callS h (np := 3) (st := []) (wr := [(a0, .inr (12, [.ref a0_book, .ref a0_now, .int c0_sights, .ref a0_sight, .int c0_signs, .ref a0_pad, .int c0_offs, .int c0_offAt, .int c0_offWho, .int c0_lastOff, .int c0_reason, .int c0_acts, .ref a0_can, .ref a0_fitting, .ref a0_wins, .ref a0_image, .ref a0_isKept])), (a0_book, .inl (G.2.1, 56, .inl c0_book)), (a0_now, .inl (G.2.1, 56, .inl c0_now))]) [.int x1, .int (0 : Int32), .int (9999 : Int32)] (ctX12_in l G x1 (0 : Int32) (9999 : Int32) hv26) gX12_year_X12_in (by decide +kernel) rfl ⟨Nat.le_of_ble_eq_true rfl, Nat.le_of_ble_eq_true rfl⟩ ⟨Nat.le_refl _, Nat.le_refl _⟩ rfl rfl rfl [] [0, 1, 2] rfl rfl rfl rfl (by decide) (Nat.le_of_ble_eq_true rfl) dX12_year_5 rfl rfl (fun rv26 wv26 hrv26 => ?_)
  obtain ⟨rfl, rfl⟩ := hrv26
  refine z_perm h (w2 := [(a0, .inr (12, [.ref a0_book, .ref a0_now, .int c0_sights, .ref a0_sight, .int c0_signs, .ref a0_pad, .int c0_offs, .int c0_offAt, .int c0_offWho, .int c0_lastOff, .int c0_reason, .int c0_acts, .ref a0_can, .ref a0_fitting, .ref a0_wins, .ref a0_image, .ref a0_isKept])), (a0_book, .inl (G.2.1, 56, .inl c0_book)), (a0_now, .inl (G.2.1, 56, .inl c0_now))]) (st := [.int v26]) [0, 1, 2] rfl rfl ?_
  refine z_if_eq h (tgt := 30) dX12_year_8 (by decide) rfl (fun c27 => ?_) (fun c27 => ?_)
  · have hf := ite_t hf c27
    refine z_locs h (lv2 := []) [] rfl ?_
    exact hB30 c0_offs c0_offAt c0_offWho c0_lastOff c0_reason c0_now hf
  have hf := ite_f hf c27
  refine z_iload_n h dX12_year_11 2 rfl rfl ?_
  refine z_iconst h (v := (1 : Int32)) dX12_year_12 (by decide) rfl ?_
  refine z_bipush h (v := (99 : Int32)) dX12_year_13 (by decide) rfl ?_
  obtain ⟨v28, hv28, hf⟩ := bd_some hf
  refine z_callS h (np := 3) (st := []) (wr := [(a0, .inr (12, [.ref a0_book, .ref a0_now, .int c0_sights, .ref a0_sight, .int c0_signs, .ref a0_pad, .int c0_offs, .int c0_offAt, .int c0_offWho, .int c0_lastOff, .int c0_reason, .int c0_acts, .ref a0_can, .ref a0_fitting, .ref a0_wins, .ref a0_image, .ref a0_isKept])), (a0_book, .inl (G.2.1, 56, .inl c0_book)), (a0_now, .inl (G.2.1, 56, .inl c0_now))]) [.int x2, .int (1 : Int32), .int (99 : Int32)] (ctX12_in l G x2 (1 : Int32) (99 : Int32) hv28) gX12_year_X12_in (by decide +kernel) rfl ⟨Nat.le_of_ble_eq_true rfl, Nat.le_of_ble_eq_true rfl⟩ ⟨Nat.le_refl _, Nat.le_refl _⟩ rfl rfl rfl [] [0, 1, 2] rfl rfl rfl rfl (by decide) (Nat.le_of_ble_eq_true rfl) dX12_year_15 rfl rfl (fun rv28 wv28 hrv28 => ?_)
  obtain ⟨rfl, rfl⟩ := hrv28
  refine z_perm h (w2 := [(a0, .inr (12, [.ref a0_book, .ref a0_now, .int c0_sights, .ref a0_sight, .int c0_signs, .ref a0_pad, .int c0_offs, .int c0_offAt, .int c0_offWho, .int c0_lastOff, .int c0_reason, .int c0_acts, .ref a0_can, .ref a0_fitting, .ref a0_wins, .ref a0_image, .ref a0_isKept])), (a0_book, .inl (G.2.1, 56, .inl c0_book)), (a0_now, .inl (G.2.1, 56, .inl c0_now))]) (st := [.int v28]) [0, 1, 2] rfl rfl ?_
  refine z_if_eq h (tgt := 30) dX12_year_18 (by decide) rfl (fun c29 => ?_) (fun c29 => ?_)
  · have hf := ite_t hf c29
    refine z_locs h (lv2 := []) [] rfl ?_
    exact hB30 c0_offs c0_offAt c0_offWho c0_lastOff c0_reason c0_now hf
  have hf := ite_f hf c29
  refine z_iload_n h dX12_year_21 3 rfl rfl ?_
  refine z_iconst h (v := (0 : Int32)) dX12_year_22 (by decide) rfl ?_
  refine z_iconst h (v := (2 : Int32)) dX12_year_23 (by decide) rfl ?_
  obtain ⟨v30, hv30, hf⟩ := bd_some hf
  refine z_callS h (np := 3) (st := []) (wr := [(a0, .inr (12, [.ref a0_book, .ref a0_now, .int c0_sights, .ref a0_sight, .int c0_signs, .ref a0_pad, .int c0_offs, .int c0_offAt, .int c0_offWho, .int c0_lastOff, .int c0_reason, .int c0_acts, .ref a0_can, .ref a0_fitting, .ref a0_wins, .ref a0_image, .ref a0_isKept])), (a0_book, .inl (G.2.1, 56, .inl c0_book)), (a0_now, .inl (G.2.1, 56, .inl c0_now))]) [.int x3, .int (0 : Int32), .int (2 : Int32)] (ctX12_in l G x3 (0 : Int32) (2 : Int32) hv30) gX12_year_X12_in (by decide +kernel) rfl ⟨Nat.le_of_ble_eq_true rfl, Nat.le_of_ble_eq_true rfl⟩ ⟨Nat.le_refl _, Nat.le_refl _⟩ rfl rfl rfl [] [0, 1, 2] rfl rfl rfl rfl (by decide) (Nat.le_of_ble_eq_true rfl) dX12_year_24 rfl rfl (fun rv30 wv30 hrv30 => ?_)
  obtain ⟨rfl, rfl⟩ := hrv30
  refine z_perm h (w2 := [(a0, .inr (12, [.ref a0_book, .ref a0_now, .int c0_sights, .ref a0_sight, .int c0_signs, .ref a0_pad, .int c0_offs, .int c0_offAt, .int c0_offWho, .int c0_lastOff, .int c0_reason, .int c0_acts, .ref a0_can, .ref a0_fitting, .ref a0_wins, .ref a0_image, .ref a0_isKept])), (a0_book, .inl (G.2.1, 56, .inl c0_book)), (a0_now, .inl (G.2.1, 56, .inl c0_now))]) (st := [.int v30]) [0, 1, 2] rfl rfl ?_
  refine z_if_ne h (tgt := 33) dX12_year_27 (by decide) rfl (fun c31 => ?_) (fun c31 => ?_)
  · have hf := ite_f hf c31
    refine z_aload_n h dX12_year_33 0 rfl rfl ?_
    obtain ⟨v32, hv32, hf⟩ := bd_some hf
    refine z_callV h (np := 0) (st := []) (wr := []) [] (ctX12_asNow l G a0 a0_book a0_now a0_sight a0_pad a0_can a0_fitting a0_wins a0_image a0_isKept c0_sights c0_signs c0_offs c0_offAt c0_offWho c0_lastOff c0_reason c0_acts c0_book c0_now hv32) gX12_year_X12_asNow (by decide +kernel) 0 rfl rfl rfl ⟨Nat.le_of_ble_eq_true rfl, Nat.le_of_ble_eq_true rfl⟩ ⟨Nat.le_refl _, Nat.le_refl _⟩ rfl rfl rfl [0, 1, 2] [] rfl rfl rfl rfl (by decide) (Nat.le_of_ble_eq_true rfl) dX12_year_34 rfl rfl (fun rv32 wv32 hrv32 => ?_)
    obtain ⟨rfl, rfl⟩ := hrv32
    refine z_perm h (w2 := [(a0, .inr (12, [.ref a0_book, .ref a0_now, .int c0_sights, .ref a0_sight, .int c0_signs, .ref a0_pad, .int v32.1, .int v32.2.1, .int v32.2.2.1, .int v32.2.2.2.1, .int c0_reason, .int c0_acts, .ref a0_can, .ref a0_fitting, .ref a0_wins, .ref a0_image, .ref a0_isKept])), (a0_book, .inl (G.2.1, 56, .inl c0_book)), (a0_now, .inl (G.2.1, 56, .inl v32.2.2.2.2))]) (st := []) [0, 1, 2] rfl rfl ?_
    refine z_iload_n h dX12_year_37 1 rfl rfl ?_
    refine z_istore h (lv2 := [(4, .int x1), (0, .ref a0), (1, .int x1), (2, .int x2), (3, .int x3)]) dX12_year_38 (by decide) rfl rfl ?_
    refine z_iconst h (v := (0 : Int32)) dX12_year_40 (by decide) rfl ?_
    refine z_istore h (lv2 := [(5, .int (0 : Int32)), (4, .int x1), (0, .ref a0), (1, .int x1), (2, .int x2), (3, .int x3)]) dX12_year_41 (by decide) rfl rfl ?_
    refine z_locs h (lv2 := [(0, .ref a0), (2, .int x2), (3, .int x3), (4, .int x1), (5, .int (0 : Int32))]) [2, 4, 5, 1, 0] rfl ?_
    exact hL43 zF v32.1 v32.2.1 v32.2.2.1 v32.2.2.2.1 c0_reason v32.2.2.2.2 x1 (0 : Int32) hf
  have hf := ite_t hf c31
  refine z_locs h (lv2 := []) [] rfl ?_
  exact hB30 c0_offs c0_offAt c0_offWho c0_lastOff c0_reason c0_now hf
def fX12_image_L47 (c0_sights : Int32) (c0_book : Nat → Int32) (c0_sight : Nat → Int32) (x1 : Int32)  : Nat → (Nat → Int32) → (Nat → Int32) → Int32 → Int32 → Option (Int32 × (Nat → Int32) × (Nat → Int32))
  | 0, _, _, _, _ => none
  | n + 1, c0_image, c0_isKept, x2, x3 => (if (40 : Int32) ≤ x3 then gd (inb (x2 + (98 : Int32)) 200) (gd (inb x1 2) ((some ((1 : Int32), (upd c0_image ((x2 + (98 : Int32))).toNatClampNeg c0_sights), (upd c0_isKept (x1).toNatClampNeg (vp_nar .boolean (1 : Int32))))))) else gd (inb x3 40) (gd (inb ((x2 + (56 : Int32)) + x3) 200) (((fX12_image_L47 c0_sights c0_book c0_sight x1  n) (upd c0_image (((x2 + (56 : Int32)) + x3)).toNatClampNeg (c0_sight (x3).toNatClampNeg)) c0_isKept x2 (x3 + (1 : Int32))))))
def fX12_image_L19 (c0_sights : Int32) (c0_book : Nat → Int32) (c0_sight : Nat → Int32) (x1 : Int32)  : Nat → (Nat → Int32) → (Nat → Int32) → Int32 → Int32 → Option (Int32 × (Nat → Int32) × (Nat → Int32))
  | 0, _, _, _, _ => none
  | n + 1, c0_image, c0_isKept, x2, x3 => (if (56 : Int32) ≤ x3 then (fX12_image_L47 c0_sights c0_book c0_sight x1  zF c0_image c0_isKept x2 (0 : Int32)) else gd (inb x3 56) (gd (inb (x2 + x3) 200) (((fX12_image_L19 c0_sights c0_book c0_sight x1  n) (upd c0_image ((x2 + x3)).toNatClampNeg (c0_book (x3).toNatClampNeg)) c0_isKept x2 (x3 + (1 : Int32))))))
def fX12_image (c0_sights : Int32) (c0_book : Nat → Int32) (c0_image : Nat → Int32) (c0_sight : Nat → Int32) (c0_isKept : Nat → Int32) (x1 : Int32) : Option (Int32 × (Nat → Int32) × (Nat → Int32)) := Option.bind (fX12_in x1 (0 : Int32) (1 : Int32)) (fun v9 => (if v9 = (0 : Int32) then (some ((-2 : Int32), c0_image, c0_isKept)) else (fX12_image_L19 c0_sights c0_book c0_sight x1  zF c0_image c0_isKept ((100 : Int32) * x1) (0 : Int32))))
abbrev rmX12_image : Room := { frames := 1, cells := 0, slots := 0, locals := 22 }
set_option maxRecDepth 100000 in
set_option maxHeartbeats 4000000 in
theorem ctX12_image (l : Launch) (G : zG) (a0 a0_book a0_now a0_sight a0_pad a0_can a0_fitting a0_wins a0_image a0_isKept : Nat) (c0_sights : Int32) (c0_signs : Int32) (c0_offs : Int32) (c0_offAt : Int32) (c0_offWho : Int32) (c0_lastOff : Int32) (c0_reason : Int32) (c0_acts : Int32) (c0_book : Nat → Int32) (c0_image : Nat → Int32) (c0_sight : Nat → Int32) (c0_isKept : Nat → Int32) (x1 : Int32) {R : Int32 × (Nat → Int32) × (Nat → Int32)} (hf : fX12_image c0_sights c0_book c0_image c0_sight c0_isKept x1 = some R) : zCt l yX12_image wsX12_image rmX12_image G [(a0, .inr (12, [.ref a0_book, .ref a0_now, .int c0_sights, .ref a0_sight, .int c0_signs, .ref a0_pad, .int c0_offs, .int c0_offAt, .int c0_offWho, .int c0_lastOff, .int c0_reason, .int c0_acts, .ref a0_can, .ref a0_fitting, .ref a0_wins, .ref a0_image, .ref a0_isKept])), (a0_book, .inl (G.2.1, 56, .inl c0_book)), (a0_image, .inl (G.2.1, 200, .inl c0_image)), (a0_sight, .inl (G.2.1, 40, .inl c0_sight)), (a0_isKept, .inl (G.2.2.1, 2, .inl c0_isKept))] [.ref a0, .int x1] (fun v w => v = some (.int (R.1)) ∧ w = [(a0, .inr (12, [.ref a0_book, .ref a0_now, .int c0_sights, .ref a0_sight, .int c0_signs, .ref a0_pad, .int c0_offs, .int c0_offAt, .int c0_offWho, .int c0_lastOff, .int c0_reason, .int c0_acts, .ref a0_can, .ref a0_fitting, .ref a0_wins, .ref a0_image, .ref a0_isKept])), (a0_book, .inl (G.2.1, 56, .inl c0_book)), (a0_image, .inl (G.2.1, 200, .inl (R.2.1))), (a0_sight, .inl (G.2.1, 40, .inl c0_sight)), (a0_isKept, .inl (G.2.2.1, 2, .inl (R.2.2)))]) := by
  refine zMkI (own := RX12) false (by decide) (by decide +kernel) rfl rfl (Nat.le_of_ble_eq_true rfl) ?_
  intro Z h hret
  have hL47 : ∀ (n47 : Nat) (c0_image : Nat → Int32) (c0_isKept : Nat → Int32) (x2 : Int32) (x3 : Int32), fX12_image_L47 c0_sights c0_book c0_sight x1  n47 c0_image c0_isKept x2 x3 = some R → Z 0 0 [(a0, .inr (12, [.ref a0_book, .ref a0_now, .int c0_sights, .ref a0_sight, .int c0_signs, .ref a0_pad, .int c0_offs, .int c0_offAt, .int c0_offWho, .int c0_lastOff, .int c0_reason, .int c0_acts, .ref a0_can, .ref a0_fitting, .ref a0_wins, .ref a0_image, .ref a0_isKept])), (a0_book, .inl (G.2.1, 56, .inl c0_book)), (a0_image, .inl (G.2.1, 200, .inl c0_image)), (a0_sight, .inl (G.2.1, 40, .inl c0_sight)), (a0_isKept, .inl (G.2.2.1, 2, .inl c0_isKept))] [(0, .ref a0), (1, .int x1), (2, .int x2), (3, .int x3)] 47 [] := by
    intro n47
    induction n47 with
    | zero =>
      intro c0_image c0_isKept x2 x3 hf
      rw [fX12_image_L47] at hf
      cases hf
    | succ n47 ih47 =>
      intro c0_image c0_isKept x2 x3 hf
      rw [fX12_image_L47] at hf
      refine z_iload_n h dX12_image_47 3 rfl rfl ?_
      refine z_bipush h (v := (40 : Int32)) dX12_image_48 (by decide) rfl ?_
      refine z_icmp_ge h (tgt := 76) dX12_image_50 (by decide) rfl (fun c1 => ?_) (fun c1 => ?_)
      · have hf := ite_t hf c1
        refine z_aload_n h dX12_image_76 0 rfl rfl ?_
        refine z_get h (C := RX12) (T := TX12) (N := 17) (v := .ref a0_image) 0 rfl rfl 15 (by decide) (by decide +kernel) (by decide +kernel) rfl dX12_image_77 rfl ?_
        refine z_iload_n h dX12_image_80 2 rfl rfl ?_
        refine z_bipush h (v := (98 : Int32)) dX12_image_81 (by decide) rfl ?_
        refine z_iadd h dX12_image_83 rfl ?_
        refine z_aload_n h dX12_image_84 0 rfl rfl ?_
        refine z_get h (C := RX12) (T := TX12) (N := 17) (v := .int c0_sights) 0 rfl rfl 2 (by decide) (by decide +kernel) (by decide +kernel) rfl dX12_image_85 rfl ?_
        obtain ⟨hg2, hf⟩ := gd_some hf
        refine z_iast h (w2 := [(a0, .inr (12, [.ref a0_book, .ref a0_now, .int c0_sights, .ref a0_sight, .int c0_signs, .ref a0_pad, .int c0_offs, .int c0_offAt, .int c0_offWho, .int c0_lastOff, .int c0_reason, .int c0_acts, .ref a0_can, .ref a0_fitting, .ref a0_wins, .ref a0_image, .ref a0_isKept])), (a0_book, .inl (G.2.1, 56, .inl c0_book)), (a0_image, .inl (G.2.1, 200, .inl (upd c0_image ((x2 + (98 : Int32))).toNatClampNeg c0_sights))), (a0_sight, .inl (G.2.1, 40, .inl c0_sight)), (a0_isKept, .inl (G.2.2.1, 2, .inl c0_isKept))]) 2 rfl rfl hg2 dX12_image_88 rfl rfl ?_
        refine z_aload_n h dX12_image_89 0 rfl rfl ?_
        refine z_get h (C := RX12) (T := TX12) (N := 17) (v := .ref a0_isKept) 0 rfl rfl 16 (by decide) (by decide +kernel) (by decide +kernel) rfl dX12_image_90 rfl ?_
        refine z_iload_n h dX12_image_93 1 rfl rfl ?_
        refine z_iconst h (v := (1 : Int32)) dX12_image_94 (by decide) rfl ?_
        obtain ⟨hg3, hf⟩ := gd_some hf
        refine z_zast h (w2 := [(a0, .inr (12, [.ref a0_book, .ref a0_now, .int c0_sights, .ref a0_sight, .int c0_signs, .ref a0_pad, .int c0_offs, .int c0_offAt, .int c0_offWho, .int c0_lastOff, .int c0_reason, .int c0_acts, .ref a0_can, .ref a0_fitting, .ref a0_wins, .ref a0_image, .ref a0_isKept])), (a0_book, .inl (G.2.1, 56, .inl c0_book)), (a0_image, .inl (G.2.1, 200, .inl (upd c0_image ((x2 + (98 : Int32))).toNatClampNeg c0_sights))), (a0_sight, .inl (G.2.1, 40, .inl c0_sight)), (a0_isKept, .inl (G.2.2.1, 2, .inl (upd c0_isKept (x1).toNatClampNeg (vp_nar .boolean (1 : Int32)))))]) 4 rfl rfl hg3 dX12_image_95 rfl rfl ?_
        refine z_iconst h (v := (1 : Int32)) dX12_image_96 (by decide) rfl ?_
        have hf := Option.some.inj hf
        subst hf
        exact hret _ _ _ _ dX12_image_97 ⟨rfl, rfl⟩
      have hf := ite_f hf c1
      refine z_aload_n h dX12_image_53 0 rfl rfl ?_
      refine z_get h (C := RX12) (T := TX12) (N := 17) (v := .ref a0_image) 0 rfl rfl 15 (by decide) (by decide +kernel) (by decide +kernel) rfl dX12_image_54 rfl ?_
      refine z_iload_n h dX12_image_57 2 rfl rfl ?_
      refine z_bipush h (v := (56 : Int32)) dX12_image_58 (by decide) rfl ?_
      refine z_iadd h dX12_image_60 rfl ?_
      refine z_iload_n h dX12_image_61 3 rfl rfl ?_
      refine z_iadd h dX12_image_62 rfl ?_
      refine z_aload_n h dX12_image_63 0 rfl rfl ?_
      refine z_get h (C := RX12) (T := TX12) (N := 17) (v := .ref a0_sight) 0 rfl rfl 3 (by decide) (by decide +kernel) (by decide +kernel) rfl dX12_image_64 rfl ?_
      refine z_iload_n h dX12_image_67 3 rfl rfl ?_
      obtain ⟨hg4, hf⟩ := gd_some hf
      refine z_iald h 3 rfl rfl hg4 dX12_image_68 rfl ?_
      obtain ⟨hg5, hf⟩ := gd_some hf
      refine z_iast h (w2 := [(a0, .inr (12, [.ref a0_book, .ref a0_now, .int c0_sights, .ref a0_sight, .int c0_signs, .ref a0_pad, .int c0_offs, .int c0_offAt, .int c0_offWho, .int c0_lastOff, .int c0_reason, .int c0_acts, .ref a0_can, .ref a0_fitting, .ref a0_wins, .ref a0_image, .ref a0_isKept])), (a0_book, .inl (G.2.1, 56, .inl c0_book)), (a0_image, .inl (G.2.1, 200, .inl (upd c0_image (((x2 + (56 : Int32)) + x3)).toNatClampNeg (c0_sight (x3).toNatClampNeg)))), (a0_sight, .inl (G.2.1, 40, .inl c0_sight)), (a0_isKept, .inl (G.2.2.1, 2, .inl c0_isKept))]) 2 rfl rfl hg5 dX12_image_69 rfl rfl ?_
      refine z_iinc h (v := (x3 + (1 : Int32))) (lv2 := [(3, .int (x3 + (1 : Int32))), (0, .ref a0), (1, .int x1), (2, .int x2)]) (j := 3) dX12_image_70 rfl rfl (by decide) rfl rfl ?_
      refine z_goto h (tgt := 47) dX12_image_73 (by decide) ?_
      refine z_locs h (lv2 := [(0, .ref a0), (1, .int x1), (2, .int x2), (3, .int (x3 + (1 : Int32)))]) [1, 2, 3, 0] rfl ?_
      exact ih47 (upd c0_image (((x2 + (56 : Int32)) + x3)).toNatClampNeg (c0_sight (x3).toNatClampNeg)) c0_isKept x2 (x3 + (1 : Int32)) hf
  have hL19 : ∀ (n19 : Nat) (c0_image : Nat → Int32) (c0_isKept : Nat → Int32) (x2 : Int32) (x3 : Int32), fX12_image_L19 c0_sights c0_book c0_sight x1  n19 c0_image c0_isKept x2 x3 = some R → Z 0 0 [(a0, .inr (12, [.ref a0_book, .ref a0_now, .int c0_sights, .ref a0_sight, .int c0_signs, .ref a0_pad, .int c0_offs, .int c0_offAt, .int c0_offWho, .int c0_lastOff, .int c0_reason, .int c0_acts, .ref a0_can, .ref a0_fitting, .ref a0_wins, .ref a0_image, .ref a0_isKept])), (a0_book, .inl (G.2.1, 56, .inl c0_book)), (a0_image, .inl (G.2.1, 200, .inl c0_image)), (a0_sight, .inl (G.2.1, 40, .inl c0_sight)), (a0_isKept, .inl (G.2.2.1, 2, .inl c0_isKept))] [(0, .ref a0), (1, .int x1), (2, .int x2), (3, .int x3)] 19 [] := by
    intro n19
    induction n19 with
    | zero =>
      intro c0_image c0_isKept x2 x3 hf
      rw [fX12_image_L19] at hf
      cases hf
    | succ n19 ih19 =>
      intro c0_image c0_isKept x2 x3 hf
      rw [fX12_image_L19] at hf
      refine z_iload_n h dX12_image_19 3 rfl rfl ?_
      refine z_bipush h (v := (56 : Int32)) dX12_image_20 (by decide) rfl ?_
      refine z_icmp_ge h (tgt := 45) dX12_image_22 (by decide) rfl (fun c6 => ?_) (fun c6 => ?_)
      · have hf := ite_t hf c6
        refine z_iconst h (v := (0 : Int32)) dX12_image_45 (by decide) rfl ?_
        refine z_istore_n h (lv2 := [(3, .int (0 : Int32)), (0, .ref a0), (1, .int x1), (2, .int x2)]) dX12_image_46 (by decide) rfl rfl ?_
        refine z_locs h (lv2 := [(0, .ref a0), (1, .int x1), (2, .int x2), (3, .int (0 : Int32))]) [1, 2, 3, 0] rfl ?_
        exact hL47 zF c0_image c0_isKept x2 (0 : Int32) hf
      have hf := ite_f hf c6
      refine z_aload_n h dX12_image_25 0 rfl rfl ?_
      refine z_get h (C := RX12) (T := TX12) (N := 17) (v := .ref a0_image) 0 rfl rfl 15 (by decide) (by decide +kernel) (by decide +kernel) rfl dX12_image_26 rfl ?_
      refine z_iload_n h dX12_image_29 2 rfl rfl ?_
      refine z_iload_n h dX12_image_30 3 rfl rfl ?_
      refine z_iadd h dX12_image_31 rfl ?_
      refine z_aload_n h dX12_image_32 0 rfl rfl ?_
      refine z_get h (C := RX12) (T := TX12) (N := 17) (v := .ref a0_book) 0 rfl rfl 0 (by decide) (by decide +kernel) (by decide +kernel) rfl dX12_image_33 rfl ?_
      refine z_iload_n h dX12_image_36 3 rfl rfl ?_
      obtain ⟨hg7, hf⟩ := gd_some hf
      refine z_iald h 1 rfl rfl hg7 dX12_image_37 rfl ?_
      obtain ⟨hg8, hf⟩ := gd_some hf
      refine z_iast h (w2 := [(a0, .inr (12, [.ref a0_book, .ref a0_now, .int c0_sights, .ref a0_sight, .int c0_signs, .ref a0_pad, .int c0_offs, .int c0_offAt, .int c0_offWho, .int c0_lastOff, .int c0_reason, .int c0_acts, .ref a0_can, .ref a0_fitting, .ref a0_wins, .ref a0_image, .ref a0_isKept])), (a0_book, .inl (G.2.1, 56, .inl c0_book)), (a0_image, .inl (G.2.1, 200, .inl (upd c0_image ((x2 + x3)).toNatClampNeg (c0_book (x3).toNatClampNeg)))), (a0_sight, .inl (G.2.1, 40, .inl c0_sight)), (a0_isKept, .inl (G.2.2.1, 2, .inl c0_isKept))]) 2 rfl rfl hg8 dX12_image_38 rfl rfl ?_
      refine z_iinc h (v := (x3 + (1 : Int32))) (lv2 := [(3, .int (x3 + (1 : Int32))), (0, .ref a0), (1, .int x1), (2, .int x2)]) (j := 3) dX12_image_39 rfl rfl (by decide) rfl rfl ?_
      refine z_goto h (tgt := 19) dX12_image_42 (by decide) ?_
      refine z_locs h (lv2 := [(0, .ref a0), (1, .int x1), (2, .int x2), (3, .int (x3 + (1 : Int32)))]) [1, 2, 3, 0] rfl ?_
      exact ih19 (upd c0_image ((x2 + x3)).toNatClampNeg (c0_book (x3).toNatClampNeg)) c0_isKept x2 (x3 + (1 : Int32)) hf
  rw [fX12_image] at hf
  show Z 0 0 _ [(0, .ref a0), (1, .int x1)] 0 []
  refine z_iload_n h dX12_image_0 1 rfl rfl ?_
  refine z_iconst h (v := (0 : Int32)) dX12_image_1 (by decide) rfl ?_
  refine z_iconst h (v := (1 : Int32)) dX12_image_2 (by decide) rfl ?_
  obtain ⟨v9, hv9, hf⟩ := bd_some hf
  refine z_callS h (np := 3) (st := []) (wr := [(a0, .inr (12, [.ref a0_book, .ref a0_now, .int c0_sights, .ref a0_sight, .int c0_signs, .ref a0_pad, .int c0_offs, .int c0_offAt, .int c0_offWho, .int c0_lastOff, .int c0_reason, .int c0_acts, .ref a0_can, .ref a0_fitting, .ref a0_wins, .ref a0_image, .ref a0_isKept])), (a0_book, .inl (G.2.1, 56, .inl c0_book)), (a0_image, .inl (G.2.1, 200, .inl c0_image)), (a0_sight, .inl (G.2.1, 40, .inl c0_sight)), (a0_isKept, .inl (G.2.2.1, 2, .inl c0_isKept))]) [.int x1, .int (0 : Int32), .int (1 : Int32)] (ctX12_in l G x1 (0 : Int32) (1 : Int32) hv9) gX12_image_X12_in (by decide +kernel) rfl ⟨Nat.le_of_ble_eq_true rfl, Nat.le_of_ble_eq_true rfl⟩ ⟨Nat.le_refl _, Nat.le_refl _⟩ rfl rfl rfl [] [0, 1, 2, 3, 4] rfl rfl rfl rfl (by decide) (Nat.le_of_ble_eq_true rfl) dX12_image_3 rfl rfl (fun rv9 wv9 hrv9 => ?_)
  obtain ⟨rfl, rfl⟩ := hrv9
  refine z_perm h (w2 := [(a0, .inr (12, [.ref a0_book, .ref a0_now, .int c0_sights, .ref a0_sight, .int c0_signs, .ref a0_pad, .int c0_offs, .int c0_offAt, .int c0_offWho, .int c0_lastOff, .int c0_reason, .int c0_acts, .ref a0_can, .ref a0_fitting, .ref a0_wins, .ref a0_image, .ref a0_isKept])), (a0_book, .inl (G.2.1, 56, .inl c0_book)), (a0_image, .inl (G.2.1, 200, .inl c0_image)), (a0_sight, .inl (G.2.1, 40, .inl c0_sight)), (a0_isKept, .inl (G.2.2.1, 2, .inl c0_isKept))]) (st := [.int v9]) [0, 1, 2, 3, 4] rfl rfl ?_
  refine z_if_ne h (tgt := 12) dX12_image_6 (by decide) rfl (fun c10 => ?_) (fun c10 => ?_)
  · have hf := ite_f hf c10
    refine z_bipush h (v := (100 : Int32)) dX12_image_12 (by decide) rfl ?_
    refine z_iload_n h dX12_image_14 1 rfl rfl ?_
    refine z_imul h dX12_image_15 rfl ?_
    refine z_istore_n h (lv2 := [(2, .int ((100 : Int32) * x1)), (0, .ref a0), (1, .int x1)]) dX12_image_16 (by decide) rfl rfl ?_
    refine z_iconst h (v := (0 : Int32)) dX12_image_17 (by decide) rfl ?_
    refine z_istore_n h (lv2 := [(3, .int (0 : Int32)), (2, .int ((100 : Int32) * x1)), (0, .ref a0), (1, .int x1)]) dX12_image_18 (by decide) rfl rfl ?_
    refine z_locs h (lv2 := [(0, .ref a0), (1, .int x1), (2, .int ((100 : Int32) * x1)), (3, .int (0 : Int32))]) [2, 3, 1, 0] rfl ?_
    exact hL19 zF c0_image c0_isKept ((100 : Int32) * x1) (0 : Int32) hf
  have hf := ite_t hf c10
  refine z_bipush h (v := (-2 : Int32)) dX12_image_9 (by decide) rfl ?_
  have hf := Option.some.inj hf
  subst hf
  exact hret _ _ _ _ dX12_image_11 ⟨rfl, rfl⟩
def fX12_restore_L59 (c0_isKept : Nat → Int32) (c0_image : Nat → Int32) (x1 : Int32)  : Nat → Int32 → (Nat → Int32) → (Nat → Int32) → Int32 → Int32 → Option (Int32 × Int32 × (Nat → Int32) × (Nat → Int32))
  | 0, _, _, _, _, _ => none
  | n + 1, c0_sights, c0_book, c0_sight, x2, x3 => (if (40 : Int32) ≤ x3 then gd (inb (x2 + (98 : Int32)) 200) ((some ((1 : Int32), (c0_image ((x2 + (98 : Int32))).toNatClampNeg), c0_book, c0_sight))) else gd (inb ((x2 + (56 : Int32)) + x3) 200) (gd (inb x3 40) (((fX12_restore_L59 c0_isKept c0_image x1  n) c0_sights c0_book (upd c0_sight (x3).toNatClampNeg (c0_image (((x2 + (56 : Int32)) + x3)).toNatClampNeg)) x2 (x3 + (1 : Int32))))))
def fX12_restore_L31 (c0_isKept : Nat → Int32) (c0_image : Nat → Int32) (x1 : Int32)  : Nat → Int32 → (Nat → Int32) → (Nat → Int32) → Int32 → Int32 → Option (Int32 × Int32 × (Nat → Int32) × (Nat → Int32))
  | 0, _, _, _, _, _ => none
  | n + 1, c0_sights, c0_book, c0_sight, x2, x3 => (if (56 : Int32) ≤ x3 then (fX12_restore_L59 c0_isKept c0_image x1  zF c0_sights c0_book c0_sight x2 (0 : Int32)) else gd (inb (x2 + x3) 200) (gd (inb x3 56) (((fX12_restore_L31 c0_isKept c0_image x1  n) c0_sights (upd c0_book (x3).toNatClampNeg (c0_image ((x2 + x3)).toNatClampNeg)) c0_sight x2 (x3 + (1 : Int32))))))
def fX12_restore (c0_sights : Int32) (c0_isKept : Nat → Int32) (c0_image : Nat → Int32) (c0_book : Nat → Int32) (c0_sight : Nat → Int32) (x1 : Int32) : Option (Int32 × Int32 × (Nat → Int32) × (Nat → Int32)) := Option.bind (fX12_in x1 (0 : Int32) (1 : Int32)) (fun v8 => (if v8 = (0 : Int32) then (some ((-2 : Int32), c0_sights, c0_book, c0_sight)) else gd (inb x1 2) ((if (c0_isKept (x1).toNatClampNeg) = (0 : Int32) then (some ((-3 : Int32), c0_sights, c0_book, c0_sight)) else (fX12_restore_L31 c0_isKept c0_image x1  zF c0_sights c0_book c0_sight ((100 : Int32) * x1) (0 : Int32))))))
abbrev rmX12_restore : Room := { frames := 1, cells := 0, slots := 0, locals := 22 }
set_option maxRecDepth 100000 in
set_option maxHeartbeats 4000000 in
theorem ctX12_restore (l : Launch) (G : zG) (a0 a0_book a0_now a0_sight a0_pad a0_can a0_fitting a0_wins a0_image a0_isKept : Nat) (c0_sights : Int32) (c0_signs : Int32) (c0_offs : Int32) (c0_offAt : Int32) (c0_offWho : Int32) (c0_lastOff : Int32) (c0_reason : Int32) (c0_acts : Int32) (c0_isKept : Nat → Int32) (c0_image : Nat → Int32) (c0_book : Nat → Int32) (c0_sight : Nat → Int32) (x1 : Int32) {R : Int32 × Int32 × (Nat → Int32) × (Nat → Int32)} (hf : fX12_restore c0_sights c0_isKept c0_image c0_book c0_sight x1 = some R) : zCt l yX12_restore wsX12_restore rmX12_restore G [(a0, .inr (12, [.ref a0_book, .ref a0_now, .int c0_sights, .ref a0_sight, .int c0_signs, .ref a0_pad, .int c0_offs, .int c0_offAt, .int c0_offWho, .int c0_lastOff, .int c0_reason, .int c0_acts, .ref a0_can, .ref a0_fitting, .ref a0_wins, .ref a0_image, .ref a0_isKept])), (a0_isKept, .inl (G.2.2.1, 2, .inl c0_isKept)), (a0_image, .inl (G.2.1, 200, .inl c0_image)), (a0_book, .inl (G.2.1, 56, .inl c0_book)), (a0_sight, .inl (G.2.1, 40, .inl c0_sight))] [.ref a0, .int x1] (fun v w => v = some (.int (R.1)) ∧ w = [(a0, .inr (12, [.ref a0_book, .ref a0_now, .int (R.2.1), .ref a0_sight, .int c0_signs, .ref a0_pad, .int c0_offs, .int c0_offAt, .int c0_offWho, .int c0_lastOff, .int c0_reason, .int c0_acts, .ref a0_can, .ref a0_fitting, .ref a0_wins, .ref a0_image, .ref a0_isKept])), (a0_isKept, .inl (G.2.2.1, 2, .inl c0_isKept)), (a0_image, .inl (G.2.1, 200, .inl c0_image)), (a0_book, .inl (G.2.1, 56, .inl (R.2.2.1))), (a0_sight, .inl (G.2.1, 40, .inl (R.2.2.2)))]) := by
  refine zMkI (own := RX12) false (by decide) (by decide +kernel) rfl rfl (Nat.le_of_ble_eq_true rfl) ?_
  intro Z h hret
  have hL59 : ∀ (n59 : Nat) (c0_sights : Int32) (c0_book : Nat → Int32) (c0_sight : Nat → Int32) (x2 : Int32) (x3 : Int32), fX12_restore_L59 c0_isKept c0_image x1  n59 c0_sights c0_book c0_sight x2 x3 = some R → Z 0 0 [(a0, .inr (12, [.ref a0_book, .ref a0_now, .int c0_sights, .ref a0_sight, .int c0_signs, .ref a0_pad, .int c0_offs, .int c0_offAt, .int c0_offWho, .int c0_lastOff, .int c0_reason, .int c0_acts, .ref a0_can, .ref a0_fitting, .ref a0_wins, .ref a0_image, .ref a0_isKept])), (a0_isKept, .inl (G.2.2.1, 2, .inl c0_isKept)), (a0_image, .inl (G.2.1, 200, .inl c0_image)), (a0_book, .inl (G.2.1, 56, .inl c0_book)), (a0_sight, .inl (G.2.1, 40, .inl c0_sight))] [(0, .ref a0), (2, .int x2), (3, .int x3)] 59 [] := by
    intro n59
    induction n59 with
    | zero =>
      intro c0_sights c0_book c0_sight x2 x3 hf
      rw [fX12_restore_L59] at hf
      cases hf
    | succ n59 ih59 =>
      intro c0_sights c0_book c0_sight x2 x3 hf
      rw [fX12_restore_L59] at hf
      refine z_iload_n h dX12_restore_59 2 rfl rfl ?_
      refine z_bipush h (v := (40 : Int32)) dX12_restore_60 (by decide) rfl ?_
      refine z_icmp_ge h (tgt := 88) dX12_restore_62 (by decide) rfl (fun c1 => ?_) (fun c1 => ?_)
      · have hf := ite_t hf c1
        refine z_aload_n h dX12_restore_88 0 rfl rfl ?_
        refine z_aload_n h dX12_restore_89 0 rfl rfl ?_
        refine z_get h (C := RX12) (T := TX12) (N := 17) (v := .ref a0_image) 0 rfl rfl 15 (by decide) (by decide +kernel) (by decide +kernel) rfl dX12_restore_90 rfl ?_
        refine z_iload_n h dX12_restore_93 1 rfl rfl ?_
        refine z_bipush h (v := (98 : Int32)) dX12_restore_94 (by decide) rfl ?_
        refine z_iadd h dX12_restore_96 rfl ?_
        obtain ⟨hg2, hf⟩ := gd_some hf
        refine z_iald h 2 rfl rfl hg2 dX12_restore_97 rfl ?_
        refine z_put h (C := RX12) (T := TX12) (N := 17) 0 rfl rfl 2 (by decide) (by decide +kernel) (by decide +kernel) tyX12 tyX12_ok nmX12 (w2 := [(a0, .inr (12, [.ref a0_book, .ref a0_now, .int (c0_image ((x2 + (98 : Int32))).toNatClampNeg), .ref a0_sight, .int c0_signs, .ref a0_pad, .int c0_offs, .int c0_offAt, .int c0_offWho, .int c0_lastOff, .int c0_reason, .int c0_acts, .ref a0_can, .ref a0_fitting, .ref a0_wins, .ref a0_image, .ref a0_isKept])), (a0_isKept, .inl (G.2.2.1, 2, .inl c0_isKept)), (a0_image, .inl (G.2.1, 200, .inl c0_image)), (a0_book, .inl (G.2.1, 56, .inl c0_book)), (a0_sight, .inl (G.2.1, 40, .inl c0_sight))]) rfl rfl rfl (Nat.le_of_ble_eq_true rfl) rfl dX12_restore_98 rfl ?_
        refine z_iconst h (v := (1 : Int32)) dX12_restore_101 (by decide) rfl ?_
        have hf := Option.some.inj hf
        subst hf
        exact hret _ _ _ _ dX12_restore_102 ⟨rfl, rfl⟩
      have hf := ite_f hf c1
      refine z_aload_n h dX12_restore_65 0 rfl rfl ?_
      refine z_get h (C := RX12) (T := TX12) (N := 17) (v := .ref a0_sight) 0 rfl rfl 3 (by decide) (by decide +kernel) (by decide +kernel) rfl dX12_restore_66 rfl ?_
      refine z_iload_n h dX12_restore_69 2 rfl rfl ?_
      refine z_aload_n h dX12_restore_70 0 rfl rfl ?_
      refine z_get h (C := RX12) (T := TX12) (N := 17) (v := .ref a0_image) 0 rfl rfl 15 (by decide) (by decide +kernel) (by decide +kernel) rfl dX12_restore_71 rfl ?_
      refine z_iload_n h dX12_restore_74 1 rfl rfl ?_
      refine z_bipush h (v := (56 : Int32)) dX12_restore_75 (by decide) rfl ?_
      refine z_iadd h dX12_restore_77 rfl ?_
      refine z_iload_n h dX12_restore_78 2 rfl rfl ?_
      refine z_iadd h dX12_restore_79 rfl ?_
      obtain ⟨hg3, hf⟩ := gd_some hf
      refine z_iald h 2 rfl rfl hg3 dX12_restore_80 rfl ?_
      obtain ⟨hg4, hf⟩ := gd_some hf
      refine z_iast h (w2 := [(a0, .inr (12, [.ref a0_book, .ref a0_now, .int c0_sights, .ref a0_sight, .int c0_signs, .ref a0_pad, .int c0_offs, .int c0_offAt, .int c0_offWho, .int c0_lastOff, .int c0_reason, .int c0_acts, .ref a0_can, .ref a0_fitting, .ref a0_wins, .ref a0_image, .ref a0_isKept])), (a0_isKept, .inl (G.2.2.1, 2, .inl c0_isKept)), (a0_image, .inl (G.2.1, 200, .inl c0_image)), (a0_book, .inl (G.2.1, 56, .inl c0_book)), (a0_sight, .inl (G.2.1, 40, .inl (upd c0_sight (x3).toNatClampNeg (c0_image (((x2 + (56 : Int32)) + x3)).toNatClampNeg))))]) 4 rfl rfl hg4 dX12_restore_81 rfl rfl ?_
      refine z_iinc h (v := (x3 + (1 : Int32))) (lv2 := [(3, .int (x3 + (1 : Int32))), (0, .ref a0), (2, .int x2)]) (j := 2) dX12_restore_82 rfl rfl (by decide) rfl rfl ?_
      refine z_goto h (tgt := 59) dX12_restore_85 (by decide) ?_
      refine z_locs h (lv2 := [(0, .ref a0), (2, .int x2), (3, .int (x3 + (1 : Int32)))]) [1, 2, 0] rfl ?_
      exact ih59 c0_sights c0_book (upd c0_sight (x3).toNatClampNeg (c0_image (((x2 + (56 : Int32)) + x3)).toNatClampNeg)) x2 (x3 + (1 : Int32)) hf
  have hL31 : ∀ (n31 : Nat) (c0_sights : Int32) (c0_book : Nat → Int32) (c0_sight : Nat → Int32) (x2 : Int32) (x3 : Int32), fX12_restore_L31 c0_isKept c0_image x1  n31 c0_sights c0_book c0_sight x2 x3 = some R → Z 0 0 [(a0, .inr (12, [.ref a0_book, .ref a0_now, .int c0_sights, .ref a0_sight, .int c0_signs, .ref a0_pad, .int c0_offs, .int c0_offAt, .int c0_offWho, .int c0_lastOff, .int c0_reason, .int c0_acts, .ref a0_can, .ref a0_fitting, .ref a0_wins, .ref a0_image, .ref a0_isKept])), (a0_isKept, .inl (G.2.2.1, 2, .inl c0_isKept)), (a0_image, .inl (G.2.1, 200, .inl c0_image)), (a0_book, .inl (G.2.1, 56, .inl c0_book)), (a0_sight, .inl (G.2.1, 40, .inl c0_sight))] [(0, .ref a0), (2, .int x2), (3, .int x3)] 31 [] := by
    intro n31
    induction n31 with
    | zero =>
      intro c0_sights c0_book c0_sight x2 x3 hf
      rw [fX12_restore_L31] at hf
      cases hf
    | succ n31 ih31 =>
      intro c0_sights c0_book c0_sight x2 x3 hf
      rw [fX12_restore_L31] at hf
      refine z_iload_n h dX12_restore_31 2 rfl rfl ?_
      refine z_bipush h (v := (56 : Int32)) dX12_restore_32 (by decide) rfl ?_
      refine z_icmp_ge h (tgt := 57) dX12_restore_34 (by decide) rfl (fun c5 => ?_) (fun c5 => ?_)
      · have hf := ite_t hf c5
        refine z_iconst h (v := (0 : Int32)) dX12_restore_57 (by decide) rfl ?_
        refine z_istore_n h (lv2 := [(3, .int (0 : Int32)), (0, .ref a0), (2, .int x2)]) dX12_restore_58 (by decide) rfl rfl ?_
        refine z_locs h (lv2 := [(0, .ref a0), (2, .int x2), (3, .int (0 : Int32))]) [1, 2, 0] rfl ?_
        exact hL59 zF c0_sights c0_book c0_sight x2 (0 : Int32) hf
      have hf := ite_f hf c5
      refine z_aload_n h dX12_restore_37 0 rfl rfl ?_
      refine z_get h (C := RX12) (T := TX12) (N := 17) (v := .ref a0_book) 0 rfl rfl 0 (by decide) (by decide +kernel) (by decide +kernel) rfl dX12_restore_38 rfl ?_
      refine z_iload_n h dX12_restore_41 2 rfl rfl ?_
      refine z_aload_n h dX12_restore_42 0 rfl rfl ?_
      refine z_get h (C := RX12) (T := TX12) (N := 17) (v := .ref a0_image) 0 rfl rfl 15 (by decide) (by decide +kernel) (by decide +kernel) rfl dX12_restore_43 rfl ?_
      refine z_iload_n h dX12_restore_46 1 rfl rfl ?_
      refine z_iload_n h dX12_restore_47 2 rfl rfl ?_
      refine z_iadd h dX12_restore_48 rfl ?_
      obtain ⟨hg6, hf⟩ := gd_some hf
      refine z_iald h 2 rfl rfl hg6 dX12_restore_49 rfl ?_
      obtain ⟨hg7, hf⟩ := gd_some hf
      refine z_iast h (w2 := [(a0, .inr (12, [.ref a0_book, .ref a0_now, .int c0_sights, .ref a0_sight, .int c0_signs, .ref a0_pad, .int c0_offs, .int c0_offAt, .int c0_offWho, .int c0_lastOff, .int c0_reason, .int c0_acts, .ref a0_can, .ref a0_fitting, .ref a0_wins, .ref a0_image, .ref a0_isKept])), (a0_isKept, .inl (G.2.2.1, 2, .inl c0_isKept)), (a0_image, .inl (G.2.1, 200, .inl c0_image)), (a0_book, .inl (G.2.1, 56, .inl (upd c0_book (x3).toNatClampNeg (c0_image ((x2 + x3)).toNatClampNeg)))), (a0_sight, .inl (G.2.1, 40, .inl c0_sight))]) 3 rfl rfl hg7 dX12_restore_50 rfl rfl ?_
      refine z_iinc h (v := (x3 + (1 : Int32))) (lv2 := [(3, .int (x3 + (1 : Int32))), (0, .ref a0), (2, .int x2)]) (j := 2) dX12_restore_51 rfl rfl (by decide) rfl rfl ?_
      refine z_goto h (tgt := 31) dX12_restore_54 (by decide) ?_
      refine z_locs h (lv2 := [(0, .ref a0), (2, .int x2), (3, .int (x3 + (1 : Int32)))]) [1, 2, 0] rfl ?_
      exact ih31 c0_sights (upd c0_book (x3).toNatClampNeg (c0_image ((x2 + x3)).toNatClampNeg)) c0_sight x2 (x3 + (1 : Int32)) hf
  rw [fX12_restore] at hf
  show Z 0 0 _ [(0, .ref a0), (1, .int x1)] 0 []
  refine z_iload_n h dX12_restore_0 1 rfl rfl ?_
  refine z_iconst h (v := (0 : Int32)) dX12_restore_1 (by decide) rfl ?_
  refine z_iconst h (v := (1 : Int32)) dX12_restore_2 (by decide) rfl ?_
  obtain ⟨v8, hv8, hf⟩ := bd_some hf
  refine z_callS h (np := 3) (st := []) (wr := [(a0, .inr (12, [.ref a0_book, .ref a0_now, .int c0_sights, .ref a0_sight, .int c0_signs, .ref a0_pad, .int c0_offs, .int c0_offAt, .int c0_offWho, .int c0_lastOff, .int c0_reason, .int c0_acts, .ref a0_can, .ref a0_fitting, .ref a0_wins, .ref a0_image, .ref a0_isKept])), (a0_isKept, .inl (G.2.2.1, 2, .inl c0_isKept)), (a0_image, .inl (G.2.1, 200, .inl c0_image)), (a0_book, .inl (G.2.1, 56, .inl c0_book)), (a0_sight, .inl (G.2.1, 40, .inl c0_sight))]) [.int x1, .int (0 : Int32), .int (1 : Int32)] (ctX12_in l G x1 (0 : Int32) (1 : Int32) hv8) gX12_restore_X12_in (by decide +kernel) rfl ⟨Nat.le_of_ble_eq_true rfl, Nat.le_of_ble_eq_true rfl⟩ ⟨Nat.le_refl _, Nat.le_refl _⟩ rfl rfl rfl [] [0, 1, 2, 3, 4] rfl rfl rfl rfl (by decide) (Nat.le_of_ble_eq_true rfl) dX12_restore_3 rfl rfl (fun rv8 wv8 hrv8 => ?_)
  obtain ⟨rfl, rfl⟩ := hrv8
  refine z_perm h (w2 := [(a0, .inr (12, [.ref a0_book, .ref a0_now, .int c0_sights, .ref a0_sight, .int c0_signs, .ref a0_pad, .int c0_offs, .int c0_offAt, .int c0_offWho, .int c0_lastOff, .int c0_reason, .int c0_acts, .ref a0_can, .ref a0_fitting, .ref a0_wins, .ref a0_image, .ref a0_isKept])), (a0_isKept, .inl (G.2.2.1, 2, .inl c0_isKept)), (a0_image, .inl (G.2.1, 200, .inl c0_image)), (a0_book, .inl (G.2.1, 56, .inl c0_book)), (a0_sight, .inl (G.2.1, 40, .inl c0_sight))]) (st := [.int v8]) [0, 1, 2, 3, 4] rfl rfl ?_
  refine z_if_ne h (tgt := 12) dX12_restore_6 (by decide) rfl (fun c9 => ?_) (fun c9 => ?_)
  · have hf := ite_f hf c9
    refine z_aload_n h dX12_restore_12 0 rfl rfl ?_
    refine z_get h (C := RX12) (T := TX12) (N := 17) (v := .ref a0_isKept) 0 rfl rfl 16 (by decide) (by decide +kernel) (by decide +kernel) rfl dX12_restore_13 rfl ?_
    refine z_iload_n h dX12_restore_16 1 rfl rfl ?_
    obtain ⟨hg10, hf⟩ := gd_some hf
    refine z_zald h 1 rfl rfl hg10 dX12_restore_17 rfl ?_
    refine z_if_ne h (tgt := 24) dX12_restore_18 (by decide) rfl (fun c11 => ?_) (fun c11 => ?_)
    · have hf := ite_f hf c11
      refine z_bipush h (v := (100 : Int32)) dX12_restore_24 (by decide) rfl ?_
      refine z_iload_n h dX12_restore_26 1 rfl rfl ?_
      refine z_imul h dX12_restore_27 rfl ?_
      refine z_istore_n h (lv2 := [(2, .int ((100 : Int32) * x1)), (0, .ref a0), (1, .int x1)]) dX12_restore_28 (by decide) rfl rfl ?_
      refine z_iconst h (v := (0 : Int32)) dX12_restore_29 (by decide) rfl ?_
      refine z_istore_n h (lv2 := [(3, .int (0 : Int32)), (2, .int ((100 : Int32) * x1)), (0, .ref a0), (1, .int x1)]) dX12_restore_30 (by decide) rfl rfl ?_
      refine z_locs h (lv2 := [(0, .ref a0), (2, .int ((100 : Int32) * x1)), (3, .int (0 : Int32))]) [2, 1, 0] rfl ?_
      exact hL31 zF c0_sights c0_book c0_sight ((100 : Int32) * x1) (0 : Int32) hf
    have hf := ite_t hf c11
    refine z_bipush h (v := (-3 : Int32)) dX12_restore_21 (by decide) rfl ?_
    have hf := Option.some.inj hf
    subst hf
    exact hret _ _ _ _ dX12_restore_23 ⟨rfl, rfl⟩
  have hf := ite_t hf c9
  refine z_bipush h (v := (-2 : Int32)) dX12_restore_9 (by decide) rfl ?_
  have hf := Option.some.inj hf
  subst hf
  exact hret _ _ _ _ dX12_restore_11 ⟨rfl, rfl⟩
def fX12_told_b145 (c0_sights : Int32) (c0_signs : Int32) (c0_book : Nat → Int32) (x1 : Int32)  (c0_offs : Int32) (c0_offAt : Int32) (c0_offWho : Int32) (c0_lastOff : Int32) (c0_now : Nat → Int32) : Option (Int32 × Int32 × Int32 × Int32 × Int32 × (Nat → Int32)) := gd (inb ((47 : Int32) + x1) 56) ((some ((c0_book (((47 : Int32) + x1)).toNatClampNeg), c0_offs, c0_offAt, c0_offWho, c0_lastOff, c0_now)))
def fX12_told_b180 (c0_sights : Int32) (c0_signs : Int32) (c0_book : Nat → Int32) (x1 : Int32)  (c0_offs : Int32) (c0_offAt : Int32) (c0_offWho : Int32) (c0_lastOff : Int32) (c0_now : Nat → Int32) (s0 : Int32) : Option (Int32 × Int32 × Int32 × Int32 × Int32 × (Nat → Int32)) := (some (s0, c0_offs, c0_offAt, c0_offWho, c0_lastOff, c0_now))
def fX12_told_b28 (c0_sights : Int32) (c0_signs : Int32) (c0_book : Nat → Int32) (x1 : Int32)  (c0_offs : Int32) (c0_offAt : Int32) (c0_offWho : Int32) (c0_lastOff : Int32) (c0_now : Nat → Int32) : Option (Int32 × Int32 × Int32 × Int32 × Int32 × (Nat → Int32)) := (some ((-2 : Int32), c0_offs, c0_offAt, c0_offWho, c0_lastOff, c0_now))
def fX12_told_b91 (c0_sights : Int32) (c0_signs : Int32) (c0_book : Nat → Int32) (x1 : Int32)  (c0_offs : Int32) (c0_offAt : Int32) (c0_offWho : Int32) (c0_lastOff : Int32) (c0_now : Nat → Int32) (s0 : Int32) : Option (Int32 × Int32 × Int32 × Int32 × Int32 × (Nat → Int32)) := (some (s0, c0_offs, c0_offAt, c0_offWho, c0_lastOff, c0_now))
def fX12_told (c0_sights : Int32) (c0_signs : Int32) (c0_offs : Int32) (c0_offAt : Int32) (c0_offWho : Int32) (c0_lastOff : Int32) (c0_book : Nat → Int32) (c0_now : Nat → Int32) (x1 : Int32) : Option (Int32 × Int32 × Int32 × Int32 × Int32 × (Nat → Int32)) := Option.bind (fX12_asNow c0_offs c0_offAt c0_offWho c0_lastOff c0_book c0_now) (fun v2 => (if x1 < (10 : Int32) then (if x1 = (0 : Int32) then (some (c0_signs, v2.1, v2.2.1, v2.2.2.1, v2.2.2.2.1, v2.2.2.2.2)) else if x1 = (1 : Int32) then (fX12_told_b145 c0_sights c0_signs c0_book x1  v2.1 v2.2.1 v2.2.2.1 v2.2.2.2.1 v2.2.2.2.2) else if x1 = (2 : Int32) then (fX12_told_b145 c0_sights c0_signs c0_book x1  v2.1 v2.2.1 v2.2.2.1 v2.2.2.2.1 v2.2.2.2.2) else if x1 = (3 : Int32) then (fX12_told_b145 c0_sights c0_signs c0_book x1  v2.1 v2.2.1 v2.2.2.1 v2.2.2.2.1 v2.2.2.2.2) else if x1 = (4 : Int32) then (fX12_told_b145 c0_sights c0_signs c0_book x1  v2.1 v2.2.1 v2.2.2.1 v2.2.2.2.1 v2.2.2.2.2) else if x1 = (5 : Int32) then (fX12_told_b145 c0_sights c0_signs c0_book x1  v2.1 v2.2.1 v2.2.2.1 v2.2.2.2.1 v2.2.2.2.2) else if x1 = (6 : Int32) then Option.bind (fX12_hushedOnes v2.2.2.2.2) (fun v11 => (some (v11, v2.1, v2.2.1, v2.2.2.1, v2.2.2.2.1, v2.2.2.2.2))) else if x1 = (7 : Int32) then Option.bind (fX12_offOnes v2.2.2.2.2) (fun v13 => (some (v13, v2.1, v2.2.1, v2.2.2.1, v2.2.2.2.1, v2.2.2.2.2))) else (if x1 = (8 : Int32) then (fX12_told_b180 c0_sights c0_signs c0_book x1  v2.1 v2.2.1 v2.2.2.1 v2.2.2.2.1 v2.2.2.2.2 c0_sights) else (fX12_told_b180 c0_sights c0_signs c0_book x1  v2.1 v2.2.1 v2.2.2.1 v2.2.2.2.1 v2.2.2.2.2 (-2 : Int32)))) else Option.bind (fX12_isWalker (irm x1 (10 : Int32))) (fun v15 => (if v15 = (0 : Int32) then (fX12_told_b28 c0_sights c0_signs c0_book x1  v2.1 v2.2.1 v2.2.2.1 v2.2.2.2.1 v2.2.2.2.2) else (if x1 ≤ (69 : Int32) then (if x1 < (60 : Int32) then gd (inb (((6 : Int32) * ((x1 / (10 : Int32)) - (1 : Int32))) + (irm x1 (10 : Int32))) 56) ((fX12_told_b91 c0_sights c0_signs c0_book x1  v2.1 v2.2.1 v2.2.2.1 v2.2.2.2.1 v2.2.2.2.2 (c0_book ((((6 : Int32) * ((x1 / (10 : Int32)) - (1 : Int32))) + (irm x1 (10 : Int32)))).toNatClampNeg))) else gd (inb ((30 : Int32) + (irm x1 (10 : Int32))) 56) (gd (inb ((36 : Int32) + (irm x1 (10 : Int32))) 56) (gd (inb ((42 : Int32) + (irm x1 (10 : Int32))) 56) ((fX12_told_b91 c0_sights c0_signs c0_book x1  v2.1 v2.2.1 v2.2.2.1 v2.2.2.2.1 v2.2.2.2.2 ((((100 : Int32) * (c0_book (((30 : Int32) + (irm x1 (10 : Int32)))).toNatClampNeg)) + ((10 : Int32) * (c0_book (((36 : Int32) + (irm x1 (10 : Int32)))).toNatClampNeg))) + (c0_book (((42 : Int32) + (irm x1 (10 : Int32)))).toNatClampNeg))))))) else (fX12_told_b28 c0_sights c0_signs c0_book x1  v2.1 v2.2.1 v2.2.2.1 v2.2.2.2.1 v2.2.2.2.2))))))
abbrev rmX12_told : Room := { frames := 4, cells := 0, slots := 0, locals := 85 }
set_option maxRecDepth 100000 in
set_option maxHeartbeats 4000000 in
theorem ctX12_told (l : Launch) (G : zG) (a0 a0_book a0_now a0_sight a0_pad a0_can a0_fitting a0_wins a0_image a0_isKept : Nat) (c0_sights : Int32) (c0_signs : Int32) (c0_offs : Int32) (c0_offAt : Int32) (c0_offWho : Int32) (c0_lastOff : Int32) (c0_reason : Int32) (c0_acts : Int32) (c0_book : Nat → Int32) (c0_now : Nat → Int32) (x1 : Int32) {R : Int32 × Int32 × Int32 × Int32 × Int32 × (Nat → Int32)} (hf : fX12_told c0_sights c0_signs c0_offs c0_offAt c0_offWho c0_lastOff c0_book c0_now x1 = some R) : zCt l yX12_told wsX12_told rmX12_told G [(a0, .inr (12, [.ref a0_book, .ref a0_now, .int c0_sights, .ref a0_sight, .int c0_signs, .ref a0_pad, .int c0_offs, .int c0_offAt, .int c0_offWho, .int c0_lastOff, .int c0_reason, .int c0_acts, .ref a0_can, .ref a0_fitting, .ref a0_wins, .ref a0_image, .ref a0_isKept])), (a0_book, .inl (G.2.1, 56, .inl c0_book)), (a0_now, .inl (G.2.1, 56, .inl c0_now))] [.ref a0, .int x1] (fun v w => v = some (.int (R.1)) ∧ w = [(a0, .inr (12, [.ref a0_book, .ref a0_now, .int c0_sights, .ref a0_sight, .int c0_signs, .ref a0_pad, .int (R.2.1), .int (R.2.2.1), .int (R.2.2.2.1), .int (R.2.2.2.2.1), .int c0_reason, .int c0_acts, .ref a0_can, .ref a0_fitting, .ref a0_wins, .ref a0_image, .ref a0_isKept])), (a0_book, .inl (G.2.1, 56, .inl c0_book)), (a0_now, .inl (G.2.1, 56, .inl (R.2.2.2.2.2)))]) := by
  refine zMkI (own := RX12) false (by decide) (by decide +kernel) rfl rfl (Nat.le_of_ble_eq_true rfl) ?_
  intro Z h hret
  have hB145 : ∀ (c0_offs : Int32) (c0_offAt : Int32) (c0_offWho : Int32) (c0_lastOff : Int32) (c0_now : Nat → Int32), fX12_told_b145 c0_sights c0_signs c0_book x1  c0_offs c0_offAt c0_offWho c0_lastOff c0_now = some R → Z 0 0 [(a0, .inr (12, [.ref a0_book, .ref a0_now, .int c0_sights, .ref a0_sight, .int c0_signs, .ref a0_pad, .int c0_offs, .int c0_offAt, .int c0_offWho, .int c0_lastOff, .int c0_reason, .int c0_acts, .ref a0_can, .ref a0_fitting, .ref a0_wins, .ref a0_image, .ref a0_isKept])), (a0_book, .inl (G.2.1, 56, .inl c0_book)), (a0_now, .inl (G.2.1, 56, .inl c0_now))] [(0, .ref a0), (1, .int x1)] 145 [] := by
    intro c0_offs c0_offAt c0_offWho c0_lastOff c0_now hf
    rw [fX12_told_b145] at hf
    refine z_aload_n h dX12_told_145 0 rfl rfl ?_
    refine z_get h (C := RX12) (T := TX12) (N := 17) (v := .ref a0_book) 0 rfl rfl 0 (by decide) (by decide +kernel) (by decide +kernel) rfl dX12_told_146 rfl ?_
    refine z_bipush h (v := (47 : Int32)) dX12_told_149 (by decide) rfl ?_
    refine z_iload_n h dX12_told_151 1 rfl rfl ?_
    refine z_iadd h dX12_told_152 rfl ?_
    obtain ⟨hg1, hf⟩ := gd_some hf
    refine z_iald h 1 rfl rfl hg1 dX12_told_153 rfl ?_
    have hf := Option.some.inj hf
    subst hf
    exact hret _ _ _ _ dX12_told_154 ⟨rfl, rfl⟩
  have hB180 : ∀ (c0_offs : Int32) (c0_offAt : Int32) (c0_offWho : Int32) (c0_lastOff : Int32) (c0_now : Nat → Int32) (s0 : Int32), fX12_told_b180 c0_sights c0_signs c0_book x1  c0_offs c0_offAt c0_offWho c0_lastOff c0_now s0 = some R → Z 0 0 [(a0, .inr (12, [.ref a0_book, .ref a0_now, .int c0_sights, .ref a0_sight, .int c0_signs, .ref a0_pad, .int c0_offs, .int c0_offAt, .int c0_offWho, .int c0_lastOff, .int c0_reason, .int c0_acts, .ref a0_can, .ref a0_fitting, .ref a0_wins, .ref a0_image, .ref a0_isKept])), (a0_book, .inl (G.2.1, 56, .inl c0_book)), (a0_now, .inl (G.2.1, 56, .inl c0_now))] [] 180 [.int s0] := by
    intro c0_offs c0_offAt c0_offWho c0_lastOff c0_now s0 hf
    rw [fX12_told_b180] at hf
    have hf := Option.some.inj hf
    subst hf
    exact hret _ _ _ _ dX12_told_180 ⟨rfl, rfl⟩
  have hB28 : ∀ (c0_offs : Int32) (c0_offAt : Int32) (c0_offWho : Int32) (c0_lastOff : Int32) (c0_now : Nat → Int32), fX12_told_b28 c0_sights c0_signs c0_book x1  c0_offs c0_offAt c0_offWho c0_lastOff c0_now = some R → Z 0 0 [(a0, .inr (12, [.ref a0_book, .ref a0_now, .int c0_sights, .ref a0_sight, .int c0_signs, .ref a0_pad, .int c0_offs, .int c0_offAt, .int c0_offWho, .int c0_lastOff, .int c0_reason, .int c0_acts, .ref a0_can, .ref a0_fitting, .ref a0_wins, .ref a0_image, .ref a0_isKept])), (a0_book, .inl (G.2.1, 56, .inl c0_book)), (a0_now, .inl (G.2.1, 56, .inl c0_now))] [] 28 [] := by
    intro c0_offs c0_offAt c0_offWho c0_lastOff c0_now hf
    rw [fX12_told_b28] at hf
    refine z_bipush h (v := (-2 : Int32)) dX12_told_28 (by decide) rfl ?_
    have hf := Option.some.inj hf
    subst hf
    exact hret _ _ _ _ dX12_told_30 ⟨rfl, rfl⟩
  have hB91 : ∀ (c0_offs : Int32) (c0_offAt : Int32) (c0_offWho : Int32) (c0_lastOff : Int32) (c0_now : Nat → Int32) (s0 : Int32), fX12_told_b91 c0_sights c0_signs c0_book x1  c0_offs c0_offAt c0_offWho c0_lastOff c0_now s0 = some R → Z 0 0 [(a0, .inr (12, [.ref a0_book, .ref a0_now, .int c0_sights, .ref a0_sight, .int c0_signs, .ref a0_pad, .int c0_offs, .int c0_offAt, .int c0_offWho, .int c0_lastOff, .int c0_reason, .int c0_acts, .ref a0_can, .ref a0_fitting, .ref a0_wins, .ref a0_image, .ref a0_isKept])), (a0_book, .inl (G.2.1, 56, .inl c0_book)), (a0_now, .inl (G.2.1, 56, .inl c0_now))] [] 91 [.int s0] := by
    intro c0_offs c0_offAt c0_offWho c0_lastOff c0_now s0 hf
    rw [fX12_told_b91] at hf
    have hf := Option.some.inj hf
    subst hf
    exact hret _ _ _ _ dX12_told_91 ⟨rfl, rfl⟩
  rw [fX12_told] at hf
  show Z 0 0 _ [(0, .ref a0), (1, .int x1)] 0 []
  refine z_aload_n h dX12_told_0 0 rfl rfl ?_
  obtain ⟨v2, hv2, hf⟩ := bd_some hf
  refine z_callV h (np := 0) (st := []) (wr := []) [] (ctX12_asNow l G a0 a0_book a0_now a0_sight a0_pad a0_can a0_fitting a0_wins a0_image a0_isKept c0_sights c0_signs c0_offs c0_offAt c0_offWho c0_lastOff c0_reason c0_acts c0_book c0_now hv2) gX12_told_X12_asNow (by decide +kernel) 0 rfl rfl rfl ⟨Nat.le_of_ble_eq_true rfl, Nat.le_of_ble_eq_true rfl⟩ ⟨Nat.le_refl _, Nat.le_refl _⟩ rfl rfl rfl [0, 1, 2] [] rfl rfl rfl rfl (by decide) (Nat.le_of_ble_eq_true rfl) dX12_told_1 rfl rfl (fun rv2 wv2 hrv2 => ?_)
  obtain ⟨rfl, rfl⟩ := hrv2
  refine z_perm h (w2 := [(a0, .inr (12, [.ref a0_book, .ref a0_now, .int c0_sights, .ref a0_sight, .int c0_signs, .ref a0_pad, .int v2.1, .int v2.2.1, .int v2.2.2.1, .int v2.2.2.2.1, .int c0_reason, .int c0_acts, .ref a0_can, .ref a0_fitting, .ref a0_wins, .ref a0_image, .ref a0_isKept])), (a0_book, .inl (G.2.1, 56, .inl c0_book)), (a0_now, .inl (G.2.1, 56, .inl v2.2.2.2.2))]) (st := []) [0, 1, 2] rfl rfl ?_
  refine z_iload_n h dX12_told_4 1 rfl rfl ?_
  refine z_bipush h (v := (10 : Int32)) dX12_told_5 (by decide) rfl ?_
  refine z_icmp_lt h (tgt := 92) dX12_told_7 (by decide) rfl (fun c3 => ?_) (fun c3 => ?_)
  · have hf := ite_t hf c3
    refine z_iload_n h dX12_told_92 1 rfl rfl ?_
    by_cases c4 : x1 = (0 : Int32)
    · have hf := ite_t hf c4
      refine z_tableIn h (off := 47) (tgt := 140) dX12_told_93 (0 : Int32) c4 (by decide) (by decide) (by decide) (by decide) ?_
      refine z_aload_n h dX12_told_140 0 rfl rfl ?_
      refine z_get h (C := RX12) (T := TX12) (N := 17) (v := .int c0_signs) 0 rfl rfl 4 (by decide) (by decide +kernel) (by decide +kernel) rfl dX12_told_141 rfl ?_
      have hf := Option.some.inj hf
      subst hf
      exact hret _ _ _ _ dX12_told_144 ⟨rfl, rfl⟩
    have hf := ite_f hf c4
    by_cases c5 : x1 = (1 : Int32)
    · have hf := ite_t hf c5
      refine z_tableIn h (off := 52) (tgt := 145) dX12_told_93 (1 : Int32) c5 (by decide) (by decide) (by decide) (by decide) ?_
      exact hB145 v2.1 v2.2.1 v2.2.2.1 v2.2.2.2.1 v2.2.2.2.2 hf
    have hf := ite_f hf c5
    by_cases c6 : x1 = (2 : Int32)
    · have hf := ite_t hf c6
      refine z_tableIn h (off := 52) (tgt := 145) dX12_told_93 (2 : Int32) c6 (by decide) (by decide) (by decide) (by decide) ?_
      exact hB145 v2.1 v2.2.1 v2.2.2.1 v2.2.2.2.1 v2.2.2.2.2 hf
    have hf := ite_f hf c6
    by_cases c7 : x1 = (3 : Int32)
    · have hf := ite_t hf c7
      refine z_tableIn h (off := 52) (tgt := 145) dX12_told_93 (3 : Int32) c7 (by decide) (by decide) (by decide) (by decide) ?_
      exact hB145 v2.1 v2.2.1 v2.2.2.1 v2.2.2.2.1 v2.2.2.2.2 hf
    have hf := ite_f hf c7
    by_cases c8 : x1 = (4 : Int32)
    · have hf := ite_t hf c8
      refine z_tableIn h (off := 52) (tgt := 145) dX12_told_93 (4 : Int32) c8 (by decide) (by decide) (by decide) (by decide) ?_
      exact hB145 v2.1 v2.2.1 v2.2.2.1 v2.2.2.2.1 v2.2.2.2.2 hf
    have hf := ite_f hf c8
    by_cases c9 : x1 = (5 : Int32)
    · have hf := ite_t hf c9
      refine z_tableIn h (off := 52) (tgt := 145) dX12_told_93 (5 : Int32) c9 (by decide) (by decide) (by decide) (by decide) ?_
      exact hB145 v2.1 v2.2.1 v2.2.2.1 v2.2.2.2.1 v2.2.2.2.2 hf
    have hf := ite_f hf c9
    by_cases c10 : x1 = (6 : Int32)
    · have hf := ite_t hf c10
      refine z_tableIn h (off := 62) (tgt := 155) dX12_told_93 (6 : Int32) c10 (by decide) (by decide) (by decide) (by decide) ?_
      refine z_aload_n h dX12_told_155 0 rfl rfl ?_
      obtain ⟨v11, hv11, hf⟩ := bd_some hf
      refine z_callV h (np := 0) (st := []) (wr := [(a0_book, .inl (G.2.1, 56, .inl c0_book))]) [] (ctX12_hushedOnes l G a0 a0_book a0_now a0_sight a0_pad a0_can a0_fitting a0_wins a0_image a0_isKept c0_sights c0_signs v2.1 v2.2.1 v2.2.2.1 v2.2.2.2.1 c0_reason c0_acts v2.2.2.2.2 hv11) gX12_told_X12_hushedOnes (by decide +kernel) 0 rfl rfl rfl ⟨Nat.le_of_ble_eq_true rfl, Nat.le_of_ble_eq_true rfl⟩ ⟨Nat.le_refl _, Nat.le_refl _⟩ rfl rfl rfl [0, 2] [1] rfl rfl rfl rfl (by decide) (Nat.le_of_ble_eq_true rfl) dX12_told_156 rfl rfl (fun rv11 wv11 hrv11 => ?_)
      obtain ⟨rfl, rfl⟩ := hrv11
      refine z_perm h (w2 := [(a0, .inr (12, [.ref a0_book, .ref a0_now, .int c0_sights, .ref a0_sight, .int c0_signs, .ref a0_pad, .int v2.1, .int v2.2.1, .int v2.2.2.1, .int v2.2.2.2.1, .int c0_reason, .int c0_acts, .ref a0_can, .ref a0_fitting, .ref a0_wins, .ref a0_image, .ref a0_isKept])), (a0_book, .inl (G.2.1, 56, .inl c0_book)), (a0_now, .inl (G.2.1, 56, .inl v2.2.2.2.2))]) (st := [.int v11]) [1, 0, 2] rfl rfl ?_
      have hf := Option.some.inj hf
      subst hf
      exact hret _ _ _ _ dX12_told_159 ⟨rfl, rfl⟩
    have hf := ite_f hf c10
    by_cases c12 : x1 = (7 : Int32)
    · have hf := ite_t hf c12
      refine z_tableIn h (off := 67) (tgt := 160) dX12_told_93 (7 : Int32) c12 (by decide) (by decide) (by decide) (by decide) ?_
      refine z_aload_n h dX12_told_160 0 rfl rfl ?_
      obtain ⟨v13, hv13, hf⟩ := bd_some hf
      refine z_callV h (np := 0) (st := []) (wr := [(a0_book, .inl (G.2.1, 56, .inl c0_book))]) [] (ctX12_offOnes l G a0 a0_book a0_now a0_sight a0_pad a0_can a0_fitting a0_wins a0_image a0_isKept c0_sights c0_signs v2.1 v2.2.1 v2.2.2.1 v2.2.2.2.1 c0_reason c0_acts v2.2.2.2.2 hv13) gX12_told_X12_offOnes (by decide +kernel) 0 rfl rfl rfl ⟨Nat.le_of_ble_eq_true rfl, Nat.le_of_ble_eq_true rfl⟩ ⟨Nat.le_refl _, Nat.le_refl _⟩ rfl rfl rfl [0, 2] [1] rfl rfl rfl rfl (by decide) (Nat.le_of_ble_eq_true rfl) dX12_told_161 rfl rfl (fun rv13 wv13 hrv13 => ?_)
      obtain ⟨rfl, rfl⟩ := hrv13
      refine z_perm h (w2 := [(a0, .inr (12, [.ref a0_book, .ref a0_now, .int c0_sights, .ref a0_sight, .int c0_signs, .ref a0_pad, .int v2.1, .int v2.2.1, .int v2.2.2.1, .int v2.2.2.2.1, .int c0_reason, .int c0_acts, .ref a0_can, .ref a0_fitting, .ref a0_wins, .ref a0_image, .ref a0_isKept])), (a0_book, .inl (G.2.1, 56, .inl c0_book)), (a0_now, .inl (G.2.1, 56, .inl v2.2.2.2.2))]) (st := [.int v13]) [1, 0, 2] rfl rfl ?_
      have hf := Option.some.inj hf
      subst hf
      exact hret _ _ _ _ dX12_told_164 ⟨rfl, rfl⟩
    have hf := ite_f hf c12
    refine z_tableOut h (tgt := 165) dX12_told_93 (z_tout 8 (by decide) (by decide) (by decide) (fun j hj => match j, hj with
      | 0, _ => c4
      | 1, _ => c5
      | 2, _ => c6
      | 3, _ => c7
      | 4, _ => c8
      | 5, _ => c9
      | 6, _ => c10
      | 7, _ => c12
      | j + 8, hj => absurd hj (by omega))) (by decide) ?_
    refine z_iload_n h dX12_told_165 1 rfl rfl ?_
    refine z_bipush h (v := (8 : Int32)) dX12_told_166 (by decide) rfl ?_
    refine z_icmp_ne h (tgt := 178) dX12_told_168 (by decide) rfl (fun c14 => ?_) (fun c14 => ?_)
    · have hf := ite_f hf c14
      refine z_bipush h (v := (-2 : Int32)) dX12_told_178 (by decide) rfl ?_
      refine z_locs h (lv2 := []) [] rfl ?_
      exact hB180 v2.1 v2.2.1 v2.2.2.1 v2.2.2.2.1 v2.2.2.2.2 (-2 : Int32) hf
    have hf := ite_t hf c14
    refine z_aload_n h dX12_told_171 0 rfl rfl ?_
    refine z_get h (C := RX12) (T := TX12) (N := 17) (v := .int c0_sights) 0 rfl rfl 2 (by decide) (by decide +kernel) (by decide +kernel) rfl dX12_told_172 rfl ?_
    refine z_goto h (tgt := 180) dX12_told_175 (by decide) ?_
    refine z_locs h (lv2 := []) [] rfl ?_
    exact hB180 v2.1 v2.2.1 v2.2.2.1 v2.2.2.2.1 v2.2.2.2.2 c0_sights hf
  have hf := ite_f hf c3
  refine z_iload_n h dX12_told_10 1 rfl rfl ?_
  refine z_bipush h (v := (10 : Int32)) dX12_told_11 (by decide) rfl ?_
  refine z_irem h dX12_told_13 (by decide) rfl ?_
  refine z_istore_n h (lv2 := [(2, .int (irm x1 (10 : Int32))), (0, .ref a0), (1, .int x1)]) dX12_told_14 (by decide) rfl rfl ?_
  refine z_iload_n h dX12_told_15 0 rfl rfl ?_
  obtain ⟨v15, hv15, hf⟩ := bd_some hf
  refine z_callS h (np := 1) (st := []) (wr := [(a0, .inr (12, [.ref a0_book, .ref a0_now, .int c0_sights, .ref a0_sight, .int c0_signs, .ref a0_pad, .int v2.1, .int v2.2.1, .int v2.2.2.1, .int v2.2.2.2.1, .int c0_reason, .int c0_acts, .ref a0_can, .ref a0_fitting, .ref a0_wins, .ref a0_image, .ref a0_isKept])), (a0_book, .inl (G.2.1, 56, .inl c0_book)), (a0_now, .inl (G.2.1, 56, .inl v2.2.2.2.2))]) [.int (irm x1 (10 : Int32))] (ctX12_isWalker l G (irm x1 (10 : Int32)) hv15) gX12_told_X12_isWalker (by decide +kernel) rfl ⟨Nat.le_of_ble_eq_true rfl, Nat.le_of_ble_eq_true rfl⟩ ⟨Nat.le_refl _, Nat.le_refl _⟩ rfl rfl rfl [] [0, 1, 2] rfl rfl rfl rfl (by decide) (Nat.le_of_ble_eq_true rfl) dX12_told_16 rfl rfl (fun rv15 wv15 hrv15 => ?_)
  obtain ⟨rfl, rfl⟩ := hrv15
  refine z_perm h (w2 := [(a0, .inr (12, [.ref a0_book, .ref a0_now, .int c0_sights, .ref a0_sight, .int c0_signs, .ref a0_pad, .int v2.1, .int v2.2.1, .int v2.2.2.1, .int v2.2.2.2.1, .int c0_reason, .int c0_acts, .ref a0_can, .ref a0_fitting, .ref a0_wins, .ref a0_image, .ref a0_isKept])), (a0_book, .inl (G.2.1, 56, .inl c0_book)), (a0_now, .inl (G.2.1, 56, .inl v2.2.2.2.2))]) (st := [.int v15]) [0, 1, 2] rfl rfl ?_
  refine z_if_eq h (tgt := 28) dX12_told_19 (by decide) rfl (fun c16 => ?_) (fun c16 => ?_)
  · have hf := ite_t hf c16
    refine z_locs h (lv2 := []) [] rfl ?_
    exact hB28 v2.1 v2.2.1 v2.2.2.1 v2.2.2.2.1 v2.2.2.2.2 hf
  have hf := ite_f hf c16
  refine z_iload_n h dX12_told_22 2 rfl rfl ?_
  refine z_bipush h (v := (69 : Int32)) dX12_told_23 (by decide) rfl ?_
  refine z_icmp_le h (tgt := 31) dX12_told_25 (by decide) rfl (fun c17 => ?_) (fun c17 => ?_)
  · have hf := ite_t hf c17
    refine z_iload_n h dX12_told_31 2 rfl rfl ?_
    refine z_bipush h (v := (60 : Int32)) dX12_told_32 (by decide) rfl ?_
    refine z_icmp_lt h (tgt := 75) dX12_told_34 (by decide) rfl (fun c18 => ?_) (fun c18 => ?_)
    · have hf := ite_t hf c18
      refine z_aload_n h dX12_told_75 1 rfl rfl ?_
      refine z_get h (C := RX12) (T := TX12) (N := 17) (v := .ref a0_book) 0 rfl rfl 0 (by decide) (by decide +kernel) (by decide +kernel) rfl dX12_told_76 rfl ?_
      refine z_bipush h (v := (6 : Int32)) dX12_told_79 (by decide) rfl ?_
      refine z_iload_n h dX12_told_81 2 rfl rfl ?_
      refine z_bipush h (v := (10 : Int32)) dX12_told_82 (by decide) rfl ?_
      refine z_idiv h dX12_told_84 (by decide) rfl ?_
      refine z_iconst h (v := (1 : Int32)) dX12_told_85 (by decide) rfl ?_
      refine z_isub h dX12_told_86 rfl ?_
      refine z_imul h dX12_told_87 rfl ?_
      refine z_iload_n h dX12_told_88 0 rfl rfl ?_
      refine z_iadd h dX12_told_89 rfl ?_
      obtain ⟨hg19, hf⟩ := gd_some hf
      refine z_iald h 1 rfl rfl hg19 dX12_told_90 rfl ?_
      refine z_locs h (lv2 := []) [] rfl ?_
      exact hB91 v2.1 v2.2.1 v2.2.2.1 v2.2.2.2.1 v2.2.2.2.2 (c0_book ((((6 : Int32) * ((x1 / (10 : Int32)) - (1 : Int32))) + (irm x1 (10 : Int32)))).toNatClampNeg) hf
    have hf := ite_f hf c18
    refine z_bipush h (v := (100 : Int32)) dX12_told_37 (by decide) rfl ?_
    refine z_aload_n h dX12_told_39 1 rfl rfl ?_
    refine z_get h (C := RX12) (T := TX12) (N := 17) (v := .ref a0_book) 0 rfl rfl 0 (by decide) (by decide +kernel) (by decide +kernel) rfl dX12_told_40 rfl ?_
    refine z_bipush h (v := (30 : Int32)) dX12_told_43 (by decide) rfl ?_
    refine z_iload_n h dX12_told_45 0 rfl rfl ?_
    refine z_iadd h dX12_told_46 rfl ?_
    obtain ⟨hg20, hf⟩ := gd_some hf
    refine z_iald h 1 rfl rfl hg20 dX12_told_47 rfl ?_
    refine z_imul h dX12_told_48 rfl ?_
    refine z_bipush h (v := (10 : Int32)) dX12_told_49 (by decide) rfl ?_
    refine z_aload_n h dX12_told_51 1 rfl rfl ?_
    refine z_get h (C := RX12) (T := TX12) (N := 17) (v := .ref a0_book) 0 rfl rfl 0 (by decide) (by decide +kernel) (by decide +kernel) rfl dX12_told_52 rfl ?_
    refine z_bipush h (v := (36 : Int32)) dX12_told_55 (by decide) rfl ?_
    refine z_iload_n h dX12_told_57 0 rfl rfl ?_
    refine z_iadd h dX12_told_58 rfl ?_
    obtain ⟨hg21, hf⟩ := gd_some hf
    refine z_iald h 1 rfl rfl hg21 dX12_told_59 rfl ?_
    refine z_imul h dX12_told_60 rfl ?_
    refine z_iadd h dX12_told_61 rfl ?_
    refine z_aload_n h dX12_told_62 1 rfl rfl ?_
    refine z_get h (C := RX12) (T := TX12) (N := 17) (v := .ref a0_book) 0 rfl rfl 0 (by decide) (by decide +kernel) (by decide +kernel) rfl dX12_told_63 rfl ?_
    refine z_bipush h (v := (42 : Int32)) dX12_told_66 (by decide) rfl ?_
    refine z_iload_n h dX12_told_68 0 rfl rfl ?_
    refine z_iadd h dX12_told_69 rfl ?_
    obtain ⟨hg22, hf⟩ := gd_some hf
    refine z_iald h 1 rfl rfl hg22 dX12_told_70 rfl ?_
    refine z_iadd h dX12_told_71 rfl ?_
    refine z_goto h (tgt := 91) dX12_told_72 (by decide) ?_
    refine z_locs h (lv2 := []) [] rfl ?_
    exact hB91 v2.1 v2.2.1 v2.2.2.1 v2.2.2.2.1 v2.2.2.2.2 ((((100 : Int32) * (c0_book (((30 : Int32) + (irm x1 (10 : Int32)))).toNatClampNeg)) + ((10 : Int32) * (c0_book (((36 : Int32) + (irm x1 (10 : Int32)))).toNatClampNeg))) + (c0_book (((42 : Int32) + (irm x1 (10 : Int32)))).toNatClampNeg)) hf
  have hf := ite_f hf c17
  refine z_locs h (lv2 := []) [] rfl ?_
  exact hB28 v2.1 v2.2.1 v2.2.2.1 v2.2.2.2.1 v2.2.2.2.2 hf
