def fX10_put (c0_cell : Int32) (c0_way : Int32) (c0_force : Int32) (x1 : Int32) (x2 : Int32) (x3 : Int32) : Option (Int32 × Int32 × Int32) := (some (x1, x2, x3))
abbrev rmX10_put : Room := { frames := 0, cells := 0, slots := 0, locals := 0 }
set_option maxRecDepth 100000 in
set_option maxHeartbeats 4000000 in
theorem ctX10_put (l : Launch) (G : zG) (a0 : Nat) (c0_cell : Int32) (c0_way : Int32) (c0_force : Int32) (x1 : Int32) (x2 : Int32) (x3 : Int32) {R : Int32 × Int32 × Int32} (hf : fX10_put c0_cell c0_way c0_force x1 x2 x3 = some R) : zCt l yX10_put wsX10_put rmX10_put G [(a0, .inr (10, [.int c0_cell, .int c0_way, .int c0_force]))] [.ref a0, .int x1, .int x2, .int x3] (fun v w => v = none ∧ w = [(a0, .inr (10, [.int (R.1), .int (R.2.1), .int (R.2.2)]))]) := by
  refine zMkV (own := RX10) false (by decide) (by decide +kernel) rfl rfl (Nat.le_of_ble_eq_true rfl) ?_
  intro Z h hret
  rw [fX10_put] at hf
  show Z 0 0 _ [(0, .ref a0), (1, .int x1), (2, .int x2), (3, .int x3)] 0 []
  refine z_aload_n h dX10_put_0 0 rfl rfl ?_
  refine z_iload_n h dX10_put_1 1 rfl rfl ?_
  refine z_put h (C := RX10) (T := TX10) (N := 3) 0 rfl rfl 0 (by decide) (by decide +kernel) (by decide +kernel) tyX10 tyX10_ok nmX10 (w2 := [(a0, .inr (10, [.int x1, .int c0_way, .int c0_force]))]) rfl rfl rfl (Nat.le_of_ble_eq_true rfl) rfl dX10_put_2 rfl ?_
  refine z_aload_n h dX10_put_5 0 rfl rfl ?_
  refine z_iload_n h dX10_put_6 2 rfl rfl ?_
  refine z_put h (C := RX10) (T := TX10) (N := 3) 0 rfl rfl 1 (by decide) (by decide +kernel) (by decide +kernel) tyX10 tyX10_ok nmX10 (w2 := [(a0, .inr (10, [.int x1, .int x2, .int c0_force]))]) rfl rfl rfl (Nat.le_of_ble_eq_true rfl) rfl dX10_put_7 rfl ?_
  refine z_aload_n h dX10_put_10 0 rfl rfl ?_
  refine z_iload_n h dX10_put_11 3 rfl rfl ?_
  refine z_put h (C := RX10) (T := TX10) (N := 3) 0 rfl rfl 2 (by decide) (by decide +kernel) (by decide +kernel) tyX10 tyX10_ok nmX10 (w2 := [(a0, .inr (10, [.int x1, .int x2, .int x3]))]) rfl rfl rfl (Nat.le_of_ble_eq_true rfl) rfl dX10_put_12 rfl ?_
  have hf := Option.some.inj hf
  subst hf
  exact hret _ _ _ dX10_put_15 ⟨rfl, rfl⟩
def fX10_atEnd_b25 (c0_cell : Int32) (c0_way : Int32)  (s0 : Int32) : Option (Int32) := gd (s0 == 0 || s0 == 1) ((some s0))
def fX10_atEnd_b17 (c0_cell : Int32) (c0_way : Int32)  (s0 : Int32) (s1 : Int32) : Option (Int32) := (if s0 = s1 then (fX10_atEnd_b25 c0_cell c0_way  (1 : Int32)) else (fX10_atEnd_b25 c0_cell c0_way  (0 : Int32)))
def fX10_atEnd (c0_cell : Int32) (c0_way : Int32)  : Option (Int32) := (if c0_way = (0 : Int32) then (fX10_atEnd_b17 c0_cell c0_way  c0_cell (11 : Int32)) else (fX10_atEnd_b17 c0_cell c0_way  c0_cell (0 : Int32)))
abbrev rmX10_atEnd : Room := { frames := 0, cells := 0, slots := 0, locals := 0 }
set_option maxRecDepth 100000 in
set_option maxHeartbeats 4000000 in
theorem ctX10_atEnd (l : Launch) (G : zG) (a0 : Nat) (c0_cell : Int32) (c0_way : Int32) (c0_force : Int32)  {R : Int32} (hf : fX10_atEnd c0_cell c0_way = some R) : zCt l yX10_atEnd wsX10_atEnd rmX10_atEnd G [(a0, .inr (10, [.int c0_cell, .int c0_way, .int c0_force]))] [.ref a0] (fun v w => v = some (.int (R)) ∧ w = [(a0, .inr (10, [.int c0_cell, .int c0_way, .int c0_force]))]) := by
  refine zMkB (own := RX10) false (by decide) (by decide +kernel) rfl rfl (Nat.le_of_ble_eq_true rfl) ?_
  intro Z h hret
  have hB25 : ∀ (s0 : Int32), fX10_atEnd_b25 c0_cell c0_way  s0 = some R → Z 0 0 [(a0, .inr (10, [.int c0_cell, .int c0_way, .int c0_force]))] [] 25 [.int s0] := by
    intro s0 hf
    rw [fX10_atEnd_b25] at hf
    obtain ⟨hg1, hf⟩ := gd_some hf
    have hf := Option.some.inj hf
    subst hf
    exact hret _ _ _ _ dX10_atEnd_25 hg1 ⟨rfl, rfl⟩
  have hB17 : ∀ (s0 : Int32) (s1 : Int32), fX10_atEnd_b17 c0_cell c0_way  s0 s1 = some R → Z 0 0 [(a0, .inr (10, [.int c0_cell, .int c0_way, .int c0_force]))] [] 17 [.int s1, .int s0] := by
    intro s0 s1 hf
    rw [fX10_atEnd_b17] at hf
    refine z_icmp_ne h (tgt := 24) dX10_atEnd_17 (by decide) rfl (fun c2 => ?_) (fun c2 => ?_)
    · have hf := ite_f hf c2
      refine z_iconst h (v := (0 : Int32)) dX10_atEnd_24 (by decide) rfl ?_
      exact hB25 (0 : Int32) hf
    have hf := ite_t hf c2
    refine z_iconst h (v := (1 : Int32)) dX10_atEnd_20 (by decide) rfl ?_
    refine z_goto h (tgt := 25) dX10_atEnd_21 (by decide) ?_
    exact hB25 (1 : Int32) hf
  rw [fX10_atEnd] at hf
  show Z 0 0 _ [(0, .ref a0)] 0 []
  refine z_aload_n h dX10_atEnd_0 0 rfl rfl ?_
  refine z_get h (C := RX10) (T := TX10) (N := 3) (v := .int c0_cell) 0 rfl rfl 0 (by decide) (by decide +kernel) (by decide +kernel) rfl dX10_atEnd_1 rfl ?_
  refine z_aload_n h dX10_atEnd_4 0 rfl rfl ?_
  refine z_get h (C := RX10) (T := TX10) (N := 3) (v := .int c0_way) 0 rfl rfl 1 (by decide) (by decide +kernel) (by decide +kernel) rfl dX10_atEnd_5 rfl ?_
  refine z_if_ne h (tgt := 16) dX10_atEnd_8 (by decide) rfl (fun c3 => ?_) (fun c3 => ?_)
  · have hf := ite_f hf c3
    refine z_iconst h (v := (0 : Int32)) dX10_atEnd_16 (by decide) rfl ?_
    refine z_locs h (lv2 := []) [] rfl ?_
    exact hB17 c0_cell (0 : Int32) hf
  have hf := ite_t hf c3
  refine z_bipush h (v := (11 : Int32)) dX10_atEnd_11 (by decide) rfl ?_
  refine z_goto h (tgt := 17) dX10_atEnd_13 (by decide) ?_
  refine z_locs h (lv2 := []) [] rfl ?_
  exact hB17 c0_cell (11 : Int32) hf
def fX10_nextCell_b22 (c0_cell : Int32) (c0_way : Int32)  (s0 : Int32) : Option (Int32) := (some s0)
def fX10_nextCell (c0_cell : Int32) (c0_way : Int32)  : Option (Int32) := (if c0_way = (0 : Int32) then (fX10_nextCell_b22 c0_cell c0_way  (c0_cell + (1 : Int32))) else (fX10_nextCell_b22 c0_cell c0_way  (c0_cell - (1 : Int32))))
abbrev rmX10_nextCell : Room := { frames := 0, cells := 0, slots := 0, locals := 0 }
set_option maxRecDepth 100000 in
set_option maxHeartbeats 4000000 in
theorem ctX10_nextCell (l : Launch) (G : zG) (a0 : Nat) (c0_cell : Int32) (c0_way : Int32) (c0_force : Int32)  {R : Int32} (hf : fX10_nextCell c0_cell c0_way = some R) : zCt l yX10_nextCell wsX10_nextCell rmX10_nextCell G [(a0, .inr (10, [.int c0_cell, .int c0_way, .int c0_force]))] [.ref a0] (fun v w => v = some (.int (R)) ∧ w = [(a0, .inr (10, [.int c0_cell, .int c0_way, .int c0_force]))]) := by
  refine zMkI (own := RX10) false (by decide) (by decide +kernel) rfl rfl (Nat.le_of_ble_eq_true rfl) ?_
  intro Z h hret
  have hB22 : ∀ (s0 : Int32), fX10_nextCell_b22 c0_cell c0_way  s0 = some R → Z 0 0 [(a0, .inr (10, [.int c0_cell, .int c0_way, .int c0_force]))] [] 22 [.int s0] := by
    intro s0 hf
    rw [fX10_nextCell_b22] at hf
    have hf := Option.some.inj hf
    subst hf
    exact hret _ _ _ _ dX10_nextCell_22 ⟨rfl, rfl⟩
  rw [fX10_nextCell] at hf
  show Z 0 0 _ [(0, .ref a0)] 0 []
  refine z_aload_n h dX10_nextCell_0 0 rfl rfl ?_
  refine z_get h (C := RX10) (T := TX10) (N := 3) (v := .int c0_way) 0 rfl rfl 1 (by decide) (by decide +kernel) (by decide +kernel) rfl dX10_nextCell_1 rfl ?_
  refine z_if_ne h (tgt := 16) dX10_nextCell_4 (by decide) rfl (fun c1 => ?_) (fun c1 => ?_)
  · have hf := ite_f hf c1
    refine z_aload_n h dX10_nextCell_16 0 rfl rfl ?_
    refine z_get h (C := RX10) (T := TX10) (N := 3) (v := .int c0_cell) 0 rfl rfl 0 (by decide) (by decide +kernel) (by decide +kernel) rfl dX10_nextCell_17 rfl ?_
    refine z_iconst h (v := (1 : Int32)) dX10_nextCell_20 (by decide) rfl ?_
    refine z_isub h dX10_nextCell_21 rfl ?_
    refine z_locs h (lv2 := []) [] rfl ?_
    exact hB22 (c0_cell - (1 : Int32)) hf
  have hf := ite_t hf c1
  refine z_aload_n h dX10_nextCell_7 0 rfl rfl ?_
  refine z_get h (C := RX10) (T := TX10) (N := 3) (v := .int c0_cell) 0 rfl rfl 0 (by decide) (by decide +kernel) (by decide +kernel) rfl dX10_nextCell_8 rfl ?_
  refine z_iconst h (v := (1 : Int32)) dX10_nextCell_11 (by decide) rfl ?_
  refine z_iadd h dX10_nextCell_12 rfl ?_
  refine z_goto h (tgt := 22) dX10_nextCell_13 (by decide) ?_
  refine z_locs h (lv2 := []) [] rfl ?_
  exact hB22 (c0_cell + (1 : Int32)) hf
def fX10_step_b23   (c0_cell : Int32) (c0_way : Int32) : Option (Int32 × Int32) := Option.bind (fX10_nextCell c0_cell c0_way) (fun v1 => (some (v1, c0_way)))
def fX10_step_b20   (c0_cell : Int32) (c0_way : Int32) (s1 : Int32) : Option (Int32 × Int32) := (fX10_step_b23   c0_cell s1)
def fX10_step (c0_cell : Int32) (c0_way : Int32)  : Option (Int32 × Int32) := Option.bind (fX10_atEnd c0_cell c0_way) (fun v2 => (if v2 = (0 : Int32) then (fX10_step_b23   c0_cell c0_way) else (if c0_way = (0 : Int32) then (fX10_step_b20   c0_cell c0_way (1 : Int32)) else (fX10_step_b20   c0_cell c0_way (0 : Int32)))))
abbrev rmX10_step : Room := { frames := 1, cells := 0, slots := 0, locals := 20 }
set_option maxRecDepth 100000 in
set_option maxHeartbeats 4000000 in
theorem ctX10_step (l : Launch) (G : zG) (a0 : Nat) (c0_cell : Int32) (c0_way : Int32) (c0_force : Int32)  {R : Int32 × Int32} (hf : fX10_step c0_cell c0_way = some R) : zCt l yX10_step wsX10_step rmX10_step G [(a0, .inr (10, [.int c0_cell, .int c0_way, .int c0_force]))] [.ref a0] (fun v w => v = none ∧ w = [(a0, .inr (10, [.int (R.1), .int (R.2), .int c0_force]))]) := by
  refine zMkV (own := RX10) false (by decide) (by decide +kernel) rfl rfl (Nat.le_of_ble_eq_true rfl) ?_
  intro Z h hret
  have hB23 : ∀ (c0_cell : Int32) (c0_way : Int32), fX10_step_b23   c0_cell c0_way = some R → Z 0 0 [(a0, .inr (10, [.int c0_cell, .int c0_way, .int c0_force]))] [(0, .ref a0)] 23 [] := by
    intro c0_cell c0_way hf
    rw [fX10_step_b23] at hf
    refine z_aload_n h dX10_step_23 0 rfl rfl ?_
    refine z_aload_n h dX10_step_24 0 rfl rfl ?_
    obtain ⟨v1, hv1, hf⟩ := bd_some hf
    refine z_callV h (np := 0) (st := [.ref a0]) (wr := []) [] (ctX10_nextCell l G a0 c0_cell c0_way c0_force hv1) gX10_step_X10_nextCell (by decide +kernel) 0 rfl rfl rfl ⟨Nat.le_of_ble_eq_true rfl, Nat.le_of_ble_eq_true rfl⟩ ⟨Nat.le_refl _, Nat.le_refl _⟩ rfl rfl rfl [0] [] rfl rfl rfl rfl (by decide) (Nat.le_of_ble_eq_true rfl) dX10_step_25 rfl rfl (fun rv1 wv1 hrv1 => ?_)
    obtain ⟨rfl, rfl⟩ := hrv1
    refine z_perm h (w2 := [(a0, .inr (10, [.int c0_cell, .int c0_way, .int c0_force]))]) (st := [.int v1, .ref a0]) [0] rfl rfl ?_
    refine z_put h (C := RX10) (T := TX10) (N := 3) 0 rfl rfl 0 (by decide) (by decide +kernel) (by decide +kernel) tyX10 tyX10_ok nmX10 (w2 := [(a0, .inr (10, [.int v1, .int c0_way, .int c0_force]))]) rfl rfl rfl (Nat.le_of_ble_eq_true rfl) rfl dX10_step_28 rfl ?_
    have hf := Option.some.inj hf
    subst hf
    exact hret _ _ _ dX10_step_31 ⟨rfl, rfl⟩
  have hB20 : ∀ (c0_cell : Int32) (c0_way : Int32) (s1 : Int32), fX10_step_b20   c0_cell c0_way s1 = some R → Z 0 0 [(a0, .inr (10, [.int c0_cell, .int c0_way, .int c0_force]))] [(0, .ref a0)] 20 [.int s1, .ref a0] := by
    intro c0_cell c0_way s1 hf
    rw [fX10_step_b20] at hf
    refine z_put h (C := RX10) (T := TX10) (N := 3) 0 rfl rfl 1 (by decide) (by decide +kernel) (by decide +kernel) tyX10 tyX10_ok nmX10 (w2 := [(a0, .inr (10, [.int c0_cell, .int s1, .int c0_force]))]) rfl rfl rfl (Nat.le_of_ble_eq_true rfl) rfl dX10_step_20 rfl ?_
    exact hB23 c0_cell s1 hf
  rw [fX10_step] at hf
  show Z 0 0 _ [(0, .ref a0)] 0 []
  refine z_aload_n h dX10_step_0 0 rfl rfl ?_
  obtain ⟨v2, hv2, hf⟩ := bd_some hf
  refine z_callV h (np := 0) (st := []) (wr := []) [] (ctX10_atEnd l G a0 c0_cell c0_way c0_force hv2) gX10_step_X10_atEnd (by decide +kernel) 0 rfl rfl rfl ⟨Nat.le_of_ble_eq_true rfl, Nat.le_of_ble_eq_true rfl⟩ ⟨Nat.le_refl _, Nat.le_refl _⟩ rfl rfl rfl [0] [] rfl rfl rfl rfl (by decide) (Nat.le_of_ble_eq_true rfl) dX10_step_1 rfl rfl (fun rv2 wv2 hrv2 => ?_)
  obtain ⟨rfl, rfl⟩ := hrv2
  refine z_perm h (w2 := [(a0, .inr (10, [.int c0_cell, .int c0_way, .int c0_force]))]) (st := [.int v2]) [0] rfl rfl ?_
  refine z_if_eq h (tgt := 23) dX10_step_4 (by decide) rfl (fun c3 => ?_) (fun c3 => ?_)
  · have hf := ite_t hf c3
    exact hB23 c0_cell c0_way hf
  have hf := ite_f hf c3
  refine z_aload_n h dX10_step_7 0 rfl rfl ?_
  refine z_aload_n h dX10_step_8 0 rfl rfl ?_
  refine z_get h (C := RX10) (T := TX10) (N := 3) (v := .int c0_way) 0 rfl rfl 1 (by decide) (by decide +kernel) (by decide +kernel) rfl dX10_step_9 rfl ?_
  refine z_if_ne h (tgt := 19) dX10_step_12 (by decide) rfl (fun c4 => ?_) (fun c4 => ?_)
  · have hf := ite_f hf c4
    refine z_iconst h (v := (0 : Int32)) dX10_step_19 (by decide) rfl ?_
    exact hB20 c0_cell c0_way (0 : Int32) hf
  have hf := ite_t hf c4
  refine z_iconst h (v := (1 : Int32)) dX10_step_15 (by decide) rfl ?_
  refine z_goto h (tgt := 20) dX10_step_16 (by decide) ?_
  exact hB20 c0_cell c0_way (1 : Int32) hf
def fX10_blowAnHour_L4 (c0_force : Int32)  : Nat → Int32 → Int32 → Int32 → Int32 → Option (Int32 × Int32 × Int32)
  | 0, _, _, _, _ => none
  | n + 1, c0_cell, c0_way, x1, x2 => (if c0_force ≤ x2 then (some (x1, c0_cell, c0_way)) else Option.bind (fX10_step c0_cell c0_way) (fun v2 => ((fX10_blowAnHour_L4 c0_force  n) v2.1 v2.2 (x1 ||| (sl (1 : Int32) v2.1)) (x2 + (1 : Int32)))))
def fX10_blowAnHour (c0_cell : Int32) (c0_way : Int32) (c0_force : Int32)  : Option (Int32 × Int32 × Int32) := (fX10_blowAnHour_L4 c0_force  zF c0_cell c0_way (0 : Int32) (0 : Int32))
abbrev rmX10_blowAnHour : Room := { frames := 2, cells := 0, slots := 0, locals := 40 }
set_option maxRecDepth 100000 in
set_option maxHeartbeats 4000000 in
theorem ctX10_blowAnHour (l : Launch) (G : zG) (a0 : Nat) (c0_cell : Int32) (c0_way : Int32) (c0_force : Int32)  {R : Int32 × Int32 × Int32} (hf : fX10_blowAnHour c0_cell c0_way c0_force = some R) : zCt l yX10_blowAnHour wsX10_blowAnHour rmX10_blowAnHour G [(a0, .inr (10, [.int c0_cell, .int c0_way, .int c0_force]))] [.ref a0] (fun v w => v = some (.int (R.1)) ∧ w = [(a0, .inr (10, [.int (R.2.1), .int (R.2.2), .int c0_force]))]) := by
  refine zMkI (own := RX10) false (by decide) (by decide +kernel) rfl rfl (Nat.le_of_ble_eq_true rfl) ?_
  intro Z h hret
  have hL4 : ∀ (n4 : Nat) (c0_cell : Int32) (c0_way : Int32) (x1 : Int32) (x2 : Int32), fX10_blowAnHour_L4 c0_force  n4 c0_cell c0_way x1 x2 = some R → Z 0 0 [(a0, .inr (10, [.int c0_cell, .int c0_way, .int c0_force]))] [(0, .ref a0), (1, .int x1), (2, .int x2)] 4 [] := by
    intro n4
    induction n4 with
    | zero =>
      intro c0_cell c0_way x1 x2 hf
      rw [fX10_blowAnHour_L4] at hf
      cases hf
    | succ n4 ih4 =>
      intro c0_cell c0_way x1 x2 hf
      rw [fX10_blowAnHour_L4] at hf
      refine z_iload_n h dX10_blowAnHour_4 2 rfl rfl ?_
      refine z_aload_n h dX10_blowAnHour_5 0 rfl rfl ?_
      refine z_get h (C := RX10) (T := TX10) (N := 3) (v := .int c0_force) 0 rfl rfl 2 (by decide) (by decide +kernel) (by decide +kernel) rfl dX10_blowAnHour_6 rfl ?_
      refine z_icmp_ge h (tgt := 31) dX10_blowAnHour_9 (by decide) rfl (fun c1 => ?_) (fun c1 => ?_)
      · have hf := ite_t hf c1
        refine z_iload_n h dX10_blowAnHour_31 1 rfl rfl ?_
        have hf := Option.some.inj hf
        subst hf
        exact hret _ _ _ _ dX10_blowAnHour_32 ⟨rfl, rfl⟩
      have hf := ite_f hf c1
      refine z_aload_n h dX10_blowAnHour_12 0 rfl rfl ?_
      obtain ⟨v2, hv2, hf⟩ := bd_some hf
      refine z_callV h (np := 0) (st := []) (wr := []) [] (ctX10_step l G a0 c0_cell c0_way c0_force hv2) gX10_blowAnHour_X10_step (by decide +kernel) 0 rfl rfl rfl ⟨Nat.le_of_ble_eq_true rfl, Nat.le_of_ble_eq_true rfl⟩ ⟨Nat.le_refl _, Nat.le_refl _⟩ rfl rfl rfl [0] [] rfl rfl rfl rfl (by decide) (Nat.le_of_ble_eq_true rfl) dX10_blowAnHour_13 rfl rfl (fun rv2 wv2 hrv2 => ?_)
      obtain ⟨rfl, rfl⟩ := hrv2
      refine z_perm h (w2 := [(a0, .inr (10, [.int v2.1, .int v2.2, .int c0_force]))]) (st := []) [0] rfl rfl ?_
      refine z_iload_n h dX10_blowAnHour_16 1 rfl rfl ?_
      refine z_iconst h (v := (1 : Int32)) dX10_blowAnHour_17 (by decide) rfl ?_
      refine z_aload_n h dX10_blowAnHour_18 0 rfl rfl ?_
      refine z_get h (C := RX10) (T := TX10) (N := 3) (v := .int v2.1) 0 rfl rfl 0 (by decide) (by decide +kernel) (by decide +kernel) rfl dX10_blowAnHour_19 rfl ?_
      refine z_ishl h dX10_blowAnHour_22 rfl ?_
      refine z_ior h dX10_blowAnHour_23 rfl ?_
      refine z_istore_n h (lv2 := [(1, .int (x1 ||| (sl (1 : Int32) v2.1))), (0, .ref a0), (2, .int x2)]) dX10_blowAnHour_24 (by decide) rfl rfl ?_
      refine z_iinc h (v := (x2 + (1 : Int32))) (lv2 := [(2, .int (x2 + (1 : Int32))), (1, .int (x1 ||| (sl (1 : Int32) v2.1))), (0, .ref a0)]) (j := 2) dX10_blowAnHour_25 rfl rfl (by decide) rfl rfl ?_
      refine z_goto h (tgt := 4) dX10_blowAnHour_28 (by decide) ?_
      refine z_locs h (lv2 := [(0, .ref a0), (1, .int (x1 ||| (sl (1 : Int32) v2.1))), (2, .int (x2 + (1 : Int32)))]) [2, 1, 0] rfl ?_
      exact ih4 v2.1 v2.2 (x1 ||| (sl (1 : Int32) v2.1)) (x2 + (1 : Int32)) hf
  rw [fX10_blowAnHour] at hf
  show Z 0 0 _ [(0, .ref a0)] 0 []
  refine z_iconst h (v := (0 : Int32)) dX10_blowAnHour_0 (by decide) rfl ?_
  refine z_istore_n h (lv2 := [(1, .int (0 : Int32)), (0, .ref a0)]) dX10_blowAnHour_1 (by decide) rfl rfl ?_
  refine z_iconst h (v := (0 : Int32)) dX10_blowAnHour_2 (by decide) rfl ?_
  refine z_istore_n h (lv2 := [(2, .int (0 : Int32)), (1, .int (0 : Int32)), (0, .ref a0)]) dX10_blowAnHour_3 (by decide) rfl rfl ?_
  refine z_locs h (lv2 := [(0, .ref a0), (1, .int (0 : Int32)), (2, .int (0 : Int32))]) [2, 1, 0] rfl ?_
  exact hL4 zF c0_cell c0_way (0 : Int32) (0 : Int32) hf
def fJ6_bitCount_0f7a4  (x0 : Int32) : Option (Int32) := (some ((((((((x0 - ((usr x0 (1 : Int32)) &&& (1431655765 : Int32))) &&& (858993459 : Int32)) + ((usr (x0 - ((usr x0 (1 : Int32)) &&& (1431655765 : Int32))) (2 : Int32)) &&& (858993459 : Int32))) + (usr (((x0 - ((usr x0 (1 : Int32)) &&& (1431655765 : Int32))) &&& (858993459 : Int32)) + ((usr (x0 - ((usr x0 (1 : Int32)) &&& (1431655765 : Int32))) (2 : Int32)) &&& (858993459 : Int32))) (4 : Int32))) &&& (252645135 : Int32)) + (usr (((((x0 - ((usr x0 (1 : Int32)) &&& (1431655765 : Int32))) &&& (858993459 : Int32)) + ((usr (x0 - ((usr x0 (1 : Int32)) &&& (1431655765 : Int32))) (2 : Int32)) &&& (858993459 : Int32))) + (usr (((x0 - ((usr x0 (1 : Int32)) &&& (1431655765 : Int32))) &&& (858993459 : Int32)) + ((usr (x0 - ((usr x0 (1 : Int32)) &&& (1431655765 : Int32))) (2 : Int32)) &&& (858993459 : Int32))) (4 : Int32))) &&& (252645135 : Int32)) (8 : Int32))) + (usr ((((((x0 - ((usr x0 (1 : Int32)) &&& (1431655765 : Int32))) &&& (858993459 : Int32)) + ((usr (x0 - ((usr x0 (1 : Int32)) &&& (1431655765 : Int32))) (2 : Int32)) &&& (858993459 : Int32))) + (usr (((x0 - ((usr x0 (1 : Int32)) &&& (1431655765 : Int32))) &&& (858993459 : Int32)) + ((usr (x0 - ((usr x0 (1 : Int32)) &&& (1431655765 : Int32))) (2 : Int32)) &&& (858993459 : Int32))) (4 : Int32))) &&& (252645135 : Int32)) + (usr (((((x0 - ((usr x0 (1 : Int32)) &&& (1431655765 : Int32))) &&& (858993459 : Int32)) + ((usr (x0 - ((usr x0 (1 : Int32)) &&& (1431655765 : Int32))) (2 : Int32)) &&& (858993459 : Int32))) + (usr (((x0 - ((usr x0 (1 : Int32)) &&& (1431655765 : Int32))) &&& (858993459 : Int32)) + ((usr (x0 - ((usr x0 (1 : Int32)) &&& (1431655765 : Int32))) (2 : Int32)) &&& (858993459 : Int32))) (4 : Int32))) &&& (252645135 : Int32)) (8 : Int32))) (16 : Int32))) &&& (63 : Int32)))
abbrev rmJ6_bitCount_0f7a4 : Room := { frames := 0, cells := 0, slots := 0, locals := 0 }
set_option maxRecDepth 100000 in
set_option maxHeartbeats 4000000 in
theorem ctJ6_bitCount_0f7a4 (l : Launch) (G : zG)  (x0 : Int32) {R : Int32} (hf : fJ6_bitCount_0f7a4 x0 = some R) : zCt l yJ6_bitCount_0f7a4 wsJ6_bitCount_0f7a4 rmJ6_bitCount_0f7a4 G [] [.int x0] (fun v w => v = some (.int (R)) ∧ w = []) := by
  refine zMkI (own := RJ6) false (by decide) (by decide +kernel) rfl rfl (Nat.le_of_ble_eq_true rfl) ?_
  intro Z h hret
  rw [fJ6_bitCount_0f7a4] at hf
  show Z 0 0 _ [(0, .int x0)] 0 []
  refine z_iload_n h dJ6_bitCount_0f7a4_0 0 rfl rfl ?_
  refine z_iload_n h dJ6_bitCount_0f7a4_1 0 rfl rfl ?_
  refine z_iconst h (v := (1 : Int32)) dJ6_bitCount_0f7a4_2 (by decide) rfl ?_
  refine z_iushr h dJ6_bitCount_0f7a4_3 rfl ?_
  refine z_ldc_w h (v := (1431655765 : Int32)) dJ6_bitCount_0f7a4_4 (by decide +kernel) rfl ?_
  refine z_iand h dJ6_bitCount_0f7a4_7 rfl ?_
  refine z_isub h dJ6_bitCount_0f7a4_8 rfl ?_
  refine z_istore_n h (lv2 := [(0, .int (x0 - ((usr x0 (1 : Int32)) &&& (1431655765 : Int32))))]) dJ6_bitCount_0f7a4_9 (by decide) rfl rfl ?_
  refine z_iload_n h dJ6_bitCount_0f7a4_10 0 rfl rfl ?_
  refine z_ldc_w h (v := (858993459 : Int32)) dJ6_bitCount_0f7a4_11 (by decide +kernel) rfl ?_
  refine z_iand h dJ6_bitCount_0f7a4_14 rfl ?_
  refine z_iload_n h dJ6_bitCount_0f7a4_15 0 rfl rfl ?_
  refine z_iconst h (v := (2 : Int32)) dJ6_bitCount_0f7a4_16 (by decide) rfl ?_
  refine z_iushr h dJ6_bitCount_0f7a4_17 rfl ?_
  refine z_ldc_w h (v := (858993459 : Int32)) dJ6_bitCount_0f7a4_18 (by decide +kernel) rfl ?_
  refine z_iand h dJ6_bitCount_0f7a4_21 rfl ?_
  refine z_iadd h dJ6_bitCount_0f7a4_22 rfl ?_
  refine z_istore_n h (lv2 := [(0, .int (((x0 - ((usr x0 (1 : Int32)) &&& (1431655765 : Int32))) &&& (858993459 : Int32)) + ((usr (x0 - ((usr x0 (1 : Int32)) &&& (1431655765 : Int32))) (2 : Int32)) &&& (858993459 : Int32))))]) dJ6_bitCount_0f7a4_23 (by decide) rfl rfl ?_
  refine z_iload_n h dJ6_bitCount_0f7a4_24 0 rfl rfl ?_
  refine z_iload_n h dJ6_bitCount_0f7a4_25 0 rfl rfl ?_
  refine z_iconst h (v := (4 : Int32)) dJ6_bitCount_0f7a4_26 (by decide) rfl ?_
  refine z_iushr h dJ6_bitCount_0f7a4_27 rfl ?_
  refine z_iadd h dJ6_bitCount_0f7a4_28 rfl ?_
  refine z_ldc_w h (v := (252645135 : Int32)) dJ6_bitCount_0f7a4_29 (by decide +kernel) rfl ?_
  refine z_iand h dJ6_bitCount_0f7a4_32 rfl ?_
  refine z_istore_n h (lv2 := [(0, .int (((((x0 - ((usr x0 (1 : Int32)) &&& (1431655765 : Int32))) &&& (858993459 : Int32)) + ((usr (x0 - ((usr x0 (1 : Int32)) &&& (1431655765 : Int32))) (2 : Int32)) &&& (858993459 : Int32))) + (usr (((x0 - ((usr x0 (1 : Int32)) &&& (1431655765 : Int32))) &&& (858993459 : Int32)) + ((usr (x0 - ((usr x0 (1 : Int32)) &&& (1431655765 : Int32))) (2 : Int32)) &&& (858993459 : Int32))) (4 : Int32))) &&& (252645135 : Int32)))]) dJ6_bitCount_0f7a4_33 (by decide) rfl rfl ?_
  refine z_iload_n h dJ6_bitCount_0f7a4_34 0 rfl rfl ?_
  refine z_iload_n h dJ6_bitCount_0f7a4_35 0 rfl rfl ?_
  refine z_bipush h (v := (8 : Int32)) dJ6_bitCount_0f7a4_36 (by decide) rfl ?_
  refine z_iushr h dJ6_bitCount_0f7a4_38 rfl ?_
  refine z_iadd h dJ6_bitCount_0f7a4_39 rfl ?_
  refine z_istore_n h (lv2 := [(0, .int ((((((x0 - ((usr x0 (1 : Int32)) &&& (1431655765 : Int32))) &&& (858993459 : Int32)) + ((usr (x0 - ((usr x0 (1 : Int32)) &&& (1431655765 : Int32))) (2 : Int32)) &&& (858993459 : Int32))) + (usr (((x0 - ((usr x0 (1 : Int32)) &&& (1431655765 : Int32))) &&& (858993459 : Int32)) + ((usr (x0 - ((usr x0 (1 : Int32)) &&& (1431655765 : Int32))) (2 : Int32)) &&& (858993459 : Int32))) (4 : Int32))) &&& (252645135 : Int32)) + (usr (((((x0 - ((usr x0 (1 : Int32)) &&& (1431655765 : Int32))) &&& (858993459 : Int32)) + ((usr (x0 - ((usr x0 (1 : Int32)) &&& (1431655765 : Int32))) (2 : Int32)) &&& (858993459 : Int32))) + (usr (((x0 - ((usr x0 (1 : Int32)) &&& (1431655765 : Int32))) &&& (858993459 : Int32)) + ((usr (x0 - ((usr x0 (1 : Int32)) &&& (1431655765 : Int32))) (2 : Int32)) &&& (858993459 : Int32))) (4 : Int32))) &&& (252645135 : Int32)) (8 : Int32))))]) dJ6_bitCount_0f7a4_40 (by decide) rfl rfl ?_
  refine z_iload_n h dJ6_bitCount_0f7a4_41 0 rfl rfl ?_
  refine z_iload_n h dJ6_bitCount_0f7a4_42 0 rfl rfl ?_
  refine z_bipush h (v := (16 : Int32)) dJ6_bitCount_0f7a4_43 (by decide) rfl ?_
  refine z_iushr h dJ6_bitCount_0f7a4_45 rfl ?_
  refine z_iadd h dJ6_bitCount_0f7a4_46 rfl ?_
  refine z_istore_n h (lv2 := [(0, .int (((((((x0 - ((usr x0 (1 : Int32)) &&& (1431655765 : Int32))) &&& (858993459 : Int32)) + ((usr (x0 - ((usr x0 (1 : Int32)) &&& (1431655765 : Int32))) (2 : Int32)) &&& (858993459 : Int32))) + (usr (((x0 - ((usr x0 (1 : Int32)) &&& (1431655765 : Int32))) &&& (858993459 : Int32)) + ((usr (x0 - ((usr x0 (1 : Int32)) &&& (1431655765 : Int32))) (2 : Int32)) &&& (858993459 : Int32))) (4 : Int32))) &&& (252645135 : Int32)) + (usr (((((x0 - ((usr x0 (1 : Int32)) &&& (1431655765 : Int32))) &&& (858993459 : Int32)) + ((usr (x0 - ((usr x0 (1 : Int32)) &&& (1431655765 : Int32))) (2 : Int32)) &&& (858993459 : Int32))) + (usr (((x0 - ((usr x0 (1 : Int32)) &&& (1431655765 : Int32))) &&& (858993459 : Int32)) + ((usr (x0 - ((usr x0 (1 : Int32)) &&& (1431655765 : Int32))) (2 : Int32)) &&& (858993459 : Int32))) (4 : Int32))) &&& (252645135 : Int32)) (8 : Int32))) + (usr ((((((x0 - ((usr x0 (1 : Int32)) &&& (1431655765 : Int32))) &&& (858993459 : Int32)) + ((usr (x0 - ((usr x0 (1 : Int32)) &&& (1431655765 : Int32))) (2 : Int32)) &&& (858993459 : Int32))) + (usr (((x0 - ((usr x0 (1 : Int32)) &&& (1431655765 : Int32))) &&& (858993459 : Int32)) + ((usr (x0 - ((usr x0 (1 : Int32)) &&& (1431655765 : Int32))) (2 : Int32)) &&& (858993459 : Int32))) (4 : Int32))) &&& (252645135 : Int32)) + (usr (((((x0 - ((usr x0 (1 : Int32)) &&& (1431655765 : Int32))) &&& (858993459 : Int32)) + ((usr (x0 - ((usr x0 (1 : Int32)) &&& (1431655765 : Int32))) (2 : Int32)) &&& (858993459 : Int32))) + (usr (((x0 - ((usr x0 (1 : Int32)) &&& (1431655765 : Int32))) &&& (858993459 : Int32)) + ((usr (x0 - ((usr x0 (1 : Int32)) &&& (1431655765 : Int32))) (2 : Int32)) &&& (858993459 : Int32))) (4 : Int32))) &&& (252645135 : Int32)) (8 : Int32))) (16 : Int32))))]) dJ6_bitCount_0f7a4_47 (by decide) rfl rfl ?_
  refine z_iload_n h dJ6_bitCount_0f7a4_48 0 rfl rfl ?_
  refine z_bipush h (v := (63 : Int32)) dJ6_bitCount_0f7a4_49 (by decide) rfl ?_
  refine z_iand h dJ6_bitCount_0f7a4_51 rfl ?_
  have hf := Option.some.inj hf
  subst hf
  exact hret _ _ _ _ dJ6_bitCount_0f7a4_52 ⟨rfl, rfl⟩
def fX11_has_b13 (x0 : Int32) (x1 : Int32)  (s0 : Int32) : Option (Int32) := gd (s0 == 0 || s0 == 1) ((some s0))
def fX11_has  (x0 : Int32) (x1 : Int32) : Option (Int32) := (if ((sr x0 x1) &&& (1 : Int32)) = (0 : Int32) then (fX11_has_b13 x0 x1  (0 : Int32)) else (fX11_has_b13 x0 x1  (1 : Int32)))
abbrev rmX11_has : Room := { frames := 0, cells := 0, slots := 0, locals := 0 }
set_option maxRecDepth 100000 in
set_option maxHeartbeats 4000000 in
theorem ctX11_has (l : Launch) (G : zG)  (x0 : Int32) (x1 : Int32) {R : Int32} (hf : fX11_has x0 x1 = some R) : zCt l yX11_has wsX11_has rmX11_has G [] [.int x0, .int x1] (fun v w => v = some (.int (R)) ∧ w = []) := by
  refine zMkB (own := RX11) false (by decide) (by decide +kernel) rfl rfl (Nat.le_of_ble_eq_true rfl) ?_
  intro Z h hret
  have hB13 : ∀ (s0 : Int32), fX11_has_b13 x0 x1  s0 = some R → Z 0 0 [] [] 13 [.int s0] := by
    intro s0 hf
    rw [fX11_has_b13] at hf
    obtain ⟨hg1, hf⟩ := gd_some hf
    have hf := Option.some.inj hf
    subst hf
    exact hret _ _ _ _ dX11_has_13 hg1 ⟨rfl, rfl⟩
  rw [fX11_has] at hf
  show Z 0 0 _ [(0, .int x0), (1, .int x1)] 0 []
  refine z_iload_n h dX11_has_0 0 rfl rfl ?_
  refine z_iload_n h dX11_has_1 1 rfl rfl ?_
  refine z_ishr h dX11_has_2 rfl ?_
  refine z_iconst h (v := (1 : Int32)) dX11_has_3 (by decide) rfl ?_
  refine z_iand h dX11_has_4 rfl ?_
  refine z_if_eq h (tgt := 12) dX11_has_5 (by decide) rfl (fun c2 => ?_) (fun c2 => ?_)
  · have hf := ite_t hf c2
    refine z_iconst h (v := (0 : Int32)) dX11_has_12 (by decide) rfl ?_
    refine z_locs h (lv2 := []) [] rfl ?_
    exact hB13 (0 : Int32) hf
  have hf := ite_f hf c2
  refine z_iconst h (v := (1 : Int32)) dX11_has_8 (by decide) rfl ?_
  refine z_goto h (tgt := 13) dX11_has_9 (by decide) ?_
  refine z_locs h (lv2 := []) [] rfl ?_
  exact hB13 (1 : Int32) hf
def fX11_within_b15 (x0 : Int32) (x1 : Int32) (x2 : Int32)  (s0 : Int32) : Option (Int32) := gd (s0 == 0 || s0 == 1) ((some s0))
def fX11_within_b14 (x0 : Int32) (x1 : Int32) (x2 : Int32)   : Option (Int32) := (fX11_within_b15 x0 x1 x2  (0 : Int32))
def fX11_within  (x0 : Int32) (x1 : Int32) (x2 : Int32) : Option (Int32) := (if x0 < x1 then (fX11_within_b14 x0 x1 x2  ) else (if x2 < x0 then (fX11_within_b14 x0 x1 x2  ) else (fX11_within_b15 x0 x1 x2  (1 : Int32))))
abbrev rmX11_within : Room := { frames := 0, cells := 0, slots := 0, locals := 0 }
set_option maxRecDepth 100000 in
set_option maxHeartbeats 4000000 in
theorem ctX11_within (l : Launch) (G : zG)  (x0 : Int32) (x1 : Int32) (x2 : Int32) {R : Int32} (hf : fX11_within x0 x1 x2 = some R) : zCt l yX11_within wsX11_within rmX11_within G [] [.int x0, .int x1, .int x2] (fun v w => v = some (.int (R)) ∧ w = []) := by
  refine zMkB (own := RX11) false (by decide) (by decide +kernel) rfl rfl (Nat.le_of_ble_eq_true rfl) ?_
  intro Z h hret
  have hB15 : ∀ (s0 : Int32), fX11_within_b15 x0 x1 x2  s0 = some R → Z 0 0 [] [] 15 [.int s0] := by
    intro s0 hf
    rw [fX11_within_b15] at hf
    obtain ⟨hg1, hf⟩ := gd_some hf
    have hf := Option.some.inj hf
    subst hf
    exact hret _ _ _ _ dX11_within_15 hg1 ⟨rfl, rfl⟩
  have hB14 : fX11_within_b14 x0 x1 x2   = some R → Z 0 0 [] [] 14 [] := by
    intro hf
    rw [fX11_within_b14] at hf
    refine z_iconst h (v := (0 : Int32)) dX11_within_14 (by decide) rfl ?_
    exact hB15 (0 : Int32) hf
  rw [fX11_within] at hf
  show Z 0 0 _ [(0, .int x0), (1, .int x1), (2, .int x2)] 0 []
  refine z_iload_n h dX11_within_0 0 rfl rfl ?_
  refine z_iload_n h dX11_within_1 1 rfl rfl ?_
  refine z_icmp_lt h (tgt := 14) dX11_within_2 (by decide) rfl (fun c2 => ?_) (fun c2 => ?_)
  · have hf := ite_t hf c2
    refine z_locs h (lv2 := []) [] rfl ?_
    exact hB14  hf
  have hf := ite_f hf c2
  refine z_iload_n h dX11_within_5 0 rfl rfl ?_
  refine z_iload_n h dX11_within_6 2 rfl rfl ?_
  refine z_icmp_gt h (tgt := 14) dX11_within_7 (by decide) rfl (fun c3 => ?_) (fun c3 => ?_)
  · have hf := ite_t hf c3
    refine z_locs h (lv2 := []) [] rfl ?_
    exact hB14  hf
  have hf := ite_f hf c3
  refine z_iconst h (v := (1 : Int32)) dX11_within_10 (by decide) rfl ?_
  refine z_goto h (tgt := 15) dX11_within_11 (by decide) ?_
  refine z_locs h (lv2 := []) [] rfl ?_
  exact hB15 (1 : Int32) hf
def fX11_isWalker  (x0 : Int32) : Option (Int32) := Option.bind (fX11_within x0 (0 : Int32) (5 : Int32)) (fun v1 => gd (v1 == 0 || v1 == 1) ((some v1)))
abbrev rmX11_isWalker : Room := { frames := 1, cells := 0, slots := 0, locals := 22 }
set_option maxRecDepth 100000 in
set_option maxHeartbeats 4000000 in
theorem ctX11_isWalker (l : Launch) (G : zG)  (x0 : Int32) {R : Int32} (hf : fX11_isWalker x0 = some R) : zCt l yX11_isWalker wsX11_isWalker rmX11_isWalker G [] [.int x0] (fun v w => v = some (.int (R)) ∧ w = []) := by
  refine zMkB (own := RX11) false (by decide) (by decide +kernel) rfl rfl (Nat.le_of_ble_eq_true rfl) ?_
  intro Z h hret
  rw [fX11_isWalker] at hf
  show Z 0 0 _ [(0, .int x0)] 0 []
  refine z_iload_n h dX11_isWalker_0 0 rfl rfl ?_
  refine z_iconst h (v := (0 : Int32)) dX11_isWalker_1 (by decide) rfl ?_
  refine z_iconst h (v := (5 : Int32)) dX11_isWalker_2 (by decide) rfl ?_
  obtain ⟨v1, hv1, hf⟩ := bd_some hf
  refine z_callS h (np := 3) (st := []) (wr := []) [.int x0, .int (0 : Int32), .int (5 : Int32)] (ctX11_within l G x0 (0 : Int32) (5 : Int32) hv1) gX11_isWalker_X11_within (by decide +kernel) rfl ⟨Nat.le_of_ble_eq_true rfl, Nat.le_of_ble_eq_true rfl⟩ ⟨Nat.le_refl _, Nat.le_refl _⟩ rfl rfl rfl [] [] rfl rfl rfl rfl (by decide) (Nat.le_of_ble_eq_true rfl) dX11_isWalker_3 rfl rfl (fun rv1 wv1 hrv1 => ?_)
  obtain ⟨rfl, rfl⟩ := hrv1
  refine z_perm h (w2 := []) (st := [.int v1]) [] rfl rfl ?_
  obtain ⟨hg2, hf⟩ := gd_some hf
  have hf := Option.some.inj hf
  subst hf
  exact hret _ _ _ _ dX11_isWalker_6 hg2 ⟨rfl, rfl⟩
def fX11_code  (x0 : Int32) (x1 : Int32) (x2 : Int32) : Option (Int32) := (some ((((100 : Int32) * x0) + ((10 : Int32) * x1)) + x2))
abbrev rmX11_code : Room := { frames := 0, cells := 0, slots := 0, locals := 0 }
set_option maxRecDepth 100000 in
set_option maxHeartbeats 4000000 in
theorem ctX11_code (l : Launch) (G : zG)  (x0 : Int32) (x1 : Int32) (x2 : Int32) {R : Int32} (hf : fX11_code x0 x1 x2 = some R) : zCt l yX11_code wsX11_code rmX11_code G [] [.int x0, .int x1, .int x2] (fun v w => v = some (.int (R)) ∧ w = []) := by
  refine zMkI (own := RX11) false (by decide) (by decide +kernel) rfl rfl (Nat.le_of_ble_eq_true rfl) ?_
  intro Z h hret
  rw [fX11_code] at hf
  show Z 0 0 _ [(0, .int x0), (1, .int x1), (2, .int x2)] 0 []
  refine z_bipush h (v := (100 : Int32)) dX11_code_0 (by decide) rfl ?_
  refine z_iload_n h dX11_code_2 0 rfl rfl ?_
  refine z_imul h dX11_code_3 rfl ?_
  refine z_bipush h (v := (10 : Int32)) dX11_code_4 (by decide) rfl ?_
  refine z_iload_n h dX11_code_6 1 rfl rfl ?_
  refine z_imul h dX11_code_7 rfl ?_
  refine z_iadd h dX11_code_8 rfl ?_
  refine z_iload_n h dX11_code_9 2 rfl rfl ?_
  refine z_iadd h dX11_code_10 rfl ?_
  have hf := Option.some.inj hf
  subst hf
  exact hret _ _ _ _ dX11_code_11 ⟨rfl, rfl⟩
def fJ13_bitCount_95d88  (x0 : Int64) : Option (Int32) := (some ((Int64.toInt32 ((((((((x0 - ((lusr x0 (1 : Int32)) &&& (6148914691236517205 : Int64))) &&& (3689348814741910323 : Int64)) + ((lusr (x0 - ((lusr x0 (1 : Int32)) &&& (6148914691236517205 : Int64))) (2 : Int32)) &&& (3689348814741910323 : Int64))) + (lusr (((x0 - ((lusr x0 (1 : Int32)) &&& (6148914691236517205 : Int64))) &&& (3689348814741910323 : Int64)) + ((lusr (x0 - ((lusr x0 (1 : Int32)) &&& (6148914691236517205 : Int64))) (2 : Int32)) &&& (3689348814741910323 : Int64))) (4 : Int32))) &&& (1085102592571150095 : Int64)) + (lusr (((((x0 - ((lusr x0 (1 : Int32)) &&& (6148914691236517205 : Int64))) &&& (3689348814741910323 : Int64)) + ((lusr (x0 - ((lusr x0 (1 : Int32)) &&& (6148914691236517205 : Int64))) (2 : Int32)) &&& (3689348814741910323 : Int64))) + (lusr (((x0 - ((lusr x0 (1 : Int32)) &&& (6148914691236517205 : Int64))) &&& (3689348814741910323 : Int64)) + ((lusr (x0 - ((lusr x0 (1 : Int32)) &&& (6148914691236517205 : Int64))) (2 : Int32)) &&& (3689348814741910323 : Int64))) (4 : Int32))) &&& (1085102592571150095 : Int64)) (8 : Int32))) + (lusr ((((((x0 - ((lusr x0 (1 : Int32)) &&& (6148914691236517205 : Int64))) &&& (3689348814741910323 : Int64)) + ((lusr (x0 - ((lusr x0 (1 : Int32)) &&& (6148914691236517205 : Int64))) (2 : Int32)) &&& (3689348814741910323 : Int64))) + (lusr (((x0 - ((lusr x0 (1 : Int32)) &&& (6148914691236517205 : Int64))) &&& (3689348814741910323 : Int64)) + ((lusr (x0 - ((lusr x0 (1 : Int32)) &&& (6148914691236517205 : Int64))) (2 : Int32)) &&& (3689348814741910323 : Int64))) (4 : Int32))) &&& (1085102592571150095 : Int64)) + (lusr (((((x0 - ((lusr x0 (1 : Int32)) &&& (6148914691236517205 : Int64))) &&& (3689348814741910323 : Int64)) + ((lusr (x0 - ((lusr x0 (1 : Int32)) &&& (6148914691236517205 : Int64))) (2 : Int32)) &&& (3689348814741910323 : Int64))) + (lusr (((x0 - ((lusr x0 (1 : Int32)) &&& (6148914691236517205 : Int64))) &&& (3689348814741910323 : Int64)) + ((lusr (x0 - ((lusr x0 (1 : Int32)) &&& (6148914691236517205 : Int64))) (2 : Int32)) &&& (3689348814741910323 : Int64))) (4 : Int32))) &&& (1085102592571150095 : Int64)) (8 : Int32))) (16 : Int32))) + (lusr (((((((x0 - ((lusr x0 (1 : Int32)) &&& (6148914691236517205 : Int64))) &&& (3689348814741910323 : Int64)) + ((lusr (x0 - ((lusr x0 (1 : Int32)) &&& (6148914691236517205 : Int64))) (2 : Int32)) &&& (3689348814741910323 : Int64))) + (lusr (((x0 - ((lusr x0 (1 : Int32)) &&& (6148914691236517205 : Int64))) &&& (3689348814741910323 : Int64)) + ((lusr (x0 - ((lusr x0 (1 : Int32)) &&& (6148914691236517205 : Int64))) (2 : Int32)) &&& (3689348814741910323 : Int64))) (4 : Int32))) &&& (1085102592571150095 : Int64)) + (lusr (((((x0 - ((lusr x0 (1 : Int32)) &&& (6148914691236517205 : Int64))) &&& (3689348814741910323 : Int64)) + ((lusr (x0 - ((lusr x0 (1 : Int32)) &&& (6148914691236517205 : Int64))) (2 : Int32)) &&& (3689348814741910323 : Int64))) + (lusr (((x0 - ((lusr x0 (1 : Int32)) &&& (6148914691236517205 : Int64))) &&& (3689348814741910323 : Int64)) + ((lusr (x0 - ((lusr x0 (1 : Int32)) &&& (6148914691236517205 : Int64))) (2 : Int32)) &&& (3689348814741910323 : Int64))) (4 : Int32))) &&& (1085102592571150095 : Int64)) (8 : Int32))) + (lusr ((((((x0 - ((lusr x0 (1 : Int32)) &&& (6148914691236517205 : Int64))) &&& (3689348814741910323 : Int64)) + ((lusr (x0 - ((lusr x0 (1 : Int32)) &&& (6148914691236517205 : Int64))) (2 : Int32)) &&& (3689348814741910323 : Int64))) + (lusr (((x0 - ((lusr x0 (1 : Int32)) &&& (6148914691236517205 : Int64))) &&& (3689348814741910323 : Int64)) + ((lusr (x0 - ((lusr x0 (1 : Int32)) &&& (6148914691236517205 : Int64))) (2 : Int32)) &&& (3689348814741910323 : Int64))) (4 : Int32))) &&& (1085102592571150095 : Int64)) + (lusr (((((x0 - ((lusr x0 (1 : Int32)) &&& (6148914691236517205 : Int64))) &&& (3689348814741910323 : Int64)) + ((lusr (x0 - ((lusr x0 (1 : Int32)) &&& (6148914691236517205 : Int64))) (2 : Int32)) &&& (3689348814741910323 : Int64))) + (lusr (((x0 - ((lusr x0 (1 : Int32)) &&& (6148914691236517205 : Int64))) &&& (3689348814741910323 : Int64)) + ((lusr (x0 - ((lusr x0 (1 : Int32)) &&& (6148914691236517205 : Int64))) (2 : Int32)) &&& (3689348814741910323 : Int64))) (4 : Int32))) &&& (1085102592571150095 : Int64)) (8 : Int32))) (16 : Int32))) (32 : Int32)))) &&& (127 : Int32)))
abbrev rmJ13_bitCount_95d88 : Room := { frames := 0, cells := 0, slots := 0, locals := 0 }
set_option maxRecDepth 100000 in
set_option maxHeartbeats 4000000 in
theorem ctJ13_bitCount_95d88 (l : Launch) (G : zG)  (x0 : Int64) {R : Int32} (hf : fJ13_bitCount_95d88 x0 = some R) : zCt l yJ13_bitCount_95d88 wsJ13_bitCount_95d88 rmJ13_bitCount_95d88 G [] [.long x0] (fun v w => v = some (.int (R)) ∧ w = []) := by
  refine zMkI (own := RJ13) false (by decide) (by decide +kernel) rfl rfl (Nat.le_of_ble_eq_true rfl) ?_
  intro Z h hret
  rw [fJ13_bitCount_95d88] at hf
  show Z 0 0 _ [(0, .long x0)] 0 []
  refine z_lload_n h dJ13_bitCount_95d88_0 0 rfl rfl ?_
  refine z_lload_n h dJ13_bitCount_95d88_1 0 rfl rfl ?_
  refine z_iconst h (v := (1 : Int32)) dJ13_bitCount_95d88_2 (by decide) rfl ?_
  refine z_lushr h dJ13_bitCount_95d88_3 rfl ?_
  refine z_ldc2_w h (v := (6148914691236517205 : Int64)) dJ13_bitCount_95d88_4 (by decide +kernel) rfl ?_
  refine z_land h dJ13_bitCount_95d88_7 rfl ?_
  refine z_lsub h dJ13_bitCount_95d88_8 rfl ?_
  refine z_lstore_n h (lv2 := [(0, .long (x0 - ((lusr x0 (1 : Int32)) &&& (6148914691236517205 : Int64))))]) dJ13_bitCount_95d88_9 (by decide) rfl rfl ?_
  refine z_lload_n h dJ13_bitCount_95d88_10 0 rfl rfl ?_
  refine z_ldc2_w h (v := (3689348814741910323 : Int64)) dJ13_bitCount_95d88_11 (by decide +kernel) rfl ?_
  refine z_land h dJ13_bitCount_95d88_14 rfl ?_
  refine z_lload_n h dJ13_bitCount_95d88_15 0 rfl rfl ?_
  refine z_iconst h (v := (2 : Int32)) dJ13_bitCount_95d88_16 (by decide) rfl ?_
  refine z_lushr h dJ13_bitCount_95d88_17 rfl ?_
  refine z_ldc2_w h (v := (3689348814741910323 : Int64)) dJ13_bitCount_95d88_18 (by decide +kernel) rfl ?_
  refine z_land h dJ13_bitCount_95d88_21 rfl ?_
  refine z_ladd h dJ13_bitCount_95d88_22 rfl ?_
  refine z_lstore_n h (lv2 := [(0, .long (((x0 - ((lusr x0 (1 : Int32)) &&& (6148914691236517205 : Int64))) &&& (3689348814741910323 : Int64)) + ((lusr (x0 - ((lusr x0 (1 : Int32)) &&& (6148914691236517205 : Int64))) (2 : Int32)) &&& (3689348814741910323 : Int64))))]) dJ13_bitCount_95d88_23 (by decide) rfl rfl ?_
  refine z_lload_n h dJ13_bitCount_95d88_24 0 rfl rfl ?_
  refine z_lload_n h dJ13_bitCount_95d88_25 0 rfl rfl ?_
  refine z_iconst h (v := (4 : Int32)) dJ13_bitCount_95d88_26 (by decide) rfl ?_
  refine z_lushr h dJ13_bitCount_95d88_27 rfl ?_
  refine z_ladd h dJ13_bitCount_95d88_28 rfl ?_
  refine z_ldc2_w h (v := (1085102592571150095 : Int64)) dJ13_bitCount_95d88_29 (by decide +kernel) rfl ?_
  refine z_land h dJ13_bitCount_95d88_32 rfl ?_
  refine z_lstore_n h (lv2 := [(0, .long (((((x0 - ((lusr x0 (1 : Int32)) &&& (6148914691236517205 : Int64))) &&& (3689348814741910323 : Int64)) + ((lusr (x0 - ((lusr x0 (1 : Int32)) &&& (6148914691236517205 : Int64))) (2 : Int32)) &&& (3689348814741910323 : Int64))) + (lusr (((x0 - ((lusr x0 (1 : Int32)) &&& (6148914691236517205 : Int64))) &&& (3689348814741910323 : Int64)) + ((lusr (x0 - ((lusr x0 (1 : Int32)) &&& (6148914691236517205 : Int64))) (2 : Int32)) &&& (3689348814741910323 : Int64))) (4 : Int32))) &&& (1085102592571150095 : Int64)))]) dJ13_bitCount_95d88_33 (by decide) rfl rfl ?_
  refine z_lload_n h dJ13_bitCount_95d88_34 0 rfl rfl ?_
  refine z_lload_n h dJ13_bitCount_95d88_35 0 rfl rfl ?_
  refine z_bipush h (v := (8 : Int32)) dJ13_bitCount_95d88_36 (by decide) rfl ?_
  refine z_lushr h dJ13_bitCount_95d88_38 rfl ?_
  refine z_ladd h dJ13_bitCount_95d88_39 rfl ?_
  refine z_lstore_n h (lv2 := [(0, .long ((((((x0 - ((lusr x0 (1 : Int32)) &&& (6148914691236517205 : Int64))) &&& (3689348814741910323 : Int64)) + ((lusr (x0 - ((lusr x0 (1 : Int32)) &&& (6148914691236517205 : Int64))) (2 : Int32)) &&& (3689348814741910323 : Int64))) + (lusr (((x0 - ((lusr x0 (1 : Int32)) &&& (6148914691236517205 : Int64))) &&& (3689348814741910323 : Int64)) + ((lusr (x0 - ((lusr x0 (1 : Int32)) &&& (6148914691236517205 : Int64))) (2 : Int32)) &&& (3689348814741910323 : Int64))) (4 : Int32))) &&& (1085102592571150095 : Int64)) + (lusr (((((x0 - ((lusr x0 (1 : Int32)) &&& (6148914691236517205 : Int64))) &&& (3689348814741910323 : Int64)) + ((lusr (x0 - ((lusr x0 (1 : Int32)) &&& (6148914691236517205 : Int64))) (2 : Int32)) &&& (3689348814741910323 : Int64))) + (lusr (((x0 - ((lusr x0 (1 : Int32)) &&& (6148914691236517205 : Int64))) &&& (3689348814741910323 : Int64)) + ((lusr (x0 - ((lusr x0 (1 : Int32)) &&& (6148914691236517205 : Int64))) (2 : Int32)) &&& (3689348814741910323 : Int64))) (4 : Int32))) &&& (1085102592571150095 : Int64)) (8 : Int32))))]) dJ13_bitCount_95d88_40 (by decide) rfl rfl ?_
  refine z_lload_n h dJ13_bitCount_95d88_41 0 rfl rfl ?_
  refine z_lload_n h dJ13_bitCount_95d88_42 0 rfl rfl ?_
  refine z_bipush h (v := (16 : Int32)) dJ13_bitCount_95d88_43 (by decide) rfl ?_
  refine z_lushr h dJ13_bitCount_95d88_45 rfl ?_
  refine z_ladd h dJ13_bitCount_95d88_46 rfl ?_
  refine z_lstore_n h (lv2 := [(0, .long (((((((x0 - ((lusr x0 (1 : Int32)) &&& (6148914691236517205 : Int64))) &&& (3689348814741910323 : Int64)) + ((lusr (x0 - ((lusr x0 (1 : Int32)) &&& (6148914691236517205 : Int64))) (2 : Int32)) &&& (3689348814741910323 : Int64))) + (lusr (((x0 - ((lusr x0 (1 : Int32)) &&& (6148914691236517205 : Int64))) &&& (3689348814741910323 : Int64)) + ((lusr (x0 - ((lusr x0 (1 : Int32)) &&& (6148914691236517205 : Int64))) (2 : Int32)) &&& (3689348814741910323 : Int64))) (4 : Int32))) &&& (1085102592571150095 : Int64)) + (lusr (((((x0 - ((lusr x0 (1 : Int32)) &&& (6148914691236517205 : Int64))) &&& (3689348814741910323 : Int64)) + ((lusr (x0 - ((lusr x0 (1 : Int32)) &&& (6148914691236517205 : Int64))) (2 : Int32)) &&& (3689348814741910323 : Int64))) + (lusr (((x0 - ((lusr x0 (1 : Int32)) &&& (6148914691236517205 : Int64))) &&& (3689348814741910323 : Int64)) + ((lusr (x0 - ((lusr x0 (1 : Int32)) &&& (6148914691236517205 : Int64))) (2 : Int32)) &&& (3689348814741910323 : Int64))) (4 : Int32))) &&& (1085102592571150095 : Int64)) (8 : Int32))) + (lusr ((((((x0 - ((lusr x0 (1 : Int32)) &&& (6148914691236517205 : Int64))) &&& (3689348814741910323 : Int64)) + ((lusr (x0 - ((lusr x0 (1 : Int32)) &&& (6148914691236517205 : Int64))) (2 : Int32)) &&& (3689348814741910323 : Int64))) + (lusr (((x0 - ((lusr x0 (1 : Int32)) &&& (6148914691236517205 : Int64))) &&& (3689348814741910323 : Int64)) + ((lusr (x0 - ((lusr x0 (1 : Int32)) &&& (6148914691236517205 : Int64))) (2 : Int32)) &&& (3689348814741910323 : Int64))) (4 : Int32))) &&& (1085102592571150095 : Int64)) + (lusr (((((x0 - ((lusr x0 (1 : Int32)) &&& (6148914691236517205 : Int64))) &&& (3689348814741910323 : Int64)) + ((lusr (x0 - ((lusr x0 (1 : Int32)) &&& (6148914691236517205 : Int64))) (2 : Int32)) &&& (3689348814741910323 : Int64))) + (lusr (((x0 - ((lusr x0 (1 : Int32)) &&& (6148914691236517205 : Int64))) &&& (3689348814741910323 : Int64)) + ((lusr (x0 - ((lusr x0 (1 : Int32)) &&& (6148914691236517205 : Int64))) (2 : Int32)) &&& (3689348814741910323 : Int64))) (4 : Int32))) &&& (1085102592571150095 : Int64)) (8 : Int32))) (16 : Int32))))]) dJ13_bitCount_95d88_47 (by decide) rfl rfl ?_
  refine z_lload_n h dJ13_bitCount_95d88_48 0 rfl rfl ?_
  refine z_lload_n h dJ13_bitCount_95d88_49 0 rfl rfl ?_
  refine z_bipush h (v := (32 : Int32)) dJ13_bitCount_95d88_50 (by decide) rfl ?_
  refine z_lushr h dJ13_bitCount_95d88_52 rfl ?_
  refine z_ladd h dJ13_bitCount_95d88_53 rfl ?_
  refine z_lstore_n h (lv2 := [(0, .long ((((((((x0 - ((lusr x0 (1 : Int32)) &&& (6148914691236517205 : Int64))) &&& (3689348814741910323 : Int64)) + ((lusr (x0 - ((lusr x0 (1 : Int32)) &&& (6148914691236517205 : Int64))) (2 : Int32)) &&& (3689348814741910323 : Int64))) + (lusr (((x0 - ((lusr x0 (1 : Int32)) &&& (6148914691236517205 : Int64))) &&& (3689348814741910323 : Int64)) + ((lusr (x0 - ((lusr x0 (1 : Int32)) &&& (6148914691236517205 : Int64))) (2 : Int32)) &&& (3689348814741910323 : Int64))) (4 : Int32))) &&& (1085102592571150095 : Int64)) + (lusr (((((x0 - ((lusr x0 (1 : Int32)) &&& (6148914691236517205 : Int64))) &&& (3689348814741910323 : Int64)) + ((lusr (x0 - ((lusr x0 (1 : Int32)) &&& (6148914691236517205 : Int64))) (2 : Int32)) &&& (3689348814741910323 : Int64))) + (lusr (((x0 - ((lusr x0 (1 : Int32)) &&& (6148914691236517205 : Int64))) &&& (3689348814741910323 : Int64)) + ((lusr (x0 - ((lusr x0 (1 : Int32)) &&& (6148914691236517205 : Int64))) (2 : Int32)) &&& (3689348814741910323 : Int64))) (4 : Int32))) &&& (1085102592571150095 : Int64)) (8 : Int32))) + (lusr ((((((x0 - ((lusr x0 (1 : Int32)) &&& (6148914691236517205 : Int64))) &&& (3689348814741910323 : Int64)) + ((lusr (x0 - ((lusr x0 (1 : Int32)) &&& (6148914691236517205 : Int64))) (2 : Int32)) &&& (3689348814741910323 : Int64))) + (lusr (((x0 - ((lusr x0 (1 : Int32)) &&& (6148914691236517205 : Int64))) &&& (3689348814741910323 : Int64)) + ((lusr (x0 - ((lusr x0 (1 : Int32)) &&& (6148914691236517205 : Int64))) (2 : Int32)) &&& (3689348814741910323 : Int64))) (4 : Int32))) &&& (1085102592571150095 : Int64)) + (lusr (((((x0 - ((lusr x0 (1 : Int32)) &&& (6148914691236517205 : Int64))) &&& (3689348814741910323 : Int64)) + ((lusr (x0 - ((lusr x0 (1 : Int32)) &&& (6148914691236517205 : Int64))) (2 : Int32)) &&& (3689348814741910323 : Int64))) + (lusr (((x0 - ((lusr x0 (1 : Int32)) &&& (6148914691236517205 : Int64))) &&& (3689348814741910323 : Int64)) + ((lusr (x0 - ((lusr x0 (1 : Int32)) &&& (6148914691236517205 : Int64))) (2 : Int32)) &&& (3689348814741910323 : Int64))) (4 : Int32))) &&& (1085102592571150095 : Int64)) (8 : Int32))) (16 : Int32))) + (lusr (((((((x0 - ((lusr x0 (1 : Int32)) &&& (6148914691236517205 : Int64))) &&& (3689348814741910323 : Int64)) + ((lusr (x0 - ((lusr x0 (1 : Int32)) &&& (6148914691236517205 : Int64))) (2 : Int32)) &&& (3689348814741910323 : Int64))) + (lusr (((x0 - ((lusr x0 (1 : Int32)) &&& (6148914691236517205 : Int64))) &&& (3689348814741910323 : Int64)) + ((lusr (x0 - ((lusr x0 (1 : Int32)) &&& (6148914691236517205 : Int64))) (2 : Int32)) &&& (3689348814741910323 : Int64))) (4 : Int32))) &&& (1085102592571150095 : Int64)) + (lusr (((((x0 - ((lusr x0 (1 : Int32)) &&& (6148914691236517205 : Int64))) &&& (3689348814741910323 : Int64)) + ((lusr (x0 - ((lusr x0 (1 : Int32)) &&& (6148914691236517205 : Int64))) (2 : Int32)) &&& (3689348814741910323 : Int64))) + (lusr (((x0 - ((lusr x0 (1 : Int32)) &&& (6148914691236517205 : Int64))) &&& (3689348814741910323 : Int64)) + ((lusr (x0 - ((lusr x0 (1 : Int32)) &&& (6148914691236517205 : Int64))) (2 : Int32)) &&& (3689348814741910323 : Int64))) (4 : Int32))) &&& (1085102592571150095 : Int64)) (8 : Int32))) + (lusr ((((((x0 - ((lusr x0 (1 : Int32)) &&& (6148914691236517205 : Int64))) &&& (3689348814741910323 : Int64)) + ((lusr (x0 - ((lusr x0 (1 : Int32)) &&& (6148914691236517205 : Int64))) (2 : Int32)) &&& (3689348814741910323 : Int64))) + (lusr (((x0 - ((lusr x0 (1 : Int32)) &&& (6148914691236517205 : Int64))) &&& (3689348814741910323 : Int64)) + ((lusr (x0 - ((lusr x0 (1 : Int32)) &&& (6148914691236517205 : Int64))) (2 : Int32)) &&& (3689348814741910323 : Int64))) (4 : Int32))) &&& (1085102592571150095 : Int64)) + (lusr (((((x0 - ((lusr x0 (1 : Int32)) &&& (6148914691236517205 : Int64))) &&& (3689348814741910323 : Int64)) + ((lusr (x0 - ((lusr x0 (1 : Int32)) &&& (6148914691236517205 : Int64))) (2 : Int32)) &&& (3689348814741910323 : Int64))) + (lusr (((x0 - ((lusr x0 (1 : Int32)) &&& (6148914691236517205 : Int64))) &&& (3689348814741910323 : Int64)) + ((lusr (x0 - ((lusr x0 (1 : Int32)) &&& (6148914691236517205 : Int64))) (2 : Int32)) &&& (3689348814741910323 : Int64))) (4 : Int32))) &&& (1085102592571150095 : Int64)) (8 : Int32))) (16 : Int32))) (32 : Int32))))]) dJ13_bitCount_95d88_54 (by decide) rfl rfl ?_
  refine z_lload_n h dJ13_bitCount_95d88_55 0 rfl rfl ?_
  refine z_l2i h dJ13_bitCount_95d88_56 rfl ?_
  refine z_bipush h (v := (127 : Int32)) dJ13_bitCount_95d88_57 (by decide) rfl ?_
  refine z_iand h dJ13_bitCount_95d88_59 rfl ?_
  have hf := Option.some.inj hf
  subst hf
  exact hret _ _ _ _ dJ13_bitCount_95d88_60 ⟨rfl, rfl⟩
def fX10_become (c0_cell : Int32) (c0_way : Int32) (c0_force : Int32) (c1_cell : Int32) (c1_way : Int32) (c1_force : Int32)  : Option (Int32 × Int32 × Int32) := Option.bind (fX10_put c0_cell c0_way c0_force c1_cell c1_way c1_force) (fun v1 => (some (v1.1, v1.2.1, v1.2.2)))
abbrev rmX10_become : Room := { frames := 1, cells := 0, slots := 0, locals := 23 }
set_option maxRecDepth 100000 in
set_option maxHeartbeats 4000000 in
theorem ctX10_become (l : Launch) (G : zG) (a0 a1 : Nat) (c0_cell : Int32) (c0_way : Int32) (c0_force : Int32) (c1_cell : Int32) (c1_way : Int32) (c1_force : Int32)  {R : Int32 × Int32 × Int32} (hf : fX10_become c0_cell c0_way c0_force c1_cell c1_way c1_force = some R) : zCt l yX10_become wsX10_become rmX10_become G [(a0, .inr (10, [.int c0_cell, .int c0_way, .int c0_force])), (a1, .inr (10, [.int c1_cell, .int c1_way, .int c1_force]))] [.ref a0, .ref a1] (fun v w => v = none ∧ w = [(a0, .inr (10, [.int (R.1), .int (R.2.1), .int (R.2.2)])), (a1, .inr (10, [.int c1_cell, .int c1_way, .int c1_force]))]) := by
  refine zMkV (own := RX10) false (by decide) (by decide +kernel) rfl rfl (Nat.le_of_ble_eq_true rfl) ?_
  intro Z h hret
  rw [fX10_become] at hf
  show Z 0 0 _ [(0, .ref a0), (1, .ref a1)] 0 []
  refine z_aload_n h dX10_become_0 0 rfl rfl ?_
  refine z_aload_n h dX10_become_1 1 rfl rfl ?_
  refine z_get h (C := RX10) (T := TX10) (N := 3) (v := .int c1_cell) 1 rfl rfl 0 (by decide) (by decide +kernel) (by decide +kernel) rfl dX10_become_2 rfl ?_
  refine z_aload_n h dX10_become_5 1 rfl rfl ?_
  refine z_get h (C := RX10) (T := TX10) (N := 3) (v := .int c1_way) 1 rfl rfl 1 (by decide) (by decide +kernel) (by decide +kernel) rfl dX10_become_6 rfl ?_
  refine z_aload_n h dX10_become_9 1 rfl rfl ?_
  refine z_get h (C := RX10) (T := TX10) (N := 3) (v := .int c1_force) 1 rfl rfl 2 (by decide) (by decide +kernel) (by decide +kernel) rfl dX10_become_10 rfl ?_
  obtain ⟨v1, hv1, hf⟩ := bd_some hf
  refine z_callV h (np := 3) (st := []) (wr := [(a1, .inr (10, [.int c1_cell, .int c1_way, .int c1_force]))]) [.int c1_cell, .int c1_way, .int c1_force] (ctX10_put l G a0 c0_cell c0_way c0_force c1_cell c1_way c1_force hv1) gX10_become_X10_put (by decide +kernel) 0 rfl rfl rfl ⟨Nat.le_of_ble_eq_true rfl, Nat.le_of_ble_eq_true rfl⟩ ⟨Nat.le_refl _, Nat.le_refl _⟩ rfl rfl rfl [0] [1] rfl rfl rfl rfl (by decide) (Nat.le_of_ble_eq_true rfl) dX10_become_13 rfl rfl (fun rv1 wv1 hrv1 => ?_)
  obtain ⟨rfl, rfl⟩ := hrv1
  refine z_perm h (w2 := [(a0, .inr (10, [.int v1.1, .int v1.2.1, .int v1.2.2])), (a1, .inr (10, [.int c1_cell, .int c1_way, .int c1_force]))]) (st := []) [1, 0] rfl rfl ?_
  have hf := Option.some.inj hf
  subst hf
  exact hret _ _ _ dX10_become_16 ⟨rfl, rfl⟩
def fX10_landing_b18 (c0_cell : Int32) (c0_way : Int32)  (s0 : Int32) : Option (Int32) := (some s0)
def fX10_landing (c0_cell : Int32) (c0_way : Int32)  : Option (Int32) := Option.bind (fX10_atEnd c0_cell c0_way) (fun v1 => (if v1 = (0 : Int32) then Option.bind (fX10_nextCell c0_cell c0_way) (fun v3 => (fX10_landing_b18 c0_cell c0_way  v3)) else (fX10_landing_b18 c0_cell c0_way  c0_cell)))
abbrev rmX10_landing : Room := { frames := 1, cells := 0, slots := 0, locals := 20 }
set_option maxRecDepth 100000 in
set_option maxHeartbeats 4000000 in
theorem ctX10_landing (l : Launch) (G : zG) (a0 : Nat) (c0_cell : Int32) (c0_way : Int32) (c0_force : Int32)  {R : Int32} (hf : fX10_landing c0_cell c0_way = some R) : zCt l yX10_landing wsX10_landing rmX10_landing G [(a0, .inr (10, [.int c0_cell, .int c0_way, .int c0_force]))] [.ref a0] (fun v w => v = some (.int (R)) ∧ w = [(a0, .inr (10, [.int c0_cell, .int c0_way, .int c0_force]))]) := by
  refine zMkI (own := RX10) false (by decide) (by decide +kernel) rfl rfl (Nat.le_of_ble_eq_true rfl) ?_
  intro Z h hret
  have hB18 : ∀ (s0 : Int32), fX10_landing_b18 c0_cell c0_way  s0 = some R → Z 0 0 [(a0, .inr (10, [.int c0_cell, .int c0_way, .int c0_force]))] [] 18 [.int s0] := by
    intro s0 hf
    rw [fX10_landing_b18] at hf
    have hf := Option.some.inj hf
    subst hf
    exact hret _ _ _ _ dX10_landing_18 ⟨rfl, rfl⟩
  rw [fX10_landing] at hf
  show Z 0 0 _ [(0, .ref a0)] 0 []
  refine z_aload_n h dX10_landing_0 0 rfl rfl ?_
  obtain ⟨v1, hv1, hf⟩ := bd_some hf
  refine z_callV h (np := 0) (st := []) (wr := []) [] (ctX10_atEnd l G a0 c0_cell c0_way c0_force hv1) gX10_landing_X10_atEnd (by decide +kernel) 0 rfl rfl rfl ⟨Nat.le_of_ble_eq_true rfl, Nat.le_of_ble_eq_true rfl⟩ ⟨Nat.le_refl _, Nat.le_refl _⟩ rfl rfl rfl [0] [] rfl rfl rfl rfl (by decide) (Nat.le_of_ble_eq_true rfl) dX10_landing_1 rfl rfl (fun rv1 wv1 hrv1 => ?_)
  obtain ⟨rfl, rfl⟩ := hrv1
  refine z_perm h (w2 := [(a0, .inr (10, [.int c0_cell, .int c0_way, .int c0_force]))]) (st := [.int v1]) [0] rfl rfl ?_
  refine z_if_eq h (tgt := 14) dX10_landing_4 (by decide) rfl (fun c2 => ?_) (fun c2 => ?_)
  · have hf := ite_t hf c2
    refine z_aload_n h dX10_landing_14 0 rfl rfl ?_
    obtain ⟨v3, hv3, hf⟩ := bd_some hf
    refine z_callV h (np := 0) (st := []) (wr := []) [] (ctX10_nextCell l G a0 c0_cell c0_way c0_force hv3) gX10_landing_X10_nextCell (by decide +kernel) 0 rfl rfl rfl ⟨Nat.le_of_ble_eq_true rfl, Nat.le_of_ble_eq_true rfl⟩ ⟨Nat.le_refl _, Nat.le_refl _⟩ rfl rfl rfl [0] [] rfl rfl rfl rfl (by decide) (Nat.le_of_ble_eq_true rfl) dX10_landing_15 rfl rfl (fun rv3 wv3 hrv3 => ?_)
    obtain ⟨rfl, rfl⟩ := hrv3
    refine z_perm h (w2 := [(a0, .inr (10, [.int c0_cell, .int c0_way, .int c0_force]))]) (st := [.int v3]) [0] rfl rfl ?_
    refine z_locs h (lv2 := []) [] rfl ?_
    exact hB18 v3 hf
  have hf := ite_f hf c2
  refine z_aload_n h dX10_landing_7 0 rfl rfl ?_
  refine z_get h (C := RX10) (T := TX10) (N := 3) (v := .int c0_cell) 0 rfl rfl 0 (by decide) (by decide +kernel) (by decide +kernel) rfl dX10_landing_8 rfl ?_
  refine z_goto h (tgt := 18) dX10_landing_11 (by decide) ?_
  refine z_locs h (lv2 := []) [] rfl ?_
  exact hB18 c0_cell hf
def fX11_isCell  (x0 : Int32) : Option (Int32) := Option.bind (fX11_within x0 (0 : Int32) (11 : Int32)) (fun v1 => gd (v1 == 0 || v1 == 1) ((some v1)))
abbrev rmX11_isCell : Room := { frames := 1, cells := 0, slots := 0, locals := 22 }
set_option maxRecDepth 100000 in
set_option maxHeartbeats 4000000 in
theorem ctX11_isCell (l : Launch) (G : zG)  (x0 : Int32) {R : Int32} (hf : fX11_isCell x0 = some R) : zCt l yX11_isCell wsX11_isCell rmX11_isCell G [] [.int x0] (fun v w => v = some (.int (R)) ∧ w = []) := by
  refine zMkB (own := RX11) false (by decide) (by decide +kernel) rfl rfl (Nat.le_of_ble_eq_true rfl) ?_
  intro Z h hret
  rw [fX11_isCell] at hf
  show Z 0 0 _ [(0, .int x0)] 0 []
  refine z_iload_n h dX11_isCell_0 0 rfl rfl ?_
  refine z_iconst h (v := (0 : Int32)) dX11_isCell_1 (by decide) rfl ?_
  refine z_bipush h (v := (11 : Int32)) dX11_isCell_2 (by decide) rfl ?_
  obtain ⟨v1, hv1, hf⟩ := bd_some hf
  refine z_callS h (np := 3) (st := []) (wr := []) [.int x0, .int (0 : Int32), .int (11 : Int32)] (ctX11_within l G x0 (0 : Int32) (11 : Int32) hv1) gX11_isCell_X11_within (by decide +kernel) rfl ⟨Nat.le_of_ble_eq_true rfl, Nat.le_of_ble_eq_true rfl⟩ ⟨Nat.le_refl _, Nat.le_refl _⟩ rfl rfl rfl [] [] rfl rfl rfl rfl (by decide) (Nat.le_of_ble_eq_true rfl) dX11_isCell_4 rfl rfl (fun rv1 wv1 hrv1 => ?_)
  obtain ⟨rfl, rfl⟩ := hrv1
  refine z_perm h (w2 := []) (st := [.int v1]) [] rfl rfl ?_
  obtain ⟨hg2, hf⟩ := gd_some hf
  have hf := Option.some.inj hf
  subst hf
  exact hret _ _ _ _ dX11_isCell_7 hg2 ⟨rfl, rfl⟩
def fX11_allWithin_b32 (x0 : Int32) (x1 : Int32) (x2 : Int32) (x3 : Int32)  (s0 : Int32) : Option (Int32) := gd (s0 == 0 || s0 == 1) ((some s0))
def fX11_allWithin_b31 (x0 : Int32) (x1 : Int32) (x2 : Int32) (x3 : Int32)   : Option (Int32) := (fX11_allWithin_b32 x0 x1 x2 x3  (0 : Int32))
def fX11_allWithin  (x0 : Int32) (x1 : Int32) (x2 : Int32) (x3 : Int32) : Option (Int32) := Option.bind (fX11_within x0 (0 : Int32) x3) (fun v2 => (if v2 = (0 : Int32) then (fX11_allWithin_b31 x0 x1 x2 x3  ) else Option.bind (fX11_within x1 (0 : Int32) x3) (fun v4 => (if v4 = (0 : Int32) then (fX11_allWithin_b31 x0 x1 x2 x3  ) else Option.bind (fX11_within x2 (0 : Int32) x3) (fun v6 => (if v6 = (0 : Int32) then (fX11_allWithin_b31 x0 x1 x2 x3  ) else (fX11_allWithin_b32 x0 x1 x2 x3  (1 : Int32))))))))
abbrev rmX11_allWithin : Room := { frames := 1, cells := 0, slots := 0, locals := 22 }
set_option maxRecDepth 100000 in
set_option maxHeartbeats 4000000 in
theorem ctX11_allWithin (l : Launch) (G : zG)  (x0 : Int32) (x1 : Int32) (x2 : Int32) (x3 : Int32) {R : Int32} (hf : fX11_allWithin x0 x1 x2 x3 = some R) : zCt l yX11_allWithin wsX11_allWithin rmX11_allWithin G [] [.int x0, .int x1, .int x2, .int x3] (fun v w => v = some (.int (R)) ∧ w = []) := by
  refine zMkB (own := RX11) false (by decide) (by decide +kernel) rfl rfl (Nat.le_of_ble_eq_true rfl) ?_
  intro Z h hret
  have hB32 : ∀ (s0 : Int32), fX11_allWithin_b32 x0 x1 x2 x3  s0 = some R → Z 0 0 [] [] 32 [.int s0] := by
    intro s0 hf
    rw [fX11_allWithin_b32] at hf
    obtain ⟨hg1, hf⟩ := gd_some hf
    have hf := Option.some.inj hf
    subst hf
    exact hret _ _ _ _ dX11_allWithin_32 hg1 ⟨rfl, rfl⟩
  have hB31 : fX11_allWithin_b31 x0 x1 x2 x3   = some R → Z 0 0 [] [] 31 [] := by
    intro hf
    rw [fX11_allWithin_b31] at hf
    refine z_iconst h (v := (0 : Int32)) dX11_allWithin_31 (by decide) rfl ?_
    exact hB32 (0 : Int32) hf
  rw [fX11_allWithin] at hf
  show Z 0 0 _ [(0, .int x0), (1, .int x1), (2, .int x2), (3, .int x3)] 0 []
  refine z_iload_n h dX11_allWithin_0 0 rfl rfl ?_
  refine z_iconst h (v := (0 : Int32)) dX11_allWithin_1 (by decide) rfl ?_
  refine z_iload_n h dX11_allWithin_2 3 rfl rfl ?_
  obtain ⟨v2, hv2, hf⟩ := bd_some hf
  refine z_callS h (np := 3) (st := []) (wr := []) [.int x0, .int (0 : Int32), .int x3] (ctX11_within l G x0 (0 : Int32) x3 hv2) gX11_allWithin_X11_within (by decide +kernel) rfl ⟨Nat.le_of_ble_eq_true rfl, Nat.le_of_ble_eq_true rfl⟩ ⟨Nat.le_refl _, Nat.le_refl _⟩ rfl rfl rfl [] [] rfl rfl rfl rfl (by decide) (Nat.le_of_ble_eq_true rfl) dX11_allWithin_3 rfl rfl (fun rv2 wv2 hrv2 => ?_)
  obtain ⟨rfl, rfl⟩ := hrv2
  refine z_perm h (w2 := []) (st := [.int v2]) [] rfl rfl ?_
  refine z_if_eq h (tgt := 31) dX11_allWithin_6 (by decide) rfl (fun c3 => ?_) (fun c3 => ?_)
  · have hf := ite_t hf c3
    refine z_locs h (lv2 := []) [] rfl ?_
    exact hB31  hf
  have hf := ite_f hf c3
  refine z_iload_n h dX11_allWithin_9 1 rfl rfl ?_
  refine z_iconst h (v := (0 : Int32)) dX11_allWithin_10 (by decide) rfl ?_
  refine z_iload_n h dX11_allWithin_11 3 rfl rfl ?_
  obtain ⟨v4, hv4, hf⟩ := bd_some hf
  refine z_callS h (np := 3) (st := []) (wr := []) [.int x1, .int (0 : Int32), .int x3] (ctX11_within l G x1 (0 : Int32) x3 hv4) gX11_allWithin_X11_within (by decide +kernel) rfl ⟨Nat.le_of_ble_eq_true rfl, Nat.le_of_ble_eq_true rfl⟩ ⟨Nat.le_refl _, Nat.le_refl _⟩ rfl rfl rfl [] [] rfl rfl rfl rfl (by decide) (Nat.le_of_ble_eq_true rfl) dX11_allWithin_12 rfl rfl (fun rv4 wv4 hrv4 => ?_)
  obtain ⟨rfl, rfl⟩ := hrv4
  refine z_perm h (w2 := []) (st := [.int v4]) [] rfl rfl ?_
  refine z_if_eq h (tgt := 31) dX11_allWithin_15 (by decide) rfl (fun c5 => ?_) (fun c5 => ?_)
  · have hf := ite_t hf c5
    refine z_locs h (lv2 := []) [] rfl ?_
    exact hB31  hf
  have hf := ite_f hf c5
  refine z_iload_n h dX11_allWithin_18 2 rfl rfl ?_
  refine z_iconst h (v := (0 : Int32)) dX11_allWithin_19 (by decide) rfl ?_
  refine z_iload_n h dX11_allWithin_20 3 rfl rfl ?_
  obtain ⟨v6, hv6, hf⟩ := bd_some hf
  refine z_callS h (np := 3) (st := []) (wr := []) [.int x2, .int (0 : Int32), .int x3] (ctX11_within l G x2 (0 : Int32) x3 hv6) gX11_allWithin_X11_within (by decide +kernel) rfl ⟨Nat.le_of_ble_eq_true rfl, Nat.le_of_ble_eq_true rfl⟩ ⟨Nat.le_refl _, Nat.le_refl _⟩ rfl rfl rfl [] [] rfl rfl rfl rfl (by decide) (Nat.le_of_ble_eq_true rfl) dX11_allWithin_21 rfl rfl (fun rv6 wv6 hrv6 => ?_)
  obtain ⟨rfl, rfl⟩ := hrv6
  refine z_perm h (w2 := []) (st := [.int v6]) [] rfl rfl ?_
  refine z_if_eq h (tgt := 31) dX11_allWithin_24 (by decide) rfl (fun c7 => ?_) (fun c7 => ?_)
  · have hf := ite_t hf c7
    refine z_locs h (lv2 := []) [] rfl ?_
    exact hB31  hf
  have hf := ite_f hf c7
  refine z_iconst h (v := (1 : Int32)) dX11_allWithin_27 (by decide) rfl ?_
  refine z_goto h (tgt := 32) dX11_allWithin_28 (by decide) ?_
  refine z_locs h (lv2 := []) [] rfl ?_
  exact hB32 (1 : Int32) hf
def fX11_commonDivisor_b34 (x0 : Int32) (x1 : Int32)  (x2 : Int32) : Option (Int32) := (some x2)
def fX11_commonDivisor_L7 (x0 : Int32) (x1 : Int32)  : Nat → Int32 → Int32 → Int32 → Option (Int32)
  | 0, _, _, _ => none
  | n + 1, x2, x3, x4 => (if (64 : Int32) ≤ x4 then (fX11_commonDivisor_b34 x0 x1  x2) else (if x3 = (0 : Int32) then (fX11_commonDivisor_b34 x0 x1  x2) else gd (x3 != 0) (((fX11_commonDivisor_L7 x0 x1  n) x3 (irm x2 x3) (x4 + (1 : Int32))))))
def fX11_commonDivisor  (x0 : Int32) (x1 : Int32) : Option (Int32) := (fX11_commonDivisor_L7 x0 x1  zF x0 x1 (0 : Int32))
abbrev rmX11_commonDivisor : Room := { frames := 0, cells := 0, slots := 0, locals := 0 }
set_option maxRecDepth 100000 in
set_option maxHeartbeats 4000000 in
theorem ctX11_commonDivisor (l : Launch) (G : zG)  (x0 : Int32) (x1 : Int32) {R : Int32} (hf : fX11_commonDivisor x0 x1 = some R) : zCt l yX11_commonDivisor wsX11_commonDivisor rmX11_commonDivisor G [] [.int x0, .int x1] (fun v w => v = some (.int (R)) ∧ w = []) := by
  refine zMkI (own := RX11) false (by decide) (by decide +kernel) rfl rfl (Nat.le_of_ble_eq_true rfl) ?_
  intro Z h hret
  have hB34 : ∀ (x2 : Int32), fX11_commonDivisor_b34 x0 x1  x2 = some R → Z 0 0 [] [(2, .int x2)] 34 [] := by
    intro x2 hf
    rw [fX11_commonDivisor_b34] at hf
    refine z_iload_n h dX11_commonDivisor_34 0 rfl rfl ?_
    have hf := Option.some.inj hf
    subst hf
    exact hret _ _ _ _ dX11_commonDivisor_35 ⟨rfl, rfl⟩
  have hL7 : ∀ (n7 : Nat) (x2 : Int32) (x3 : Int32) (x4 : Int32), fX11_commonDivisor_L7 x0 x1  n7 x2 x3 x4 = some R → Z 0 0 [] [(2, .int x2), (3, .int x3), (4, .int x4)] 7 [] := by
    intro n7
    induction n7 with
    | zero =>
      intro x2 x3 x4 hf
      rw [fX11_commonDivisor_L7] at hf
      cases hf
    | succ n7 ih7 =>
      intro x2 x3 x4 hf
      rw [fX11_commonDivisor_L7] at hf
      refine z_iload h dX11_commonDivisor_7 2 rfl rfl ?_
      refine z_bipush h (v := (64 : Int32)) dX11_commonDivisor_9 (by decide) rfl ?_
      refine z_icmp_ge h (tgt := 34) dX11_commonDivisor_11 (by decide) rfl (fun c1 => ?_) (fun c1 => ?_)
      · have hf := ite_t hf c1
        refine z_locs h (lv2 := [(2, .int x2)]) [0] rfl ?_
        exact hB34 x2 hf
      have hf := ite_f hf c1
      refine z_iload_n h dX11_commonDivisor_14 1 rfl rfl ?_
      refine z_if_eq h (tgt := 34) dX11_commonDivisor_15 (by decide) rfl (fun c2 => ?_) (fun c2 => ?_)
      · have hf := ite_t hf c2
        refine z_locs h (lv2 := [(2, .int x2)]) [0] rfl ?_
        exact hB34 x2 hf
      have hf := ite_f hf c2
      refine z_iload_n h dX11_commonDivisor_18 0 rfl rfl ?_
      refine z_iload_n h dX11_commonDivisor_19 1 rfl rfl ?_
      obtain ⟨hg3, hf⟩ := gd_some hf
      refine z_irem h dX11_commonDivisor_20 (nz_ne hg3) rfl ?_
      refine z_istore h (lv2 := [(5, .int (irm x2 x3)), (2, .int x2), (3, .int x3), (4, .int x4)]) dX11_commonDivisor_21 (by decide) rfl rfl ?_
      refine z_iload_n h dX11_commonDivisor_23 2 rfl rfl ?_
      refine z_istore_n h (lv2 := [(2, .int x3), (5, .int (irm x2 x3)), (3, .int x3), (4, .int x4)]) dX11_commonDivisor_24 (by decide) rfl rfl ?_
      refine z_iload h dX11_commonDivisor_25 1 rfl rfl ?_
      refine z_istore_n h (lv2 := [(3, .int (irm x2 x3)), (2, .int x3), (5, .int (irm x2 x3)), (4, .int x4)]) dX11_commonDivisor_27 (by decide) rfl rfl ?_
      refine z_iinc h (v := (x4 + (1 : Int32))) (lv2 := [(4, .int (x4 + (1 : Int32))), (3, .int (irm x2 x3)), (2, .int x3), (5, .int (irm x2 x3))]) (j := 3) dX11_commonDivisor_28 rfl rfl (by decide) rfl rfl ?_
      refine z_goto h (tgt := 7) dX11_commonDivisor_31 (by decide) ?_
      refine z_locs h (lv2 := [(2, .int x3), (3, .int (irm x2 x3)), (4, .int (x4 + (1 : Int32)))]) [2, 1, 0] rfl ?_
      exact ih7 x3 (irm x2 x3) (x4 + (1 : Int32)) hf
  rw [fX11_commonDivisor] at hf
  show Z 0 0 _ [(0, .int x0), (1, .int x1)] 0 []
  refine z_iload_n h dX11_commonDivisor_0 0 rfl rfl ?_
  refine z_istore_n h (lv2 := [(2, .int x0), (0, .int x0), (1, .int x1)]) dX11_commonDivisor_1 (by decide) rfl rfl ?_
  refine z_iload_n h dX11_commonDivisor_2 2 rfl rfl ?_
  refine z_istore_n h (lv2 := [(3, .int x1), (2, .int x0), (0, .int x0), (1, .int x1)]) dX11_commonDivisor_3 (by decide) rfl rfl ?_
  refine z_iconst h (v := (0 : Int32)) dX11_commonDivisor_4 (by decide) rfl ?_
  refine z_istore h (lv2 := [(4, .int (0 : Int32)), (3, .int x1), (2, .int x0), (0, .int x0), (1, .int x1)]) dX11_commonDivisor_5 (by decide) rfl rfl ?_
  refine z_locs h (lv2 := [(2, .int x0), (3, .int x1), (4, .int (0 : Int32))]) [2, 1, 0] rfl ?_
  exact hL7 zF x0 x1 (0 : Int32) hf
