def fX10_put (c0_cell : Int32) (c0_way : Int32) (c0_force : Int32) (x1 : Int32) (x2 : Int32) (x3 : Int32) : Option (Int32 × Int32 × Int32) := (some (x1, x2, x3))
abbrev rmX10_put : Room := { frames := 0, cells := 0, slots := 0, locals := 0 }
set_option maxRecDepth 100000 in
set_option maxHeartbeats 4000000 in
theorem ctX10_put (l : Launch) (G : zG) (a0 : Nat) (c0_cell : Int32) (c0_way : Int32) (c0_force : Int32) (x1 : Int32) (x2 : Int32) (x3 : Int32) {R : Int32 × Int32 × Int32} (hf : fX10_put c0_cell c0_way c0_force x1 x2 x3 = some R) : zCt l yX10_put wsX10_put rmX10_put G [(a0, .inr (10, [.int c0_cell, .int c0_way, .int c0_force]))] [.ref a0, .int x1, .int x2, .int x3] (fun v w => v = none ∧ w = [(a0, .inr (10, [.int (R.1), .int (R.2.1), .int (R.2.2)]))]) := by
  refine zMkV (own := RX10) false (by decide) (by decide +kernel) rfl rfl (by decide) ?_
  intro Z h hret
  rw [fX10_put] at hf
  show Z 0 0 _ [(0, .ref a0), (1, .int x1), (2, .int x2), (3, .int x3)] 0 []
  refine z_aload_n h dX10_put_0 0 rfl rfl ?_
  refine z_iload_n h dX10_put_1 1 rfl rfl ?_
  refine z_put h (C := RX10) (T := TX10) (N := 3) 0 rfl rfl 0 (by decide) (by decide +kernel) (by decide +kernel) tyX10 tyX10_ok nmX10 (w2 := [(a0, .inr (10, [.int x1, .int c0_way, .int c0_force]))]) rfl rfl rfl (by decide) rfl dX10_put_2 rfl ?_
  refine z_aload_n h dX10_put_5 0 rfl rfl ?_
  refine z_iload_n h dX10_put_6 2 rfl rfl ?_
  refine z_put h (C := RX10) (T := TX10) (N := 3) 0 rfl rfl 1 (by decide) (by decide +kernel) (by decide +kernel) tyX10 tyX10_ok nmX10 (w2 := [(a0, .inr (10, [.int x1, .int x2, .int c0_force]))]) rfl rfl rfl (by decide) rfl dX10_put_7 rfl ?_
  refine z_aload_n h dX10_put_10 0 rfl rfl ?_
  refine z_iload_n h dX10_put_11 3 rfl rfl ?_
  refine z_put h (C := RX10) (T := TX10) (N := 3) 0 rfl rfl 2 (by decide) (by decide +kernel) (by decide +kernel) tyX10 tyX10_ok nmX10 (w2 := [(a0, .inr (10, [.int x1, .int x2, .int x3]))]) rfl rfl rfl (by decide) rfl dX10_put_12 rfl ?_
  have hf := Option.some.inj hf
  subst hf
  exact hret _ _ _ dX10_put_15 ⟨rfl, rfl⟩
def fX10_become (c0_cell : Int32) (c0_way : Int32) (c0_force : Int32) (c1_cell : Int32) (c1_way : Int32) (c1_force : Int32)  : Option (Int32 × Int32 × Int32) := Option.bind (fX10_put c0_cell c0_way c0_force c1_cell c1_way c1_force) (fun v1 => (some (v1.1, v1.2.1, v1.2.2)))
abbrev rmX10_become : Room := { frames := 1, cells := 0, slots := 0, locals := 23 }
set_option maxRecDepth 100000 in
set_option maxHeartbeats 4000000 in
theorem ctX10_become (l : Launch) (G : zG) (a0 a1 : Nat) (c0_cell : Int32) (c0_way : Int32) (c0_force : Int32) (c1_cell : Int32) (c1_way : Int32) (c1_force : Int32)  {R : Int32 × Int32 × Int32} (hf : fX10_become c0_cell c0_way c0_force c1_cell c1_way c1_force = some R) : zCt l yX10_become wsX10_become rmX10_become G [(a0, .inr (10, [.int c0_cell, .int c0_way, .int c0_force])), (a1, .inr (10, [.int c1_cell, .int c1_way, .int c1_force]))] [.ref a0, .ref a1] (fun v w => v = none ∧ w = [(a0, .inr (10, [.int (R.1), .int (R.2.1), .int (R.2.2)])), (a1, .inr (10, [.int c1_cell, .int c1_way, .int c1_force]))]) := by
  refine zMkV (own := RX10) false (by decide) (by decide +kernel) rfl rfl (by decide) ?_
  intro Z h hret
  rw [fX10_become] at hf
  show Z 0 0 _ [(0, .ref a0), (1, .ref a1)] 0 []
  refine z_aload_n h dX10_become_0 0 rfl rfl ?_
  refine z_aload_n h dX10_become_1 1 rfl rfl ?_
  refine z_get h (C := RX10) (T := TX10) (N := 3) (v := .int c1_cell) 1 rfl rfl 0 (by decide) (by decide +kernel) (by decide +kernel) rfl dX10_become_2 rfl ?_
  refine z_aload_n h dX10_become_5 1 rfl rfl ?_
  refine z_get h (C := RX10) (T := TX10) (N := 3) (v := .int c1_way) 1 rfl rfl 1 (by decide) (by decide +kernel) (by decide +kernel) rfl dX10_become_6 rfl ?_
  refine z_aload_n h dX10_become_9 1 rfl rfl ?_
  refine z_get h (C := RX10) (T := TX10) (N := 3) (v := .int c1_force) 1 rfl rfl 2 (by decide) (by decide +kernel) (by decide +kernel) rfl dX10_become_10 rfl ?_
  obtain ⟨v1, hv1, hf⟩ := bd_some hf
  refine z_callV h (st := []) (wr := [(a1, .inr (10, [.int c1_cell, .int c1_way, .int c1_force]))]) [.int c1_cell, .int c1_way, .int c1_force] (ctX10_put l G a0 c0_cell c0_way c0_force c1_cell c1_way c1_force hv1) gX10_become_X10_put (by decide +kernel) 0 rfl rfl rfl ⟨Nat.le_of_ble_eq_true rfl, Nat.le_of_ble_eq_true rfl⟩ ⟨Nat.le_refl _, Nat.le_refl _⟩ rfl rfl rfl [0] [1] rfl rfl rfl rfl (by decide) (Nat.le_of_ble_eq_true rfl) dX10_become_13 rfl rfl (fun rv1 wv1 hrv1 => ?_)
  obtain ⟨rfl, rfl⟩ := hrv1
  refine z_perm h (w2 := [(a0, .inr (10, [.int v1.1, .int v1.2.1, .int v1.2.2])), (a1, .inr (10, [.int c1_cell, .int c1_way, .int c1_force]))]) (st := []) [1, 0] rfl rfl ?_
  have hf := Option.some.inj hf
  subst hf
  exact hret _ _ _ dX10_become_16 ⟨rfl, rfl⟩
def fX10_atEnd_b25 (c0_cell : Int32) (c0_way : Int32)  (s0 : Int32) : Option (Int32) := gd (s0 == 0 || s0 == 1) ((some s0))
def fX10_atEnd_b17 (c0_cell : Int32) (c0_way : Int32)  (s0 : Int32) (s1 : Int32) : Option (Int32) := (if s0 = s1 then (fX10_atEnd_b25 c0_cell c0_way  (1 : Int32)) else (fX10_atEnd_b25 c0_cell c0_way  (0 : Int32)))
def fX10_atEnd (c0_cell : Int32) (c0_way : Int32)  : Option (Int32) := (if c0_way = (0 : Int32) then (fX10_atEnd_b17 c0_cell c0_way  c0_cell (11 : Int32)) else (fX10_atEnd_b17 c0_cell c0_way  c0_cell (0 : Int32)))
abbrev rmX10_atEnd : Room := { frames := 0, cells := 0, slots := 0, locals := 0 }
set_option maxRecDepth 100000 in
set_option maxHeartbeats 4000000 in
theorem ctX10_atEnd (l : Launch) (G : zG) (a0 : Nat) (c0_cell : Int32) (c0_way : Int32) (c0_force : Int32)  {R : Int32} (hf : fX10_atEnd c0_cell c0_way = some R) : zCt l yX10_atEnd wsX10_atEnd rmX10_atEnd G [(a0, .inr (10, [.int c0_cell, .int c0_way, .int c0_force]))] [.ref a0] (fun v w => v = some (.int (R)) ∧ w = [(a0, .inr (10, [.int c0_cell, .int c0_way, .int c0_force]))]) := by
  refine zMkB (own := RX10) false (by decide) (by decide +kernel) rfl rfl (by decide) ?_
  intro Z h hret
  have hB25 : ∀ (s0 : Int32), fX10_atEnd_b25 c0_cell c0_way  s0 = some R → Z 0 0 [(a0, .inr (10, [.int c0_cell, .int c0_way, .int c0_force]))] [] 25 [.int s0] := by
    intro s0 hf
    rw [fX10_atEnd_b25] at hf
    obtain ⟨hg1, hf⟩ := gd_some hf
    have hf := Option.some.inj hf
    subst hf
    exact hret _ _ _ _ dX10_atEnd_25 hg1 ⟨rfl, rfl⟩
  have hB17 : ∀ (s0 : Int32) (s1 : Int32), fX10_atEnd_b17 c0_cell c0_way  s0 s1 = some R → Z 0 0 [(a0, .inr (10, [.int c0_cell, .int c0_way, .int c0_force]))] [] 17 [.int s1, .int s0] := by
    intro s0 s1 hf
    rw [fX10_atEnd_b17] at hf
    refine z_icmp_ne h (tgt := 24) dX10_atEnd_17 (by decide) rfl (fun c2 => ?_) (fun c2 => ?_)
    · have hf := ite_f hf c2
      refine z_iconst h (v := (0 : Int32)) dX10_atEnd_24 (by decide) rfl ?_
      exact hB25 (0 : Int32) hf
    have hf := ite_t hf c2
    refine z_iconst h (v := (1 : Int32)) dX10_atEnd_20 (by decide) rfl ?_
    refine z_goto h (tgt := 25) dX10_atEnd_21 (by decide) ?_
    exact hB25 (1 : Int32) hf
  rw [fX10_atEnd] at hf
  show Z 0 0 _ [(0, .ref a0)] 0 []
  refine z_aload_n h dX10_atEnd_0 0 rfl rfl ?_
  refine z_get h (C := RX10) (T := TX10) (N := 3) (v := .int c0_cell) 0 rfl rfl 0 (by decide) (by decide +kernel) (by decide +kernel) rfl dX10_atEnd_1 rfl ?_
  refine z_aload_n h dX10_atEnd_4 0 rfl rfl ?_
  refine z_get h (C := RX10) (T := TX10) (N := 3) (v := .int c0_way) 0 rfl rfl 1 (by decide) (by decide +kernel) (by decide +kernel) rfl dX10_atEnd_5 rfl ?_
  refine z_if_ne h (tgt := 16) dX10_atEnd_8 (by decide) rfl (fun c3 => ?_) (fun c3 => ?_)
  · have hf := ite_f hf c3
    refine z_iconst h (v := (0 : Int32)) dX10_atEnd_16 (by decide) rfl ?_
    refine z_locs h (lv2 := []) [] rfl ?_
    exact hB17 c0_cell (0 : Int32) hf
  have hf := ite_t hf c3
  refine z_bipush h (v := (11 : Int32)) dX10_atEnd_11 (by decide) rfl ?_
  refine z_goto h (tgt := 17) dX10_atEnd_13 (by decide) ?_
  refine z_locs h (lv2 := []) [] rfl ?_
  exact hB17 c0_cell (11 : Int32) hf
def fX10_nextCell_b22 (c0_cell : Int32) (c0_way : Int32)  (s0 : Int32) : Option (Int32) := (some s0)
def fX10_nextCell (c0_cell : Int32) (c0_way : Int32)  : Option (Int32) := (if c0_way = (0 : Int32) then (fX10_nextCell_b22 c0_cell c0_way  (c0_cell + (1 : Int32))) else (fX10_nextCell_b22 c0_cell c0_way  (c0_cell - (1 : Int32))))
abbrev rmX10_nextCell : Room := { frames := 0, cells := 0, slots := 0, locals := 0 }
set_option maxRecDepth 100000 in
set_option maxHeartbeats 4000000 in
theorem ctX10_nextCell (l : Launch) (G : zG) (a0 : Nat) (c0_cell : Int32) (c0_way : Int32) (c0_force : Int32)  {R : Int32} (hf : fX10_nextCell c0_cell c0_way = some R) : zCt l yX10_nextCell wsX10_nextCell rmX10_nextCell G [(a0, .inr (10, [.int c0_cell, .int c0_way, .int c0_force]))] [.ref a0] (fun v w => v = some (.int (R)) ∧ w = [(a0, .inr (10, [.int c0_cell, .int c0_way, .int c0_force]))]) := by
  refine zMkI (own := RX10) false (by decide) (by decide +kernel) rfl rfl (by decide) ?_
  intro Z h hret
  have hB22 : ∀ (s0 : Int32), fX10_nextCell_b22 c0_cell c0_way  s0 = some R → Z 0 0 [(a0, .inr (10, [.int c0_cell, .int c0_way, .int c0_force]))] [] 22 [.int s0] := by
    intro s0 hf
    rw [fX10_nextCell_b22] at hf
    have hf := Option.some.inj hf
    subst hf
    exact hret _ _ _ _ dX10_nextCell_22 ⟨rfl, rfl⟩
  rw [fX10_nextCell] at hf
  show Z 0 0 _ [(0, .ref a0)] 0 []
  refine z_aload_n h dX10_nextCell_0 0 rfl rfl ?_
  refine z_get h (C := RX10) (T := TX10) (N := 3) (v := .int c0_way) 0 rfl rfl 1 (by decide) (by decide +kernel) (by decide +kernel) rfl dX10_nextCell_1 rfl ?_
  refine z_if_ne h (tgt := 16) dX10_nextCell_4 (by decide) rfl (fun c1 => ?_) (fun c1 => ?_)
  · have hf := ite_f hf c1
    refine z_aload_n h dX10_nextCell_16 0 rfl rfl ?_
    refine z_get h (C := RX10) (T := TX10) (N := 3) (v := .int c0_cell) 0 rfl rfl 0 (by decide) (by decide +kernel) (by decide +kernel) rfl dX10_nextCell_17 rfl ?_
    refine z_iconst h (v := (1 : Int32)) dX10_nextCell_20 (by decide) rfl ?_
    refine z_isub h dX10_nextCell_21 rfl ?_
    refine z_locs h (lv2 := []) [] rfl ?_
    exact hB22 (c0_cell - (1 : Int32)) hf
  have hf := ite_t hf c1
  refine z_aload_n h dX10_nextCell_7 0 rfl rfl ?_
  refine z_get h (C := RX10) (T := TX10) (N := 3) (v := .int c0_cell) 0 rfl rfl 0 (by decide) (by decide +kernel) (by decide +kernel) rfl dX10_nextCell_8 rfl ?_
  refine z_iconst h (v := (1 : Int32)) dX10_nextCell_11 (by decide) rfl ?_
  refine z_iadd h dX10_nextCell_12 rfl ?_
  refine z_goto h (tgt := 22) dX10_nextCell_13 (by decide) ?_
  refine z_locs h (lv2 := []) [] rfl ?_
  exact hB22 (c0_cell + (1 : Int32)) hf
def fX10_step_b23   (c0_cell : Int32) (c0_way : Int32) : Option (Int32 × Int32) := Option.bind (fX10_nextCell c0_cell c0_way) (fun v1 => (some (v1, c0_way)))
def fX10_step_b20   (c0_cell : Int32) (c0_way : Int32) (s1 : Int32) : Option (Int32 × Int32) := (fX10_step_b23   c0_cell s1)
def fX10_step (c0_cell : Int32) (c0_way : Int32)  : Option (Int32 × Int32) := Option.bind (fX10_atEnd c0_cell c0_way) (fun v2 => (if v2 = (0 : Int32) then (fX10_step_b23   c0_cell c0_way) else (if c0_way = (0 : Int32) then (fX10_step_b20   c0_cell c0_way (1 : Int32)) else (fX10_step_b20   c0_cell c0_way (0 : Int32)))))
abbrev rmX10_step : Room := { frames := 1, cells := 0, slots := 0, locals := 20 }
set_option maxRecDepth 100000 in
set_option maxHeartbeats 4000000 in
theorem ctX10_step (l : Launch) (G : zG) (a0 : Nat) (c0_cell : Int32) (c0_way : Int32) (c0_force : Int32)  {R : Int32 × Int32} (hf : fX10_step c0_cell c0_way = some R) : zCt l yX10_step wsX10_step rmX10_step G [(a0, .inr (10, [.int c0_cell, .int c0_way, .int c0_force]))] [.ref a0] (fun v w => v = none ∧ w = [(a0, .inr (10, [.int (R.1), .int (R.2), .int c0_force]))]) := by
  refine zMkV (own := RX10) false (by decide) (by decide +kernel) rfl rfl (by decide) ?_
  intro Z h hret
  have hB23 : ∀ (c0_cell : Int32) (c0_way : Int32), fX10_step_b23   c0_cell c0_way = some R → Z 0 0 [(a0, .inr (10, [.int c0_cell, .int c0_way, .int c0_force]))] [(0, .ref a0)] 23 [] := by
    intro c0_cell c0_way hf
    rw [fX10_step_b23] at hf
    refine z_aload_n h dX10_step_23 0 rfl rfl ?_
    refine z_aload_n h dX10_step_24 0 rfl rfl ?_
    obtain ⟨v1, hv1, hf⟩ := bd_some hf
    refine z_callV h (st := [.ref a0]) (wr := []) [] (ctX10_nextCell l G a0 c0_cell c0_way c0_force hv1) gX10_step_X10_nextCell (by decide +kernel) 0 rfl rfl rfl ⟨Nat.le_of_ble_eq_true rfl, Nat.le_of_ble_eq_true rfl⟩ ⟨Nat.le_refl _, Nat.le_refl _⟩ rfl rfl rfl [0] [] rfl rfl rfl rfl (by decide) (Nat.le_of_ble_eq_true rfl) dX10_step_25 rfl rfl (fun rv1 wv1 hrv1 => ?_)
    obtain ⟨rfl, rfl⟩ := hrv1
    refine z_perm h (w2 := [(a0, .inr (10, [.int c0_cell, .int c0_way, .int c0_force]))]) (st := [.int v1, .ref a0]) [0] rfl rfl ?_
    refine z_put h (C := RX10) (T := TX10) (N := 3) 0 rfl rfl 0 (by decide) (by decide +kernel) (by decide +kernel) tyX10 tyX10_ok nmX10 (w2 := [(a0, .inr (10, [.int v1, .int c0_way, .int c0_force]))]) rfl rfl rfl (by decide) rfl dX10_step_28 rfl ?_
    have hf := Option.some.inj hf
    subst hf
    exact hret _ _ _ dX10_step_31 ⟨rfl, rfl⟩
  have hB20 : ∀ (c0_cell : Int32) (c0_way : Int32) (s1 : Int32), fX10_step_b20   c0_cell c0_way s1 = some R → Z 0 0 [(a0, .inr (10, [.int c0_cell, .int c0_way, .int c0_force]))] [(0, .ref a0)] 20 [.int s1, .ref a0] := by
    intro c0_cell c0_way s1 hf
    rw [fX10_step_b20] at hf
    refine z_put h (C := RX10) (T := TX10) (N := 3) 0 rfl rfl 1 (by decide) (by decide +kernel) (by decide +kernel) tyX10 tyX10_ok nmX10 (w2 := [(a0, .inr (10, [.int c0_cell, .int s1, .int c0_force]))]) rfl rfl rfl (by decide) rfl dX10_step_20 rfl ?_
    exact hB23 c0_cell s1 hf
  rw [fX10_step] at hf
  show Z 0 0 _ [(0, .ref a0)] 0 []
  refine z_aload_n h dX10_step_0 0 rfl rfl ?_
  obtain ⟨v2, hv2, hf⟩ := bd_some hf
  refine z_callV h (st := []) (wr := []) [] (ctX10_atEnd l G a0 c0_cell c0_way c0_force hv2) gX10_step_X10_atEnd (by decide +kernel) 0 rfl rfl rfl ⟨Nat.le_of_ble_eq_true rfl, Nat.le_of_ble_eq_true rfl⟩ ⟨Nat.le_refl _, Nat.le_refl _⟩ rfl rfl rfl [0] [] rfl rfl rfl rfl (by decide) (Nat.le_of_ble_eq_true rfl) dX10_step_1 rfl rfl (fun rv2 wv2 hrv2 => ?_)
  obtain ⟨rfl, rfl⟩ := hrv2
  refine z_perm h (w2 := [(a0, .inr (10, [.int c0_cell, .int c0_way, .int c0_force]))]) (st := [.int v2]) [0] rfl rfl ?_
  refine z_if_eq h (tgt := 23) dX10_step_4 (by decide) rfl (fun c3 => ?_) (fun c3 => ?_)
  · have hf := ite_t hf c3
    exact hB23 c0_cell c0_way hf
  have hf := ite_f hf c3
  refine z_aload_n h dX10_step_7 0 rfl rfl ?_
  refine z_aload_n h dX10_step_8 0 rfl rfl ?_
  refine z_get h (C := RX10) (T := TX10) (N := 3) (v := .int c0_way) 0 rfl rfl 1 (by decide) (by decide +kernel) (by decide +kernel) rfl dX10_step_9 rfl ?_
  refine z_if_ne h (tgt := 19) dX10_step_12 (by decide) rfl (fun c4 => ?_) (fun c4 => ?_)
  · have hf := ite_f hf c4
    refine z_iconst h (v := (0 : Int32)) dX10_step_19 (by decide) rfl ?_
    exact hB20 c0_cell c0_way (0 : Int32) hf
  have hf := ite_t hf c4
  refine z_iconst h (v := (1 : Int32)) dX10_step_15 (by decide) rfl ?_
  refine z_goto h (tgt := 20) dX10_step_16 (by decide) ?_
  exact hB20 c0_cell c0_way (1 : Int32) hf
def fX10_landing_b18 (c0_cell : Int32) (c0_way : Int32)  (s0 : Int32) : Option (Int32) := (some s0)
def fX10_landing (c0_cell : Int32) (c0_way : Int32)  : Option (Int32) := Option.bind (fX10_atEnd c0_cell c0_way) (fun v1 => (if v1 = (0 : Int32) then Option.bind (fX10_nextCell c0_cell c0_way) (fun v3 => (fX10_landing_b18 c0_cell c0_way  v3)) else (fX10_landing_b18 c0_cell c0_way  c0_cell)))
abbrev rmX10_landing : Room := { frames := 1, cells := 0, slots := 0, locals := 20 }
set_option maxRecDepth 100000 in
set_option maxHeartbeats 4000000 in
theorem ctX10_landing (l : Launch) (G : zG) (a0 : Nat) (c0_cell : Int32) (c0_way : Int32) (c0_force : Int32)  {R : Int32} (hf : fX10_landing c0_cell c0_way = some R) : zCt l yX10_landing wsX10_landing rmX10_landing G [(a0, .inr (10, [.int c0_cell, .int c0_way, .int c0_force]))] [.ref a0] (fun v w => v = some (.int (R)) ∧ w = [(a0, .inr (10, [.int c0_cell, .int c0_way, .int c0_force]))]) := by
  refine zMkI (own := RX10) false (by decide) (by decide +kernel) rfl rfl (by decide) ?_
  intro Z h hret
  have hB18 : ∀ (s0 : Int32), fX10_landing_b18 c0_cell c0_way  s0 = some R → Z 0 0 [(a0, .inr (10, [.int c0_cell, .int c0_way, .int c0_force]))] [] 18 [.int s0] := by
    intro s0 hf
    rw [fX10_landing_b18] at hf
    have hf := Option.some.inj hf
    subst hf
    exact hret _ _ _ _ dX10_landing_18 ⟨rfl, rfl⟩
  rw [fX10_landing] at hf
  show Z 0 0 _ [(0, .ref a0)] 0 []
  refine z_aload_n h dX10_landing_0 0 rfl rfl ?_
  obtain ⟨v1, hv1, hf⟩ := bd_some hf
  refine z_callV h (st := []) (wr := []) [] (ctX10_atEnd l G a0 c0_cell c0_way c0_force hv1) gX10_landing_X10_atEnd (by decide +kernel) 0 rfl rfl rfl ⟨Nat.le_of_ble_eq_true rfl, Nat.le_of_ble_eq_true rfl⟩ ⟨Nat.le_refl _, Nat.le_refl _⟩ rfl rfl rfl [0] [] rfl rfl rfl rfl (by decide) (Nat.le_of_ble_eq_true rfl) dX10_landing_1 rfl rfl (fun rv1 wv1 hrv1 => ?_)
  obtain ⟨rfl, rfl⟩ := hrv1
  refine z_perm h (w2 := [(a0, .inr (10, [.int c0_cell, .int c0_way, .int c0_force]))]) (st := [.int v1]) [0] rfl rfl ?_
  refine z_if_eq h (tgt := 14) dX10_landing_4 (by decide) rfl (fun c2 => ?_) (fun c2 => ?_)
  · have hf := ite_t hf c2
    refine z_aload_n h dX10_landing_14 0 rfl rfl ?_
    obtain ⟨v3, hv3, hf⟩ := bd_some hf
    refine z_callV h (st := []) (wr := []) [] (ctX10_nextCell l G a0 c0_cell c0_way c0_force hv3) gX10_landing_X10_nextCell (by decide +kernel) 0 rfl rfl rfl ⟨Nat.le_of_ble_eq_true rfl, Nat.le_of_ble_eq_true rfl⟩ ⟨Nat.le_refl _, Nat.le_refl _⟩ rfl rfl rfl [0] [] rfl rfl rfl rfl (by decide) (Nat.le_of_ble_eq_true rfl) dX10_landing_15 rfl rfl (fun rv3 wv3 hrv3 => ?_)
    obtain ⟨rfl, rfl⟩ := hrv3
    refine z_perm h (w2 := [(a0, .inr (10, [.int c0_cell, .int c0_way, .int c0_force]))]) (st := [.int v3]) [0] rfl rfl ?_
    refine z_locs h (lv2 := []) [] rfl ?_
    exact hB18 v3 hf
  have hf := ite_f hf c2
  refine z_aload_n h dX10_landing_7 0 rfl rfl ?_
  refine z_get h (C := RX10) (T := TX10) (N := 3) (v := .int c0_cell) 0 rfl rfl 0 (by decide) (by decide +kernel) (by decide +kernel) rfl dX10_landing_8 rfl ?_
  refine z_goto h (tgt := 18) dX10_landing_11 (by decide) ?_
  refine z_locs h (lv2 := []) [] rfl ?_
  exact hB18 c0_cell hf
def fX10_blowAnHour_L4 (c0_force : Int32)  : Nat → Int32 → Int32 → Int32 → Int32 → Option (Int32 × Int32 × Int32)
  | 0, _, _, _, _ => none
  | n + 1, c0_cell, c0_way, x1, x2 => (if c0_force ≤ x2 then (some (x1, c0_cell, c0_way)) else Option.bind (fX10_step c0_cell c0_way) (fun v2 => ((fX10_blowAnHour_L4 c0_force  n) v2.1 v2.2 (x1 ||| (sl (1 : Int32) v2.1)) (x2 + (1 : Int32)))))
def fX10_blowAnHour (c0_cell : Int32) (c0_way : Int32) (c0_force : Int32)  : Option (Int32 × Int32 × Int32) := (fX10_blowAnHour_L4 c0_force  zF c0_cell c0_way (0 : Int32) (0 : Int32))
abbrev rmX10_blowAnHour : Room := { frames := 2, cells := 0, slots := 0, locals := 40 }
set_option maxRecDepth 100000 in
set_option maxHeartbeats 4000000 in
theorem ctX10_blowAnHour (l : Launch) (G : zG) (a0 : Nat) (c0_cell : Int32) (c0_way : Int32) (c0_force : Int32)  {R : Int32 × Int32 × Int32} (hf : fX10_blowAnHour c0_cell c0_way c0_force = some R) : zCt l yX10_blowAnHour wsX10_blowAnHour rmX10_blowAnHour G [(a0, .inr (10, [.int c0_cell, .int c0_way, .int c0_force]))] [.ref a0] (fun v w => v = some (.int (R.1)) ∧ w = [(a0, .inr (10, [.int (R.2.1), .int (R.2.2), .int c0_force]))]) := by
  refine zMkI (own := RX10) false (by decide) (by decide +kernel) rfl rfl (by decide) ?_
  intro Z h hret
  have hL4 : ∀ (n4 : Nat) (c0_cell : Int32) (c0_way : Int32) (x1 : Int32) (x2 : Int32), fX10_blowAnHour_L4 c0_force  n4 c0_cell c0_way x1 x2 = some R → Z 0 0 [(a0, .inr (10, [.int c0_cell, .int c0_way, .int c0_force]))] [(0, .ref a0), (1, .int x1), (2, .int x2)] 4 [] := by
    intro n4
    induction n4 with
    | zero =>
      intro c0_cell c0_way x1 x2 hf
      rw [fX10_blowAnHour_L4] at hf
      cases hf
    | succ n4 ih4 =>
      intro c0_cell c0_way x1 x2 hf
      rw [fX10_blowAnHour_L4] at hf
      refine z_iload_n h dX10_blowAnHour_4 2 rfl rfl ?_
      refine z_aload_n h dX10_blowAnHour_5 0 rfl rfl ?_
      refine z_get h (C := RX10) (T := TX10) (N := 3) (v := .int c0_force) 0 rfl rfl 2 (by decide) (by decide +kernel) (by decide +kernel) rfl dX10_blowAnHour_6 rfl ?_
      refine z_icmp_ge h (tgt := 31) dX10_blowAnHour_9 (by decide) rfl (fun c1 => ?_) (fun c1 => ?_)
      · have hf := ite_t hf c1
        refine z_iload_n h dX10_blowAnHour_31 1 rfl rfl ?_
        have hf := Option.some.inj hf
        subst hf
        exact hret _ _ _ _ dX10_blowAnHour_32 ⟨rfl, rfl⟩
      have hf := ite_f hf c1
      refine z_aload_n h dX10_blowAnHour_12 0 rfl rfl ?_
      obtain ⟨v2, hv2, hf⟩ := bd_some hf
      refine z_callV h (st := []) (wr := []) [] (ctX10_step l G a0 c0_cell c0_way c0_force hv2) gX10_blowAnHour_X10_step (by decide +kernel) 0 rfl rfl rfl ⟨Nat.le_of_ble_eq_true rfl, Nat.le_of_ble_eq_true rfl⟩ ⟨Nat.le_refl _, Nat.le_refl _⟩ rfl rfl rfl [0] [] rfl rfl rfl rfl (by decide) (Nat.le_of_ble_eq_true rfl) dX10_blowAnHour_13 rfl rfl (fun rv2 wv2 hrv2 => ?_)
      obtain ⟨rfl, rfl⟩ := hrv2
      refine z_perm h (w2 := [(a0, .inr (10, [.int v2.1, .int v2.2, .int c0_force]))]) (st := []) [0] rfl rfl ?_
      refine z_iload_n h dX10_blowAnHour_16 1 rfl rfl ?_
      refine z_iconst h (v := (1 : Int32)) dX10_blowAnHour_17 (by decide) rfl ?_
      refine z_aload_n h dX10_blowAnHour_18 0 rfl rfl ?_
      refine z_get h (C := RX10) (T := TX10) (N := 3) (v := .int v2.1) 0 rfl rfl 0 (by decide) (by decide +kernel) (by decide +kernel) rfl dX10_blowAnHour_19 rfl ?_
      refine z_ishl h dX10_blowAnHour_22 rfl ?_
      refine z_ior h dX10_blowAnHour_23 rfl ?_
      refine z_istore_n h (lv2 := [(1, .int (x1 ||| (sl (1 : Int32) v2.1))), (0, .ref a0), (2, .int x2)]) dX10_blowAnHour_24 (by decide) rfl rfl ?_
      refine z_iinc h (v := (x2 + (1 : Int32))) (lv2 := [(2, .int (x2 + (1 : Int32))), (1, .int (x1 ||| (sl (1 : Int32) v2.1))), (0, .ref a0)]) (j := 2) dX10_blowAnHour_25 rfl rfl (by decide) rfl rfl ?_
      refine z_goto h (tgt := 4) dX10_blowAnHour_28 (by decide) ?_
      refine z_locs h (lv2 := [(0, .ref a0), (1, .int (x1 ||| (sl (1 : Int32) v2.1))), (2, .int (x2 + (1 : Int32)))]) [2, 1, 0] rfl ?_
      exact ih4 v2.1 v2.2 (x1 ||| (sl (1 : Int32) v2.1)) (x2 + (1 : Int32)) hf
  rw [fX10_blowAnHour] at hf
  show Z 0 0 _ [(0, .ref a0)] 0 []
  refine z_iconst h (v := (0 : Int32)) dX10_blowAnHour_0 (by decide) rfl ?_
  refine z_istore_n h (lv2 := [(1, .int (0 : Int32)), (0, .ref a0)]) dX10_blowAnHour_1 (by decide) rfl rfl ?_
  refine z_iconst h (v := (0 : Int32)) dX10_blowAnHour_2 (by decide) rfl ?_
  refine z_istore_n h (lv2 := [(2, .int (0 : Int32)), (1, .int (0 : Int32)), (0, .ref a0)]) dX10_blowAnHour_3 (by decide) rfl rfl ?_
  refine z_locs h (lv2 := [(0, .ref a0), (1, .int (0 : Int32)), (2, .int (0 : Int32))]) [2, 1, 0] rfl ?_
  exact hL4 zF c0_cell c0_way (0 : Int32) (0 : Int32) hf
