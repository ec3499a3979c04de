def fX8_goodsOf (c0_goods : Nat → Int32) (x1 : Int32) (x2 : Int32) : Option (Int32) := gd (inb ((x1 * (3 : Int32)) + x2) 18) ((some (c0_goods (((x1 * (3 : Int32)) + x2)).toNatClampNeg)))
abbrev rmX8_goodsOf : Room := { frames := 0, cells := 0, slots := 0, locals := 0 }
set_option maxRecDepth 100000 in
set_option maxHeartbeats 4000000 in
theorem ctX8_goodsOf (l : Launch) (G : zG) (a0 a0_air a0_cell a0_hours a0_owes a0_holds a0_lies a0_goods a0_liking : Nat) (c0_hour : Int32) (c0_day : Int32) (c0_goods : Nat → Int32) (x1 : Int32) (x2 : Int32) {R : Int32} (hf : fX8_goodsOf c0_goods x1 x2 = some R) : zCt l yX8_goodsOf wsX8_goodsOf rmX8_goodsOf G [(a0, .inr (8, [.ref a0_air, .ref a0_cell, .ref a0_hours, .ref a0_owes, .ref a0_holds, .ref a0_lies, .ref a0_goods, .ref a0_liking, .int c0_hour, .int c0_day])), (a0_goods, .inl (G.2.1, 18, .inl c0_goods))] [.ref a0, .int x1, .int x2] (fun v w => v = some (.int (R)) ∧ w = [(a0, .inr (8, [.ref a0_air, .ref a0_cell, .ref a0_hours, .ref a0_owes, .ref a0_holds, .ref a0_lies, .ref a0_goods, .ref a0_liking, .int c0_hour, .int c0_day])), (a0_goods, .inl (G.2.1, 18, .inl c0_goods))]) := by
  refine zMkI (own := RX8) false (by decide) (by decide +kernel) rfl rfl (Nat.le_of_ble_eq_true rfl) ?_
  intro Z h hret
  rw [fX8_goodsOf] at hf
  show Z 0 0 _ [(0, .ref a0), (1, .int x1), (2, .int x2)] 0 []
  refine z_aload_n h dX8_goodsOf_0 0 rfl rfl ?_
  refine z_get h (C := RX8) (T := TX8) (N := 10) (v := .ref a0_goods) 0 rfl rfl 6 (by decide) (by decide +kernel) (by decide +kernel) rfl dX8_goodsOf_1 rfl ?_
  refine z_iload_n h dX8_goodsOf_4 1 rfl rfl ?_
  refine z_iconst h (v := (3 : Int32)) dX8_goodsOf_5 (by decide) rfl ?_
  refine z_imul h dX8_goodsOf_6 rfl ?_
  refine z_iload_n h dX8_goodsOf_7 2 rfl rfl ?_
  refine z_iadd h dX8_goodsOf_8 rfl ?_
  obtain ⟨hg1, hf⟩ := gd_some hf
  refine z_iald h 1 rfl rfl hg1 dX8_goodsOf_9 rfl ?_
  have hf := Option.some.inj hf
  subst hf
  exact hret _ _ _ _ dX8_goodsOf_10 ⟨rfl, rfl⟩
def fX8_atPeace_b31 (c0_hour : Int32) (c0_hours : Nat → Int32) (c0_owes : Nat → Int32) (x1 : Int32)  (s0 : Int32) : Option (Int32) := gd (s0 == 0 || s0 == 1) ((some s0))
def fX8_atPeace_b30 (c0_hour : Int32) (c0_hours : Nat → Int32) (c0_owes : Nat → Int32) (x1 : Int32)   : Option (Int32) := (fX8_atPeace_b31 c0_hour c0_hours c0_owes x1  (0 : Int32))
def fX8_atPeace (c0_hour : Int32) (c0_hours : Nat → Int32) (c0_owes : Nat → Int32) (x1 : Int32) : Option (Int32) := gd (inb x1 6) (Option.bind (fX11_has (c0_hours (x1).toNatClampNeg) c0_hour) (fun v3 => (if v3 = (0 : Int32) then (fX8_atPeace_b30 c0_hour c0_hours c0_owes x1  ) else gd (inb x1 6) ((if (4 : Int32) ≤ (c0_owes (x1).toNatClampNeg) then (fX8_atPeace_b30 c0_hour c0_hours c0_owes x1  ) else (fX8_atPeace_b31 c0_hour c0_hours c0_owes x1  (1 : Int32)))))))
abbrev rmX8_atPeace : Room := { frames := 1, cells := 0, slots := 0, locals := 21 }
set_option maxRecDepth 100000 in
set_option maxHeartbeats 4000000 in
theorem ctX8_atPeace (l : Launch) (G : zG) (a0 a0_air a0_cell a0_hours a0_owes a0_holds a0_lies a0_goods a0_liking : Nat) (c0_hour : Int32) (c0_day : Int32) (c0_hours : Nat → Int32) (c0_owes : Nat → Int32) (x1 : Int32) {R : Int32} (hf : fX8_atPeace c0_hour c0_hours c0_owes x1 = some R) : zCt l yX8_atPeace wsX8_atPeace rmX8_atPeace G [(a0, .inr (8, [.ref a0_air, .ref a0_cell, .ref a0_hours, .ref a0_owes, .ref a0_holds, .ref a0_lies, .ref a0_goods, .ref a0_liking, .int c0_hour, .int c0_day])), (a0_hours, .inl (G.2.1, 6, .inl c0_hours)), (a0_owes, .inl (G.2.1, 6, .inl c0_owes))] [.ref a0, .int x1] (fun v w => v = some (.int (R)) ∧ w = [(a0, .inr (8, [.ref a0_air, .ref a0_cell, .ref a0_hours, .ref a0_owes, .ref a0_holds, .ref a0_lies, .ref a0_goods, .ref a0_liking, .int c0_hour, .int c0_day])), (a0_hours, .inl (G.2.1, 6, .inl c0_hours)), (a0_owes, .inl (G.2.1, 6, .inl c0_owes))]) := by
  refine zMkB (own := RX8) false (by decide) (by decide +kernel) rfl rfl (Nat.le_of_ble_eq_true rfl) ?_
  intro Z h hret
  have hB31 : ∀ (s0 : Int32), fX8_atPeace_b31 c0_hour c0_hours c0_owes x1  s0 = some R → Z 0 0 [(a0, .inr (8, [.ref a0_air, .ref a0_cell, .ref a0_hours, .ref a0_owes, .ref a0_holds, .ref a0_lies, .ref a0_goods, .ref a0_liking, .int c0_hour, .int c0_day])), (a0_hours, .inl (G.2.1, 6, .inl c0_hours)), (a0_owes, .inl (G.2.1, 6, .inl c0_owes))] [] 31 [.int s0] := by
    intro s0 hf
    rw [fX8_atPeace_b31] at hf
    obtain ⟨hg1, hf⟩ := gd_some hf
    have hf := Option.some.inj hf
    subst hf
    exact hret _ _ _ _ dX8_atPeace_31 hg1 ⟨rfl, rfl⟩
  have hB30 : fX8_atPeace_b30 c0_hour c0_hours c0_owes x1   = some R → Z 0 0 [(a0, .inr (8, [.ref a0_air, .ref a0_cell, .ref a0_hours, .ref a0_owes, .ref a0_holds, .ref a0_lies, .ref a0_goods, .ref a0_liking, .int c0_hour, .int c0_day])), (a0_hours, .inl (G.2.1, 6, .inl c0_hours)), (a0_owes, .inl (G.2.1, 6, .inl c0_owes))] [] 30 [] := by
    intro hf
    rw [fX8_atPeace_b30] at hf
    refine z_iconst h (v := (0 : Int32)) dX8_atPeace_30 (by decide) rfl ?_
    exact hB31 (0 : Int32) hf
  rw [fX8_atPeace] at hf
  show Z 0 0 _ [(0, .ref a0), (1, .int x1)] 0 []
  refine z_aload_n h dX8_atPeace_0 0 rfl rfl ?_
  refine z_get h (C := RX8) (T := TX8) (N := 10) (v := .ref a0_hours) 0 rfl rfl 2 (by decide) (by decide +kernel) (by decide +kernel) rfl dX8_atPeace_1 rfl ?_
  refine z_iload_n h dX8_atPeace_4 1 rfl rfl ?_
  obtain ⟨hg2, hf⟩ := gd_some hf
  refine z_iald h 1 rfl rfl hg2 dX8_atPeace_5 rfl ?_
  refine z_aload_n h dX8_atPeace_6 0 rfl rfl ?_
  refine z_get h (C := RX8) (T := TX8) (N := 10) (v := .int c0_hour) 0 rfl rfl 8 (by decide) (by decide +kernel) (by decide +kernel) rfl dX8_atPeace_7 rfl ?_
  obtain ⟨v3, hv3, hf⟩ := bd_some hf
  refine z_callSN h (np := 2) (st := []) (wr := [(a0, .inr (8, [.ref a0_air, .ref a0_cell, .ref a0_hours, .ref a0_owes, .ref a0_holds, .ref a0_lies, .ref a0_goods, .ref a0_liking, .int c0_hour, .int c0_day])), (a0_hours, .inl (G.2.1, 6, .inl c0_hours)), (a0_owes, .inl (G.2.1, 6, .inl c0_owes))]) [.int (c0_hours (x1).toNatClampNeg), .int c0_hour] (ctX11_has l G (c0_hours (x1).toNatClampNeg) c0_hour hv3) gX8_atPeace_X11_has_n77 (by decide +kernel) (by decide +kernel) (by decide +kernel) (by decide +kernel) rfl ⟨Nat.le_of_ble_eq_true rfl, Nat.le_of_ble_eq_true rfl⟩ ⟨Nat.le_refl _, Nat.le_refl _⟩ rfl rfl rfl [] [0, 1, 2] rfl rfl rfl rfl (by decide) (Nat.le_of_ble_eq_true rfl) dX8_atPeace_10 rfl rfl (fun rv3 wv3 hrv3 => ?_)
  obtain ⟨rfl, rfl⟩ := hrv3
  refine z_perm h (w2 := [(a0, .inr (8, [.ref a0_air, .ref a0_cell, .ref a0_hours, .ref a0_owes, .ref a0_holds, .ref a0_lies, .ref a0_goods, .ref a0_liking, .int c0_hour, .int c0_day])), (a0_hours, .inl (G.2.1, 6, .inl c0_hours)), (a0_owes, .inl (G.2.1, 6, .inl c0_owes))]) (st := [.int v3]) [0, 1, 2] rfl rfl ?_
  refine z_if_eq h (tgt := 30) dX8_atPeace_13 (by decide) rfl (fun c4 => ?_) (fun c4 => ?_)
  · have hf := ite_t hf c4
    refine z_locs h (lv2 := []) [] rfl ?_
    exact hB30  hf
  have hf := ite_f hf c4
  refine z_aload_n h dX8_atPeace_16 0 rfl rfl ?_
  refine z_get h (C := RX8) (T := TX8) (N := 10) (v := .ref a0_owes) 0 rfl rfl 3 (by decide) (by decide +kernel) (by decide +kernel) rfl dX8_atPeace_17 rfl ?_
  refine z_iload_n h dX8_atPeace_20 1 rfl rfl ?_
  obtain ⟨hg5, hf⟩ := gd_some hf
  refine z_iald h 2 rfl rfl hg5 dX8_atPeace_21 rfl ?_
  refine z_iconst h (v := (4 : Int32)) dX8_atPeace_22 (by decide) rfl ?_
  refine z_icmp_ge h (tgt := 30) dX8_atPeace_23 (by decide) rfl (fun c6 => ?_) (fun c6 => ?_)
  · have hf := ite_t hf c6
    refine z_locs h (lv2 := []) [] rfl ?_
    exact hB30  hf
  have hf := ite_f hf c6
  refine z_iconst h (v := (1 : Int32)) dX8_atPeace_26 (by decide) rfl ?_
  refine z_goto h (tgt := 31) dX8_atPeace_27 (by decide) ?_
  refine z_locs h (lv2 := []) [] rfl ?_
  exact hB31 (1 : Int32) hf
def fX8_become (c0_hour : Int32) (c0_day : Int32) (c1_hour : Int32) (c1_day : Int32) (c0_air_cell : Int32) (c0_air_way : Int32) (c0_air_force : Int32) (c1_air_cell : Int32) (c1_air_way : Int32) (c1_air_force : Int32) (c1_cell : Nat → Int32) (c0_cell : Nat → Int32) (c1_hours : Nat → Int32) (c0_hours : Nat → Int32) (c1_owes : Nat → Int32) (c0_owes : Nat → Int32) (c1_holds : Nat → Int32) (c0_holds : Nat → Int32) (c1_lies : Nat → Int32) (c0_lies : Nat → Int32) (c1_goods : Nat → Int32) (c0_goods : Nat → Int32) (c1_liking : Nat → Int32) (c0_liking : Nat → Int32)  : Option (Int32 × Int32 × Int32 × Int32 × Int32 × (Nat → Int32) × (Nat → Int32) × (Nat → Int32) × (Nat → Int32) × (Nat → Int32) × (Nat → Int32) × (Nat → Int32)) := Option.bind (fX10_become c0_air_cell c0_air_way c0_air_force c1_air_cell c1_air_way c1_air_force) (fun v1 => (some (c1_hour, c1_day, v1.1, v1.2.1, v1.2.2, (va_cpy c1_cell c0_cell 0 0 6), (va_cpy c1_hours c0_hours 0 0 6), (va_cpy c1_owes c0_owes 0 0 6), (va_cpy c1_holds c0_holds 0 0 6), (va_cpy c1_lies c0_lies 0 0 6), (va_cpy c1_goods c0_goods 0 0 18), (va_cpy c1_liking c0_liking 0 0 3))))
abbrev rmX8_become : Room := { frames := 2, cells := 0, slots := 0, locals := 44 }
set_option maxRecDepth 100000 in
set_option maxHeartbeats 4000000 in
theorem ctX8_become (l : Launch) (G : zG) (a0 a0_air a0_cell a0_hours a0_owes a0_holds a0_lies a0_goods a0_liking a1 a1_air a1_cell a1_hours a1_owes a1_holds a1_lies a1_goods a1_liking : Nat) (c0_hour : Int32) (c0_day : Int32) (c1_hour : Int32) (c1_day : Int32) (c0_air_cell : Int32) (c0_air_way : Int32) (c0_air_force : Int32) (c1_air_cell : Int32) (c1_air_way : Int32) (c1_air_force : Int32) (c1_cell : Nat → Int32) (c0_cell : Nat → Int32) (c1_hours : Nat → Int32) (c0_hours : Nat → Int32) (c1_owes : Nat → Int32) (c0_owes : Nat → Int32) (c1_holds : Nat → Int32) (c0_holds : Nat → Int32) (c1_lies : Nat → Int32) (c0_lies : Nat → Int32) (c1_goods : Nat → Int32) (c0_goods : Nat → Int32) (c1_liking : Nat → Int32) (c0_liking : Nat → Int32)  {R : Int32 × Int32 × Int32 × Int32 × Int32 × (Nat → Int32) × (Nat → Int32) × (Nat → Int32) × (Nat → Int32) × (Nat → Int32) × (Nat → Int32) × (Nat → Int32)} (hf : fX8_become c0_hour c0_day c1_hour c1_day c0_air_cell c0_air_way c0_air_force c1_air_cell c1_air_way c1_air_force c1_cell c0_cell c1_hours c0_hours c1_owes c0_owes c1_holds c0_holds c1_lies c0_lies c1_goods c0_goods c1_liking c0_liking = some R) : zCt l yX8_become wsX8_become rmX8_become G [(a0, .inr (8, [.ref a0_air, .ref a0_cell, .ref a0_hours, .ref a0_owes, .ref a0_holds, .ref a0_lies, .ref a0_goods, .ref a0_liking, .int c0_hour, .int c0_day])), (a1, .inr (8, [.ref a1_air, .ref a1_cell, .ref a1_hours, .ref a1_owes, .ref a1_holds, .ref a1_lies, .ref a1_goods, .ref a1_liking, .int c1_hour, .int c1_day])), (a0_air, .inr (10, [.int c0_air_cell, .int c0_air_way, .int c0_air_force])), (a1_air, .inr (10, [.int c1_air_cell, .int c1_air_way, .int c1_air_force])), (a1_cell, .inl (G.2.1, 6, .inl c1_cell)), (a0_cell, .inl (G.2.1, 6, .inl c0_cell)), (a1_hours, .inl (G.2.1, 6, .inl c1_hours)), (a0_hours, .inl (G.2.1, 6, .inl c0_hours)), (a1_owes, .inl (G.2.1, 6, .inl c1_owes)), (a0_owes, .inl (G.2.1, 6, .inl c0_owes)), (a1_holds, .inl (G.2.1, 6, .inl c1_holds)), (a0_holds, .inl (G.2.1, 6, .inl c0_holds)), (a1_lies, .inl (G.2.1, 6, .inl c1_lies)), (a0_lies, .inl (G.2.1, 6, .inl c0_lies)), (a1_goods, .inl (G.2.1, 18, .inl c1_goods)), (a0_goods, .inl (G.2.1, 18, .inl c0_goods)), (a1_liking, .inl (G.2.1, 3, .inl c1_liking)), (a0_liking, .inl (G.2.1, 3, .inl c0_liking))] [.ref a0, .ref a1] (fun v w => v = none ∧ w = [(a0, .inr (8, [.ref a0_air, .ref a0_cell, .ref a0_hours, .ref a0_owes, .ref a0_holds, .ref a0_lies, .ref a0_goods, .ref a0_liking, .int (R.1), .int (R.2.1)])), (a1, .inr (8, [.ref a1_air, .ref a1_cell, .ref a1_hours, .ref a1_owes, .ref a1_holds, .ref a1_lies, .ref a1_goods, .ref a1_liking, .int c1_hour, .int c1_day])), (a0_air, .inr (10, [.int (R.2.2.1), .int (R.2.2.2.1), .int (R.2.2.2.2.1)])), (a1_air, .inr (10, [.int c1_air_cell, .int c1_air_way, .int c1_air_force])), (a1_cell, .inl (G.2.1, 6, .inl c1_cell)), (a0_cell, .inl (G.2.1, 6, .inl (R.2.2.2.2.2.1))), (a1_hours, .inl (G.2.1, 6, .inl c1_hours)), (a0_hours, .inl (G.2.1, 6, .inl (R.2.2.2.2.2.2.1))), (a1_owes, .inl (G.2.1, 6, .inl c1_owes)), (a0_owes, .inl (G.2.1, 6, .inl (R.2.2.2.2.2.2.2.1))), (a1_holds, .inl (G.2.1, 6, .inl c1_holds)), (a0_holds, .inl (G.2.1, 6, .inl (R.2.2.2.2.2.2.2.2.1))), (a1_lies, .inl (G.2.1, 6, .inl c1_lies)), (a0_lies, .inl (G.2.1, 6, .inl (R.2.2.2.2.2.2.2.2.2.1))), (a1_goods, .inl (G.2.1, 18, .inl c1_goods)), (a0_goods, .inl (G.2.1, 18, .inl (R.2.2.2.2.2.2.2.2.2.2.1))), (a1_liking, .inl (G.2.1, 3, .inl c1_liking)), (a0_liking, .inl (G.2.1, 3, .inl (R.2.2.2.2.2.2.2.2.2.2.2)))]) := by
  refine zMkV (own := RX8) false (by decide) (by decide +kernel) rfl rfl (Nat.le_of_ble_eq_true rfl) ?_
  intro Z h hret
  rw [fX8_become] at hf
  show Z 0 0 _ [(0, .ref a0), (1, .ref a1)] 0 []
  refine z_aload_n h dX8_become_0 0 rfl rfl ?_
  refine z_get h (C := RX8) (T := TX8) (N := 10) (v := .ref a0_air) 0 rfl rfl 0 (by decide) (by decide +kernel) (by decide +kernel) rfl dX8_become_1 rfl ?_
  refine z_aload_n h dX8_become_4 1 rfl rfl ?_
  refine z_get h (C := RX8) (T := TX8) (N := 10) (v := .ref a1_air) 1 rfl rfl 0 (by decide) (by decide +kernel) (by decide +kernel) rfl dX8_become_5 rfl ?_
  obtain ⟨v1, hv1, hf⟩ := bd_some hf
  refine z_callV h (np := 1) (st := []) (wr := [(a0, .inr (8, [.ref a0_air, .ref a0_cell, .ref a0_hours, .ref a0_owes, .ref a0_holds, .ref a0_lies, .ref a0_goods, .ref a0_liking, .int c0_hour, .int c0_day])), (a1, .inr (8, [.ref a1_air, .ref a1_cell, .ref a1_hours, .ref a1_owes, .ref a1_holds, .ref a1_lies, .ref a1_goods, .ref a1_liking, .int c1_hour, .int c1_day])), (a1_cell, .inl (G.2.1, 6, .inl c1_cell)), (a0_cell, .inl (G.2.1, 6, .inl c0_cell)), (a1_hours, .inl (G.2.1, 6, .inl c1_hours)), (a0_hours, .inl (G.2.1, 6, .inl c0_hours)), (a1_owes, .inl (G.2.1, 6, .inl c1_owes)), (a0_owes, .inl (G.2.1, 6, .inl c0_owes)), (a1_holds, .inl (G.2.1, 6, .inl c1_holds)), (a0_holds, .inl (G.2.1, 6, .inl c0_holds)), (a1_lies, .inl (G.2.1, 6, .inl c1_lies)), (a0_lies, .inl (G.2.1, 6, .inl c0_lies)), (a1_goods, .inl (G.2.1, 18, .inl c1_goods)), (a0_goods, .inl (G.2.1, 18, .inl c0_goods)), (a1_liking, .inl (G.2.1, 3, .inl c1_liking)), (a0_liking, .inl (G.2.1, 3, .inl c0_liking))]) [.ref a1_air] (ctX10_become l G a0_air a1_air c0_air_cell c0_air_way c0_air_force c1_air_cell c1_air_way c1_air_force hv1) gX8_become_X10_become (by decide +kernel) 0 rfl rfl rfl ⟨Nat.le_of_ble_eq_true rfl, Nat.le_of_ble_eq_true rfl⟩ ⟨Nat.le_refl _, Nat.le_refl _⟩ rfl rfl rfl [2, 3] [0, 1, 4, 5, 6, 7, 8, 9, 10, 11, 12, 13, 14, 15, 16, 17] rfl rfl rfl rfl (by decide) (Nat.le_of_ble_eq_true rfl) dX8_become_8 rfl rfl (fun rv1 wv1 hrv1 => ?_)
  obtain ⟨rfl, rfl⟩ := hrv1
  refine z_perm h (w2 := [(a0, .inr (8, [.ref a0_air, .ref a0_cell, .ref a0_hours, .ref a0_owes, .ref a0_holds, .ref a0_lies, .ref a0_goods, .ref a0_liking, .int c0_hour, .int c0_day])), (a1, .inr (8, [.ref a1_air, .ref a1_cell, .ref a1_hours, .ref a1_owes, .ref a1_holds, .ref a1_lies, .ref a1_goods, .ref a1_liking, .int c1_hour, .int c1_day])), (a0_air, .inr (10, [.int v1.1, .int v1.2.1, .int v1.2.2])), (a1_air, .inr (10, [.int c1_air_cell, .int c1_air_way, .int c1_air_force])), (a1_cell, .inl (G.2.1, 6, .inl c1_cell)), (a0_cell, .inl (G.2.1, 6, .inl c0_cell)), (a1_hours, .inl (G.2.1, 6, .inl c1_hours)), (a0_hours, .inl (G.2.1, 6, .inl c0_hours)), (a1_owes, .inl (G.2.1, 6, .inl c1_owes)), (a0_owes, .inl (G.2.1, 6, .inl c0_owes)), (a1_holds, .inl (G.2.1, 6, .inl c1_holds)), (a0_holds, .inl (G.2.1, 6, .inl c0_holds)), (a1_lies, .inl (G.2.1, 6, .inl c1_lies)), (a0_lies, .inl (G.2.1, 6, .inl c0_lies)), (a1_goods, .inl (G.2.1, 18, .inl c1_goods)), (a0_goods, .inl (G.2.1, 18, .inl c0_goods)), (a1_liking, .inl (G.2.1, 3, .inl c1_liking)), (a0_liking, .inl (G.2.1, 3, .inl c0_liking))]) (st := []) [0, 1, 16, 17, 2, 3, 4, 5, 6, 7, 8, 9, 10, 11, 12, 13, 14, 15] rfl rfl ?_
  refine z_aload_n h dX8_become_11 1 rfl rfl ?_
  refine z_get h (C := RX8) (T := TX8) (N := 10) (v := .ref a1_cell) 1 rfl rfl 1 (by decide) (by decide +kernel) (by decide +kernel) rfl dX8_become_12 rfl ?_
  refine z_iconst h (v := (0 : Int32)) dX8_become_15 (by decide) rfl ?_
  refine z_aload_n h dX8_become_16 0 rfl rfl ?_
  refine z_get h (C := RX8) (T := TX8) (N := 10) (v := .ref a0_cell) 0 rfl rfl 1 (by decide) (by decide +kernel) (by decide +kernel) rfl dX8_become_17 rfl ?_
  refine z_iconst h (v := (0 : Int32)) dX8_become_20 (by decide) rfl ?_
  refine z_bipush h (v := (6 : Int32)) dX8_become_21 (by decide) rfl ?_
  refine z_copyi h (w2 := [(a0, .inr (8, [.ref a0_air, .ref a0_cell, .ref a0_hours, .ref a0_owes, .ref a0_holds, .ref a0_lies, .ref a0_goods, .ref a0_liking, .int c0_hour, .int c0_day])), (a1, .inr (8, [.ref a1_air, .ref a1_cell, .ref a1_hours, .ref a1_owes, .ref a1_holds, .ref a1_lies, .ref a1_goods, .ref a1_liking, .int c1_hour, .int c1_day])), (a0_air, .inr (10, [.int v1.1, .int v1.2.1, .int v1.2.2])), (a1_air, .inr (10, [.int c1_air_cell, .int c1_air_way, .int c1_air_force])), (a1_cell, .inl (G.2.1, 6, .inl c1_cell)), (a0_cell, .inl (G.2.1, 6, .inl (va_cpy c1_cell c0_cell 0 0 6))), (a1_hours, .inl (G.2.1, 6, .inl c1_hours)), (a0_hours, .inl (G.2.1, 6, .inl c0_hours)), (a1_owes, .inl (G.2.1, 6, .inl c1_owes)), (a0_owes, .inl (G.2.1, 6, .inl c0_owes)), (a1_holds, .inl (G.2.1, 6, .inl c1_holds)), (a0_holds, .inl (G.2.1, 6, .inl c0_holds)), (a1_lies, .inl (G.2.1, 6, .inl c1_lies)), (a0_lies, .inl (G.2.1, 6, .inl c0_lies)), (a1_goods, .inl (G.2.1, 18, .inl c1_goods)), (a0_goods, .inl (G.2.1, 18, .inl c0_goods)), (a1_liking, .inl (G.2.1, 3, .inl c1_liking)), (a0_liking, .inl (G.2.1, 3, .inl c0_liking))]) 6 (by decide) (by decide +kernel) (by decide +kernel) (by decide +kernel) (by decide +kernel) 4 5 rfl rfl rfl rfl (by decide) (by decide) (by decide) (by decide) (by decide) dX8_become_23 rfl rfl ?_
  refine z_aload_n h dX8_become_26 1 rfl rfl ?_
  refine z_get h (C := RX8) (T := TX8) (N := 10) (v := .ref a1_hours) 1 rfl rfl 2 (by decide) (by decide +kernel) (by decide +kernel) rfl dX8_become_27 rfl ?_
  refine z_iconst h (v := (0 : Int32)) dX8_become_30 (by decide) rfl ?_
  refine z_aload_n h dX8_become_31 0 rfl rfl ?_
  refine z_get h (C := RX8) (T := TX8) (N := 10) (v := .ref a0_hours) 0 rfl rfl 2 (by decide) (by decide +kernel) (by decide +kernel) rfl dX8_become_32 rfl ?_
  refine z_iconst h (v := (0 : Int32)) dX8_become_35 (by decide) rfl ?_
  refine z_bipush h (v := (6 : Int32)) dX8_become_36 (by decide) rfl ?_
  refine z_copyi h (w2 := [(a0, .inr (8, [.ref a0_air, .ref a0_cell, .ref a0_hours, .ref a0_owes, .ref a0_holds, .ref a0_lies, .ref a0_goods, .ref a0_liking, .int c0_hour, .int c0_day])), (a1, .inr (8, [.ref a1_air, .ref a1_cell, .ref a1_hours, .ref a1_owes, .ref a1_holds, .ref a1_lies, .ref a1_goods, .ref a1_liking, .int c1_hour, .int c1_day])), (a0_air, .inr (10, [.int v1.1, .int v1.2.1, .int v1.2.2])), (a1_air, .inr (10, [.int c1_air_cell, .int c1_air_way, .int c1_air_force])), (a1_cell, .inl (G.2.1, 6, .inl c1_cell)), (a0_cell, .inl (G.2.1, 6, .inl (va_cpy c1_cell c0_cell 0 0 6))), (a1_hours, .inl (G.2.1, 6, .inl c1_hours)), (a0_hours, .inl (G.2.1, 6, .inl (va_cpy c1_hours c0_hours 0 0 6))), (a1_owes, .inl (G.2.1, 6, .inl c1_owes)), (a0_owes, .inl (G.2.1, 6, .inl c0_owes)), (a1_holds, .inl (G.2.1, 6, .inl c1_holds)), (a0_holds, .inl (G.2.1, 6, .inl c0_holds)), (a1_lies, .inl (G.2.1, 6, .inl c1_lies)), (a0_lies, .inl (G.2.1, 6, .inl c0_lies)), (a1_goods, .inl (G.2.1, 18, .inl c1_goods)), (a0_goods, .inl (G.2.1, 18, .inl c0_goods)), (a1_liking, .inl (G.2.1, 3, .inl c1_liking)), (a0_liking, .inl (G.2.1, 3, .inl c0_liking))]) 6 (by decide) (by decide +kernel) (by decide +kernel) (by decide +kernel) (by decide +kernel) 6 7 rfl rfl rfl rfl (by decide) (by decide) (by decide) (by decide) (by decide) dX8_become_38 rfl rfl ?_
  refine z_aload_n h dX8_become_41 1 rfl rfl ?_
  refine z_get h (C := RX8) (T := TX8) (N := 10) (v := .ref a1_owes) 1 rfl rfl 3 (by decide) (by decide +kernel) (by decide +kernel) rfl dX8_become_42 rfl ?_
  refine z_iconst h (v := (0 : Int32)) dX8_become_45 (by decide) rfl ?_
  refine z_aload_n h dX8_become_46 0 rfl rfl ?_
  refine z_get h (C := RX8) (T := TX8) (N := 10) (v := .ref a0_owes) 0 rfl rfl 3 (by decide) (by decide +kernel) (by decide +kernel) rfl dX8_become_47 rfl ?_
  refine z_iconst h (v := (0 : Int32)) dX8_become_50 (by decide) rfl ?_
  refine z_bipush h (v := (6 : Int32)) dX8_become_51 (by decide) rfl ?_
  refine z_copyi h (w2 := [(a0, .inr (8, [.ref a0_air, .ref a0_cell, .ref a0_hours, .ref a0_owes, .ref a0_holds, .ref a0_lies, .ref a0_goods, .ref a0_liking, .int c0_hour, .int c0_day])), (a1, .inr (8, [.ref a1_air, .ref a1_cell, .ref a1_hours, .ref a1_owes, .ref a1_holds, .ref a1_lies, .ref a1_goods, .ref a1_liking, .int c1_hour, .int c1_day])), (a0_air, .inr (10, [.int v1.1, .int v1.2.1, .int v1.2.2])), (a1_air, .inr (10, [.int c1_air_cell, .int c1_air_way, .int c1_air_force])), (a1_cell, .inl (G.2.1, 6, .inl c1_cell)), (a0_cell, .inl (G.2.1, 6, .inl (va_cpy c1_cell c0_cell 0 0 6))), (a1_hours, .inl (G.2.1, 6, .inl c1_hours)), (a0_hours, .inl (G.2.1, 6, .inl (va_cpy c1_hours c0_hours 0 0 6))), (a1_owes, .inl (G.2.1, 6, .inl c1_owes)), (a0_owes, .inl (G.2.1, 6, .inl (va_cpy c1_owes c0_owes 0 0 6))), (a1_holds, .inl (G.2.1, 6, .inl c1_holds)), (a0_holds, .inl (G.2.1, 6, .inl c0_holds)), (a1_lies, .inl (G.2.1, 6, .inl c1_lies)), (a0_lies, .inl (G.2.1, 6, .inl c0_lies)), (a1_goods, .inl (G.2.1, 18, .inl c1_goods)), (a0_goods, .inl (G.2.1, 18, .inl c0_goods)), (a1_liking, .inl (G.2.1, 3, .inl c1_liking)), (a0_liking, .inl (G.2.1, 3, .inl c0_liking))]) 6 (by decide) (by decide +kernel) (by decide +kernel) (by decide +kernel) (by decide +kernel) 8 9 rfl rfl rfl rfl (by decide) (by decide) (by decide) (by decide) (by decide) dX8_become_53 rfl rfl ?_
  refine z_aload_n h dX8_become_56 1 rfl rfl ?_
  refine z_get h (C := RX8) (T := TX8) (N := 10) (v := .ref a1_holds) 1 rfl rfl 4 (by decide) (by decide +kernel) (by decide +kernel) rfl dX8_become_57 rfl ?_
  refine z_iconst h (v := (0 : Int32)) dX8_become_60 (by decide) rfl ?_
  refine z_aload_n h dX8_become_61 0 rfl rfl ?_
  refine z_get h (C := RX8) (T := TX8) (N := 10) (v := .ref a0_holds) 0 rfl rfl 4 (by decide) (by decide +kernel) (by decide +kernel) rfl dX8_become_62 rfl ?_
  refine z_iconst h (v := (0 : Int32)) dX8_become_65 (by decide) rfl ?_
  refine z_bipush h (v := (6 : Int32)) dX8_become_66 (by decide) rfl ?_
  refine z_copyi h (w2 := [(a0, .inr (8, [.ref a0_air, .ref a0_cell, .ref a0_hours, .ref a0_owes, .ref a0_holds, .ref a0_lies, .ref a0_goods, .ref a0_liking, .int c0_hour, .int c0_day])), (a1, .inr (8, [.ref a1_air, .ref a1_cell, .ref a1_hours, .ref a1_owes, .ref a1_holds, .ref a1_lies, .ref a1_goods, .ref a1_liking, .int c1_hour, .int c1_day])), (a0_air, .inr (10, [.int v1.1, .int v1.2.1, .int v1.2.2])), (a1_air, .inr (10, [.int c1_air_cell, .int c1_air_way, .int c1_air_force])), (a1_cell, .inl (G.2.1, 6, .inl c1_cell)), (a0_cell, .inl (G.2.1, 6, .inl (va_cpy c1_cell c0_cell 0 0 6))), (a1_hours, .inl (G.2.1, 6, .inl c1_hours)), (a0_hours, .inl (G.2.1, 6, .inl (va_cpy c1_hours c0_hours 0 0 6))), (a1_owes, .inl (G.2.1, 6, .inl c1_owes)), (a0_owes, .inl (G.2.1, 6, .inl (va_cpy c1_owes c0_owes 0 0 6))), (a1_holds, .inl (G.2.1, 6, .inl c1_holds)), (a0_holds, .inl (G.2.1, 6, .inl (va_cpy c1_holds c0_holds 0 0 6))), (a1_lies, .inl (G.2.1, 6, .inl c1_lies)), (a0_lies, .inl (G.2.1, 6, .inl c0_lies)), (a1_goods, .inl (G.2.1, 18, .inl c1_goods)), (a0_goods, .inl (G.2.1, 18, .inl c0_goods)), (a1_liking, .inl (G.2.1, 3, .inl c1_liking)), (a0_liking, .inl (G.2.1, 3, .inl c0_liking))]) 6 (by decide) (by decide +kernel) (by decide +kernel) (by decide +kernel) (by decide +kernel) 10 11 rfl rfl rfl rfl (by decide) (by decide) (by decide) (by decide) (by decide) dX8_become_68 rfl rfl ?_
  refine z_aload_n h dX8_become_71 1 rfl rfl ?_
  refine z_get h (C := RX8) (T := TX8) (N := 10) (v := .ref a1_lies) 1 rfl rfl 5 (by decide) (by decide +kernel) (by decide +kernel) rfl dX8_become_72 rfl ?_
  refine z_iconst h (v := (0 : Int32)) dX8_become_75 (by decide) rfl ?_
  refine z_aload_n h dX8_become_76 0 rfl rfl ?_
  refine z_get h (C := RX8) (T := TX8) (N := 10) (v := .ref a0_lies) 0 rfl rfl 5 (by decide) (by decide +kernel) (by decide +kernel) rfl dX8_become_77 rfl ?_
  refine z_iconst h (v := (0 : Int32)) dX8_become_80 (by decide) rfl ?_
  refine z_bipush h (v := (6 : Int32)) dX8_become_81 (by decide) rfl ?_
  refine z_copyi h (w2 := [(a0, .inr (8, [.ref a0_air, .ref a0_cell, .ref a0_hours, .ref a0_owes, .ref a0_holds, .ref a0_lies, .ref a0_goods, .ref a0_liking, .int c0_hour, .int c0_day])), (a1, .inr (8, [.ref a1_air, .ref a1_cell, .ref a1_hours, .ref a1_owes, .ref a1_holds, .ref a1_lies, .ref a1_goods, .ref a1_liking, .int c1_hour, .int c1_day])), (a0_air, .inr (10, [.int v1.1, .int v1.2.1, .int v1.2.2])), (a1_air, .inr (10, [.int c1_air_cell, .int c1_air_way, .int c1_air_force])), (a1_cell, .inl (G.2.1, 6, .inl c1_cell)), (a0_cell, .inl (G.2.1, 6, .inl (va_cpy c1_cell c0_cell 0 0 6))), (a1_hours, .inl (G.2.1, 6, .inl c1_hours)), (a0_hours, .inl (G.2.1, 6, .inl (va_cpy c1_hours c0_hours 0 0 6))), (a1_owes, .inl (G.2.1, 6, .inl c1_owes)), (a0_owes, .inl (G.2.1, 6, .inl (va_cpy c1_owes c0_owes 0 0 6))), (a1_holds, .inl (G.2.1, 6, .inl c1_holds)), (a0_holds, .inl (G.2.1, 6, .inl (va_cpy c1_holds c0_holds 0 0 6))), (a1_lies, .inl (G.2.1, 6, .inl c1_lies)), (a0_lies, .inl (G.2.1, 6, .inl (va_cpy c1_lies c0_lies 0 0 6))), (a1_goods, .inl (G.2.1, 18, .inl c1_goods)), (a0_goods, .inl (G.2.1, 18, .inl c0_goods)), (a1_liking, .inl (G.2.1, 3, .inl c1_liking)), (a0_liking, .inl (G.2.1, 3, .inl c0_liking))]) 6 (by decide) (by decide +kernel) (by decide +kernel) (by decide +kernel) (by decide +kernel) 12 13 rfl rfl rfl rfl (by decide) (by decide) (by decide) (by decide) (by decide) dX8_become_83 rfl rfl ?_
  refine z_aload_n h dX8_become_86 1 rfl rfl ?_
  refine z_get h (C := RX8) (T := TX8) (N := 10) (v := .ref a1_goods) 1 rfl rfl 6 (by decide) (by decide +kernel) (by decide +kernel) rfl dX8_become_87 rfl ?_
  refine z_iconst h (v := (0 : Int32)) dX8_become_90 (by decide) rfl ?_
  refine z_aload_n h dX8_become_91 0 rfl rfl ?_
  refine z_get h (C := RX8) (T := TX8) (N := 10) (v := .ref a0_goods) 0 rfl rfl 6 (by decide) (by decide +kernel) (by decide +kernel) rfl dX8_become_92 rfl ?_
  refine z_iconst h (v := (0 : Int32)) dX8_become_95 (by decide) rfl ?_
  refine z_bipush h (v := (18 : Int32)) dX8_become_96 (by decide) rfl ?_
  refine z_copyi h (w2 := [(a0, .inr (8, [.ref a0_air, .ref a0_cell, .ref a0_hours, .ref a0_owes, .ref a0_holds, .ref a0_lies, .ref a0_goods, .ref a0_liking, .int c0_hour, .int c0_day])), (a1, .inr (8, [.ref a1_air, .ref a1_cell, .ref a1_hours, .ref a1_owes, .ref a1_holds, .ref a1_lies, .ref a1_goods, .ref a1_liking, .int c1_hour, .int c1_day])), (a0_air, .inr (10, [.int v1.1, .int v1.2.1, .int v1.2.2])), (a1_air, .inr (10, [.int c1_air_cell, .int c1_air_way, .int c1_air_force])), (a1_cell, .inl (G.2.1, 6, .inl c1_cell)), (a0_cell, .inl (G.2.1, 6, .inl (va_cpy c1_cell c0_cell 0 0 6))), (a1_hours, .inl (G.2.1, 6, .inl c1_hours)), (a0_hours, .inl (G.2.1, 6, .inl (va_cpy c1_hours c0_hours 0 0 6))), (a1_owes, .inl (G.2.1, 6, .inl c1_owes)), (a0_owes, .inl (G.2.1, 6, .inl (va_cpy c1_owes c0_owes 0 0 6))), (a1_holds, .inl (G.2.1, 6, .inl c1_holds)), (a0_holds, .inl (G.2.1, 6, .inl (va_cpy c1_holds c0_holds 0 0 6))), (a1_lies, .inl (G.2.1, 6, .inl c1_lies)), (a0_lies, .inl (G.2.1, 6, .inl (va_cpy c1_lies c0_lies 0 0 6))), (a1_goods, .inl (G.2.1, 18, .inl c1_goods)), (a0_goods, .inl (G.2.1, 18, .inl (va_cpy c1_goods c0_goods 0 0 18))), (a1_liking, .inl (G.2.1, 3, .inl c1_liking)), (a0_liking, .inl (G.2.1, 3, .inl c0_liking))]) 18 (by decide) (by decide +kernel) (by decide +kernel) (by decide +kernel) (by decide +kernel) 14 15 rfl rfl rfl rfl (by decide) (by decide) (by decide) (by decide) (by decide) dX8_become_98 rfl rfl ?_
  refine z_aload_n h dX8_become_101 1 rfl rfl ?_
  refine z_get h (C := RX8) (T := TX8) (N := 10) (v := .ref a1_liking) 1 rfl rfl 7 (by decide) (by decide +kernel) (by decide +kernel) rfl dX8_become_102 rfl ?_
  refine z_iconst h (v := (0 : Int32)) dX8_become_105 (by decide) rfl ?_
  refine z_aload_n h dX8_become_106 0 rfl rfl ?_
  refine z_get h (C := RX8) (T := TX8) (N := 10) (v := .ref a0_liking) 0 rfl rfl 7 (by decide) (by decide +kernel) (by decide +kernel) rfl dX8_become_107 rfl ?_
  refine z_iconst h (v := (0 : Int32)) dX8_become_110 (by decide) rfl ?_
  refine z_iconst h (v := (3 : Int32)) dX8_become_111 (by decide) rfl ?_
  refine z_copyi h (w2 := [(a0, .inr (8, [.ref a0_air, .ref a0_cell, .ref a0_hours, .ref a0_owes, .ref a0_holds, .ref a0_lies, .ref a0_goods, .ref a0_liking, .int c0_hour, .int c0_day])), (a1, .inr (8, [.ref a1_air, .ref a1_cell, .ref a1_hours, .ref a1_owes, .ref a1_holds, .ref a1_lies, .ref a1_goods, .ref a1_liking, .int c1_hour, .int c1_day])), (a0_air, .inr (10, [.int v1.1, .int v1.2.1, .int v1.2.2])), (a1_air, .inr (10, [.int c1_air_cell, .int c1_air_way, .int c1_air_force])), (a1_cell, .inl (G.2.1, 6, .inl c1_cell)), (a0_cell, .inl (G.2.1, 6, .inl (va_cpy c1_cell c0_cell 0 0 6))), (a1_hours, .inl (G.2.1, 6, .inl c1_hours)), (a0_hours, .inl (G.2.1, 6, .inl (va_cpy c1_hours c0_hours 0 0 6))), (a1_owes, .inl (G.2.1, 6, .inl c1_owes)), (a0_owes, .inl (G.2.1, 6, .inl (va_cpy c1_owes c0_owes 0 0 6))), (a1_holds, .inl (G.2.1, 6, .inl c1_holds)), (a0_holds, .inl (G.2.1, 6, .inl (va_cpy c1_holds c0_holds 0 0 6))), (a1_lies, .inl (G.2.1, 6, .inl c1_lies)), (a0_lies, .inl (G.2.1, 6, .inl (va_cpy c1_lies c0_lies 0 0 6))), (a1_goods, .inl (G.2.1, 18, .inl c1_goods)), (a0_goods, .inl (G.2.1, 18, .inl (va_cpy c1_goods c0_goods 0 0 18))), (a1_liking, .inl (G.2.1, 3, .inl c1_liking)), (a0_liking, .inl (G.2.1, 3, .inl (va_cpy c1_liking c0_liking 0 0 3)))]) 3 (by decide) (by decide +kernel) (by decide +kernel) (by decide +kernel) (by decide +kernel) 16 17 rfl rfl rfl rfl (by decide) (by decide) (by decide) (by decide) (by decide) dX8_become_112 rfl rfl ?_
  refine z_aload_n h dX8_become_115 0 rfl rfl ?_
  refine z_aload_n h dX8_become_116 1 rfl rfl ?_
  refine z_get h (C := RX8) (T := TX8) (N := 10) (v := .int c1_hour) 1 rfl rfl 8 (by decide) (by decide +kernel) (by decide +kernel) rfl dX8_become_117 rfl ?_
  refine z_put h (C := RX8) (T := TX8) (N := 10) 0 rfl rfl 8 (by decide) (by decide +kernel) (by decide +kernel) tyX8 tyX8_ok nmX8 (w2 := [(a0, .inr (8, [.ref a0_air, .ref a0_cell, .ref a0_hours, .ref a0_owes, .ref a0_holds, .ref a0_lies, .ref a0_goods, .ref a0_liking, .int c1_hour, .int c0_day])), (a1, .inr (8, [.ref a1_air, .ref a1_cell, .ref a1_hours, .ref a1_owes, .ref a1_holds, .ref a1_lies, .ref a1_goods, .ref a1_liking, .int c1_hour, .int c1_day])), (a0_air, .inr (10, [.int v1.1, .int v1.2.1, .int v1.2.2])), (a1_air, .inr (10, [.int c1_air_cell, .int c1_air_way, .int c1_air_force])), (a1_cell, .inl (G.2.1, 6, .inl c1_cell)), (a0_cell, .inl (G.2.1, 6, .inl (va_cpy c1_cell c0_cell 0 0 6))), (a1_hours, .inl (G.2.1, 6, .inl c1_hours)), (a0_hours, .inl (G.2.1, 6, .inl (va_cpy c1_hours c0_hours 0 0 6))), (a1_owes, .inl (G.2.1, 6, .inl c1_owes)), (a0_owes, .inl (G.2.1, 6, .inl (va_cpy c1_owes c0_owes 0 0 6))), (a1_holds, .inl (G.2.1, 6, .inl c1_holds)), (a0_holds, .inl (G.2.1, 6, .inl (va_cpy c1_holds c0_holds 0 0 6))), (a1_lies, .inl (G.2.1, 6, .inl c1_lies)), (a0_lies, .inl (G.2.1, 6, .inl (va_cpy c1_lies c0_lies 0 0 6))), (a1_goods, .inl (G.2.1, 18, .inl c1_goods)), (a0_goods, .inl (G.2.1, 18, .inl (va_cpy c1_goods c0_goods 0 0 18))), (a1_liking, .inl (G.2.1, 3, .inl c1_liking)), (a0_liking, .inl (G.2.1, 3, .inl (va_cpy c1_liking c0_liking 0 0 3)))]) rfl rfl rfl (Nat.le_of_ble_eq_true rfl) rfl dX8_become_120 rfl ?_
  refine z_aload_n h dX8_become_123 0 rfl rfl ?_
  refine z_aload_n h dX8_become_124 1 rfl rfl ?_
  refine z_get h (C := RX8) (T := TX8) (N := 10) (v := .int c1_day) 1 rfl rfl 9 (by decide) (by decide +kernel) (by decide +kernel) rfl dX8_become_125 rfl ?_
  refine z_put h (C := RX8) (T := TX8) (N := 10) 0 rfl rfl 9 (by decide) (by decide +kernel) (by decide +kernel) tyX8 tyX8_ok nmX8 (w2 := [(a0, .inr (8, [.ref a0_air, .ref a0_cell, .ref a0_hours, .ref a0_owes, .ref a0_holds, .ref a0_lies, .ref a0_goods, .ref a0_liking, .int c1_hour, .int c1_day])), (a1, .inr (8, [.ref a1_air, .ref a1_cell, .ref a1_hours, .ref a1_owes, .ref a1_holds, .ref a1_lies, .ref a1_goods, .ref a1_liking, .int c1_hour, .int c1_day])), (a0_air, .inr (10, [.int v1.1, .int v1.2.1, .int v1.2.2])), (a1_air, .inr (10, [.int c1_air_cell, .int c1_air_way, .int c1_air_force])), (a1_cell, .inl (G.2.1, 6, .inl c1_cell)), (a0_cell, .inl (G.2.1, 6, .inl (va_cpy c1_cell c0_cell 0 0 6))), (a1_hours, .inl (G.2.1, 6, .inl c1_hours)), (a0_hours, .inl (G.2.1, 6, .inl (va_cpy c1_hours c0_hours 0 0 6))), (a1_owes, .inl (G.2.1, 6, .inl c1_owes)), (a0_owes, .inl (G.2.1, 6, .inl (va_cpy c1_owes c0_owes 0 0 6))), (a1_holds, .inl (G.2.1, 6, .inl c1_holds)), (a0_holds, .inl (G.2.1, 6, .inl (va_cpy c1_holds c0_holds 0 0 6))), (a1_lies, .inl (G.2.1, 6, .inl c1_lies)), (a0_lies, .inl (G.2.1, 6, .inl (va_cpy c1_lies c0_lies 0 0 6))), (a1_goods, .inl (G.2.1, 18, .inl c1_goods)), (a0_goods, .inl (G.2.1, 18, .inl (va_cpy c1_goods c0_goods 0 0 18))), (a1_liking, .inl (G.2.1, 3, .inl c1_liking)), (a0_liking, .inl (G.2.1, 3, .inl (va_cpy c1_liking c0_liking 0 0 3)))]) rfl rfl rfl (Nat.le_of_ble_eq_true rfl) rfl dX8_become_128 rfl ?_
  have hf := Option.some.inj hf
  subst hf
  exact hret _ _ _ dX8_become_131 ⟨rfl, rfl⟩
def fX8_place_b68 (x1 : Int32) (x2 : Int32) (x3 : Int32) (x4 : Int32) (K41 : ((Nat → Int32) → (Nat → Int32) → (Nat → Int32) → (Nat → Int32) → (Nat → Int32) → Int32 → Option ((Nat → Int32) × (Nat → Int32) × (Nat → Int32) × (Nat → Int32) × (Nat → Int32)))) (c0_cell : Nat → Int32) (c0_hours : Nat → Int32) (c0_owes : Nat → Int32) (c0_lies : Nat → Int32) (c0_holds : Nat → Int32) (x5 : Int32) : Option ((Nat → Int32) × (Nat → Int32) × (Nat → Int32) × (Nat → Int32) × (Nat → Int32)) := (K41 c0_cell c0_hours c0_owes c0_lies c0_holds (x5 + (1 : Int32)))
def fX8_place_L41 (x1 : Int32) (x2 : Int32) (x3 : Int32) (x4 : Int32)  : Nat → (Nat → Int32) → (Nat → Int32) → (Nat → Int32) → (Nat → Int32) → (Nat → Int32) → Int32 → Option ((Nat → Int32) × (Nat → Int32) × (Nat → Int32) × (Nat → Int32) × (Nat → Int32))
  | 0, _, _, _, _, _, _ => none
  | n + 1, c0_cell, c0_hours, c0_owes, c0_lies, c0_holds, x5 => (if (6 : Int32) ≤ x5 then (some (c0_cell, c0_hours, c0_owes, c0_lies, c0_holds)) else gd (inb x5 6) ((if (c0_holds (x5).toNatClampNeg) = x1 then gd (inb x5 6) ((fX8_place_b68 x1 x2 x3 x4 (fX8_place_L41 x1 x2 x3 x4  n) c0_cell c0_hours c0_owes c0_lies (upd c0_holds (x5).toNatClampNeg (-6 : Int32)) x5)) else (fX8_place_b68 x1 x2 x3 x4 (fX8_place_L41 x1 x2 x3 x4  n) c0_cell c0_hours c0_owes c0_lies c0_holds x5))))
def fX8_place (c0_cell : Nat → Int32) (c0_hours : Nat → Int32) (c0_owes : Nat → Int32) (c0_lies : Nat → Int32) (c0_holds : Nat → Int32) (x1 : Int32) (x2 : Int32) (x3 : Int32) (x4 : Int32) : Option ((Nat → Int32) × (Nat → Int32) × (Nat → Int32) × (Nat → Int32) × (Nat → Int32)) := gd (inb x1 6) (gd (inb x1 6) (gd (inb x1 6) (gd (inb x1 6) (gd (inb x1 6) ((fX8_place_L41 x1 x2 x3 x4  zF (upd c0_cell (x1).toNatClampNeg x2) (upd c0_hours (x1).toNatClampNeg x3) (upd c0_owes (x1).toNatClampNeg x4) (upd c0_lies (x1).toNatClampNeg (-6 : Int32)) (upd c0_holds (x1).toNatClampNeg (-6 : Int32)) (0 : Int32)))))))
abbrev rmX8_place : Room := { frames := 0, cells := 0, slots := 0, locals := 0 }
set_option maxRecDepth 100000 in
set_option maxHeartbeats 4000000 in
theorem ctX8_place (l : Launch) (G : zG) (a0 a0_air a0_cell a0_hours a0_owes a0_holds a0_lies a0_goods a0_liking : Nat) (c0_hour : Int32) (c0_day : Int32) (c0_cell : Nat → Int32) (c0_hours : Nat → Int32) (c0_owes : Nat → Int32) (c0_lies : Nat → Int32) (c0_holds : Nat → Int32) (x1 : Int32) (x2 : Int32) (x3 : Int32) (x4 : Int32) {R : (Nat → Int32) × (Nat → Int32) × (Nat → Int32) × (Nat → Int32) × (Nat → Int32)} (hf : fX8_place c0_cell c0_hours c0_owes c0_lies c0_holds x1 x2 x3 x4 = some R) : zCt l yX8_place wsX8_place rmX8_place G [(a0, .inr (8, [.ref a0_air, .ref a0_cell, .ref a0_hours, .ref a0_owes, .ref a0_holds, .ref a0_lies, .ref a0_goods, .ref a0_liking, .int c0_hour, .int c0_day])), (a0_cell, .inl (G.2.1, 6, .inl c0_cell)), (a0_hours, .inl (G.2.1, 6, .inl c0_hours)), (a0_owes, .inl (G.2.1, 6, .inl c0_owes)), (a0_lies, .inl (G.2.1, 6, .inl c0_lies)), (a0_holds, .inl (G.2.1, 6, .inl c0_holds))] [.ref a0, .int x1, .int x2, .int x3, .int x4] (fun v w => v = none ∧ w = [(a0, .inr (8, [.ref a0_air, .ref a0_cell, .ref a0_hours, .ref a0_owes, .ref a0_holds, .ref a0_lies, .ref a0_goods, .ref a0_liking, .int c0_hour, .int c0_day])), (a0_cell, .inl (G.2.1, 6, .inl (R.1))), (a0_hours, .inl (G.2.1, 6, .inl (R.2.1))), (a0_owes, .inl (G.2.1, 6, .inl (R.2.2.1))), (a0_lies, .inl (G.2.1, 6, .inl (R.2.2.2.1))), (a0_holds, .inl (G.2.1, 6, .inl (R.2.2.2.2)))]) := by
  refine zMkV (own := RX8) false (by decide) (by decide +kernel) rfl rfl (Nat.le_of_ble_eq_true rfl) ?_
  intro Z h hret
  have hL41 : ∀ (n41 : Nat) (c0_cell : Nat → Int32) (c0_hours : Nat → Int32) (c0_owes : Nat → Int32) (c0_lies : Nat → Int32) (c0_holds : Nat → Int32) (x5 : Int32), fX8_place_L41 x1 x2 x3 x4  n41 c0_cell c0_hours c0_owes c0_lies c0_holds x5 = some R → Z 0 0 [(a0, .inr (8, [.ref a0_air, .ref a0_cell, .ref a0_hours, .ref a0_owes, .ref a0_holds, .ref a0_lies, .ref a0_goods, .ref a0_liking, .int c0_hour, .int c0_day])), (a0_cell, .inl (G.2.1, 6, .inl c0_cell)), (a0_hours, .inl (G.2.1, 6, .inl c0_hours)), (a0_owes, .inl (G.2.1, 6, .inl c0_owes)), (a0_lies, .inl (G.2.1, 6, .inl c0_lies)), (a0_holds, .inl (G.2.1, 6, .inl c0_holds))] [(0, .ref a0), (1, .int x1), (5, .int x5)] 41 [] := by
    intro n41
    induction n41 with
    | zero =>
      intro c0_cell c0_hours c0_owes c0_lies c0_holds x5 hf
      rw [fX8_place_L41] at hf
      cases hf
    | succ n41 ih41 =>
      have hB68 : ∀ (c0_cell : Nat → Int32) (c0_hours : Nat → Int32) (c0_owes : Nat → Int32) (c0_lies : Nat → Int32) (c0_holds : Nat → Int32) (x5 : Int32), fX8_place_b68 x1 x2 x3 x4 (fX8_place_L41 x1 x2 x3 x4  n41) c0_cell c0_hours c0_owes c0_lies c0_holds x5 = some R → Z 0 0 [(a0, .inr (8, [.ref a0_air, .ref a0_cell, .ref a0_hours, .ref a0_owes, .ref a0_holds, .ref a0_lies, .ref a0_goods, .ref a0_liking, .int c0_hour, .int c0_day])), (a0_cell, .inl (G.2.1, 6, .inl c0_cell)), (a0_hours, .inl (G.2.1, 6, .inl c0_hours)), (a0_owes, .inl (G.2.1, 6, .inl c0_owes)), (a0_lies, .inl (G.2.1, 6, .inl c0_lies)), (a0_holds, .inl (G.2.1, 6, .inl c0_holds))] [(0, .ref a0), (1, .int x1), (5, .int x5)] 68 [] := by
        intro c0_cell c0_hours c0_owes c0_lies c0_holds x5 hf
        rw [fX8_place_b68] at hf
        refine z_iinc h (v := (x5 + (1 : Int32))) (lv2 := [(5, .int (x5 + (1 : Int32))), (0, .ref a0), (1, .int x1)]) (j := 2) dX8_place_68 rfl rfl (by decide) rfl rfl ?_
        refine z_goto h (tgt := 41) dX8_place_71 (by decide) ?_
        refine z_locs h (lv2 := [(0, .ref a0), (1, .int x1), (5, .int (x5 + (1 : Int32)))]) [1, 2, 0] rfl ?_
        exact ih41 c0_cell c0_hours c0_owes c0_lies c0_holds (x5 + (1 : Int32)) hf
      intro c0_cell c0_hours c0_owes c0_lies c0_holds x5 hf
      rw [fX8_place_L41] at hf
      refine z_iload h dX8_place_41 2 rfl rfl ?_
      refine z_bipush h (v := (6 : Int32)) dX8_place_43 (by decide) rfl ?_
      refine z_icmp_ge h (tgt := 74) dX8_place_45 (by decide) rfl (fun c1 => ?_) (fun c1 => ?_)
      · have hf := ite_t hf c1
        have hf := Option.some.inj hf
        subst hf
        exact hret _ _ _ dX8_place_74 ⟨rfl, rfl⟩
      have hf := ite_f hf c1
      refine z_aload_n h dX8_place_48 0 rfl rfl ?_
      refine z_get h (C := RX8) (T := TX8) (N := 10) (v := .ref a0_holds) 0 rfl rfl 4 (by decide) (by decide +kernel) (by decide +kernel) rfl dX8_place_49 rfl ?_
      refine z_iload h dX8_place_52 2 rfl rfl ?_
      obtain ⟨hg2, hf⟩ := gd_some hf
      refine z_iald h 5 rfl rfl hg2 dX8_place_54 rfl ?_
      refine z_iload_n h dX8_place_55 1 rfl rfl ?_
      refine z_icmp_ne h (tgt := 68) dX8_place_56 (by decide) rfl (fun c3 => ?_) (fun c3 => ?_)
      · have hf := ite_f hf c3
        exact hB68 c0_cell c0_hours c0_owes c0_lies c0_holds x5 hf
      have hf := ite_t hf c3
      refine z_aload_n h dX8_place_59 0 rfl rfl ?_
      refine z_get h (C := RX8) (T := TX8) (N := 10) (v := .ref a0_holds) 0 rfl rfl 4 (by decide) (by decide +kernel) (by decide +kernel) rfl dX8_place_60 rfl ?_
      refine z_iload h dX8_place_63 2 rfl rfl ?_
      refine z_bipush h (v := (-6 : Int32)) dX8_place_65 (by decide) rfl ?_
      obtain ⟨hg4, hf⟩ := gd_some hf
      refine z_iast h (w2 := [(a0, .inr (8, [.ref a0_air, .ref a0_cell, .ref a0_hours, .ref a0_owes, .ref a0_holds, .ref a0_lies, .ref a0_goods, .ref a0_liking, .int c0_hour, .int c0_day])), (a0_cell, .inl (G.2.1, 6, .inl c0_cell)), (a0_hours, .inl (G.2.1, 6, .inl c0_hours)), (a0_owes, .inl (G.2.1, 6, .inl c0_owes)), (a0_lies, .inl (G.2.1, 6, .inl c0_lies)), (a0_holds, .inl (G.2.1, 6, .inl (upd c0_holds (x5).toNatClampNeg (-6 : Int32))))]) 5 rfl rfl hg4 dX8_place_67 rfl rfl ?_
      exact hB68 c0_cell c0_hours c0_owes c0_lies (upd c0_holds (x5).toNatClampNeg (-6 : Int32)) x5 hf
  rw [fX8_place] at hf
  show Z 0 0 _ [(0, .ref a0), (1, .int x1), (2, .int x2), (3, .int x3), (4, .int x4)] 0 []
  refine z_aload_n h dX8_place_0 0 rfl rfl ?_
  refine z_get h (C := RX8) (T := TX8) (N := 10) (v := .ref a0_cell) 0 rfl rfl 1 (by decide) (by decide +kernel) (by decide +kernel) rfl dX8_place_1 rfl ?_
  refine z_iload_n h dX8_place_4 1 rfl rfl ?_
  refine z_iload_n h dX8_place_5 2 rfl rfl ?_
  obtain ⟨hg5, hf⟩ := gd_some hf
  refine z_iast h (w2 := [(a0, .inr (8, [.ref a0_air, .ref a0_cell, .ref a0_hours, .ref a0_owes, .ref a0_holds, .ref a0_lies, .ref a0_goods, .ref a0_liking, .int c0_hour, .int c0_day])), (a0_cell, .inl (G.2.1, 6, .inl (upd c0_cell (x1).toNatClampNeg x2))), (a0_hours, .inl (G.2.1, 6, .inl c0_hours)), (a0_owes, .inl (G.2.1, 6, .inl c0_owes)), (a0_lies, .inl (G.2.1, 6, .inl c0_lies)), (a0_holds, .inl (G.2.1, 6, .inl c0_holds))]) 1 rfl rfl hg5 dX8_place_6 rfl rfl ?_
  refine z_aload_n h dX8_place_7 0 rfl rfl ?_
  refine z_get h (C := RX8) (T := TX8) (N := 10) (v := .ref a0_hours) 0 rfl rfl 2 (by decide) (by decide +kernel) (by decide +kernel) rfl dX8_place_8 rfl ?_
  refine z_iload_n h dX8_place_11 1 rfl rfl ?_
  refine z_iload_n h dX8_place_12 3 rfl rfl ?_
  obtain ⟨hg6, hf⟩ := gd_some hf
  refine z_iast h (w2 := [(a0, .inr (8, [.ref a0_air, .ref a0_cell, .ref a0_hours, .ref a0_owes, .ref a0_holds, .ref a0_lies, .ref a0_goods, .ref a0_liking, .int c0_hour, .int c0_day])), (a0_cell, .inl (G.2.1, 6, .inl (upd c0_cell (x1).toNatClampNeg x2))), (a0_hours, .inl (G.2.1, 6, .inl (upd c0_hours (x1).toNatClampNeg x3))), (a0_owes, .inl (G.2.1, 6, .inl c0_owes)), (a0_lies, .inl (G.2.1, 6, .inl c0_lies)), (a0_holds, .inl (G.2.1, 6, .inl c0_holds))]) 2 rfl rfl hg6 dX8_place_13 rfl rfl ?_
  refine z_aload_n h dX8_place_14 0 rfl rfl ?_
  refine z_get h (C := RX8) (T := TX8) (N := 10) (v := .ref a0_owes) 0 rfl rfl 3 (by decide) (by decide +kernel) (by decide +kernel) rfl dX8_place_15 rfl ?_
  refine z_iload_n h dX8_place_18 1 rfl rfl ?_
  refine z_iload h dX8_place_19 4 rfl rfl ?_
  obtain ⟨hg7, hf⟩ := gd_some hf
  refine z_iast h (w2 := [(a0, .inr (8, [.ref a0_air, .ref a0_cell, .ref a0_hours, .ref a0_owes, .ref a0_holds, .ref a0_lies, .ref a0_goods, .ref a0_liking, .int c0_hour, .int c0_day])), (a0_cell, .inl (G.2.1, 6, .inl (upd c0_cell (x1).toNatClampNeg x2))), (a0_hours, .inl (G.2.1, 6, .inl (upd c0_hours (x1).toNatClampNeg x3))), (a0_owes, .inl (G.2.1, 6, .inl (upd c0_owes (x1).toNatClampNeg x4))), (a0_lies, .inl (G.2.1, 6, .inl c0_lies)), (a0_holds, .inl (G.2.1, 6, .inl c0_holds))]) 3 rfl rfl hg7 dX8_place_21 rfl rfl ?_
  refine z_aload_n h dX8_place_22 0 rfl rfl ?_
  refine z_get h (C := RX8) (T := TX8) (N := 10) (v := .ref a0_lies) 0 rfl rfl 5 (by decide) (by decide +kernel) (by decide +kernel) rfl dX8_place_23 rfl ?_
  refine z_iload_n h dX8_place_26 1 rfl rfl ?_
  refine z_bipush h (v := (-6 : Int32)) dX8_place_27 (by decide) rfl ?_
  obtain ⟨hg8, hf⟩ := gd_some hf
  refine z_iast h (w2 := [(a0, .inr (8, [.ref a0_air, .ref a0_cell, .ref a0_hours, .ref a0_owes, .ref a0_holds, .ref a0_lies, .ref a0_goods, .ref a0_liking, .int c0_hour, .int c0_day])), (a0_cell, .inl (G.2.1, 6, .inl (upd c0_cell (x1).toNatClampNeg x2))), (a0_hours, .inl (G.2.1, 6, .inl (upd c0_hours (x1).toNatClampNeg x3))), (a0_owes, .inl (G.2.1, 6, .inl (upd c0_owes (x1).toNatClampNeg x4))), (a0_lies, .inl (G.2.1, 6, .inl (upd c0_lies (x1).toNatClampNeg (-6 : Int32)))), (a0_holds, .inl (G.2.1, 6, .inl c0_holds))]) 4 rfl rfl hg8 dX8_place_29 rfl rfl ?_
  refine z_aload_n h dX8_place_30 0 rfl rfl ?_
  refine z_get h (C := RX8) (T := TX8) (N := 10) (v := .ref a0_holds) 0 rfl rfl 4 (by decide) (by decide +kernel) (by decide +kernel) rfl dX8_place_31 rfl ?_
  refine z_iload_n h dX8_place_34 1 rfl rfl ?_
  refine z_bipush h (v := (-6 : Int32)) dX8_place_35 (by decide) rfl ?_
  obtain ⟨hg9, hf⟩ := gd_some hf
  refine z_iast h (w2 := [(a0, .inr (8, [.ref a0_air, .ref a0_cell, .ref a0_hours, .ref a0_owes, .ref a0_holds, .ref a0_lies, .ref a0_goods, .ref a0_liking, .int c0_hour, .int c0_day])), (a0_cell, .inl (G.2.1, 6, .inl (upd c0_cell (x1).toNatClampNeg x2))), (a0_hours, .inl (G.2.1, 6, .inl (upd c0_hours (x1).toNatClampNeg x3))), (a0_owes, .inl (G.2.1, 6, .inl (upd c0_owes (x1).toNatClampNeg x4))), (a0_lies, .inl (G.2.1, 6, .inl (upd c0_lies (x1).toNatClampNeg (-6 : Int32)))), (a0_holds, .inl (G.2.1, 6, .inl (upd c0_holds (x1).toNatClampNeg (-6 : Int32))))]) 5 rfl rfl hg9 dX8_place_37 rfl rfl ?_
  refine z_iconst h (v := (0 : Int32)) dX8_place_38 (by decide) rfl ?_
  refine z_istore h (lv2 := [(5, .int (0 : Int32)), (0, .ref a0), (1, .int x1), (2, .int x2), (3, .int x3), (4, .int x4)]) dX8_place_39 (by decide) rfl rfl ?_
  refine z_locs h (lv2 := [(0, .ref a0), (1, .int x1), (5, .int (0 : Int32))]) [1, 2, 0] rfl ?_
  exact hL41 zF (upd c0_cell (x1).toNatClampNeg x2) (upd c0_hours (x1).toNatClampNeg x3) (upd c0_owes (x1).toNatClampNeg x4) (upd c0_lies (x1).toNatClampNeg (-6 : Int32)) (upd c0_holds (x1).toNatClampNeg (-6 : Int32)) (0 : Int32) hf
def fX8_fillPurse (c0_goods : Nat → Int32) (x1 : Int32) (x2 : Int32) (x3 : Int32) (x4 : Int32) : Option ((Nat → Int32)) := gd (inb (x1 * (3 : Int32)) 18) (gd (inb ((x1 * (3 : Int32)) + (1 : Int32)) 18) (gd (inb ((x1 * (3 : Int32)) + (2 : Int32)) 18) ((some (upd (upd (upd c0_goods ((x1 * (3 : Int32))).toNatClampNeg x2) (((x1 * (3 : Int32)) + (1 : Int32))).toNatClampNeg x3) (((x1 * (3 : Int32)) + (2 : Int32))).toNatClampNeg x4)))))
abbrev rmX8_fillPurse : Room := { frames := 0, cells := 0, slots := 0, locals := 0 }
set_option maxRecDepth 100000 in
set_option maxHeartbeats 4000000 in
theorem ctX8_fillPurse (l : Launch) (G : zG) (a0 a0_air a0_cell a0_hours a0_owes a0_holds a0_lies a0_goods a0_liking : Nat) (c0_hour : Int32) (c0_day : Int32) (c0_goods : Nat → Int32) (x1 : Int32) (x2 : Int32) (x3 : Int32) (x4 : Int32) {R : (Nat → Int32)} (hf : fX8_fillPurse c0_goods x1 x2 x3 x4 = some R) : zCt l yX8_fillPurse wsX8_fillPurse rmX8_fillPurse G [(a0, .inr (8, [.ref a0_air, .ref a0_cell, .ref a0_hours, .ref a0_owes, .ref a0_holds, .ref a0_lies, .ref a0_goods, .ref a0_liking, .int c0_hour, .int c0_day])), (a0_goods, .inl (G.2.1, 18, .inl c0_goods))] [.ref a0, .int x1, .int x2, .int x3, .int x4] (fun v w => v = none ∧ w = [(a0, .inr (8, [.ref a0_air, .ref a0_cell, .ref a0_hours, .ref a0_owes, .ref a0_holds, .ref a0_lies, .ref a0_goods, .ref a0_liking, .int c0_hour, .int c0_day])), (a0_goods, .inl (G.2.1, 18, .inl R))]) := by
  refine zMkV (own := RX8) false (by decide) (by decide +kernel) rfl rfl (Nat.le_of_ble_eq_true rfl) ?_
  intro Z h hret
  rw [fX8_fillPurse] at hf
  show Z 0 0 _ [(0, .ref a0), (1, .int x1), (2, .int x2), (3, .int x3), (4, .int x4)] 0 []
  refine z_aload_n h dX8_fillPurse_0 0 rfl rfl ?_
  refine z_get h (C := RX8) (T := TX8) (N := 10) (v := .ref a0_goods) 0 rfl rfl 6 (by decide) (by decide +kernel) (by decide +kernel) rfl dX8_fillPurse_1 rfl ?_
  refine z_iload_n h dX8_fillPurse_4 1 rfl rfl ?_
  refine z_iconst h (v := (3 : Int32)) dX8_fillPurse_5 (by decide) rfl ?_
  refine z_imul h dX8_fillPurse_6 rfl ?_
  refine z_iload_n h dX8_fillPurse_7 2 rfl rfl ?_
  obtain ⟨hg1, hf⟩ := gd_some hf
  refine z_iast h (w2 := [(a0, .inr (8, [.ref a0_air, .ref a0_cell, .ref a0_hours, .ref a0_owes, .ref a0_holds, .ref a0_lies, .ref a0_goods, .ref a0_liking, .int c0_hour, .int c0_day])), (a0_goods, .inl (G.2.1, 18, .inl (upd c0_goods ((x1 * (3 : Int32))).toNatClampNeg x2)))]) 1 rfl rfl hg1 dX8_fillPurse_8 rfl rfl ?_
  refine z_aload_n h dX8_fillPurse_9 0 rfl rfl ?_
  refine z_get h (C := RX8) (T := TX8) (N := 10) (v := .ref a0_goods) 0 rfl rfl 6 (by decide) (by decide +kernel) (by decide +kernel) rfl dX8_fillPurse_10 rfl ?_
  refine z_iload_n h dX8_fillPurse_13 1 rfl rfl ?_
  refine z_iconst h (v := (3 : Int32)) dX8_fillPurse_14 (by decide) rfl ?_
  refine z_imul h dX8_fillPurse_15 rfl ?_
  refine z_iconst h (v := (1 : Int32)) dX8_fillPurse_16 (by decide) rfl ?_
  refine z_iadd h dX8_fillPurse_17 rfl ?_
  refine z_iload_n h dX8_fillPurse_18 3 rfl rfl ?_
  obtain ⟨hg2, hf⟩ := gd_some hf
  refine z_iast h (w2 := [(a0, .inr (8, [.ref a0_air, .ref a0_cell, .ref a0_hours, .ref a0_owes, .ref a0_holds, .ref a0_lies, .ref a0_goods, .ref a0_liking, .int c0_hour, .int c0_day])), (a0_goods, .inl (G.2.1, 18, .inl (upd (upd c0_goods ((x1 * (3 : Int32))).toNatClampNeg x2) (((x1 * (3 : Int32)) + (1 : Int32))).toNatClampNeg x3)))]) 1 rfl rfl hg2 dX8_fillPurse_19 rfl rfl ?_
  refine z_aload_n h dX8_fillPurse_20 0 rfl rfl ?_
  refine z_get h (C := RX8) (T := TX8) (N := 10) (v := .ref a0_goods) 0 rfl rfl 6 (by decide) (by decide +kernel) (by decide +kernel) rfl dX8_fillPurse_21 rfl ?_
  refine z_iload_n h dX8_fillPurse_24 1 rfl rfl ?_
  refine z_iconst h (v := (3 : Int32)) dX8_fillPurse_25 (by decide) rfl ?_
  refine z_imul h dX8_fillPurse_26 rfl ?_
  refine z_iconst h (v := (2 : Int32)) dX8_fillPurse_27 (by decide) rfl ?_
  refine z_iadd h dX8_fillPurse_28 rfl ?_
  refine z_iload h dX8_fillPurse_29 4 rfl rfl ?_
  obtain ⟨hg3, hf⟩ := gd_some hf
  refine z_iast h (w2 := [(a0, .inr (8, [.ref a0_air, .ref a0_cell, .ref a0_hours, .ref a0_owes, .ref a0_holds, .ref a0_lies, .ref a0_goods, .ref a0_liking, .int c0_hour, .int c0_day])), (a0_goods, .inl (G.2.1, 18, .inl (upd (upd (upd c0_goods ((x1 * (3 : Int32))).toNatClampNeg x2) (((x1 * (3 : Int32)) + (1 : Int32))).toNatClampNeg x3) (((x1 * (3 : Int32)) + (2 : Int32))).toNatClampNeg x4)))]) 1 rfl rfl hg3 dX8_fillPurse_31 rfl rfl ?_
  have hf := Option.some.inj hf
  subst hf
  exact hret _ _ _ dX8_fillPurse_32 ⟨rfl, rfl⟩
def fX8_purseOf (c0_goods : Nat → Int32) (x1 : Int32) : Option (Int32) := Option.bind (fX8_goodsOf c0_goods x1 (0 : Int32)) (fun v1 => Option.bind (fX8_goodsOf c0_goods x1 (1 : Int32)) (fun v2 => Option.bind (fX8_goodsOf c0_goods x1 (2 : Int32)) (fun v3 => Option.bind (fX11_code v1 v2 v3) (fun v4 => (some v4)))))
abbrev rmX8_purseOf : Room := { frames := 1, cells := 0, slots := 0, locals := 22 }
set_option maxRecDepth 100000 in
set_option maxHeartbeats 4000000 in
theorem ctX8_purseOf (l : Launch) (G : zG) (a0 a0_air a0_cell a0_hours a0_owes a0_holds a0_lies a0_goods a0_liking : Nat) (c0_hour : Int32) (c0_day : Int32) (c0_goods : Nat → Int32) (x1 : Int32) {R : Int32} (hf : fX8_purseOf c0_goods x1 = some R) : zCt l yX8_purseOf wsX8_purseOf rmX8_purseOf G [(a0, .inr (8, [.ref a0_air, .ref a0_cell, .ref a0_hours, .ref a0_owes, .ref a0_holds, .ref a0_lies, .ref a0_goods, .ref a0_liking, .int c0_hour, .int c0_day])), (a0_goods, .inl (G.2.1, 18, .inl c0_goods))] [.ref a0, .int x1] (fun v w => v = some (.int (R)) ∧ w = [(a0, .inr (8, [.ref a0_air, .ref a0_cell, .ref a0_hours, .ref a0_owes, .ref a0_holds, .ref a0_lies, .ref a0_goods, .ref a0_liking, .int c0_hour, .int c0_day])), (a0_goods, .inl (G.2.1, 18, .inl c0_goods))]) := by
  refine zMkI (own := RX8) false (by decide) (by decide +kernel) rfl rfl (Nat.le_of_ble_eq_true rfl) ?_
  intro Z h hret
  rw [fX8_purseOf] at hf
  show Z 0 0 _ [(0, .ref a0), (1, .int x1)] 0 []
  refine z_aload_n h dX8_purseOf_0 0 rfl rfl ?_
  refine z_iload_n h dX8_purseOf_1 1 rfl rfl ?_
  refine z_iconst h (v := (0 : Int32)) dX8_purseOf_2 (by decide) rfl ?_
  obtain ⟨v1, hv1, hf⟩ := bd_some hf
  refine z_callV h (np := 2) (st := []) (wr := []) [.int x1, .int (0 : Int32)] (ctX8_goodsOf l G a0 a0_air a0_cell a0_hours a0_owes a0_holds a0_lies a0_goods a0_liking c0_hour c0_day c0_goods x1 (0 : Int32) hv1) gX8_purseOf_X8_goodsOf (by decide +kernel) 0 rfl rfl rfl ⟨Nat.le_of_ble_eq_true rfl, Nat.le_of_ble_eq_true rfl⟩ ⟨Nat.le_refl _, Nat.le_refl _⟩ rfl rfl rfl [0, 1] [] rfl rfl rfl rfl (by decide) (Nat.le_of_ble_eq_true rfl) dX8_purseOf_3 rfl rfl (fun rv1 wv1 hrv1 => ?_)
  obtain ⟨rfl, rfl⟩ := hrv1
  refine z_perm h (w2 := [(a0, .inr (8, [.ref a0_air, .ref a0_cell, .ref a0_hours, .ref a0_owes, .ref a0_holds, .ref a0_lies, .ref a0_goods, .ref a0_liking, .int c0_hour, .int c0_day])), (a0_goods, .inl (G.2.1, 18, .inl c0_goods))]) (st := [.int v1]) [0, 1] rfl rfl ?_
  refine z_aload_n h dX8_purseOf_6 0 rfl rfl ?_
  refine z_iload_n h dX8_purseOf_7 1 rfl rfl ?_
  refine z_iconst h (v := (1 : Int32)) dX8_purseOf_8 (by decide) rfl ?_
  obtain ⟨v2, hv2, hf⟩ := bd_some hf
  refine z_callV h (np := 2) (st := [.int v1]) (wr := []) [.int x1, .int (1 : Int32)] (ctX8_goodsOf l G a0 a0_air a0_cell a0_hours a0_owes a0_holds a0_lies a0_goods a0_liking c0_hour c0_day c0_goods x1 (1 : Int32) hv2) gX8_purseOf_X8_goodsOf (by decide +kernel) 0 rfl rfl rfl ⟨Nat.le_of_ble_eq_true rfl, Nat.le_of_ble_eq_true rfl⟩ ⟨Nat.le_refl _, Nat.le_refl _⟩ rfl rfl rfl [0, 1] [] rfl rfl rfl rfl (by decide) (Nat.le_of_ble_eq_true rfl) dX8_purseOf_9 rfl rfl (fun rv2 wv2 hrv2 => ?_)
  obtain ⟨rfl, rfl⟩ := hrv2
  refine z_perm h (w2 := [(a0, .inr (8, [.ref a0_air, .ref a0_cell, .ref a0_hours, .ref a0_owes, .ref a0_holds, .ref a0_lies, .ref a0_goods, .ref a0_liking, .int c0_hour, .int c0_day])), (a0_goods, .inl (G.2.1, 18, .inl c0_goods))]) (st := [.int v2, .int v1]) [0, 1] rfl rfl ?_
  refine z_aload_n h dX8_purseOf_12 0 rfl rfl ?_
  refine z_iload_n h dX8_purseOf_13 1 rfl rfl ?_
  refine z_iconst h (v := (2 : Int32)) dX8_purseOf_14 (by decide) rfl ?_
  obtain ⟨v3, hv3, hf⟩ := bd_some hf
  refine z_callV h (np := 2) (st := [.int v2, .int v1]) (wr := []) [.int x1, .int (2 : Int32)] (ctX8_goodsOf l G a0 a0_air a0_cell a0_hours a0_owes a0_holds a0_lies a0_goods a0_liking c0_hour c0_day c0_goods x1 (2 : Int32) hv3) gX8_purseOf_X8_goodsOf (by decide +kernel) 0 rfl rfl rfl ⟨Nat.le_of_ble_eq_true rfl, Nat.le_of_ble_eq_true rfl⟩ ⟨Nat.le_refl _, Nat.le_refl _⟩ rfl rfl rfl [0, 1] [] rfl rfl rfl rfl (by decide) (Nat.le_of_ble_eq_true rfl) dX8_purseOf_15 rfl rfl (fun rv3 wv3 hrv3 => ?_)
  obtain ⟨rfl, rfl⟩ := hrv3
  refine z_perm h (w2 := [(a0, .inr (8, [.ref a0_air, .ref a0_cell, .ref a0_hours, .ref a0_owes, .ref a0_holds, .ref a0_lies, .ref a0_goods, .ref a0_liking, .int c0_hour, .int c0_day])), (a0_goods, .inl (G.2.1, 18, .inl c0_goods))]) (st := [.int v3, .int v2, .int v1]) [0, 1] rfl rfl ?_
  obtain ⟨v4, hv4, hf⟩ := bd_some hf
  refine z_callSN h (np := 3) (st := []) (wr := [(a0, .inr (8, [.ref a0_air, .ref a0_cell, .ref a0_hours, .ref a0_owes, .ref a0_holds, .ref a0_lies, .ref a0_goods, .ref a0_liking, .int c0_hour, .int c0_day])), (a0_goods, .inl (G.2.1, 18, .inl c0_goods))]) [.int v1, .int v2, .int v3] (ctX11_code l G v1 v2 v3 hv4) gX8_purseOf_X11_code_n61 (by decide +kernel) (by decide +kernel) (by decide +kernel) (by decide +kernel) rfl ⟨Nat.le_of_ble_eq_true rfl, Nat.le_of_ble_eq_true rfl⟩ ⟨Nat.le_refl _, Nat.le_refl _⟩ rfl rfl rfl [] [0, 1] rfl rfl rfl rfl (by decide) (Nat.le_of_ble_eq_true rfl) dX8_purseOf_18 rfl rfl (fun rv4 wv4 hrv4 => ?_)
  obtain ⟨rfl, rfl⟩ := hrv4
  refine z_perm h (w2 := [(a0, .inr (8, [.ref a0_air, .ref a0_cell, .ref a0_hours, .ref a0_owes, .ref a0_holds, .ref a0_lies, .ref a0_goods, .ref a0_liking, .int c0_hour, .int c0_day])), (a0_goods, .inl (G.2.1, 18, .inl c0_goods))]) (st := [.int v4]) [0, 1] rfl rfl ?_
  have hf := Option.some.inj hf
  subst hf
  exact hret _ _ _ _ dX8_purseOf_21 ⟨rfl, rfl⟩
def fX8_ofWalker (c0_cell : Nat → Int32) (c0_hours : Nat → Int32) (c0_owes : Nat → Int32) (c0_holds : Nat → Int32) (c0_lies : Nat → Int32) (c0_goods : Nat → Int32) (x1 : Int32) (x2 : Int32) : Option (Int32) := (if x2 = (0 : Int32) then gd (inb x1 6) ((some (c0_cell (x1).toNatClampNeg))) else if x2 = (1 : Int32) then gd (inb x1 6) ((some (c0_hours (x1).toNatClampNeg))) else if x2 = (2 : Int32) then gd (inb x1 6) ((some (c0_owes (x1).toNatClampNeg))) else if x2 = (3 : Int32) then gd (inb x1 6) ((some (c0_holds (x1).toNatClampNeg))) else if x2 = (4 : Int32) then gd (inb x1 6) ((some (c0_lies (x1).toNatClampNeg))) else if x2 = (5 : Int32) then Option.bind (fX8_goodsOf c0_goods x1 (0 : Int32)) (fun v12 => (some v12)) else if x2 = (6 : Int32) then Option.bind (fX8_goodsOf c0_goods x1 (1 : Int32)) (fun v14 => (some v14)) else Option.bind (fX8_goodsOf c0_goods x1 (2 : Int32)) (fun v15 => (some v15)))
abbrev rmX8_ofWalker : Room := { frames := 1, cells := 0, slots := 0, locals := 22 }
set_option maxRecDepth 100000 in
set_option maxHeartbeats 4000000 in
theorem ctX8_ofWalker (l : Launch) (G : zG) (a0 a0_air a0_cell a0_hours a0_owes a0_holds a0_lies a0_goods a0_liking : Nat) (c0_hour : Int32) (c0_day : Int32) (c0_cell : Nat → Int32) (c0_hours : Nat → Int32) (c0_owes : Nat → Int32) (c0_holds : Nat → Int32) (c0_lies : Nat → Int32) (c0_goods : Nat → Int32) (x1 : Int32) (x2 : Int32) {R : Int32} (hf : fX8_ofWalker c0_cell c0_hours c0_owes c0_holds c0_lies c0_goods x1 x2 = some R) : zCt l yX8_ofWalker wsX8_ofWalker rmX8_ofWalker G [(a0, .inr (8, [.ref a0_air, .ref a0_cell, .ref a0_hours, .ref a0_owes, .ref a0_holds, .ref a0_lies, .ref a0_goods, .ref a0_liking, .int c0_hour, .int c0_day])), (a0_cell, .inl (G.2.1, 6, .inl c0_cell)), (a0_hours, .inl (G.2.1, 6, .inl c0_hours)), (a0_owes, .inl (G.2.1, 6, .inl c0_owes)), (a0_holds, .inl (G.2.1, 6, .inl c0_holds)), (a0_lies, .inl (G.2.1, 6, .inl c0_lies)), (a0_goods, .inl (G.2.1, 18, .inl c0_goods))] [.ref a0, .int x1, .int x2] (fun v w => v = some (.int (R)) ∧ w = [(a0, .inr (8, [.ref a0_air, .ref a0_cell, .ref a0_hours, .ref a0_owes, .ref a0_holds, .ref a0_lies, .ref a0_goods, .ref a0_liking, .int c0_hour, .int c0_day])), (a0_cell, .inl (G.2.1, 6, .inl c0_cell)), (a0_hours, .inl (G.2.1, 6, .inl c0_hours)), (a0_owes, .inl (G.2.1, 6, .inl c0_owes)), (a0_holds, .inl (G.2.1, 6, .inl c0_holds)), (a0_lies, .inl (G.2.1, 6, .inl c0_lies)), (a0_goods, .inl (G.2.1, 18, .inl c0_goods))]) := by
  refine zMkI (own := RX8) false (by decide) (by decide +kernel) rfl rfl (Nat.le_of_ble_eq_true rfl) ?_
  intro Z h hret
  rw [fX8_ofWalker] at hf
  show Z 0 0 _ [(0, .ref a0), (1, .int x1), (2, .int x2)] 0 []
  refine z_iload_n h dX8_ofWalker_0 2 rfl rfl ?_
  by_cases c1 : x2 = (0 : Int32)
  · have hf := ite_t hf c1
    refine z_tableIn h (off := 43) (tgt := 44) dX8_ofWalker_1 (0 : Int32) c1 (by decide) (by decide) (by decide) (by decide) ?_
    refine z_aload_n h dX8_ofWalker_44 0 rfl rfl ?_
    refine z_get h (C := RX8) (T := TX8) (N := 10) (v := .ref a0_cell) 0 rfl rfl 1 (by decide) (by decide +kernel) (by decide +kernel) rfl dX8_ofWalker_45 rfl ?_
    refine z_iload_n h dX8_ofWalker_48 1 rfl rfl ?_
    obtain ⟨hg2, hf⟩ := gd_some hf
    refine z_iald h 1 rfl rfl hg2 dX8_ofWalker_49 rfl ?_
    have hf := Option.some.inj hf
    subst hf
    exact hret _ _ _ _ dX8_ofWalker_50 ⟨rfl, rfl⟩
  have hf := ite_f hf c1
  by_cases c3 : x2 = (1 : Int32)
  · have hf := ite_t hf c3
    refine z_tableIn h (off := 50) (tgt := 51) dX8_ofWalker_1 (1 : Int32) c3 (by decide) (by decide) (by decide) (by decide) ?_
    refine z_aload_n h dX8_ofWalker_51 0 rfl rfl ?_
    refine z_get h (C := RX8) (T := TX8) (N := 10) (v := .ref a0_hours) 0 rfl rfl 2 (by decide) (by decide +kernel) (by decide +kernel) rfl dX8_ofWalker_52 rfl ?_
    refine z_iload_n h dX8_ofWalker_55 1 rfl rfl ?_
    obtain ⟨hg4, hf⟩ := gd_some hf
    refine z_iald h 2 rfl rfl hg4 dX8_ofWalker_56 rfl ?_
    have hf := Option.some.inj hf
    subst hf
    exact hret _ _ _ _ dX8_ofWalker_57 ⟨rfl, rfl⟩
  have hf := ite_f hf c3
  by_cases c5 : x2 = (2 : Int32)
  · have hf := ite_t hf c5
    refine z_tableIn h (off := 57) (tgt := 58) dX8_ofWalker_1 (2 : Int32) c5 (by decide) (by decide) (by decide) (by decide) ?_
    refine z_aload_n h dX8_ofWalker_58 0 rfl rfl ?_
    refine z_get h (C := RX8) (T := TX8) (N := 10) (v := .ref a0_owes) 0 rfl rfl 3 (by decide) (by decide +kernel) (by decide +kernel) rfl dX8_ofWalker_59 rfl ?_
    refine z_iload_n h dX8_ofWalker_62 1 rfl rfl ?_
    obtain ⟨hg6, hf⟩ := gd_some hf
    refine z_iald h 3 rfl rfl hg6 dX8_ofWalker_63 rfl ?_
    have hf := Option.some.inj hf
    subst hf
    exact hret _ _ _ _ dX8_ofWalker_64 ⟨rfl, rfl⟩
  have hf := ite_f hf c5
  by_cases c7 : x2 = (3 : Int32)
  · have hf := ite_t hf c7
    refine z_tableIn h (off := 64) (tgt := 65) dX8_ofWalker_1 (3 : Int32) c7 (by decide) (by decide) (by decide) (by decide) ?_
    refine z_aload_n h dX8_ofWalker_65 0 rfl rfl ?_
    refine z_get h (C := RX8) (T := TX8) (N := 10) (v := .ref a0_holds) 0 rfl rfl 4 (by decide) (by decide +kernel) (by decide +kernel) rfl dX8_ofWalker_66 rfl ?_
    refine z_iload_n h dX8_ofWalker_69 1 rfl rfl ?_
    obtain ⟨hg8, hf⟩ := gd_some hf
    refine z_iald h 4 rfl rfl hg8 dX8_ofWalker_70 rfl ?_
    have hf := Option.some.inj hf
    subst hf
    exact hret _ _ _ _ dX8_ofWalker_71 ⟨rfl, rfl⟩
  have hf := ite_f hf c7
  by_cases c9 : x2 = (4 : Int32)
  · have hf := ite_t hf c9
    refine z_tableIn h (off := 71) (tgt := 72) dX8_ofWalker_1 (4 : Int32) c9 (by decide) (by decide) (by decide) (by decide) ?_
    refine z_aload_n h dX8_ofWalker_72 0 rfl rfl ?_
    refine z_get h (C := RX8) (T := TX8) (N := 10) (v := .ref a0_lies) 0 rfl rfl 5 (by decide) (by decide +kernel) (by decide +kernel) rfl dX8_ofWalker_73 rfl ?_
    refine z_iload_n h dX8_ofWalker_76 1 rfl rfl ?_
    obtain ⟨hg10, hf⟩ := gd_some hf
    refine z_iald h 5 rfl rfl hg10 dX8_ofWalker_77 rfl ?_
    have hf := Option.some.inj hf
    subst hf
    exact hret _ _ _ _ dX8_ofWalker_78 ⟨rfl, rfl⟩
  have hf := ite_f hf c9
  by_cases c11 : x2 = (5 : Int32)
  · have hf := ite_t hf c11
    refine z_tableIn h (off := 78) (tgt := 79) dX8_ofWalker_1 (5 : Int32) c11 (by decide) (by decide) (by decide) (by decide) ?_
    refine z_aload_n h dX8_ofWalker_79 0 rfl rfl ?_
    refine z_iload_n h dX8_ofWalker_80 1 rfl rfl ?_
    refine z_iconst h (v := (0 : Int32)) dX8_ofWalker_81 (by decide) rfl ?_
    obtain ⟨v12, hv12, hf⟩ := bd_some hf
    refine z_callV h (np := 2) (st := []) (wr := [(a0_cell, .inl (G.2.1, 6, .inl c0_cell)), (a0_hours, .inl (G.2.1, 6, .inl c0_hours)), (a0_owes, .inl (G.2.1, 6, .inl c0_owes)), (a0_holds, .inl (G.2.1, 6, .inl c0_holds)), (a0_lies, .inl (G.2.1, 6, .inl c0_lies))]) [.int x1, .int (0 : Int32)] (ctX8_goodsOf l G a0 a0_air a0_cell a0_hours a0_owes a0_holds a0_lies a0_goods a0_liking c0_hour c0_day c0_goods x1 (0 : Int32) hv12) gX8_ofWalker_X8_goodsOf (by decide +kernel) 0 rfl rfl rfl ⟨Nat.le_of_ble_eq_true rfl, Nat.le_of_ble_eq_true rfl⟩ ⟨Nat.le_refl _, Nat.le_refl _⟩ rfl rfl rfl [0, 6] [1, 2, 3, 4, 5] rfl rfl rfl rfl (by decide) (Nat.le_of_ble_eq_true rfl) dX8_ofWalker_82 rfl rfl (fun rv12 wv12 hrv12 => ?_)
    obtain ⟨rfl, rfl⟩ := hrv12
    refine z_perm h (w2 := [(a0, .inr (8, [.ref a0_air, .ref a0_cell, .ref a0_hours, .ref a0_owes, .ref a0_holds, .ref a0_lies, .ref a0_goods, .ref a0_liking, .int c0_hour, .int c0_day])), (a0_cell, .inl (G.2.1, 6, .inl c0_cell)), (a0_hours, .inl (G.2.1, 6, .inl c0_hours)), (a0_owes, .inl (G.2.1, 6, .inl c0_owes)), (a0_holds, .inl (G.2.1, 6, .inl c0_holds)), (a0_lies, .inl (G.2.1, 6, .inl c0_lies)), (a0_goods, .inl (G.2.1, 18, .inl c0_goods))]) (st := [.int v12]) [5, 0, 1, 2, 3, 4, 6] rfl rfl ?_
    have hf := Option.some.inj hf
    subst hf
    exact hret _ _ _ _ dX8_ofWalker_85 ⟨rfl, rfl⟩
  have hf := ite_f hf c11
  by_cases c13 : x2 = (6 : Int32)
  · have hf := ite_t hf c13
    refine z_tableIn h (off := 85) (tgt := 86) dX8_ofWalker_1 (6 : Int32) c13 (by decide) (by decide) (by decide) (by decide) ?_
    refine z_aload_n h dX8_ofWalker_86 0 rfl rfl ?_
    refine z_iload_n h dX8_ofWalker_87 1 rfl rfl ?_
    refine z_iconst h (v := (1 : Int32)) dX8_ofWalker_88 (by decide) rfl ?_
    obtain ⟨v14, hv14, hf⟩ := bd_some hf
    refine z_callV h (np := 2) (st := []) (wr := [(a0_cell, .inl (G.2.1, 6, .inl c0_cell)), (a0_hours, .inl (G.2.1, 6, .inl c0_hours)), (a0_owes, .inl (G.2.1, 6, .inl c0_owes)), (a0_holds, .inl (G.2.1, 6, .inl c0_holds)), (a0_lies, .inl (G.2.1, 6, .inl c0_lies))]) [.int x1, .int (1 : Int32)] (ctX8_goodsOf l G a0 a0_air a0_cell a0_hours a0_owes a0_holds a0_lies a0_goods a0_liking c0_hour c0_day c0_goods x1 (1 : Int32) hv14) gX8_ofWalker_X8_goodsOf (by decide +kernel) 0 rfl rfl rfl ⟨Nat.le_of_ble_eq_true rfl, Nat.le_of_ble_eq_true rfl⟩ ⟨Nat.le_refl _, Nat.le_refl _⟩ rfl rfl rfl [0, 6] [1, 2, 3, 4, 5] rfl rfl rfl rfl (by decide) (Nat.le_of_ble_eq_true rfl) dX8_ofWalker_89 rfl rfl (fun rv14 wv14 hrv14 => ?_)
    obtain ⟨rfl, rfl⟩ := hrv14
    refine z_perm h (w2 := [(a0, .inr (8, [.ref a0_air, .ref a0_cell, .ref a0_hours, .ref a0_owes, .ref a0_holds, .ref a0_lies, .ref a0_goods, .ref a0_liking, .int c0_hour, .int c0_day])), (a0_cell, .inl (G.2.1, 6, .inl c0_cell)), (a0_hours, .inl (G.2.1, 6, .inl c0_hours)), (a0_owes, .inl (G.2.1, 6, .inl c0_owes)), (a0_holds, .inl (G.2.1, 6, .inl c0_holds)), (a0_lies, .inl (G.2.1, 6, .inl c0_lies)), (a0_goods, .inl (G.2.1, 18, .inl c0_goods))]) (st := [.int v14]) [5, 0, 1, 2, 3, 4, 6] rfl rfl ?_
    have hf := Option.some.inj hf
    subst hf
    exact hret _ _ _ _ dX8_ofWalker_92 ⟨rfl, rfl⟩
  have hf := ite_f hf c13
  refine z_tableOut h (tgt := 93) dX8_ofWalker_1 (z_tout 7 (by decide) (by decide) (by decide) (fun j hj => match j, hj with
    | 0, _ => c1
    | 1, _ => c3
    | 2, _ => c5
    | 3, _ => c7
    | 4, _ => c9
    | 5, _ => c11
    | 6, _ => c13
    | j + 7, hj => absurd hj (by omega))) (by decide) ?_
  refine z_aload_n h dX8_ofWalker_93 0 rfl rfl ?_
  refine z_iload_n h dX8_ofWalker_94 1 rfl rfl ?_
  refine z_iconst h (v := (2 : Int32)) dX8_ofWalker_95 (by decide) rfl ?_
  obtain ⟨v15, hv15, hf⟩ := bd_some hf
  refine z_callV h (np := 2) (st := []) (wr := [(a0_cell, .inl (G.2.1, 6, .inl c0_cell)), (a0_hours, .inl (G.2.1, 6, .inl c0_hours)), (a0_owes, .inl (G.2.1, 6, .inl c0_owes)), (a0_holds, .inl (G.2.1, 6, .inl c0_holds)), (a0_lies, .inl (G.2.1, 6, .inl c0_lies))]) [.int x1, .int (2 : Int32)] (ctX8_goodsOf l G a0 a0_air a0_cell a0_hours a0_owes a0_holds a0_lies a0_goods a0_liking c0_hour c0_day c0_goods x1 (2 : Int32) hv15) gX8_ofWalker_X8_goodsOf (by decide +kernel) 0 rfl rfl rfl ⟨Nat.le_of_ble_eq_true rfl, Nat.le_of_ble_eq_true rfl⟩ ⟨Nat.le_refl _, Nat.le_refl _⟩ rfl rfl rfl [0, 6] [1, 2, 3, 4, 5] rfl rfl rfl rfl (by decide) (Nat.le_of_ble_eq_true rfl) dX8_ofWalker_96 rfl rfl (fun rv15 wv15 hrv15 => ?_)
  obtain ⟨rfl, rfl⟩ := hrv15
  refine z_perm h (w2 := [(a0, .inr (8, [.ref a0_air, .ref a0_cell, .ref a0_hours, .ref a0_owes, .ref a0_holds, .ref a0_lies, .ref a0_goods, .ref a0_liking, .int c0_hour, .int c0_day])), (a0_cell, .inl (G.2.1, 6, .inl c0_cell)), (a0_hours, .inl (G.2.1, 6, .inl c0_hours)), (a0_owes, .inl (G.2.1, 6, .inl c0_owes)), (a0_holds, .inl (G.2.1, 6, .inl c0_holds)), (a0_lies, .inl (G.2.1, 6, .inl c0_lies)), (a0_goods, .inl (G.2.1, 18, .inl c0_goods))]) (st := [.int v15]) [5, 0, 1, 2, 3, 4, 6] rfl rfl ?_
  have hf := Option.some.inj hf
  subst hf
  exact hret _ _ _ _ dX8_ofWalker_99 ⟨rfl, rfl⟩
def fX8_hushed_b46 (c0_hour : Int32) (c0_hours : Nat → Int32) (c0_owes : Nat → Int32) (c0_holds : Nat → Int32) (K4 : (Int32 → Int32 → Option (Int32))) (x1 : Int32) (x2 : Int32) : Option (Int32) := (K4 x1 (x2 + (1 : Int32)))
def fX8_hushed_L4 (c0_hour : Int32) (c0_hours : Nat → Int32) (c0_owes : Nat → Int32) (c0_holds : Nat → Int32)  : Nat → Int32 → Int32 → Option (Int32)
  | 0, _, _ => none
  | n + 1, x1, x2 => (if (6 : Int32) ≤ x2 then (some x1) else Option.bind (fX8_atPeace c0_hour c0_hours c0_owes x2) (fun v2 => (if v2 = (0 : Int32) then (fX8_hushed_b46 c0_hour c0_hours c0_owes c0_holds (fX8_hushed_L4 c0_hour c0_hours c0_owes c0_holds  n) x1 x2) else gd (inb x2 6) ((if (c0_holds (x2).toNatClampNeg) = (-6 : Int32) then (fX8_hushed_b46 c0_hour c0_hours c0_owes c0_holds (fX8_hushed_L4 c0_hour c0_hours c0_owes c0_holds  n) (x1 ||| (sl (1 : Int32) x2)) x2) else gd (inb x2 6) ((fX8_hushed_b46 c0_hour c0_hours c0_owes c0_holds (fX8_hushed_L4 c0_hour c0_hours c0_owes c0_holds  n) ((x1 ||| (sl (1 : Int32) x2)) ||| (sl (1 : Int32) (c0_holds (x2).toNatClampNeg))) x2)))))))
def fX8_hushed (c0_hour : Int32) (c0_hours : Nat → Int32) (c0_owes : Nat → Int32) (c0_holds : Nat → Int32)  : Option (Int32) := (fX8_hushed_L4 c0_hour c0_hours c0_owes c0_holds  zF (0 : Int32) (0 : Int32))
abbrev rmX8_hushed : Room := { frames := 2, cells := 0, slots := 0, locals := 42 }
set_option maxRecDepth 100000 in
set_option maxHeartbeats 4000000 in
theorem ctX8_hushed (l : Launch) (G : zG) (a0 a0_air a0_cell a0_hours a0_owes a0_holds a0_lies a0_goods a0_liking : Nat) (c0_hour : Int32) (c0_day : Int32) (c0_hours : Nat → Int32) (c0_owes : Nat → Int32) (c0_holds : Nat → Int32)  {R : Int32} (hf : fX8_hushed c0_hour c0_hours c0_owes c0_holds = some R) : zCt l yX8_hushed wsX8_hushed rmX8_hushed G [(a0, .inr (8, [.ref a0_air, .ref a0_cell, .ref a0_hours, .ref a0_owes, .ref a0_holds, .ref a0_lies, .ref a0_goods, .ref a0_liking, .int c0_hour, .int c0_day])), (a0_hours, .inl (G.2.1, 6, .inl c0_hours)), (a0_owes, .inl (G.2.1, 6, .inl c0_owes)), (a0_holds, .inl (G.2.1, 6, .inl c0_holds))] [.ref a0] (fun v w => v = some (.int (R)) ∧ w = [(a0, .inr (8, [.ref a0_air, .ref a0_cell, .ref a0_hours, .ref a0_owes, .ref a0_holds, .ref a0_lies, .ref a0_goods, .ref a0_liking, .int c0_hour, .int c0_day])), (a0_hours, .inl (G.2.1, 6, .inl c0_hours)), (a0_owes, .inl (G.2.1, 6, .inl c0_owes)), (a0_holds, .inl (G.2.1, 6, .inl c0_holds))]) := by
  refine zMkI (own := RX8) false (by decide) (by decide +kernel) rfl rfl (Nat.le_of_ble_eq_true rfl) ?_
  intro Z h hret
  have hL4 : ∀ (n4 : Nat) (x1 : Int32) (x2 : Int32), fX8_hushed_L4 c0_hour c0_hours c0_owes c0_holds  n4 x1 x2 = some R → Z 0 0 [(a0, .inr (8, [.ref a0_air, .ref a0_cell, .ref a0_hours, .ref a0_owes, .ref a0_holds, .ref a0_lies, .ref a0_goods, .ref a0_liking, .int c0_hour, .int c0_day])), (a0_hours, .inl (G.2.1, 6, .inl c0_hours)), (a0_owes, .inl (G.2.1, 6, .inl c0_owes)), (a0_holds, .inl (G.2.1, 6, .inl c0_holds))] [(0, .ref a0), (1, .int x1), (2, .int x2)] 4 [] := by
    intro n4
    induction n4 with
    | zero =>
      intro x1 x2 hf
      rw [fX8_hushed_L4] at hf
      cases hf
    | succ n4 ih4 =>
      have hB46 : ∀ (x1 : Int32) (x2 : Int32), fX8_hushed_b46 c0_hour c0_hours c0_owes c0_holds (fX8_hushed_L4 c0_hour c0_hours c0_owes c0_holds  n4) x1 x2 = some R → Z 0 0 [(a0, .inr (8, [.ref a0_air, .ref a0_cell, .ref a0_hours, .ref a0_owes, .ref a0_holds, .ref a0_lies, .ref a0_goods, .ref a0_liking, .int c0_hour, .int c0_day])), (a0_hours, .inl (G.2.1, 6, .inl c0_hours)), (a0_owes, .inl (G.2.1, 6, .inl c0_owes)), (a0_holds, .inl (G.2.1, 6, .inl c0_holds))] [(0, .ref a0), (1, .int x1), (2, .int x2)] 46 [] := by
        intro x1 x2 hf
        rw [fX8_hushed_b46] at hf
        refine z_iinc h (v := (x2 + (1 : Int32))) (lv2 := [(2, .int (x2 + (1 : Int32))), (0, .ref a0), (1, .int x1)]) (j := 2) dX8_hushed_46 rfl rfl (by decide) rfl rfl ?_
        refine z_goto h (tgt := 4) dX8_hushed_49 (by decide) ?_
        refine z_locs h (lv2 := [(0, .ref a0), (1, .int x1), (2, .int (x2 + (1 : Int32)))]) [1, 2, 0] rfl ?_
        exact ih4 x1 (x2 + (1 : Int32)) hf
      intro x1 x2 hf
      rw [fX8_hushed_L4] at hf
      refine z_iload_n h dX8_hushed_4 2 rfl rfl ?_
      refine z_bipush h (v := (6 : Int32)) dX8_hushed_5 (by decide) rfl ?_
      refine z_icmp_ge h (tgt := 52) dX8_hushed_7 (by decide) rfl (fun c1 => ?_) (fun c1 => ?_)
      · have hf := ite_t hf c1
        refine z_iload_n h dX8_hushed_52 1 rfl rfl ?_
        have hf := Option.some.inj hf
        subst hf
        exact hret _ _ _ _ dX8_hushed_53 ⟨rfl, rfl⟩
      have hf := ite_f hf c1
      refine z_aload_n h dX8_hushed_10 0 rfl rfl ?_
      refine z_iload_n h dX8_hushed_11 2 rfl rfl ?_
      obtain ⟨v2, hv2, hf⟩ := bd_some hf
      refine z_callV h (np := 1) (st := []) (wr := [(a0_holds, .inl (G.2.1, 6, .inl c0_holds))]) [.int x2] (ctX8_atPeace l G a0 a0_air a0_cell a0_hours a0_owes a0_holds a0_lies a0_goods a0_liking c0_hour c0_day c0_hours c0_owes x2 hv2) gX8_hushed_X8_atPeace (by decide +kernel) 0 rfl rfl rfl ⟨Nat.le_of_ble_eq_true rfl, Nat.le_of_ble_eq_true rfl⟩ ⟨Nat.le_refl _, Nat.le_refl _⟩ rfl rfl rfl [0, 1, 2] [3] rfl rfl rfl rfl (by decide) (Nat.le_of_ble_eq_true rfl) dX8_hushed_12 rfl rfl (fun rv2 wv2 hrv2 => ?_)
      obtain ⟨rfl, rfl⟩ := hrv2
      refine z_perm h (w2 := [(a0, .inr (8, [.ref a0_air, .ref a0_cell, .ref a0_hours, .ref a0_owes, .ref a0_holds, .ref a0_lies, .ref a0_goods, .ref a0_liking, .int c0_hour, .int c0_day])), (a0_hours, .inl (G.2.1, 6, .inl c0_hours)), (a0_owes, .inl (G.2.1, 6, .inl c0_owes)), (a0_holds, .inl (G.2.1, 6, .inl c0_holds))]) (st := [.int v2]) [1, 2, 3, 0] rfl rfl ?_
      refine z_if_eq h (tgt := 46) dX8_hushed_15 (by decide) rfl (fun c3 => ?_) (fun c3 => ?_)
      · have hf := ite_t hf c3
        exact hB46 x1 x2 hf
      have hf := ite_f hf c3
      refine z_iload_n h dX8_hushed_18 1 rfl rfl ?_
      refine z_iconst h (v := (1 : Int32)) dX8_hushed_19 (by decide) rfl ?_
      refine z_iload_n h dX8_hushed_20 2 rfl rfl ?_
      refine z_ishl h dX8_hushed_21 rfl ?_
      refine z_ior h dX8_hushed_22 rfl ?_
      refine z_istore_n h (lv2 := [(1, .int (x1 ||| (sl (1 : Int32) x2))), (0, .ref a0), (2, .int x2)]) dX8_hushed_23 (by decide) rfl rfl ?_
      refine z_aload_n h dX8_hushed_24 1 rfl rfl ?_
      refine z_get h (C := RX8) (T := TX8) (N := 10) (v := .ref a0_holds) 0 rfl rfl 4 (by decide) (by decide +kernel) (by decide +kernel) rfl dX8_hushed_25 rfl ?_
      refine z_iload_n h dX8_hushed_28 2 rfl rfl ?_
      obtain ⟨hg4, hf⟩ := gd_some hf
      refine z_iald h 3 rfl rfl hg4 dX8_hushed_29 rfl ?_
      refine z_bipush h (v := (-6 : Int32)) dX8_hushed_30 (by decide) rfl ?_
      refine z_icmp_eq h (tgt := 46) dX8_hushed_32 (by decide) rfl (fun c5 => ?_) (fun c5 => ?_)
      · have hf := ite_t hf c5
        refine z_locs h (lv2 := [(0, .ref a0), (1, .int (x1 ||| (sl (1 : Int32) x2))), (2, .int x2)]) [1, 0, 2] rfl ?_
        exact hB46 (x1 ||| (sl (1 : Int32) x2)) x2 hf
      have hf := ite_f hf c5
      refine z_iload_n h dX8_hushed_35 0 rfl rfl ?_
      refine z_iconst h (v := (1 : Int32)) dX8_hushed_36 (by decide) rfl ?_
      refine z_aload_n h dX8_hushed_37 1 rfl rfl ?_
      refine z_get h (C := RX8) (T := TX8) (N := 10) (v := .ref a0_holds) 0 rfl rfl 4 (by decide) (by decide +kernel) (by decide +kernel) rfl dX8_hushed_38 rfl ?_
      refine z_iload_n h dX8_hushed_41 2 rfl rfl ?_
      obtain ⟨hg6, hf⟩ := gd_some hf
      refine z_iald h 3 rfl rfl hg6 dX8_hushed_42 rfl ?_
      refine z_ishl h dX8_hushed_43 rfl ?_
      refine z_ior h dX8_hushed_44 rfl ?_
      refine z_istore_n h (lv2 := [(1, .int ((x1 ||| (sl (1 : Int32) x2)) ||| (sl (1 : Int32) (c0_holds (x2).toNatClampNeg)))), (0, .ref a0), (2, .int x2)]) dX8_hushed_45 (by decide) rfl rfl ?_
      refine z_locs h (lv2 := [(0, .ref a0), (1, .int ((x1 ||| (sl (1 : Int32) x2)) ||| (sl (1 : Int32) (c0_holds (x2).toNatClampNeg)))), (2, .int x2)]) [1, 0, 2] rfl ?_
      exact hB46 ((x1 ||| (sl (1 : Int32) x2)) ||| (sl (1 : Int32) (c0_holds (x2).toNatClampNeg))) x2 hf
  rw [fX8_hushed] at hf
  show Z 0 0 _ [(0, .ref a0)] 0 []
  refine z_iconst h (v := (0 : Int32)) dX8_hushed_0 (by decide) rfl ?_
  refine z_istore_n h (lv2 := [(1, .int (0 : Int32)), (0, .ref a0)]) dX8_hushed_1 (by decide) rfl rfl ?_
  refine z_iconst h (v := (0 : Int32)) dX8_hushed_2 (by decide) rfl ?_
  refine z_istore_n h (lv2 := [(2, .int (0 : Int32)), (1, .int (0 : Int32)), (0, .ref a0)]) dX8_hushed_3 (by decide) rfl rfl ?_
  refine z_locs h (lv2 := [(0, .ref a0), (1, .int (0 : Int32)), (2, .int (0 : Int32))]) [2, 1, 0] rfl ?_
  exact hL4 zF (0 : Int32) (0 : Int32) hf
def fX8_ofAll (c0_hour : Int32) (c0_day : Int32) (c0_hours : Nat → Int32) (c0_owes : Nat → Int32) (c0_holds : Nat → Int32) (c0_air_cell : Int32) (c0_air_way : Int32) (c0_air_force : Int32) (x1 : Int32) : Option (Int32) := (if x1 = (0 : Int32) then (some c0_air_cell) else if x1 = (1 : Int32) then (some c0_air_way) else if x1 = (2 : Int32) then (some c0_air_force) else if x1 = (3 : Int32) then (some c0_hour) else if x1 = (4 : Int32) then (some c0_day) else Option.bind (fX8_hushed c0_hour c0_hours c0_owes c0_holds) (fun v6 => (some v6)))
abbrev rmX8_ofAll : Room := { frames := 3, cells := 0, slots := 0, locals := 64 }
set_option maxRecDepth 100000 in
set_option maxHeartbeats 4000000 in
theorem ctX8_ofAll (l : Launch) (G : zG) (a0 a0_air a0_cell a0_hours a0_owes a0_holds a0_lies a0_goods a0_liking : Nat) (c0_hour : Int32) (c0_day : Int32) (c0_hours : Nat → Int32) (c0_owes : Nat → Int32) (c0_holds : Nat → Int32) (c0_air_cell : Int32) (c0_air_way : Int32) (c0_air_force : Int32) (x1 : Int32) {R : Int32} (hf : fX8_ofAll c0_hour c0_day c0_hours c0_owes c0_holds c0_air_cell c0_air_way c0_air_force x1 = some R) : zCt l yX8_ofAll wsX8_ofAll rmX8_ofAll G [(a0, .inr (8, [.ref a0_air, .ref a0_cell, .ref a0_hours, .ref a0_owes, .ref a0_holds, .ref a0_lies, .ref a0_goods, .ref a0_liking, .int c0_hour, .int c0_day])), (a0_hours, .inl (G.2.1, 6, .inl c0_hours)), (a0_owes, .inl (G.2.1, 6, .inl c0_owes)), (a0_holds, .inl (G.2.1, 6, .inl c0_holds)), (a0_air, .inr (10, [.int c0_air_cell, .int c0_air_way, .int c0_air_force]))] [.ref a0, .int x1] (fun v w => v = some (.int (R)) ∧ w = [(a0, .inr (8, [.ref a0_air, .ref a0_cell, .ref a0_hours, .ref a0_owes, .ref a0_holds, .ref a0_lies, .ref a0_goods, .ref a0_liking, .int c0_hour, .int c0_day])), (a0_hours, .inl (G.2.1, 6, .inl c0_hours)), (a0_owes, .inl (G.2.1, 6, .inl c0_owes)), (a0_holds, .inl (G.2.1, 6, .inl c0_holds)), (a0_air, .inr (10, [.int c0_air_cell, .int c0_air_way, .int c0_air_force]))]) := by
  refine zMkI (own := RX8) false (by decide) (by decide +kernel) rfl rfl (Nat.le_of_ble_eq_true rfl) ?_
  intro Z h hret
  rw [fX8_ofAll] at hf
  show Z 0 0 _ [(0, .ref a0), (1, .int x1)] 0 []
  refine z_iload_n h dX8_ofAll_0 1 rfl rfl ?_
  by_cases c1 : x1 = (0 : Int32)
  · have hf := ite_t hf c1
    refine z_tableIn h (off := 35) (tgt := 36) dX8_ofAll_1 (0 : Int32) c1 (by decide) (by decide) (by decide) (by decide) ?_
    refine z_aload_n h dX8_ofAll_36 0 rfl rfl ?_
    refine z_get h (C := RX8) (T := TX8) (N := 10) (v := .ref a0_air) 0 rfl rfl 0 (by decide) (by decide +kernel) (by decide +kernel) rfl dX8_ofAll_37 rfl ?_
    refine z_get h (C := RX10) (T := TX10) (N := 3) (v := .int c0_air_cell) 4 rfl rfl 0 (by decide) (by decide +kernel) (by decide +kernel) rfl dX8_ofAll_40 rfl ?_
    have hf := Option.some.inj hf
    subst hf
    exact hret _ _ _ _ dX8_ofAll_43 ⟨rfl, rfl⟩
  have hf := ite_f hf c1
  by_cases c2 : x1 = (1 : Int32)
  · have hf := ite_t hf c2
    refine z_tableIn h (off := 43) (tgt := 44) dX8_ofAll_1 (1 : Int32) c2 (by decide) (by decide) (by decide) (by decide) ?_
    refine z_aload_n h dX8_ofAll_44 0 rfl rfl ?_
    refine z_get h (C := RX8) (T := TX8) (N := 10) (v := .ref a0_air) 0 rfl rfl 0 (by decide) (by decide +kernel) (by decide +kernel) rfl dX8_ofAll_45 rfl ?_
    refine z_get h (C := RX10) (T := TX10) (N := 3) (v := .int c0_air_way) 4 rfl rfl 1 (by decide) (by decide +kernel) (by decide +kernel) rfl dX8_ofAll_48 rfl ?_
    have hf := Option.some.inj hf
    subst hf
    exact hret _ _ _ _ dX8_ofAll_51 ⟨rfl, rfl⟩
  have hf := ite_f hf c2
  by_cases c3 : x1 = (2 : Int32)
  · have hf := ite_t hf c3
    refine z_tableIn h (off := 51) (tgt := 52) dX8_ofAll_1 (2 : Int32) c3 (by decide) (by decide) (by decide) (by decide) ?_
    refine z_aload_n h dX8_ofAll_52 0 rfl rfl ?_
    refine z_get h (C := RX8) (T := TX8) (N := 10) (v := .ref a0_air) 0 rfl rfl 0 (by decide) (by decide +kernel) (by decide +kernel) rfl dX8_ofAll_53 rfl ?_
    refine z_get h (C := RX10) (T := TX10) (N := 3) (v := .int c0_air_force) 4 rfl rfl 2 (by decide) (by decide +kernel) (by decide +kernel) rfl dX8_ofAll_56 rfl ?_
    have hf := Option.some.inj hf
    subst hf
    exact hret _ _ _ _ dX8_ofAll_59 ⟨rfl, rfl⟩
  have hf := ite_f hf c3
  by_cases c4 : x1 = (3 : Int32)
  · have hf := ite_t hf c4
    refine z_tableIn h (off := 59) (tgt := 60) dX8_ofAll_1 (3 : Int32) c4 (by decide) (by decide) (by decide) (by decide) ?_
    refine z_aload_n h dX8_ofAll_60 0 rfl rfl ?_
    refine z_get h (C := RX8) (T := TX8) (N := 10) (v := .int c0_hour) 0 rfl rfl 8 (by decide) (by decide +kernel) (by decide +kernel) rfl dX8_ofAll_61 rfl ?_
    have hf := Option.some.inj hf
    subst hf
    exact hret _ _ _ _ dX8_ofAll_64 ⟨rfl, rfl⟩
  have hf := ite_f hf c4
  by_cases c5 : x1 = (4 : Int32)
  · have hf := ite_t hf c5
    refine z_tableIn h (off := 64) (tgt := 65) dX8_ofAll_1 (4 : Int32) c5 (by decide) (by decide) (by decide) (by decide) ?_
    refine z_aload_n h dX8_ofAll_65 0 rfl rfl ?_
    refine z_get h (C := RX8) (T := TX8) (N := 10) (v := .int c0_day) 0 rfl rfl 9 (by decide) (by decide +kernel) (by decide +kernel) rfl dX8_ofAll_66 rfl ?_
    have hf := Option.some.inj hf
    subst hf
    exact hret _ _ _ _ dX8_ofAll_69 ⟨rfl, rfl⟩
  have hf := ite_f hf c5
  refine z_tableOut h (tgt := 70) dX8_ofAll_1 (z_tout 5 (by decide) (by decide) (by decide) (fun j hj => match j, hj with
    | 0, _ => c1
    | 1, _ => c2
    | 2, _ => c3
    | 3, _ => c4
    | 4, _ => c5
    | j + 5, hj => absurd hj (by omega))) (by decide) ?_
  refine z_aload_n h dX8_ofAll_70 0 rfl rfl ?_
  obtain ⟨v6, hv6, hf⟩ := bd_some hf
  refine z_callV h (np := 0) (st := []) (wr := [(a0_air, .inr (10, [.int c0_air_cell, .int c0_air_way, .int c0_air_force]))]) [] (ctX8_hushed l G a0 a0_air a0_cell a0_hours a0_owes a0_holds a0_lies a0_goods a0_liking c0_hour c0_day c0_hours c0_owes c0_holds hv6) gX8_ofAll_X8_hushed (by decide +kernel) 0 rfl rfl rfl ⟨Nat.le_of_ble_eq_true rfl, Nat.le_of_ble_eq_true rfl⟩ ⟨Nat.le_refl _, Nat.le_refl _⟩ rfl rfl rfl [0, 1, 2, 3] [4] rfl rfl rfl rfl (by decide) (Nat.le_of_ble_eq_true rfl) dX8_ofAll_71 rfl rfl (fun rv6 wv6 hrv6 => ?_)
  obtain ⟨rfl, rfl⟩ := hrv6
  refine z_perm h (w2 := [(a0, .inr (8, [.ref a0_air, .ref a0_cell, .ref a0_hours, .ref a0_owes, .ref a0_holds, .ref a0_lies, .ref a0_goods, .ref a0_liking, .int c0_hour, .int c0_day])), (a0_hours, .inl (G.2.1, 6, .inl c0_hours)), (a0_owes, .inl (G.2.1, 6, .inl c0_owes)), (a0_holds, .inl (G.2.1, 6, .inl c0_holds)), (a0_air, .inr (10, [.int c0_air_cell, .int c0_air_way, .int c0_air_force]))]) (st := [.int v6]) [1, 2, 3, 4, 0] rfl rfl ?_
  have hf := Option.some.inj hf
  subst hf
  exact hret _ _ _ _ dX8_ofAll_74 ⟨rfl, rfl⟩
def fX8_bareHeads_b27 (c0_lies : Nat → Int32) (K4 : (Int32 → Int32 → Option (Int32))) (x1 : Int32) (x2 : Int32) : Option (Int32) := (K4 x1 (x2 + (1 : Int32)))
def fX8_bareHeads_L4 (c0_lies : Nat → Int32)  : Nat → Int32 → Int32 → Option (Int32)
  | 0, _, _ => none
  | n + 1, x1, x2 => (if (6 : Int32) ≤ x2 then (some x1) else gd (inb x2 6) ((if (c0_lies (x2).toNatClampNeg) = (-6 : Int32) then (fX8_bareHeads_b27 c0_lies (fX8_bareHeads_L4 c0_lies  n) x1 x2) else (fX8_bareHeads_b27 c0_lies (fX8_bareHeads_L4 c0_lies  n) (x1 ||| (sl (1 : Int32) x2)) x2))))
def fX8_bareHeads (c0_lies : Nat → Int32)  : Option (Int32) := (fX8_bareHeads_L4 c0_lies  zF (0 : Int32) (0 : Int32))
abbrev rmX8_bareHeads : Room := { frames := 0, cells := 0, slots := 0, locals := 0 }
set_option maxRecDepth 100000 in
set_option maxHeartbeats 4000000 in
theorem ctX8_bareHeads (l : Launch) (G : zG) (a0 a0_air a0_cell a0_hours a0_owes a0_holds a0_lies a0_goods a0_liking : Nat) (c0_hour : Int32) (c0_day : Int32) (c0_lies : Nat → Int32)  {R : Int32} (hf : fX8_bareHeads c0_lies = some R) : zCt l yX8_bareHeads wsX8_bareHeads rmX8_bareHeads G [(a0, .inr (8, [.ref a0_air, .ref a0_cell, .ref a0_hours, .ref a0_owes, .ref a0_holds, .ref a0_lies, .ref a0_goods, .ref a0_liking, .int c0_hour, .int c0_day])), (a0_lies, .inl (G.2.1, 6, .inl c0_lies))] [.ref a0] (fun v w => v = some (.int (R)) ∧ w = [(a0, .inr (8, [.ref a0_air, .ref a0_cell, .ref a0_hours, .ref a0_owes, .ref a0_holds, .ref a0_lies, .ref a0_goods, .ref a0_liking, .int c0_hour, .int c0_day])), (a0_lies, .inl (G.2.1, 6, .inl c0_lies))]) := by
  refine zMkI (own := RX8) false (by decide) (by decide +kernel) rfl rfl (Nat.le_of_ble_eq_true rfl) ?_
  intro Z h hret
  have hL4 : ∀ (n4 : Nat) (x1 : Int32) (x2 : Int32), fX8_bareHeads_L4 c0_lies  n4 x1 x2 = some R → Z 0 0 [(a0, .inr (8, [.ref a0_air, .ref a0_cell, .ref a0_hours, .ref a0_owes, .ref a0_holds, .ref a0_lies, .ref a0_goods, .ref a0_liking, .int c0_hour, .int c0_day])), (a0_lies, .inl (G.2.1, 6, .inl c0_lies))] [(0, .ref a0), (1, .int x1), (2, .int x2)] 4 [] := by
    intro n4
    induction n4 with
    | zero =>
      intro x1 x2 hf
      rw [fX8_bareHeads_L4] at hf
      cases hf
    | succ n4 ih4 =>
      have hB27 : ∀ (x1 : Int32) (x2 : Int32), fX8_bareHeads_b27 c0_lies (fX8_bareHeads_L4 c0_lies  n4) x1 x2 = some R → Z 0 0 [(a0, .inr (8, [.ref a0_air, .ref a0_cell, .ref a0_hours, .ref a0_owes, .ref a0_holds, .ref a0_lies, .ref a0_goods, .ref a0_liking, .int c0_hour, .int c0_day])), (a0_lies, .inl (G.2.1, 6, .inl c0_lies))] [(0, .ref a0), (1, .int x1), (2, .int x2)] 27 [] := by
        intro x1 x2 hf
        rw [fX8_bareHeads_b27] at hf
        refine z_iinc h (v := (x2 + (1 : Int32))) (lv2 := [(2, .int (x2 + (1 : Int32))), (0, .ref a0), (1, .int x1)]) (j := 2) dX8_bareHeads_27 rfl rfl (by decide) rfl rfl ?_
        refine z_goto h (tgt := 4) dX8_bareHeads_30 (by decide) ?_
        refine z_locs h (lv2 := [(0, .ref a0), (1, .int x1), (2, .int (x2 + (1 : Int32)))]) [1, 2, 0] rfl ?_
        exact ih4 x1 (x2 + (1 : Int32)) hf
      intro x1 x2 hf
      rw [fX8_bareHeads_L4] at hf
      refine z_iload_n h dX8_bareHeads_4 2 rfl rfl ?_
      refine z_bipush h (v := (6 : Int32)) dX8_bareHeads_5 (by decide) rfl ?_
      refine z_icmp_ge h (tgt := 33) dX8_bareHeads_7 (by decide) rfl (fun c1 => ?_) (fun c1 => ?_)
      · have hf := ite_t hf c1
        refine z_iload_n h dX8_bareHeads_33 1 rfl rfl ?_
        have hf := Option.some.inj hf
        subst hf
        exact hret _ _ _ _ dX8_bareHeads_34 ⟨rfl, rfl⟩
      have hf := ite_f hf c1
      refine z_aload_n h dX8_bareHeads_10 0 rfl rfl ?_
      refine z_get h (C := RX8) (T := TX8) (N := 10) (v := .ref a0_lies) 0 rfl rfl 5 (by decide) (by decide +kernel) (by decide +kernel) rfl dX8_bareHeads_11 rfl ?_
      refine z_iload_n h dX8_bareHeads_14 2 rfl rfl ?_
      obtain ⟨hg2, hf⟩ := gd_some hf
      refine z_iald h 1 rfl rfl hg2 dX8_bareHeads_15 rfl ?_
      refine z_bipush h (v := (-6 : Int32)) dX8_bareHeads_16 (by decide) rfl ?_
      refine z_icmp_eq h (tgt := 27) dX8_bareHeads_18 (by decide) rfl (fun c3 => ?_) (fun c3 => ?_)
      · have hf := ite_t hf c3
        exact hB27 x1 x2 hf
      have hf := ite_f hf c3
      refine z_iload_n h dX8_bareHeads_21 1 rfl rfl ?_
      refine z_iconst h (v := (1 : Int32)) dX8_bareHeads_22 (by decide) rfl ?_
      refine z_iload_n h dX8_bareHeads_23 2 rfl rfl ?_
      refine z_ishl h dX8_bareHeads_24 rfl ?_
      refine z_ior h dX8_bareHeads_25 rfl ?_
      refine z_istore_n h (lv2 := [(1, .int (x1 ||| (sl (1 : Int32) x2))), (0, .ref a0), (2, .int x2)]) dX8_bareHeads_26 (by decide) rfl rfl ?_
      refine z_locs h (lv2 := [(0, .ref a0), (1, .int (x1 ||| (sl (1 : Int32) x2))), (2, .int x2)]) [1, 0, 2] rfl ?_
      exact hB27 (x1 ||| (sl (1 : Int32) x2)) x2 hf
  rw [fX8_bareHeads] at hf
  show Z 0 0 _ [(0, .ref a0)] 0 []
  refine z_iconst h (v := (0 : Int32)) dX8_bareHeads_0 (by decide) rfl ?_
  refine z_istore_n h (lv2 := [(1, .int (0 : Int32)), (0, .ref a0)]) dX8_bareHeads_1 (by decide) rfl rfl ?_
  refine z_iconst h (v := (0 : Int32)) dX8_bareHeads_2 (by decide) rfl ?_
  refine z_istore_n h (lv2 := [(2, .int (0 : Int32)), (1, .int (0 : Int32)), (0, .ref a0)]) dX8_bareHeads_3 (by decide) rfl rfl ?_
  refine z_locs h (lv2 := [(0, .ref a0), (1, .int (0 : Int32)), (2, .int (0 : Int32))]) [2, 1, 0] rfl ?_
  exact hL4 zF (0 : Int32) (0 : Int32) hf
def fX8_owedByAll_L4 (c0_owes : Nat → Int32)  : Nat → Int32 → Int32 → Option (Int32)
  | 0, _, _ => none
  | n + 1, x1, x2 => (if (6 : Int32) ≤ x2 then (some x1) else gd (inb x2 6) (((fX8_owedByAll_L4 c0_owes  n) (x1 + (c0_owes (x2).toNatClampNeg)) (x2 + (1 : Int32)))))
def fX8_owedByAll (c0_owes : Nat → Int32)  : Option (Int32) := (fX8_owedByAll_L4 c0_owes  zF (0 : Int32) (0 : Int32))
abbrev rmX8_owedByAll : Room := { frames := 0, cells := 0, slots := 0, locals := 0 }
set_option maxRecDepth 100000 in
set_option maxHeartbeats 4000000 in
theorem ctX8_owedByAll (l : Launch) (G : zG) (a0 a0_air a0_cell a0_hours a0_owes a0_holds a0_lies a0_goods a0_liking : Nat) (c0_hour : Int32) (c0_day : Int32) (c0_owes : Nat → Int32)  {R : Int32} (hf : fX8_owedByAll c0_owes = some R) : zCt l yX8_owedByAll wsX8_owedByAll rmX8_owedByAll G [(a0, .inr (8, [.ref a0_air, .ref a0_cell, .ref a0_hours, .ref a0_owes, .ref a0_holds, .ref a0_lies, .ref a0_goods, .ref a0_liking, .int c0_hour, .int c0_day])), (a0_owes, .inl (G.2.1, 6, .inl c0_owes))] [.ref a0] (fun v w => v = some (.int (R)) ∧ w = [(a0, .inr (8, [.ref a0_air, .ref a0_cell, .ref a0_hours, .ref a0_owes, .ref a0_holds, .ref a0_lies, .ref a0_goods, .ref a0_liking, .int c0_hour, .int c0_day])), (a0_owes, .inl (G.2.1, 6, .inl c0_owes))]) := by
  refine zMkI (own := RX8) false (by decide) (by decide +kernel) rfl rfl (Nat.le_of_ble_eq_true rfl) ?_
  intro Z h hret
  have hL4 : ∀ (n4 : Nat) (x1 : Int32) (x2 : Int32), fX8_owedByAll_L4 c0_owes  n4 x1 x2 = some R → Z 0 0 [(a0, .inr (8, [.ref a0_air, .ref a0_cell, .ref a0_hours, .ref a0_owes, .ref a0_holds, .ref a0_lies, .ref a0_goods, .ref a0_liking, .int c0_hour, .int c0_day])), (a0_owes, .inl (G.2.1, 6, .inl c0_owes))] [(0, .ref a0), (1, .int x1), (2, .int x2)] 4 [] := by
    intro n4
    induction n4 with
    | zero =>
      intro x1 x2 hf
      rw [fX8_owedByAll_L4] at hf
      cases hf
    | succ n4 ih4 =>
      intro x1 x2 hf
      rw [fX8_owedByAll_L4] at hf
      refine z_iload_n h dX8_owedByAll_4 2 rfl rfl ?_
      refine z_bipush h (v := (6 : Int32)) dX8_owedByAll_5 (by decide) rfl ?_
      refine z_icmp_ge h (tgt := 25) dX8_owedByAll_7 (by decide) rfl (fun c1 => ?_) (fun c1 => ?_)
      · have hf := ite_t hf c1
        refine z_iload_n h dX8_owedByAll_25 1 rfl rfl ?_
        have hf := Option.some.inj hf
        subst hf
        exact hret _ _ _ _ dX8_owedByAll_26 ⟨rfl, rfl⟩
      have hf := ite_f hf c1
      refine z_iload_n h dX8_owedByAll_10 1 rfl rfl ?_
      refine z_aload_n h dX8_owedByAll_11 0 rfl rfl ?_
      refine z_get h (C := RX8) (T := TX8) (N := 10) (v := .ref a0_owes) 0 rfl rfl 3 (by decide) (by decide +kernel) (by decide +kernel) rfl dX8_owedByAll_12 rfl ?_
      refine z_iload_n h dX8_owedByAll_15 2 rfl rfl ?_
      obtain ⟨hg2, hf⟩ := gd_some hf
      refine z_iald h 1 rfl rfl hg2 dX8_owedByAll_16 rfl ?_
      refine z_iadd h dX8_owedByAll_17 rfl ?_
      refine z_istore_n h (lv2 := [(1, .int (x1 + (c0_owes (x2).toNatClampNeg))), (0, .ref a0), (2, .int x2)]) dX8_owedByAll_18 (by decide) rfl rfl ?_
      refine z_iinc h (v := (x2 + (1 : Int32))) (lv2 := [(2, .int (x2 + (1 : Int32))), (1, .int (x1 + (c0_owes (x2).toNatClampNeg))), (0, .ref a0)]) (j := 2) dX8_owedByAll_19 rfl rfl (by decide) rfl rfl ?_
      refine z_goto h (tgt := 4) dX8_owedByAll_22 (by decide) ?_
      refine z_locs h (lv2 := [(0, .ref a0), (1, .int (x1 + (c0_owes (x2).toNatClampNeg))), (2, .int (x2 + (1 : Int32)))]) [2, 1, 0] rfl ?_
      exact ih4 (x1 + (c0_owes (x2).toNatClampNeg)) (x2 + (1 : Int32)) hf
  rw [fX8_owedByAll] at hf
  show Z 0 0 _ [(0, .ref a0)] 0 []
  refine z_iconst h (v := (0 : Int32)) dX8_owedByAll_0 (by decide) rfl ?_
  refine z_istore_n h (lv2 := [(1, .int (0 : Int32)), (0, .ref a0)]) dX8_owedByAll_1 (by decide) rfl rfl ?_
  refine z_iconst h (v := (0 : Int32)) dX8_owedByAll_2 (by decide) rfl ?_
  refine z_istore_n h (lv2 := [(2, .int (0 : Int32)), (1, .int (0 : Int32)), (0, .ref a0)]) dX8_owedByAll_3 (by decide) rfl rfl ?_
  refine z_locs h (lv2 := [(0, .ref a0), (1, .int (0 : Int32)), (2, .int (0 : Int32))]) [2, 1, 0] rfl ?_
  exact hL4 zF (0 : Int32) (0 : Int32) hf
def fX8_isHeld_L2 (c0_holds : Nat → Int32) (x1 : Int32)  : Nat → Int32 → Option (Int32)
  | 0, _ => none
  | n + 1, x2 => (if (6 : Int32) ≤ x2 then (some (0 : Int32)) else gd (inb x2 6) ((if (c0_holds (x2).toNatClampNeg) = x1 then (some (1 : Int32)) else ((fX8_isHeld_L2 c0_holds x1  n) (x2 + (1 : Int32))))))
def fX8_isHeld (c0_holds : Nat → Int32) (x1 : Int32) : Option (Int32) := (fX8_isHeld_L2 c0_holds x1  zF (0 : Int32))
abbrev rmX8_isHeld : Room := { frames := 0, cells := 0, slots := 0, locals := 0 }
set_option maxRecDepth 100000 in
set_option maxHeartbeats 4000000 in
theorem ctX8_isHeld (l : Launch) (G : zG) (a0 a0_air a0_cell a0_hours a0_owes a0_holds a0_lies a0_goods a0_liking : Nat) (c0_hour : Int32) (c0_day : Int32) (c0_holds : Nat → Int32) (x1 : Int32) {R : Int32} (hf : fX8_isHeld c0_holds x1 = some R) : zCt l yX8_isHeld wsX8_isHeld rmX8_isHeld G [(a0, .inr (8, [.ref a0_air, .ref a0_cell, .ref a0_hours, .ref a0_owes, .ref a0_holds, .ref a0_lies, .ref a0_goods, .ref a0_liking, .int c0_hour, .int c0_day])), (a0_holds, .inl (G.2.1, 6, .inl c0_holds))] [.ref a0, .int x1] (fun v w => v = some (.int (R)) ∧ w = [(a0, .inr (8, [.ref a0_air, .ref a0_cell, .ref a0_hours, .ref a0_owes, .ref a0_holds, .ref a0_lies, .ref a0_goods, .ref a0_liking, .int c0_hour, .int c0_day])), (a0_holds, .inl (G.2.1, 6, .inl c0_holds))]) := by
  refine zMkB (own := RX8) false (by decide) (by decide +kernel) rfl rfl (Nat.le_of_ble_eq_true rfl) ?_
  intro Z h hret
  have hL2 : ∀ (n2 : Nat) (x2 : Int32), fX8_isHeld_L2 c0_holds x1  n2 x2 = some R → Z 0 0 [(a0, .inr (8, [.ref a0_air, .ref a0_cell, .ref a0_hours, .ref a0_owes, .ref a0_holds, .ref a0_lies, .ref a0_goods, .ref a0_liking, .int c0_hour, .int c0_day])), (a0_holds, .inl (G.2.1, 6, .inl c0_holds))] [(0, .ref a0), (1, .int x1), (2, .int x2)] 2 [] := by
    intro n2
    induction n2 with
    | zero =>
      intro x2 hf
      rw [fX8_isHeld_L2] at hf
      cases hf
    | succ n2 ih2 =>
      intro x2 hf
      rw [fX8_isHeld_L2] at hf
      refine z_iload_n h dX8_isHeld_2 2 rfl rfl ?_
      refine z_bipush h (v := (6 : Int32)) dX8_isHeld_3 (by decide) rfl ?_
      refine z_icmp_ge h (tgt := 26) dX8_isHeld_5 (by decide) rfl (fun c1 => ?_) (fun c1 => ?_)
      · have hf := ite_t hf c1
        refine z_iconst h (v := (0 : Int32)) dX8_isHeld_26 (by decide) rfl ?_
        have hf := Option.some.inj hf
        subst hf
        exact hret _ _ _ _ dX8_isHeld_27 (by decide) ⟨rfl, rfl⟩
      have hf := ite_f hf c1
      refine z_aload_n h dX8_isHeld_8 0 rfl rfl ?_
      refine z_get h (C := RX8) (T := TX8) (N := 10) (v := .ref a0_holds) 0 rfl rfl 4 (by decide) (by decide +kernel) (by decide +kernel) rfl dX8_isHeld_9 rfl ?_
      refine z_iload_n h dX8_isHeld_12 2 rfl rfl ?_
      obtain ⟨hg2, hf⟩ := gd_some hf
      refine z_iald h 1 rfl rfl hg2 dX8_isHeld_13 rfl ?_
      refine z_iload_n h dX8_isHeld_14 1 rfl rfl ?_
      refine z_icmp_ne h (tgt := 20) dX8_isHeld_15 (by decide) rfl (fun c3 => ?_) (fun c3 => ?_)
      · have hf := ite_f hf c3
        refine z_iinc h (v := (x2 + (1 : Int32))) (lv2 := [(2, .int (x2 + (1 : Int32))), (0, .ref a0), (1, .int x1)]) (j := 2) dX8_isHeld_20 rfl rfl (by decide) rfl rfl ?_
        refine z_goto h (tgt := 2) dX8_isHeld_23 (by decide) ?_
        refine z_locs h (lv2 := [(0, .ref a0), (1, .int x1), (2, .int (x2 + (1 : Int32)))]) [1, 2, 0] rfl ?_
        exact ih2 (x2 + (1 : Int32)) hf
      have hf := ite_t hf c3
      refine z_iconst h (v := (1 : Int32)) dX8_isHeld_18 (by decide) rfl ?_
      have hf := Option.some.inj hf
      subst hf
      exact hret _ _ _ _ dX8_isHeld_19 (by decide) ⟨rfl, rfl⟩
  rw [fX8_isHeld] at hf
  show Z 0 0 _ [(0, .ref a0), (1, .int x1)] 0 []
  refine z_iconst h (v := (0 : Int32)) dX8_isHeld_0 (by decide) rfl ?_
  refine z_istore_n h (lv2 := [(2, .int (0 : Int32)), (0, .ref a0), (1, .int x1)]) dX8_isHeld_1 (by decide) rfl rfl ?_
  refine z_locs h (lv2 := [(0, .ref a0), (1, .int x1), (2, .int (0 : Int32))]) [1, 2, 0] rfl ?_
  exact hL2 zF (0 : Int32) hf
def fX8_obstacleToGo_b25 (c0_holds : Nat → Int32) (c0_cell : Nat → Int32) (x1 : Int32) (x2 : Int32)  (s0 : Int32) : Option (Int32) := (some s0)
def fX8_obstacleToGo (c0_holds : Nat → Int32) (c0_cell : Nat → Int32) (x1 : Int32) (x2 : Int32) : Option (Int32) := Option.bind (fX8_isHeld c0_holds x1) (fun v1 => (if v1 = (0 : Int32) then gd (inb x1 6) ((if (c0_cell (x1).toNatClampNeg) = x2 then (fX8_obstacleToGo_b25 c0_holds c0_cell x1 x2  (2 : Int32)) else (fX8_obstacleToGo_b25 c0_holds c0_cell x1 x2  (0 : Int32)))) else (some (1 : Int32))))
abbrev rmX8_obstacleToGo : Room := { frames := 1, cells := 0, slots := 0, locals := 22 }
set_option maxRecDepth 100000 in
set_option maxHeartbeats 4000000 in
theorem ctX8_obstacleToGo (l : Launch) (G : zG) (a0 a0_air a0_cell a0_hours a0_owes a0_holds a0_lies a0_goods a0_liking : Nat) (c0_hour : Int32) (c0_day : Int32) (c0_holds : Nat → Int32) (c0_cell : Nat → Int32) (x1 : Int32) (x2 : Int32) {R : Int32} (hf : fX8_obstacleToGo c0_holds c0_cell x1 x2 = some R) : zCt l yX8_obstacleToGo wsX8_obstacleToGo rmX8_obstacleToGo G [(a0, .inr (8, [.ref a0_air, .ref a0_cell, .ref a0_hours, .ref a0_owes, .ref a0_holds, .ref a0_lies, .ref a0_goods, .ref a0_liking, .int c0_hour, .int c0_day])), (a0_holds, .inl (G.2.1, 6, .inl c0_holds)), (a0_cell, .inl (G.2.1, 6, .inl c0_cell))] [.ref a0, .int x1, .int x2] (fun v w => v = some (.int (R)) ∧ w = [(a0, .inr (8, [.ref a0_air, .ref a0_cell, .ref a0_hours, .ref a0_owes, .ref a0_holds, .ref a0_lies, .ref a0_goods, .ref a0_liking, .int c0_hour, .int c0_day])), (a0_holds, .inl (G.2.1, 6, .inl c0_holds)), (a0_cell, .inl (G.2.1, 6, .inl c0_cell))]) := by
  refine zMkI (own := RX8) false (by decide) (by decide +kernel) rfl rfl (Nat.le_of_ble_eq_true rfl) ?_
  intro Z h hret
  have hB25 : ∀ (s0 : Int32), fX8_obstacleToGo_b25 c0_holds c0_cell x1 x2  s0 = some R → Z 0 0 [(a0, .inr (8, [.ref a0_air, .ref a0_cell, .ref a0_hours, .ref a0_owes, .ref a0_holds, .ref a0_lies, .ref a0_goods, .ref a0_liking, .int c0_hour, .int c0_day])), (a0_holds, .inl (G.2.1, 6, .inl c0_holds)), (a0_cell, .inl (G.2.1, 6, .inl c0_cell))] [] 25 [.int s0] := by
    intro s0 hf
    rw [fX8_obstacleToGo_b25] at hf
    have hf := Option.some.inj hf
    subst hf
    exact hret _ _ _ _ dX8_obstacleToGo_25 ⟨rfl, rfl⟩
  rw [fX8_obstacleToGo] at hf
  show Z 0 0 _ [(0, .ref a0), (1, .int x1), (2, .int x2)] 0 []
  refine z_aload_n h dX8_obstacleToGo_0 0 rfl rfl ?_
  refine z_iload_n h dX8_obstacleToGo_1 1 rfl rfl ?_
  obtain ⟨v1, hv1, hf⟩ := bd_some hf
  refine z_callV h (np := 1) (st := []) (wr := [(a0_cell, .inl (G.2.1, 6, .inl c0_cell))]) [.int x1] (ctX8_isHeld l G a0 a0_air a0_cell a0_hours a0_owes a0_holds a0_lies a0_goods a0_liking c0_hour c0_day c0_holds x1 hv1) gX8_obstacleToGo_X8_isHeld (by decide +kernel) 0 rfl rfl rfl ⟨Nat.le_of_ble_eq_true rfl, Nat.le_of_ble_eq_true rfl⟩ ⟨Nat.le_refl _, Nat.le_refl _⟩ rfl rfl rfl [0, 1] [2] rfl rfl rfl rfl (by decide) (Nat.le_of_ble_eq_true rfl) dX8_obstacleToGo_2 rfl rfl (fun rv1 wv1 hrv1 => ?_)
  obtain ⟨rfl, rfl⟩ := hrv1
  refine z_perm h (w2 := [(a0, .inr (8, [.ref a0_air, .ref a0_cell, .ref a0_hours, .ref a0_owes, .ref a0_holds, .ref a0_lies, .ref a0_goods, .ref a0_liking, .int c0_hour, .int c0_day])), (a0_holds, .inl (G.2.1, 6, .inl c0_holds)), (a0_cell, .inl (G.2.1, 6, .inl c0_cell))]) (st := [.int v1]) [1, 2, 0] rfl rfl ?_
  refine z_if_eq h (tgt := 10) dX8_obstacleToGo_5 (by decide) rfl (fun c2 => ?_) (fun c2 => ?_)
  · have hf := ite_t hf c2
    refine z_aload_n h dX8_obstacleToGo_10 0 rfl rfl ?_
    refine z_get h (C := RX8) (T := TX8) (N := 10) (v := .ref a0_cell) 0 rfl rfl 1 (by decide) (by decide +kernel) (by decide +kernel) rfl dX8_obstacleToGo_11 rfl ?_
    refine z_iload_n h dX8_obstacleToGo_14 1 rfl rfl ?_
    obtain ⟨hg3, hf⟩ := gd_some hf
    refine z_iald h 2 rfl rfl hg3 dX8_obstacleToGo_15 rfl ?_
    refine z_iload_n h dX8_obstacleToGo_16 2 rfl rfl ?_
    refine z_icmp_ne h (tgt := 24) dX8_obstacleToGo_17 (by decide) rfl (fun c4 => ?_) (fun c4 => ?_)
    · have hf := ite_f hf c4
      refine z_iconst h (v := (0 : Int32)) dX8_obstacleToGo_24 (by decide) rfl ?_
      refine z_locs h (lv2 := []) [] rfl ?_
      exact hB25 (0 : Int32) hf
    have hf := ite_t hf c4
    refine z_iconst h (v := (2 : Int32)) dX8_obstacleToGo_20 (by decide) rfl ?_
    refine z_goto h (tgt := 25) dX8_obstacleToGo_21 (by decide) ?_
    refine z_locs h (lv2 := []) [] rfl ?_
    exact hB25 (2 : Int32) hf
  have hf := ite_f hf c2
  refine z_iconst h (v := (1 : Int32)) dX8_obstacleToGo_8 (by decide) rfl ?_
  have hf := Option.some.inj hf
  subst hf
  exact hret _ _ _ _ dX8_obstacleToGo_9 ⟨rfl, rfl⟩
def fX8_obstacleToPay_b25 (c0_goods : Nat → Int32) (c0_owes : Nat → Int32) (x1 : Int32) (x2 : Int32)  (s0 : Int32) : Option (Int32) := (some s0)
def fX8_obstacleToPay (c0_goods : Nat → Int32) (c0_owes : Nat → Int32) (x1 : Int32) (x2 : Int32) : Option (Int32) := Option.bind (fX8_goodsOf c0_goods x1 x2) (fun v1 => (if v1 = (0 : Int32) then (some (4 : Int32)) else gd (inb x1 6) ((if (c0_owes (x1).toNatClampNeg) = (0 : Int32) then (fX8_obstacleToPay_b25 c0_goods c0_owes x1 x2  (5 : Int32)) else (fX8_obstacleToPay_b25 c0_goods c0_owes x1 x2  (0 : Int32))))))
abbrev rmX8_obstacleToPay : Room := { frames := 1, cells := 0, slots := 0, locals := 22 }
set_option maxRecDepth 100000 in
set_option maxHeartbeats 4000000 in
theorem ctX8_obstacleToPay (l : Launch) (G : zG) (a0 a0_air a0_cell a0_hours a0_owes a0_holds a0_lies a0_goods a0_liking : Nat) (c0_hour : Int32) (c0_day : Int32) (c0_goods : Nat → Int32) (c0_owes : Nat → Int32) (x1 : Int32) (x2 : Int32) {R : Int32} (hf : fX8_obstacleToPay c0_goods c0_owes x1 x2 = some R) : zCt l yX8_obstacleToPay wsX8_obstacleToPay rmX8_obstacleToPay G [(a0, .inr (8, [.ref a0_air, .ref a0_cell, .ref a0_hours, .ref a0_owes, .ref a0_holds, .ref a0_lies, .ref a0_goods, .ref a0_liking, .int c0_hour, .int c0_day])), (a0_goods, .inl (G.2.1, 18, .inl c0_goods)), (a0_owes, .inl (G.2.1, 6, .inl c0_owes))] [.ref a0, .int x1, .int x2] (fun v w => v = some (.int (R)) ∧ w = [(a0, .inr (8, [.ref a0_air, .ref a0_cell, .ref a0_hours, .ref a0_owes, .ref a0_holds, .ref a0_lies, .ref a0_goods, .ref a0_liking, .int c0_hour, .int c0_day])), (a0_goods, .inl (G.2.1, 18, .inl c0_goods)), (a0_owes, .inl (G.2.1, 6, .inl c0_owes))]) := by
  refine zMkI (own := RX8) false (by decide) (by decide +kernel) rfl rfl (Nat.le_of_ble_eq_true rfl) ?_
  intro Z h hret
  have hB25 : ∀ (s0 : Int32), fX8_obstacleToPay_b25 c0_goods c0_owes x1 x2  s0 = some R → Z 0 0 [(a0, .inr (8, [.ref a0_air, .ref a0_cell, .ref a0_hours, .ref a0_owes, .ref a0_holds, .ref a0_lies, .ref a0_goods, .ref a0_liking, .int c0_hour, .int c0_day])), (a0_goods, .inl (G.2.1, 18, .inl c0_goods)), (a0_owes, .inl (G.2.1, 6, .inl c0_owes))] [] 25 [.int s0] := by
    intro s0 hf
    rw [fX8_obstacleToPay_b25] at hf
    have hf := Option.some.inj hf
    subst hf
    exact hret _ _ _ _ dX8_obstacleToPay_25 ⟨rfl, rfl⟩
  rw [fX8_obstacleToPay] at hf
  show Z 0 0 _ [(0, .ref a0), (1, .int x1), (2, .int x2)] 0 []
  refine z_aload_n h dX8_obstacleToPay_0 0 rfl rfl ?_
  refine z_iload_n h dX8_obstacleToPay_1 1 rfl rfl ?_
  refine z_iload_n h dX8_obstacleToPay_2 2 rfl rfl ?_
  obtain ⟨v1, hv1, hf⟩ := bd_some hf
  refine z_callV h (np := 2) (st := []) (wr := [(a0_owes, .inl (G.2.1, 6, .inl c0_owes))]) [.int x1, .int x2] (ctX8_goodsOf l G a0 a0_air a0_cell a0_hours a0_owes a0_holds a0_lies a0_goods a0_liking c0_hour c0_day c0_goods x1 x2 hv1) gX8_obstacleToPay_X8_goodsOf (by decide +kernel) 0 rfl rfl rfl ⟨Nat.le_of_ble_eq_true rfl, Nat.le_of_ble_eq_true rfl⟩ ⟨Nat.le_refl _, Nat.le_refl _⟩ rfl rfl rfl [0, 1] [2] rfl rfl rfl rfl (by decide) (Nat.le_of_ble_eq_true rfl) dX8_obstacleToPay_3 rfl rfl (fun rv1 wv1 hrv1 => ?_)
  obtain ⟨rfl, rfl⟩ := hrv1
  refine z_perm h (w2 := [(a0, .inr (8, [.ref a0_air, .ref a0_cell, .ref a0_hours, .ref a0_owes, .ref a0_holds, .ref a0_lies, .ref a0_goods, .ref a0_liking, .int c0_hour, .int c0_day])), (a0_goods, .inl (G.2.1, 18, .inl c0_goods)), (a0_owes, .inl (G.2.1, 6, .inl c0_owes))]) (st := [.int v1]) [1, 2, 0] rfl rfl ?_
  refine z_if_ne h (tgt := 11) dX8_obstacleToPay_6 (by decide) rfl (fun c2 => ?_) (fun c2 => ?_)
  · have hf := ite_f hf c2
    refine z_aload_n h dX8_obstacleToPay_11 0 rfl rfl ?_
    refine z_get h (C := RX8) (T := TX8) (N := 10) (v := .ref a0_owes) 0 rfl rfl 3 (by decide) (by decide +kernel) (by decide +kernel) rfl dX8_obstacleToPay_12 rfl ?_
    refine z_iload_n h dX8_obstacleToPay_15 1 rfl rfl ?_
    obtain ⟨hg3, hf⟩ := gd_some hf
    refine z_iald h 2 rfl rfl hg3 dX8_obstacleToPay_16 rfl ?_
    refine z_if_ne h (tgt := 24) dX8_obstacleToPay_17 (by decide) rfl (fun c4 => ?_) (fun c4 => ?_)
    · have hf := ite_f hf c4
      refine z_iconst h (v := (0 : Int32)) dX8_obstacleToPay_24 (by decide) rfl ?_
      refine z_locs h (lv2 := []) [] rfl ?_
      exact hB25 (0 : Int32) hf
    have hf := ite_t hf c4
    refine z_iconst h (v := (5 : Int32)) dX8_obstacleToPay_20 (by decide) rfl ?_
    refine z_goto h (tgt := 25) dX8_obstacleToPay_21 (by decide) ?_
    refine z_locs h (lv2 := []) [] rfl ?_
    exact hB25 (5 : Int32) hf
  have hf := ite_t hf c2
  refine z_iconst h (v := (4 : Int32)) dX8_obstacleToPay_9 (by decide) rfl ?_
  have hf := Option.some.inj hf
  subst hf
  exact hret _ _ _ _ dX8_obstacleToPay_10 ⟨rfl, rfl⟩
def fX8_obstacleToPutOn_b31 (c0_holds : Nat → Int32) (c0_lies : Nat → Int32) (c0_cell : Nat → Int32) (x1 : Int32)  (s0 : Int32) : Option (Int32) := (some s0)
def fX8_obstacleToPutOn (c0_holds : Nat → Int32) (c0_lies : Nat → Int32) (c0_cell : Nat → Int32) (x1 : Int32) : Option (Int32) := Option.bind (fX8_isHeld c0_holds x1) (fun v1 => (if v1 = (0 : Int32) then gd (inb x1 6) (gd (inb x1 6) ((if (c0_lies (x1).toNatClampNeg) = (c0_cell (x1).toNatClampNeg) then (fX8_obstacleToPutOn_b31 c0_holds c0_lies c0_cell x1  (0 : Int32)) else (fX8_obstacleToPutOn_b31 c0_holds c0_lies c0_cell x1  (6 : Int32))))) else (some (1 : Int32))))
abbrev rmX8_obstacleToPutOn : Room := { frames := 1, cells := 0, slots := 0, locals := 22 }
set_option maxRecDepth 100000 in
set_option maxHeartbeats 4000000 in
theorem ctX8_obstacleToPutOn (l : Launch) (G : zG) (a0 a0_air a0_cell a0_hours a0_owes a0_holds a0_lies a0_goods a0_liking : Nat) (c0_hour : Int32) (c0_day : Int32) (c0_holds : Nat → Int32) (c0_lies : Nat → Int32) (c0_cell : Nat → Int32) (x1 : Int32) {R : Int32} (hf : fX8_obstacleToPutOn c0_holds c0_lies c0_cell x1 = some R) : zCt l yX8_obstacleToPutOn wsX8_obstacleToPutOn rmX8_obstacleToPutOn G [(a0, .inr (8, [.ref a0_air, .ref a0_cell, .ref a0_hours, .ref a0_owes, .ref a0_holds, .ref a0_lies, .ref a0_goods, .ref a0_liking, .int c0_hour, .int c0_day])), (a0_holds, .inl (G.2.1, 6, .inl c0_holds)), (a0_lies, .inl (G.2.1, 6, .inl c0_lies)), (a0_cell, .inl (G.2.1, 6, .inl c0_cell))] [.ref a0, .int x1] (fun v w => v = some (.int (R)) ∧ w = [(a0, .inr (8, [.ref a0_air, .ref a0_cell, .ref a0_hours, .ref a0_owes, .ref a0_holds, .ref a0_lies, .ref a0_goods, .ref a0_liking, .int c0_hour, .int c0_day])), (a0_holds, .inl (G.2.1, 6, .inl c0_holds)), (a0_lies, .inl (G.2.1, 6, .inl c0_lies)), (a0_cell, .inl (G.2.1, 6, .inl c0_cell))]) := by
  refine zMkI (own := RX8) false (by decide) (by decide +kernel) rfl rfl (Nat.le_of_ble_eq_true rfl) ?_
  intro Z h hret
  have hB31 : ∀ (s0 : Int32), fX8_obstacleToPutOn_b31 c0_holds c0_lies c0_cell x1  s0 = some R → Z 0 0 [(a0, .inr (8, [.ref a0_air, .ref a0_cell, .ref a0_hours, .ref a0_owes, .ref a0_holds, .ref a0_lies, .ref a0_goods, .ref a0_liking, .int c0_hour, .int c0_day])), (a0_holds, .inl (G.2.1, 6, .inl c0_holds)), (a0_lies, .inl (G.2.1, 6, .inl c0_lies)), (a0_cell, .inl (G.2.1, 6, .inl c0_cell))] [] 31 [.int s0] := by
    intro s0 hf
    rw [fX8_obstacleToPutOn_b31] at hf
    have hf := Option.some.inj hf
    subst hf
    exact hret _ _ _ _ dX8_obstacleToPutOn_31 ⟨rfl, rfl⟩
  rw [fX8_obstacleToPutOn] at hf
  show Z 0 0 _ [(0, .ref a0), (1, .int x1)] 0 []
  refine z_aload_n h dX8_obstacleToPutOn_0 0 rfl rfl ?_
  refine z_iload_n h dX8_obstacleToPutOn_1 1 rfl rfl ?_
  obtain ⟨v1, hv1, hf⟩ := bd_some hf
  refine z_callV h (np := 1) (st := []) (wr := [(a0_lies, .inl (G.2.1, 6, .inl c0_lies)), (a0_cell, .inl (G.2.1, 6, .inl c0_cell))]) [.int x1] (ctX8_isHeld l G a0 a0_air a0_cell a0_hours a0_owes a0_holds a0_lies a0_goods a0_liking c0_hour c0_day c0_holds x1 hv1) gX8_obstacleToPutOn_X8_isHeld (by decide +kernel) 0 rfl rfl rfl ⟨Nat.le_of_ble_eq_true rfl, Nat.le_of_ble_eq_true rfl⟩ ⟨Nat.le_refl _, Nat.le_refl _⟩ rfl rfl rfl [0, 1] [2, 3] rfl rfl rfl rfl (by decide) (Nat.le_of_ble_eq_true rfl) dX8_obstacleToPutOn_2 rfl rfl (fun rv1 wv1 hrv1 => ?_)
  obtain ⟨rfl, rfl⟩ := hrv1
  refine z_perm h (w2 := [(a0, .inr (8, [.ref a0_air, .ref a0_cell, .ref a0_hours, .ref a0_owes, .ref a0_holds, .ref a0_lies, .ref a0_goods, .ref a0_liking, .int c0_hour, .int c0_day])), (a0_holds, .inl (G.2.1, 6, .inl c0_holds)), (a0_lies, .inl (G.2.1, 6, .inl c0_lies)), (a0_cell, .inl (G.2.1, 6, .inl c0_cell))]) (st := [.int v1]) [2, 3, 0, 1] rfl rfl ?_
  refine z_if_eq h (tgt := 10) dX8_obstacleToPutOn_5 (by decide) rfl (fun c2 => ?_) (fun c2 => ?_)
  · have hf := ite_t hf c2
    refine z_aload_n h dX8_obstacleToPutOn_10 0 rfl rfl ?_
    refine z_get h (C := RX8) (T := TX8) (N := 10) (v := .ref a0_lies) 0 rfl rfl 5 (by decide) (by decide +kernel) (by decide +kernel) rfl dX8_obstacleToPutOn_11 rfl ?_
    refine z_iload_n h dX8_obstacleToPutOn_14 1 rfl rfl ?_
    obtain ⟨hg3, hf⟩ := gd_some hf
    refine z_iald h 2 rfl rfl hg3 dX8_obstacleToPutOn_15 rfl ?_
    refine z_aload_n h dX8_obstacleToPutOn_16 0 rfl rfl ?_
    refine z_get h (C := RX8) (T := TX8) (N := 10) (v := .ref a0_cell) 0 rfl rfl 1 (by decide) (by decide +kernel) (by decide +kernel) rfl dX8_obstacleToPutOn_17 rfl ?_
    refine z_iload_n h dX8_obstacleToPutOn_20 1 rfl rfl ?_
    obtain ⟨hg4, hf⟩ := gd_some hf
    refine z_iald h 3 rfl rfl hg4 dX8_obstacleToPutOn_21 rfl ?_
    refine z_icmp_eq h (tgt := 30) dX8_obstacleToPutOn_22 (by decide) rfl (fun c5 => ?_) (fun c5 => ?_)
    · have hf := ite_t hf c5
      refine z_iconst h (v := (0 : Int32)) dX8_obstacleToPutOn_30 (by decide) rfl ?_
      refine z_locs h (lv2 := []) [] rfl ?_
      exact hB31 (0 : Int32) hf
    have hf := ite_f hf c5
    refine z_bipush h (v := (6 : Int32)) dX8_obstacleToPutOn_25 (by decide) rfl ?_
    refine z_goto h (tgt := 31) dX8_obstacleToPutOn_27 (by decide) ?_
    refine z_locs h (lv2 := []) [] rfl ?_
    exact hB31 (6 : Int32) hf
  have hf := ite_f hf c2
  refine z_iconst h (v := (1 : Int32)) dX8_obstacleToPutOn_8 (by decide) rfl ?_
  have hf := Option.some.inj hf
  subst hf
  exact hret _ _ _ _ dX8_obstacleToPutOn_9 ⟨rfl, rfl⟩
def fX8_obstacleToHold_b88 (c0_holds : Nat → Int32) (c0_cell : Nat → Int32) (x1 : Int32) (x2 : Int32)  (s0 : Int32) : Option (Int32) := (some s0)
def fX8_obstacleToHold_b86 (c0_holds : Nat → Int32) (c0_cell : Nat → Int32) (x1 : Int32) (x2 : Int32)   : Option (Int32) := (fX8_obstacleToHold_b88 c0_holds c0_cell x1 x2  (7 : Int32))
def fX8_obstacleToHold_b71 (c0_holds : Nat → Int32) (c0_cell : Nat → Int32) (x1 : Int32) (x2 : Int32)  (x3 : Int32) (s0 : Int32) : Option (Int32) := (if x3 = (0 : Int32) then (fX8_obstacleToHold_b86 c0_holds c0_cell x1 x2  ) else (if s0 = (0 : Int32) then (fX8_obstacleToHold_b86 c0_holds c0_cell x1 x2  ) else (fX8_obstacleToHold_b88 c0_holds c0_cell x1 x2  (0 : Int32))))
def fX8_obstacleToHold_b70 (c0_holds : Nat → Int32) (c0_cell : Nat → Int32) (x1 : Int32) (x2 : Int32)  (x3 : Int32) : Option (Int32) := (fX8_obstacleToHold_b71 c0_holds c0_cell x1 x2  x3 (0 : Int32))
def fX8_obstacleToHold_b35 (c0_holds : Nat → Int32) (c0_cell : Nat → Int32) (x1 : Int32) (x2 : Int32)  (s0 : Int32) : Option (Int32) := gd (inb x1 6) ((if (c0_holds (x1).toNatClampNeg) = (-6 : Int32) then gd (inb x2 6) ((if (c0_holds (x2).toNatClampNeg) = (-6 : Int32) then Option.bind (fX8_isHeld c0_holds x2) (fun v7 => (if v7 = (0 : Int32) then (fX8_obstacleToHold_b71 c0_holds c0_cell x1 x2  s0 (1 : Int32)) else (fX8_obstacleToHold_b70 c0_holds c0_cell x1 x2  s0))) else (fX8_obstacleToHold_b70 c0_holds c0_cell x1 x2  s0))) else (fX8_obstacleToHold_b70 c0_holds c0_cell x1 x2  s0)))
def fX8_obstacleToHold_b34 (c0_holds : Nat → Int32) (c0_cell : Nat → Int32) (x1 : Int32) (x2 : Int32)   : Option (Int32) := (fX8_obstacleToHold_b35 c0_holds c0_cell x1 x2  (0 : Int32))
def fX8_obstacleToHold (c0_holds : Nat → Int32) (c0_cell : Nat → Int32) (x1 : Int32) (x2 : Int32) : Option (Int32) := Option.bind (fX8_isHeld c0_holds x1) (fun v9 => (if v9 = (0 : Int32) then (if x1 = x2 then (fX8_obstacleToHold_b34 c0_holds c0_cell x1 x2  ) else gd (inb x1 6) (gd (inb x2 6) ((if (c0_cell (x1).toNatClampNeg) = (c0_cell (x2).toNatClampNeg) then (fX8_obstacleToHold_b35 c0_holds c0_cell x1 x2  (1 : Int32)) else (fX8_obstacleToHold_b34 c0_holds c0_cell x1 x2  ))))) else (some (1 : Int32))))
abbrev rmX8_obstacleToHold : Room := { frames := 1, cells := 0, slots := 0, locals := 22 }
set_option maxRecDepth 100000 in
set_option maxHeartbeats 4000000 in
theorem ctX8_obstacleToHold (l : Launch) (G : zG) (a0 a0_air a0_cell a0_hours a0_owes a0_holds a0_lies a0_goods a0_liking : Nat) (c0_hour : Int32) (c0_day : Int32) (c0_holds : Nat → Int32) (c0_cell : Nat → Int32) (x1 : Int32) (x2 : Int32) {R : Int32} (hf : fX8_obstacleToHold c0_holds c0_cell x1 x2 = some R) : zCt l yX8_obstacleToHold wsX8_obstacleToHold rmX8_obstacleToHold G [(a0, .inr (8, [.ref a0_air, .ref a0_cell, .ref a0_hours, .ref a0_owes, .ref a0_holds, .ref a0_lies, .ref a0_goods, .ref a0_liking, .int c0_hour, .int c0_day])), (a0_holds, .inl (G.2.1, 6, .inl c0_holds)), (a0_cell, .inl (G.2.1, 6, .inl c0_cell))] [.ref a0, .int x1, .int x2] (fun v w => v = some (.int (R)) ∧ w = [(a0, .inr (8, [.ref a0_air, .ref a0_cell, .ref a0_hours, .ref a0_owes, .ref a0_holds, .ref a0_lies, .ref a0_goods, .ref a0_liking, .int c0_hour, .int c0_day])), (a0_holds, .inl (G.2.1, 6, .inl c0_holds)), (a0_cell, .inl (G.2.1, 6, .inl c0_cell))]) := by
  refine zMkI (own := RX8) false (by decide) (by decide +kernel) rfl rfl (Nat.le_of_ble_eq_true rfl) ?_
  intro Z h hret
  have hB88 : ∀ (s0 : Int32), fX8_obstacleToHold_b88 c0_holds c0_cell x1 x2  s0 = some R → Z 0 0 [(a0, .inr (8, [.ref a0_air, .ref a0_cell, .ref a0_hours, .ref a0_owes, .ref a0_holds, .ref a0_lies, .ref a0_goods, .ref a0_liking, .int c0_hour, .int c0_day])), (a0_holds, .inl (G.2.1, 6, .inl c0_holds)), (a0_cell, .inl (G.2.1, 6, .inl c0_cell))] [] 88 [.int s0] := by
    intro s0 hf
    rw [fX8_obstacleToHold_b88] at hf
    have hf := Option.some.inj hf
    subst hf
    exact hret _ _ _ _ dX8_obstacleToHold_88 ⟨rfl, rfl⟩
  have hB86 : fX8_obstacleToHold_b86 c0_holds c0_cell x1 x2   = some R → Z 0 0 [(a0, .inr (8, [.ref a0_air, .ref a0_cell, .ref a0_hours, .ref a0_owes, .ref a0_holds, .ref a0_lies, .ref a0_goods, .ref a0_liking, .int c0_hour, .int c0_day])), (a0_holds, .inl (G.2.1, 6, .inl c0_holds)), (a0_cell, .inl (G.2.1, 6, .inl c0_cell))] [] 86 [] := by
    intro hf
    rw [fX8_obstacleToHold_b86] at hf
    refine z_bipush h (v := (7 : Int32)) dX8_obstacleToHold_86 (by decide) rfl ?_
    exact hB88 (7 : Int32) hf
  have hB71 : ∀ (x3 : Int32) (s0 : Int32), fX8_obstacleToHold_b71 c0_holds c0_cell x1 x2  x3 s0 = some R → Z 0 0 [(a0, .inr (8, [.ref a0_air, .ref a0_cell, .ref a0_hours, .ref a0_owes, .ref a0_holds, .ref a0_lies, .ref a0_goods, .ref a0_liking, .int c0_hour, .int c0_day])), (a0_holds, .inl (G.2.1, 6, .inl c0_holds)), (a0_cell, .inl (G.2.1, 6, .inl c0_cell))] [(3, .int x3)] 71 [.int s0] := by
    intro x3 s0 hf
    rw [fX8_obstacleToHold_b71] at hf
    refine z_istore h (lv2 := [(4, .int s0), (3, .int x3)]) dX8_obstacleToHold_71 (by decide) rfl rfl ?_
    refine z_iload_n h dX8_obstacleToHold_73 1 rfl rfl ?_
    refine z_if_eq h (tgt := 86) dX8_obstacleToHold_74 (by decide) rfl (fun c1 => ?_) (fun c1 => ?_)
    · have hf := ite_t hf c1
      refine z_locs h (lv2 := []) [] rfl ?_
      exact hB86  hf
    have hf := ite_f hf c1
    refine z_iload h dX8_obstacleToHold_77 0 rfl rfl ?_
    refine z_if_eq h (tgt := 86) dX8_obstacleToHold_79 (by decide) rfl (fun c2 => ?_) (fun c2 => ?_)
    · have hf := ite_t hf c2
      refine z_locs h (lv2 := []) [] rfl ?_
      exact hB86  hf
    have hf := ite_f hf c2
    refine z_iconst h (v := (0 : Int32)) dX8_obstacleToHold_82 (by decide) rfl ?_
    refine z_goto h (tgt := 88) dX8_obstacleToHold_83 (by decide) ?_
    refine z_locs h (lv2 := []) [] rfl ?_
    exact hB88 (0 : Int32) hf
  have hB70 : ∀ (x3 : Int32), fX8_obstacleToHold_b70 c0_holds c0_cell x1 x2  x3 = some R → Z 0 0 [(a0, .inr (8, [.ref a0_air, .ref a0_cell, .ref a0_hours, .ref a0_owes, .ref a0_holds, .ref a0_lies, .ref a0_goods, .ref a0_liking, .int c0_hour, .int c0_day])), (a0_holds, .inl (G.2.1, 6, .inl c0_holds)), (a0_cell, .inl (G.2.1, 6, .inl c0_cell))] [(3, .int x3)] 70 [] := by
    intro x3 hf
    rw [fX8_obstacleToHold_b70] at hf
    refine z_iconst h (v := (0 : Int32)) dX8_obstacleToHold_70 (by decide) rfl ?_
    exact hB71 x3 (0 : Int32) hf
  have hB35 : ∀ (s0 : Int32), fX8_obstacleToHold_b35 c0_holds c0_cell x1 x2  s0 = some R → Z 0 0 [(a0, .inr (8, [.ref a0_air, .ref a0_cell, .ref a0_hours, .ref a0_owes, .ref a0_holds, .ref a0_lies, .ref a0_goods, .ref a0_liking, .int c0_hour, .int c0_day])), (a0_holds, .inl (G.2.1, 6, .inl c0_holds)), (a0_cell, .inl (G.2.1, 6, .inl c0_cell))] [(0, .ref a0), (1, .int x1), (2, .int x2)] 35 [.int s0] := by
    intro s0 hf
    rw [fX8_obstacleToHold_b35] at hf
    refine z_istore_n h (lv2 := [(3, .int s0), (0, .ref a0), (1, .int x1), (2, .int x2)]) dX8_obstacleToHold_35 (by decide) rfl rfl ?_
    refine z_aload_n h dX8_obstacleToHold_36 1 rfl rfl ?_
    refine z_get h (C := RX8) (T := TX8) (N := 10) (v := .ref a0_holds) 0 rfl rfl 4 (by decide) (by decide +kernel) (by decide +kernel) rfl dX8_obstacleToHold_37 rfl ?_
    refine z_iload_n h dX8_obstacleToHold_40 2 rfl rfl ?_
    obtain ⟨hg3, hf⟩ := gd_some hf
    refine z_iald h 1 rfl rfl hg3 dX8_obstacleToHold_41 rfl ?_
    refine z_bipush h (v := (-6 : Int32)) dX8_obstacleToHold_42 (by decide) rfl ?_
    refine z_icmp_ne h (tgt := 70) dX8_obstacleToHold_44 (by decide) rfl (fun c4 => ?_) (fun c4 => ?_)
    · have hf := ite_f hf c4
      refine z_locs h (lv2 := [(3, .int s0)]) [0] rfl ?_
      exact hB70 s0 hf
    have hf := ite_t hf c4
    refine z_aload_n h dX8_obstacleToHold_47 1 rfl rfl ?_
    refine z_get h (C := RX8) (T := TX8) (N := 10) (v := .ref a0_holds) 0 rfl rfl 4 (by decide) (by decide +kernel) (by decide +kernel) rfl dX8_obstacleToHold_48 rfl ?_
    refine z_iload_n h dX8_obstacleToHold_51 3 rfl rfl ?_
    obtain ⟨hg5, hf⟩ := gd_some hf
    refine z_iald h 1 rfl rfl hg5 dX8_obstacleToHold_52 rfl ?_
    refine z_bipush h (v := (-6 : Int32)) dX8_obstacleToHold_53 (by decide) rfl ?_
    refine z_icmp_ne h (tgt := 70) dX8_obstacleToHold_55 (by decide) rfl (fun c6 => ?_) (fun c6 => ?_)
    · have hf := ite_f hf c6
      refine z_locs h (lv2 := [(3, .int s0)]) [0] rfl ?_
      exact hB70 s0 hf
    have hf := ite_t hf c6
    refine z_aload_n h dX8_obstacleToHold_58 1 rfl rfl ?_
    refine z_iload_n h dX8_obstacleToHold_59 3 rfl rfl ?_
    obtain ⟨v7, hv7, hf⟩ := bd_some hf
    refine z_callV h (np := 1) (st := []) (wr := [(a0_cell, .inl (G.2.1, 6, .inl c0_cell))]) [.int x2] (ctX8_isHeld l G a0 a0_air a0_cell a0_hours a0_owes a0_holds a0_lies a0_goods a0_liking c0_hour c0_day c0_holds x2 hv7) gX8_obstacleToHold_X8_isHeld (by decide +kernel) 0 rfl rfl rfl ⟨Nat.le_of_ble_eq_true rfl, Nat.le_of_ble_eq_true rfl⟩ ⟨Nat.le_refl _, Nat.le_refl _⟩ rfl rfl rfl [0, 1] [2] rfl rfl rfl rfl (by decide) (Nat.le_of_ble_eq_true rfl) dX8_obstacleToHold_60 rfl rfl (fun rv7 wv7 hrv7 => ?_)
    obtain ⟨rfl, rfl⟩ := hrv7
    refine z_perm h (w2 := [(a0, .inr (8, [.ref a0_air, .ref a0_cell, .ref a0_hours, .ref a0_owes, .ref a0_holds, .ref a0_lies, .ref a0_goods, .ref a0_liking, .int c0_hour, .int c0_day])), (a0_holds, .inl (G.2.1, 6, .inl c0_holds)), (a0_cell, .inl (G.2.1, 6, .inl c0_cell))]) (st := [.int v7]) [1, 2, 0] rfl rfl ?_
    refine z_if_ne h (tgt := 70) dX8_obstacleToHold_63 (by decide) rfl (fun c8 => ?_) (fun c8 => ?_)
    · have hf := ite_f hf c8
      refine z_locs h (lv2 := [(3, .int s0)]) [0] rfl ?_
      exact hB70 s0 hf
    have hf := ite_t hf c8
    refine z_iconst h (v := (1 : Int32)) dX8_obstacleToHold_66 (by decide) rfl ?_
    refine z_goto h (tgt := 71) dX8_obstacleToHold_67 (by decide) ?_
    refine z_locs h (lv2 := [(3, .int s0)]) [0] rfl ?_
    exact hB71 s0 (1 : Int32) hf
  have hB34 : fX8_obstacleToHold_b34 c0_holds c0_cell x1 x2   = some R → Z 0 0 [(a0, .inr (8, [.ref a0_air, .ref a0_cell, .ref a0_hours, .ref a0_owes, .ref a0_holds, .ref a0_lies, .ref a0_goods, .ref a0_liking, .int c0_hour, .int c0_day])), (a0_holds, .inl (G.2.1, 6, .inl c0_holds)), (a0_cell, .inl (G.2.1, 6, .inl c0_cell))] [(0, .ref a0), (1, .int x1), (2, .int x2)] 34 [] := by
    intro hf
    rw [fX8_obstacleToHold_b34] at hf
    refine z_iconst h (v := (0 : Int32)) dX8_obstacleToHold_34 (by decide) rfl ?_
    exact hB35 (0 : Int32) hf
  rw [fX8_obstacleToHold] at hf
  show Z 0 0 _ [(0, .ref a0), (1, .int x1), (2, .int x2)] 0 []
  refine z_aload_n h dX8_obstacleToHold_0 0 rfl rfl ?_
  refine z_iload_n h dX8_obstacleToHold_1 1 rfl rfl ?_
  obtain ⟨v9, hv9, hf⟩ := bd_some hf
  refine z_callV h (np := 1) (st := []) (wr := [(a0_cell, .inl (G.2.1, 6, .inl c0_cell))]) [.int x1] (ctX8_isHeld l G a0 a0_air a0_cell a0_hours a0_owes a0_holds a0_lies a0_goods a0_liking c0_hour c0_day c0_holds x1 hv9) gX8_obstacleToHold_X8_isHeld (by decide +kernel) 0 rfl rfl rfl ⟨Nat.le_of_ble_eq_true rfl, Nat.le_of_ble_eq_true rfl⟩ ⟨Nat.le_refl _, Nat.le_refl _⟩ rfl rfl rfl [0, 1] [2] rfl rfl rfl rfl (by decide) (Nat.le_of_ble_eq_true rfl) dX8_obstacleToHold_2 rfl rfl (fun rv9 wv9 hrv9 => ?_)
  obtain ⟨rfl, rfl⟩ := hrv9
  refine z_perm h (w2 := [(a0, .inr (8, [.ref a0_air, .ref a0_cell, .ref a0_hours, .ref a0_owes, .ref a0_holds, .ref a0_lies, .ref a0_goods, .ref a0_liking, .int c0_hour, .int c0_day])), (a0_holds, .inl (G.2.1, 6, .inl c0_holds)), (a0_cell, .inl (G.2.1, 6, .inl c0_cell))]) (st := [.int v9]) [1, 2, 0] rfl rfl ?_
  refine z_if_eq h (tgt := 10) dX8_obstacleToHold_5 (by decide) rfl (fun c10 => ?_) (fun c10 => ?_)
  · have hf := ite_t hf c10
    refine z_iload_n h dX8_obstacleToHold_10 1 rfl rfl ?_
    refine z_iload_n h dX8_obstacleToHold_11 2 rfl rfl ?_
    refine z_icmp_eq h (tgt := 34) dX8_obstacleToHold_12 (by decide) rfl (fun c11 => ?_) (fun c11 => ?_)
    · have hf := ite_t hf c11
      exact hB34  hf
    have hf := ite_f hf c11
    refine z_aload_n h dX8_obstacleToHold_15 0 rfl rfl ?_
    refine z_get h (C := RX8) (T := TX8) (N := 10) (v := .ref a0_cell) 0 rfl rfl 1 (by decide) (by decide +kernel) (by decide +kernel) rfl dX8_obstacleToHold_16 rfl ?_
    refine z_iload_n h dX8_obstacleToHold_19 1 rfl rfl ?_
    obtain ⟨hg12, hf⟩ := gd_some hf
    refine z_iald h 2 rfl rfl hg12 dX8_obstacleToHold_20 rfl ?_
    refine z_aload_n h dX8_obstacleToHold_21 0 rfl rfl ?_
    refine z_get h (C := RX8) (T := TX8) (N := 10) (v := .ref a0_cell) 0 rfl rfl 1 (by decide) (by decide +kernel) (by decide +kernel) rfl dX8_obstacleToHold_22 rfl ?_
    refine z_iload_n h dX8_obstacleToHold_25 2 rfl rfl ?_
    obtain ⟨hg13, hf⟩ := gd_some hf
    refine z_iald h 2 rfl rfl hg13 dX8_obstacleToHold_26 rfl ?_
    refine z_icmp_ne h (tgt := 34) dX8_obstacleToHold_27 (by decide) rfl (fun c14 => ?_) (fun c14 => ?_)
    · have hf := ite_f hf c14
      exact hB34  hf
    have hf := ite_t hf c14
    refine z_iconst h (v := (1 : Int32)) dX8_obstacleToHold_30 (by decide) rfl ?_
    refine z_goto h (tgt := 35) dX8_obstacleToHold_31 (by decide) ?_
    exact hB35 (1 : Int32) hf
  have hf := ite_f hf c10
  refine z_iconst h (v := (1 : Int32)) dX8_obstacleToHold_8 (by decide) rfl ?_
  have hf := Option.some.inj hf
  subst hf
  exact hret _ _ _ _ dX8_obstacleToHold_9 ⟨rfl, rfl⟩
def fX8_obstacle_b78 (c0_hour : Int32) (c0_day : Int32) (c0_holds : Nat → Int32) (c0_lies : Nat → Int32) (c0_cell : Nat → Int32) (c0_air_force : Int32) (c0_owes : Nat → Int32) (c0_goods : Nat → Int32) (x1 : Int32) (x2 : Int32) (x3 : Int32)  (s0 : Int32) : Option (Int32) := (some s0)
def fX8_obstacle_b116 (c0_hour : Int32) (c0_day : Int32) (c0_holds : Nat → Int32) (c0_lies : Nat → Int32) (c0_cell : Nat → Int32) (c0_air_force : Int32) (c0_owes : Nat → Int32) (c0_goods : Nat → Int32) (x1 : Int32) (x2 : Int32) (x3 : Int32)  (s0 : Int32) : Option (Int32) := (some s0)
def fX8_obstacle_b135 (c0_hour : Int32) (c0_day : Int32) (c0_holds : Nat → Int32) (c0_lies : Nat → Int32) (c0_cell : Nat → Int32) (c0_air_force : Int32) (c0_owes : Nat → Int32) (c0_goods : Nat → Int32) (x1 : Int32) (x2 : Int32) (x3 : Int32)  (s0 : Int32) : Option (Int32) := (some s0)
def fX8_obstacle_b160 (c0_hour : Int32) (c0_day : Int32) (c0_holds : Nat → Int32) (c0_lies : Nat → Int32) (c0_cell : Nat → Int32) (c0_air_force : Int32) (c0_owes : Nat → Int32) (c0_goods : Nat → Int32) (x1 : Int32) (x2 : Int32) (x3 : Int32)  (s0 : Int32) : Option (Int32) := (some s0)
def fX8_obstacle_b159 (c0_hour : Int32) (c0_day : Int32) (c0_holds : Nat → Int32) (c0_lies : Nat → Int32) (c0_cell : Nat → Int32) (c0_air_force : Int32) (c0_owes : Nat → Int32) (c0_goods : Nat → Int32) (x1 : Int32) (x2 : Int32) (x3 : Int32)   : Option (Int32) := (fX8_obstacle_b160 c0_hour c0_day c0_holds c0_lies c0_cell c0_air_force c0_owes c0_goods x1 x2 x3  (0 : Int32))
def fX8_obstacle (c0_hour : Int32) (c0_day : Int32) (c0_holds : Nat → Int32) (c0_lies : Nat → Int32) (c0_cell : Nat → Int32) (c0_air_force : Int32) (c0_owes : Nat → Int32) (c0_goods : Nat → Int32) (x1 : Int32) (x2 : Int32) (x3 : Int32) : Option (Int32) := (if x2 = (0 : Int32) then Option.bind (fX8_obstacleToGo c0_holds c0_cell x1 (11 : Int32)) (fun v2 => (some v2)) else if x2 = (1 : Int32) then Option.bind (fX8_obstacleToGo c0_holds c0_cell x1 (0 : Int32)) (fun v4 => (some v4)) else if x2 = (2 : Int32) then gd (inb x1 6) ((if (c0_owes (x1).toNatClampNeg) < (4 : Int32) then (fX8_obstacle_b78 c0_hour c0_day c0_holds c0_lies c0_cell c0_air_force c0_owes c0_goods x1 x2 x3  (0 : Int32)) else (fX8_obstacle_b78 c0_hour c0_day c0_holds c0_lies c0_cell c0_air_force c0_owes c0_goods x1 x2 x3  (3 : Int32)))) else if x2 = (3 : Int32) then Option.bind (fX8_obstacleToPay c0_goods c0_owes x1 x3) (fun v9 => (some v9)) else if x2 = (4 : Int32) then Option.bind (fX8_obstacleToPutOn c0_holds c0_lies c0_cell x1) (fun v11 => (some v11)) else if x2 = (5 : Int32) then Option.bind (fX8_obstacleToHold c0_holds c0_cell x1 x3) (fun v13 => (some v13)) else if x2 = (6 : Int32) then gd (inb x1 6) ((if (c0_holds (x1).toNatClampNeg) = (-6 : Int32) then (fX8_obstacle_b116 c0_hour c0_day c0_holds c0_lies c0_cell c0_air_force c0_owes c0_goods x1 x2 x3  (8 : Int32)) else (fX8_obstacle_b116 c0_hour c0_day c0_holds c0_lies c0_cell c0_air_force c0_owes c0_goods x1 x2 x3  (0 : Int32)))) else if x2 = (7 : Int32) then (if c0_air_force < (9 : Int32) then (fX8_obstacle_b135 c0_hour c0_day c0_holds c0_lies c0_cell c0_air_force c0_owes c0_goods x1 x2 x3  (0 : Int32)) else (fX8_obstacle_b135 c0_hour c0_day c0_holds c0_lies c0_cell c0_air_force c0_owes c0_goods x1 x2 x3  (9 : Int32))) else (if c0_hour = (7 : Int32) then (if c0_day < (99 : Int32) then (fX8_obstacle_b159 c0_hour c0_day c0_holds c0_lies c0_cell c0_air_force c0_owes c0_goods x1 x2 x3  ) else (fX8_obstacle_b160 c0_hour c0_day c0_holds c0_lies c0_cell c0_air_force c0_owes c0_goods x1 x2 x3  (9 : Int32))) else (fX8_obstacle_b159 c0_hour c0_day c0_holds c0_lies c0_cell c0_air_force c0_owes c0_goods x1 x2 x3  )))
abbrev rmX8_obstacle : Room := { frames := 2, cells := 0, slots := 0, locals := 46 }
set_option maxRecDepth 100000 in
set_option maxHeartbeats 4000000 in
theorem ctX8_obstacle (l : Launch) (G : zG) (a0 a0_air a0_cell a0_hours a0_owes a0_holds a0_lies a0_goods a0_liking : Nat) (c0_hour : Int32) (c0_day : Int32) (c0_holds : Nat → Int32) (c0_lies : Nat → Int32) (c0_cell : Nat → Int32) (c0_air_cell : Int32) (c0_air_way : Int32) (c0_air_force : Int32) (c0_owes : Nat → Int32) (c0_goods : Nat → Int32) (x1 : Int32) (x2 : Int32) (x3 : Int32) {R : Int32} (hf : fX8_obstacle c0_hour c0_day c0_holds c0_lies c0_cell c0_air_force c0_owes c0_goods x1 x2 x3 = some R) : zCt l yX8_obstacle wsX8_obstacle rmX8_obstacle G [(a0, .inr (8, [.ref a0_air, .ref a0_cell, .ref a0_hours, .ref a0_owes, .ref a0_holds, .ref a0_lies, .ref a0_goods, .ref a0_liking, .int c0_hour, .int c0_day])), (a0_holds, .inl (G.2.1, 6, .inl c0_holds)), (a0_lies, .inl (G.2.1, 6, .inl c0_lies)), (a0_cell, .inl (G.2.1, 6, .inl c0_cell)), (a0_air, .inr (10, [.int c0_air_cell, .int c0_air_way, .int c0_air_force])), (a0_owes, .inl (G.2.1, 6, .inl c0_owes)), (a0_goods, .inl (G.2.1, 18, .inl c0_goods))] [.ref a0, .int x1, .int x2, .int x3] (fun v w => v = some (.int (R)) ∧ w = [(a0, .inr (8, [.ref a0_air, .ref a0_cell, .ref a0_hours, .ref a0_owes, .ref a0_holds, .ref a0_lies, .ref a0_goods, .ref a0_liking, .int c0_hour, .int c0_day])), (a0_holds, .inl (G.2.1, 6, .inl c0_holds)), (a0_lies, .inl (G.2.1, 6, .inl c0_lies)), (a0_cell, .inl (G.2.1, 6, .inl c0_cell)), (a0_air, .inr (10, [.int c0_air_cell, .int c0_air_way, .int c0_air_force])), (a0_owes, .inl (G.2.1, 6, .inl c0_owes)), (a0_goods, .inl (G.2.1, 18, .inl c0_goods))]) := by
  refine zMkI (own := RX8) false (by decide) (by decide +kernel) rfl rfl (Nat.le_of_ble_eq_true rfl) ?_
  intro Z h hret
  have hB78 : ∀ (s0 : Int32), fX8_obstacle_b78 c0_hour c0_day c0_holds c0_lies c0_cell c0_air_force c0_owes c0_goods x1 x2 x3  s0 = some R → Z 0 0 [(a0, .inr (8, [.ref a0_air, .ref a0_cell, .ref a0_hours, .ref a0_owes, .ref a0_holds, .ref a0_lies, .ref a0_goods, .ref a0_liking, .int c0_hour, .int c0_day])), (a0_holds, .inl (G.2.1, 6, .inl c0_holds)), (a0_lies, .inl (G.2.1, 6, .inl c0_lies)), (a0_cell, .inl (G.2.1, 6, .inl c0_cell)), (a0_air, .inr (10, [.int c0_air_cell, .int c0_air_way, .int c0_air_force])), (a0_owes, .inl (G.2.1, 6, .inl c0_owes)), (a0_goods, .inl (G.2.1, 18, .inl c0_goods))] [] 78 [.int s0] := by
    intro s0 hf
    rw [fX8_obstacle_b78] at hf
    have hf := Option.some.inj hf
    subst hf
    exact hret _ _ _ _ dX8_obstacle_78 ⟨rfl, rfl⟩
  have hB116 : ∀ (s0 : Int32), fX8_obstacle_b116 c0_hour c0_day c0_holds c0_lies c0_cell c0_air_force c0_owes c0_goods x1 x2 x3  s0 = some R → Z 0 0 [(a0, .inr (8, [.ref a0_air, .ref a0_cell, .ref a0_hours, .ref a0_owes, .ref a0_holds, .ref a0_lies, .ref a0_goods, .ref a0_liking, .int c0_hour, .int c0_day])), (a0_holds, .inl (G.2.1, 6, .inl c0_holds)), (a0_lies, .inl (G.2.1, 6, .inl c0_lies)), (a0_cell, .inl (G.2.1, 6, .inl c0_cell)), (a0_air, .inr (10, [.int c0_air_cell, .int c0_air_way, .int c0_air_force])), (a0_owes, .inl (G.2.1, 6, .inl c0_owes)), (a0_goods, .inl (G.2.1, 18, .inl c0_goods))] [] 116 [.int s0] := by
    intro s0 hf
    rw [fX8_obstacle_b116] at hf
    have hf := Option.some.inj hf
    subst hf
    exact hret _ _ _ _ dX8_obstacle_116 ⟨rfl, rfl⟩
  have hB135 : ∀ (s0 : Int32), fX8_obstacle_b135 c0_hour c0_day c0_holds c0_lies c0_cell c0_air_force c0_owes c0_goods x1 x2 x3  s0 = some R → Z 0 0 [(a0, .inr (8, [.ref a0_air, .ref a0_cell, .ref a0_hours, .ref a0_owes, .ref a0_holds, .ref a0_lies, .ref a0_goods, .ref a0_liking, .int c0_hour, .int c0_day])), (a0_holds, .inl (G.2.1, 6, .inl c0_holds)), (a0_lies, .inl (G.2.1, 6, .inl c0_lies)), (a0_cell, .inl (G.2.1, 6, .inl c0_cell)), (a0_air, .inr (10, [.int c0_air_cell, .int c0_air_way, .int c0_air_force])), (a0_owes, .inl (G.2.1, 6, .inl c0_owes)), (a0_goods, .inl (G.2.1, 18, .inl c0_goods))] [] 135 [.int s0] := by
    intro s0 hf
    rw [fX8_obstacle_b135] at hf
    have hf := Option.some.inj hf
    subst hf
    exact hret _ _ _ _ dX8_obstacle_135 ⟨rfl, rfl⟩
  have hB160 : ∀ (s0 : Int32), fX8_obstacle_b160 c0_hour c0_day c0_holds c0_lies c0_cell c0_air_force c0_owes c0_goods x1 x2 x3  s0 = some R → Z 0 0 [(a0, .inr (8, [.ref a0_air, .ref a0_cell, .ref a0_hours, .ref a0_owes, .ref a0_holds, .ref a0_lies, .ref a0_goods, .ref a0_liking, .int c0_hour, .int c0_day])), (a0_holds, .inl (G.2.1, 6, .inl c0_holds)), (a0_lies, .inl (G.2.1, 6, .inl c0_lies)), (a0_cell, .inl (G.2.1, 6, .inl c0_cell)), (a0_air, .inr (10, [.int c0_air_cell, .int c0_air_way, .int c0_air_force])), (a0_owes, .inl (G.2.1, 6, .inl c0_owes)), (a0_goods, .inl (G.2.1, 18, .inl c0_goods))] [] 160 [.int s0] := by
    intro s0 hf
    rw [fX8_obstacle_b160] at hf
    have hf := Option.some.inj hf
    subst hf
    exact hret _ _ _ _ dX8_obstacle_160 ⟨rfl, rfl⟩
  have hB159 : fX8_obstacle_b159 c0_hour c0_day c0_holds c0_lies c0_cell c0_air_force c0_owes c0_goods x1 x2 x3   = some R → Z 0 0 [(a0, .inr (8, [.ref a0_air, .ref a0_cell, .ref a0_hours, .ref a0_owes, .ref a0_holds, .ref a0_lies, .ref a0_goods, .ref a0_liking, .int c0_hour, .int c0_day])), (a0_holds, .inl (G.2.1, 6, .inl c0_holds)), (a0_lies, .inl (G.2.1, 6, .inl c0_lies)), (a0_cell, .inl (G.2.1, 6, .inl c0_cell)), (a0_air, .inr (10, [.int c0_air_cell, .int c0_air_way, .int c0_air_force])), (a0_owes, .inl (G.2.1, 6, .inl c0_owes)), (a0_goods, .inl (G.2.1, 18, .inl c0_goods))] [] 159 [] := by
    intro hf
    rw [fX8_obstacle_b159] at hf
    refine z_iconst h (v := (0 : Int32)) dX8_obstacle_159 (by decide) rfl ?_
    exact hB160 (0 : Int32) hf
  rw [fX8_obstacle] at hf
  show Z 0 0 _ [(0, .ref a0), (1, .int x1), (2, .int x2), (3, .int x3)] 0 []
  refine z_iload_n h dX8_obstacle_0 2 rfl rfl ?_
  by_cases c1 : x2 = (0 : Int32)
  · have hf := ite_t hf c1
    refine z_tableIn h (off := 47) (tgt := 48) dX8_obstacle_1 (0 : Int32) c1 (by decide) (by decide) (by decide) (by decide) ?_
    refine z_aload_n h dX8_obstacle_48 0 rfl rfl ?_
    refine z_iload_n h dX8_obstacle_49 1 rfl rfl ?_
    refine z_bipush h (v := (11 : Int32)) dX8_obstacle_50 (by decide) rfl ?_
    obtain ⟨v2, hv2, hf⟩ := bd_some hf
    refine z_callV h (np := 2) (st := []) (wr := [(a0_lies, .inl (G.2.1, 6, .inl c0_lies)), (a0_air, .inr (10, [.int c0_air_cell, .int c0_air_way, .int c0_air_force])), (a0_owes, .inl (G.2.1, 6, .inl c0_owes)), (a0_goods, .inl (G.2.1, 18, .inl c0_goods))]) [.int x1, .int (11 : Int32)] (ctX8_obstacleToGo l G a0 a0_air a0_cell a0_hours a0_owes a0_holds a0_lies a0_goods a0_liking c0_hour c0_day c0_holds c0_cell x1 (11 : Int32) hv2) gX8_obstacle_X8_obstacleToGo (by decide +kernel) 0 rfl rfl rfl ⟨Nat.le_of_ble_eq_true rfl, Nat.le_of_ble_eq_true rfl⟩ ⟨Nat.le_refl _, Nat.le_refl _⟩ rfl rfl rfl [0, 1, 3] [2, 4, 5, 6] rfl rfl rfl rfl (by decide) (Nat.le_of_ble_eq_true rfl) dX8_obstacle_52 rfl rfl (fun rv2 wv2 hrv2 => ?_)
    obtain ⟨rfl, rfl⟩ := hrv2
    refine z_perm h (w2 := [(a0, .inr (8, [.ref a0_air, .ref a0_cell, .ref a0_hours, .ref a0_owes, .ref a0_holds, .ref a0_lies, .ref a0_goods, .ref a0_liking, .int c0_hour, .int c0_day])), (a0_holds, .inl (G.2.1, 6, .inl c0_holds)), (a0_lies, .inl (G.2.1, 6, .inl c0_lies)), (a0_cell, .inl (G.2.1, 6, .inl c0_cell)), (a0_air, .inr (10, [.int c0_air_cell, .int c0_air_way, .int c0_air_force])), (a0_owes, .inl (G.2.1, 6, .inl c0_owes)), (a0_goods, .inl (G.2.1, 18, .inl c0_goods))]) (st := [.int v2]) [4, 5, 0, 6, 1, 2, 3] rfl rfl ?_
    have hf := Option.some.inj hf
    subst hf
    exact hret _ _ _ _ dX8_obstacle_55 ⟨rfl, rfl⟩
  have hf := ite_f hf c1
  by_cases c3 : x2 = (1 : Int32)
  · have hf := ite_t hf c3
    refine z_tableIn h (off := 55) (tgt := 56) dX8_obstacle_1 (1 : Int32) c3 (by decide) (by decide) (by decide) (by decide) ?_
    refine z_aload_n h dX8_obstacle_56 0 rfl rfl ?_
    refine z_iload_n h dX8_obstacle_57 1 rfl rfl ?_
    refine z_iconst h (v := (0 : Int32)) dX8_obstacle_58 (by decide) rfl ?_
    obtain ⟨v4, hv4, hf⟩ := bd_some hf
    refine z_callV h (np := 2) (st := []) (wr := [(a0_lies, .inl (G.2.1, 6, .inl c0_lies)), (a0_air, .inr (10, [.int c0_air_cell, .int c0_air_way, .int c0_air_force])), (a0_owes, .inl (G.2.1, 6, .inl c0_owes)), (a0_goods, .inl (G.2.1, 18, .inl c0_goods))]) [.int x1, .int (0 : Int32)] (ctX8_obstacleToGo l G a0 a0_air a0_cell a0_hours a0_owes a0_holds a0_lies a0_goods a0_liking c0_hour c0_day c0_holds c0_cell x1 (0 : Int32) hv4) gX8_obstacle_X8_obstacleToGo (by decide +kernel) 0 rfl rfl rfl ⟨Nat.le_of_ble_eq_true rfl, Nat.le_of_ble_eq_true rfl⟩ ⟨Nat.le_refl _, Nat.le_refl _⟩ rfl rfl rfl [0, 1, 3] [2, 4, 5, 6] rfl rfl rfl rfl (by decide) (Nat.le_of_ble_eq_true rfl) dX8_obstacle_59 rfl rfl (fun rv4 wv4 hrv4 => ?_)
    obtain ⟨rfl, rfl⟩ := hrv4
    refine z_perm h (w2 := [(a0, .inr (8, [.ref a0_air, .ref a0_cell, .ref a0_hours, .ref a0_owes, .ref a0_holds, .ref a0_lies, .ref a0_goods, .ref a0_liking, .int c0_hour, .int c0_day])), (a0_holds, .inl (G.2.1, 6, .inl c0_holds)), (a0_lies, .inl (G.2.1, 6, .inl c0_lies)), (a0_cell, .inl (G.2.1, 6, .inl c0_cell)), (a0_air, .inr (10, [.int c0_air_cell, .int c0_air_way, .int c0_air_force])), (a0_owes, .inl (G.2.1, 6, .inl c0_owes)), (a0_goods, .inl (G.2.1, 18, .inl c0_goods))]) (st := [.int v4]) [4, 5, 0, 6, 1, 2, 3] rfl rfl ?_
    have hf := Option.some.inj hf
    subst hf
    exact hret _ _ _ _ dX8_obstacle_62 ⟨rfl, rfl⟩
  have hf := ite_f hf c3
  by_cases c5 : x2 = (2 : Int32)
  · have hf := ite_t hf c5
    refine z_tableIn h (off := 62) (tgt := 63) dX8_obstacle_1 (2 : Int32) c5 (by decide) (by decide) (by decide) (by decide) ?_
    refine z_aload_n h dX8_obstacle_63 0 rfl rfl ?_
    refine z_get h (C := RX8) (T := TX8) (N := 10) (v := .ref a0_owes) 0 rfl rfl 3 (by decide) (by decide +kernel) (by decide +kernel) rfl dX8_obstacle_64 rfl ?_
    refine z_iload_n h dX8_obstacle_67 1 rfl rfl ?_
    obtain ⟨hg6, hf⟩ := gd_some hf
    refine z_iald h 5 rfl rfl hg6 dX8_obstacle_68 rfl ?_
    refine z_iconst h (v := (4 : Int32)) dX8_obstacle_69 (by decide) rfl ?_
    refine z_icmp_lt h (tgt := 77) dX8_obstacle_70 (by decide) rfl (fun c7 => ?_) (fun c7 => ?_)
    · have hf := ite_t hf c7
      refine z_iconst h (v := (0 : Int32)) dX8_obstacle_77 (by decide) rfl ?_
      refine z_locs h (lv2 := []) [] rfl ?_
      exact hB78 (0 : Int32) hf
    have hf := ite_f hf c7
    refine z_iconst h (v := (3 : Int32)) dX8_obstacle_73 (by decide) rfl ?_
    refine z_goto h (tgt := 78) dX8_obstacle_74 (by decide) ?_
    refine z_locs h (lv2 := []) [] rfl ?_
    exact hB78 (3 : Int32) hf
  have hf := ite_f hf c5
  by_cases c8 : x2 = (3 : Int32)
  · have hf := ite_t hf c8
    refine z_tableIn h (off := 78) (tgt := 79) dX8_obstacle_1 (3 : Int32) c8 (by decide) (by decide) (by decide) (by decide) ?_
    refine z_aload_n h dX8_obstacle_79 0 rfl rfl ?_
    refine z_iload_n h dX8_obstacle_80 1 rfl rfl ?_
    refine z_iload_n h dX8_obstacle_81 3 rfl rfl ?_
    obtain ⟨v9, hv9, hf⟩ := bd_some hf
    refine z_callV h (np := 2) (st := []) (wr := [(a0_holds, .inl (G.2.1, 6, .inl c0_holds)), (a0_lies, .inl (G.2.1, 6, .inl c0_lies)), (a0_cell, .inl (G.2.1, 6, .inl c0_cell)), (a0_air, .inr (10, [.int c0_air_cell, .int c0_air_way, .int c0_air_force]))]) [.int x1, .int x3] (ctX8_obstacleToPay l G a0 a0_air a0_cell a0_hours a0_owes a0_holds a0_lies a0_goods a0_liking c0_hour c0_day c0_goods c0_owes x1 x3 hv9) gX8_obstacle_X8_obstacleToPay (by decide +kernel) 0 rfl rfl rfl ⟨Nat.le_of_ble_eq_true rfl, Nat.le_of_ble_eq_true rfl⟩ ⟨Nat.le_refl _, Nat.le_refl _⟩ rfl rfl rfl [0, 6, 5] [1, 2, 3, 4] rfl rfl rfl rfl (by decide) (Nat.le_of_ble_eq_true rfl) dX8_obstacle_82 rfl rfl (fun rv9 wv9 hrv9 => ?_)
    obtain ⟨rfl, rfl⟩ := hrv9
    refine z_perm h (w2 := [(a0, .inr (8, [.ref a0_air, .ref a0_cell, .ref a0_hours, .ref a0_owes, .ref a0_holds, .ref a0_lies, .ref a0_goods, .ref a0_liking, .int c0_hour, .int c0_day])), (a0_holds, .inl (G.2.1, 6, .inl c0_holds)), (a0_lies, .inl (G.2.1, 6, .inl c0_lies)), (a0_cell, .inl (G.2.1, 6, .inl c0_cell)), (a0_air, .inr (10, [.int c0_air_cell, .int c0_air_way, .int c0_air_force])), (a0_owes, .inl (G.2.1, 6, .inl c0_owes)), (a0_goods, .inl (G.2.1, 18, .inl c0_goods))]) (st := [.int v9]) [4, 0, 1, 2, 3, 6, 5] rfl rfl ?_
    have hf := Option.some.inj hf
    subst hf
    exact hret _ _ _ _ dX8_obstacle_85 ⟨rfl, rfl⟩
  have hf := ite_f hf c8
  by_cases c10 : x2 = (4 : Int32)
  · have hf := ite_t hf c10
    refine z_tableIn h (off := 85) (tgt := 86) dX8_obstacle_1 (4 : Int32) c10 (by decide) (by decide) (by decide) (by decide) ?_
    refine z_aload_n h dX8_obstacle_86 0 rfl rfl ?_
    refine z_iload_n h dX8_obstacle_87 1 rfl rfl ?_
    obtain ⟨v11, hv11, hf⟩ := bd_some hf
    refine z_callV h (np := 1) (st := []) (wr := [(a0_air, .inr (10, [.int c0_air_cell, .int c0_air_way, .int c0_air_force])), (a0_owes, .inl (G.2.1, 6, .inl c0_owes)), (a0_goods, .inl (G.2.1, 18, .inl c0_goods))]) [.int x1] (ctX8_obstacleToPutOn l G a0 a0_air a0_cell a0_hours a0_owes a0_holds a0_lies a0_goods a0_liking c0_hour c0_day c0_holds c0_lies c0_cell x1 hv11) gX8_obstacle_X8_obstacleToPutOn (by decide +kernel) 0 rfl rfl rfl ⟨Nat.le_of_ble_eq_true rfl, Nat.le_of_ble_eq_true rfl⟩ ⟨Nat.le_refl _, Nat.le_refl _⟩ rfl rfl rfl [0, 1, 2, 3] [4, 5, 6] rfl rfl rfl rfl (by decide) (Nat.le_of_ble_eq_true rfl) dX8_obstacle_88 rfl rfl (fun rv11 wv11 hrv11 => ?_)
    obtain ⟨rfl, rfl⟩ := hrv11
    refine z_perm h (w2 := [(a0, .inr (8, [.ref a0_air, .ref a0_cell, .ref a0_hours, .ref a0_owes, .ref a0_holds, .ref a0_lies, .ref a0_goods, .ref a0_liking, .int c0_hour, .int c0_day])), (a0_holds, .inl (G.2.1, 6, .inl c0_holds)), (a0_lies, .inl (G.2.1, 6, .inl c0_lies)), (a0_cell, .inl (G.2.1, 6, .inl c0_cell)), (a0_air, .inr (10, [.int c0_air_cell, .int c0_air_way, .int c0_air_force])), (a0_owes, .inl (G.2.1, 6, .inl c0_owes)), (a0_goods, .inl (G.2.1, 18, .inl c0_goods))]) (st := [.int v11]) [3, 4, 5, 6, 0, 1, 2] rfl rfl ?_
    have hf := Option.some.inj hf
    subst hf
    exact hret _ _ _ _ dX8_obstacle_91 ⟨rfl, rfl⟩
  have hf := ite_f hf c10
  by_cases c12 : x2 = (5 : Int32)
  · have hf := ite_t hf c12
    refine z_tableIn h (off := 91) (tgt := 92) dX8_obstacle_1 (5 : Int32) c12 (by decide) (by decide) (by decide) (by decide) ?_
    refine z_aload_n h dX8_obstacle_92 0 rfl rfl ?_
    refine z_iload_n h dX8_obstacle_93 1 rfl rfl ?_
    refine z_iload_n h dX8_obstacle_94 3 rfl rfl ?_
    obtain ⟨v13, hv13, hf⟩ := bd_some hf
    refine z_callV h (np := 2) (st := []) (wr := [(a0_lies, .inl (G.2.1, 6, .inl c0_lies)), (a0_air, .inr (10, [.int c0_air_cell, .int c0_air_way, .int c0_air_force])), (a0_owes, .inl (G.2.1, 6, .inl c0_owes)), (a0_goods, .inl (G.2.1, 18, .inl c0_goods))]) [.int x1, .int x3] (ctX8_obstacleToHold l G a0 a0_air a0_cell a0_hours a0_owes a0_holds a0_lies a0_goods a0_liking c0_hour c0_day c0_holds c0_cell x1 x3 hv13) gX8_obstacle_X8_obstacleToHold (by decide +kernel) 0 rfl rfl rfl ⟨Nat.le_of_ble_eq_true rfl, Nat.le_of_ble_eq_true rfl⟩ ⟨Nat.le_refl _, Nat.le_refl _⟩ rfl rfl rfl [0, 1, 3] [2, 4, 5, 6] rfl rfl rfl rfl (by decide) (Nat.le_of_ble_eq_true rfl) dX8_obstacle_95 rfl rfl (fun rv13 wv13 hrv13 => ?_)
    obtain ⟨rfl, rfl⟩ := hrv13
    refine z_perm h (w2 := [(a0, .inr (8, [.ref a0_air, .ref a0_cell, .ref a0_hours, .ref a0_owes, .ref a0_holds, .ref a0_lies, .ref a0_goods, .ref a0_liking, .int c0_hour, .int c0_day])), (a0_holds, .inl (G.2.1, 6, .inl c0_holds)), (a0_lies, .inl (G.2.1, 6, .inl c0_lies)), (a0_cell, .inl (G.2.1, 6, .inl c0_cell)), (a0_air, .inr (10, [.int c0_air_cell, .int c0_air_way, .int c0_air_force])), (a0_owes, .inl (G.2.1, 6, .inl c0_owes)), (a0_goods, .inl (G.2.1, 18, .inl c0_goods))]) (st := [.int v13]) [4, 5, 0, 6, 1, 2, 3] rfl rfl ?_
    have hf := Option.some.inj hf
    subst hf
    exact hret _ _ _ _ dX8_obstacle_98 ⟨rfl, rfl⟩
  have hf := ite_f hf c12
  by_cases c14 : x2 = (6 : Int32)
  · have hf := ite_t hf c14
    refine z_tableIn h (off := 98) (tgt := 99) dX8_obstacle_1 (6 : Int32) c14 (by decide) (by decide) (by decide) (by decide) ?_
    refine z_aload_n h dX8_obstacle_99 0 rfl rfl ?_
    refine z_get h (C := RX8) (T := TX8) (N := 10) (v := .ref a0_holds) 0 rfl rfl 4 (by decide) (by decide +kernel) (by decide +kernel) rfl dX8_obstacle_100 rfl ?_
    refine z_iload_n h dX8_obstacle_103 1 rfl rfl ?_
    obtain ⟨hg15, hf⟩ := gd_some hf
    refine z_iald h 1 rfl rfl hg15 dX8_obstacle_104 rfl ?_
    refine z_bipush h (v := (-6 : Int32)) dX8_obstacle_105 (by decide) rfl ?_
    refine z_icmp_ne h (tgt := 115) dX8_obstacle_107 (by decide) rfl (fun c16 => ?_) (fun c16 => ?_)
    · have hf := ite_f hf c16
      refine z_iconst h (v := (0 : Int32)) dX8_obstacle_115 (by decide) rfl ?_
      refine z_locs h (lv2 := []) [] rfl ?_
      exact hB116 (0 : Int32) hf
    have hf := ite_t hf c16
    refine z_bipush h (v := (8 : Int32)) dX8_obstacle_110 (by decide) rfl ?_
    refine z_goto h (tgt := 116) dX8_obstacle_112 (by decide) ?_
    refine z_locs h (lv2 := []) [] rfl ?_
    exact hB116 (8 : Int32) hf
  have hf := ite_f hf c14
  by_cases c17 : x2 = (7 : Int32)
  · have hf := ite_t hf c17
    refine z_tableIn h (off := 116) (tgt := 117) dX8_obstacle_1 (7 : Int32) c17 (by decide) (by decide) (by decide) (by decide) ?_
    refine z_aload_n h dX8_obstacle_117 0 rfl rfl ?_
    refine z_get h (C := RX8) (T := TX8) (N := 10) (v := .ref a0_air) 0 rfl rfl 0 (by decide) (by decide +kernel) (by decide +kernel) rfl dX8_obstacle_118 rfl ?_
    refine z_get h (C := RX10) (T := TX10) (N := 3) (v := .int c0_air_force) 4 rfl rfl 2 (by decide) (by decide +kernel) (by decide +kernel) rfl dX8_obstacle_121 rfl ?_
    refine z_bipush h (v := (9 : Int32)) dX8_obstacle_124 (by decide) rfl ?_
    refine z_icmp_lt h (tgt := 134) dX8_obstacle_126 (by decide) rfl (fun c18 => ?_) (fun c18 => ?_)
    · have hf := ite_t hf c18
      refine z_iconst h (v := (0 : Int32)) dX8_obstacle_134 (by decide) rfl ?_
      refine z_locs h (lv2 := []) [] rfl ?_
      exact hB135 (0 : Int32) hf
    have hf := ite_f hf c18
    refine z_bipush h (v := (9 : Int32)) dX8_obstacle_129 (by decide) rfl ?_
    refine z_goto h (tgt := 135) dX8_obstacle_131 (by decide) ?_
    refine z_locs h (lv2 := []) [] rfl ?_
    exact hB135 (9 : Int32) hf
  have hf := ite_f hf c17
  refine z_tableOut h (tgt := 136) dX8_obstacle_1 (z_tout 8 (by decide) (by decide) (by decide) (fun j hj => match j, hj with
    | 0, _ => c1
    | 1, _ => c3
    | 2, _ => c5
    | 3, _ => c8
    | 4, _ => c10
    | 5, _ => c12
    | 6, _ => c14
    | 7, _ => c17
    | j + 8, hj => absurd hj (by omega))) (by decide) ?_
  refine z_aload_n h dX8_obstacle_136 0 rfl rfl ?_
  refine z_get h (C := RX8) (T := TX8) (N := 10) (v := .int c0_hour) 0 rfl rfl 8 (by decide) (by decide +kernel) (by decide +kernel) rfl dX8_obstacle_137 rfl ?_
  refine z_bipush h (v := (7 : Int32)) dX8_obstacle_140 (by decide) rfl ?_
  refine z_icmp_ne h (tgt := 159) dX8_obstacle_142 (by decide) rfl (fun c19 => ?_) (fun c19 => ?_)
  · have hf := ite_f hf c19
    refine z_locs h (lv2 := []) [] rfl ?_
    exact hB159  hf
  have hf := ite_t hf c19
  refine z_aload_n h dX8_obstacle_145 0 rfl rfl ?_
  refine z_get h (C := RX8) (T := TX8) (N := 10) (v := .int c0_day) 0 rfl rfl 9 (by decide) (by decide +kernel) (by decide +kernel) rfl dX8_obstacle_146 rfl ?_
  refine z_bipush h (v := (99 : Int32)) dX8_obstacle_149 (by decide) rfl ?_
  refine z_icmp_lt h (tgt := 159) dX8_obstacle_151 (by decide) rfl (fun c20 => ?_) (fun c20 => ?_)
  · have hf := ite_t hf c20
    refine z_locs h (lv2 := []) [] rfl ?_
    exact hB159  hf
  have hf := ite_f hf c20
  refine z_bipush h (v := (9 : Int32)) dX8_obstacle_154 (by decide) rfl ?_
  refine z_goto h (tgt := 160) dX8_obstacle_156 (by decide) ?_
  refine z_locs h (lv2 := []) [] rfl ?_
  exact hB160 (9 : Int32) hf
def fX8_move_b36 (c0_holds : Nat → Int32) (x1 : Int32) (x2 : Int32)  (c0_cell : Nat → Int32) : Option ((Nat → Int32)) := (some c0_cell)
def fX8_move (c0_cell : Nat → Int32) (c0_holds : Nat → Int32) (x1 : Int32) (x2 : Int32) : Option ((Nat → Int32)) := gd (inb x1 6) (gd (inb x1 6) (gd (inb x1 6) ((if (c0_holds (x1).toNatClampNeg) = (-6 : Int32) then (fX8_move_b36 c0_holds x1 x2  (upd c0_cell (x1).toNatClampNeg ((c0_cell (x1).toNatClampNeg) + x2))) else gd (inb x1 6) (gd (inb (c0_holds (x1).toNatClampNeg) 6) (gd (inb (c0_holds (x1).toNatClampNeg) 6) ((fX8_move_b36 c0_holds x1 x2  (upd (upd c0_cell (x1).toNatClampNeg ((c0_cell (x1).toNatClampNeg) + x2)) ((c0_holds (x1).toNatClampNeg)).toNatClampNeg (((upd c0_cell (x1).toNatClampNeg ((c0_cell (x1).toNatClampNeg) + x2)) ((c0_holds (x1).toNatClampNeg)).toNatClampNeg) + x2))))))))))
abbrev rmX8_move : Room := { frames := 0, cells := 0, slots := 0, locals := 0 }
set_option maxRecDepth 100000 in
set_option maxHeartbeats 4000000 in
theorem ctX8_move (l : Launch) (G : zG) (a0 a0_air a0_cell a0_hours a0_owes a0_holds a0_lies a0_goods a0_liking : Nat) (c0_hour : Int32) (c0_day : Int32) (c0_cell : Nat → Int32) (c0_holds : Nat → Int32) (x1 : Int32) (x2 : Int32) {R : (Nat → Int32)} (hf : fX8_move c0_cell c0_holds x1 x2 = some R) : zCt l yX8_move wsX8_move rmX8_move G [(a0, .inr (8, [.ref a0_air, .ref a0_cell, .ref a0_hours, .ref a0_owes, .ref a0_holds, .ref a0_lies, .ref a0_goods, .ref a0_liking, .int c0_hour, .int c0_day])), (a0_cell, .inl (G.2.1, 6, .inl c0_cell)), (a0_holds, .inl (G.2.1, 6, .inl c0_holds))] [.ref a0, .int x1, .int x2] (fun v w => v = none ∧ w = [(a0, .inr (8, [.ref a0_air, .ref a0_cell, .ref a0_hours, .ref a0_owes, .ref a0_holds, .ref a0_lies, .ref a0_goods, .ref a0_liking, .int c0_hour, .int c0_day])), (a0_cell, .inl (G.2.1, 6, .inl R)), (a0_holds, .inl (G.2.1, 6, .inl c0_holds))]) := by
  refine zMkV (own := RX8) false (by decide) (by decide +kernel) rfl rfl (Nat.le_of_ble_eq_true rfl) ?_
  intro Z h hret
  have hB36 : ∀ (c0_cell : Nat → Int32), fX8_move_b36 c0_holds x1 x2  c0_cell = some R → Z 0 0 [(a0, .inr (8, [.ref a0_air, .ref a0_cell, .ref a0_hours, .ref a0_owes, .ref a0_holds, .ref a0_lies, .ref a0_goods, .ref a0_liking, .int c0_hour, .int c0_day])), (a0_cell, .inl (G.2.1, 6, .inl c0_cell)), (a0_holds, .inl (G.2.1, 6, .inl c0_holds))] [] 36 [] := by
    intro c0_cell hf
    rw [fX8_move_b36] at hf
    have hf := Option.some.inj hf
    subst hf
    exact hret _ _ _ dX8_move_36 ⟨rfl, rfl⟩
  rw [fX8_move] at hf
  show Z 0 0 _ [(0, .ref a0), (1, .int x1), (2, .int x2)] 0 []
  refine z_aload_n h dX8_move_0 0 rfl rfl ?_
  refine z_get h (C := RX8) (T := TX8) (N := 10) (v := .ref a0_cell) 0 rfl rfl 1 (by decide) (by decide +kernel) (by decide +kernel) rfl dX8_move_1 rfl ?_
  refine z_iload_n h dX8_move_4 1 rfl rfl ?_
  refine z_dup2 h dX8_move_5 rfl rfl rfl ?_
  obtain ⟨hg1, hf⟩ := gd_some hf
  refine z_iald h 1 rfl rfl hg1 dX8_move_6 rfl ?_
  refine z_iload_n h dX8_move_7 2 rfl rfl ?_
  refine z_iadd h dX8_move_8 rfl ?_
  obtain ⟨hg2, hf⟩ := gd_some hf
  refine z_iast h (w2 := [(a0, .inr (8, [.ref a0_air, .ref a0_cell, .ref a0_hours, .ref a0_owes, .ref a0_holds, .ref a0_lies, .ref a0_goods, .ref a0_liking, .int c0_hour, .int c0_day])), (a0_cell, .inl (G.2.1, 6, .inl (upd c0_cell (x1).toNatClampNeg ((c0_cell (x1).toNatClampNeg) + x2)))), (a0_holds, .inl (G.2.1, 6, .inl c0_holds))]) 1 rfl rfl hg2 dX8_move_9 rfl rfl ?_
  refine z_aload_n h dX8_move_10 0 rfl rfl ?_
  refine z_get h (C := RX8) (T := TX8) (N := 10) (v := .ref a0_holds) 0 rfl rfl 4 (by decide) (by decide +kernel) (by decide +kernel) rfl dX8_move_11 rfl ?_
  refine z_iload_n h dX8_move_14 1 rfl rfl ?_
  obtain ⟨hg3, hf⟩ := gd_some hf
  refine z_iald h 2 rfl rfl hg3 dX8_move_15 rfl ?_
  refine z_bipush h (v := (-6 : Int32)) dX8_move_16 (by decide) rfl ?_
  refine z_icmp_eq h (tgt := 36) dX8_move_18 (by decide) rfl (fun c4 => ?_) (fun c4 => ?_)
  · have hf := ite_t hf c4
    refine z_locs h (lv2 := []) [] rfl ?_
    exact hB36 (upd c0_cell (x1).toNatClampNeg ((c0_cell (x1).toNatClampNeg) + x2)) hf
  have hf := ite_f hf c4
  refine z_aload_n h dX8_move_21 0 rfl rfl ?_
  refine z_get h (C := RX8) (T := TX8) (N := 10) (v := .ref a0_cell) 0 rfl rfl 1 (by decide) (by decide +kernel) (by decide +kernel) rfl dX8_move_22 rfl ?_
  refine z_aload_n h dX8_move_25 0 rfl rfl ?_
  refine z_get h (C := RX8) (T := TX8) (N := 10) (v := .ref a0_holds) 0 rfl rfl 4 (by decide) (by decide +kernel) (by decide +kernel) rfl dX8_move_26 rfl ?_
  refine z_iload_n h dX8_move_29 1 rfl rfl ?_
  obtain ⟨hg5, hf⟩ := gd_some hf
  refine z_iald h 2 rfl rfl hg5 dX8_move_30 rfl ?_
  refine z_dup2 h dX8_move_31 rfl rfl rfl ?_
  obtain ⟨hg6, hf⟩ := gd_some hf
  refine z_iald h 1 rfl rfl hg6 dX8_move_32 rfl ?_
  refine z_iload_n h dX8_move_33 2 rfl rfl ?_
  refine z_iadd h dX8_move_34 rfl ?_
  obtain ⟨hg7, hf⟩ := gd_some hf
  refine z_iast h (w2 := [(a0, .inr (8, [.ref a0_air, .ref a0_cell, .ref a0_hours, .ref a0_owes, .ref a0_holds, .ref a0_lies, .ref a0_goods, .ref a0_liking, .int c0_hour, .int c0_day])), (a0_cell, .inl (G.2.1, 6, .inl (upd (upd c0_cell (x1).toNatClampNeg ((c0_cell (x1).toNatClampNeg) + x2)) ((c0_holds (x1).toNatClampNeg)).toNatClampNeg (((upd c0_cell (x1).toNatClampNeg ((c0_cell (x1).toNatClampNeg) + x2)) ((c0_holds (x1).toNatClampNeg)).toNatClampNeg) + x2)))), (a0_holds, .inl (G.2.1, 6, .inl c0_holds))]) 1 rfl rfl hg7 dX8_move_35 rfl rfl ?_
  refine z_locs h (lv2 := []) [] rfl ?_
  exact hB36 (upd (upd c0_cell (x1).toNatClampNeg ((c0_cell (x1).toNatClampNeg) + x2)) ((c0_holds (x1).toNatClampNeg)).toNatClampNeg (((upd c0_cell (x1).toNatClampNeg ((c0_cell (x1).toNatClampNeg) + x2)) ((c0_holds (x1).toNatClampNeg)).toNatClampNeg) + x2)) hf
def fX8_pay (c0_goods : Nat → Int32) (c0_owes : Nat → Int32) (c0_liking : Nat → Int32) (x1 : Int32) (x2 : Int32) : Option ((Nat → Int32) × (Nat → Int32)) := gd (inb ((x1 * (3 : Int32)) + x2) 18) (gd (inb ((x1 * (3 : Int32)) + x2) 18) (gd (inb x1 6) (gd (inb x2 3) (gd (inb x1 6) ((some ((upd c0_goods (((x1 * (3 : Int32)) + x2)).toNatClampNeg ((c0_goods (((x1 * (3 : Int32)) + x2)).toNatClampNeg) - (1 : Int32))), (upd c0_owes (x1).toNatClampNeg (imax (0 : Int32) ((c0_owes (x1).toNatClampNeg) - (c0_liking (x2).toNatClampNeg)))))))))))
abbrev rmX8_pay : Room := { frames := 1, cells := 0, slots := 0, locals := 21 }
set_option maxRecDepth 100000 in
set_option maxHeartbeats 4000000 in
theorem ctX8_pay (l : Launch) (G : zG) (a0 a0_air a0_cell a0_hours a0_owes a0_holds a0_lies a0_goods a0_liking : Nat) (c0_hour : Int32) (c0_day : Int32) (c0_goods : Nat → Int32) (c0_owes : Nat → Int32) (c0_liking : Nat → Int32) (x1 : Int32) (x2 : Int32) {R : (Nat → Int32) × (Nat → Int32)} (hf : fX8_pay c0_goods c0_owes c0_liking x1 x2 = some R) : zCt l yX8_pay wsX8_pay rmX8_pay G [(a0, .inr (8, [.ref a0_air, .ref a0_cell, .ref a0_hours, .ref a0_owes, .ref a0_holds, .ref a0_lies, .ref a0_goods, .ref a0_liking, .int c0_hour, .int c0_day])), (a0_goods, .inl (G.2.1, 18, .inl c0_goods)), (a0_owes, .inl (G.2.1, 6, .inl c0_owes)), (a0_liking, .inl (G.2.1, 3, .inl c0_liking))] [.ref a0, .int x1, .int x2] (fun v w => v = none ∧ w = [(a0, .inr (8, [.ref a0_air, .ref a0_cell, .ref a0_hours, .ref a0_owes, .ref a0_holds, .ref a0_lies, .ref a0_goods, .ref a0_liking, .int c0_hour, .int c0_day])), (a0_goods, .inl (G.2.1, 18, .inl (R.1))), (a0_owes, .inl (G.2.1, 6, .inl (R.2))), (a0_liking, .inl (G.2.1, 3, .inl c0_liking))]) := by
  refine zMkV (own := RX8) false (by decide) (by decide +kernel) rfl rfl (Nat.le_of_ble_eq_true rfl) ?_
  intro Z h hret
  rw [fX8_pay] at hf
  show Z 0 0 _ [(0, .ref a0), (1, .int x1), (2, .int x2)] 0 []
  refine z_aload_n h dX8_pay_0 0 rfl rfl ?_
  refine z_get h (C := RX8) (T := TX8) (N := 10) (v := .ref a0_goods) 0 rfl rfl 6 (by decide) (by decide +kernel) (by decide +kernel) rfl dX8_pay_1 rfl ?_
  refine z_iload_n h dX8_pay_4 1 rfl rfl ?_
  refine z_iconst h (v := (3 : Int32)) dX8_pay_5 (by decide) rfl ?_
  refine z_imul h dX8_pay_6 rfl ?_
  refine z_iload_n h dX8_pay_7 2 rfl rfl ?_
  refine z_iadd h dX8_pay_8 rfl ?_
  refine z_dup2 h dX8_pay_9 rfl rfl rfl ?_
  obtain ⟨hg1, hf⟩ := gd_some hf
  refine z_iald h 1 rfl rfl hg1 dX8_pay_10 rfl ?_
  refine z_iconst h (v := (1 : Int32)) dX8_pay_11 (by decide) rfl ?_
  refine z_isub h dX8_pay_12 rfl ?_
  obtain ⟨hg2, hf⟩ := gd_some hf
  refine z_iast h (w2 := [(a0, .inr (8, [.ref a0_air, .ref a0_cell, .ref a0_hours, .ref a0_owes, .ref a0_holds, .ref a0_lies, .ref a0_goods, .ref a0_liking, .int c0_hour, .int c0_day])), (a0_goods, .inl (G.2.1, 18, .inl (upd c0_goods (((x1 * (3 : Int32)) + x2)).toNatClampNeg ((c0_goods (((x1 * (3 : Int32)) + x2)).toNatClampNeg) - (1 : Int32))))), (a0_owes, .inl (G.2.1, 6, .inl c0_owes)), (a0_liking, .inl (G.2.1, 3, .inl c0_liking))]) 1 rfl rfl hg2 dX8_pay_13 rfl rfl ?_
  refine z_aload_n h dX8_pay_14 0 rfl rfl ?_
  refine z_get h (C := RX8) (T := TX8) (N := 10) (v := .ref a0_owes) 0 rfl rfl 3 (by decide) (by decide +kernel) (by decide +kernel) rfl dX8_pay_15 rfl ?_
  refine z_iload_n h dX8_pay_18 1 rfl rfl ?_
  refine z_iconst h (v := (0 : Int32)) dX8_pay_19 (by decide) rfl ?_
  refine z_aload_n h dX8_pay_20 0 rfl rfl ?_
  refine z_get h (C := RX8) (T := TX8) (N := 10) (v := .ref a0_owes) 0 rfl rfl 3 (by decide) (by decide +kernel) (by decide +kernel) rfl dX8_pay_21 rfl ?_
  refine z_iload_n h dX8_pay_24 1 rfl rfl ?_
  obtain ⟨hg3, hf⟩ := gd_some hf
  refine z_iald h 2 rfl rfl hg3 dX8_pay_25 rfl ?_
  refine z_aload_n h dX8_pay_26 0 rfl rfl ?_
  refine z_get h (C := RX8) (T := TX8) (N := 10) (v := .ref a0_liking) 0 rfl rfl 7 (by decide) (by decide +kernel) (by decide +kernel) rfl dX8_pay_27 rfl ?_
  refine z_iload_n h dX8_pay_30 2 rfl rfl ?_
  obtain ⟨hg4, hf⟩ := gd_some hf
  refine z_iald h 3 rfl rfl hg4 dX8_pay_31 rfl ?_
  refine z_isub h dX8_pay_32 rfl ?_
  refine z_mmax h (by decide +kernel) (by decide +kernel) (by decide +kernel) (by decide +kernel) (Nat.le_of_ble_eq_true rfl) (Nat.le_of_ble_eq_true rfl) (Nat.zero_le _) (Nat.zero_le _) dX8_pay_33 rfl ?_
  obtain ⟨hg5, hf⟩ := gd_some hf
  refine z_iast h (w2 := [(a0, .inr (8, [.ref a0_air, .ref a0_cell, .ref a0_hours, .ref a0_owes, .ref a0_holds, .ref a0_lies, .ref a0_goods, .ref a0_liking, .int c0_hour, .int c0_day])), (a0_goods, .inl (G.2.1, 18, .inl (upd c0_goods (((x1 * (3 : Int32)) + x2)).toNatClampNeg ((c0_goods (((x1 * (3 : Int32)) + x2)).toNatClampNeg) - (1 : Int32))))), (a0_owes, .inl (G.2.1, 6, .inl (upd c0_owes (x1).toNatClampNeg (imax (0 : Int32) ((c0_owes (x1).toNatClampNeg) - (c0_liking (x2).toNatClampNeg)))))), (a0_liking, .inl (G.2.1, 3, .inl c0_liking))]) 2 rfl rfl hg5 dX8_pay_36 rfl rfl ?_
  have hf := Option.some.inj hf
  subst hf
  exact hret _ _ _ dX8_pay_37 ⟨rfl, rfl⟩
def fX8_perform_b138 (c0_liking : Nat → Int32) (x1 : Int32) (x2 : Int32) (x3 : Int32)  (c0_cell : Nat → Int32) (c0_holds : Nat → Int32) (c0_goods : Nat → Int32) (c0_owes : Nat → Int32) (c0_air_force : Int32) (c0_hours : Nat → Int32) (c0_lies : Nat → Int32) : Option ((Nat → Int32) × (Nat → Int32) × (Nat → Int32) × (Nat → Int32) × Int32 × (Nat → Int32) × (Nat → Int32)) := (some (c0_cell, c0_holds, c0_goods, c0_owes, c0_air_force, c0_hours, c0_lies))
def fX8_perform (c0_cell : Nat → Int32) (c0_holds : Nat → Int32) (c0_goods : Nat → Int32) (c0_owes : Nat → Int32) (c0_liking : Nat → Int32) (c0_air_force : Int32) (c0_hours : Nat → Int32) (c0_lies : Nat → Int32) (x1 : Int32) (x2 : Int32) (x3 : Int32) : Option ((Nat → Int32) × (Nat → Int32) × (Nat → Int32) × (Nat → Int32) × Int32 × (Nat → Int32) × (Nat → Int32)) := (if x2 = (0 : Int32) then Option.bind (fX8_move c0_cell c0_holds x1 (1 : Int32)) (fun v2 => (fX8_perform_b138 c0_liking x1 x2 x3  v2 c0_holds c0_goods c0_owes c0_air_force c0_hours c0_lies)) else if x2 = (1 : Int32) then Option.bind (fX8_move c0_cell c0_holds x1 (-1 : Int32)) (fun v4 => (fX8_perform_b138 c0_liking x1 x2 x3  v4 c0_holds c0_goods c0_owes c0_air_force c0_hours c0_lies)) else if x2 = (2 : Int32) then gd (inb x1 6) (gd (inb x1 6) ((fX8_perform_b138 c0_liking x1 x2 x3  c0_cell c0_holds c0_goods c0_owes c0_air_force (upd c0_hours (x1).toNatClampNeg ((c0_hours (x1).toNatClampNeg) ^^^ (sl (1 : Int32) x3))) c0_lies))) else if x2 = (3 : Int32) then Option.bind (fX8_pay c0_goods c0_owes c0_liking x1 x3) (fun v9 => (fX8_perform_b138 c0_liking x1 x2 x3  c0_cell c0_holds v9.1 v9.2 c0_air_force c0_hours c0_lies)) else if x2 = (4 : Int32) then gd (inb x1 6) ((fX8_perform_b138 c0_liking x1 x2 x3  c0_cell c0_holds c0_goods c0_owes c0_air_force c0_hours (upd c0_lies (x1).toNatClampNeg (-6 : Int32)))) else if x2 = (5 : Int32) then gd (inb x1 6) ((fX8_perform_b138 c0_liking x1 x2 x3  c0_cell (upd c0_holds (x1).toNatClampNeg x3) c0_goods c0_owes c0_air_force c0_hours c0_lies)) else if x2 = (6 : Int32) then gd (inb x1 6) ((fX8_perform_b138 c0_liking x1 x2 x3  c0_cell (upd c0_holds (x1).toNatClampNeg (-6 : Int32)) c0_goods c0_owes c0_air_force c0_hours c0_lies)) else if x2 = (7 : Int32) then (fX8_perform_b138 c0_liking x1 x2 x3  c0_cell c0_holds c0_goods c0_owes (c0_air_force + (1 : Int32)) c0_hours c0_lies) else (fX8_perform_b138 c0_liking x1 x2 x3  c0_cell c0_holds c0_goods c0_owes c0_air_force c0_hours c0_lies))
abbrev rmX8_perform : Room := { frames := 2, cells := 0, slots := 0, locals := 43 }
set_option maxRecDepth 100000 in
set_option maxHeartbeats 4000000 in
theorem ctX8_perform (l : Launch) (G : zG) (a0 a0_air a0_cell a0_hours a0_owes a0_holds a0_lies a0_goods a0_liking : Nat) (c0_hour : Int32) (c0_day : Int32) (c0_cell : Nat → Int32) (c0_holds : Nat → Int32) (c0_goods : Nat → Int32) (c0_owes : Nat → Int32) (c0_liking : Nat → Int32) (c0_air_cell : Int32) (c0_air_way : Int32) (c0_air_force : Int32) (c0_hours : Nat → Int32) (c0_lies : Nat → Int32) (x1 : Int32) (x2 : Int32) (x3 : Int32) {R : (Nat → Int32) × (Nat → Int32) × (Nat → Int32) × (Nat → Int32) × Int32 × (Nat → Int32) × (Nat → Int32)} (hf : fX8_perform c0_cell c0_holds c0_goods c0_owes c0_liking c0_air_force c0_hours c0_lies x1 x2 x3 = some R) : zCt l yX8_perform wsX8_perform rmX8_perform G [(a0, .inr (8, [.ref a0_air, .ref a0_cell, .ref a0_hours, .ref a0_owes, .ref a0_holds, .ref a0_lies, .ref a0_goods, .ref a0_liking, .int c0_hour, .int c0_day])), (a0_cell, .inl (G.2.1, 6, .inl c0_cell)), (a0_holds, .inl (G.2.1, 6, .inl c0_holds)), (a0_goods, .inl (G.2.1, 18, .inl c0_goods)), (a0_owes, .inl (G.2.1, 6, .inl c0_owes)), (a0_liking, .inl (G.2.1, 3, .inl c0_liking)), (a0_air, .inr (10, [.int c0_air_cell, .int c0_air_way, .int c0_air_force])), (a0_hours, .inl (G.2.1, 6, .inl c0_hours)), (a0_lies, .inl (G.2.1, 6, .inl c0_lies))] [.ref a0, .int x1, .int x2, .int x3] (fun v w => v = none ∧ w = [(a0, .inr (8, [.ref a0_air, .ref a0_cell, .ref a0_hours, .ref a0_owes, .ref a0_holds, .ref a0_lies, .ref a0_goods, .ref a0_liking, .int c0_hour, .int c0_day])), (a0_cell, .inl (G.2.1, 6, .inl (R.1))), (a0_holds, .inl (G.2.1, 6, .inl (R.2.1))), (a0_goods, .inl (G.2.1, 18, .inl (R.2.2.1))), (a0_owes, .inl (G.2.1, 6, .inl (R.2.2.2.1))), (a0_liking, .inl (G.2.1, 3, .inl c0_liking)), (a0_air, .inr (10, [.int c0_air_cell, .int c0_air_way, .int (R.2.2.2.2.1)])), (a0_hours, .inl (G.2.1, 6, .inl (R.2.2.2.2.2.1))), (a0_lies, .inl (G.2.1, 6, .inl (R.2.2.2.2.2.2)))]) := by
  refine zMkV (own := RX8) false (by decide) (by decide +kernel) rfl rfl (Nat.le_of_ble_eq_true rfl) ?_
  intro Z h hret
  have hB138 : ∀ (c0_cell : Nat → Int32) (c0_holds : Nat → Int32) (c0_goods : Nat → Int32) (c0_owes : Nat → Int32) (c0_air_force : Int32) (c0_hours : Nat → Int32) (c0_lies : Nat → Int32), fX8_perform_b138 c0_liking x1 x2 x3  c0_cell c0_holds c0_goods c0_owes c0_air_force c0_hours c0_lies = some R → Z 0 0 [(a0, .inr (8, [.ref a0_air, .ref a0_cell, .ref a0_hours, .ref a0_owes, .ref a0_holds, .ref a0_lies, .ref a0_goods, .ref a0_liking, .int c0_hour, .int c0_day])), (a0_cell, .inl (G.2.1, 6, .inl c0_cell)), (a0_holds, .inl (G.2.1, 6, .inl c0_holds)), (a0_goods, .inl (G.2.1, 18, .inl c0_goods)), (a0_owes, .inl (G.2.1, 6, .inl c0_owes)), (a0_liking, .inl (G.2.1, 3, .inl c0_liking)), (a0_air, .inr (10, [.int c0_air_cell, .int c0_air_way, .int c0_air_force])), (a0_hours, .inl (G.2.1, 6, .inl c0_hours)), (a0_lies, .inl (G.2.1, 6, .inl c0_lies))] [] 138 [] := by
    intro c0_cell c0_holds c0_goods c0_owes c0_air_force c0_hours c0_lies hf
    rw [fX8_perform_b138] at hf
    have hf := Option.some.inj hf
    subst hf
    exact hret _ _ _ dX8_perform_138 ⟨rfl, rfl⟩
  rw [fX8_perform] at hf
  show Z 0 0 _ [(0, .ref a0), (1, .int x1), (2, .int x2), (3, .int x3)] 0 []
  refine z_iload_n h dX8_perform_0 2 rfl rfl ?_
  by_cases c1 : x2 = (0 : Int32)
  · have hf := ite_t hf c1
    refine z_tableIn h (off := 47) (tgt := 48) dX8_perform_1 (0 : Int32) c1 (by decide) (by decide) (by decide) (by decide) ?_
    refine z_aload_n h dX8_perform_48 0 rfl rfl ?_
    refine z_iload_n h dX8_perform_49 1 rfl rfl ?_
    refine z_iconst h (v := (1 : Int32)) dX8_perform_50 (by decide) rfl ?_
    obtain ⟨v2, hv2, hf⟩ := bd_some hf
    refine z_callV h (np := 2) (st := []) (wr := [(a0_goods, .inl (G.2.1, 18, .inl c0_goods)), (a0_owes, .inl (G.2.1, 6, .inl c0_owes)), (a0_liking, .inl (G.2.1, 3, .inl c0_liking)), (a0_air, .inr (10, [.int c0_air_cell, .int c0_air_way, .int c0_air_force])), (a0_hours, .inl (G.2.1, 6, .inl c0_hours)), (a0_lies, .inl (G.2.1, 6, .inl c0_lies))]) [.int x1, .int (1 : Int32)] (ctX8_move l G a0 a0_air a0_cell a0_hours a0_owes a0_holds a0_lies a0_goods a0_liking c0_hour c0_day c0_cell c0_holds x1 (1 : Int32) hv2) gX8_perform_X8_move (by decide +kernel) 0 rfl rfl rfl ⟨Nat.le_of_ble_eq_true rfl, Nat.le_of_ble_eq_true rfl⟩ ⟨Nat.le_refl _, Nat.le_refl _⟩ rfl rfl rfl [0, 1, 2] [3, 4, 5, 6, 7, 8] rfl rfl rfl rfl (by decide) (Nat.le_of_ble_eq_true rfl) dX8_perform_51 rfl rfl (fun rv2 wv2 hrv2 => ?_)
    obtain ⟨rfl, rfl⟩ := hrv2
    refine z_perm h (w2 := [(a0, .inr (8, [.ref a0_air, .ref a0_cell, .ref a0_hours, .ref a0_owes, .ref a0_holds, .ref a0_lies, .ref a0_goods, .ref a0_liking, .int c0_hour, .int c0_day])), (a0_cell, .inl (G.2.1, 6, .inl v2)), (a0_holds, .inl (G.2.1, 6, .inl c0_holds)), (a0_goods, .inl (G.2.1, 18, .inl c0_goods)), (a0_owes, .inl (G.2.1, 6, .inl c0_owes)), (a0_liking, .inl (G.2.1, 3, .inl c0_liking)), (a0_air, .inr (10, [.int c0_air_cell, .int c0_air_way, .int c0_air_force])), (a0_hours, .inl (G.2.1, 6, .inl c0_hours)), (a0_lies, .inl (G.2.1, 6, .inl c0_lies))]) (st := []) [6, 7, 8, 0, 1, 2, 3, 4, 5] rfl rfl ?_
    refine z_goto h (tgt := 138) dX8_perform_54 (by decide) ?_
    refine z_locs h (lv2 := []) [] rfl ?_
    exact hB138 v2 c0_holds c0_goods c0_owes c0_air_force c0_hours c0_lies hf
  have hf := ite_f hf c1
  by_cases c3 : x2 = (1 : Int32)
  · have hf := ite_t hf c3
    refine z_tableIn h (off := 56) (tgt := 57) dX8_perform_1 (1 : Int32) c3 (by decide) (by decide) (by decide) (by decide) ?_
    refine z_aload_n h dX8_perform_57 0 rfl rfl ?_
    refine z_iload_n h dX8_perform_58 1 rfl rfl ?_
    refine z_iconst h (v := (-1 : Int32)) dX8_perform_59 (by decide) rfl ?_
    obtain ⟨v4, hv4, hf⟩ := bd_some hf
    refine z_callV h (np := 2) (st := []) (wr := [(a0_goods, .inl (G.2.1, 18, .inl c0_goods)), (a0_owes, .inl (G.2.1, 6, .inl c0_owes)), (a0_liking, .inl (G.2.1, 3, .inl c0_liking)), (a0_air, .inr (10, [.int c0_air_cell, .int c0_air_way, .int c0_air_force])), (a0_hours, .inl (G.2.1, 6, .inl c0_hours)), (a0_lies, .inl (G.2.1, 6, .inl c0_lies))]) [.int x1, .int (-1 : Int32)] (ctX8_move l G a0 a0_air a0_cell a0_hours a0_owes a0_holds a0_lies a0_goods a0_liking c0_hour c0_day c0_cell c0_holds x1 (-1 : Int32) hv4) gX8_perform_X8_move (by decide +kernel) 0 rfl rfl rfl ⟨Nat.le_of_ble_eq_true rfl, Nat.le_of_ble_eq_true rfl⟩ ⟨Nat.le_refl _, Nat.le_refl _⟩ rfl rfl rfl [0, 1, 2] [3, 4, 5, 6, 7, 8] rfl rfl rfl rfl (by decide) (Nat.le_of_ble_eq_true rfl) dX8_perform_60 rfl rfl (fun rv4 wv4 hrv4 => ?_)
    obtain ⟨rfl, rfl⟩ := hrv4
    refine z_perm h (w2 := [(a0, .inr (8, [.ref a0_air, .ref a0_cell, .ref a0_hours, .ref a0_owes, .ref a0_holds, .ref a0_lies, .ref a0_goods, .ref a0_liking, .int c0_hour, .int c0_day])), (a0_cell, .inl (G.2.1, 6, .inl v4)), (a0_holds, .inl (G.2.1, 6, .inl c0_holds)), (a0_goods, .inl (G.2.1, 18, .inl c0_goods)), (a0_owes, .inl (G.2.1, 6, .inl c0_owes)), (a0_liking, .inl (G.2.1, 3, .inl c0_liking)), (a0_air, .inr (10, [.int c0_air_cell, .int c0_air_way, .int c0_air_force])), (a0_hours, .inl (G.2.1, 6, .inl c0_hours)), (a0_lies, .inl (G.2.1, 6, .inl c0_lies))]) (st := []) [6, 7, 8, 0, 1, 2, 3, 4, 5] rfl rfl ?_
    refine z_goto h (tgt := 138) dX8_perform_63 (by decide) ?_
    refine z_locs h (lv2 := []) [] rfl ?_
    exact hB138 v4 c0_holds c0_goods c0_owes c0_air_force c0_hours c0_lies hf
  have hf := ite_f hf c3
  by_cases c5 : x2 = (2 : Int32)
  · have hf := ite_t hf c5
    refine z_tableIn h (off := 65) (tgt := 66) dX8_perform_1 (2 : Int32) c5 (by decide) (by decide) (by decide) (by decide) ?_
    refine z_aload_n h dX8_perform_66 0 rfl rfl ?_
    refine z_get h (C := RX8) (T := TX8) (N := 10) (v := .ref a0_hours) 0 rfl rfl 2 (by decide) (by decide +kernel) (by decide +kernel) rfl dX8_perform_67 rfl ?_
    refine z_iload_n h dX8_perform_70 1 rfl rfl ?_
    refine z_dup2 h dX8_perform_71 rfl rfl rfl ?_
    obtain ⟨hg6, hf⟩ := gd_some hf
    refine z_iald h 7 rfl rfl hg6 dX8_perform_72 rfl ?_
    refine z_iconst h (v := (1 : Int32)) dX8_perform_73 (by decide) rfl ?_
    refine z_iload_n h dX8_perform_74 3 rfl rfl ?_
    refine z_ishl h dX8_perform_75 rfl ?_
    refine z_ixor h dX8_perform_76 rfl ?_
    obtain ⟨hg7, hf⟩ := gd_some hf
    refine z_iast h (w2 := [(a0, .inr (8, [.ref a0_air, .ref a0_cell, .ref a0_hours, .ref a0_owes, .ref a0_holds, .ref a0_lies, .ref a0_goods, .ref a0_liking, .int c0_hour, .int c0_day])), (a0_cell, .inl (G.2.1, 6, .inl c0_cell)), (a0_holds, .inl (G.2.1, 6, .inl c0_holds)), (a0_goods, .inl (G.2.1, 18, .inl c0_goods)), (a0_owes, .inl (G.2.1, 6, .inl c0_owes)), (a0_liking, .inl (G.2.1, 3, .inl c0_liking)), (a0_air, .inr (10, [.int c0_air_cell, .int c0_air_way, .int c0_air_force])), (a0_hours, .inl (G.2.1, 6, .inl (upd c0_hours (x1).toNatClampNeg ((c0_hours (x1).toNatClampNeg) ^^^ (sl (1 : Int32) x3))))), (a0_lies, .inl (G.2.1, 6, .inl c0_lies))]) 7 rfl rfl hg7 dX8_perform_77 rfl rfl ?_
    refine z_goto h (tgt := 138) dX8_perform_78 (by decide) ?_
    refine z_locs h (lv2 := []) [] rfl ?_
    exact hB138 c0_cell c0_holds c0_goods c0_owes c0_air_force (upd c0_hours (x1).toNatClampNeg ((c0_hours (x1).toNatClampNeg) ^^^ (sl (1 : Int32) x3))) c0_lies hf
  have hf := ite_f hf c5
  by_cases c8 : x2 = (3 : Int32)
  · have hf := ite_t hf c8
    refine z_tableIn h (off := 80) (tgt := 81) dX8_perform_1 (3 : Int32) c8 (by decide) (by decide) (by decide) (by decide) ?_
    refine z_aload_n h dX8_perform_81 0 rfl rfl ?_
    refine z_iload_n h dX8_perform_82 1 rfl rfl ?_
    refine z_iload_n h dX8_perform_83 3 rfl rfl ?_
    obtain ⟨v9, hv9, hf⟩ := bd_some hf
    refine z_callV h (np := 2) (st := []) (wr := [(a0_cell, .inl (G.2.1, 6, .inl c0_cell)), (a0_holds, .inl (G.2.1, 6, .inl c0_holds)), (a0_air, .inr (10, [.int c0_air_cell, .int c0_air_way, .int c0_air_force])), (a0_hours, .inl (G.2.1, 6, .inl c0_hours)), (a0_lies, .inl (G.2.1, 6, .inl c0_lies))]) [.int x1, .int x3] (ctX8_pay l G a0 a0_air a0_cell a0_hours a0_owes a0_holds a0_lies a0_goods a0_liking c0_hour c0_day c0_goods c0_owes c0_liking x1 x3 hv9) gX8_perform_X8_pay (by decide +kernel) 0 rfl rfl rfl ⟨Nat.le_of_ble_eq_true rfl, Nat.le_of_ble_eq_true rfl⟩ ⟨Nat.le_refl _, Nat.le_refl _⟩ rfl rfl rfl [0, 3, 4, 5] [1, 2, 6, 7, 8] rfl rfl rfl rfl (by decide) (Nat.le_of_ble_eq_true rfl) dX8_perform_84 rfl rfl (fun rv9 wv9 hrv9 => ?_)
    obtain ⟨rfl, rfl⟩ := hrv9
    refine z_perm h (w2 := [(a0, .inr (8, [.ref a0_air, .ref a0_cell, .ref a0_hours, .ref a0_owes, .ref a0_holds, .ref a0_lies, .ref a0_goods, .ref a0_liking, .int c0_hour, .int c0_day])), (a0_cell, .inl (G.2.1, 6, .inl c0_cell)), (a0_holds, .inl (G.2.1, 6, .inl c0_holds)), (a0_goods, .inl (G.2.1, 18, .inl v9.1)), (a0_owes, .inl (G.2.1, 6, .inl v9.2)), (a0_liking, .inl (G.2.1, 3, .inl c0_liking)), (a0_air, .inr (10, [.int c0_air_cell, .int c0_air_way, .int c0_air_force])), (a0_hours, .inl (G.2.1, 6, .inl c0_hours)), (a0_lies, .inl (G.2.1, 6, .inl c0_lies))]) (st := []) [5, 0, 1, 6, 7, 8, 2, 3, 4] rfl rfl ?_
    refine z_goto h (tgt := 138) dX8_perform_87 (by decide) ?_
    refine z_locs h (lv2 := []) [] rfl ?_
    exact hB138 c0_cell c0_holds v9.1 v9.2 c0_air_force c0_hours c0_lies hf
  have hf := ite_f hf c8
  by_cases c10 : x2 = (4 : Int32)
  · have hf := ite_t hf c10
    refine z_tableIn h (off := 89) (tgt := 90) dX8_perform_1 (4 : Int32) c10 (by decide) (by decide) (by decide) (by decide) ?_
    refine z_aload_n h dX8_perform_90 0 rfl rfl ?_
    refine z_get h (C := RX8) (T := TX8) (N := 10) (v := .ref a0_lies) 0 rfl rfl 5 (by decide) (by decide +kernel) (by decide +kernel) rfl dX8_perform_91 rfl ?_
    refine z_iload_n h dX8_perform_94 1 rfl rfl ?_
    refine z_bipush h (v := (-6 : Int32)) dX8_perform_95 (by decide) rfl ?_
    obtain ⟨hg11, hf⟩ := gd_some hf
    refine z_iast h (w2 := [(a0, .inr (8, [.ref a0_air, .ref a0_cell, .ref a0_hours, .ref a0_owes, .ref a0_holds, .ref a0_lies, .ref a0_goods, .ref a0_liking, .int c0_hour, .int c0_day])), (a0_cell, .inl (G.2.1, 6, .inl c0_cell)), (a0_holds, .inl (G.2.1, 6, .inl c0_holds)), (a0_goods, .inl (G.2.1, 18, .inl c0_goods)), (a0_owes, .inl (G.2.1, 6, .inl c0_owes)), (a0_liking, .inl (G.2.1, 3, .inl c0_liking)), (a0_air, .inr (10, [.int c0_air_cell, .int c0_air_way, .int c0_air_force])), (a0_hours, .inl (G.2.1, 6, .inl c0_hours)), (a0_lies, .inl (G.2.1, 6, .inl (upd c0_lies (x1).toNatClampNeg (-6 : Int32))))]) 8 rfl rfl hg11 dX8_perform_97 rfl rfl ?_
    refine z_goto h (tgt := 138) dX8_perform_98 (by decide) ?_
    refine z_locs h (lv2 := []) [] rfl ?_
    exact hB138 c0_cell c0_holds c0_goods c0_owes c0_air_force c0_hours (upd c0_lies (x1).toNatClampNeg (-6 : Int32)) hf
  have hf := ite_f hf c10
  by_cases c12 : x2 = (5 : Int32)
  · have hf := ite_t hf c12
    refine z_tableIn h (off := 100) (tgt := 101) dX8_perform_1 (5 : Int32) c12 (by decide) (by decide) (by decide) (by decide) ?_
    refine z_aload_n h dX8_perform_101 0 rfl rfl ?_
    refine z_get h (C := RX8) (T := TX8) (N := 10) (v := .ref a0_holds) 0 rfl rfl 4 (by decide) (by decide +kernel) (by decide +kernel) rfl dX8_perform_102 rfl ?_
    refine z_iload_n h dX8_perform_105 1 rfl rfl ?_
    refine z_iload_n h dX8_perform_106 3 rfl rfl ?_
    obtain ⟨hg13, hf⟩ := gd_some hf
    refine z_iast h (w2 := [(a0, .inr (8, [.ref a0_air, .ref a0_cell, .ref a0_hours, .ref a0_owes, .ref a0_holds, .ref a0_lies, .ref a0_goods, .ref a0_liking, .int c0_hour, .int c0_day])), (a0_cell, .inl (G.2.1, 6, .inl c0_cell)), (a0_holds, .inl (G.2.1, 6, .inl (upd c0_holds (x1).toNatClampNeg x3))), (a0_goods, .inl (G.2.1, 18, .inl c0_goods)), (a0_owes, .inl (G.2.1, 6, .inl c0_owes)), (a0_liking, .inl (G.2.1, 3, .inl c0_liking)), (a0_air, .inr (10, [.int c0_air_cell, .int c0_air_way, .int c0_air_force])), (a0_hours, .inl (G.2.1, 6, .inl c0_hours)), (a0_lies, .inl (G.2.1, 6, .inl c0_lies))]) 2 rfl rfl hg13 dX8_perform_107 rfl rfl ?_
    refine z_goto h (tgt := 138) dX8_perform_108 (by decide) ?_
    refine z_locs h (lv2 := []) [] rfl ?_
    exact hB138 c0_cell (upd c0_holds (x1).toNatClampNeg x3) c0_goods c0_owes c0_air_force c0_hours c0_lies hf
  have hf := ite_f hf c12
  by_cases c14 : x2 = (6 : Int32)
  · have hf := ite_t hf c14
    refine z_tableIn h (off := 110) (tgt := 111) dX8_perform_1 (6 : Int32) c14 (by decide) (by decide) (by decide) (by decide) ?_
    refine z_aload_n h dX8_perform_111 0 rfl rfl ?_
    refine z_get h (C := RX8) (T := TX8) (N := 10) (v := .ref a0_holds) 0 rfl rfl 4 (by decide) (by decide +kernel) (by decide +kernel) rfl dX8_perform_112 rfl ?_
    refine z_iload_n h dX8_perform_115 1 rfl rfl ?_
    refine z_bipush h (v := (-6 : Int32)) dX8_perform_116 (by decide) rfl ?_
    obtain ⟨hg15, hf⟩ := gd_some hf
    refine z_iast h (w2 := [(a0, .inr (8, [.ref a0_air, .ref a0_cell, .ref a0_hours, .ref a0_owes, .ref a0_holds, .ref a0_lies, .ref a0_goods, .ref a0_liking, .int c0_hour, .int c0_day])), (a0_cell, .inl (G.2.1, 6, .inl c0_cell)), (a0_holds, .inl (G.2.1, 6, .inl (upd c0_holds (x1).toNatClampNeg (-6 : Int32)))), (a0_goods, .inl (G.2.1, 18, .inl c0_goods)), (a0_owes, .inl (G.2.1, 6, .inl c0_owes)), (a0_liking, .inl (G.2.1, 3, .inl c0_liking)), (a0_air, .inr (10, [.int c0_air_cell, .int c0_air_way, .int c0_air_force])), (a0_hours, .inl (G.2.1, 6, .inl c0_hours)), (a0_lies, .inl (G.2.1, 6, .inl c0_lies))]) 2 rfl rfl hg15 dX8_perform_118 rfl rfl ?_
    refine z_goto h (tgt := 138) dX8_perform_119 (by decide) ?_
    refine z_locs h (lv2 := []) [] rfl ?_
    exact hB138 c0_cell (upd c0_holds (x1).toNatClampNeg (-6 : Int32)) c0_goods c0_owes c0_air_force c0_hours c0_lies hf
  have hf := ite_f hf c14
  by_cases c16 : x2 = (7 : Int32)
  · have hf := ite_t hf c16
    refine z_tableIn h (off := 121) (tgt := 122) dX8_perform_1 (7 : Int32) c16 (by decide) (by decide) (by decide) (by decide) ?_
    refine z_aload_n h dX8_perform_122 0 rfl rfl ?_
    refine z_get h (C := RX8) (T := TX8) (N := 10) (v := .ref a0_air) 0 rfl rfl 0 (by decide) (by decide +kernel) (by decide +kernel) rfl dX8_perform_123 rfl ?_
    refine z_dup h dX8_perform_126 rfl rfl ?_
    refine z_get h (C := RX10) (T := TX10) (N := 3) (v := .int c0_air_force) 6 rfl rfl 2 (by decide) (by decide +kernel) (by decide +kernel) rfl dX8_perform_127 rfl ?_
    refine z_iconst h (v := (1 : Int32)) dX8_perform_130 (by decide) rfl ?_
    refine z_iadd h dX8_perform_131 rfl ?_
    refine z_put h (C := RX10) (T := TX10) (N := 3) 6 rfl rfl 2 (by decide) (by decide +kernel) (by decide +kernel) tyX10 tyX10_ok nmX10 (w2 := [(a0, .inr (8, [.ref a0_air, .ref a0_cell, .ref a0_hours, .ref a0_owes, .ref a0_holds, .ref a0_lies, .ref a0_goods, .ref a0_liking, .int c0_hour, .int c0_day])), (a0_cell, .inl (G.2.1, 6, .inl c0_cell)), (a0_holds, .inl (G.2.1, 6, .inl c0_holds)), (a0_goods, .inl (G.2.1, 18, .inl c0_goods)), (a0_owes, .inl (G.2.1, 6, .inl c0_owes)), (a0_liking, .inl (G.2.1, 3, .inl c0_liking)), (a0_air, .inr (10, [.int c0_air_cell, .int c0_air_way, .int (c0_air_force + (1 : Int32))])), (a0_hours, .inl (G.2.1, 6, .inl c0_hours)), (a0_lies, .inl (G.2.1, 6, .inl c0_lies))]) rfl rfl rfl (Nat.le_of_ble_eq_true rfl) rfl dX8_perform_132 rfl ?_
    refine z_goto h (tgt := 138) dX8_perform_135 (by decide) ?_
    refine z_locs h (lv2 := []) [] rfl ?_
    exact hB138 c0_cell c0_holds c0_goods c0_owes (c0_air_force + (1 : Int32)) c0_hours c0_lies hf
  have hf := ite_f hf c16
  refine z_tableOut h (tgt := 138) dX8_perform_1 (z_tout 8 (by decide) (by decide) (by decide) (fun j hj => match j, hj with
    | 0, _ => c1
    | 1, _ => c3
    | 2, _ => c5
    | 3, _ => c8
    | 4, _ => c10
    | 5, _ => c12
    | 6, _ => c14
    | 7, _ => c16
    | j + 8, hj => absurd hj (by omega))) (by decide) ?_
  refine z_locs h (lv2 := []) [] rfl ?_
  exact hB138 c0_cell c0_holds c0_goods c0_owes c0_air_force c0_hours c0_lies hf
def fX8_chargeAll_L2 (c0_hours : Nat → Int32)  : Nat → (Nat → Int32) → Int32 → Option ((Nat → Int32))
  | 0, _, _ => none
  | n + 1, c0_owes, x1 => (if (6 : Int32) ≤ x1 then (some c0_owes) else gd (inb x1 6) (gd (inb x1 6) (Option.bind (fJ6_bitCount_0f7a4 (c0_hours (x1).toNatClampNeg)) (fun v4 => gd (inb x1 6) (((fX8_chargeAll_L2 c0_hours  n) (upd c0_owes (x1).toNatClampNeg (imin ((c0_owes (x1).toNatClampNeg) + (v4 / (2 : Int32))) (9 : Int32))) (x1 + (1 : Int32))))))))
def fX8_chargeAll (c0_owes : Nat → Int32) (c0_hours : Nat → Int32)  : Option ((Nat → Int32)) := (fX8_chargeAll_L2 c0_hours  zF c0_owes (0 : Int32))
abbrev rmX8_chargeAll : Room := { frames := 1, cells := 0, slots := 0, locals := 21 }
set_option maxRecDepth 100000 in
set_option maxHeartbeats 4000000 in
theorem ctX8_chargeAll (l : Launch) (G : zG) (a0 a0_air a0_cell a0_hours a0_owes a0_holds a0_lies a0_goods a0_liking : Nat) (c0_hour : Int32) (c0_day : Int32) (c0_owes : Nat → Int32) (c0_hours : Nat → Int32)  {R : (Nat → Int32)} (hf : fX8_chargeAll c0_owes c0_hours = some R) : zCt l yX8_chargeAll wsX8_chargeAll rmX8_chargeAll G [(a0, .inr (8, [.ref a0_air, .ref a0_cell, .ref a0_hours, .ref a0_owes, .ref a0_holds, .ref a0_lies, .ref a0_goods, .ref a0_liking, .int c0_hour, .int c0_day])), (a0_owes, .inl (G.2.1, 6, .inl c0_owes)), (a0_hours, .inl (G.2.1, 6, .inl c0_hours))] [.ref a0] (fun v w => v = none ∧ w = [(a0, .inr (8, [.ref a0_air, .ref a0_cell, .ref a0_hours, .ref a0_owes, .ref a0_holds, .ref a0_lies, .ref a0_goods, .ref a0_liking, .int c0_hour, .int c0_day])), (a0_owes, .inl (G.2.1, 6, .inl R)), (a0_hours, .inl (G.2.1, 6, .inl c0_hours))]) := by
  refine zMkV (own := RX8) false (by decide) (by decide +kernel) rfl rfl (Nat.le_of_ble_eq_true rfl) ?_
  intro Z h hret
  have hL2 : ∀ (n2 : Nat) (c0_owes : Nat → Int32) (x1 : Int32), fX8_chargeAll_L2 c0_hours  n2 c0_owes x1 = some R → Z 0 0 [(a0, .inr (8, [.ref a0_air, .ref a0_cell, .ref a0_hours, .ref a0_owes, .ref a0_holds, .ref a0_lies, .ref a0_goods, .ref a0_liking, .int c0_hour, .int c0_day])), (a0_owes, .inl (G.2.1, 6, .inl c0_owes)), (a0_hours, .inl (G.2.1, 6, .inl c0_hours))] [(0, .ref a0), (1, .int x1)] 2 [] := by
    intro n2
    induction n2 with
    | zero =>
      intro c0_owes x1 hf
      rw [fX8_chargeAll_L2] at hf
      cases hf
    | succ n2 ih2 =>
      intro c0_owes x1 hf
      rw [fX8_chargeAll_L2] at hf
      refine z_iload_n h dX8_chargeAll_2 1 rfl rfl ?_
      refine z_bipush h (v := (6 : Int32)) dX8_chargeAll_3 (by decide) rfl ?_
      refine z_icmp_ge h (tgt := 45) dX8_chargeAll_5 (by decide) rfl (fun c1 => ?_) (fun c1 => ?_)
      · have hf := ite_t hf c1
        have hf := Option.some.inj hf
        subst hf
        exact hret _ _ _ dX8_chargeAll_45 ⟨rfl, rfl⟩
      have hf := ite_f hf c1
      refine z_aload_n h dX8_chargeAll_8 0 rfl rfl ?_
      refine z_get h (C := RX8) (T := TX8) (N := 10) (v := .ref a0_owes) 0 rfl rfl 3 (by decide) (by decide +kernel) (by decide +kernel) rfl dX8_chargeAll_9 rfl ?_
      refine z_iload_n h dX8_chargeAll_12 1 rfl rfl ?_
      obtain ⟨hg2, hf⟩ := gd_some hf
      refine z_iald h 1 rfl rfl hg2 dX8_chargeAll_13 rfl ?_
      refine z_aload_n h dX8_chargeAll_14 0 rfl rfl ?_
      refine z_get h (C := RX8) (T := TX8) (N := 10) (v := .ref a0_hours) 0 rfl rfl 2 (by decide) (by decide +kernel) (by decide +kernel) rfl dX8_chargeAll_15 rfl ?_
      refine z_iload_n h dX8_chargeAll_18 1 rfl rfl ?_
      obtain ⟨hg3, hf⟩ := gd_some hf
      refine z_iald h 2 rfl rfl hg3 dX8_chargeAll_19 rfl ?_
      obtain ⟨v4, hv4, hf⟩ := bd_some hf
      refine z_callS h (np := 1) (st := [.int (c0_owes (x1).toNatClampNeg)]) (wr := [(a0, .inr (8, [.ref a0_air, .ref a0_cell, .ref a0_hours, .ref a0_owes, .ref a0_holds, .ref a0_lies, .ref a0_goods, .ref a0_liking, .int c0_hour, .int c0_day])), (a0_owes, .inl (G.2.1, 6, .inl c0_owes)), (a0_hours, .inl (G.2.1, 6, .inl c0_hours))]) [.int (c0_hours (x1).toNatClampNeg)] (ctJ6_bitCount_0f7a4 l G (c0_hours (x1).toNatClampNeg) hv4) gX8_chargeAll_J6_bitCount_0f7a4 (by decide +kernel) rfl ⟨Nat.le_of_ble_eq_true rfl, Nat.le_of_ble_eq_true rfl⟩ ⟨Nat.le_refl _, Nat.le_refl _⟩ rfl rfl rfl [] [0, 1, 2] rfl rfl rfl rfl (by decide) (Nat.le_of_ble_eq_true rfl) dX8_chargeAll_20 rfl rfl (fun rv4 wv4 hrv4 => ?_)
      obtain ⟨rfl, rfl⟩ := hrv4
      refine z_perm h (w2 := [(a0, .inr (8, [.ref a0_air, .ref a0_cell, .ref a0_hours, .ref a0_owes, .ref a0_holds, .ref a0_lies, .ref a0_goods, .ref a0_liking, .int c0_hour, .int c0_day])), (a0_owes, .inl (G.2.1, 6, .inl c0_owes)), (a0_hours, .inl (G.2.1, 6, .inl c0_hours))]) (st := [.int v4, .int (c0_owes (x1).toNatClampNeg)]) [0, 1, 2] rfl rfl ?_
      refine z_iconst h (v := (2 : Int32)) dX8_chargeAll_23 (by decide) rfl ?_
      refine z_idiv h dX8_chargeAll_24 (by decide) rfl ?_
      refine z_iadd h dX8_chargeAll_25 rfl ?_
      refine z_istore_n h (lv2 := [(2, .int ((c0_owes (x1).toNatClampNeg) + (v4 / (2 : Int32)))), (0, .ref a0), (1, .int x1)]) dX8_chargeAll_26 (by decide) rfl rfl ?_
      refine z_aload_n h dX8_chargeAll_27 1 rfl rfl ?_
      refine z_get h (C := RX8) (T := TX8) (N := 10) (v := .ref a0_owes) 0 rfl rfl 3 (by decide) (by decide +kernel) (by decide +kernel) rfl dX8_chargeAll_28 rfl ?_
      refine z_iload_n h dX8_chargeAll_31 2 rfl rfl ?_
      refine z_iload_n h dX8_chargeAll_32 0 rfl rfl ?_
      refine z_bipush h (v := (9 : Int32)) dX8_chargeAll_33 (by decide) rfl ?_
      refine z_mmin h (by decide +kernel) (by decide +kernel) (by decide +kernel) (by decide +kernel) (Nat.le_of_ble_eq_true rfl) (Nat.le_of_ble_eq_true rfl) (Nat.zero_le _) (Nat.zero_le _) dX8_chargeAll_35 rfl ?_
      obtain ⟨hg5, hf⟩ := gd_some hf
      refine z_iast h (w2 := [(a0, .inr (8, [.ref a0_air, .ref a0_cell, .ref a0_hours, .ref a0_owes, .ref a0_holds, .ref a0_lies, .ref a0_goods, .ref a0_liking, .int c0_hour, .int c0_day])), (a0_owes, .inl (G.2.1, 6, .inl (upd c0_owes (x1).toNatClampNeg (imin ((c0_owes (x1).toNatClampNeg) + (v4 / (2 : Int32))) (9 : Int32))))), (a0_hours, .inl (G.2.1, 6, .inl c0_hours))]) 1 rfl rfl hg5 dX8_chargeAll_38 rfl rfl ?_
      refine z_iinc h (v := (x1 + (1 : Int32))) (lv2 := [(1, .int (x1 + (1 : Int32))), (2, .int ((c0_owes (x1).toNatClampNeg) + (v4 / (2 : Int32)))), (0, .ref a0)]) (j := 2) dX8_chargeAll_39 rfl rfl (by decide) rfl rfl ?_
      refine z_goto h (tgt := 2) dX8_chargeAll_42 (by decide) ?_
      refine z_locs h (lv2 := [(0, .ref a0), (1, .int (x1 + (1 : Int32)))]) [2, 0] rfl ?_
      exact ih2 (upd c0_owes (x1).toNatClampNeg (imin ((c0_owes (x1).toNatClampNeg) + (v4 / (2 : Int32))) (9 : Int32))) (x1 + (1 : Int32)) hf
  rw [fX8_chargeAll] at hf
  show Z 0 0 _ [(0, .ref a0)] 0 []
  refine z_iconst h (v := (0 : Int32)) dX8_chargeAll_0 (by decide) rfl ?_
  refine z_istore_n h (lv2 := [(1, .int (0 : Int32)), (0, .ref a0)]) dX8_chargeAll_1 (by decide) rfl rfl ?_
  refine z_locs h (lv2 := [(0, .ref a0), (1, .int (0 : Int32))]) [1, 0] rfl ?_
  exact hL2 zF c0_owes (0 : Int32) hf
def fX8_passTime_b38 (c0_hours : Nat → Int32)  (c0_hour : Int32) (c0_day : Int32) (c0_owes : Nat → Int32) : Option (Int32 × Int32 × (Nat → Int32)) := (some (c0_hour, c0_day, c0_owes))
def fX8_passTime (c0_hour : Int32) (c0_day : Int32) (c0_owes : Nat → Int32) (c0_hours : Nat → Int32)  : Option (Int32 × Int32 × (Nat → Int32)) := (if (c0_hour + (1 : Int32)) = (8 : Int32) then Option.bind (fX8_chargeAll c0_owes c0_hours) (fun v2 => (fX8_passTime_b38 c0_hours  (0 : Int32) (c0_day + (1 : Int32)) v2)) else (fX8_passTime_b38 c0_hours  (c0_hour + (1 : Int32)) c0_day c0_owes))
abbrev rmX8_passTime : Room := { frames := 2, cells := 0, slots := 0, locals := 43 }
set_option maxRecDepth 100000 in
set_option maxHeartbeats 4000000 in
theorem ctX8_passTime (l : Launch) (G : zG) (a0 a0_air a0_cell a0_hours a0_owes a0_holds a0_lies a0_goods a0_liking : Nat) (c0_hour : Int32) (c0_day : Int32) (c0_owes : Nat → Int32) (c0_hours : Nat → Int32)  {R : Int32 × Int32 × (Nat → Int32)} (hf : fX8_passTime c0_hour c0_day c0_owes c0_hours = some R) : zCt l yX8_passTime wsX8_passTime rmX8_passTime G [(a0, .inr (8, [.ref a0_air, .ref a0_cell, .ref a0_hours, .ref a0_owes, .ref a0_holds, .ref a0_lies, .ref a0_goods, .ref a0_liking, .int c0_hour, .int c0_day])), (a0_owes, .inl (G.2.1, 6, .inl c0_owes)), (a0_hours, .inl (G.2.1, 6, .inl c0_hours))] [.ref a0] (fun v w => v = none ∧ w = [(a0, .inr (8, [.ref a0_air, .ref a0_cell, .ref a0_hours, .ref a0_owes, .ref a0_holds, .ref a0_lies, .ref a0_goods, .ref a0_liking, .int (R.1), .int (R.2.1)])), (a0_owes, .inl (G.2.1, 6, .inl (R.2.2))), (a0_hours, .inl (G.2.1, 6, .inl c0_hours))]) := by
  refine zMkV (own := RX8) false (by decide) (by decide +kernel) rfl rfl (Nat.le_of_ble_eq_true rfl) ?_
  intro Z h hret
  have hB38 : ∀ (c0_hour : Int32) (c0_day : Int32) (c0_owes : Nat → Int32), fX8_passTime_b38 c0_hours  c0_hour c0_day c0_owes = some R → Z 0 0 [(a0, .inr (8, [.ref a0_air, .ref a0_cell, .ref a0_hours, .ref a0_owes, .ref a0_holds, .ref a0_lies, .ref a0_goods, .ref a0_liking, .int c0_hour, .int c0_day])), (a0_owes, .inl (G.2.1, 6, .inl c0_owes)), (a0_hours, .inl (G.2.1, 6, .inl c0_hours))] [] 38 [] := by
    intro c0_hour c0_day c0_owes hf
    rw [fX8_passTime_b38] at hf
    have hf := Option.some.inj hf
    subst hf
    exact hret _ _ _ dX8_passTime_38 ⟨rfl, rfl⟩
  rw [fX8_passTime] at hf
  show Z 0 0 _ [(0, .ref a0)] 0 []
  refine z_aload_n h dX8_passTime_0 0 rfl rfl ?_
  refine z_dup h dX8_passTime_1 rfl rfl ?_
  refine z_get h (C := RX8) (T := TX8) (N := 10) (v := .int c0_hour) 0 rfl rfl 8 (by decide) (by decide +kernel) (by decide +kernel) rfl dX8_passTime_2 rfl ?_
  refine z_iconst h (v := (1 : Int32)) dX8_passTime_5 (by decide) rfl ?_
  refine z_iadd h dX8_passTime_6 rfl ?_
  refine z_put h (C := RX8) (T := TX8) (N := 10) 0 rfl rfl 8 (by decide) (by decide +kernel) (by decide +kernel) tyX8 tyX8_ok nmX8 (w2 := [(a0, .inr (8, [.ref a0_air, .ref a0_cell, .ref a0_hours, .ref a0_owes, .ref a0_holds, .ref a0_lies, .ref a0_goods, .ref a0_liking, .int (c0_hour + (1 : Int32)), .int c0_day])), (a0_owes, .inl (G.2.1, 6, .inl c0_owes)), (a0_hours, .inl (G.2.1, 6, .inl c0_hours))]) rfl rfl rfl (Nat.le_of_ble_eq_true rfl) rfl dX8_passTime_7 rfl ?_
  refine z_aload_n h dX8_passTime_10 0 rfl rfl ?_
  refine z_get h (C := RX8) (T := TX8) (N := 10) (v := .int (c0_hour + (1 : Int32))) 0 rfl rfl 8 (by decide) (by decide +kernel) (by decide +kernel) rfl dX8_passTime_11 rfl ?_
  refine z_bipush h (v := (8 : Int32)) dX8_passTime_14 (by decide) rfl ?_
  refine z_icmp_ne h (tgt := 38) dX8_passTime_16 (by decide) rfl (fun c1 => ?_) (fun c1 => ?_)
  · have hf := ite_f hf c1
    refine z_locs h (lv2 := []) [] rfl ?_
    exact hB38 (c0_hour + (1 : Int32)) c0_day c0_owes hf
  have hf := ite_t hf c1
  refine z_aload_n h dX8_passTime_19 0 rfl rfl ?_
  refine z_iconst h (v := (0 : Int32)) dX8_passTime_20 (by decide) rfl ?_
  refine z_put h (C := RX8) (T := TX8) (N := 10) 0 rfl rfl 8 (by decide) (by decide +kernel) (by decide +kernel) tyX8 tyX8_ok nmX8 (w2 := [(a0, .inr (8, [.ref a0_air, .ref a0_cell, .ref a0_hours, .ref a0_owes, .ref a0_holds, .ref a0_lies, .ref a0_goods, .ref a0_liking, .int (0 : Int32), .int c0_day])), (a0_owes, .inl (G.2.1, 6, .inl c0_owes)), (a0_hours, .inl (G.2.1, 6, .inl c0_hours))]) rfl rfl rfl (Nat.le_of_ble_eq_true rfl) rfl dX8_passTime_21 rfl ?_
  refine z_aload_n h dX8_passTime_24 0 rfl rfl ?_
  refine z_dup h dX8_passTime_25 rfl rfl ?_
  refine z_get h (C := RX8) (T := TX8) (N := 10) (v := .int c0_day) 0 rfl rfl 9 (by decide) (by decide +kernel) (by decide +kernel) rfl dX8_passTime_26 rfl ?_
  refine z_iconst h (v := (1 : Int32)) dX8_passTime_29 (by decide) rfl ?_
  refine z_iadd h dX8_passTime_30 rfl ?_
  refine z_put h (C := RX8) (T := TX8) (N := 10) 0 rfl rfl 9 (by decide) (by decide +kernel) (by decide +kernel) tyX8 tyX8_ok nmX8 (w2 := [(a0, .inr (8, [.ref a0_air, .ref a0_cell, .ref a0_hours, .ref a0_owes, .ref a0_holds, .ref a0_lies, .ref a0_goods, .ref a0_liking, .int (0 : Int32), .int (c0_day + (1 : Int32))])), (a0_owes, .inl (G.2.1, 6, .inl c0_owes)), (a0_hours, .inl (G.2.1, 6, .inl c0_hours))]) rfl rfl rfl (Nat.le_of_ble_eq_true rfl) rfl dX8_passTime_31 rfl ?_
  refine z_aload_n h dX8_passTime_34 0 rfl rfl ?_
  obtain ⟨v2, hv2, hf⟩ := bd_some hf
  refine z_callV h (np := 0) (st := []) (wr := []) [] (ctX8_chargeAll l G a0 a0_air a0_cell a0_hours a0_owes a0_holds a0_lies a0_goods a0_liking (0 : Int32) (c0_day + (1 : Int32)) c0_owes c0_hours hv2) gX8_passTime_X8_chargeAll (by decide +kernel) 0 rfl rfl rfl ⟨Nat.le_of_ble_eq_true rfl, Nat.le_of_ble_eq_true rfl⟩ ⟨Nat.le_refl _, Nat.le_refl _⟩ rfl rfl rfl [0, 1, 2] [] rfl rfl rfl rfl (by decide) (Nat.le_of_ble_eq_true rfl) dX8_passTime_35 rfl rfl (fun rv2 wv2 hrv2 => ?_)
  obtain ⟨rfl, rfl⟩ := hrv2
  refine z_perm h (w2 := [(a0, .inr (8, [.ref a0_air, .ref a0_cell, .ref a0_hours, .ref a0_owes, .ref a0_holds, .ref a0_lies, .ref a0_goods, .ref a0_liking, .int (0 : Int32), .int (c0_day + (1 : Int32))])), (a0_owes, .inl (G.2.1, 6, .inl v2)), (a0_hours, .inl (G.2.1, 6, .inl c0_hours))]) (st := []) [0, 1, 2] rfl rfl ?_
  refine z_locs h (lv2 := []) [] rfl ?_
  exact hB38 (0 : Int32) (c0_day + (1 : Int32)) v2 hf
