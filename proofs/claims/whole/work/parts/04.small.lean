def fX0_countFrom_b78 (x1 : Int32) (x2 : Int32) (x3 : Int32) (K16 : (Int32 → Int32 → Int32 → Int32 → Int32 → Int32 → Int32 → Int32 → Option (Int32 × Int32 × Int32 × Int32 × Int32 × Int32))) (c0_cases : Int32) (c0_reaching : Int32) (c0_reached : Int32) (c0_wind_cell : Int32) (c0_wind_way : Int32) (c0_wind_force : Int32) (x4 : Int32) (x5 : Int32) : Option (Int32 × Int32 × Int32 × Int32 × Int32 × Int32) := (K16 c0_cases c0_reaching c0_reached c0_wind_cell c0_wind_way c0_wind_force x4 (x5 + (1 : Int32)))
def fX0_countFrom_L16 (x1 : Int32) (x2 : Int32) (x3 : Int32)  : Nat → Int32 → Int32 → Int32 → Int32 → Int32 → Int32 → Int32 → Int32 → Option (Int32 × Int32 × Int32 × Int32 × Int32 × Int32)
  | 0, _, _, _, _, _, _, _, _ => none
  | n + 1, c0_cases, c0_reaching, c0_reached, c0_wind_cell, c0_wind_way, c0_wind_force, x4, x5 => (if (9 : Int32) < x5 then (some (c0_cases, c0_reaching, c0_reached, c0_wind_cell, c0_wind_way, c0_wind_force)) else Option.bind (fX10_blowAnHour c0_wind_cell c0_wind_way c0_wind_force) (fun v2 => Option.bind (fJ6_bitCount_0f7a4 (x4 ||| v2.1)) (fun v3 => Option.bind (fX11_has (x4 ||| v2.1) x3) (fun v4 => (if v4 = (0 : Int32) then (fX0_countFrom_b78 x1 x2 x3 (fX0_countFrom_L16 x1 x2 x3  n) (c0_cases + (1 : Int32)) c0_reaching (c0_reached + v3) v2.2.1 v2.2.2 c0_wind_force (x4 ||| v2.1) x5) else (fX0_countFrom_b78 x1 x2 x3 (fX0_countFrom_L16 x1 x2 x3  n) (c0_cases + (1 : Int32)) (c0_reaching + (1 : Int32)) (c0_reached + v3) v2.2.1 v2.2.2 c0_wind_force (x4 ||| v2.1) x5))))))
def fX0_countFrom (c0_cases : Int32) (c0_reaching : Int32) (c0_reached : Int32) (c0_wind_cell : Int32) (c0_wind_way : Int32) (c0_wind_force : Int32) (x1 : Int32) (x2 : Int32) (x3 : Int32) : Option (Int32 × Int32 × Int32 × Int32 × Int32 × Int32) := Option.bind (fX10_put c0_wind_cell c0_wind_way c0_wind_force x1 x2 (1 : Int32)) (fun v6 => (fX0_countFrom_L16 x1 x2 x3  zF c0_cases c0_reaching c0_reached v6.1 v6.2.1 v6.2.2 (0 : Int32) (1 : Int32)))
abbrev rmX0_countFrom : Room := { frames := 3, cells := 0, slots := 0, locals := 62 }
set_option maxRecDepth 100000 in
set_option maxHeartbeats 4000000 in
theorem ctX0_countFrom (l : Launch) (G : zG) (a0 a0_wind : Nat) (c0_cases : Int32) (c0_reaching : Int32) (c0_reached : Int32) (c0_wind_cell : Int32) (c0_wind_way : Int32) (c0_wind_force : Int32) (x1 : Int32) (x2 : Int32) (x3 : Int32) {R : Int32 × Int32 × Int32 × Int32 × Int32 × Int32} (hf : fX0_countFrom c0_cases c0_reaching c0_reached c0_wind_cell c0_wind_way c0_wind_force x1 x2 x3 = some R) : zCt l yX0_countFrom wsX0_countFrom rmX0_countFrom G [(a0, .inr (0, [.ref a0_wind, .int c0_cases, .int c0_reaching, .int c0_reached])), (a0_wind, .inr (10, [.int c0_wind_cell, .int c0_wind_way, .int c0_wind_force]))] [.ref a0, .int x1, .int x2, .int x3] (fun v w => v = none ∧ w = [(a0, .inr (0, [.ref a0_wind, .int (R.1), .int (R.2.1), .int (R.2.2.1)])), (a0_wind, .inr (10, [.int (R.2.2.2.1), .int (R.2.2.2.2.1), .int (R.2.2.2.2.2)]))]) := by
  refine zMkV (own := RX0) false (by decide) (by decide +kernel) rfl rfl (Nat.le_of_ble_eq_true rfl) ?_
  intro Z h hret
  have hL16 : ∀ (n16 : Nat) (c0_cases : Int32) (c0_reaching : Int32) (c0_reached : Int32) (c0_wind_cell : Int32) (c0_wind_way : Int32) (c0_wind_force : Int32) (x4 : Int32) (x5 : Int32), fX0_countFrom_L16 x1 x2 x3  n16 c0_cases c0_reaching c0_reached c0_wind_cell c0_wind_way c0_wind_force x4 x5 = some R → Z 0 0 [(a0, .inr (0, [.ref a0_wind, .int c0_cases, .int c0_reaching, .int c0_reached])), (a0_wind, .inr (10, [.int c0_wind_cell, .int c0_wind_way, .int c0_wind_force]))] [(0, .ref a0), (3, .int x3), (4, .int x4), (5, .int x5)] 16 [] := by
    intro n16
    induction n16 with
    | zero =>
      intro c0_cases c0_reaching c0_reached c0_wind_cell c0_wind_way c0_wind_force x4 x5 hf
      rw [fX0_countFrom_L16] at hf
      cases hf
    | succ n16 ih16 =>
      have hB78 : ∀ (c0_cases : Int32) (c0_reaching : Int32) (c0_reached : Int32) (c0_wind_cell : Int32) (c0_wind_way : Int32) (c0_wind_force : Int32) (x4 : Int32) (x5 : Int32), fX0_countFrom_b78 x1 x2 x3 (fX0_countFrom_L16 x1 x2 x3  n16) c0_cases c0_reaching c0_reached c0_wind_cell c0_wind_way c0_wind_force x4 x5 = some R → Z 0 0 [(a0, .inr (0, [.ref a0_wind, .int c0_cases, .int c0_reaching, .int c0_reached])), (a0_wind, .inr (10, [.int c0_wind_cell, .int c0_wind_way, .int c0_wind_force]))] [(0, .ref a0), (3, .int x3), (4, .int x4), (5, .int x5)] 78 [] := by
        intro c0_cases c0_reaching c0_reached c0_wind_cell c0_wind_way c0_wind_force x4 x5 hf
        rw [fX0_countFrom_b78] at hf
        refine z_iinc h (v := (x5 + (1 : Int32))) (lv2 := [(5, .int (x5 + (1 : Int32))), (0, .ref a0), (3, .int x3), (4, .int x4)]) (j := 3) dX0_countFrom_78 rfl rfl (by decide) rfl rfl ?_
        refine z_goto h (tgt := 16) dX0_countFrom_81 (by decide) ?_
        refine z_locs h (lv2 := [(0, .ref a0), (3, .int x3), (4, .int x4), (5, .int (x5 + (1 : Int32)))]) [1, 2, 3, 0] rfl ?_
        exact ih16 c0_cases c0_reaching c0_reached c0_wind_cell c0_wind_way c0_wind_force x4 (x5 + (1 : Int32)) hf
      intro c0_cases c0_reaching c0_reached c0_wind_cell c0_wind_way c0_wind_force x4 x5 hf
      rw [fX0_countFrom_L16] at hf
      refine z_iload h dX0_countFrom_16 3 rfl rfl ?_
      refine z_bipush h (v := (9 : Int32)) dX0_countFrom_18 (by decide) rfl ?_
      refine z_icmp_gt h (tgt := 84) dX0_countFrom_20 (by decide) rfl (fun c1 => ?_) (fun c1 => ?_)
      · have hf := ite_t hf c1
        have hf := Option.some.inj hf
        subst hf
        exact hret _ _ _ dX0_countFrom_84 ⟨rfl, rfl⟩
      have hf := ite_f hf c1
      refine z_iload h dX0_countFrom_23 2 rfl rfl ?_
      refine z_aload_n h dX0_countFrom_25 0 rfl rfl ?_
      refine z_get h (C := RX0) (T := TX0) (N := 4) (v := .ref a0_wind) 0 rfl rfl 0 (by decide) (by decide +kernel) (by decide +kernel) rfl dX0_countFrom_26 rfl ?_
      obtain ⟨v2, hv2, hf⟩ := bd_some hf
      refine z_callV h (np := 0) (st := [.int x4]) (wr := [(a0, .inr (0, [.ref a0_wind, .int c0_cases, .int c0_reaching, .int c0_reached]))]) [] (ctX10_blowAnHour l G a0_wind c0_wind_cell c0_wind_way c0_wind_force hv2) gX0_countFrom_X10_blowAnHour (by decide +kernel) 0 rfl rfl rfl ⟨Nat.le_of_ble_eq_true rfl, Nat.le_of_ble_eq_true rfl⟩ ⟨Nat.le_refl _, Nat.le_refl _⟩ rfl rfl rfl [1] [0] rfl rfl rfl rfl (by decide) (Nat.le_of_ble_eq_true rfl) dX0_countFrom_29 rfl rfl (fun rv2 wv2 hrv2 => ?_)
      obtain ⟨rfl, rfl⟩ := hrv2
      refine z_perm h (w2 := [(a0, .inr (0, [.ref a0_wind, .int c0_cases, .int c0_reaching, .int c0_reached])), (a0_wind, .inr (10, [.int v2.2.1, .int v2.2.2, .int c0_wind_force]))]) (st := [.int v2.1, .int x4]) [0, 1] rfl rfl ?_
      refine z_ior h dX0_countFrom_32 rfl ?_
      refine z_istore h (lv2 := [(4, .int (x4 ||| v2.1)), (0, .ref a0), (3, .int x3), (5, .int x5)]) dX0_countFrom_33 (by decide) rfl rfl ?_
      refine z_aload_n h dX0_countFrom_35 1 rfl rfl ?_
      refine z_dup h dX0_countFrom_36 rfl rfl ?_
      refine z_get h (C := RX0) (T := TX0) (N := 4) (v := .int c0_cases) 0 rfl rfl 1 (by decide) (by decide +kernel) (by decide +kernel) rfl dX0_countFrom_37 rfl ?_
      refine z_iconst h (v := (1 : Int32)) dX0_countFrom_40 (by decide) rfl ?_
      refine z_iadd h dX0_countFrom_41 rfl ?_
      refine z_put h (C := RX0) (T := TX0) (N := 4) 0 rfl rfl 1 (by decide) (by decide +kernel) (by decide +kernel) tyX0 tyX0_ok nmX0 (w2 := [(a0, .inr (0, [.ref a0_wind, .int (c0_cases + (1 : Int32)), .int c0_reaching, .int c0_reached])), (a0_wind, .inr (10, [.int v2.2.1, .int v2.2.2, .int c0_wind_force]))]) rfl rfl rfl (Nat.le_of_ble_eq_true rfl) rfl dX0_countFrom_42 rfl ?_
      refine z_aload_n h dX0_countFrom_45 1 rfl rfl ?_
      refine z_dup h dX0_countFrom_46 rfl rfl ?_
      refine z_get h (C := RX0) (T := TX0) (N := 4) (v := .int c0_reached) 0 rfl rfl 3 (by decide) (by decide +kernel) (by decide +kernel) rfl dX0_countFrom_47 rfl ?_
      refine z_iload h dX0_countFrom_50 0 rfl rfl ?_
      obtain ⟨v3, hv3, hf⟩ := bd_some hf
      refine z_callS h (np := 1) (st := [.int c0_reached, .ref a0]) (wr := [(a0, .inr (0, [.ref a0_wind, .int (c0_cases + (1 : Int32)), .int c0_reaching, .int c0_reached])), (a0_wind, .inr (10, [.int v2.2.1, .int v2.2.2, .int c0_wind_force]))]) [.int (x4 ||| v2.1)] (ctJ6_bitCount_0f7a4 l G (x4 ||| v2.1) hv3) gX0_countFrom_J6_bitCount_0f7a4 (by decide +kernel) rfl ⟨Nat.le_of_ble_eq_true rfl, Nat.le_of_ble_eq_true rfl⟩ ⟨Nat.le_refl _, Nat.le_refl _⟩ rfl rfl rfl [] [0, 1] rfl rfl rfl rfl (by decide) (Nat.le_of_ble_eq_true rfl) dX0_countFrom_52 rfl rfl (fun rv3 wv3 hrv3 => ?_)
      obtain ⟨rfl, rfl⟩ := hrv3
      refine z_perm h (w2 := [(a0, .inr (0, [.ref a0_wind, .int (c0_cases + (1 : Int32)), .int c0_reaching, .int c0_reached])), (a0_wind, .inr (10, [.int v2.2.1, .int v2.2.2, .int c0_wind_force]))]) (st := [.int v3, .int c0_reached, .ref a0]) [0, 1] rfl rfl ?_
      refine z_iadd h dX0_countFrom_55 rfl ?_
      refine z_put h (C := RX0) (T := TX0) (N := 4) 0 rfl rfl 3 (by decide) (by decide +kernel) (by decide +kernel) tyX0 tyX0_ok nmX0 (w2 := [(a0, .inr (0, [.ref a0_wind, .int (c0_cases + (1 : Int32)), .int c0_reaching, .int (c0_reached + v3)])), (a0_wind, .inr (10, [.int v2.2.1, .int v2.2.2, .int c0_wind_force]))]) rfl rfl rfl (Nat.le_of_ble_eq_true rfl) rfl dX0_countFrom_56 rfl ?_
      refine z_iload h dX0_countFrom_59 0 rfl rfl ?_
      refine z_iload_n h dX0_countFrom_61 2 rfl rfl ?_
      obtain ⟨v4, hv4, hf⟩ := bd_some hf
      refine z_callSN h (np := 2) (st := []) (wr := [(a0, .inr (0, [.ref a0_wind, .int (c0_cases + (1 : Int32)), .int c0_reaching, .int (c0_reached + v3)])), (a0_wind, .inr (10, [.int v2.2.1, .int v2.2.2, .int c0_wind_force]))]) [.int (x4 ||| v2.1), .int x3] (ctX11_has l G (x4 ||| v2.1) x3 hv4) gX0_countFrom_X11_has_n45 (by decide +kernel) (by decide +kernel) (by decide +kernel) (by decide +kernel) rfl ⟨Nat.le_of_ble_eq_true rfl, Nat.le_of_ble_eq_true rfl⟩ ⟨Nat.le_refl _, Nat.le_refl _⟩ rfl rfl rfl [] [0, 1] rfl rfl rfl rfl (by decide) (Nat.le_of_ble_eq_true rfl) dX0_countFrom_62 rfl rfl (fun rv4 wv4 hrv4 => ?_)
      obtain ⟨rfl, rfl⟩ := hrv4
      refine z_perm h (w2 := [(a0, .inr (0, [.ref a0_wind, .int (c0_cases + (1 : Int32)), .int c0_reaching, .int (c0_reached + v3)])), (a0_wind, .inr (10, [.int v2.2.1, .int v2.2.2, .int c0_wind_force]))]) (st := [.int v4]) [0, 1] rfl rfl ?_
      refine z_if_eq h (tgt := 78) dX0_countFrom_65 (by decide) rfl (fun c5 => ?_) (fun c5 => ?_)
      · have hf := ite_t hf c5
        refine z_locs h (lv2 := [(0, .ref a0), (3, .int x3), (4, .int (x4 ||| v2.1)), (5, .int x5)]) [1, 2, 0, 3] rfl ?_
        exact hB78 (c0_cases + (1 : Int32)) c0_reaching (c0_reached + v3) v2.2.1 v2.2.2 c0_wind_force (x4 ||| v2.1) x5 hf
      have hf := ite_f hf c5
      refine z_aload_n h dX0_countFrom_68 1 rfl rfl ?_
      refine z_dup h dX0_countFrom_69 rfl rfl ?_
      refine z_get h (C := RX0) (T := TX0) (N := 4) (v := .int c0_reaching) 0 rfl rfl 2 (by decide) (by decide +kernel) (by decide +kernel) rfl dX0_countFrom_70 rfl ?_
      refine z_iconst h (v := (1 : Int32)) dX0_countFrom_73 (by decide) rfl ?_
      refine z_iadd h dX0_countFrom_74 rfl ?_
      refine z_put h (C := RX0) (T := TX0) (N := 4) 0 rfl rfl 2 (by decide) (by decide +kernel) (by decide +kernel) tyX0 tyX0_ok nmX0 (w2 := [(a0, .inr (0, [.ref a0_wind, .int (c0_cases + (1 : Int32)), .int (c0_reaching + (1 : Int32)), .int (c0_reached + v3)])), (a0_wind, .inr (10, [.int v2.2.1, .int v2.2.2, .int c0_wind_force]))]) rfl rfl rfl (Nat.le_of_ble_eq_true rfl) rfl dX0_countFrom_75 rfl ?_
      refine z_locs h (lv2 := [(0, .ref a0), (3, .int x3), (4, .int (x4 ||| v2.1)), (5, .int x5)]) [1, 2, 0, 3] rfl ?_
      exact hB78 (c0_cases + (1 : Int32)) (c0_reaching + (1 : Int32)) (c0_reached + v3) v2.2.1 v2.2.2 c0_wind_force (x4 ||| v2.1) x5 hf
  rw [fX0_countFrom] at hf
  show Z 0 0 _ [(0, .ref a0), (1, .int x1), (2, .int x2), (3, .int x3)] 0 []
  refine z_aload_n h dX0_countFrom_0 0 rfl rfl ?_
  refine z_get h (C := RX0) (T := TX0) (N := 4) (v := .ref a0_wind) 0 rfl rfl 0 (by decide) (by decide +kernel) (by decide +kernel) rfl dX0_countFrom_1 rfl ?_
  refine z_iload_n h dX0_countFrom_4 1 rfl rfl ?_
  refine z_iload_n h dX0_countFrom_5 2 rfl rfl ?_
  refine z_iconst h (v := (1 : Int32)) dX0_countFrom_6 (by decide) rfl ?_
  obtain ⟨v6, hv6, hf⟩ := bd_some hf
  refine z_callV h (np := 3) (st := []) (wr := [(a0, .inr (0, [.ref a0_wind, .int c0_cases, .int c0_reaching, .int c0_reached]))]) [.int x1, .int x2, .int (1 : Int32)] (ctX10_put l G a0_wind c0_wind_cell c0_wind_way c0_wind_force x1 x2 (1 : Int32) hv6) gX0_countFrom_X10_put (by decide +kernel) 0 rfl rfl rfl ⟨Nat.le_of_ble_eq_true rfl, Nat.le_of_ble_eq_true rfl⟩ ⟨Nat.le_refl _, Nat.le_refl _⟩ rfl rfl rfl [1] [0] rfl rfl rfl rfl (by decide) (Nat.le_of_ble_eq_true rfl) dX0_countFrom_7 rfl rfl (fun rv6 wv6 hrv6 => ?_)
  obtain ⟨rfl, rfl⟩ := hrv6
  refine z_perm h (w2 := [(a0, .inr (0, [.ref a0_wind, .int c0_cases, .int c0_reaching, .int c0_reached])), (a0_wind, .inr (10, [.int v6.1, .int v6.2.1, .int v6.2.2]))]) (st := []) [0, 1] rfl rfl ?_
  refine z_iconst h (v := (0 : Int32)) dX0_countFrom_10 (by decide) rfl ?_
  refine z_istore h (lv2 := [(4, .int (0 : Int32)), (0, .ref a0), (1, .int x1), (2, .int x2), (3, .int x3)]) dX0_countFrom_11 (by decide) rfl rfl ?_
  refine z_iconst h (v := (1 : Int32)) dX0_countFrom_13 (by decide) rfl ?_
  refine z_istore h (lv2 := [(5, .int (1 : Int32)), (4, .int (0 : Int32)), (0, .ref a0), (1, .int x1), (2, .int x2), (3, .int x3)]) dX0_countFrom_14 (by decide) rfl rfl ?_
  refine z_locs h (lv2 := [(0, .ref a0), (3, .int x3), (4, .int (0 : Int32)), (5, .int (1 : Int32))]) [2, 5, 1, 0] rfl ?_
  exact hL16 zF c0_cases c0_reaching c0_reached v6.1 v6.2.1 v6.2.2 (0 : Int32) (1 : Int32) hf
def fX0_count_L17 (x1 : Int32)  : Nat → Int32 → Int32 → Int32 → Int32 → Int32 → Int32 → Int32 → Option (Int32 × Int32 × Int32 × Int32 × Int32 × Int32)
  | 0, _, _, _, _, _, _, _ => none
  | n + 1, c0_cases, c0_reaching, c0_reached, c0_wind_cell, c0_wind_way, c0_wind_force, x2 => (if (12 : Int32) ≤ x2 then (some (c0_cases, c0_reaching, c0_reached, c0_wind_cell, c0_wind_way, c0_wind_force)) else Option.bind (fX0_countFrom c0_cases c0_reaching c0_reached c0_wind_cell c0_wind_way c0_wind_force x2 (0 : Int32) x1) (fun v2 => Option.bind (fX0_countFrom v2.1 v2.2.1 v2.2.2.1 v2.2.2.2.1 v2.2.2.2.2.1 v2.2.2.2.2.2 x2 (1 : Int32) x1) (fun v3 => ((fX0_count_L17 x1  n) v3.1 v3.2.1 v3.2.2.1 v3.2.2.2.1 v3.2.2.2.2.1 v3.2.2.2.2.2 (x2 + (1 : Int32))))))
def fX0_count (c0_cases : Int32) (c0_reaching : Int32) (c0_reached : Int32) (c0_wind_cell : Int32) (c0_wind_way : Int32) (c0_wind_force : Int32) (x1 : Int32) : Option (Int32 × Int32 × Int32 × Int32 × Int32 × Int32) := (fX0_count_L17 x1  zF (0 : Int32) (0 : Int32) (0 : Int32) c0_wind_cell c0_wind_way c0_wind_force (0 : Int32))
abbrev rmX0_count : Room := { frames := 4, cells := 0, slots := 0, locals := 87 }
set_option maxRecDepth 100000 in
set_option maxHeartbeats 4000000 in
theorem ctX0_count (l : Launch) (G : zG) (a0 a0_wind : Nat) (c0_cases : Int32) (c0_reaching : Int32) (c0_reached : Int32) (c0_wind_cell : Int32) (c0_wind_way : Int32) (c0_wind_force : Int32) (x1 : Int32) {R : Int32 × Int32 × Int32 × Int32 × Int32 × Int32} (hf : fX0_count c0_cases c0_reaching c0_reached c0_wind_cell c0_wind_way c0_wind_force x1 = some R) : zCt l yX0_count wsX0_count rmX0_count G [(a0, .inr (0, [.ref a0_wind, .int c0_cases, .int c0_reaching, .int c0_reached])), (a0_wind, .inr (10, [.int c0_wind_cell, .int c0_wind_way, .int c0_wind_force]))] [.ref a0, .int x1] (fun v w => v = none ∧ w = [(a0, .inr (0, [.ref a0_wind, .int (R.1), .int (R.2.1), .int (R.2.2.1)])), (a0_wind, .inr (10, [.int (R.2.2.2.1), .int (R.2.2.2.2.1), .int (R.2.2.2.2.2)]))]) := by
  refine zMkV (own := RX0) false (by decide) (by decide +kernel) rfl rfl (Nat.le_of_ble_eq_true rfl) ?_
  intro Z h hret
  have hL17 : ∀ (n17 : Nat) (c0_cases : Int32) (c0_reaching : Int32) (c0_reached : Int32) (c0_wind_cell : Int32) (c0_wind_way : Int32) (c0_wind_force : Int32) (x2 : Int32), fX0_count_L17 x1  n17 c0_cases c0_reaching c0_reached c0_wind_cell c0_wind_way c0_wind_force x2 = some R → Z 0 0 [(a0, .inr (0, [.ref a0_wind, .int c0_cases, .int c0_reaching, .int c0_reached])), (a0_wind, .inr (10, [.int c0_wind_cell, .int c0_wind_way, .int c0_wind_force]))] [(0, .ref a0), (1, .int x1), (2, .int x2)] 17 [] := by
    intro n17
    induction n17 with
    | zero =>
      intro c0_cases c0_reaching c0_reached c0_wind_cell c0_wind_way c0_wind_force x2 hf
      rw [fX0_count_L17] at hf
      cases hf
    | succ n17 ih17 =>
      intro c0_cases c0_reaching c0_reached c0_wind_cell c0_wind_way c0_wind_force x2 hf
      rw [fX0_count_L17] at hf
      refine z_iload_n h dX0_count_17 2 rfl rfl ?_
      refine z_bipush h (v := (12 : Int32)) dX0_count_18 (by decide) rfl ?_
      refine z_icmp_ge h (tgt := 43) dX0_count_20 (by decide) rfl (fun c1 => ?_) (fun c1 => ?_)
      · have hf := ite_t hf c1
        have hf := Option.some.inj hf
        subst hf
        exact hret _ _ _ dX0_count_43 ⟨rfl, rfl⟩
      have hf := ite_f hf c1
      refine z_aload_n h dX0_count_23 0 rfl rfl ?_
      refine z_iload_n h dX0_count_24 2 rfl rfl ?_
      refine z_iconst h (v := (0 : Int32)) dX0_count_25 (by decide) rfl ?_
      refine z_iload_n h dX0_count_26 1 rfl rfl ?_
      obtain ⟨v2, hv2, hf⟩ := bd_some hf
      refine z_callV h (np := 3) (st := []) (wr := []) [.int x2, .int (0 : Int32), .int x1] (ctX0_countFrom l G a0 a0_wind c0_cases c0_reaching c0_reached c0_wind_cell c0_wind_way c0_wind_force x2 (0 : Int32) x1 hv2) gX0_count_X0_countFrom (by decide +kernel) 0 rfl rfl rfl ⟨Nat.le_of_ble_eq_true rfl, Nat.le_of_ble_eq_true rfl⟩ ⟨Nat.le_refl _, Nat.le_refl _⟩ rfl rfl rfl [0, 1] [] rfl rfl rfl rfl (by decide) (Nat.le_of_ble_eq_true rfl) dX0_count_27 rfl rfl (fun rv2 wv2 hrv2 => ?_)
      obtain ⟨rfl, rfl⟩ := hrv2
      refine z_perm h (w2 := [(a0, .inr (0, [.ref a0_wind, .int v2.1, .int v2.2.1, .int v2.2.2.1])), (a0_wind, .inr (10, [.int v2.2.2.2.1, .int v2.2.2.2.2.1, .int v2.2.2.2.2.2]))]) (st := []) [0, 1] rfl rfl ?_
      refine z_aload_n h dX0_count_30 0 rfl rfl ?_
      refine z_iload_n h dX0_count_31 2 rfl rfl ?_
      refine z_iconst h (v := (1 : Int32)) dX0_count_32 (by decide) rfl ?_
      refine z_iload_n h dX0_count_33 1 rfl rfl ?_
      obtain ⟨v3, hv3, hf⟩ := bd_some hf
      refine z_callV h (np := 3) (st := []) (wr := []) [.int x2, .int (1 : Int32), .int x1] (ctX0_countFrom l G a0 a0_wind v2.1 v2.2.1 v2.2.2.1 v2.2.2.2.1 v2.2.2.2.2.1 v2.2.2.2.2.2 x2 (1 : Int32) x1 hv3) gX0_count_X0_countFrom (by decide +kernel) 0 rfl rfl rfl ⟨Nat.le_of_ble_eq_true rfl, Nat.le_of_ble_eq_true rfl⟩ ⟨Nat.le_refl _, Nat.le_refl _⟩ rfl rfl rfl [0, 1] [] rfl rfl rfl rfl (by decide) (Nat.le_of_ble_eq_true rfl) dX0_count_34 rfl rfl (fun rv3 wv3 hrv3 => ?_)
      obtain ⟨rfl, rfl⟩ := hrv3
      refine z_perm h (w2 := [(a0, .inr (0, [.ref a0_wind, .int v3.1, .int v3.2.1, .int v3.2.2.1])), (a0_wind, .inr (10, [.int v3.2.2.2.1, .int v3.2.2.2.2.1, .int v3.2.2.2.2.2]))]) (st := []) [0, 1] rfl rfl ?_
      refine z_iinc h (v := (x2 + (1 : Int32))) (lv2 := [(2, .int (x2 + (1 : Int32))), (0, .ref a0), (1, .int x1)]) (j := 2) dX0_count_37 rfl rfl (by decide) rfl rfl ?_
      refine z_goto h (tgt := 17) dX0_count_40 (by decide) ?_
      refine z_locs h (lv2 := [(0, .ref a0), (1, .int x1), (2, .int (x2 + (1 : Int32)))]) [1, 2, 0] rfl ?_
      exact ih17 v3.1 v3.2.1 v3.2.2.1 v3.2.2.2.1 v3.2.2.2.2.1 v3.2.2.2.2.2 (x2 + (1 : Int32)) hf
  rw [fX0_count] at hf
  show Z 0 0 _ [(0, .ref a0), (1, .int x1)] 0 []
  refine z_aload_n h dX0_count_0 0 rfl rfl ?_
  refine z_iconst h (v := (0 : Int32)) dX0_count_1 (by decide) rfl ?_
  refine z_put h (C := RX0) (T := TX0) (N := 4) 0 rfl rfl 1 (by decide) (by decide +kernel) (by decide +kernel) tyX0 tyX0_ok nmX0 (w2 := [(a0, .inr (0, [.ref a0_wind, .int (0 : Int32), .int c0_reaching, .int c0_reached])), (a0_wind, .inr (10, [.int c0_wind_cell, .int c0_wind_way, .int c0_wind_force]))]) rfl rfl rfl (Nat.le_of_ble_eq_true rfl) rfl dX0_count_2 rfl ?_
  refine z_aload_n h dX0_count_5 0 rfl rfl ?_
  refine z_iconst h (v := (0 : Int32)) dX0_count_6 (by decide) rfl ?_
  refine z_put h (C := RX0) (T := TX0) (N := 4) 0 rfl rfl 2 (by decide) (by decide +kernel) (by decide +kernel) tyX0 tyX0_ok nmX0 (w2 := [(a0, .inr (0, [.ref a0_wind, .int (0 : Int32), .int (0 : Int32), .int c0_reached])), (a0_wind, .inr (10, [.int c0_wind_cell, .int c0_wind_way, .int c0_wind_force]))]) rfl rfl rfl (Nat.le_of_ble_eq_true rfl) rfl dX0_count_7 rfl ?_
  refine z_aload_n h dX0_count_10 0 rfl rfl ?_
  refine z_iconst h (v := (0 : Int32)) dX0_count_11 (by decide) rfl ?_
  refine z_put h (C := RX0) (T := TX0) (N := 4) 0 rfl rfl 3 (by decide) (by decide +kernel) (by decide +kernel) tyX0 tyX0_ok nmX0 (w2 := [(a0, .inr (0, [.ref a0_wind, .int (0 : Int32), .int (0 : Int32), .int (0 : Int32)])), (a0_wind, .inr (10, [.int c0_wind_cell, .int c0_wind_way, .int c0_wind_force]))]) rfl rfl rfl (Nat.le_of_ble_eq_true rfl) rfl dX0_count_12 rfl ?_
  refine z_iconst h (v := (0 : Int32)) dX0_count_15 (by decide) rfl ?_
  refine z_istore_n h (lv2 := [(2, .int (0 : Int32)), (0, .ref a0), (1, .int x1)]) dX0_count_16 (by decide) rfl rfl ?_
  refine z_locs h (lv2 := [(0, .ref a0), (1, .int x1), (2, .int (0 : Int32))]) [1, 2, 0] rfl ?_
  exact hL17 zF (0 : Int32) (0 : Int32) (0 : Int32) c0_wind_cell c0_wind_way c0_wind_force (0 : Int32) hf
def fX2_leastTake_b40 (c0_won : Nat → Int32) (x1 : Int32) (x2 : Int32)   : Option (Int32) := (some (-6 : Int32))
def fX2_leastTake_b34 (c0_won : Nat → Int32) (x1 : Int32) (x2 : Int32) (K2 : (Int32 → Option (Int32))) (x3 : Int32) : Option (Int32) := (K2 (x3 + (1 : Int32)))
def fX2_leastTake_L2 (c0_won : Nat → Int32) (x1 : Int32) (x2 : Int32)  : Nat → Int32 → Option (Int32)
  | 0, _ => none
  | n + 1, x3 => (if (4 : Int32) < x3 then (fX2_leastTake_b40 c0_won x1 x2  ) else (if x1 < x3 then (fX2_leastTake_b40 c0_won x1 x2  ) else (if x3 = x2 then (fX2_leastTake_b34 c0_won x1 x2 (fX2_leastTake_L2 c0_won x1 x2  n) x3) else gd (inb (x1 - x3) 100) (Option.bind (fX11_has (c0_won ((x1 - x3)).toNatClampNeg) x3) (fun v5 => (if v5 = (0 : Int32) then (some x3) else (fX2_leastTake_b34 c0_won x1 x2 (fX2_leastTake_L2 c0_won x1 x2  n) x3)))))))
def fX2_leastTake (c0_won : Nat → Int32) (x1 : Int32) (x2 : Int32) : Option (Int32) := (fX2_leastTake_L2 c0_won x1 x2  zF (1 : Int32))
abbrev rmX2_leastTake : Room := { frames := 1, cells := 0, slots := 0, locals := 21 }
set_option maxRecDepth 100000 in
set_option maxHeartbeats 4000000 in
theorem ctX2_leastTake (l : Launch) (G : zG) (a0 a0_won : Nat) (c0_known : Int32) (c0_won : Nat → Int32) (x1 : Int32) (x2 : Int32) {R : Int32} (hf : fX2_leastTake c0_won x1 x2 = some R) : zCt l yX2_leastTake wsX2_leastTake rmX2_leastTake G [(a0, .inr (2, [.ref a0_won, .int c0_known])), (a0_won, .inl (G.2.1, 100, .inl c0_won))] [.ref a0, .int x1, .int x2] (fun v w => v = some (.int (R)) ∧ w = [(a0, .inr (2, [.ref a0_won, .int c0_known])), (a0_won, .inl (G.2.1, 100, .inl c0_won))]) := by
  refine zMkI (own := RX2) false (by decide) (by decide +kernel) rfl rfl (Nat.le_of_ble_eq_true rfl) ?_
  intro Z h hret
  have hB40 : fX2_leastTake_b40 c0_won x1 x2   = some R → Z 0 0 [(a0, .inr (2, [.ref a0_won, .int c0_known])), (a0_won, .inl (G.2.1, 100, .inl c0_won))] [] 40 [] := by
    intro hf
    rw [fX2_leastTake_b40] at hf
    refine z_bipush h (v := (-6 : Int32)) dX2_leastTake_40 (by decide) rfl ?_
    have hf := Option.some.inj hf
    subst hf
    exact hret _ _ _ _ dX2_leastTake_42 ⟨rfl, rfl⟩
  have hL2 : ∀ (n2 : Nat) (x3 : Int32), fX2_leastTake_L2 c0_won x1 x2  n2 x3 = some R → Z 0 0 [(a0, .inr (2, [.ref a0_won, .int c0_known])), (a0_won, .inl (G.2.1, 100, .inl c0_won))] [(0, .ref a0), (1, .int x1), (2, .int x2), (3, .int x3)] 2 [] := by
    intro n2
    induction n2 with
    | zero =>
      intro x3 hf
      rw [fX2_leastTake_L2] at hf
      cases hf
    | succ n2 ih2 =>
      have hB34 : ∀ (x3 : Int32), fX2_leastTake_b34 c0_won x1 x2 (fX2_leastTake_L2 c0_won x1 x2  n2) x3 = some R → Z 0 0 [(a0, .inr (2, [.ref a0_won, .int c0_known])), (a0_won, .inl (G.2.1, 100, .inl c0_won))] [(0, .ref a0), (1, .int x1), (2, .int x2), (3, .int x3)] 34 [] := by
        intro x3 hf
        rw [fX2_leastTake_b34] at hf
        refine z_iinc h (v := (x3 + (1 : Int32))) (lv2 := [(3, .int (x3 + (1 : Int32))), (0, .ref a0), (1, .int x1), (2, .int x2)]) (j := 3) dX2_leastTake_34 rfl rfl (by decide) rfl rfl ?_
        refine z_goto h (tgt := 2) dX2_leastTake_37 (by decide) ?_
        refine z_locs h (lv2 := [(0, .ref a0), (1, .int x1), (2, .int x2), (3, .int (x3 + (1 : Int32)))]) [1, 2, 3, 0] rfl ?_
        exact ih2 (x3 + (1 : Int32)) hf
      intro x3 hf
      rw [fX2_leastTake_L2] at hf
      refine z_iload_n h dX2_leastTake_2 3 rfl rfl ?_
      refine z_iconst h (v := (4 : Int32)) dX2_leastTake_3 (by decide) rfl ?_
      refine z_icmp_gt h (tgt := 40) dX2_leastTake_4 (by decide) rfl (fun c1 => ?_) (fun c1 => ?_)
      · have hf := ite_t hf c1
        refine z_locs h (lv2 := []) [] rfl ?_
        exact hB40  hf
      have hf := ite_f hf c1
      refine z_iload_n h dX2_leastTake_7 3 rfl rfl ?_
      refine z_iload_n h dX2_leastTake_8 1 rfl rfl ?_
      refine z_icmp_gt h (tgt := 40) dX2_leastTake_9 (by decide) rfl (fun c2 => ?_) (fun c2 => ?_)
      · have hf := ite_t hf c2
        refine z_locs h (lv2 := []) [] rfl ?_
        exact hB40  hf
      have hf := ite_f hf c2
      refine z_iload_n h dX2_leastTake_12 3 rfl rfl ?_
      refine z_iload_n h dX2_leastTake_13 2 rfl rfl ?_
      refine z_icmp_eq h (tgt := 34) dX2_leastTake_14 (by decide) rfl (fun c3 => ?_) (fun c3 => ?_)
      · have hf := ite_t hf c3
        exact hB34 x3 hf
      have hf := ite_f hf c3
      refine z_aload_n h dX2_leastTake_17 0 rfl rfl ?_
      refine z_get h (C := RX2) (T := TX2) (N := 2) (v := .ref a0_won) 0 rfl rfl 0 (by decide) (by decide +kernel) (by decide +kernel) rfl dX2_leastTake_18 rfl ?_
      refine z_iload_n h dX2_leastTake_21 1 rfl rfl ?_
      refine z_iload_n h dX2_leastTake_22 3 rfl rfl ?_
      refine z_isub h dX2_leastTake_23 rfl ?_
      obtain ⟨hg4, hf⟩ := gd_some hf
      refine z_iald h 1 rfl rfl hg4 dX2_leastTake_24 rfl ?_
      refine z_iload_n h dX2_leastTake_25 3 rfl rfl ?_
      obtain ⟨v5, hv5, hf⟩ := bd_some hf
      refine z_callSN h (np := 2) (st := []) (wr := [(a0, .inr (2, [.ref a0_won, .int c0_known])), (a0_won, .inl (G.2.1, 100, .inl c0_won))]) [.int (c0_won ((x1 - x3)).toNatClampNeg), .int x3] (ctX11_has l G (c0_won ((x1 - x3)).toNatClampNeg) x3 hv5) gX2_leastTake_X11_has_n32 (by decide +kernel) (by decide +kernel) (by decide +kernel) (by decide +kernel) rfl ⟨Nat.le_of_ble_eq_true rfl, Nat.le_of_ble_eq_true rfl⟩ ⟨Nat.le_refl _, Nat.le_refl _⟩ rfl rfl rfl [] [0, 1] rfl rfl rfl rfl (by decide) (Nat.le_of_ble_eq_true rfl) dX2_leastTake_26 rfl rfl (fun rv5 wv5 hrv5 => ?_)
      obtain ⟨rfl, rfl⟩ := hrv5
      refine z_perm h (w2 := [(a0, .inr (2, [.ref a0_won, .int c0_known])), (a0_won, .inl (G.2.1, 100, .inl c0_won))]) (st := [.int v5]) [0, 1] rfl rfl ?_
      refine z_if_ne h (tgt := 34) dX2_leastTake_29 (by decide) rfl (fun c6 => ?_) (fun c6 => ?_)
      · have hf := ite_f hf c6
        exact hB34 x3 hf
      have hf := ite_t hf c6
      refine z_iload_n h dX2_leastTake_32 3 rfl rfl ?_
      have hf := Option.some.inj hf
      subst hf
      exact hret _ _ _ _ dX2_leastTake_33 ⟨rfl, rfl⟩
  rw [fX2_leastTake] at hf
  show Z 0 0 _ [(0, .ref a0), (1, .int x1), (2, .int x2)] 0 []
  refine z_iconst h (v := (1 : Int32)) dX2_leastTake_0 (by decide) rfl ?_
  refine z_istore_n h (lv2 := [(3, .int (1 : Int32)), (0, .ref a0), (1, .int x1), (2, .int x2)]) dX2_leastTake_1 (by decide) rfl rfl ?_
  refine z_locs h (lv2 := [(0, .ref a0), (1, .int x1), (2, .int x2), (3, .int (1 : Int32))]) [1, 2, 3, 0] rfl ?_
  exact hL2 zF (1 : Int32) hf
def fX2_wonAfter_b26 (c0_won : Nat → Int32) (x1 : Int32) (K4 : (Int32 → Int32 → Option (Int32))) (x2 : Int32) (x3 : Int32) : Option (Int32) := (K4 x2 (x3 + (1 : Int32)))
def fX2_wonAfter_L4 (c0_won : Nat → Int32) (x1 : Int32)  : Nat → Int32 → Int32 → Option (Int32)
  | 0, _, _ => none
  | n + 1, x2, x3 => (if (4 : Int32) < x3 then (some x2) else Option.bind (fX2_leastTake c0_won x1 x3) (fun v2 => (if v2 = (-6 : Int32) then (fX2_wonAfter_b26 c0_won x1 (fX2_wonAfter_L4 c0_won x1  n) x2 x3) else (fX2_wonAfter_b26 c0_won x1 (fX2_wonAfter_L4 c0_won x1  n) (x2 ||| (sl (1 : Int32) x3)) x3))))
def fX2_wonAfter (c0_won : Nat → Int32) (x1 : Int32) : Option (Int32) := (fX2_wonAfter_L4 c0_won x1  zF (0 : Int32) (0 : Int32))
abbrev rmX2_wonAfter : Room := { frames := 2, cells := 0, slots := 0, locals := 44 }
set_option maxRecDepth 100000 in
set_option maxHeartbeats 4000000 in
theorem ctX2_wonAfter (l : Launch) (G : zG) (a0 a0_won : Nat) (c0_known : Int32) (c0_won : Nat → Int32) (x1 : Int32) {R : Int32} (hf : fX2_wonAfter c0_won x1 = some R) : zCt l yX2_wonAfter wsX2_wonAfter rmX2_wonAfter G [(a0, .inr (2, [.ref a0_won, .int c0_known])), (a0_won, .inl (G.2.1, 100, .inl c0_won))] [.ref a0, .int x1] (fun v w => v = some (.int (R)) ∧ w = [(a0, .inr (2, [.ref a0_won, .int c0_known])), (a0_won, .inl (G.2.1, 100, .inl c0_won))]) := by
  refine zMkI (own := RX2) false (by decide) (by decide +kernel) rfl rfl (Nat.le_of_ble_eq_true rfl) ?_
  intro Z h hret
  have hL4 : ∀ (n4 : Nat) (x2 : Int32) (x3 : Int32), fX2_wonAfter_L4 c0_won x1  n4 x2 x3 = some R → Z 0 0 [(a0, .inr (2, [.ref a0_won, .int c0_known])), (a0_won, .inl (G.2.1, 100, .inl c0_won))] [(0, .ref a0), (1, .int x1), (2, .int x2), (3, .int x3)] 4 [] := by
    intro n4
    induction n4 with
    | zero =>
      intro x2 x3 hf
      rw [fX2_wonAfter_L4] at hf
      cases hf
    | succ n4 ih4 =>
      have hB26 : ∀ (x2 : Int32) (x3 : Int32), fX2_wonAfter_b26 c0_won x1 (fX2_wonAfter_L4 c0_won x1  n4) x2 x3 = some R → Z 0 0 [(a0, .inr (2, [.ref a0_won, .int c0_known])), (a0_won, .inl (G.2.1, 100, .inl c0_won))] [(0, .ref a0), (1, .int x1), (2, .int x2), (3, .int x3)] 26 [] := by
        intro x2 x3 hf
        rw [fX2_wonAfter_b26] at hf
        refine z_iinc h (v := (x3 + (1 : Int32))) (lv2 := [(3, .int (x3 + (1 : Int32))), (0, .ref a0), (1, .int x1), (2, .int x2)]) (j := 3) dX2_wonAfter_26 rfl rfl (by decide) rfl rfl ?_
        refine z_goto h (tgt := 4) dX2_wonAfter_29 (by decide) ?_
        refine z_locs h (lv2 := [(0, .ref a0), (1, .int x1), (2, .int x2), (3, .int (x3 + (1 : Int32)))]) [1, 2, 3, 0] rfl ?_
        exact ih4 x2 (x3 + (1 : Int32)) hf
      intro x2 x3 hf
      rw [fX2_wonAfter_L4] at hf
      refine z_iload_n h dX2_wonAfter_4 3 rfl rfl ?_
      refine z_iconst h (v := (4 : Int32)) dX2_wonAfter_5 (by decide) rfl ?_
      refine z_icmp_gt h (tgt := 32) dX2_wonAfter_6 (by decide) rfl (fun c1 => ?_) (fun c1 => ?_)
      · have hf := ite_t hf c1
        refine z_iload_n h dX2_wonAfter_32 2 rfl rfl ?_
        have hf := Option.some.inj hf
        subst hf
        exact hret _ _ _ _ dX2_wonAfter_33 ⟨rfl, rfl⟩
      have hf := ite_f hf c1
      refine z_aload_n h dX2_wonAfter_9 0 rfl rfl ?_
      refine z_iload_n h dX2_wonAfter_10 1 rfl rfl ?_
      refine z_iload_n h dX2_wonAfter_11 3 rfl rfl ?_
      obtain ⟨v2, hv2, hf⟩ := bd_some hf
      refine z_callV h (np := 2) (st := []) (wr := []) [.int x1, .int x3] (ctX2_leastTake l G a0 a0_won c0_known c0_won x1 x3 hv2) gX2_wonAfter_X2_leastTake (by decide +kernel) 0 rfl rfl rfl ⟨Nat.le_of_ble_eq_true rfl, Nat.le_of_ble_eq_true rfl⟩ ⟨Nat.le_refl _, Nat.le_refl _⟩ rfl rfl rfl [0, 1] [] rfl rfl rfl rfl (by decide) (Nat.le_of_ble_eq_true rfl) dX2_wonAfter_12 rfl rfl (fun rv2 wv2 hrv2 => ?_)
      obtain ⟨rfl, rfl⟩ := hrv2
      refine z_perm h (w2 := [(a0, .inr (2, [.ref a0_won, .int c0_known])), (a0_won, .inl (G.2.1, 100, .inl c0_won))]) (st := [.int v2]) [0, 1] rfl rfl ?_
      refine z_bipush h (v := (-6 : Int32)) dX2_wonAfter_15 (by decide) rfl ?_
      refine z_icmp_eq h (tgt := 26) dX2_wonAfter_17 (by decide) rfl (fun c3 => ?_) (fun c3 => ?_)
      · have hf := ite_t hf c3
        exact hB26 x2 x3 hf
      have hf := ite_f hf c3
      refine z_iload_n h dX2_wonAfter_20 2 rfl rfl ?_
      refine z_iconst h (v := (1 : Int32)) dX2_wonAfter_21 (by decide) rfl ?_
      refine z_iload_n h dX2_wonAfter_22 3 rfl rfl ?_
      refine z_ishl h dX2_wonAfter_23 rfl ?_
      refine z_ior h dX2_wonAfter_24 rfl ?_
      refine z_istore_n h (lv2 := [(2, .int (x2 ||| (sl (1 : Int32) x3))), (0, .ref a0), (1, .int x1), (3, .int x3)]) dX2_wonAfter_25 (by decide) rfl rfl ?_
      refine z_locs h (lv2 := [(0, .ref a0), (1, .int x1), (2, .int (x2 ||| (sl (1 : Int32) x3))), (3, .int x3)]) [1, 2, 0, 3] rfl ?_
      exact hB26 (x2 ||| (sl (1 : Int32) x3)) x3 hf
  rw [fX2_wonAfter] at hf
  show Z 0 0 _ [(0, .ref a0), (1, .int x1)] 0 []
  refine z_iconst h (v := (0 : Int32)) dX2_wonAfter_0 (by decide) rfl ?_
  refine z_istore_n h (lv2 := [(2, .int (0 : Int32)), (0, .ref a0), (1, .int x1)]) dX2_wonAfter_1 (by decide) rfl rfl ?_
  refine z_iconst h (v := (0 : Int32)) dX2_wonAfter_2 (by decide) rfl ?_
  refine z_istore_n h (lv2 := [(3, .int (0 : Int32)), (2, .int (0 : Int32)), (0, .ref a0), (1, .int x1)]) dX2_wonAfter_3 (by decide) rfl rfl ?_
  refine z_locs h (lv2 := [(0, .ref a0), (1, .int x1), (2, .int (0 : Int32)), (3, .int (0 : Int32))]) [2, 3, 1, 0] rfl ?_
  exact hL4 zF (0 : Int32) (0 : Int32) hf
def fX2_winningTake_L5 (x1 : Int32) (x2 : Int32)  : Nat → Int32 → (Nat → Int32) → Int32 → Option (Int32 × Int32 × (Nat → Int32))
  | 0, _, _, _ => none
  | n + 1, c0_known, c0_won, x3 => (if x1 ≤ x3 then Option.bind (fX2_leastTake c0_won x1 x2) (fun v2 => (some (v2, (imax c0_known x1), c0_won))) else Option.bind (fX2_wonAfter c0_won x3) (fun v3 => gd (inb x3 100) (((fX2_winningTake_L5 x1 x2  n) c0_known (upd c0_won (x3).toNatClampNeg v3) (x3 + (1 : Int32))))))
def fX2_winningTake (c0_known : Int32) (c0_won : Nat → Int32) (x1 : Int32) (x2 : Int32) : Option (Int32 × Int32 × (Nat → Int32)) := (fX2_winningTake_L5 x1 x2  zF c0_known c0_won c0_known)
abbrev rmX2_winningTake : Room := { frames := 3, cells := 0, slots := 0, locals := 67 }
set_option maxRecDepth 100000 in
set_option maxHeartbeats 4000000 in
theorem ctX2_winningTake (l : Launch) (G : zG) (a0 a0_won : Nat) (c0_known : Int32) (c0_won : Nat → Int32) (x1 : Int32) (x2 : Int32) {R : Int32 × Int32 × (Nat → Int32)} (hf : fX2_winningTake c0_known c0_won x1 x2 = some R) : zCt l yX2_winningTake wsX2_winningTake rmX2_winningTake G [(a0, .inr (2, [.ref a0_won, .int c0_known])), (a0_won, .inl (G.2.1, 100, .inl c0_won))] [.ref a0, .int x1, .int x2] (fun v w => v = some (.int (R.1)) ∧ w = [(a0, .inr (2, [.ref a0_won, .int (R.2.1)])), (a0_won, .inl (G.2.1, 100, .inl (R.2.2)))]) := by
  refine zMkI (own := RX2) false (by decide) (by decide +kernel) rfl rfl (Nat.le_of_ble_eq_true rfl) ?_
  intro Z h hret
  have hL5 : ∀ (n5 : Nat) (c0_known : Int32) (c0_won : Nat → Int32) (x3 : Int32), fX2_winningTake_L5 x1 x2  n5 c0_known c0_won x3 = some R → Z 0 0 [(a0, .inr (2, [.ref a0_won, .int c0_known])), (a0_won, .inl (G.2.1, 100, .inl c0_won))] [(0, .ref a0), (1, .int x1), (2, .int x2), (3, .int x3)] 5 [] := by
    intro n5
    induction n5 with
    | zero =>
      intro c0_known c0_won x3 hf
      rw [fX2_winningTake_L5] at hf
      cases hf
    | succ n5 ih5 =>
      intro c0_known c0_won x3 hf
      rw [fX2_winningTake_L5] at hf
      refine z_iload_n h dX2_winningTake_5 3 rfl rfl ?_
      refine z_iload_n h dX2_winningTake_6 1 rfl rfl ?_
      refine z_icmp_ge h (tgt := 27) dX2_winningTake_7 (by decide) rfl (fun c1 => ?_) (fun c1 => ?_)
      · have hf := ite_t hf c1
        refine z_aload_n h dX2_winningTake_27 0 rfl rfl ?_
        refine z_aload_n h dX2_winningTake_28 0 rfl rfl ?_
        refine z_get h (C := RX2) (T := TX2) (N := 2) (v := .int c0_known) 0 rfl rfl 1 (by decide) (by decide +kernel) (by decide +kernel) rfl dX2_winningTake_29 rfl ?_
        refine z_iload_n h dX2_winningTake_32 1 rfl rfl ?_
        refine z_mmax h (by decide +kernel) (by decide +kernel) (by decide +kernel) (by decide +kernel) (Nat.le_of_ble_eq_true rfl) (Nat.le_of_ble_eq_true rfl) (Nat.zero_le _) (Nat.zero_le _) dX2_winningTake_33 rfl ?_
        refine z_put h (C := RX2) (T := TX2) (N := 2) 0 rfl rfl 1 (by decide) (by decide +kernel) (by decide +kernel) tyX2 tyX2_ok nmX2 (w2 := [(a0, .inr (2, [.ref a0_won, .int (imax c0_known x1)])), (a0_won, .inl (G.2.1, 100, .inl c0_won))]) rfl rfl rfl (Nat.le_of_ble_eq_true rfl) rfl dX2_winningTake_36 rfl ?_
        refine z_aload_n h dX2_winningTake_39 0 rfl rfl ?_
        refine z_iload_n h dX2_winningTake_40 1 rfl rfl ?_
        refine z_iload_n h dX2_winningTake_41 2 rfl rfl ?_
        obtain ⟨v2, hv2, hf⟩ := bd_some hf
        refine z_callV h (np := 2) (st := []) (wr := []) [.int x1, .int x2] (ctX2_leastTake l G a0 a0_won (imax c0_known x1) c0_won x1 x2 hv2) gX2_winningTake_X2_leastTake (by decide +kernel) 0 rfl rfl rfl ⟨Nat.le_of_ble_eq_true rfl, Nat.le_of_ble_eq_true rfl⟩ ⟨Nat.le_refl _, Nat.le_refl _⟩ rfl rfl rfl [0, 1] [] rfl rfl rfl rfl (by decide) (Nat.le_of_ble_eq_true rfl) dX2_winningTake_42 rfl rfl (fun rv2 wv2 hrv2 => ?_)
        obtain ⟨rfl, rfl⟩ := hrv2
        refine z_perm h (w2 := [(a0, .inr (2, [.ref a0_won, .int (imax c0_known x1)])), (a0_won, .inl (G.2.1, 100, .inl c0_won))]) (st := [.int v2]) [0, 1] rfl rfl ?_
        have hf := Option.some.inj hf
        subst hf
        exact hret _ _ _ _ dX2_winningTake_45 ⟨rfl, rfl⟩
      have hf := ite_f hf c1
      refine z_aload_n h dX2_winningTake_10 0 rfl rfl ?_
      refine z_get h (C := RX2) (T := TX2) (N := 2) (v := .ref a0_won) 0 rfl rfl 0 (by decide) (by decide +kernel) (by decide +kernel) rfl dX2_winningTake_11 rfl ?_
      refine z_iload_n h dX2_winningTake_14 3 rfl rfl ?_
      refine z_aload_n h dX2_winningTake_15 0 rfl rfl ?_
      refine z_iload_n h dX2_winningTake_16 3 rfl rfl ?_
      obtain ⟨v3, hv3, hf⟩ := bd_some hf
      refine z_callV h (np := 1) (st := [.int x3, .ref a0_won]) (wr := []) [.int x3] (ctX2_wonAfter l G a0 a0_won c0_known c0_won x3 hv3) gX2_winningTake_X2_wonAfter (by decide +kernel) 0 rfl rfl rfl ⟨Nat.le_of_ble_eq_true rfl, Nat.le_of_ble_eq_true rfl⟩ ⟨Nat.le_refl _, Nat.le_refl _⟩ rfl rfl rfl [0, 1] [] rfl rfl rfl rfl (by decide) (Nat.le_of_ble_eq_true rfl) dX2_winningTake_17 rfl rfl (fun rv3 wv3 hrv3 => ?_)
      obtain ⟨rfl, rfl⟩ := hrv3
      refine z_perm h (w2 := [(a0, .inr (2, [.ref a0_won, .int c0_known])), (a0_won, .inl (G.2.1, 100, .inl c0_won))]) (st := [.int v3, .int x3, .ref a0_won]) [0, 1] rfl rfl ?_
      obtain ⟨hg4, hf⟩ := gd_some hf
      refine z_iast h (w2 := [(a0, .inr (2, [.ref a0_won, .int c0_known])), (a0_won, .inl (G.2.1, 100, .inl (upd c0_won (x3).toNatClampNeg v3)))]) 1 rfl rfl hg4 dX2_winningTake_20 rfl rfl ?_
      refine z_iinc h (v := (x3 + (1 : Int32))) (lv2 := [(3, .int (x3 + (1 : Int32))), (0, .ref a0), (1, .int x1), (2, .int x2)]) (j := 3) dX2_winningTake_21 rfl rfl (by decide) rfl rfl ?_
      refine z_goto h (tgt := 5) dX2_winningTake_24 (by decide) ?_
      refine z_locs h (lv2 := [(0, .ref a0), (1, .int x1), (2, .int x2), (3, .int (x3 + (1 : Int32)))]) [1, 2, 3, 0] rfl ?_
      exact ih5 c0_known (upd c0_won (x3).toNatClampNeg v3) (x3 + (1 : Int32)) hf
  rw [fX2_winningTake] at hf
  show Z 0 0 _ [(0, .ref a0), (1, .int x1), (2, .int x2)] 0 []
  refine z_aload_n h dX2_winningTake_0 0 rfl rfl ?_
  refine z_get h (C := RX2) (T := TX2) (N := 2) (v := .int c0_known) 0 rfl rfl 1 (by decide) (by decide +kernel) (by decide +kernel) rfl dX2_winningTake_1 rfl ?_
  refine z_istore_n h (lv2 := [(3, .int c0_known), (0, .ref a0), (1, .int x1), (2, .int x2)]) dX2_winningTake_4 (by decide) rfl rfl ?_
  refine z_locs h (lv2 := [(0, .ref a0), (1, .int x1), (2, .int x2), (3, .int c0_known)]) [1, 2, 3, 0] rfl ?_
  exact hL5 zF c0_known c0_won c0_known hf
def fX3_write_b29 (x1 : Int32)  (c0_size : Int32) (c0_signs : Nat → Int32) : Option (Int32 × (Nat → Int32)) := (some (c0_size, c0_signs))
def fX3_write (c0_size : Int32) (c0_signs : Nat → Int32) (x1 : Int32) : Option (Int32 × (Nat → Int32)) := (if (60 : Int32) ≤ c0_size then (fX3_write_b29 x1  c0_size c0_signs) else gd (inb c0_size 60) ((fX3_write_b29 x1  (c0_size + (1 : Int32)) (upd c0_signs (c0_size).toNatClampNeg x1))))
abbrev rmX3_write : Room := { frames := 0, cells := 0, slots := 0, locals := 0 }
set_option maxRecDepth 100000 in
set_option maxHeartbeats 4000000 in
theorem ctX3_write (l : Launch) (G : zG) (a0 a0_signs : Nat) (c0_size : Int32) (c0_signs : Nat → Int32) (x1 : Int32) {R : Int32 × (Nat → Int32)} (hf : fX3_write c0_size c0_signs x1 = some R) : zCt l yX3_write wsX3_write rmX3_write G [(a0, .inr (3, [.ref a0_signs, .int c0_size])), (a0_signs, .inl (G.2.1, 60, .inl c0_signs))] [.ref a0, .int x1] (fun v w => v = none ∧ w = [(a0, .inr (3, [.ref a0_signs, .int (R.1)])), (a0_signs, .inl (G.2.1, 60, .inl (R.2)))]) := by
  refine zMkV (own := RX3) false (by decide) (by decide +kernel) rfl rfl (Nat.le_of_ble_eq_true rfl) ?_
  intro Z h hret
  have hB29 : ∀ (c0_size : Int32) (c0_signs : Nat → Int32), fX3_write_b29 x1  c0_size c0_signs = some R → Z 0 0 [(a0, .inr (3, [.ref a0_signs, .int c0_size])), (a0_signs, .inl (G.2.1, 60, .inl c0_signs))] [] 29 [] := by
    intro c0_size c0_signs hf
    rw [fX3_write_b29] at hf
    have hf := Option.some.inj hf
    subst hf
    exact hret _ _ _ dX3_write_29 ⟨rfl, rfl⟩
  rw [fX3_write] at hf
  show Z 0 0 _ [(0, .ref a0), (1, .int x1)] 0 []
  refine z_aload_n h dX3_write_0 0 rfl rfl ?_
  refine z_get h (C := RX3) (T := TX3) (N := 2) (v := .int c0_size) 0 rfl rfl 1 (by decide) (by decide +kernel) (by decide +kernel) rfl dX3_write_1 rfl ?_
  refine z_bipush h (v := (60 : Int32)) dX3_write_4 (by decide) rfl ?_
  refine z_icmp_ge h (tgt := 29) dX3_write_6 (by decide) rfl (fun c1 => ?_) (fun c1 => ?_)
  · have hf := ite_t hf c1
    refine z_locs h (lv2 := []) [] rfl ?_
    exact hB29 c0_size c0_signs hf
  have hf := ite_f hf c1
  refine z_aload_n h dX3_write_9 0 rfl rfl ?_
  refine z_get h (C := RX3) (T := TX3) (N := 2) (v := .ref a0_signs) 0 rfl rfl 0 (by decide) (by decide +kernel) (by decide +kernel) rfl dX3_write_10 rfl ?_
  refine z_aload_n h dX3_write_13 0 rfl rfl ?_
  refine z_get h (C := RX3) (T := TX3) (N := 2) (v := .int c0_size) 0 rfl rfl 1 (by decide) (by decide +kernel) (by decide +kernel) rfl dX3_write_14 rfl ?_
  refine z_iload_n h dX3_write_17 1 rfl rfl ?_
  obtain ⟨hg2, hf⟩ := gd_some hf
  refine z_iast h (w2 := [(a0, .inr (3, [.ref a0_signs, .int c0_size])), (a0_signs, .inl (G.2.1, 60, .inl (upd c0_signs (c0_size).toNatClampNeg x1)))]) 1 rfl rfl hg2 dX3_write_18 rfl rfl ?_
  refine z_aload_n h dX3_write_19 0 rfl rfl ?_
  refine z_dup h dX3_write_20 rfl rfl ?_
  refine z_get h (C := RX3) (T := TX3) (N := 2) (v := .int c0_size) 0 rfl rfl 1 (by decide) (by decide +kernel) (by decide +kernel) rfl dX3_write_21 rfl ?_
  refine z_iconst h (v := (1 : Int32)) dX3_write_24 (by decide) rfl ?_
  refine z_iadd h dX3_write_25 rfl ?_
  refine z_put h (C := RX3) (T := TX3) (N := 2) 0 rfl rfl 1 (by decide) (by decide +kernel) (by decide +kernel) tyX3 tyX3_ok nmX3 (w2 := [(a0, .inr (3, [.ref a0_signs, .int (c0_size + (1 : Int32))])), (a0_signs, .inl (G.2.1, 60, .inl (upd c0_signs (c0_size).toNatClampNeg x1)))]) rfl rfl rfl (Nat.le_of_ble_eq_true rfl) rfl dX3_write_26 rfl ?_
  refine z_locs h (lv2 := []) [] rfl ?_
  exact hB29 (c0_size + (1 : Int32)) (upd c0_signs (c0_size).toNatClampNeg x1) hf
def fX3_clear (c0_size : Int32)  : Option (Int32 × Int32) := (some (c0_size, (0 : Int32)))
abbrev rmX3_clear : Room := { frames := 0, cells := 0, slots := 0, locals := 0 }
set_option maxRecDepth 100000 in
set_option maxHeartbeats 4000000 in
theorem ctX3_clear (l : Launch) (G : zG) (a0 a0_signs : Nat) (c0_size : Int32)  {R : Int32 × Int32} (hf : fX3_clear c0_size = some R) : zCt l yX3_clear wsX3_clear rmX3_clear G [(a0, .inr (3, [.ref a0_signs, .int c0_size]))] [.ref a0] (fun v w => v = some (.int (R.1)) ∧ w = [(a0, .inr (3, [.ref a0_signs, .int (R.2)]))]) := by
  refine zMkI (own := RX3) false (by decide) (by decide +kernel) rfl rfl (Nat.le_of_ble_eq_true rfl) ?_
  intro Z h hret
  rw [fX3_clear] at hf
  show Z 0 0 _ [(0, .ref a0)] 0 []
  refine z_aload_n h dX3_clear_0 0 rfl rfl ?_
  refine z_get h (C := RX3) (T := TX3) (N := 2) (v := .int c0_size) 0 rfl rfl 1 (by decide) (by decide +kernel) (by decide +kernel) rfl dX3_clear_1 rfl ?_
  refine z_istore_n h (lv2 := [(1, .int c0_size), (0, .ref a0)]) dX3_clear_4 (by decide) rfl rfl ?_
  refine z_aload_n h dX3_clear_5 1 rfl rfl ?_
  refine z_iconst h (v := (0 : Int32)) dX3_clear_6 (by decide) rfl ?_
  refine z_put h (C := RX3) (T := TX3) (N := 2) 0 rfl rfl 1 (by decide) (by decide +kernel) (by decide +kernel) tyX3 tyX3_ok nmX3 (w2 := [(a0, .inr (3, [.ref a0_signs, .int (0 : Int32)]))]) rfl rfl rfl (Nat.le_of_ble_eq_true rfl) rfl dX3_clear_7 rfl ?_
  refine z_iload_n h dX3_clear_10 0 rfl rfl ?_
  have hf := Option.some.inj hf
  subst hf
  exact hret _ _ _ _ dX3_clear_11 ⟨rfl, rfl⟩
def fX3_isLetter  (x0 : Int32) : Option (Int32) := Option.bind (fX11_isWalker (x0 - (65 : Int32))) (fun v1 => gd (v1 == 0 || v1 == 1) ((some v1)))
abbrev rmX3_isLetter : Room := { frames := 2, cells := 0, slots := 0, locals := 42 }
set_option maxRecDepth 100000 in
set_option maxHeartbeats 4000000 in
theorem ctX3_isLetter (l : Launch) (G : zG)  (x0 : Int32) {R : Int32} (hf : fX3_isLetter x0 = some R) : zCt l yX3_isLetter wsX3_isLetter rmX3_isLetter G [] [.int x0] (fun v w => v = some (.int (R)) ∧ w = []) := by
  refine zMkB (own := RX3) false (by decide) (by decide +kernel) rfl rfl (Nat.le_of_ble_eq_true rfl) ?_
  intro Z h hret
  rw [fX3_isLetter] at hf
  show Z 0 0 _ [(0, .int x0)] 0 []
  refine z_iload_n h dX3_isLetter_0 0 rfl rfl ?_
  refine z_bipush h (v := (65 : Int32)) dX3_isLetter_1 (by decide) rfl ?_
  refine z_isub h dX3_isLetter_3 rfl ?_
  obtain ⟨v1, hv1, hf⟩ := bd_some hf
  refine z_callSN h (np := 1) (st := []) (wr := []) [.int (x0 - (65 : Int32))] (ctX11_isWalker l G (x0 - (65 : Int32)) hv1) gX3_isLetter_X11_isWalker_n31 (by decide +kernel) (by decide +kernel) (by decide +kernel) (by decide +kernel) rfl ⟨Nat.le_of_ble_eq_true rfl, Nat.le_of_ble_eq_true rfl⟩ ⟨Nat.le_refl _, Nat.le_refl _⟩ rfl rfl rfl [] [] rfl rfl rfl rfl (by decide) (Nat.le_of_ble_eq_true rfl) dX3_isLetter_4 rfl rfl (fun rv1 wv1 hrv1 => ?_)
  obtain ⟨rfl, rfl⟩ := hrv1
  refine z_perm h (w2 := []) (st := [.int v1]) [] rfl rfl ?_
  obtain ⟨hg2, hf⟩ := gd_some hf
  have hf := Option.some.inj hf
  subst hf
  exact hret _ _ _ _ dX3_isLetter_7 hg2 ⟨rfl, rfl⟩
def fX3_isHour  (x0 : Int32) : Option (Int32) := Option.bind (fX11_within (x0 - (48 : Int32)) (0 : Int32) (7 : Int32)) (fun v1 => gd (v1 == 0 || v1 == 1) ((some v1)))
abbrev rmX3_isHour : Room := { frames := 1, cells := 0, slots := 0, locals := 22 }
set_option maxRecDepth 100000 in
set_option maxHeartbeats 4000000 in
theorem ctX3_isHour (l : Launch) (G : zG)  (x0 : Int32) {R : Int32} (hf : fX3_isHour x0 = some R) : zCt l yX3_isHour wsX3_isHour rmX3_isHour G [] [.int x0] (fun v w => v = some (.int (R)) ∧ w = []) := by
  refine zMkB (own := RX3) false (by decide) (by decide +kernel) rfl rfl (Nat.le_of_ble_eq_true rfl) ?_
  intro Z h hret
  rw [fX3_isHour] at hf
  show Z 0 0 _ [(0, .int x0)] 0 []
  refine z_iload_n h dX3_isHour_0 0 rfl rfl ?_
  refine z_bipush h (v := (48 : Int32)) dX3_isHour_1 (by decide) rfl ?_
  refine z_isub h dX3_isHour_3 rfl ?_
  refine z_iconst h (v := (0 : Int32)) dX3_isHour_4 (by decide) rfl ?_
  refine z_bipush h (v := (7 : Int32)) dX3_isHour_5 (by decide) rfl ?_
  obtain ⟨v1, hv1, hf⟩ := bd_some hf
  refine z_callSN h (np := 3) (st := []) (wr := []) [.int (x0 - (48 : Int32)), .int (0 : Int32), .int (7 : Int32)] (ctX11_within l G (x0 - (48 : Int32)) (0 : Int32) (7 : Int32) hv1) gX3_isHour_X11_within_n34 (by decide +kernel) (by decide +kernel) (by decide +kernel) (by decide +kernel) rfl ⟨Nat.le_of_ble_eq_true rfl, Nat.le_of_ble_eq_true rfl⟩ ⟨Nat.le_refl _, Nat.le_refl _⟩ rfl rfl rfl [] [] rfl rfl rfl rfl (by decide) (Nat.le_of_ble_eq_true rfl) dX3_isHour_7 rfl rfl (fun rv1 wv1 hrv1 => ?_)
  obtain ⟨rfl, rfl⟩ := hrv1
  refine z_perm h (w2 := []) (st := [.int v1]) [] rfl rfl ?_
  obtain ⟨hg2, hf⟩ := gd_some hf
  have hf := Option.some.inj hf
  subst hf
  exact hret _ _ _ _ dX3_isHour_10 hg2 ⟨rfl, rfl⟩
def fX3_deed_b80 (x0 : Int32)   : Option (Int32) := (some (3 : Int32))
def fX3_deed  (x0 : Int32) : Option (Int32) := Option.bind (fX3_isHour x0) (fun v1 => (if v1 = (0 : Int32) then (if x0 = (60 : Int32) then (some (1 : Int32)) else if x0 = (62 : Int32) then (some (0 : Int32)) else if x0 = (94 : Int32) then (some (4 : Int32)) else if x0 = (102 : Int32) then (fX3_deed_b80 x0  ) else if x0 = (103 : Int32) then (fX3_deed_b80 x0  ) else if x0 = (115 : Int32) then (fX3_deed_b80 x0  ) else if x0 = (124 : Int32) then (some (6 : Int32)) else (some (-1 : Int32))) else (some (2 : Int32))))
abbrev rmX3_deed : Room := { frames := 2, cells := 0, slots := 0, locals := 42 }
set_option maxRecDepth 100000 in
set_option maxHeartbeats 4000000 in
theorem ctX3_deed (l : Launch) (G : zG)  (x0 : Int32) {R : Int32} (hf : fX3_deed x0 = some R) : zCt l yX3_deed wsX3_deed rmX3_deed G [] [.int x0] (fun v w => v = some (.int (R)) ∧ w = []) := by
  refine zMkI (own := RX3) false (by decide) (by decide +kernel) rfl rfl (Nat.le_of_ble_eq_true rfl) ?_
  intro Z h hret
  have hB80 : fX3_deed_b80 x0   = some R → Z 0 0 [] [] 80 [] := by
    intro hf
    rw [fX3_deed_b80] at hf
    refine z_iconst h (v := (3 : Int32)) dX3_deed_80 (by decide) rfl ?_
    have hf := Option.some.inj hf
    subst hf
    exact hret _ _ _ _ dX3_deed_81 ⟨rfl, rfl⟩
  rw [fX3_deed] at hf
  show Z 0 0 _ [(0, .int x0)] 0 []
  refine z_iload_n h dX3_deed_0 0 rfl rfl ?_
  obtain ⟨v1, hv1, hf⟩ := bd_some hf
  refine z_callS h (np := 1) (st := []) (wr := []) [.int x0] (ctX3_isHour l G x0 hv1) gX3_deed_X3_isHour (by decide +kernel) rfl ⟨Nat.le_of_ble_eq_true rfl, Nat.le_of_ble_eq_true rfl⟩ ⟨Nat.le_refl _, Nat.le_refl _⟩ rfl rfl rfl [] [] rfl rfl rfl rfl (by decide) (Nat.le_of_ble_eq_true rfl) dX3_deed_1 rfl rfl (fun rv1 wv1 hrv1 => ?_)
  obtain ⟨rfl, rfl⟩ := hrv1
  refine z_perm h (w2 := []) (st := [.int v1]) [] rfl rfl ?_
  refine z_if_eq h (tgt := 9) dX3_deed_4 (by decide) rfl (fun c2 => ?_) (fun c2 => ?_)
  · have hf := ite_t hf c2
    refine z_iload_n h dX3_deed_9 0 rfl rfl ?_
    by_cases c3 : x0 = (60 : Int32)
    · have hf := ite_t hf c3
      refine z_lookIn h (off := 68) (tgt := 78) dX3_deed_10 (60 : Int32) c3 (by decide) (by decide) (by decide) ?_
      refine z_iconst h (v := (1 : Int32)) dX3_deed_78 (by decide) rfl ?_
      have hf := Option.some.inj hf
      subst hf
      exact hret _ _ _ _ dX3_deed_79 ⟨rfl, rfl⟩
    have hf := ite_f hf c3
    by_cases c4 : x0 = (62 : Int32)
    · have hf := ite_t hf c4
      refine z_lookIn h (off := 66) (tgt := 76) dX3_deed_10 (62 : Int32) c4 (by decide) (by decide) (by decide) ?_
      refine z_iconst h (v := (0 : Int32)) dX3_deed_76 (by decide) rfl ?_
      have hf := Option.some.inj hf
      subst hf
      exact hret _ _ _ _ dX3_deed_77 ⟨rfl, rfl⟩
    have hf := ite_f hf c4
    by_cases c5 : x0 = (94 : Int32)
    · have hf := ite_t hf c5
      refine z_lookIn h (off := 72) (tgt := 82) dX3_deed_10 (94 : Int32) c5 (by decide) (by decide) (by decide) ?_
      refine z_iconst h (v := (4 : Int32)) dX3_deed_82 (by decide) rfl ?_
      have hf := Option.some.inj hf
      subst hf
      exact hret _ _ _ _ dX3_deed_83 ⟨rfl, rfl⟩
    have hf := ite_f hf c5
    by_cases c6 : x0 = (102 : Int32)
    · have hf := ite_t hf c6
      refine z_lookIn h (off := 70) (tgt := 80) dX3_deed_10 (102 : Int32) c6 (by decide) (by decide) (by decide) ?_
      refine z_locs h (lv2 := []) [] rfl ?_
      exact hB80  hf
    have hf := ite_f hf c6
    by_cases c7 : x0 = (103 : Int32)
    · have hf := ite_t hf c7
      refine z_lookIn h (off := 70) (tgt := 80) dX3_deed_10 (103 : Int32) c7 (by decide) (by decide) (by decide) ?_
      refine z_locs h (lv2 := []) [] rfl ?_
      exact hB80  hf
    have hf := ite_f hf c7
    by_cases c8 : x0 = (115 : Int32)
    · have hf := ite_t hf c8
      refine z_lookIn h (off := 70) (tgt := 80) dX3_deed_10 (115 : Int32) c8 (by decide) (by decide) (by decide) ?_
      refine z_locs h (lv2 := []) [] rfl ?_
      exact hB80  hf
    have hf := ite_f hf c8
    by_cases c9 : x0 = (124 : Int32)
    · have hf := ite_t hf c9
      refine z_lookIn h (off := 74) (tgt := 84) dX3_deed_10 (124 : Int32) c9 (by decide) (by decide) (by decide) ?_
      refine z_bipush h (v := (6 : Int32)) dX3_deed_84 (by decide) rfl ?_
      have hf := Option.some.inj hf
      subst hf
      exact hret _ _ _ _ dX3_deed_86 ⟨rfl, rfl⟩
    have hf := ite_f hf c9
    refine z_lookup h (off := 77) (tgt := 87) dX3_deed_10 (by decide) (by show Op.lookupswitch.offset [(60, 68), (62, 66), (94, 72), (102, 70), (103, 70), (115, 70), (124, 74)] _ _ = _; simp only [Op.lookupswitch.offset_cons, Op.lookupswitch.offset_nil, if_neg (z_ti (a := 60) (by decide) c3), if_neg (z_ti (a := 62) (by decide) c4), if_neg (z_ti (a := 94) (by decide) c5), if_neg (z_ti (a := 102) (by decide) c6), if_neg (z_ti (a := 103) (by decide) c7), if_neg (z_ti (a := 115) (by decide) c8), if_neg (z_ti (a := 124) (by decide) c9)]) (by decide) ?_
    refine z_iconst h (v := (-1 : Int32)) dX3_deed_87 (by decide) rfl ?_
    have hf := Option.some.inj hf
    subst hf
    exact hret _ _ _ _ dX3_deed_88 ⟨rfl, rfl⟩
  have hf := ite_f hf c2
  refine z_iconst h (v := (2 : Int32)) dX3_deed_7 (by decide) rfl ?_
  have hf := Option.some.inj hf
  subst hf
  exact hret _ _ _ _ dX3_deed_8 ⟨rfl, rfl⟩
def fX3_after_b40 (x0 : Int32) (x1 : Int32)   : Option (Int32) := (some (0 : Int32))
def fX3_after_b54 (x0 : Int32) (x1 : Int32)  (s0 : Int32) : Option (Int32) := (some s0)
def fX3_after_b76 (x0 : Int32) (x1 : Int32)  (s0 : Int32) : Option (Int32) := (some s0)
def fX3_after_b89 (x0 : Int32) (x1 : Int32)  (s0 : Int32) : Option (Int32) := (some s0)
def fX3_after  (x0 : Int32) (x1 : Int32) : Option (Int32) := (if x0 = (0 : Int32) then (if x1 = (33 : Int32) then (fX3_after_b40 x0 x1  ) else (if x1 = (46 : Int32) then (fX3_after_b40 x0 x1  ) else Option.bind (fX3_isLetter x1) (fun v4 => (if v4 = (0 : Int32) then (fX3_after_b54 x0 x1  (-1 : Int32)) else (fX3_after_b54 x0 x1  (1 : Int32)))))) else if x0 = (1 : Int32) then (if x1 = (38 : Int32) then (some (2 : Int32)) else Option.bind (fX3_deed x1) (fun v8 => (if v8 = (-1 : Int32) then (fX3_after_b76 x0 x1  (-1 : Int32)) else (fX3_after_b76 x0 x1  (0 : Int32))))) else Option.bind (fX3_isLetter x1) (fun v10 => (if v10 = (0 : Int32) then (fX3_after_b89 x0 x1  (-1 : Int32)) else (fX3_after_b89 x0 x1  (0 : Int32)))))
abbrev rmX3_after : Room := { frames := 3, cells := 0, slots := 0, locals := 62 }
set_option maxRecDepth 100000 in
set_option maxHeartbeats 4000000 in
theorem ctX3_after (l : Launch) (G : zG)  (x0 : Int32) (x1 : Int32) {R : Int32} (hf : fX3_after x0 x1 = some R) : zCt l yX3_after wsX3_after rmX3_after G [] [.int x0, .int x1] (fun v w => v = some (.int (R)) ∧ w = []) := by
  refine zMkI (own := RX3) false (by decide) (by decide +kernel) rfl rfl (Nat.le_of_ble_eq_true rfl) ?_
  intro Z h hret
  have hB40 : fX3_after_b40 x0 x1   = some R → Z 0 0 [] [] 40 [] := by
    intro hf
    rw [fX3_after_b40] at hf
    refine z_iconst h (v := (0 : Int32)) dX3_after_40 (by decide) rfl ?_
    have hf := Option.some.inj hf
    subst hf
    exact hret _ _ _ _ dX3_after_41 ⟨rfl, rfl⟩
  have hB54 : ∀ (s0 : Int32), fX3_after_b54 x0 x1  s0 = some R → Z 0 0 [] [] 54 [.int s0] := by
    intro s0 hf
    rw [fX3_after_b54] at hf
    have hf := Option.some.inj hf
    subst hf
    exact hret _ _ _ _ dX3_after_54 ⟨rfl, rfl⟩
  have hB76 : ∀ (s0 : Int32), fX3_after_b76 x0 x1  s0 = some R → Z 0 0 [] [] 76 [.int s0] := by
    intro s0 hf
    rw [fX3_after_b76] at hf
    have hf := Option.some.inj hf
    subst hf
    exact hret _ _ _ _ dX3_after_76 ⟨rfl, rfl⟩
  have hB89 : ∀ (s0 : Int32), fX3_after_b89 x0 x1  s0 = some R → Z 0 0 [] [] 89 [.int s0] := by
    intro s0 hf
    rw [fX3_after_b89] at hf
    have hf := Option.some.inj hf
    subst hf
    exact hret _ _ _ _ dX3_after_89 ⟨rfl, rfl⟩
  rw [fX3_after] at hf
  show Z 0 0 _ [(0, .int x0), (1, .int x1)] 0 []
  refine z_iload_n h dX3_after_0 0 rfl rfl ?_
  by_cases c1 : x0 = (0 : Int32)
  · have hf := ite_t hf c1
    refine z_lookIn h (off := 27) (tgt := 28) dX3_after_1 (0 : Int32) c1 (by decide) (by decide) (by decide) ?_
    refine z_iload_n h dX3_after_28 1 rfl rfl ?_
    refine z_bipush h (v := (33 : Int32)) dX3_after_29 (by decide) rfl ?_
    refine z_icmp_eq h (tgt := 40) dX3_after_31 (by decide) rfl (fun c2 => ?_) (fun c2 => ?_)
    · have hf := ite_t hf c2
      refine z_locs h (lv2 := []) [] rfl ?_
      exact hB40  hf
    have hf := ite_f hf c2
    refine z_iload_n h dX3_after_34 1 rfl rfl ?_
    refine z_bipush h (v := (46 : Int32)) dX3_after_35 (by decide) rfl ?_
    refine z_icmp_ne h (tgt := 42) dX3_after_37 (by decide) rfl (fun c3 => ?_) (fun c3 => ?_)
    · have hf := ite_f hf c3
      refine z_iload_n h dX3_after_42 1 rfl rfl ?_
      obtain ⟨v4, hv4, hf⟩ := bd_some hf
      refine z_callS h (np := 1) (st := []) (wr := []) [.int x1] (ctX3_isLetter l G x1 hv4) gX3_after_X3_isLetter (by decide +kernel) rfl ⟨Nat.le_of_ble_eq_true rfl, Nat.le_of_ble_eq_true rfl⟩ ⟨Nat.le_refl _, Nat.le_refl _⟩ rfl rfl rfl [] [] rfl rfl rfl rfl (by decide) (Nat.le_of_ble_eq_true rfl) dX3_after_43 rfl rfl (fun rv4 wv4 hrv4 => ?_)
      obtain ⟨rfl, rfl⟩ := hrv4
      refine z_perm h (w2 := []) (st := [.int v4]) [] rfl rfl ?_
      refine z_if_eq h (tgt := 53) dX3_after_46 (by decide) rfl (fun c5 => ?_) (fun c5 => ?_)
      · have hf := ite_t hf c5
        refine z_iconst h (v := (-1 : Int32)) dX3_after_53 (by decide) rfl ?_
        refine z_locs h (lv2 := []) [] rfl ?_
        exact hB54 (-1 : Int32) hf
      have hf := ite_f hf c5
      refine z_iconst h (v := (1 : Int32)) dX3_after_49 (by decide) rfl ?_
      refine z_goto h (tgt := 54) dX3_after_50 (by decide) ?_
      refine z_locs h (lv2 := []) [] rfl ?_
      exact hB54 (1 : Int32) hf
    have hf := ite_t hf c3
    refine z_locs h (lv2 := []) [] rfl ?_
    exact hB40  hf
  have hf := ite_f hf c1
  by_cases c6 : x0 = (1 : Int32)
  · have hf := ite_t hf c6
    refine z_lookIn h (off := 54) (tgt := 55) dX3_after_1 (1 : Int32) c6 (by decide) (by decide) (by decide) ?_
    refine z_iload_n h dX3_after_55 1 rfl rfl ?_
    refine z_bipush h (v := (38 : Int32)) dX3_after_56 (by decide) rfl ?_
    refine z_icmp_ne h (tgt := 63) dX3_after_58 (by decide) rfl (fun c7 => ?_) (fun c7 => ?_)
    · have hf := ite_f hf c7
      refine z_iload_n h dX3_after_63 1 rfl rfl ?_
      obtain ⟨v8, hv8, hf⟩ := bd_some hf
      refine z_callS h (np := 1) (st := []) (wr := []) [.int x1] (ctX3_deed l G x1 hv8) gX3_after_X3_deed (by decide +kernel) rfl ⟨Nat.le_of_ble_eq_true rfl, Nat.le_of_ble_eq_true rfl⟩ ⟨Nat.le_refl _, Nat.le_refl _⟩ rfl rfl rfl [] [] rfl rfl rfl rfl (by decide) (Nat.le_of_ble_eq_true rfl) dX3_after_64 rfl rfl (fun rv8 wv8 hrv8 => ?_)
      obtain ⟨rfl, rfl⟩ := hrv8
      refine z_perm h (w2 := []) (st := [.int v8]) [] rfl rfl ?_
      refine z_iconst h (v := (-1 : Int32)) dX3_after_67 (by decide) rfl ?_
      refine z_icmp_ne h (tgt := 75) dX3_after_68 (by decide) rfl (fun c9 => ?_) (fun c9 => ?_)
      · have hf := ite_f hf c9
        refine z_iconst h (v := (0 : Int32)) dX3_after_75 (by decide) rfl ?_
        refine z_locs h (lv2 := []) [] rfl ?_
        exact hB76 (0 : Int32) hf
      have hf := ite_t hf c9
      refine z_iconst h (v := (-1 : Int32)) dX3_after_71 (by decide) rfl ?_
      refine z_goto h (tgt := 76) dX3_after_72 (by decide) ?_
      refine z_locs h (lv2 := []) [] rfl ?_
      exact hB76 (-1 : Int32) hf
    have hf := ite_t hf c7
    refine z_iconst h (v := (2 : Int32)) dX3_after_61 (by decide) rfl ?_
    have hf := Option.some.inj hf
    subst hf
    exact hret _ _ _ _ dX3_after_62 ⟨rfl, rfl⟩
  have hf := ite_f hf c6
  refine z_lookup h (off := 76) (tgt := 77) dX3_after_1 (by decide) (by show Op.lookupswitch.offset [(0, 27), (1, 54)] _ _ = _; simp only [Op.lookupswitch.offset_cons, Op.lookupswitch.offset_nil, if_neg (z_ti (a := 0) (by decide) c1), if_neg (z_ti (a := 1) (by decide) c6)]) (by decide) ?_
  refine z_iload_n h dX3_after_77 1 rfl rfl ?_
  obtain ⟨v10, hv10, hf⟩ := bd_some hf
  refine z_callS h (np := 1) (st := []) (wr := []) [.int x1] (ctX3_isLetter l G x1 hv10) gX3_after_X3_isLetter (by decide +kernel) rfl ⟨Nat.le_of_ble_eq_true rfl, Nat.le_of_ble_eq_true rfl⟩ ⟨Nat.le_refl _, Nat.le_refl _⟩ rfl rfl rfl [] [] rfl rfl rfl rfl (by decide) (Nat.le_of_ble_eq_true rfl) dX3_after_78 rfl rfl (fun rv10 wv10 hrv10 => ?_)
  obtain ⟨rfl, rfl⟩ := hrv10
  refine z_perm h (w2 := []) (st := [.int v10]) [] rfl rfl ?_
  refine z_if_eq h (tgt := 88) dX3_after_81 (by decide) rfl (fun c11 => ?_) (fun c11 => ?_)
  · have hf := ite_t hf c11
    refine z_iconst h (v := (-1 : Int32)) dX3_after_88 (by decide) rfl ?_
    refine z_locs h (lv2 := []) [] rfl ?_
    exact hB89 (-1 : Int32) hf
  have hf := ite_f hf c11
  refine z_iconst h (v := (0 : Int32)) dX3_after_84 (by decide) rfl ?_
  refine z_goto h (tgt := 89) dX3_after_85 (by decide) ?_
  refine z_locs h (lv2 := []) [] rfl ?_
  exact hB89 (0 : Int32) hf
def fX3_faultyPlace_b49 (c0_size : Int32) (c0_signs : Nat → Int32)  (s0 : Int32) : Option (Int32) := (some s0)
def fX3_faultyPlace_L4 (c0_size : Int32) (c0_signs : Nat → Int32)  : Nat → Int32 → Int32 → Option (Int32)
  | 0, _, _ => none
  | n + 1, x1, x2 => (if c0_size ≤ x2 then (if x1 = (0 : Int32) then (fX3_faultyPlace_b49 c0_size c0_signs  (-6 : Int32)) else (fX3_faultyPlace_b49 c0_size c0_signs  c0_size)) else gd (inb x2 60) (Option.bind (fX3_after x1 (c0_signs (x2).toNatClampNeg)) (fun v4 => (if v4 = (-1 : Int32) then (some x2) else ((fX3_faultyPlace_L4 c0_size c0_signs  n) v4 (x2 + (1 : Int32)))))))
def fX3_faultyPlace (c0_size : Int32) (c0_signs : Nat → Int32)  : Option (Int32) := (fX3_faultyPlace_L4 c0_size c0_signs  zF (0 : Int32) (0 : Int32))
abbrev rmX3_faultyPlace : Room := { frames := 4, cells := 0, slots := 0, locals := 83 }
set_option maxRecDepth 100000 in
set_option maxHeartbeats 4000000 in
theorem ctX3_faultyPlace (l : Launch) (G : zG) (a0 a0_signs : Nat) (c0_size : Int32) (c0_signs : Nat → Int32)  {R : Int32} (hf : fX3_faultyPlace c0_size c0_signs = some R) : zCt l yX3_faultyPlace wsX3_faultyPlace rmX3_faultyPlace G [(a0, .inr (3, [.ref a0_signs, .int c0_size])), (a0_signs, .inl (G.2.1, 60, .inl c0_signs))] [.ref a0] (fun v w => v = some (.int (R)) ∧ w = [(a0, .inr (3, [.ref a0_signs, .int c0_size])), (a0_signs, .inl (G.2.1, 60, .inl c0_signs))]) := by
  refine zMkI (own := RX3) false (by decide) (by decide +kernel) rfl rfl (Nat.le_of_ble_eq_true rfl) ?_
  intro Z h hret
  have hB49 : ∀ (s0 : Int32), fX3_faultyPlace_b49 c0_size c0_signs  s0 = some R → Z 0 0 [(a0, .inr (3, [.ref a0_signs, .int c0_size])), (a0_signs, .inl (G.2.1, 60, .inl c0_signs))] [] 49 [.int s0] := by
    intro s0 hf
    rw [fX3_faultyPlace_b49] at hf
    have hf := Option.some.inj hf
    subst hf
    exact hret _ _ _ _ dX3_faultyPlace_49 ⟨rfl, rfl⟩
  have hL4 : ∀ (n4 : Nat) (x1 : Int32) (x2 : Int32), fX3_faultyPlace_L4 c0_size c0_signs  n4 x1 x2 = some R → Z 0 0 [(a0, .inr (3, [.ref a0_signs, .int c0_size])), (a0_signs, .inl (G.2.1, 60, .inl c0_signs))] [(0, .ref a0), (1, .int x1), (2, .int x2)] 4 [] := by
    intro n4
    induction n4 with
    | zero =>
      intro x1 x2 hf
      rw [fX3_faultyPlace_L4] at hf
      cases hf
    | succ n4 ih4 =>
      intro x1 x2 hf
      rw [fX3_faultyPlace_L4] at hf
      refine z_iload_n h dX3_faultyPlace_4 2 rfl rfl ?_
      refine z_aload_n h dX3_faultyPlace_5 0 rfl rfl ?_
      refine z_get h (C := RX3) (T := TX3) (N := 2) (v := .int c0_size) 0 rfl rfl 1 (by decide) (by decide +kernel) (by decide +kernel) rfl dX3_faultyPlace_6 rfl ?_
      refine z_icmp_ge h (tgt := 36) dX3_faultyPlace_9 (by decide) rfl (fun c1 => ?_) (fun c1 => ?_)
      · have hf := ite_t hf c1
        refine z_iload_n h dX3_faultyPlace_36 1 rfl rfl ?_
        refine z_if_ne h (tgt := 45) dX3_faultyPlace_37 (by decide) rfl (fun c2 => ?_) (fun c2 => ?_)
        · have hf := ite_f hf c2
          refine z_aload_n h dX3_faultyPlace_45 0 rfl rfl ?_
          refine z_get h (C := RX3) (T := TX3) (N := 2) (v := .int c0_size) 0 rfl rfl 1 (by decide) (by decide +kernel) (by decide +kernel) rfl dX3_faultyPlace_46 rfl ?_
          refine z_locs h (lv2 := []) [] rfl ?_
          exact hB49 c0_size hf
        have hf := ite_t hf c2
        refine z_bipush h (v := (-6 : Int32)) dX3_faultyPlace_40 (by decide) rfl ?_
        refine z_goto h (tgt := 49) dX3_faultyPlace_42 (by decide) ?_
        refine z_locs h (lv2 := []) [] rfl ?_
        exact hB49 (-6 : Int32) hf
      have hf := ite_f hf c1
      refine z_iload_n h dX3_faultyPlace_12 1 rfl rfl ?_
      refine z_aload_n h dX3_faultyPlace_13 0 rfl rfl ?_
      refine z_get h (C := RX3) (T := TX3) (N := 2) (v := .ref a0_signs) 0 rfl rfl 0 (by decide) (by decide +kernel) (by decide +kernel) rfl dX3_faultyPlace_14 rfl ?_
      refine z_iload_n h dX3_faultyPlace_17 2 rfl rfl ?_
      obtain ⟨hg3, hf⟩ := gd_some hf
      refine z_iald h 1 rfl rfl hg3 dX3_faultyPlace_18 rfl ?_
      obtain ⟨v4, hv4, hf⟩ := bd_some hf
      refine z_callS h (np := 2) (st := []) (wr := [(a0, .inr (3, [.ref a0_signs, .int c0_size])), (a0_signs, .inl (G.2.1, 60, .inl c0_signs))]) [.int x1, .int (c0_signs (x2).toNatClampNeg)] (ctX3_after l G x1 (c0_signs (x2).toNatClampNeg) hv4) gX3_faultyPlace_X3_after (by decide +kernel) rfl ⟨Nat.le_of_ble_eq_true rfl, Nat.le_of_ble_eq_true rfl⟩ ⟨Nat.le_refl _, Nat.le_refl _⟩ rfl rfl rfl [] [0, 1] rfl rfl rfl rfl (by decide) (Nat.le_of_ble_eq_true rfl) dX3_faultyPlace_19 rfl rfl (fun rv4 wv4 hrv4 => ?_)
      obtain ⟨rfl, rfl⟩ := hrv4
      refine z_perm h (w2 := [(a0, .inr (3, [.ref a0_signs, .int c0_size])), (a0_signs, .inl (G.2.1, 60, .inl c0_signs))]) (st := [.int v4]) [0, 1] rfl rfl ?_
      refine z_istore_n h (lv2 := [(1, .int v4), (0, .ref a0), (2, .int x2)]) dX3_faultyPlace_22 (by decide) rfl rfl ?_
      refine z_iload_n h dX3_faultyPlace_23 0 rfl rfl ?_
      refine z_iconst h (v := (-1 : Int32)) dX3_faultyPlace_24 (by decide) rfl ?_
      refine z_icmp_ne h (tgt := 30) dX3_faultyPlace_25 (by decide) rfl (fun c5 => ?_) (fun c5 => ?_)
      · have hf := ite_f hf c5
        refine z_iinc h (v := (x2 + (1 : Int32))) (lv2 := [(2, .int (x2 + (1 : Int32))), (1, .int v4), (0, .ref a0)]) (j := 2) dX3_faultyPlace_30 rfl rfl (by decide) rfl rfl ?_
        refine z_goto h (tgt := 4) dX3_faultyPlace_33 (by decide) ?_
        refine z_locs h (lv2 := [(0, .ref a0), (1, .int v4), (2, .int (x2 + (1 : Int32)))]) [2, 1, 0] rfl ?_
        exact ih4 v4 (x2 + (1 : Int32)) hf
      have hf := ite_t hf c5
      refine z_iload_n h dX3_faultyPlace_28 2 rfl rfl ?_
      have hf := Option.some.inj hf
      subst hf
      exact hret _ _ _ _ dX3_faultyPlace_29 ⟨rfl, rfl⟩
  rw [fX3_faultyPlace] at hf
  show Z 0 0 _ [(0, .ref a0)] 0 []
  refine z_iconst h (v := (0 : Int32)) dX3_faultyPlace_0 (by decide) rfl ?_
  refine z_istore_n h (lv2 := [(1, .int (0 : Int32)), (0, .ref a0)]) dX3_faultyPlace_1 (by decide) rfl rfl ?_
  refine z_iconst h (v := (0 : Int32)) dX3_faultyPlace_2 (by decide) rfl ?_
  refine z_istore_n h (lv2 := [(2, .int (0 : Int32)), (1, .int (0 : Int32)), (0, .ref a0)]) dX3_faultyPlace_3 (by decide) rfl rfl ?_
  refine z_locs h (lv2 := [(0, .ref a0), (1, .int (0 : Int32)), (2, .int (0 : Int32))]) [2, 1, 0] rfl ?_
  exact hL4 zF (0 : Int32) (0 : Int32) hf
def fX3_kind_b31 (x0 : Int32) (x1 : Int32)  (s0 : Int32) : Option (Int32) := (some s0)
def fX3_kind_b17 (x0 : Int32) (x1 : Int32)  (s0 : Int32) : Option (Int32) := (some s0)
def fX3_kind  (x0 : Int32) (x1 : Int32) : Option (Int32) := (if x0 = (0 : Int32) then (if x1 = (33 : Int32) then (fX3_kind_b17 x0 x1  (7 : Int32)) else (fX3_kind_b17 x0 x1  (8 : Int32))) else (if x0 = (2 : Int32) then (fX3_kind_b31 x0 x1  (5 : Int32)) else Option.bind (fX3_deed x1) (fun v3 => (fX3_kind_b31 x0 x1  v3))))
abbrev rmX3_kind : Room := { frames := 3, cells := 0, slots := 0, locals := 62 }
set_option maxRecDepth 100000 in
set_option maxHeartbeats 4000000 in
theorem ctX3_kind (l : Launch) (G : zG)  (x0 : Int32) (x1 : Int32) {R : Int32} (hf : fX3_kind x0 x1 = some R) : zCt l yX3_kind wsX3_kind rmX3_kind G [] [.int x0, .int x1] (fun v w => v = some (.int (R)) ∧ w = []) := by
  refine zMkI (own := RX3) false (by decide) (by decide +kernel) rfl rfl (Nat.le_of_ble_eq_true rfl) ?_
  intro Z h hret
  have hB31 : ∀ (s0 : Int32), fX3_kind_b31 x0 x1  s0 = some R → Z 0 0 [] [] 31 [.int s0] := by
    intro s0 hf
    rw [fX3_kind_b31] at hf
    have hf := Option.some.inj hf
    subst hf
    exact hret _ _ _ _ dX3_kind_31 ⟨rfl, rfl⟩
  have hB17 : ∀ (s0 : Int32), fX3_kind_b17 x0 x1  s0 = some R → Z 0 0 [] [] 17 [.int s0] := by
    intro s0 hf
    rw [fX3_kind_b17] at hf
    have hf := Option.some.inj hf
    subst hf
    exact hret _ _ _ _ dX3_kind_17 ⟨rfl, rfl⟩
  rw [fX3_kind] at hf
  show Z 0 0 _ [(0, .int x0), (1, .int x1)] 0 []
  refine z_iload_n h dX3_kind_0 0 rfl rfl ?_
  refine z_if_ne h (tgt := 18) dX3_kind_1 (by decide) rfl (fun c1 => ?_) (fun c1 => ?_)
  · have hf := ite_f hf c1
    refine z_iload_n h dX3_kind_18 0 rfl rfl ?_
    refine z_iconst h (v := (2 : Int32)) dX3_kind_19 (by decide) rfl ?_
    refine z_icmp_ne h (tgt := 27) dX3_kind_20 (by decide) rfl (fun c2 => ?_) (fun c2 => ?_)
    · have hf := ite_f hf c2
      refine z_iload_n h dX3_kind_27 1 rfl rfl ?_
      obtain ⟨v3, hv3, hf⟩ := bd_some hf
      refine z_callS h (np := 1) (st := []) (wr := []) [.int x1] (ctX3_deed l G x1 hv3) gX3_kind_X3_deed (by decide +kernel) rfl ⟨Nat.le_of_ble_eq_true rfl, Nat.le_of_ble_eq_true rfl⟩ ⟨Nat.le_refl _, Nat.le_refl _⟩ rfl rfl rfl [] [] rfl rfl rfl rfl (by decide) (Nat.le_of_ble_eq_true rfl) dX3_kind_28 rfl rfl (fun rv3 wv3 hrv3 => ?_)
      obtain ⟨rfl, rfl⟩ := hrv3
      refine z_perm h (w2 := []) (st := [.int v3]) [] rfl rfl ?_
      refine z_locs h (lv2 := []) [] rfl ?_
      exact hB31 v3 hf
    have hf := ite_t hf c2
    refine z_iconst h (v := (5 : Int32)) dX3_kind_23 (by decide) rfl ?_
    refine z_goto h (tgt := 31) dX3_kind_24 (by decide) ?_
    refine z_locs h (lv2 := []) [] rfl ?_
    exact hB31 (5 : Int32) hf
  have hf := ite_t hf c1
  refine z_iload_n h dX3_kind_4 1 rfl rfl ?_
  refine z_bipush h (v := (33 : Int32)) dX3_kind_5 (by decide) rfl ?_
  refine z_icmp_ne h (tgt := 15) dX3_kind_7 (by decide) rfl (fun c4 => ?_) (fun c4 => ?_)
  · have hf := ite_f hf c4
    refine z_bipush h (v := (8 : Int32)) dX3_kind_15 (by decide) rfl ?_
    refine z_locs h (lv2 := []) [] rfl ?_
    exact hB17 (8 : Int32) hf
  have hf := ite_t hf c4
  refine z_bipush h (v := (7 : Int32)) dX3_kind_10 (by decide) rfl ?_
  refine z_goto h (tgt := 17) dX3_kind_12 (by decide) ?_
  refine z_locs h (lv2 := []) [] rfl ?_
  exact hB17 (7 : Int32) hf
def fX3_object  (x0 : Int32) (x1 : Int32) : Option (Int32) := (if x0 = (2 : Int32) then (some (x1 - (65 : Int32))) else Option.bind (fX3_isHour x1) (fun v2 => (if v2 = (0 : Int32) then (if x1 = (102 : Int32) then (some (1 : Int32)) else if x1 = (115 : Int32) then (some (2 : Int32)) else (some (0 : Int32))) else (some (x1 - (48 : Int32))))))
abbrev rmX3_object : Room := { frames := 2, cells := 0, slots := 0, locals := 42 }
set_option maxRecDepth 100000 in
set_option maxHeartbeats 4000000 in
theorem ctX3_object (l : Launch) (G : zG)  (x0 : Int32) (x1 : Int32) {R : Int32} (hf : fX3_object x0 x1 = some R) : zCt l yX3_object wsX3_object rmX3_object G [] [.int x0, .int x1] (fun v w => v = some (.int (R)) ∧ w = []) := by
  refine zMkI (own := RX3) false (by decide) (by decide +kernel) rfl rfl (Nat.le_of_ble_eq_true rfl) ?_
  intro Z h hret
  rw [fX3_object] at hf
  show Z 0 0 _ [(0, .int x0), (1, .int x1)] 0 []
  refine z_iload_n h dX3_object_0 0 rfl rfl ?_
  refine z_iconst h (v := (2 : Int32)) dX3_object_1 (by decide) rfl ?_
  refine z_icmp_ne h (tgt := 10) dX3_object_2 (by decide) rfl (fun c1 => ?_) (fun c1 => ?_)
  · have hf := ite_f hf c1
    refine z_iload_n h dX3_object_10 1 rfl rfl ?_
    obtain ⟨v2, hv2, hf⟩ := bd_some hf
    refine z_callS h (np := 1) (st := []) (wr := []) [.int x1] (ctX3_isHour l G x1 hv2) gX3_object_X3_isHour (by decide +kernel) rfl ⟨Nat.le_of_ble_eq_true rfl, Nat.le_of_ble_eq_true rfl⟩ ⟨Nat.le_refl _, Nat.le_refl _⟩ rfl rfl rfl [] [] rfl rfl rfl rfl (by decide) (Nat.le_of_ble_eq_true rfl) dX3_object_11 rfl rfl (fun rv2 wv2 hrv2 => ?_)
    obtain ⟨rfl, rfl⟩ := hrv2
    refine z_perm h (w2 := []) (st := [.int v2]) [] rfl rfl ?_
    refine z_if_eq h (tgt := 22) dX3_object_14 (by decide) rfl (fun c3 => ?_) (fun c3 => ?_)
    · have hf := ite_t hf c3
      refine z_iload_n h dX3_object_22 1 rfl rfl ?_
      by_cases c4 : x1 = (102 : Int32)
      · have hf := ite_t hf c4
        refine z_lookIn h (off := 25) (tgt := 48) dX3_object_23 (102 : Int32) c4 (by decide) (by decide) (by decide) ?_
        refine z_iconst h (v := (1 : Int32)) dX3_object_48 (by decide) rfl ?_
        have hf := Option.some.inj hf
        subst hf
        exact hret _ _ _ _ dX3_object_49 ⟨rfl, rfl⟩
      have hf := ite_f hf c4
      by_cases c5 : x1 = (115 : Int32)
      · have hf := ite_t hf c5
        refine z_lookIn h (off := 27) (tgt := 50) dX3_object_23 (115 : Int32) c5 (by decide) (by decide) (by decide) ?_
        refine z_iconst h (v := (2 : Int32)) dX3_object_50 (by decide) rfl ?_
        have hf := Option.some.inj hf
        subst hf
        exact hret _ _ _ _ dX3_object_51 ⟨rfl, rfl⟩
      have hf := ite_f hf c5
      refine z_lookup h (off := 29) (tgt := 52) dX3_object_23 (by decide) (by show Op.lookupswitch.offset [(102, 25), (115, 27)] _ _ = _; simp only [Op.lookupswitch.offset_cons, Op.lookupswitch.offset_nil, if_neg (z_ti (a := 102) (by decide) c4), if_neg (z_ti (a := 115) (by decide) c5)]) (by decide) ?_
      refine z_iconst h (v := (0 : Int32)) dX3_object_52 (by decide) rfl ?_
      have hf := Option.some.inj hf
      subst hf
      exact hret _ _ _ _ dX3_object_53 ⟨rfl, rfl⟩
    have hf := ite_f hf c3
    refine z_iload_n h dX3_object_17 1 rfl rfl ?_
    refine z_bipush h (v := (48 : Int32)) dX3_object_18 (by decide) rfl ?_
    refine z_isub h dX3_object_20 rfl ?_
    have hf := Option.some.inj hf
    subst hf
    exact hret _ _ _ _ dX3_object_21 ⟨rfl, rfl⟩
  have hf := ite_t hf c1
  refine z_iload_n h dX3_object_5 1 rfl rfl ?_
  refine z_bipush h (v := (65 : Int32)) dX3_object_6 (by decide) rfl ?_
  refine z_isub h dX3_object_8 rfl ?_
  have hf := Option.some.inj hf
  subst hf
  exact hret _ _ _ _ dX3_object_9 ⟨rfl, rfl⟩
def fX4_spread  (x0 : Int32) : Option (Int32) := (some ((x0 ||| (sl x0 (1 : Int32))) ||| (sr x0 (1 : Int32))))
abbrev rmX4_spread : Room := { frames := 0, cells := 0, slots := 0, locals := 0 }
set_option maxRecDepth 100000 in
set_option maxHeartbeats 4000000 in
theorem ctX4_spread (l : Launch) (G : zG)  (x0 : Int32) {R : Int32} (hf : fX4_spread x0 = some R) : zCt l yX4_spread wsX4_spread rmX4_spread G [] [.int x0] (fun v w => v = some (.int (R)) ∧ w = []) := by
  refine zMkI (own := RX4) false (by decide) (by decide +kernel) rfl rfl (Nat.le_of_ble_eq_true rfl) ?_
  intro Z h hret
  rw [fX4_spread] at hf
  show Z 0 0 _ [(0, .int x0)] 0 []
  refine z_iload_n h dX4_spread_0 0 rfl rfl ?_
  refine z_iload_n h dX4_spread_1 0 rfl rfl ?_
  refine z_iconst h (v := (1 : Int32)) dX4_spread_2 (by decide) rfl ?_
  refine z_ishl h dX4_spread_3 rfl ?_
  refine z_ior h dX4_spread_4 rfl ?_
  refine z_iload_n h dX4_spread_5 0 rfl rfl ?_
  refine z_iconst h (v := (1 : Int32)) dX4_spread_6 (by decide) rfl ?_
  refine z_ishr h dX4_spread_7 rfl ?_
  refine z_ior h dX4_spread_8 rfl ?_
  have hf := Option.some.inj hf
  subst hf
  exact hret _ _ _ _ dX4_spread_9 ⟨rfl, rfl⟩
def fX4_lookFor_b45 (c0_where : Nat → Int32) (x1 : Int32) (x2 : Int32)  (c0_hours : Int32) (c0_first : Int32) : Option (Int32 × Int32) := (some (c0_hours, c0_first))
def fX4_lookFor_b39 (c0_where : Nat → Int32) (x1 : Int32) (x2 : Int32) (K2 : (Int32 → Int32 → Int32 → Option (Int32 × Int32))) (c0_hours : Int32) (c0_first : Int32) (x3 : Int32) : Option (Int32 × Int32) := (K2 c0_hours c0_first (x3 + (1 : Int32)))
def fX4_lookFor_L2 (c0_where : Nat → Int32) (x1 : Int32) (x2 : Int32)  : Nat → Int32 → Int32 → Int32 → Option (Int32 × Int32)
  | 0, _, _, _ => none
  | n + 1, c0_hours, c0_first, x3 => (if (3 : Int32) ≤ x3 then (fX4_lookFor_b45 c0_where x1 x2  c0_hours c0_first) else (if c0_hours = (-6 : Int32) then gd (inb x3 3) (Option.bind (fX11_has (c0_where (x3).toNatClampNeg) x1) (fun v4 => (if v4 = (0 : Int32) then (fX4_lookFor_b39 c0_where x1 x2 (fX4_lookFor_L2 c0_where x1 x2  n) c0_hours c0_first x3) else (fX4_lookFor_b39 c0_where x1 x2 (fX4_lookFor_L2 c0_where x1 x2  n) x2 x3 x3)))) else (fX4_lookFor_b45 c0_where x1 x2  c0_hours c0_first)))
def fX4_lookFor (c0_hours : Int32) (c0_first : Int32) (c0_where : Nat → Int32) (x1 : Int32) (x2 : Int32) : Option (Int32 × Int32) := (fX4_lookFor_L2 c0_where x1 x2  zF c0_hours c0_first (0 : Int32))
abbrev rmX4_lookFor : Room := { frames := 1, cells := 0, slots := 0, locals := 21 }
set_option maxRecDepth 100000 in
set_option maxHeartbeats 4000000 in
theorem ctX4_lookFor (l : Launch) (G : zG) (a0 a0_where : Nat) (c0_hours : Int32) (c0_first : Int32) (c0_where : Nat → Int32) (x1 : Int32) (x2 : Int32) {R : Int32 × Int32} (hf : fX4_lookFor c0_hours c0_first c0_where x1 x2 = some R) : zCt l yX4_lookFor wsX4_lookFor rmX4_lookFor G [(a0, .inr (4, [.ref a0_where, .int c0_hours, .int c0_first])), (a0_where, .inl (G.2.1, 3, .inl c0_where))] [.ref a0, .int x1, .int x2] (fun v w => v = none ∧ w = [(a0, .inr (4, [.ref a0_where, .int (R.1), .int (R.2)])), (a0_where, .inl (G.2.1, 3, .inl c0_where))]) := by
  refine zMkV (own := RX4) false (by decide) (by decide +kernel) rfl rfl (Nat.le_of_ble_eq_true rfl) ?_
  intro Z h hret
  have hB45 : ∀ (c0_hours : Int32) (c0_first : Int32), fX4_lookFor_b45 c0_where x1 x2  c0_hours c0_first = some R → Z 0 0 [(a0, .inr (4, [.ref a0_where, .int c0_hours, .int c0_first])), (a0_where, .inl (G.2.1, 3, .inl c0_where))] [] 45 [] := by
    intro c0_hours c0_first hf
    rw [fX4_lookFor_b45] at hf
    have hf := Option.some.inj hf
    subst hf
    exact hret _ _ _ dX4_lookFor_45 ⟨rfl, rfl⟩
  have hL2 : ∀ (n2 : Nat) (c0_hours : Int32) (c0_first : Int32) (x3 : Int32), fX4_lookFor_L2 c0_where x1 x2  n2 c0_hours c0_first x3 = some R → Z 0 0 [(a0, .inr (4, [.ref a0_where, .int c0_hours, .int c0_first])), (a0_where, .inl (G.2.1, 3, .inl c0_where))] [(0, .ref a0), (1, .int x1), (2, .int x2), (3, .int x3)] 2 [] := by
    intro n2
    induction n2 with
    | zero =>
      intro c0_hours c0_first x3 hf
      rw [fX4_lookFor_L2] at hf
      cases hf
    | succ n2 ih2 =>
      have hB39 : ∀ (c0_hours : Int32) (c0_first : Int32) (x3 : Int32), fX4_lookFor_b39 c0_where x1 x2 (fX4_lookFor_L2 c0_where x1 x2  n2) c0_hours c0_first x3 = some R → Z 0 0 [(a0, .inr (4, [.ref a0_where, .int c0_hours, .int c0_first])), (a0_where, .inl (G.2.1, 3, .inl c0_where))] [(0, .ref a0), (1, .int x1), (2, .int x2), (3, .int x3)] 39 [] := by
        intro c0_hours c0_first x3 hf
        rw [fX4_lookFor_b39] at hf
        refine z_iinc h (v := (x3 + (1 : Int32))) (lv2 := [(3, .int (x3 + (1 : Int32))), (0, .ref a0), (1, .int x1), (2, .int x2)]) (j := 3) dX4_lookFor_39 rfl rfl (by decide) rfl rfl ?_
        refine z_goto h (tgt := 2) dX4_lookFor_42 (by decide) ?_
        refine z_locs h (lv2 := [(0, .ref a0), (1, .int x1), (2, .int x2), (3, .int (x3 + (1 : Int32)))]) [1, 2, 3, 0] rfl ?_
        exact ih2 c0_hours c0_first (x3 + (1 : Int32)) hf
      intro c0_hours c0_first x3 hf
      rw [fX4_lookFor_L2] at hf
      refine z_iload_n h dX4_lookFor_2 3 rfl rfl ?_
      refine z_iconst h (v := (3 : Int32)) dX4_lookFor_3 (by decide) rfl ?_
      refine z_icmp_ge h (tgt := 45) dX4_lookFor_4 (by decide) rfl (fun c1 => ?_) (fun c1 => ?_)
      · have hf := ite_t hf c1
        refine z_locs h (lv2 := []) [] rfl ?_
        exact hB45 c0_hours c0_first hf
      have hf := ite_f hf c1
      refine z_aload_n h dX4_lookFor_7 0 rfl rfl ?_
      refine z_get h (C := RX4) (T := TX4) (N := 3) (v := .int c0_hours) 0 rfl rfl 1 (by decide) (by decide +kernel) (by decide +kernel) rfl dX4_lookFor_8 rfl ?_
      refine z_bipush h (v := (-6 : Int32)) dX4_lookFor_11 (by decide) rfl ?_
      refine z_icmp_ne h (tgt := 45) dX4_lookFor_13 (by decide) rfl (fun c2 => ?_) (fun c2 => ?_)
      · have hf := ite_f hf c2
        refine z_locs h (lv2 := []) [] rfl ?_
        exact hB45 c0_hours c0_first hf
      have hf := ite_t hf c2
      refine z_aload_n h dX4_lookFor_16 0 rfl rfl ?_
      refine z_get h (C := RX4) (T := TX4) (N := 3) (v := .ref a0_where) 0 rfl rfl 0 (by decide) (by decide +kernel) (by decide +kernel) rfl dX4_lookFor_17 rfl ?_
      refine z_iload_n h dX4_lookFor_20 3 rfl rfl ?_
      obtain ⟨hg3, hf⟩ := gd_some hf
      refine z_iald h 1 rfl rfl hg3 dX4_lookFor_21 rfl ?_
      refine z_iload_n h dX4_lookFor_22 1 rfl rfl ?_
      obtain ⟨v4, hv4, hf⟩ := bd_some hf
      refine z_callSN h (np := 2) (st := []) (wr := [(a0, .inr (4, [.ref a0_where, .int c0_hours, .int c0_first])), (a0_where, .inl (G.2.1, 3, .inl c0_where))]) [.int (c0_where (x3).toNatClampNeg), .int x1] (ctX11_has l G (c0_where (x3).toNatClampNeg) x1 hv4) gX4_lookFor_X11_has_n36 (by decide +kernel) (by decide +kernel) (by decide +kernel) (by decide +kernel) rfl ⟨Nat.le_of_ble_eq_true rfl, Nat.le_of_ble_eq_true rfl⟩ ⟨Nat.le_refl _, Nat.le_refl _⟩ rfl rfl rfl [] [0, 1] rfl rfl rfl rfl (by decide) (Nat.le_of_ble_eq_true rfl) dX4_lookFor_23 rfl rfl (fun rv4 wv4 hrv4 => ?_)
      obtain ⟨rfl, rfl⟩ := hrv4
      refine z_perm h (w2 := [(a0, .inr (4, [.ref a0_where, .int c0_hours, .int c0_first])), (a0_where, .inl (G.2.1, 3, .inl c0_where))]) (st := [.int v4]) [0, 1] rfl rfl ?_
      refine z_if_eq h (tgt := 39) dX4_lookFor_26 (by decide) rfl (fun c5 => ?_) (fun c5 => ?_)
      · have hf := ite_t hf c5
        exact hB39 c0_hours c0_first x3 hf
      have hf := ite_f hf c5
      refine z_aload_n h dX4_lookFor_29 0 rfl rfl ?_
      refine z_iload_n h dX4_lookFor_30 2 rfl rfl ?_
      refine z_put h (C := RX4) (T := TX4) (N := 3) 0 rfl rfl 1 (by decide) (by decide +kernel) (by decide +kernel) tyX4 tyX4_ok nmX4 (w2 := [(a0, .inr (4, [.ref a0_where, .int x2, .int c0_first])), (a0_where, .inl (G.2.1, 3, .inl c0_where))]) rfl rfl rfl (Nat.le_of_ble_eq_true rfl) rfl dX4_lookFor_31 rfl ?_
      refine z_aload_n h dX4_lookFor_34 0 rfl rfl ?_
      refine z_iload_n h dX4_lookFor_35 3 rfl rfl ?_
      refine z_put h (C := RX4) (T := TX4) (N := 3) 0 rfl rfl 2 (by decide) (by decide +kernel) (by decide +kernel) tyX4 tyX4_ok nmX4 (w2 := [(a0, .inr (4, [.ref a0_where, .int x2, .int x3])), (a0_where, .inl (G.2.1, 3, .inl c0_where))]) rfl rfl rfl (Nat.le_of_ble_eq_true rfl) rfl dX4_lookFor_36 rfl ?_
      exact hB39 x2 x3 x3 hf
  rw [fX4_lookFor] at hf
  show Z 0 0 _ [(0, .ref a0), (1, .int x1), (2, .int x2)] 0 []
  refine z_iconst h (v := (0 : Int32)) dX4_lookFor_0 (by decide) rfl ?_
  refine z_istore_n h (lv2 := [(3, .int (0 : Int32)), (0, .ref a0), (1, .int x1), (2, .int x2)]) dX4_lookFor_1 (by decide) rfl rfl ?_
  refine z_locs h (lv2 := [(0, .ref a0), (1, .int x1), (2, .int x2), (3, .int (0 : Int32))]) [1, 2, 3, 0] rfl ?_
  exact hL2 zF c0_hours c0_first (0 : Int32) hf
def fX4_seek_b152 (c1_force : Int32) (x2 : Int32) (x3 : Int32)  (c0_hours : Int32) (c0_first : Int32) (c0_where : Nat → Int32) (c1_cell : Int32) (c1_way : Int32) : Option (Int32 × Int32 × (Nat → Int32) × Int32 × Int32) := (some (c0_hours, c0_first, c0_where, c1_cell, c1_way))
def fX4_seek_b119 (c1_force : Int32) (x2 : Int32) (x3 : Int32) (K55 : (Int32 → Int32 → (Nat → Int32) → Int32 → Int32 → Int32 → Option (Int32 × Int32 × (Nat → Int32) × Int32 × Int32))) (K87 : (Int32 → Int32 → (Nat → Int32) → Int32 → Int32 → Int32 → Int32 → Int32 → Option (Int32 × Int32 × (Nat → Int32) × Int32 × Int32))) (c0_hours : Int32) (c0_first : Int32) (c0_where : Nat → Int32) (c1_cell : Int32) (c1_way : Int32) (x4 : Int32) (x5 : Int32) (x6 : Int32) (s0 : Int32) : Option (Int32 × Int32 × (Nat → Int32) × Int32 × Int32) := gd (inb x6 3) ((K87 c0_hours c0_first (upd c0_where (x6).toNatClampNeg (s0 &&& x5)) c1_cell c1_way x4 x5 (x6 + (1 : Int32))))
def fX4_seek_L87 (c1_force : Int32) (x2 : Int32) (x3 : Int32) (K55 : (Int32 → Int32 → (Nat → Int32) → Int32 → Int32 → Int32 → Option (Int32 × Int32 × (Nat → Int32) × Int32 × Int32))) : Nat → Int32 → Int32 → (Nat → Int32) → Int32 → Int32 → Int32 → Int32 → Int32 → Option (Int32 × Int32 × (Nat → Int32) × Int32 × Int32)
  | 0, _, _, _, _, _, _, _, _ => none
  | n + 1, c0_hours, c0_first, c0_where, c1_cell, c1_way, x4, x5, x6 => (if (3 : Int32) ≤ x6 then Option.bind (fX4_lookFor c0_hours c0_first c0_where x3 x4) (fun v3 => (K55 v3.1 v3.2 c0_where c1_cell c1_way (x4 + (1 : Int32)))) else (if x4 = (1 : Int32) then gd (inb x6 3) ((fX4_seek_b119 c1_force x2 x3 K55 (fX4_seek_L87 c1_force x2 x3 K55 n) c0_hours c0_first c0_where c1_cell c1_way x4 x5 x6 (c0_where (x6).toNatClampNeg))) else gd (inb x6 3) (Option.bind (fX4_spread (c0_where (x6).toNatClampNeg)) (fun v6 => (fX4_seek_b119 c1_force x2 x3 K55 (fX4_seek_L87 c1_force x2 x3 K55 n) c0_hours c0_first c0_where c1_cell c1_way x4 x5 x6 v6)))))
def fX4_seek_L55 (c1_force : Int32) (x2 : Int32) (x3 : Int32)  : Nat → Int32 → Int32 → (Nat → Int32) → Int32 → Int32 → Int32 → Option (Int32 × Int32 × (Nat → Int32) × Int32 × Int32)
  | 0, _, _, _, _, _, _ => none
  | n + 1, c0_hours, c0_first, c0_where, c1_cell, c1_way, x4 => (if (288 : Int32) < x4 then (fX4_seek_b152 c1_force x2 x3  c0_hours c0_first c0_where c1_cell c1_way) else (if c0_hours = (-6 : Int32) then Option.bind (fX10_blowAnHour c1_cell c1_way c1_force) (fun v10 => (fX4_seek_L87 c1_force x2 x3 (fX4_seek_L55 c1_force x2 x3  n) zF c0_hours c0_first c0_where v10.2.1 v10.2.2 x4 ((4095 : Int32) &&& (v10.1 ^^^ (-1 : Int32))) (0 : Int32))) else (fX4_seek_b152 c1_force x2 x3  c0_hours c0_first c0_where c1_cell c1_way)))
def fX4_seek_b12 (c1_force : Int32) (x2 : Int32) (x3 : Int32)  (c0_hours : Int32) (c0_first : Int32) (c0_where : Nat → Int32) (c1_cell : Int32) (c1_way : Int32) (s1 : Int32) : Option (Int32 × Int32 × (Nat → Int32) × Int32 × Int32) := gd (inb (0 : Int32) 3) (gd (inb (1 : Int32) 3) (gd (inb (2 : Int32) 3) ((fX4_seek_L55 c1_force x2 x3  zF s1 (-6 : Int32) (upd (upd (upd c0_where ((0 : Int32)).toNatClampNeg (sl (1 : Int32) x2)) ((1 : Int32)).toNatClampNeg (sl (1 : Int32) (x2 + (1 : Int32)))) ((2 : Int32)).toNatClampNeg (sr (sl (1 : Int32) x2) (1 : Int32))) c1_cell c1_way (1 : Int32)))))
def fX4_seek (c0_hours : Int32) (c0_first : Int32) (c0_where : Nat → Int32) (c1_cell : Int32) (c1_way : Int32) (c1_force : Int32) (x2 : Int32) (x3 : Int32) : Option (Int32 × Int32 × (Nat → Int32) × Int32 × Int32) := (if x2 = x3 then (fX4_seek_b12 c1_force x2 x3  c0_hours c0_first c0_where c1_cell c1_way (0 : Int32)) else (fX4_seek_b12 c1_force x2 x3  c0_hours c0_first c0_where c1_cell c1_way (-6 : Int32)))
abbrev rmX4_seek : Room := { frames := 3, cells := 0, slots := 0, locals := 62 }
set_option maxRecDepth 100000 in
set_option maxHeartbeats 4000000 in
theorem ctX4_seek (l : Launch) (G : zG) (a0 a0_where a1 : Nat) (c0_hours : Int32) (c0_first : Int32) (c0_where : Nat → Int32) (c1_cell : Int32) (c1_way : Int32) (c1_force : Int32) (x2 : Int32) (x3 : Int32) {R : Int32 × Int32 × (Nat → Int32) × Int32 × Int32} (hf : fX4_seek c0_hours c0_first c0_where c1_cell c1_way c1_force x2 x3 = some R) : zCt l yX4_seek wsX4_seek rmX4_seek G [(a0, .inr (4, [.ref a0_where, .int c0_hours, .int c0_first])), (a0_where, .inl (G.2.1, 3, .inl c0_where)), (a1, .inr (10, [.int c1_cell, .int c1_way, .int c1_force]))] [.ref a0, .ref a1, .int x2, .int x3] (fun v w => v = none ∧ w = [(a0, .inr (4, [.ref a0_where, .int (R.1), .int (R.2.1)])), (a0_where, .inl (G.2.1, 3, .inl (R.2.2.1))), (a1, .inr (10, [.int (R.2.2.2.1), .int (R.2.2.2.2), .int c1_force]))]) := by
  refine zMkV (own := RX4) false (by decide) (by decide +kernel) rfl rfl (Nat.le_of_ble_eq_true rfl) ?_
  intro Z h hret
  have hB152 : ∀ (c0_hours : Int32) (c0_first : Int32) (c0_where : Nat → Int32) (c1_cell : Int32) (c1_way : Int32), fX4_seek_b152 c1_force x2 x3  c0_hours c0_first c0_where c1_cell c1_way = some R → Z 0 0 [(a0, .inr (4, [.ref a0_where, .int c0_hours, .int c0_first])), (a0_where, .inl (G.2.1, 3, .inl c0_where)), (a1, .inr (10, [.int c1_cell, .int c1_way, .int c1_force]))] [] 152 [] := by
    intro c0_hours c0_first c0_where c1_cell c1_way hf
    rw [fX4_seek_b152] at hf
    have hf := Option.some.inj hf
    subst hf
    exact hret _ _ _ dX4_seek_152 ⟨rfl, rfl⟩
  have hL55 : ∀ (n55 : Nat) (c0_hours : Int32) (c0_first : Int32) (c0_where : Nat → Int32) (c1_cell : Int32) (c1_way : Int32) (x4 : Int32), fX4_seek_L55 c1_force x2 x3  n55 c0_hours c0_first c0_where c1_cell c1_way x4 = some R → Z 0 0 [(a0, .inr (4, [.ref a0_where, .int c0_hours, .int c0_first])), (a0_where, .inl (G.2.1, 3, .inl c0_where)), (a1, .inr (10, [.int c1_cell, .int c1_way, .int c1_force]))] [(0, .ref a0), (1, .ref a1), (3, .int x3), (4, .int x4)] 55 [] := by
    intro n55
    induction n55 with
    | zero =>
      intro c0_hours c0_first c0_where c1_cell c1_way x4 hf
      rw [fX4_seek_L55] at hf
      cases hf
    | succ n55 ih55 =>
      have hL87 : ∀ (n87 : Nat) (c0_hours : Int32) (c0_first : Int32) (c0_where : Nat → Int32) (c1_cell : Int32) (c1_way : Int32) (x4 : Int32) (x5 : Int32) (x6 : Int32), fX4_seek_L87 c1_force x2 x3 (fX4_seek_L55 c1_force x2 x3  n55) n87 c0_hours c0_first c0_where c1_cell c1_way x4 x5 x6 = some R → Z 0 0 [(a0, .inr (4, [.ref a0_where, .int c0_hours, .int c0_first])), (a0_where, .inl (G.2.1, 3, .inl c0_where)), (a1, .inr (10, [.int c1_cell, .int c1_way, .int c1_force]))] [(0, .ref a0), (1, .ref a1), (3, .int x3), (4, .int x4), (5, .int x5), (6, .int x6)] 87 [] := by
        intro n87
        induction n87 with
        | zero =>
          intro c0_hours c0_first c0_where c1_cell c1_way x4 x5 x6 hf
          rw [fX4_seek_L87] at hf
          cases hf
        | succ n87 ih87 =>
          have hB119 : ∀ (c0_hours : Int32) (c0_first : Int32) (c0_where : Nat → Int32) (c1_cell : Int32) (c1_way : Int32) (x4 : Int32) (x5 : Int32) (x6 : Int32) (s0 : Int32), fX4_seek_b119 c1_force x2 x3 (fX4_seek_L55 c1_force x2 x3  n55) (fX4_seek_L87 c1_force x2 x3 (fX4_seek_L55 c1_force x2 x3  n55) n87) c0_hours c0_first c0_where c1_cell c1_way x4 x5 x6 s0 = some R → Z 0 0 [(a0, .inr (4, [.ref a0_where, .int c0_hours, .int c0_first])), (a0_where, .inl (G.2.1, 3, .inl c0_where)), (a1, .inr (10, [.int c1_cell, .int c1_way, .int c1_force]))] [(0, .ref a0), (1, .ref a1), (3, .int x3), (4, .int x4), (5, .int x5), (6, .int x6)] 119 [.int s0] := by
            intro c0_hours c0_first c0_where c1_cell c1_way x4 x5 x6 s0 hf
            rw [fX4_seek_b119] at hf
            refine z_istore h (lv2 := [(7, .int s0), (0, .ref a0), (1, .ref a1), (3, .int x3), (4, .int x4), (5, .int x5), (6, .int x6)]) dX4_seek_119 (by decide) rfl rfl ?_
            refine z_aload_n h dX4_seek_121 1 rfl rfl ?_
            refine z_get h (C := RX4) (T := TX4) (N := 3) (v := .ref a0_where) 0 rfl rfl 0 (by decide) (by decide +kernel) (by decide +kernel) rfl dX4_seek_122 rfl ?_
            refine z_iload h dX4_seek_125 6 rfl rfl ?_
            refine z_iload h dX4_seek_127 0 rfl rfl ?_
            refine z_iload h dX4_seek_129 5 rfl rfl ?_
            refine z_iand h dX4_seek_131 rfl ?_
            obtain ⟨hg1, hf⟩ := gd_some hf
            refine z_iast h (w2 := [(a0, .inr (4, [.ref a0_where, .int c0_hours, .int c0_first])), (a0_where, .inl (G.2.1, 3, .inl (upd c0_where (x6).toNatClampNeg (s0 &&& x5)))), (a1, .inr (10, [.int c1_cell, .int c1_way, .int c1_force]))]) 1 rfl rfl hg1 dX4_seek_132 rfl rfl ?_
            refine z_iinc h (v := (x6 + (1 : Int32))) (lv2 := [(6, .int (x6 + (1 : Int32))), (7, .int s0), (0, .ref a0), (1, .ref a1), (3, .int x3), (4, .int x4), (5, .int x5)]) (j := 6) dX4_seek_133 rfl rfl (by decide) rfl rfl ?_
            refine z_goto h (tgt := 87) dX4_seek_136 (by decide) ?_
            refine z_locs h (lv2 := [(0, .ref a0), (1, .ref a1), (3, .int x3), (4, .int x4), (5, .int x5), (6, .int (x6 + (1 : Int32)))]) [2, 3, 4, 5, 6, 0] rfl ?_
            exact ih87 c0_hours c0_first (upd c0_where (x6).toNatClampNeg (s0 &&& x5)) c1_cell c1_way x4 x5 (x6 + (1 : Int32)) hf
          intro c0_hours c0_first c0_where c1_cell c1_way x4 x5 x6 hf
          rw [fX4_seek_L87] at hf
          refine z_iload h dX4_seek_87 5 rfl rfl ?_
          refine z_iconst h (v := (3 : Int32)) dX4_seek_89 (by decide) rfl ?_
          refine z_icmp_ge h (tgt := 139) dX4_seek_90 (by decide) rfl (fun c2 => ?_) (fun c2 => ?_)
          · have hf := ite_t hf c2
            refine z_aload_n h dX4_seek_139 0 rfl rfl ?_
            refine z_iload_n h dX4_seek_140 2 rfl rfl ?_
            refine z_iload h dX4_seek_141 3 rfl rfl ?_
            obtain ⟨v3, hv3, hf⟩ := bd_some hf
            refine z_callV h (np := 2) (st := []) (wr := [(a1, .inr (10, [.int c1_cell, .int c1_way, .int c1_force]))]) [.int x3, .int x4] (ctX4_lookFor l G a0 a0_where c0_hours c0_first c0_where x3 x4 hv3) gX4_seek_X4_lookFor (by decide +kernel) 0 rfl rfl rfl ⟨Nat.le_of_ble_eq_true rfl, Nat.le_of_ble_eq_true rfl⟩ ⟨Nat.le_refl _, Nat.le_refl _⟩ rfl rfl rfl [0, 1] [2] rfl rfl rfl rfl (by decide) (Nat.le_of_ble_eq_true rfl) dX4_seek_143 rfl rfl (fun rv3 wv3 hrv3 => ?_)
            obtain ⟨rfl, rfl⟩ := hrv3
            refine z_perm h (w2 := [(a0, .inr (4, [.ref a0_where, .int v3.1, .int v3.2])), (a0_where, .inl (G.2.1, 3, .inl c0_where)), (a1, .inr (10, [.int c1_cell, .int c1_way, .int c1_force]))]) (st := []) [1, 2, 0] rfl rfl ?_
            refine z_iinc h (v := (x4 + (1 : Int32))) (lv2 := [(4, .int (x4 + (1 : Int32))), (0, .ref a0), (1, .ref a1), (3, .int x3), (5, .int x5), (6, .int x6)]) (j := 3) dX4_seek_146 rfl rfl (by decide) rfl rfl ?_
            refine z_goto h (tgt := 55) dX4_seek_149 (by decide) ?_
            refine z_locs h (lv2 := [(0, .ref a0), (1, .ref a1), (3, .int x3), (4, .int (x4 + (1 : Int32)))]) [1, 2, 3, 0] rfl ?_
            exact ih55 v3.1 v3.2 c0_where c1_cell c1_way (x4 + (1 : Int32)) hf
          have hf := ite_f hf c2
          refine z_iload h dX4_seek_93 3 rfl rfl ?_
          refine z_iconst h (v := (1 : Int32)) dX4_seek_95 (by decide) rfl ?_
          refine z_icmp_ne h (tgt := 109) dX4_seek_96 (by decide) rfl (fun c4 => ?_) (fun c4 => ?_)
          · have hf := ite_f hf c4
            refine z_aload_n h dX4_seek_109 0 rfl rfl ?_
            refine z_get h (C := RX4) (T := TX4) (N := 3) (v := .ref a0_where) 0 rfl rfl 0 (by decide) (by decide +kernel) (by decide +kernel) rfl dX4_seek_110 rfl ?_
            refine z_iload h dX4_seek_113 5 rfl rfl ?_
            obtain ⟨hg5, hf⟩ := gd_some hf
            refine z_iald h 1 rfl rfl hg5 dX4_seek_115 rfl ?_
            obtain ⟨v6, hv6, hf⟩ := bd_some hf
            refine z_callS h (np := 1) (st := []) (wr := [(a0, .inr (4, [.ref a0_where, .int c0_hours, .int c0_first])), (a0_where, .inl (G.2.1, 3, .inl c0_where)), (a1, .inr (10, [.int c1_cell, .int c1_way, .int c1_force]))]) [.int (c0_where (x6).toNatClampNeg)] (ctX4_spread l G (c0_where (x6).toNatClampNeg) hv6) gX4_seek_X4_spread (by decide +kernel) rfl ⟨Nat.le_of_ble_eq_true rfl, Nat.le_of_ble_eq_true rfl⟩ ⟨Nat.le_refl _, Nat.le_refl _⟩ rfl rfl rfl [] [0, 1, 2] rfl rfl rfl rfl (by decide) (Nat.le_of_ble_eq_true rfl) dX4_seek_116 rfl rfl (fun rv6 wv6 hrv6 => ?_)
            obtain ⟨rfl, rfl⟩ := hrv6
            refine z_perm h (w2 := [(a0, .inr (4, [.ref a0_where, .int c0_hours, .int c0_first])), (a0_where, .inl (G.2.1, 3, .inl c0_where)), (a1, .inr (10, [.int c1_cell, .int c1_way, .int c1_force]))]) (st := [.int v6]) [0, 1, 2] rfl rfl ?_
            exact hB119 c0_hours c0_first c0_where c1_cell c1_way x4 x5 x6 v6 hf
          have hf := ite_t hf c4
          refine z_aload_n h dX4_seek_99 0 rfl rfl ?_
          refine z_get h (C := RX4) (T := TX4) (N := 3) (v := .ref a0_where) 0 rfl rfl 0 (by decide) (by decide +kernel) (by decide +kernel) rfl dX4_seek_100 rfl ?_
          refine z_iload h dX4_seek_103 5 rfl rfl ?_
          obtain ⟨hg7, hf⟩ := gd_some hf
          refine z_iald h 1 rfl rfl hg7 dX4_seek_105 rfl ?_
          refine z_goto h (tgt := 119) dX4_seek_106 (by decide) ?_
          exact hB119 c0_hours c0_first c0_where c1_cell c1_way x4 x5 x6 (c0_where (x6).toNatClampNeg) hf
      intro c0_hours c0_first c0_where c1_cell c1_way x4 hf
      rw [fX4_seek_L55] at hf
      refine z_iload h dX4_seek_55 3 rfl rfl ?_
      refine z_sipush h (v := (288 : Int32)) dX4_seek_57 (by decide) rfl ?_
      refine z_icmp_gt h (tgt := 152) dX4_seek_60 (by decide) rfl (fun c8 => ?_) (fun c8 => ?_)
      · have hf := ite_t hf c8
        refine z_locs h (lv2 := []) [] rfl ?_
        exact hB152 c0_hours c0_first c0_where c1_cell c1_way hf
      have hf := ite_f hf c8
      refine z_aload_n h dX4_seek_63 0 rfl rfl ?_
      refine z_get h (C := RX4) (T := TX4) (N := 3) (v := .int c0_hours) 0 rfl rfl 1 (by decide) (by decide +kernel) (by decide +kernel) rfl dX4_seek_64 rfl ?_
      refine z_bipush h (v := (-6 : Int32)) dX4_seek_67 (by decide) rfl ?_
      refine z_icmp_ne h (tgt := 152) dX4_seek_69 (by decide) rfl (fun c9 => ?_) (fun c9 => ?_)
      · have hf := ite_f hf c9
        refine z_locs h (lv2 := []) [] rfl ?_
        exact hB152 c0_hours c0_first c0_where c1_cell c1_way hf
      have hf := ite_t hf c9
      refine z_sipush h (v := (4095 : Int32)) dX4_seek_72 (by decide) rfl ?_
      refine z_aload_n h dX4_seek_75 1 rfl rfl ?_
      obtain ⟨v10, hv10, hf⟩ := bd_some hf
      refine z_callV h (np := 0) (st := [.int (4095 : Int32)]) (wr := [(a0, .inr (4, [.ref a0_where, .int c0_hours, .int c0_first])), (a0_where, .inl (G.2.1, 3, .inl c0_where))]) [] (ctX10_blowAnHour l G a1 c1_cell c1_way c1_force hv10) gX4_seek_X10_blowAnHour (by decide +kernel) 0 rfl rfl rfl ⟨Nat.le_of_ble_eq_true rfl, Nat.le_of_ble_eq_true rfl⟩ ⟨Nat.le_refl _, Nat.le_refl _⟩ rfl rfl rfl [2] [0, 1] rfl rfl rfl rfl (by decide) (Nat.le_of_ble_eq_true rfl) dX4_seek_76 rfl rfl (fun rv10 wv10 hrv10 => ?_)
      obtain ⟨rfl, rfl⟩ := hrv10
      refine z_perm h (w2 := [(a0, .inr (4, [.ref a0_where, .int c0_hours, .int c0_first])), (a0_where, .inl (G.2.1, 3, .inl c0_where)), (a1, .inr (10, [.int v10.2.1, .int v10.2.2, .int c1_force]))]) (st := [.int v10.1, .int (4095 : Int32)]) [0, 1, 2] rfl rfl ?_
      refine z_iconst h (v := (-1 : Int32)) dX4_seek_79 (by decide) rfl ?_
      refine z_ixor h dX4_seek_80 rfl ?_
      refine z_iand h dX4_seek_81 rfl ?_
      refine z_istore h (lv2 := [(5, .int ((4095 : Int32) &&& (v10.1 ^^^ (-1 : Int32)))), (0, .ref a0), (1, .ref a1), (3, .int x3), (4, .int x4)]) dX4_seek_82 (by decide) rfl rfl ?_
      refine z_iconst h (v := (0 : Int32)) dX4_seek_84 (by decide) rfl ?_
      refine z_istore h (lv2 := [(6, .int (0 : Int32)), (5, .int ((4095 : Int32) &&& (v10.1 ^^^ (-1 : Int32)))), (0, .ref a0), (1, .ref a1), (3, .int x3), (4, .int x4)]) dX4_seek_85 (by decide) rfl rfl ?_
      refine z_locs h (lv2 := [(0, .ref a0), (1, .ref a1), (3, .int x3), (4, .int x4), (5, .int ((4095 : Int32) &&& (v10.1 ^^^ (-1 : Int32)))), (6, .int (0 : Int32))]) [2, 3, 4, 5, 1, 0] rfl ?_
      exact hL87 zF c0_hours c0_first c0_where v10.2.1 v10.2.2 x4 ((4095 : Int32) &&& (v10.1 ^^^ (-1 : Int32))) (0 : Int32) hf
  have hB12 : ∀ (c0_hours : Int32) (c0_first : Int32) (c0_where : Nat → Int32) (c1_cell : Int32) (c1_way : Int32) (s1 : Int32), fX4_seek_b12 c1_force x2 x3  c0_hours c0_first c0_where c1_cell c1_way s1 = some R → Z 0 0 [(a0, .inr (4, [.ref a0_where, .int c0_hours, .int c0_first])), (a0_where, .inl (G.2.1, 3, .inl c0_where)), (a1, .inr (10, [.int c1_cell, .int c1_way, .int c1_force]))] [(0, .ref a0), (1, .ref a1), (2, .int x2), (3, .int x3)] 12 [.int s1, .ref a0] := by
    intro c0_hours c0_first c0_where c1_cell c1_way s1 hf
    rw [fX4_seek_b12] at hf
    refine z_put h (C := RX4) (T := TX4) (N := 3) 0 rfl rfl 1 (by decide) (by decide +kernel) (by decide +kernel) tyX4 tyX4_ok nmX4 (w2 := [(a0, .inr (4, [.ref a0_where, .int s1, .int c0_first])), (a0_where, .inl (G.2.1, 3, .inl c0_where)), (a1, .inr (10, [.int c1_cell, .int c1_way, .int c1_force]))]) rfl rfl rfl (Nat.le_of_ble_eq_true rfl) rfl dX4_seek_12 rfl ?_
    refine z_aload_n h dX4_seek_15 0 rfl rfl ?_
    refine z_bipush h (v := (-6 : Int32)) dX4_seek_16 (by decide) rfl ?_
    refine z_put h (C := RX4) (T := TX4) (N := 3) 0 rfl rfl 2 (by decide) (by decide +kernel) (by decide +kernel) tyX4 tyX4_ok nmX4 (w2 := [(a0, .inr (4, [.ref a0_where, .int s1, .int (-6 : Int32)])), (a0_where, .inl (G.2.1, 3, .inl c0_where)), (a1, .inr (10, [.int c1_cell, .int c1_way, .int c1_force]))]) rfl rfl rfl (Nat.le_of_ble_eq_true rfl) rfl dX4_seek_18 rfl ?_
    refine z_aload_n h dX4_seek_21 0 rfl rfl ?_
    refine z_get h (C := RX4) (T := TX4) (N := 3) (v := .ref a0_where) 0 rfl rfl 0 (by decide) (by decide +kernel) (by decide +kernel) rfl dX4_seek_22 rfl ?_
    refine z_iconst h (v := (0 : Int32)) dX4_seek_25 (by decide) rfl ?_
    refine z_iconst h (v := (1 : Int32)) dX4_seek_26 (by decide) rfl ?_
    refine z_iload_n h dX4_seek_27 2 rfl rfl ?_
    refine z_ishl h dX4_seek_28 rfl ?_
    obtain ⟨hg11, hf⟩ := gd_some hf
    refine z_iast h (w2 := [(a0, .inr (4, [.ref a0_where, .int s1, .int (-6 : Int32)])), (a0_where, .inl (G.2.1, 3, .inl (upd c0_where ((0 : Int32)).toNatClampNeg (sl (1 : Int32) x2)))), (a1, .inr (10, [.int c1_cell, .int c1_way, .int c1_force]))]) 1 rfl rfl hg11 dX4_seek_29 rfl rfl ?_
    refine z_aload_n h dX4_seek_30 0 rfl rfl ?_
    refine z_get h (C := RX4) (T := TX4) (N := 3) (v := .ref a0_where) 0 rfl rfl 0 (by decide) (by decide +kernel) (by decide +kernel) rfl dX4_seek_31 rfl ?_
    refine z_iconst h (v := (1 : Int32)) dX4_seek_34 (by decide) rfl ?_
    refine z_iconst h (v := (1 : Int32)) dX4_seek_35 (by decide) rfl ?_
    refine z_iload_n h dX4_seek_36 2 rfl rfl ?_
    refine z_iconst h (v := (1 : Int32)) dX4_seek_37 (by decide) rfl ?_
    refine z_iadd h dX4_seek_38 rfl ?_
    refine z_ishl h dX4_seek_39 rfl ?_
    obtain ⟨hg12, hf⟩ := gd_some hf
    refine z_iast h (w2 := [(a0, .inr (4, [.ref a0_where, .int s1, .int (-6 : Int32)])), (a0_where, .inl (G.2.1, 3, .inl (upd (upd c0_where ((0 : Int32)).toNatClampNeg (sl (1 : Int32) x2)) ((1 : Int32)).toNatClampNeg (sl (1 : Int32) (x2 + (1 : Int32)))))), (a1, .inr (10, [.int c1_cell, .int c1_way, .int c1_force]))]) 1 rfl rfl hg12 dX4_seek_40 rfl rfl ?_
    refine z_aload_n h dX4_seek_41 0 rfl rfl ?_
    refine z_get h (C := RX4) (T := TX4) (N := 3) (v := .ref a0_where) 0 rfl rfl 0 (by decide) (by decide +kernel) (by decide +kernel) rfl dX4_seek_42 rfl ?_
    refine z_iconst h (v := (2 : Int32)) dX4_seek_45 (by decide) rfl ?_
    refine z_iconst h (v := (1 : Int32)) dX4_seek_46 (by decide) rfl ?_
    refine z_iload_n h dX4_seek_47 2 rfl rfl ?_
    refine z_ishl h dX4_seek_48 rfl ?_
    refine z_iconst h (v := (1 : Int32)) dX4_seek_49 (by decide) rfl ?_
    refine z_ishr h dX4_seek_50 rfl ?_
    obtain ⟨hg13, hf⟩ := gd_some hf
    refine z_iast h (w2 := [(a0, .inr (4, [.ref a0_where, .int s1, .int (-6 : Int32)])), (a0_where, .inl (G.2.1, 3, .inl (upd (upd (upd c0_where ((0 : Int32)).toNatClampNeg (sl (1 : Int32) x2)) ((1 : Int32)).toNatClampNeg (sl (1 : Int32) (x2 + (1 : Int32)))) ((2 : Int32)).toNatClampNeg (sr (sl (1 : Int32) x2) (1 : Int32))))), (a1, .inr (10, [.int c1_cell, .int c1_way, .int c1_force]))]) 1 rfl rfl hg13 dX4_seek_51 rfl rfl ?_
    refine z_iconst h (v := (1 : Int32)) dX4_seek_52 (by decide) rfl ?_
    refine z_istore h (lv2 := [(4, .int (1 : Int32)), (0, .ref a0), (1, .ref a1), (2, .int x2), (3, .int x3)]) dX4_seek_53 (by decide) rfl rfl ?_
    refine z_locs h (lv2 := [(0, .ref a0), (1, .ref a1), (3, .int x3), (4, .int (1 : Int32))]) [1, 2, 4, 0] rfl ?_
    exact hL55 zF s1 (-6 : Int32) (upd (upd (upd c0_where ((0 : Int32)).toNatClampNeg (sl (1 : Int32) x2)) ((1 : Int32)).toNatClampNeg (sl (1 : Int32) (x2 + (1 : Int32)))) ((2 : Int32)).toNatClampNeg (sr (sl (1 : Int32) x2) (1 : Int32))) c1_cell c1_way (1 : Int32) hf
  rw [fX4_seek] at hf
  show Z 0 0 _ [(0, .ref a0), (1, .ref a1), (2, .int x2), (3, .int x3)] 0 []
  refine z_aload_n h dX4_seek_0 0 rfl rfl ?_
  refine z_iload_n h dX4_seek_1 2 rfl rfl ?_
  refine z_iload_n h dX4_seek_2 3 rfl rfl ?_
  refine z_icmp_ne h (tgt := 10) dX4_seek_3 (by decide) rfl (fun c14 => ?_) (fun c14 => ?_)
  · have hf := ite_f hf c14
    refine z_bipush h (v := (-6 : Int32)) dX4_seek_10 (by decide) rfl ?_
    exact hB12 c0_hours c0_first c0_where c1_cell c1_way (-6 : Int32) hf
  have hf := ite_t hf c14
  refine z_iconst h (v := (0 : Int32)) dX4_seek_6 (by decide) rfl ?_
  refine z_goto h (tgt := 12) dX4_seek_7 (by decide) ?_
  exact hB12 c0_hours c0_first c0_where c1_cell c1_way (0 : Int32) hf
def fX7_clear (c0_count : Int32) (c0_fitting : Int64)  : Option (Int32 × Int64) := (some ((0 : Int32), (-1 : Int64)))
abbrev rmX7_clear : Room := { frames := 0, cells := 0, slots := 0, locals := 0 }
set_option maxRecDepth 100000 in
set_option maxHeartbeats 4000000 in
theorem ctX7_clear (l : Launch) (G : zG) (a0 a0_tally : Nat) (c0_count : Int32) (c0_fitting : Int64) (c0_bestTrial : Int32) (c0_mostLeft : Int32)  {R : Int32 × Int64} (hf : fX7_clear c0_count c0_fitting = some R) : zCt l yX7_clear wsX7_clear rmX7_clear G [(a0, .inr (7, [.ref a0_tally, .int c0_count, .long c0_fitting, .int c0_bestTrial, .int c0_mostLeft]))] [.ref a0] (fun v w => v = none ∧ w = [(a0, .inr (7, [.ref a0_tally, .int (R.1), .long (R.2), .int c0_bestTrial, .int c0_mostLeft]))]) := by
  refine zMkV (own := RX7) false (by decide) (by decide +kernel) rfl rfl (Nat.le_of_ble_eq_true rfl) ?_
  intro Z h hret
  rw [fX7_clear] at hf
  show Z 0 0 _ [(0, .ref a0)] 0 []
  refine z_aload_n h dX7_clear_0 0 rfl rfl ?_
  refine z_iconst h (v := (0 : Int32)) dX7_clear_1 (by decide) rfl ?_
  refine z_put h (C := RX7) (T := TX7) (N := 5) 0 rfl rfl 1 (by decide) (by decide +kernel) (by decide +kernel) tyX7 tyX7_ok nmX7 (w2 := [(a0, .inr (7, [.ref a0_tally, .int (0 : Int32), .long c0_fitting, .int c0_bestTrial, .int c0_mostLeft]))]) rfl rfl rfl (Nat.le_of_ble_eq_true rfl) rfl dX7_clear_2 rfl ?_
  refine z_aload_n h dX7_clear_5 0 rfl rfl ?_
  refine z_ldc2_w h (v := (-1 : Int64)) dX7_clear_6 (by decide +kernel) rfl ?_
  refine z_put h (C := RX7) (T := TX7) (N := 5) 0 rfl rfl 2 (by decide) (by decide +kernel) (by decide +kernel) tyX7 tyX7_ok nmX7 (w2 := [(a0, .inr (7, [.ref a0_tally, .int (0 : Int32), .long (-1 : Int64), .int c0_bestTrial, .int c0_mostLeft]))]) rfl rfl rfl (Nat.le_of_ble_eq_true rfl) rfl dX7_clear_9 rfl ?_
  have hf := Option.some.inj hf
  subst hf
  exact hret _ _ _ dX7_clear_12 ⟨rfl, rfl⟩
def fX7_become (c0_count : Int32) (c0_fitting : Int64) (c1_count : Int32) (c1_fitting : Int64)  : Option (Int32 × Int64) := (some (c1_count, c1_fitting))
abbrev rmX7_become : Room := { frames := 0, cells := 0, slots := 0, locals := 0 }
set_option maxRecDepth 100000 in
set_option maxHeartbeats 4000000 in
theorem ctX7_become (l : Launch) (G : zG) (a0 a0_tally a1 a1_tally : Nat) (c0_count : Int32) (c0_fitting : Int64) (c0_bestTrial : Int32) (c0_mostLeft : Int32) (c1_count : Int32) (c1_fitting : Int64) (c1_bestTrial : Int32) (c1_mostLeft : Int32)  {R : Int32 × Int64} (hf : fX7_become c0_count c0_fitting c1_count c1_fitting = some R) : zCt l yX7_become wsX7_become rmX7_become G [(a0, .inr (7, [.ref a0_tally, .int c0_count, .long c0_fitting, .int c0_bestTrial, .int c0_mostLeft])), (a1, .inr (7, [.ref a1_tally, .int c1_count, .long c1_fitting, .int c1_bestTrial, .int c1_mostLeft]))] [.ref a0, .ref a1] (fun v w => v = none ∧ w = [(a0, .inr (7, [.ref a0_tally, .int (R.1), .long (R.2), .int c0_bestTrial, .int c0_mostLeft])), (a1, .inr (7, [.ref a1_tally, .int c1_count, .long c1_fitting, .int c1_bestTrial, .int c1_mostLeft]))]) := by
  refine zMkV (own := RX7) false (by decide) (by decide +kernel) rfl rfl (Nat.le_of_ble_eq_true rfl) ?_
  intro Z h hret
  rw [fX7_become] at hf
  show Z 0 0 _ [(0, .ref a0), (1, .ref a1)] 0 []
  refine z_aload_n h dX7_become_0 0 rfl rfl ?_
  refine z_aload_n h dX7_become_1 1 rfl rfl ?_
  refine z_get h (C := RX7) (T := TX7) (N := 5) (v := .int c1_count) 1 rfl rfl 1 (by decide) (by decide +kernel) (by decide +kernel) rfl dX7_become_2 rfl ?_
  refine z_put h (C := RX7) (T := TX7) (N := 5) 0 rfl rfl 1 (by decide) (by decide +kernel) (by decide +kernel) tyX7 tyX7_ok nmX7 (w2 := [(a0, .inr (7, [.ref a0_tally, .int c1_count, .long c0_fitting, .int c0_bestTrial, .int c0_mostLeft])), (a1, .inr (7, [.ref a1_tally, .int c1_count, .long c1_fitting, .int c1_bestTrial, .int c1_mostLeft]))]) rfl rfl rfl (Nat.le_of_ble_eq_true rfl) rfl dX7_become_5 rfl ?_
  refine z_aload_n h dX7_become_8 0 rfl rfl ?_
  refine z_aload_n h dX7_become_9 1 rfl rfl ?_
  refine z_get h (C := RX7) (T := TX7) (N := 5) (v := .long c1_fitting) 1 rfl rfl 2 (by decide) (by decide +kernel) (by decide +kernel) rfl dX7_become_10 rfl ?_
  refine z_put h (C := RX7) (T := TX7) (N := 5) 0 rfl rfl 2 (by decide) (by decide +kernel) (by decide +kernel) tyX7 tyX7_ok nmX7 (w2 := [(a0, .inr (7, [.ref a0_tally, .int c1_count, .long c1_fitting, .int c0_bestTrial, .int c0_mostLeft])), (a1, .inr (7, [.ref a1_tally, .int c1_count, .long c1_fitting, .int c1_bestTrial, .int c1_mostLeft]))]) rfl rfl rfl (Nat.le_of_ble_eq_true rfl) rfl dX7_become_13 rfl ?_
  have hf := Option.some.inj hf
  subst hf
  exact hret _ _ _ dX7_become_16 ⟨rfl, rfl⟩
def fX7_fits_b18 (c0_fitting : Int64) (x1 : Int32)  (s0 : Int32) : Option (Int32) := gd (s0 == 0 || s0 == 1) ((some s0))
def fX7_fits (c0_fitting : Int64) (x1 : Int32) : Option (Int32) := (if (lg_cmp ((lsr c0_fitting x1) &&& (1 : Int64)) (0 : Int64)) = (0 : Int32) then (fX7_fits_b18 c0_fitting x1  (0 : Int32)) else (fX7_fits_b18 c0_fitting x1  (1 : Int32)))
abbrev rmX7_fits : Room := { frames := 0, cells := 0, slots := 0, locals := 0 }
set_option maxRecDepth 100000 in
set_option maxHeartbeats 4000000 in
theorem ctX7_fits (l : Launch) (G : zG) (a0 a0_tally : Nat) (c0_count : Int32) (c0_fitting : Int64) (c0_bestTrial : Int32) (c0_mostLeft : Int32) (x1 : Int32) {R : Int32} (hf : fX7_fits c0_fitting x1 = some R) : zCt l yX7_fits wsX7_fits rmX7_fits G [(a0, .inr (7, [.ref a0_tally, .int c0_count, .long c0_fitting, .int c0_bestTrial, .int c0_mostLeft]))] [.ref a0, .int x1] (fun v w => v = some (.int (R)) ∧ w = [(a0, .inr (7, [.ref a0_tally, .int c0_count, .long c0_fitting, .int c0_bestTrial, .int c0_mostLeft]))]) := by
  refine zMkB (own := RX7) false (by decide) (by decide +kernel) rfl rfl (Nat.le_of_ble_eq_true rfl) ?_
  intro Z h hret
  have hB18 : ∀ (s0 : Int32), fX7_fits_b18 c0_fitting x1  s0 = some R → Z 0 0 [(a0, .inr (7, [.ref a0_tally, .int c0_count, .long c0_fitting, .int c0_bestTrial, .int c0_mostLeft]))] [] 18 [.int s0] := by
    intro s0 hf
    rw [fX7_fits_b18] at hf
    obtain ⟨hg1, hf⟩ := gd_some hf
    have hf := Option.some.inj hf
    subst hf
    exact hret _ _ _ _ dX7_fits_18 hg1 ⟨rfl, rfl⟩
  rw [fX7_fits] at hf
  show Z 0 0 _ [(0, .ref a0), (1, .int x1)] 0 []
  refine z_aload_n h dX7_fits_0 0 rfl rfl ?_
  refine z_get h (C := RX7) (T := TX7) (N := 5) (v := .long c0_fitting) 0 rfl rfl 2 (by decide) (by decide +kernel) (by decide +kernel) rfl dX7_fits_1 rfl ?_
  refine z_iload_n h dX7_fits_4 1 rfl rfl ?_
  refine z_lshr h dX7_fits_5 rfl ?_
  refine z_lconst h (v := (1 : Int64)) dX7_fits_6 (by decide) rfl ?_
  refine z_land h dX7_fits_7 rfl ?_
  refine z_lconst h (v := (0 : Int64)) dX7_fits_8 (by decide) rfl ?_
  refine z_lcmp h dX7_fits_9 rfl ?_
  refine z_if_eq h (tgt := 17) dX7_fits_10 (by decide) rfl (fun c2 => ?_) (fun c2 => ?_)
  · have hf := ite_t hf c2
    refine z_iconst h (v := (0 : Int32)) dX7_fits_17 (by decide) rfl ?_
    refine z_locs h (lv2 := []) [] rfl ?_
    exact hB18 (0 : Int32) hf
  have hf := ite_f hf c2
  refine z_iconst h (v := (1 : Int32)) dX7_fits_13 (by decide) rfl ?_
  refine z_goto h (tgt := 18) dX7_fits_14 (by decide) ?_
  refine z_locs h (lv2 := []) [] rfl ?_
  exact hB18 (1 : Int32) hf
def fX7_worth  (x0 : Int32) (x1 : Int32) (x2 : Int32) (x3 : Int32) : Option (Int32) := (some ((((sr x0 (4 : Int32)) * x1) + (((sr x0 (2 : Int32)) &&& (3 : Int32)) * x2)) + ((x0 &&& (3 : Int32)) * x3)))
abbrev rmX7_worth : Room := { frames := 0, cells := 0, slots := 0, locals := 0 }
set_option maxRecDepth 100000 in
set_option maxHeartbeats 4000000 in
theorem ctX7_worth (l : Launch) (G : zG)  (x0 : Int32) (x1 : Int32) (x2 : Int32) (x3 : Int32) {R : Int32} (hf : fX7_worth x0 x1 x2 x3 = some R) : zCt l yX7_worth wsX7_worth rmX7_worth G [] [.int x0, .int x1, .int x2, .int x3] (fun v w => v = some (.int (R)) ∧ w = []) := by
  refine zMkI (own := RX7) false (by decide) (by decide +kernel) rfl rfl (Nat.le_of_ble_eq_true rfl) ?_
  intro Z h hret
  rw [fX7_worth] at hf
  show Z 0 0 _ [(0, .int x0), (1, .int x1), (2, .int x2), (3, .int x3)] 0 []
  refine z_iload_n h dX7_worth_0 0 rfl rfl ?_
  refine z_iconst h (v := (4 : Int32)) dX7_worth_1 (by decide) rfl ?_
  refine z_ishr h dX7_worth_2 rfl ?_
  refine z_iload_n h dX7_worth_3 1 rfl rfl ?_
  refine z_imul h dX7_worth_4 rfl ?_
  refine z_iload_n h dX7_worth_5 0 rfl rfl ?_
  refine z_iconst h (v := (2 : Int32)) dX7_worth_6 (by decide) rfl ?_
  refine z_ishr h dX7_worth_7 rfl ?_
  refine z_iconst h (v := (3 : Int32)) dX7_worth_8 (by decide) rfl ?_
  refine z_iand h dX7_worth_9 rfl ?_
  refine z_iload_n h dX7_worth_10 2 rfl rfl ?_
  refine z_imul h dX7_worth_11 rfl ?_
  refine z_iadd h dX7_worth_12 rfl ?_
  refine z_iload_n h dX7_worth_13 0 rfl rfl ?_
  refine z_iconst h (v := (3 : Int32)) dX7_worth_14 (by decide) rfl ?_
  refine z_iand h dX7_worth_15 rfl ?_
  refine z_iload_n h dX7_worth_16 3 rfl rfl ?_
  refine z_imul h dX7_worth_17 rfl ?_
  refine z_iadd h dX7_worth_18 rfl ?_
  have hf := Option.some.inj hf
  subst hf
  exact hret _ _ _ _ dX7_worth_19 ⟨rfl, rfl⟩
def fX7_add_b50 (x1 : Int32) (x2 : Int32) (x3 : Int32) (x4 : Int32) (x5 : Int32) (K3 : (Int32 → Int64 → Int32 → Option (Int32 × Int64))) (c0_count : Int32) (c0_fitting : Int64) (x6 : Int32) : Option (Int32 × Int64) := (K3 c0_count c0_fitting (x6 + (1 : Int32)))
def fX7_add_b28 (x1 : Int32) (x2 : Int32) (x3 : Int32) (x4 : Int32) (x5 : Int32) (K3 : (Int32 → Int64 → Int32 → Option (Int32 × Int64))) (c0_count : Int32) (c0_fitting : Int64) (x6 : Int32) (s0 : Int32) : Option (Int32 × Int64) := (if s0 = x5 then (fX7_add_b50 x1 x2 x3 x4 x5 K3 c0_count c0_fitting x6) else (fX7_add_b50 x1 x2 x3 x4 x5 K3 c0_count (c0_fitting &&& ((lsl (1 : Int64) x6) ^^^ (-1 : Int64))) x6))
def fX7_add_L3 (x1 : Int32) (x2 : Int32) (x3 : Int32) (x4 : Int32) (x5 : Int32)  : Nat → Int32 → Int64 → Int32 → Option (Int32 × Int64)
  | 0, _, _, _ => none
  | n + 1, c0_count, c0_fitting, x6 => (if (64 : Int32) ≤ x6 then (some ((c0_count + (1 : Int32)), c0_fitting)) else Option.bind (fX7_worth x6 x2 x3 x4) (fun v3 => (if v3 < x1 then (fX7_add_b28 x1 x2 x3 x4 x5 (fX7_add_L3 x1 x2 x3 x4 x5  n) c0_count c0_fitting x6 (0 : Int32)) else (fX7_add_b28 x1 x2 x3 x4 x5 (fX7_add_L3 x1 x2 x3 x4 x5  n) c0_count c0_fitting x6 (1 : Int32)))))
def fX7_add (c0_count : Int32) (c0_fitting : Int64) (x1 : Int32) (x2 : Int32) (x3 : Int32) (x4 : Int32) (x5 : Int32) : Option (Int32 × Int64) := (fX7_add_L3 x1 x2 x3 x4 x5  zF c0_count c0_fitting (0 : Int32))
abbrev rmX7_add : Room := { frames := 1, cells := 0, slots := 0, locals := 23 }
set_option maxRecDepth 100000 in
set_option maxHeartbeats 4000000 in
theorem ctX7_add (l : Launch) (G : zG) (a0 a0_tally : Nat) (c0_count : Int32) (c0_fitting : Int64) (c0_bestTrial : Int32) (c0_mostLeft : Int32) (x1 : Int32) (x2 : Int32) (x3 : Int32) (x4 : Int32) (x5 : Int32) {R : Int32 × Int64} (hf : fX7_add c0_count c0_fitting x1 x2 x3 x4 x5 = some R) : zCt l yX7_add wsX7_add rmX7_add G [(a0, .inr (7, [.ref a0_tally, .int c0_count, .long c0_fitting, .int c0_bestTrial, .int c0_mostLeft]))] [.ref a0, .int x1, .int x2, .int x3, .int x4, .int x5] (fun v w => v = none ∧ w = [(a0, .inr (7, [.ref a0_tally, .int (R.1), .long (R.2), .int c0_bestTrial, .int c0_mostLeft]))]) := by
  refine zMkV (own := RX7) false (by decide) (by decide +kernel) rfl rfl (Nat.le_of_ble_eq_true rfl) ?_
  intro Z h hret
  have hL3 : ∀ (n3 : Nat) (c0_count : Int32) (c0_fitting : Int64) (x6 : Int32), fX7_add_L3 x1 x2 x3 x4 x5  n3 c0_count c0_fitting x6 = some R → Z 0 0 [(a0, .inr (7, [.ref a0_tally, .int c0_count, .long c0_fitting, .int c0_bestTrial, .int c0_mostLeft]))] [(0, .ref a0), (1, .int x1), (2, .int x2), (3, .int x3), (4, .int x4), (5, .int x5), (6, .int x6)] 3 [] := by
    intro n3
    induction n3 with
    | zero =>
      intro c0_count c0_fitting x6 hf
      rw [fX7_add_L3] at hf
      cases hf
    | succ n3 ih3 =>
      have hB50 : ∀ (c0_count : Int32) (c0_fitting : Int64) (x6 : Int32), fX7_add_b50 x1 x2 x3 x4 x5 (fX7_add_L3 x1 x2 x3 x4 x5  n3) c0_count c0_fitting x6 = some R → Z 0 0 [(a0, .inr (7, [.ref a0_tally, .int c0_count, .long c0_fitting, .int c0_bestTrial, .int c0_mostLeft]))] [(0, .ref a0), (1, .int x1), (2, .int x2), (3, .int x3), (4, .int x4), (5, .int x5), (6, .int x6)] 50 [] := by
        intro c0_count c0_fitting x6 hf
        rw [fX7_add_b50] at hf
        refine z_iinc h (v := (x6 + (1 : Int32))) (lv2 := [(6, .int (x6 + (1 : Int32))), (0, .ref a0), (1, .int x1), (2, .int x2), (3, .int x3), (4, .int x4), (5, .int x5)]) (j := 6) dX7_add_50 rfl rfl (by decide) rfl rfl ?_
        refine z_goto h (tgt := 3) dX7_add_53 (by decide) ?_
        refine z_locs h (lv2 := [(0, .ref a0), (1, .int x1), (2, .int x2), (3, .int x3), (4, .int x4), (5, .int x5), (6, .int (x6 + (1 : Int32)))]) [1, 2, 3, 4, 5, 6, 0] rfl ?_
        exact ih3 c0_count c0_fitting (x6 + (1 : Int32)) hf
      have hB28 : ∀ (c0_count : Int32) (c0_fitting : Int64) (x6 : Int32) (s0 : Int32), fX7_add_b28 x1 x2 x3 x4 x5 (fX7_add_L3 x1 x2 x3 x4 x5  n3) c0_count c0_fitting x6 s0 = some R → Z 0 0 [(a0, .inr (7, [.ref a0_tally, .int c0_count, .long c0_fitting, .int c0_bestTrial, .int c0_mostLeft]))] [(0, .ref a0), (1, .int x1), (2, .int x2), (3, .int x3), (4, .int x4), (5, .int x5), (6, .int x6)] 28 [.int s0] := by
        intro c0_count c0_fitting x6 s0 hf
        rw [fX7_add_b28] at hf
        refine z_iload h dX7_add_28 5 rfl rfl ?_
        refine z_icmp_eq h (tgt := 50) dX7_add_30 (by decide) rfl (fun c1 => ?_) (fun c1 => ?_)
        · have hf := ite_t hf c1
          exact hB50 c0_count c0_fitting x6 hf
        have hf := ite_f hf c1
        refine z_aload_n h dX7_add_33 0 rfl rfl ?_
        refine z_dup h dX7_add_34 rfl rfl ?_
        refine z_get h (C := RX7) (T := TX7) (N := 5) (v := .long c0_fitting) 0 rfl rfl 2 (by decide) (by decide +kernel) (by decide +kernel) rfl dX7_add_35 rfl ?_
        refine z_lconst h (v := (1 : Int64)) dX7_add_38 (by decide) rfl ?_
        refine z_iload h dX7_add_39 6 rfl rfl ?_
        refine z_lshl h dX7_add_41 rfl ?_
        refine z_ldc2_w h (v := (-1 : Int64)) dX7_add_42 (by decide +kernel) rfl ?_
        refine z_lxor h dX7_add_45 rfl ?_
        refine z_land h dX7_add_46 rfl ?_
        refine z_put h (C := RX7) (T := TX7) (N := 5) 0 rfl rfl 2 (by decide) (by decide +kernel) (by decide +kernel) tyX7 tyX7_ok nmX7 (w2 := [(a0, .inr (7, [.ref a0_tally, .int c0_count, .long (c0_fitting &&& ((lsl (1 : Int64) x6) ^^^ (-1 : Int64))), .int c0_bestTrial, .int c0_mostLeft]))]) rfl rfl rfl (Nat.le_of_ble_eq_true rfl) rfl dX7_add_47 rfl ?_
        exact hB50 c0_count (c0_fitting &&& ((lsl (1 : Int64) x6) ^^^ (-1 : Int64))) x6 hf
      intro c0_count c0_fitting x6 hf
      rw [fX7_add_L3] at hf
      refine z_iload h dX7_add_3 6 rfl rfl ?_
      refine z_bipush h (v := (64 : Int32)) dX7_add_5 (by decide) rfl ?_
      refine z_icmp_ge h (tgt := 56) dX7_add_7 (by decide) rfl (fun c2 => ?_) (fun c2 => ?_)
      · have hf := ite_t hf c2
        refine z_aload_n h dX7_add_56 0 rfl rfl ?_
        refine z_dup h dX7_add_57 rfl rfl ?_
        refine z_get h (C := RX7) (T := TX7) (N := 5) (v := .int c0_count) 0 rfl rfl 1 (by decide) (by decide +kernel) (by decide +kernel) rfl dX7_add_58 rfl ?_
        refine z_iconst h (v := (1 : Int32)) dX7_add_61 (by decide) rfl ?_
        refine z_iadd h dX7_add_62 rfl ?_
        refine z_put h (C := RX7) (T := TX7) (N := 5) 0 rfl rfl 1 (by decide) (by decide +kernel) (by decide +kernel) tyX7 tyX7_ok nmX7 (w2 := [(a0, .inr (7, [.ref a0_tally, .int (c0_count + (1 : Int32)), .long c0_fitting, .int c0_bestTrial, .int c0_mostLeft]))]) rfl rfl rfl (Nat.le_of_ble_eq_true rfl) rfl dX7_add_63 rfl ?_
        have hf := Option.some.inj hf
        subst hf
        exact hret _ _ _ dX7_add_66 ⟨rfl, rfl⟩
      have hf := ite_f hf c2
      refine z_iload h dX7_add_10 6 rfl rfl ?_
      refine z_iload_n h dX7_add_12 2 rfl rfl ?_
      refine z_iload_n h dX7_add_13 3 rfl rfl ?_
      refine z_iload h dX7_add_14 4 rfl rfl ?_
      obtain ⟨v3, hv3, hf⟩ := bd_some hf
      refine z_callS h (np := 4) (st := []) (wr := [(a0, .inr (7, [.ref a0_tally, .int c0_count, .long c0_fitting, .int c0_bestTrial, .int c0_mostLeft]))]) [.int x6, .int x2, .int x3, .int x4] (ctX7_worth l G x6 x2 x3 x4 hv3) gX7_add_X7_worth (by decide +kernel) rfl ⟨Nat.le_of_ble_eq_true rfl, Nat.le_of_ble_eq_true rfl⟩ ⟨Nat.le_refl _, Nat.le_refl _⟩ rfl rfl rfl [] [0] rfl rfl rfl rfl (by decide) (Nat.le_of_ble_eq_true rfl) dX7_add_16 rfl rfl (fun rv3 wv3 hrv3 => ?_)
      obtain ⟨rfl, rfl⟩ := hrv3
      refine z_perm h (w2 := [(a0, .inr (7, [.ref a0_tally, .int c0_count, .long c0_fitting, .int c0_bestTrial, .int c0_mostLeft]))]) (st := [.int v3]) [0] rfl rfl ?_
      refine z_iload_n h dX7_add_19 1 rfl rfl ?_
      refine z_icmp_lt h (tgt := 27) dX7_add_20 (by decide) rfl (fun c4 => ?_) (fun c4 => ?_)
      · have hf := ite_t hf c4
        refine z_iconst h (v := (0 : Int32)) dX7_add_27 (by decide) rfl ?_
        exact hB28 c0_count c0_fitting x6 (0 : Int32) hf
      have hf := ite_f hf c4
      refine z_iconst h (v := (1 : Int32)) dX7_add_23 (by decide) rfl ?_
      refine z_goto h (tgt := 28) dX7_add_24 (by decide) ?_
      exact hB28 c0_count c0_fitting x6 (1 : Int32) hf
  rw [fX7_add] at hf
  show Z 0 0 _ [(0, .ref a0), (1, .int x1), (2, .int x2), (3, .int x3), (4, .int x4), (5, .int x5)] 0 []
  refine z_iconst h (v := (0 : Int32)) dX7_add_0 (by decide) rfl ?_
  refine z_istore h (lv2 := [(6, .int (0 : Int32)), (0, .ref a0), (1, .int x1), (2, .int x2), (3, .int x3), (4, .int x4), (5, .int x5)]) dX7_add_1 (by decide) rfl rfl ?_
  refine z_locs h (lv2 := [(0, .ref a0), (1, .int x1), (2, .int x2), (3, .int x3), (4, .int x4), (5, .int x5), (6, .int (0 : Int32))]) [1, 2, 3, 4, 5, 6, 0] rfl ?_
  exact hL3 zF c0_count c0_fitting (0 : Int32) hf
def fX7_fittingAt_b41 (c0_fitting : Int64) (x1 : Int32) (K4 : (Int32 → Int32 → Option (Int32))) (x2 : Int32) (x3 : Int32) : Option (Int32) := (K4 x2 (x3 + (1 : Int32)))
def fX7_fittingAt_L4 (c0_fitting : Int64) (x1 : Int32)  : Nat → Int32 → Int32 → Option (Int32)
  | 0, _, _ => none
  | n + 1, x2, x3 => (if (64 : Int32) ≤ x3 then (some (-6 : Int32)) else Option.bind (fX7_fits c0_fitting x3) (fun v2 => (if v2 = (0 : Int32) then (fX7_fittingAt_b41 c0_fitting x1 (fX7_fittingAt_L4 c0_fitting x1  n) x2 x3) else (if x2 = x1 then Option.bind (fX11_code (sr x3 (4 : Int32)) ((sr x3 (2 : Int32)) &&& (3 : Int32)) (x3 &&& (3 : Int32))) (fun v5 => (some v5)) else (fX7_fittingAt_b41 c0_fitting x1 (fX7_fittingAt_L4 c0_fitting x1  n) (x2 + (1 : Int32)) x3)))))
def fX7_fittingAt (c0_fitting : Int64) (x1 : Int32) : Option (Int32) := (fX7_fittingAt_L4 c0_fitting x1  zF (0 : Int32) (0 : Int32))
abbrev rmX7_fittingAt : Room := { frames := 1, cells := 0, slots := 0, locals := 22 }
set_option maxRecDepth 100000 in
set_option maxHeartbeats 4000000 in
theorem ctX7_fittingAt (l : Launch) (G : zG) (a0 a0_tally : Nat) (c0_count : Int32) (c0_fitting : Int64) (c0_bestTrial : Int32) (c0_mostLeft : Int32) (x1 : Int32) {R : Int32} (hf : fX7_fittingAt c0_fitting x1 = some R) : zCt l yX7_fittingAt wsX7_fittingAt rmX7_fittingAt G [(a0, .inr (7, [.ref a0_tally, .int c0_count, .long c0_fitting, .int c0_bestTrial, .int c0_mostLeft]))] [.ref a0, .int x1] (fun v w => v = some (.int (R)) ∧ w = [(a0, .inr (7, [.ref a0_tally, .int c0_count, .long c0_fitting, .int c0_bestTrial, .int c0_mostLeft]))]) := by
  refine zMkI (own := RX7) false (by decide) (by decide +kernel) rfl rfl (Nat.le_of_ble_eq_true rfl) ?_
  intro Z h hret
  have hL4 : ∀ (n4 : Nat) (x2 : Int32) (x3 : Int32), fX7_fittingAt_L4 c0_fitting x1  n4 x2 x3 = some R → Z 0 0 [(a0, .inr (7, [.ref a0_tally, .int c0_count, .long c0_fitting, .int c0_bestTrial, .int c0_mostLeft]))] [(0, .ref a0), (1, .int x1), (2, .int x2), (3, .int x3)] 4 [] := by
    intro n4
    induction n4 with
    | zero =>
      intro x2 x3 hf
      rw [fX7_fittingAt_L4] at hf
      cases hf
    | succ n4 ih4 =>
      have hB41 : ∀ (x2 : Int32) (x3 : Int32), fX7_fittingAt_b41 c0_fitting x1 (fX7_fittingAt_L4 c0_fitting x1  n4) x2 x3 = some R → Z 0 0 [(a0, .inr (7, [.ref a0_tally, .int c0_count, .long c0_fitting, .int c0_bestTrial, .int c0_mostLeft]))] [(0, .ref a0), (1, .int x1), (2, .int x2), (3, .int x3)] 41 [] := by
        intro x2 x3 hf
        rw [fX7_fittingAt_b41] at hf
        refine z_iinc h (v := (x3 + (1 : Int32))) (lv2 := [(3, .int (x3 + (1 : Int32))), (0, .ref a0), (1, .int x1), (2, .int x2)]) (j := 3) dX7_fittingAt_41 rfl rfl (by decide) rfl rfl ?_
        refine z_goto h (tgt := 4) dX7_fittingAt_44 (by decide) ?_
        refine z_locs h (lv2 := [(0, .ref a0), (1, .int x1), (2, .int x2), (3, .int (x3 + (1 : Int32)))]) [1, 2, 3, 0] rfl ?_
        exact ih4 x2 (x3 + (1 : Int32)) hf
      intro x2 x3 hf
      rw [fX7_fittingAt_L4] at hf
      refine z_iload_n h dX7_fittingAt_4 3 rfl rfl ?_
      refine z_bipush h (v := (64 : Int32)) dX7_fittingAt_5 (by decide) rfl ?_
      refine z_icmp_ge h (tgt := 47) dX7_fittingAt_7 (by decide) rfl (fun c1 => ?_) (fun c1 => ?_)
      · have hf := ite_t hf c1
        refine z_bipush h (v := (-6 : Int32)) dX7_fittingAt_47 (by decide) rfl ?_
        have hf := Option.some.inj hf
        subst hf
        exact hret _ _ _ _ dX7_fittingAt_49 ⟨rfl, rfl⟩
      have hf := ite_f hf c1
      refine z_aload_n h dX7_fittingAt_10 0 rfl rfl ?_
      refine z_iload_n h dX7_fittingAt_11 3 rfl rfl ?_
      obtain ⟨v2, hv2, hf⟩ := bd_some hf
      refine z_callV h (np := 1) (st := []) (wr := []) [.int x3] (ctX7_fits l G a0 a0_tally c0_count c0_fitting c0_bestTrial c0_mostLeft x3 hv2) gX7_fittingAt_X7_fits (by decide +kernel) 0 rfl rfl rfl ⟨Nat.le_of_ble_eq_true rfl, Nat.le_of_ble_eq_true rfl⟩ ⟨Nat.le_refl _, Nat.le_refl _⟩ rfl rfl rfl [0] [] rfl rfl rfl rfl (by decide) (Nat.le_of_ble_eq_true rfl) dX7_fittingAt_12 rfl rfl (fun rv2 wv2 hrv2 => ?_)
      obtain ⟨rfl, rfl⟩ := hrv2
      refine z_perm h (w2 := [(a0, .inr (7, [.ref a0_tally, .int c0_count, .long c0_fitting, .int c0_bestTrial, .int c0_mostLeft]))]) (st := [.int v2]) [0] rfl rfl ?_
      refine z_if_eq h (tgt := 41) dX7_fittingAt_15 (by decide) rfl (fun c3 => ?_) (fun c3 => ?_)
      · have hf := ite_t hf c3
        exact hB41 x2 x3 hf
      have hf := ite_f hf c3
      refine z_iload_n h dX7_fittingAt_18 2 rfl rfl ?_
      refine z_iload_n h dX7_fittingAt_19 1 rfl rfl ?_
      refine z_icmp_ne h (tgt := 38) dX7_fittingAt_20 (by decide) rfl (fun c4 => ?_) (fun c4 => ?_)
      · have hf := ite_f hf c4
        refine z_iinc h (v := (x2 + (1 : Int32))) (lv2 := [(2, .int (x2 + (1 : Int32))), (0, .ref a0), (1, .int x1), (3, .int x3)]) (j := 2) dX7_fittingAt_38 rfl rfl (by decide) rfl rfl ?_
        refine z_locs h (lv2 := [(0, .ref a0), (1, .int x1), (2, .int (x2 + (1 : Int32))), (3, .int x3)]) [1, 2, 0, 3] rfl ?_
        exact hB41 (x2 + (1 : Int32)) x3 hf
      have hf := ite_t hf c4
      refine z_iload_n h dX7_fittingAt_23 3 rfl rfl ?_
      refine z_iconst h (v := (4 : Int32)) dX7_fittingAt_24 (by decide) rfl ?_
      refine z_ishr h dX7_fittingAt_25 rfl ?_
      refine z_iload_n h dX7_fittingAt_26 3 rfl rfl ?_
      refine z_iconst h (v := (2 : Int32)) dX7_fittingAt_27 (by decide) rfl ?_
      refine z_ishr h dX7_fittingAt_28 rfl ?_
      refine z_iconst h (v := (3 : Int32)) dX7_fittingAt_29 (by decide) rfl ?_
      refine z_iand h dX7_fittingAt_30 rfl ?_
      refine z_iload_n h dX7_fittingAt_31 3 rfl rfl ?_
      refine z_iconst h (v := (3 : Int32)) dX7_fittingAt_32 (by decide) rfl ?_
      refine z_iand h dX7_fittingAt_33 rfl ?_
      obtain ⟨v5, hv5, hf⟩ := bd_some hf
      refine z_callSN h (np := 3) (st := []) (wr := [(a0, .inr (7, [.ref a0_tally, .int c0_count, .long c0_fitting, .int c0_bestTrial, .int c0_mostLeft]))]) [.int (sr x3 (4 : Int32)), .int ((sr x3 (2 : Int32)) &&& (3 : Int32)), .int (x3 &&& (3 : Int32))] (ctX11_code l G (sr x3 (4 : Int32)) ((sr x3 (2 : Int32)) &&& (3 : Int32)) (x3 &&& (3 : Int32)) hv5) gX7_fittingAt_X11_code_n33 (by decide +kernel) (by decide +kernel) (by decide +kernel) (by decide +kernel) rfl ⟨Nat.le_of_ble_eq_true rfl, Nat.le_of_ble_eq_true rfl⟩ ⟨Nat.le_refl _, Nat.le_refl _⟩ rfl rfl rfl [] [0] rfl rfl rfl rfl (by decide) (Nat.le_of_ble_eq_true rfl) dX7_fittingAt_34 rfl rfl (fun rv5 wv5 hrv5 => ?_)
      obtain ⟨rfl, rfl⟩ := hrv5
      refine z_perm h (w2 := [(a0, .inr (7, [.ref a0_tally, .int c0_count, .long c0_fitting, .int c0_bestTrial, .int c0_mostLeft]))]) (st := [.int v5]) [0] rfl rfl ?_
      have hf := Option.some.inj hf
      subst hf
      exact hret _ _ _ _ dX7_fittingAt_37 ⟨rfl, rfl⟩
  rw [fX7_fittingAt] at hf
  show Z 0 0 _ [(0, .ref a0), (1, .int x1)] 0 []
  refine z_iconst h (v := (0 : Int32)) dX7_fittingAt_0 (by decide) rfl ?_
  refine z_istore_n h (lv2 := [(2, .int (0 : Int32)), (0, .ref a0), (1, .int x1)]) dX7_fittingAt_1 (by decide) rfl rfl ?_
  refine z_iconst h (v := (0 : Int32)) dX7_fittingAt_2 (by decide) rfl ?_
  refine z_istore_n h (lv2 := [(3, .int (0 : Int32)), (2, .int (0 : Int32)), (0, .ref a0), (1, .int x1)]) dX7_fittingAt_3 (by decide) rfl rfl ?_
  refine z_locs h (lv2 := [(0, .ref a0), (1, .int x1), (2, .int (0 : Int32)), (3, .int (0 : Int32))]) [2, 3, 1, 0] rfl ?_
  exact hL4 zF (0 : Int32) (0 : Int32) hf
def fX7_tallyWorths_b65 (c0_fitting : Int64) (x1 : Int32) (x2 : Int32) (x3 : Int32) (K27 : ((Nat → Int32) → Int32 → Option ((Nat → Int32)))) (c0_tally : Nat → Int32) (x4 : Int32) : Option ((Nat → Int32)) := (K27 c0_tally (x4 + (1 : Int32)))
def fX7_tallyWorths_L27 (c0_fitting : Int64) (x1 : Int32) (x2 : Int32) (x3 : Int32)  : Nat → (Nat → Int32) → Int32 → Option ((Nat → Int32))
  | 0, _, _ => none
  | n + 1, c0_tally, x4 => (if (64 : Int32) ≤ x4 then (some c0_tally) else Option.bind (fX7_fits c0_fitting x4) (fun v2 => (if v2 = (0 : Int32) then (fX7_tallyWorths_b65 c0_fitting x1 x2 x3 (fX7_tallyWorths_L27 c0_fitting x1 x2 x3  n) c0_tally x4) else Option.bind (fX7_worth x4 x1 x2 x3) (fun v4 => gd (inb (imin v4 (9 : Int32)) 10) (gd (inb (imin v4 (9 : Int32)) 10) ((fX7_tallyWorths_b65 c0_fitting x1 x2 x3 (fX7_tallyWorths_L27 c0_fitting x1 x2 x3  n) (upd c0_tally ((imin v4 (9 : Int32))).toNatClampNeg ((c0_tally ((imin v4 (9 : Int32))).toNatClampNeg) + (1 : Int32))) x4)))))))
def fX7_tallyWorths_L3 (c0_fitting : Int64) (x1 : Int32) (x2 : Int32) (x3 : Int32)  : Nat → (Nat → Int32) → Int32 → Option ((Nat → Int32))
  | 0, _, _ => none
  | n + 1, c0_tally, x4 => (if (9 : Int32) < x4 then (fX7_tallyWorths_L27 c0_fitting x1 x2 x3  zF c0_tally (0 : Int32)) else gd (inb x4 10) (((fX7_tallyWorths_L3 c0_fitting x1 x2 x3  n) (upd c0_tally (x4).toNatClampNeg (0 : Int32)) (x4 + (1 : Int32)))))
def fX7_tallyWorths (c0_fitting : Int64) (c0_tally : Nat → Int32) (x1 : Int32) (x2 : Int32) (x3 : Int32) : Option ((Nat → Int32)) := (fX7_tallyWorths_L3 c0_fitting x1 x2 x3  zF c0_tally (0 : Int32))
abbrev rmX7_tallyWorths : Room := { frames := 1, cells := 0, slots := 0, locals := 23 }
set_option maxRecDepth 100000 in
set_option maxHeartbeats 4000000 in
theorem ctX7_tallyWorths (l : Launch) (G : zG) (a0 a0_tally : Nat) (c0_count : Int32) (c0_fitting : Int64) (c0_bestTrial : Int32) (c0_mostLeft : Int32) (c0_tally : Nat → Int32) (x1 : Int32) (x2 : Int32) (x3 : Int32) {R : (Nat → Int32)} (hf : fX7_tallyWorths c0_fitting c0_tally x1 x2 x3 = some R) : zCt l yX7_tallyWorths wsX7_tallyWorths rmX7_tallyWorths G [(a0, .inr (7, [.ref a0_tally, .int c0_count, .long c0_fitting, .int c0_bestTrial, .int c0_mostLeft])), (a0_tally, .inl (G.2.1, 10, .inl c0_tally))] [.ref a0, .int x1, .int x2, .int x3] (fun v w => v = none ∧ w = [(a0, .inr (7, [.ref a0_tally, .int c0_count, .long c0_fitting, .int c0_bestTrial, .int c0_mostLeft])), (a0_tally, .inl (G.2.1, 10, .inl R))]) := by
  refine zMkV (own := RX7) false (by decide) (by decide +kernel) rfl rfl (Nat.le_of_ble_eq_true rfl) ?_
  intro Z h hret
  have hL27 : ∀ (n27 : Nat) (c0_tally : Nat → Int32) (x4 : Int32), fX7_tallyWorths_L27 c0_fitting x1 x2 x3  n27 c0_tally x4 = some R → Z 0 0 [(a0, .inr (7, [.ref a0_tally, .int c0_count, .long c0_fitting, .int c0_bestTrial, .int c0_mostLeft])), (a0_tally, .inl (G.2.1, 10, .inl c0_tally))] [(0, .ref a0), (1, .int x1), (2, .int x2), (3, .int x3), (4, .int x4)] 27 [] := by
    intro n27
    induction n27 with
    | zero =>
      intro c0_tally x4 hf
      rw [fX7_tallyWorths_L27] at hf
      cases hf
    | succ n27 ih27 =>
      have hB65 : ∀ (c0_tally : Nat → Int32) (x4 : Int32), fX7_tallyWorths_b65 c0_fitting x1 x2 x3 (fX7_tallyWorths_L27 c0_fitting x1 x2 x3  n27) c0_tally x4 = some R → Z 0 0 [(a0, .inr (7, [.ref a0_tally, .int c0_count, .long c0_fitting, .int c0_bestTrial, .int c0_mostLeft])), (a0_tally, .inl (G.2.1, 10, .inl c0_tally))] [(0, .ref a0), (1, .int x1), (2, .int x2), (3, .int x3), (4, .int x4)] 65 [] := by
        intro c0_tally x4 hf
        rw [fX7_tallyWorths_b65] at hf
        refine z_iinc h (v := (x4 + (1 : Int32))) (lv2 := [(4, .int (x4 + (1 : Int32))), (0, .ref a0), (1, .int x1), (2, .int x2), (3, .int x3)]) (j := 4) dX7_tallyWorths_65 rfl rfl (by decide) rfl rfl ?_
        refine z_goto h (tgt := 27) dX7_tallyWorths_68 (by decide) ?_
        refine z_locs h (lv2 := [(0, .ref a0), (1, .int x1), (2, .int x2), (3, .int x3), (4, .int (x4 + (1 : Int32)))]) [1, 2, 3, 4, 0] rfl ?_
        exact ih27 c0_tally (x4 + (1 : Int32)) hf
      intro c0_tally x4 hf
      rw [fX7_tallyWorths_L27] at hf
      refine z_iload h dX7_tallyWorths_27 4 rfl rfl ?_
      refine z_bipush h (v := (64 : Int32)) dX7_tallyWorths_29 (by decide) rfl ?_
      refine z_icmp_ge h (tgt := 71) dX7_tallyWorths_31 (by decide) rfl (fun c1 => ?_) (fun c1 => ?_)
      · have hf := ite_t hf c1
        have hf := Option.some.inj hf
        subst hf
        exact hret _ _ _ dX7_tallyWorths_71 ⟨rfl, rfl⟩
      have hf := ite_f hf c1
      refine z_aload_n h dX7_tallyWorths_34 0 rfl rfl ?_
      refine z_iload h dX7_tallyWorths_35 4 rfl rfl ?_
      obtain ⟨v2, hv2, hf⟩ := bd_some hf
      refine z_callV h (np := 1) (st := []) (wr := [(a0_tally, .inl (G.2.1, 10, .inl c0_tally))]) [.int x4] (ctX7_fits l G a0 a0_tally c0_count c0_fitting c0_bestTrial c0_mostLeft x4 hv2) gX7_tallyWorths_X7_fits (by decide +kernel) 0 rfl rfl rfl ⟨Nat.le_of_ble_eq_true rfl, Nat.le_of_ble_eq_true rfl⟩ ⟨Nat.le_refl _, Nat.le_refl _⟩ rfl rfl rfl [0] [1] rfl rfl rfl rfl (by decide) (Nat.le_of_ble_eq_true rfl) dX7_tallyWorths_37 rfl rfl (fun rv2 wv2 hrv2 => ?_)
      obtain ⟨rfl, rfl⟩ := hrv2
      refine z_perm h (w2 := [(a0, .inr (7, [.ref a0_tally, .int c0_count, .long c0_fitting, .int c0_bestTrial, .int c0_mostLeft])), (a0_tally, .inl (G.2.1, 10, .inl c0_tally))]) (st := [.int v2]) [1, 0] rfl rfl ?_
      refine z_if_eq h (tgt := 65) dX7_tallyWorths_40 (by decide) rfl (fun c3 => ?_) (fun c3 => ?_)
      · have hf := ite_t hf c3
        exact hB65 c0_tally x4 hf
      have hf := ite_f hf c3
      refine z_aload_n h dX7_tallyWorths_43 0 rfl rfl ?_
      refine z_get h (C := RX7) (T := TX7) (N := 5) (v := .ref a0_tally) 0 rfl rfl 0 (by decide) (by decide +kernel) (by decide +kernel) rfl dX7_tallyWorths_44 rfl ?_
      refine z_iload h dX7_tallyWorths_47 4 rfl rfl ?_
      refine z_iload_n h dX7_tallyWorths_49 1 rfl rfl ?_
      refine z_iload_n h dX7_tallyWorths_50 2 rfl rfl ?_
      refine z_iload_n h dX7_tallyWorths_51 3 rfl rfl ?_
      obtain ⟨v4, hv4, hf⟩ := bd_some hf
      refine z_callS h (np := 4) (st := [.ref a0_tally]) (wr := [(a0, .inr (7, [.ref a0_tally, .int c0_count, .long c0_fitting, .int c0_bestTrial, .int c0_mostLeft])), (a0_tally, .inl (G.2.1, 10, .inl c0_tally))]) [.int x4, .int x1, .int x2, .int x3] (ctX7_worth l G x4 x1 x2 x3 hv4) gX7_tallyWorths_X7_worth (by decide +kernel) rfl ⟨Nat.le_of_ble_eq_true rfl, Nat.le_of_ble_eq_true rfl⟩ ⟨Nat.le_refl _, Nat.le_refl _⟩ rfl rfl rfl [] [0, 1] rfl rfl rfl rfl (by decide) (Nat.le_of_ble_eq_true rfl) dX7_tallyWorths_52 rfl rfl (fun rv4 wv4 hrv4 => ?_)
      obtain ⟨rfl, rfl⟩ := hrv4
      refine z_perm h (w2 := [(a0, .inr (7, [.ref a0_tally, .int c0_count, .long c0_fitting, .int c0_bestTrial, .int c0_mostLeft])), (a0_tally, .inl (G.2.1, 10, .inl c0_tally))]) (st := [.int v4, .ref a0_tally]) [0, 1] rfl rfl ?_
      refine z_bipush h (v := (9 : Int32)) dX7_tallyWorths_55 (by decide) rfl ?_
      refine z_mmin h (by decide +kernel) (by decide +kernel) (by decide +kernel) (by decide +kernel) (Nat.le_of_ble_eq_true rfl) (Nat.le_of_ble_eq_true rfl) (Nat.zero_le _) (Nat.zero_le _) dX7_tallyWorths_57 rfl ?_
      refine z_dup2 h dX7_tallyWorths_60 rfl rfl rfl ?_
      obtain ⟨hg5, hf⟩ := gd_some hf
      refine z_iald h 1 rfl rfl hg5 dX7_tallyWorths_61 rfl ?_
      refine z_iconst h (v := (1 : Int32)) dX7_tallyWorths_62 (by decide) rfl ?_
      refine z_iadd h dX7_tallyWorths_63 rfl ?_
      obtain ⟨hg6, hf⟩ := gd_some hf
      refine z_iast h (w2 := [(a0, .inr (7, [.ref a0_tally, .int c0_count, .long c0_fitting, .int c0_bestTrial, .int c0_mostLeft])), (a0_tally, .inl (G.2.1, 10, .inl (upd c0_tally ((imin v4 (9 : Int32))).toNatClampNeg ((c0_tally ((imin v4 (9 : Int32))).toNatClampNeg) + (1 : Int32)))))]) 1 rfl rfl hg6 dX7_tallyWorths_64 rfl rfl ?_
      exact hB65 (upd c0_tally ((imin v4 (9 : Int32))).toNatClampNeg ((c0_tally ((imin v4 (9 : Int32))).toNatClampNeg) + (1 : Int32))) x4 hf
  have hL3 : ∀ (n3 : Nat) (c0_tally : Nat → Int32) (x4 : Int32), fX7_tallyWorths_L3 c0_fitting x1 x2 x3  n3 c0_tally x4 = some R → Z 0 0 [(a0, .inr (7, [.ref a0_tally, .int c0_count, .long c0_fitting, .int c0_bestTrial, .int c0_mostLeft])), (a0_tally, .inl (G.2.1, 10, .inl c0_tally))] [(0, .ref a0), (1, .int x1), (2, .int x2), (3, .int x3), (4, .int x4)] 3 [] := by
    intro n3
    induction n3 with
    | zero =>
      intro c0_tally x4 hf
      rw [fX7_tallyWorths_L3] at hf
      cases hf
    | succ n3 ih3 =>
      intro c0_tally x4 hf
      rw [fX7_tallyWorths_L3] at hf
      refine z_iload h dX7_tallyWorths_3 4 rfl rfl ?_
      refine z_bipush h (v := (9 : Int32)) dX7_tallyWorths_5 (by decide) rfl ?_
      refine z_icmp_gt h (tgt := 24) dX7_tallyWorths_7 (by decide) rfl (fun c7 => ?_) (fun c7 => ?_)
      · have hf := ite_t hf c7
        refine z_iconst h (v := (0 : Int32)) dX7_tallyWorths_24 (by decide) rfl ?_
        refine z_istore h (lv2 := [(4, .int (0 : Int32)), (0, .ref a0), (1, .int x1), (2, .int x2), (3, .int x3)]) dX7_tallyWorths_25 (by decide) rfl rfl ?_
        refine z_locs h (lv2 := [(0, .ref a0), (1, .int x1), (2, .int x2), (3, .int x3), (4, .int (0 : Int32))]) [1, 2, 3, 4, 0] rfl ?_
        exact hL27 zF c0_tally (0 : Int32) hf
      have hf := ite_f hf c7
      refine z_aload_n h dX7_tallyWorths_10 0 rfl rfl ?_
      refine z_get h (C := RX7) (T := TX7) (N := 5) (v := .ref a0_tally) 0 rfl rfl 0 (by decide) (by decide +kernel) (by decide +kernel) rfl dX7_tallyWorths_11 rfl ?_
      refine z_iload h dX7_tallyWorths_14 4 rfl rfl ?_
      refine z_iconst h (v := (0 : Int32)) dX7_tallyWorths_16 (by decide) rfl ?_
      obtain ⟨hg8, hf⟩ := gd_some hf
      refine z_iast h (w2 := [(a0, .inr (7, [.ref a0_tally, .int c0_count, .long c0_fitting, .int c0_bestTrial, .int c0_mostLeft])), (a0_tally, .inl (G.2.1, 10, .inl (upd c0_tally (x4).toNatClampNeg (0 : Int32))))]) 1 rfl rfl hg8 dX7_tallyWorths_17 rfl rfl ?_
      refine z_iinc h (v := (x4 + (1 : Int32))) (lv2 := [(4, .int (x4 + (1 : Int32))), (0, .ref a0), (1, .int x1), (2, .int x2), (3, .int x3)]) (j := 4) dX7_tallyWorths_18 rfl rfl (by decide) rfl rfl ?_
      refine z_goto h (tgt := 3) dX7_tallyWorths_21 (by decide) ?_
      refine z_locs h (lv2 := [(0, .ref a0), (1, .int x1), (2, .int x2), (3, .int x3), (4, .int (x4 + (1 : Int32)))]) [1, 2, 3, 4, 0] rfl ?_
      exact ih3 (upd c0_tally (x4).toNatClampNeg (0 : Int32)) (x4 + (1 : Int32)) hf
  rw [fX7_tallyWorths] at hf
  show Z 0 0 _ [(0, .ref a0), (1, .int x1), (2, .int x2), (3, .int x3)] 0 []
  refine z_iconst h (v := (0 : Int32)) dX7_tallyWorths_0 (by decide) rfl ?_
  refine z_istore h (lv2 := [(4, .int (0 : Int32)), (0, .ref a0), (1, .int x1), (2, .int x2), (3, .int x3)]) dX7_tallyWorths_1 (by decide) rfl rfl ?_
  refine z_locs h (lv2 := [(0, .ref a0), (1, .int x1), (2, .int x2), (3, .int x3), (4, .int (0 : Int32))]) [1, 2, 3, 4, 0] rfl ?_
  exact hL3 zF c0_tally (0 : Int32) hf
def fX7_considerDebts_b90 (c0_fitting : Int64) (c0_tally : Nat → Int32) (x1 : Int32) (K13 : (Int32 → Int32 → Int32 → Int32 → Int32 → Option (Int32 × Int32))) (c0_bestTrial : Int32) (c0_mostLeft : Int32) (x2 : Int32) (x3 : Int32) (x4 : Int32) : Option (Int32 × Int32) := (K13 c0_bestTrial c0_mostLeft x2 x3 (x4 + (1 : Int32)))
def fX7_considerDebts_b78 (c0_fitting : Int64) (c0_tally : Nat → Int32) (x1 : Int32) (K13 : (Int32 → Int32 → Int32 → Int32 → Int32 → Option (Int32 × Int32))) (c0_bestTrial : Int32) (c0_mostLeft : Int32) (x2 : Int32) (x3 : Int32) (x4 : Int32) (x5 : Int32) (x6 : Int32) : Option (Int32 × Int32) := (fX7_considerDebts_b90 c0_fitting c0_tally x1 K13 x6 x5 x2 x3 x4)
def fX7_considerDebts_L13 (c0_fitting : Int64) (c0_tally : Nat → Int32) (x1 : Int32)  : Nat → Int32 → Int32 → Int32 → Int32 → Int32 → Option (Int32 × Int32)
  | 0, _, _, _, _, _ => none
  | n + 1, c0_bestTrial, c0_mostLeft, x2, x3, x4 => (if (9 : Int32) < x4 then (some (c0_bestTrial, c0_mostLeft)) else gd (inb (x4 - (1 : Int32)) 10) ((if (imax (x3 + (c0_tally ((x4 - (1 : Int32))).toNatClampNeg)) (x2 - (x3 + (c0_tally ((x4 - (1 : Int32))).toNatClampNeg)))) < c0_mostLeft then (fX7_considerDebts_b78 c0_fitting c0_tally x1 (fX7_considerDebts_L13 c0_fitting c0_tally x1  n) c0_bestTrial c0_mostLeft x2 (x3 + (c0_tally ((x4 - (1 : Int32))).toNatClampNeg)) x4 (imax (x3 + (c0_tally ((x4 - (1 : Int32))).toNatClampNeg)) (x2 - (x3 + (c0_tally ((x4 - (1 : Int32))).toNatClampNeg)))) (((1000 : Int32) * x4) + x1)) else (if (imax (x3 + (c0_tally ((x4 - (1 : Int32))).toNatClampNeg)) (x2 - (x3 + (c0_tally ((x4 - (1 : Int32))).toNatClampNeg)))) = c0_mostLeft then (if c0_bestTrial ≤ (((1000 : Int32) * x4) + x1) then (fX7_considerDebts_b90 c0_fitting c0_tally x1 (fX7_considerDebts_L13 c0_fitting c0_tally x1  n) c0_bestTrial c0_mostLeft x2 (x3 + (c0_tally ((x4 - (1 : Int32))).toNatClampNeg)) x4) else (fX7_considerDebts_b78 c0_fitting c0_tally x1 (fX7_considerDebts_L13 c0_fitting c0_tally x1  n) c0_bestTrial c0_mostLeft x2 (x3 + (c0_tally ((x4 - (1 : Int32))).toNatClampNeg)) x4 (imax (x3 + (c0_tally ((x4 - (1 : Int32))).toNatClampNeg)) (x2 - (x3 + (c0_tally ((x4 - (1 : Int32))).toNatClampNeg)))) (((1000 : Int32) * x4) + x1))) else (fX7_considerDebts_b90 c0_fitting c0_tally x1 (fX7_considerDebts_L13 c0_fitting c0_tally x1  n) c0_bestTrial c0_mostLeft x2 (x3 + (c0_tally ((x4 - (1 : Int32))).toNatClampNeg)) x4)))))
def fX7_considerDebts (c0_fitting : Int64) (c0_bestTrial : Int32) (c0_mostLeft : Int32) (c0_tally : Nat → Int32) (x1 : Int32) : Option (Int32 × Int32) := Option.bind (fJ13_bitCount_95d88 c0_fitting) (fun v6 => (fX7_considerDebts_L13 c0_fitting c0_tally x1  zF c0_bestTrial c0_mostLeft v6 (0 : Int32) (1 : Int32)))
abbrev rmX7_considerDebts : Room := { frames := 1, cells := 0, slots := 0, locals := 21 }
set_option maxRecDepth 100000 in
set_option maxHeartbeats 4000000 in
theorem ctX7_considerDebts (l : Launch) (G : zG) (a0 a0_tally : Nat) (c0_count : Int32) (c0_fitting : Int64) (c0_bestTrial : Int32) (c0_mostLeft : Int32) (c0_tally : Nat → Int32) (x1 : Int32) {R : Int32 × Int32} (hf : fX7_considerDebts c0_fitting c0_bestTrial c0_mostLeft c0_tally x1 = some R) : zCt l yX7_considerDebts wsX7_considerDebts rmX7_considerDebts G [(a0, .inr (7, [.ref a0_tally, .int c0_count, .long c0_fitting, .int c0_bestTrial, .int c0_mostLeft])), (a0_tally, .inl (G.2.1, 10, .inl c0_tally))] [.ref a0, .int x1] (fun v w => v = none ∧ w = [(a0, .inr (7, [.ref a0_tally, .int c0_count, .long c0_fitting, .int (R.1), .int (R.2)])), (a0_tally, .inl (G.2.1, 10, .inl c0_tally))]) := by
  refine zMkV (own := RX7) false (by decide) (by decide +kernel) rfl rfl (Nat.le_of_ble_eq_true rfl) ?_
  intro Z h hret
  have hL13 : ∀ (n13 : Nat) (c0_bestTrial : Int32) (c0_mostLeft : Int32) (x2 : Int32) (x3 : Int32) (x4 : Int32), fX7_considerDebts_L13 c0_fitting c0_tally x1  n13 c0_bestTrial c0_mostLeft x2 x3 x4 = some R → Z 0 0 [(a0, .inr (7, [.ref a0_tally, .int c0_count, .long c0_fitting, .int c0_bestTrial, .int c0_mostLeft])), (a0_tally, .inl (G.2.1, 10, .inl c0_tally))] [(0, .ref a0), (1, .int x1), (2, .int x2), (3, .int x3), (4, .int x4)] 13 [] := by
    intro n13
    induction n13 with
    | zero =>
      intro c0_bestTrial c0_mostLeft x2 x3 x4 hf
      rw [fX7_considerDebts_L13] at hf
      cases hf
    | succ n13 ih13 =>
      have hB90 : ∀ (c0_bestTrial : Int32) (c0_mostLeft : Int32) (x2 : Int32) (x3 : Int32) (x4 : Int32), fX7_considerDebts_b90 c0_fitting c0_tally x1 (fX7_considerDebts_L13 c0_fitting c0_tally x1  n13) c0_bestTrial c0_mostLeft x2 x3 x4 = some R → Z 0 0 [(a0, .inr (7, [.ref a0_tally, .int c0_count, .long c0_fitting, .int c0_bestTrial, .int c0_mostLeft])), (a0_tally, .inl (G.2.1, 10, .inl c0_tally))] [(0, .ref a0), (1, .int x1), (2, .int x2), (3, .int x3), (4, .int x4)] 90 [] := by
        intro c0_bestTrial c0_mostLeft x2 x3 x4 hf
        rw [fX7_considerDebts_b90] at hf
        refine z_iinc h (v := (x4 + (1 : Int32))) (lv2 := [(4, .int (x4 + (1 : Int32))), (0, .ref a0), (1, .int x1), (2, .int x2), (3, .int x3)]) (j := 4) dX7_considerDebts_90 rfl rfl (by decide) rfl rfl ?_
        refine z_goto h (tgt := 13) dX7_considerDebts_93 (by decide) ?_
        refine z_locs h (lv2 := [(0, .ref a0), (1, .int x1), (2, .int x2), (3, .int x3), (4, .int (x4 + (1 : Int32)))]) [1, 2, 3, 4, 0] rfl ?_
        exact ih13 c0_bestTrial c0_mostLeft x2 x3 (x4 + (1 : Int32)) hf
      have hB78 : ∀ (c0_bestTrial : Int32) (c0_mostLeft : Int32) (x2 : Int32) (x3 : Int32) (x4 : Int32) (x5 : Int32) (x6 : Int32), fX7_considerDebts_b78 c0_fitting c0_tally x1 (fX7_considerDebts_L13 c0_fitting c0_tally x1  n13) c0_bestTrial c0_mostLeft x2 x3 x4 x5 x6 = some R → Z 0 0 [(a0, .inr (7, [.ref a0_tally, .int c0_count, .long c0_fitting, .int c0_bestTrial, .int c0_mostLeft])), (a0_tally, .inl (G.2.1, 10, .inl c0_tally))] [(0, .ref a0), (1, .int x1), (2, .int x2), (3, .int x3), (4, .int x4), (5, .int x5), (6, .int x6)] 78 [] := by
        intro c0_bestTrial c0_mostLeft x2 x3 x4 x5 x6 hf
        rw [fX7_considerDebts_b78] at hf
        refine z_aload_n h dX7_considerDebts_78 0 rfl rfl ?_
        refine z_iload h dX7_considerDebts_79 5 rfl rfl ?_
        refine z_put h (C := RX7) (T := TX7) (N := 5) 0 rfl rfl 4 (by decide) (by decide +kernel) (by decide +kernel) tyX7 tyX7_ok nmX7 (w2 := [(a0, .inr (7, [.ref a0_tally, .int c0_count, .long c0_fitting, .int c0_bestTrial, .int x5])), (a0_tally, .inl (G.2.1, 10, .inl c0_tally))]) rfl rfl rfl (Nat.le_of_ble_eq_true rfl) rfl dX7_considerDebts_81 rfl ?_
        refine z_aload_n h dX7_considerDebts_84 0 rfl rfl ?_
        refine z_iload h dX7_considerDebts_85 6 rfl rfl ?_
        refine z_put h (C := RX7) (T := TX7) (N := 5) 0 rfl rfl 3 (by decide) (by decide +kernel) (by decide +kernel) tyX7 tyX7_ok nmX7 (w2 := [(a0, .inr (7, [.ref a0_tally, .int c0_count, .long c0_fitting, .int x6, .int x5])), (a0_tally, .inl (G.2.1, 10, .inl c0_tally))]) rfl rfl rfl (Nat.le_of_ble_eq_true rfl) rfl dX7_considerDebts_87 rfl ?_
        refine z_locs h (lv2 := [(0, .ref a0), (1, .int x1), (2, .int x2), (3, .int x3), (4, .int x4)]) [0, 1, 2, 3, 4] rfl ?_
        exact hB90 x6 x5 x2 x3 x4 hf
      intro c0_bestTrial c0_mostLeft x2 x3 x4 hf
      rw [fX7_considerDebts_L13] at hf
      refine z_iload h dX7_considerDebts_13 4 rfl rfl ?_
      refine z_bipush h (v := (9 : Int32)) dX7_considerDebts_15 (by decide) rfl ?_
      refine z_icmp_gt h (tgt := 96) dX7_considerDebts_17 (by decide) rfl (fun c1 => ?_) (fun c1 => ?_)
      · have hf := ite_t hf c1
        have hf := Option.some.inj hf
        subst hf
        exact hret _ _ _ dX7_considerDebts_96 ⟨rfl, rfl⟩
      have hf := ite_f hf c1
      refine z_iload_n h dX7_considerDebts_20 3 rfl rfl ?_
      refine z_aload_n h dX7_considerDebts_21 0 rfl rfl ?_
      refine z_get h (C := RX7) (T := TX7) (N := 5) (v := .ref a0_tally) 0 rfl rfl 0 (by decide) (by decide +kernel) (by decide +kernel) rfl dX7_considerDebts_22 rfl ?_
      refine z_iload h dX7_considerDebts_25 4 rfl rfl ?_
      refine z_iconst h (v := (1 : Int32)) dX7_considerDebts_27 (by decide) rfl ?_
      refine z_isub h dX7_considerDebts_28 rfl ?_
      obtain ⟨hg2, hf⟩ := gd_some hf
      refine z_iald h 1 rfl rfl hg2 dX7_considerDebts_29 rfl ?_
      refine z_iadd h dX7_considerDebts_30 rfl ?_
      refine z_istore_n h (lv2 := [(3, .int (x3 + (c0_tally ((x4 - (1 : Int32))).toNatClampNeg))), (0, .ref a0), (1, .int x1), (2, .int x2), (4, .int x4)]) dX7_considerDebts_31 (by decide) rfl rfl ?_
      refine z_iload_n h dX7_considerDebts_32 0 rfl rfl ?_
      refine z_iload_n h dX7_considerDebts_33 3 rfl rfl ?_
      refine z_iload_n h dX7_considerDebts_34 0 rfl rfl ?_
      refine z_isub h dX7_considerDebts_35 rfl ?_
      refine z_mmax h (by decide +kernel) (by decide +kernel) (by decide +kernel) (by decide +kernel) (Nat.le_of_ble_eq_true rfl) (Nat.le_of_ble_eq_true rfl) (Nat.zero_le _) (Nat.zero_le _) dX7_considerDebts_36 rfl ?_
      refine z_istore h (lv2 := [(5, .int (imax (x3 + (c0_tally ((x4 - (1 : Int32))).toNatClampNeg)) (x2 - (x3 + (c0_tally ((x4 - (1 : Int32))).toNatClampNeg))))), (3, .int (x3 + (c0_tally ((x4 - (1 : Int32))).toNatClampNeg))), (0, .ref a0), (1, .int x1), (2, .int x2), (4, .int x4)]) dX7_considerDebts_39 (by decide) rfl rfl ?_
      refine z_sipush h (v := (1000 : Int32)) dX7_considerDebts_41 (by decide) rfl ?_
      refine z_iload h dX7_considerDebts_44 5 rfl rfl ?_
      refine z_imul h dX7_considerDebts_46 rfl ?_
      refine z_iload_n h dX7_considerDebts_47 3 rfl rfl ?_
      refine z_iadd h dX7_considerDebts_48 rfl ?_
      refine z_istore h (lv2 := [(6, .int (((1000 : Int32) * x4) + x1)), (5, .int (imax (x3 + (c0_tally ((x4 - (1 : Int32))).toNatClampNeg)) (x2 - (x3 + (c0_tally ((x4 - (1 : Int32))).toNatClampNeg))))), (3, .int (x3 + (c0_tally ((x4 - (1 : Int32))).toNatClampNeg))), (0, .ref a0), (1, .int x1), (2, .int x2), (4, .int x4)]) dX7_considerDebts_49 (by decide) rfl rfl ?_
      refine z_iload h dX7_considerDebts_51 1 rfl rfl ?_
      refine z_aload_n h dX7_considerDebts_53 3 rfl rfl ?_
      refine z_get h (C := RX7) (T := TX7) (N := 5) (v := .int c0_mostLeft) 0 rfl rfl 4 (by decide) (by decide +kernel) (by decide +kernel) rfl dX7_considerDebts_54 rfl ?_
      refine z_icmp_lt h (tgt := 78) dX7_considerDebts_57 (by decide) rfl (fun c3 => ?_) (fun c3 => ?_)
      · have hf := ite_t hf c3
        refine z_locs h (lv2 := [(0, .ref a0), (1, .int x1), (2, .int x2), (3, .int (x3 + (c0_tally ((x4 - (1 : Int32))).toNatClampNeg))), (4, .int x4), (5, .int (imax (x3 + (c0_tally ((x4 - (1 : Int32))).toNatClampNeg)) (x2 - (x3 + (c0_tally ((x4 - (1 : Int32))).toNatClampNeg))))), (6, .int (((1000 : Int32) * x4) + x1))]) [3, 4, 5, 2, 6, 1, 0] rfl ?_
        exact hB78 c0_bestTrial c0_mostLeft x2 (x3 + (c0_tally ((x4 - (1 : Int32))).toNatClampNeg)) x4 (imax (x3 + (c0_tally ((x4 - (1 : Int32))).toNatClampNeg)) (x2 - (x3 + (c0_tally ((x4 - (1 : Int32))).toNatClampNeg)))) (((1000 : Int32) * x4) + x1) hf
      have hf := ite_f hf c3
      refine z_iload h dX7_considerDebts_60 1 rfl rfl ?_
      refine z_aload_n h dX7_considerDebts_62 3 rfl rfl ?_
      refine z_get h (C := RX7) (T := TX7) (N := 5) (v := .int c0_mostLeft) 0 rfl rfl 4 (by decide) (by decide +kernel) (by decide +kernel) rfl dX7_considerDebts_63 rfl ?_
      refine z_icmp_ne h (tgt := 90) dX7_considerDebts_66 (by decide) rfl (fun c4 => ?_) (fun c4 => ?_)
      · have hf := ite_f hf c4
        refine z_locs h (lv2 := [(0, .ref a0), (1, .int x1), (2, .int x2), (3, .int (x3 + (c0_tally ((x4 - (1 : Int32))).toNatClampNeg))), (4, .int x4)]) [3, 4, 5, 2, 6] rfl ?_
        exact hB90 c0_bestTrial c0_mostLeft x2 (x3 + (c0_tally ((x4 - (1 : Int32))).toNatClampNeg)) x4 hf
      have hf := ite_t hf c4
      refine z_iload h dX7_considerDebts_69 0 rfl rfl ?_
      refine z_aload_n h dX7_considerDebts_71 3 rfl rfl ?_
      refine z_get h (C := RX7) (T := TX7) (N := 5) (v := .int c0_bestTrial) 0 rfl rfl 3 (by decide) (by decide +kernel) (by decide +kernel) rfl dX7_considerDebts_72 rfl ?_
      refine z_icmp_ge h (tgt := 90) dX7_considerDebts_75 (by decide) rfl (fun c5 => ?_) (fun c5 => ?_)
      · have hf := ite_t hf c5
        refine z_locs h (lv2 := [(0, .ref a0), (1, .int x1), (2, .int x2), (3, .int (x3 + (c0_tally ((x4 - (1 : Int32))).toNatClampNeg))), (4, .int x4)]) [3, 4, 5, 2, 6] rfl ?_
        exact hB90 c0_bestTrial c0_mostLeft x2 (x3 + (c0_tally ((x4 - (1 : Int32))).toNatClampNeg)) x4 hf
      have hf := ite_f hf c5
      refine z_locs h (lv2 := [(0, .ref a0), (1, .int x1), (2, .int x2), (3, .int (x3 + (c0_tally ((x4 - (1 : Int32))).toNatClampNeg))), (4, .int x4), (5, .int (imax (x3 + (c0_tally ((x4 - (1 : Int32))).toNatClampNeg)) (x2 - (x3 + (c0_tally ((x4 - (1 : Int32))).toNatClampNeg))))), (6, .int (((1000 : Int32) * x4) + x1))]) [3, 4, 5, 2, 6, 1, 0] rfl ?_
      exact hB78 c0_bestTrial c0_mostLeft x2 (x3 + (c0_tally ((x4 - (1 : Int32))).toNatClampNeg)) x4 (imax (x3 + (c0_tally ((x4 - (1 : Int32))).toNatClampNeg)) (x2 - (x3 + (c0_tally ((x4 - (1 : Int32))).toNatClampNeg)))) (((1000 : Int32) * x4) + x1) hf
  rw [fX7_considerDebts] at hf
  show Z 0 0 _ [(0, .ref a0), (1, .int x1)] 0 []
  refine z_aload_n h dX7_considerDebts_0 0 rfl rfl ?_
  refine z_get h (C := RX7) (T := TX7) (N := 5) (v := .long c0_fitting) 0 rfl rfl 2 (by decide) (by decide +kernel) (by decide +kernel) rfl dX7_considerDebts_1 rfl ?_
  obtain ⟨v6, hv6, hf⟩ := bd_some hf
  refine z_callS h (np := 1) (st := []) (wr := [(a0, .inr (7, [.ref a0_tally, .int c0_count, .long c0_fitting, .int c0_bestTrial, .int c0_mostLeft])), (a0_tally, .inl (G.2.1, 10, .inl c0_tally))]) [.long c0_fitting] (ctJ13_bitCount_95d88 l G c0_fitting hv6) gX7_considerDebts_J13_bitCount_95d88 (by decide +kernel) rfl ⟨Nat.le_of_ble_eq_true rfl, Nat.le_of_ble_eq_true rfl⟩ ⟨Nat.le_refl _, Nat.le_refl _⟩ rfl rfl rfl [] [0, 1] rfl rfl rfl rfl (by decide) (Nat.le_of_ble_eq_true rfl) dX7_considerDebts_4 rfl rfl (fun rv6 wv6 hrv6 => ?_)
  obtain ⟨rfl, rfl⟩ := hrv6
  refine z_perm h (w2 := [(a0, .inr (7, [.ref a0_tally, .int c0_count, .long c0_fitting, .int c0_bestTrial, .int c0_mostLeft])), (a0_tally, .inl (G.2.1, 10, .inl c0_tally))]) (st := [.int v6]) [0, 1] rfl rfl ?_
  refine z_istore_n h (lv2 := [(2, .int v6), (0, .ref a0), (1, .int x1)]) dX7_considerDebts_7 (by decide) rfl rfl ?_
  refine z_iconst h (v := (0 : Int32)) dX7_considerDebts_8 (by decide) rfl ?_
  refine z_istore_n h (lv2 := [(3, .int (0 : Int32)), (2, .int v6), (0, .ref a0), (1, .int x1)]) dX7_considerDebts_9 (by decide) rfl rfl ?_
  refine z_iconst h (v := (1 : Int32)) dX7_considerDebts_10 (by decide) rfl ?_
  refine z_istore h (lv2 := [(4, .int (1 : Int32)), (3, .int (0 : Int32)), (2, .int v6), (0, .ref a0), (1, .int x1)]) dX7_considerDebts_11 (by decide) rfl rfl ?_
  refine z_locs h (lv2 := [(0, .ref a0), (1, .int x1), (2, .int v6), (3, .int (0 : Int32)), (4, .int (1 : Int32))]) [3, 4, 2, 1, 0] rfl ?_
  exact hL13 zF c0_bestTrial c0_mostLeft v6 (0 : Int32) (1 : Int32) hf
def fX7_seekTrial_L28 (c0_fitting : Int64) (K14 : (Int32 → Int32 → (Nat → Int32) → Int32 → Option (Int32 × Int32 × (Nat → Int32)))) (K21 : (Int32 → Int32 → (Nat → Int32) → Int32 → Int32 → Option (Int32 × Int32 × (Nat → Int32)))) : Nat → Int32 → Int32 → (Nat → Int32) → Int32 → Int32 → Int32 → Option (Int32 × Int32 × (Nat → Int32))
  | 0, _, _, _, _, _, _ => none
  | n + 1, c0_bestTrial, c0_mostLeft, c0_tally, x1, x2, x3 => (if (3 : Int32) < x3 then (K21 c0_bestTrial c0_mostLeft c0_tally x1 (x2 + (1 : Int32))) else Option.bind (fX7_tallyWorths c0_fitting c0_tally x1 x2 x3) (fun v2 => Option.bind (fX11_code x1 x2 x3) (fun v3 => Option.bind (fX7_considerDebts c0_fitting c0_bestTrial c0_mostLeft v2 v3) (fun v4 => ((fX7_seekTrial_L28 c0_fitting K14 K21 n) v4.1 v4.2 v2 x1 x2 (x3 + (1 : Int32)))))))
def fX7_seekTrial_L21 (c0_fitting : Int64) (K14 : (Int32 → Int32 → (Nat → Int32) → Int32 → Option (Int32 × Int32 × (Nat → Int32)))) : Nat → Int32 → Int32 → (Nat → Int32) → Int32 → Int32 → Option (Int32 × Int32 × (Nat → Int32))
  | 0, _, _, _, _, _ => none
  | n + 1, c0_bestTrial, c0_mostLeft, c0_tally, x1, x2 => (if (3 : Int32) < x2 then (K14 c0_bestTrial c0_mostLeft c0_tally (x1 + (1 : Int32))) else (fX7_seekTrial_L28 c0_fitting K14 (fX7_seekTrial_L21 c0_fitting K14 n) zF c0_bestTrial c0_mostLeft c0_tally x1 x2 (0 : Int32)))
def fX7_seekTrial_L14 (c0_fitting : Int64)  : Nat → Int32 → Int32 → (Nat → Int32) → Int32 → Option (Int32 × Int32 × (Nat → Int32))
  | 0, _, _, _, _ => none
  | n + 1, c0_bestTrial, c0_mostLeft, c0_tally, x1 => (if (3 : Int32) < x1 then (some (c0_bestTrial, c0_mostLeft, c0_tally)) else (fX7_seekTrial_L21 c0_fitting (fX7_seekTrial_L14 c0_fitting  n) zF c0_bestTrial c0_mostLeft c0_tally x1 (0 : Int32)))
def fX7_seekTrial (c0_fitting : Int64) (c0_bestTrial : Int32) (c0_mostLeft : Int32) (c0_tally : Nat → Int32)  : Option (Int32 × Int32 × (Nat → Int32)) := (fX7_seekTrial_L14 c0_fitting  zF (-6 : Int32) (65 : Int32) c0_tally (0 : Int32))
abbrev rmX7_seekTrial : Room := { frames := 2, cells := 0, slots := 0, locals := 47 }
set_option maxRecDepth 100000 in
set_option maxHeartbeats 4000000 in
theorem ctX7_seekTrial (l : Launch) (G : zG) (a0 a0_tally : Nat) (c0_count : Int32) (c0_fitting : Int64) (c0_bestTrial : Int32) (c0_mostLeft : Int32) (c0_tally : Nat → Int32)  {R : Int32 × Int32 × (Nat → Int32)} (hf : fX7_seekTrial c0_fitting c0_bestTrial c0_mostLeft c0_tally = some R) : zCt l yX7_seekTrial wsX7_seekTrial rmX7_seekTrial G [(a0, .inr (7, [.ref a0_tally, .int c0_count, .long c0_fitting, .int c0_bestTrial, .int c0_mostLeft])), (a0_tally, .inl (G.2.1, 10, .inl c0_tally))] [.ref a0] (fun v w => v = none ∧ w = [(a0, .inr (7, [.ref a0_tally, .int c0_count, .long c0_fitting, .int (R.1), .int (R.2.1)])), (a0_tally, .inl (G.2.1, 10, .inl (R.2.2)))]) := by
  refine zMkV (own := RX7) false (by decide) (by decide +kernel) rfl rfl (Nat.le_of_ble_eq_true rfl) ?_
  intro Z h hret
  have hL14 : ∀ (n14 : Nat) (c0_bestTrial : Int32) (c0_mostLeft : Int32) (c0_tally : Nat → Int32) (x1 : Int32), fX7_seekTrial_L14 c0_fitting  n14 c0_bestTrial c0_mostLeft c0_tally x1 = some R → Z 0 0 [(a0, .inr (7, [.ref a0_tally, .int c0_count, .long c0_fitting, .int c0_bestTrial, .int c0_mostLeft])), (a0_tally, .inl (G.2.1, 10, .inl c0_tally))] [(0, .ref a0), (1, .int x1)] 14 [] := by
    intro n14
    induction n14 with
    | zero =>
      intro c0_bestTrial c0_mostLeft c0_tally x1 hf
      rw [fX7_seekTrial_L14] at hf
      cases hf
    | succ n14 ih14 =>
      have hL21 : ∀ (n21 : Nat) (c0_bestTrial : Int32) (c0_mostLeft : Int32) (c0_tally : Nat → Int32) (x1 : Int32) (x2 : Int32), fX7_seekTrial_L21 c0_fitting (fX7_seekTrial_L14 c0_fitting  n14) n21 c0_bestTrial c0_mostLeft c0_tally x1 x2 = some R → Z 0 0 [(a0, .inr (7, [.ref a0_tally, .int c0_count, .long c0_fitting, .int c0_bestTrial, .int c0_mostLeft])), (a0_tally, .inl (G.2.1, 10, .inl c0_tally))] [(0, .ref a0), (1, .int x1), (2, .int x2)] 21 [] := by
        intro n21
        induction n21 with
        | zero =>
          intro c0_bestTrial c0_mostLeft c0_tally x1 x2 hf
          rw [fX7_seekTrial_L21] at hf
          cases hf
        | succ n21 ih21 =>
          have hL28 : ∀ (n28 : Nat) (c0_bestTrial : Int32) (c0_mostLeft : Int32) (c0_tally : Nat → Int32) (x1 : Int32) (x2 : Int32) (x3 : Int32), fX7_seekTrial_L28 c0_fitting (fX7_seekTrial_L14 c0_fitting  n14) (fX7_seekTrial_L21 c0_fitting (fX7_seekTrial_L14 c0_fitting  n14) n21) n28 c0_bestTrial c0_mostLeft c0_tally x1 x2 x3 = some R → Z 0 0 [(a0, .inr (7, [.ref a0_tally, .int c0_count, .long c0_fitting, .int c0_bestTrial, .int c0_mostLeft])), (a0_tally, .inl (G.2.1, 10, .inl c0_tally))] [(0, .ref a0), (1, .int x1), (2, .int x2), (3, .int x3)] 28 [] := by
            intro n28
            induction n28 with
            | zero =>
              intro c0_bestTrial c0_mostLeft c0_tally x1 x2 x3 hf
              rw [fX7_seekTrial_L28] at hf
              cases hf
            | succ n28 ih28 =>
              intro c0_bestTrial c0_mostLeft c0_tally x1 x2 x3 hf
              rw [fX7_seekTrial_L28] at hf
              refine z_iload_n h dX7_seekTrial_28 3 rfl rfl ?_
              refine z_iconst h (v := (3 : Int32)) dX7_seekTrial_29 (by decide) rfl ?_
              refine z_icmp_gt h (tgt := 56) dX7_seekTrial_30 (by decide) rfl (fun c1 => ?_) (fun c1 => ?_)
              · have hf := ite_t hf c1
                refine z_iinc h (v := (x2 + (1 : Int32))) (lv2 := [(2, .int (x2 + (1 : Int32))), (0, .ref a0), (1, .int x1), (3, .int x3)]) (j := 2) dX7_seekTrial_56 rfl rfl (by decide) rfl rfl ?_
                refine z_goto h (tgt := 21) dX7_seekTrial_59 (by decide) ?_
                refine z_locs h (lv2 := [(0, .ref a0), (1, .int x1), (2, .int (x2 + (1 : Int32)))]) [1, 2, 0] rfl ?_
                exact ih21 c0_bestTrial c0_mostLeft c0_tally x1 (x2 + (1 : Int32)) hf
              have hf := ite_f hf c1
              refine z_aload_n h dX7_seekTrial_33 0 rfl rfl ?_
              refine z_iload_n h dX7_seekTrial_34 1 rfl rfl ?_
              refine z_iload_n h dX7_seekTrial_35 2 rfl rfl ?_
              refine z_iload_n h dX7_seekTrial_36 3 rfl rfl ?_
              obtain ⟨v2, hv2, hf⟩ := bd_some hf
              refine z_callV h (np := 3) (st := []) (wr := []) [.int x1, .int x2, .int x3] (ctX7_tallyWorths l G a0 a0_tally c0_count c0_fitting c0_bestTrial c0_mostLeft c0_tally x1 x2 x3 hv2) gX7_seekTrial_X7_tallyWorths (by decide +kernel) 0 rfl rfl rfl ⟨Nat.le_of_ble_eq_true rfl, Nat.le_of_ble_eq_true rfl⟩ ⟨Nat.le_refl _, Nat.le_refl _⟩ rfl rfl rfl [0, 1] [] rfl rfl rfl rfl (by decide) (Nat.le_of_ble_eq_true rfl) dX7_seekTrial_37 rfl rfl (fun rv2 wv2 hrv2 => ?_)
              obtain ⟨rfl, rfl⟩ := hrv2
              refine z_perm h (w2 := [(a0, .inr (7, [.ref a0_tally, .int c0_count, .long c0_fitting, .int c0_bestTrial, .int c0_mostLeft])), (a0_tally, .inl (G.2.1, 10, .inl v2))]) (st := []) [0, 1] rfl rfl ?_
              refine z_aload_n h dX7_seekTrial_40 0 rfl rfl ?_
              refine z_iload_n h dX7_seekTrial_41 1 rfl rfl ?_
              refine z_iload_n h dX7_seekTrial_42 2 rfl rfl ?_
              refine z_iload_n h dX7_seekTrial_43 3 rfl rfl ?_
              obtain ⟨v3, hv3, hf⟩ := bd_some hf
              refine z_callSN h (np := 3) (st := [.ref a0]) (wr := [(a0, .inr (7, [.ref a0_tally, .int c0_count, .long c0_fitting, .int c0_bestTrial, .int c0_mostLeft])), (a0_tally, .inl (G.2.1, 10, .inl v2))]) [.int x1, .int x2, .int x3] (ctX11_code l G x1 x2 x3 hv3) gX7_seekTrial_X11_code_n33 (by decide +kernel) (by decide +kernel) (by decide +kernel) (by decide +kernel) rfl ⟨Nat.le_of_ble_eq_true rfl, Nat.le_of_ble_eq_true rfl⟩ ⟨Nat.le_refl _, Nat.le_refl _⟩ rfl rfl rfl [] [0, 1] rfl rfl rfl rfl (by decide) (Nat.le_of_ble_eq_true rfl) dX7_seekTrial_44 rfl rfl (fun rv3 wv3 hrv3 => ?_)
              obtain ⟨rfl, rfl⟩ := hrv3
              refine z_perm h (w2 := [(a0, .inr (7, [.ref a0_tally, .int c0_count, .long c0_fitting, .int c0_bestTrial, .int c0_mostLeft])), (a0_tally, .inl (G.2.1, 10, .inl v2))]) (st := [.int v3, .ref a0]) [0, 1] rfl rfl ?_
              obtain ⟨v4, hv4, hf⟩ := bd_some hf
              refine z_callV h (np := 1) (st := []) (wr := []) [.int v3] (ctX7_considerDebts l G a0 a0_tally c0_count c0_fitting c0_bestTrial c0_mostLeft v2 v3 hv4) gX7_seekTrial_X7_considerDebts (by decide +kernel) 0 rfl rfl rfl ⟨Nat.le_of_ble_eq_true rfl, Nat.le_of_ble_eq_true rfl⟩ ⟨Nat.le_refl _, Nat.le_refl _⟩ rfl rfl rfl [0, 1] [] rfl rfl rfl rfl (by decide) (Nat.le_of_ble_eq_true rfl) dX7_seekTrial_47 rfl rfl (fun rv4 wv4 hrv4 => ?_)
              obtain ⟨rfl, rfl⟩ := hrv4
              refine z_perm h (w2 := [(a0, .inr (7, [.ref a0_tally, .int c0_count, .long c0_fitting, .int v4.1, .int v4.2])), (a0_tally, .inl (G.2.1, 10, .inl v2))]) (st := []) [0, 1] rfl rfl ?_
              refine z_iinc h (v := (x3 + (1 : Int32))) (lv2 := [(3, .int (x3 + (1 : Int32))), (0, .ref a0), (1, .int x1), (2, .int x2)]) (j := 3) dX7_seekTrial_50 rfl rfl (by decide) rfl rfl ?_
              refine z_goto h (tgt := 28) dX7_seekTrial_53 (by decide) ?_
              refine z_locs h (lv2 := [(0, .ref a0), (1, .int x1), (2, .int x2), (3, .int (x3 + (1 : Int32)))]) [1, 2, 3, 0] rfl ?_
              exact ih28 v4.1 v4.2 v2 x1 x2 (x3 + (1 : Int32)) hf
          intro c0_bestTrial c0_mostLeft c0_tally x1 x2 hf
          rw [fX7_seekTrial_L21] at hf
          refine z_iload_n h dX7_seekTrial_21 2 rfl rfl ?_
          refine z_iconst h (v := (3 : Int32)) dX7_seekTrial_22 (by decide) rfl ?_
          refine z_icmp_gt h (tgt := 62) dX7_seekTrial_23 (by decide) rfl (fun c5 => ?_) (fun c5 => ?_)
          · have hf := ite_t hf c5
            refine z_iinc h (v := (x1 + (1 : Int32))) (lv2 := [(1, .int (x1 + (1 : Int32))), (0, .ref a0), (2, .int x2)]) (j := 1) dX7_seekTrial_62 rfl rfl (by decide) rfl rfl ?_
            refine z_goto h (tgt := 14) dX7_seekTrial_65 (by decide) ?_
            refine z_locs h (lv2 := [(0, .ref a0), (1, .int (x1 + (1 : Int32)))]) [1, 0] rfl ?_
            exact ih14 c0_bestTrial c0_mostLeft c0_tally (x1 + (1 : Int32)) hf
          have hf := ite_f hf c5
          refine z_iconst h (v := (0 : Int32)) dX7_seekTrial_26 (by decide) rfl ?_
          refine z_istore_n h (lv2 := [(3, .int (0 : Int32)), (0, .ref a0), (1, .int x1), (2, .int x2)]) dX7_seekTrial_27 (by decide) rfl rfl ?_
          refine z_locs h (lv2 := [(0, .ref a0), (1, .int x1), (2, .int x2), (3, .int (0 : Int32))]) [1, 2, 3, 0] rfl ?_
          exact hL28 zF c0_bestTrial c0_mostLeft c0_tally x1 x2 (0 : Int32) hf
      intro c0_bestTrial c0_mostLeft c0_tally x1 hf
      rw [fX7_seekTrial_L14] at hf
      refine z_iload_n h dX7_seekTrial_14 1 rfl rfl ?_
      refine z_iconst h (v := (3 : Int32)) dX7_seekTrial_15 (by decide) rfl ?_
      refine z_icmp_gt h (tgt := 68) dX7_seekTrial_16 (by decide) rfl (fun c6 => ?_) (fun c6 => ?_)
      · have hf := ite_t hf c6
        have hf := Option.some.inj hf
        subst hf
        exact hret _ _ _ dX7_seekTrial_68 ⟨rfl, rfl⟩
      have hf := ite_f hf c6
      refine z_iconst h (v := (0 : Int32)) dX7_seekTrial_19 (by decide) rfl ?_
      refine z_istore_n h (lv2 := [(2, .int (0 : Int32)), (0, .ref a0), (1, .int x1)]) dX7_seekTrial_20 (by decide) rfl rfl ?_
      refine z_locs h (lv2 := [(0, .ref a0), (1, .int x1), (2, .int (0 : Int32))]) [1, 2, 0] rfl ?_
      exact hL21 zF c0_bestTrial c0_mostLeft c0_tally x1 (0 : Int32) hf
  rw [fX7_seekTrial] at hf
  show Z 0 0 _ [(0, .ref a0)] 0 []
  refine z_aload_n h dX7_seekTrial_0 0 rfl rfl ?_
  refine z_bipush h (v := (-6 : Int32)) dX7_seekTrial_1 (by decide) rfl ?_
  refine z_put h (C := RX7) (T := TX7) (N := 5) 0 rfl rfl 3 (by decide) (by decide +kernel) (by decide +kernel) tyX7 tyX7_ok nmX7 (w2 := [(a0, .inr (7, [.ref a0_tally, .int c0_count, .long c0_fitting, .int (-6 : Int32), .int c0_mostLeft])), (a0_tally, .inl (G.2.1, 10, .inl c0_tally))]) rfl rfl rfl (Nat.le_of_ble_eq_true rfl) rfl dX7_seekTrial_3 rfl ?_
  refine z_aload_n h dX7_seekTrial_6 0 rfl rfl ?_
  refine z_bipush h (v := (65 : Int32)) dX7_seekTrial_7 (by decide) rfl ?_
  refine z_put h (C := RX7) (T := TX7) (N := 5) 0 rfl rfl 4 (by decide) (by decide +kernel) (by decide +kernel) tyX7 tyX7_ok nmX7 (w2 := [(a0, .inr (7, [.ref a0_tally, .int c0_count, .long c0_fitting, .int (-6 : Int32), .int (65 : Int32)])), (a0_tally, .inl (G.2.1, 10, .inl c0_tally))]) rfl rfl rfl (Nat.le_of_ble_eq_true rfl) rfl dX7_seekTrial_9 rfl ?_
  refine z_iconst h (v := (0 : Int32)) dX7_seekTrial_12 (by decide) rfl ?_
  refine z_istore_n h (lv2 := [(1, .int (0 : Int32)), (0, .ref a0)]) dX7_seekTrial_13 (by decide) rfl rfl ?_
  refine z_locs h (lv2 := [(0, .ref a0), (1, .int (0 : Int32))]) [1, 0] rfl ?_
  exact hL14 zF (-6 : Int32) (65 : Int32) c0_tally (0 : Int32) hf
