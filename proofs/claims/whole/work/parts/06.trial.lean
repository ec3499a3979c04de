def fX5_sheetsFor_b22 (x0 : Int32) (x1 : Int32)  (s0 : Int32) : Option (Int32) := (some s0)
def fX5_sheetsFor  (x0 : Int32) (x1 : Int32) : Option (Int32) := (if (0 : Int32) < x0 then (if (0 : Int32) < x1 then gd (x1 != 0) ((fX5_sheetsFor_b22 x0 x1  (((x0 + x1) - (1 : Int32)) / x1))) else (fX5_sheetsFor_b22 x0 x1  (10 : Int32))) else (some (0 : Int32)))
abbrev rmX5_sheetsFor : Room := { frames := 0, cells := 0, slots := 0, locals := 0 }
set_option maxRecDepth 100000 in
set_option maxHeartbeats 4000000 in
theorem ctX5_sheetsFor (l : Launch) (G : zG)  (x0 : Int32) (x1 : Int32) {R : Int32} (hf : fX5_sheetsFor x0 x1 = some R) : zCt l yX5_sheetsFor wsX5_sheetsFor rmX5_sheetsFor G [] [.int x0, .int x1] (fun v w => v = some (.int (R)) ∧ w = []) := by
  refine zMkI (own := RX5) false (by decide) (by decide +kernel) rfl rfl (Nat.le_of_ble_eq_true rfl) ?_
  intro Z h hret
  have hB22 : ∀ (s0 : Int32), fX5_sheetsFor_b22 x0 x1  s0 = some R → Z 0 0 [] [] 22 [.int s0] := by
    intro s0 hf
    rw [fX5_sheetsFor_b22] at hf
    have hf := Option.some.inj hf
    subst hf
    exact hret _ _ _ _ dX5_sheetsFor_22 ⟨rfl, rfl⟩
  rw [fX5_sheetsFor] at hf
  show Z 0 0 _ [(0, .int x0), (1, .int x1)] 0 []
  refine z_iload_n h dX5_sheetsFor_0 0 rfl rfl ?_
  refine z_if_gt h (tgt := 6) dX5_sheetsFor_1 (by decide) rfl (fun c1 => ?_) (fun c1 => ?_)
  · have hf := ite_t hf c1
    refine z_iload_n h dX5_sheetsFor_6 1 rfl rfl ?_
    refine z_if_gt h (tgt := 15) dX5_sheetsFor_7 (by decide) rfl (fun c2 => ?_) (fun c2 => ?_)
    · have hf := ite_t hf c2
      refine z_iload_n h dX5_sheetsFor_15 0 rfl rfl ?_
      refine z_iload_n h dX5_sheetsFor_16 1 rfl rfl ?_
      refine z_iadd h dX5_sheetsFor_17 rfl ?_
      refine z_iconst h (v := (1 : Int32)) dX5_sheetsFor_18 (by decide) rfl ?_
      refine z_isub h dX5_sheetsFor_19 rfl ?_
      refine z_iload_n h dX5_sheetsFor_20 1 rfl rfl ?_
      obtain ⟨hg3, hf⟩ := gd_some hf
      refine z_idiv h dX5_sheetsFor_21 (nz_ne hg3) rfl ?_
      refine z_locs h (lv2 := []) [] rfl ?_
      exact hB22 (((x0 + x1) - (1 : Int32)) / x1) hf
    have hf := ite_f hf c2
    refine z_bipush h (v := (10 : Int32)) dX5_sheetsFor_10 (by decide) rfl ?_
    refine z_goto h (tgt := 22) dX5_sheetsFor_12 (by decide) ?_
    refine z_locs h (lv2 := []) [] rfl ?_
    exact hB22 (10 : Int32) hf
  have hf := ite_f hf c1
  refine z_iconst h (v := (0 : Int32)) dX5_sheetsFor_4 (by decide) rfl ?_
  have hf := Option.some.inj hf
  subst hf
  exact hret _ _ _ _ dX5_sheetsFor_5 ⟨rfl, rfl⟩
def fX5_consider_b41 (x1 : Int32) (x2 : Int32) (x3 : Int32)  (c0_goods : Int32) (c0_which : Int32) : Option (Int32 × Int32) := (some (c0_goods, c0_which))
def fX5_consider_b25 (x1 : Int32) (x2 : Int32) (x3 : Int32)  (c0_goods : Int32) (c0_which : Int32) (x4 : Int32) : Option (Int32 × Int32) := Option.bind (fX11_code x1 x2 x3) (fun v1 => (fX5_consider_b41 x1 x2 x3  x4 v1))
def fX5_consider (c0_goods : Int32) (c0_which : Int32) (x1 : Int32) (x2 : Int32) (x3 : Int32) : Option (Int32 × Int32) := (if c0_goods = (-6 : Int32) then (fX5_consider_b25 x1 x2 x3  c0_goods c0_which ((x1 + x2) + x3)) else (if c0_goods ≤ ((x1 + x2) + x3) then (fX5_consider_b41 x1 x2 x3  c0_goods c0_which) else (fX5_consider_b25 x1 x2 x3  c0_goods c0_which ((x1 + x2) + x3))))
abbrev rmX5_consider : Room := { frames := 1, cells := 0, slots := 0, locals := 22 }
set_option maxRecDepth 100000 in
set_option maxHeartbeats 4000000 in
theorem ctX5_consider (l : Launch) (G : zG) (a0 : Nat) (c0_goods : Int32) (c0_which : Int32) (x1 : Int32) (x2 : Int32) (x3 : Int32) {R : Int32 × Int32} (hf : fX5_consider c0_goods c0_which x1 x2 x3 = some R) : zCt l yX5_consider wsX5_consider rmX5_consider G [(a0, .inr (5, [.int c0_goods, .int c0_which]))] [.ref a0, .int x1, .int x2, .int x3] (fun v w => v = none ∧ w = [(a0, .inr (5, [.int (R.1), .int (R.2)]))]) := by
  refine zMkV (own := RX5) false (by decide) (by decide +kernel) rfl rfl (Nat.le_of_ble_eq_true rfl) ?_
  intro Z h hret
  have hB41 : ∀ (c0_goods : Int32) (c0_which : Int32), fX5_consider_b41 x1 x2 x3  c0_goods c0_which = some R → Z 0 0 [(a0, .inr (5, [.int c0_goods, .int c0_which]))] [] 41 [] := by
    intro c0_goods c0_which hf
    rw [fX5_consider_b41] at hf
    have hf := Option.some.inj hf
    subst hf
    exact hret _ _ _ dX5_consider_41 ⟨rfl, rfl⟩
  have hB25 : ∀ (c0_goods : Int32) (c0_which : Int32) (x4 : Int32), fX5_consider_b25 x1 x2 x3  c0_goods c0_which x4 = some R → Z 0 0 [(a0, .inr (5, [.int c0_goods, .int c0_which]))] [(0, .ref a0), (1, .int x1), (2, .int x2), (3, .int x3), (4, .int x4)] 25 [] := by
    intro c0_goods c0_which x4 hf
    rw [fX5_consider_b25] at hf
    refine z_aload_n h dX5_consider_25 0 rfl rfl ?_
    refine z_iload h dX5_consider_26 4 rfl rfl ?_
    refine z_put h (C := RX5) (T := TX5) (N := 2) 0 rfl rfl 0 (by decide) (by decide +kernel) (by decide +kernel) tyX5 tyX5_ok nmX5 (w2 := [(a0, .inr (5, [.int x4, .int c0_which]))]) rfl rfl rfl (Nat.le_of_ble_eq_true rfl) rfl dX5_consider_28 rfl ?_
    refine z_aload_n h dX5_consider_31 0 rfl rfl ?_
    refine z_iload_n h dX5_consider_32 1 rfl rfl ?_
    refine z_iload_n h dX5_consider_33 2 rfl rfl ?_
    refine z_iload_n h dX5_consider_34 3 rfl rfl ?_
    obtain ⟨v1, hv1, hf⟩ := bd_some hf
    refine z_callSN h (np := 3) (st := [.ref a0]) (wr := [(a0, .inr (5, [.int x4, .int c0_which]))]) [.int x1, .int x2, .int x3] (ctX11_code l G x1 x2 x3 hv1) gX5_consider_X11_code_n38 (by decide +kernel) (by decide +kernel) (by decide +kernel) (by decide +kernel) rfl ⟨Nat.le_of_ble_eq_true rfl, Nat.le_of_ble_eq_true rfl⟩ ⟨Nat.le_refl _, Nat.le_refl _⟩ rfl rfl rfl [] [0] rfl rfl rfl rfl (by decide) (Nat.le_of_ble_eq_true rfl) dX5_consider_35 rfl rfl (fun rv1 wv1 hrv1 => ?_)
    obtain ⟨rfl, rfl⟩ := hrv1
    refine z_perm h (w2 := [(a0, .inr (5, [.int x4, .int c0_which]))]) (st := [.int v1, .ref a0]) [0] rfl rfl ?_
    refine z_put h (C := RX5) (T := TX5) (N := 2) 0 rfl rfl 1 (by decide) (by decide +kernel) (by decide +kernel) tyX5 tyX5_ok nmX5 (w2 := [(a0, .inr (5, [.int x4, .int v1]))]) rfl rfl rfl (Nat.le_of_ble_eq_true rfl) rfl dX5_consider_38 rfl ?_
    refine z_locs h (lv2 := []) [] rfl ?_
    exact hB41 x4 v1 hf
  rw [fX5_consider] at hf
  show Z 0 0 _ [(0, .ref a0), (1, .int x1), (2, .int x2), (3, .int x3)] 0 []
  refine z_iload_n h dX5_consider_0 1 rfl rfl ?_
  refine z_iload_n h dX5_consider_1 2 rfl rfl ?_
  refine z_iadd h dX5_consider_2 rfl ?_
  refine z_iload_n h dX5_consider_3 3 rfl rfl ?_
  refine z_iadd h dX5_consider_4 rfl ?_
  refine z_istore h (lv2 := [(4, .int ((x1 + x2) + x3)), (0, .ref a0), (1, .int x1), (2, .int x2), (3, .int x3)]) dX5_consider_5 (by decide) rfl rfl ?_
  refine z_aload_n h dX5_consider_7 1 rfl rfl ?_
  refine z_get h (C := RX5) (T := TX5) (N := 2) (v := .int c0_goods) 0 rfl rfl 0 (by decide) (by decide +kernel) (by decide +kernel) rfl dX5_consider_8 rfl ?_
  refine z_bipush h (v := (-6 : Int32)) dX5_consider_11 (by decide) rfl ?_
  refine z_icmp_eq h (tgt := 25) dX5_consider_13 (by decide) rfl (fun c2 => ?_) (fun c2 => ?_)
  · have hf := ite_t hf c2
    refine z_locs h (lv2 := [(0, .ref a0), (1, .int x1), (2, .int x2), (3, .int x3), (4, .int ((x1 + x2) + x3))]) [1, 2, 3, 4, 0] rfl ?_
    exact hB25 c0_goods c0_which ((x1 + x2) + x3) hf
  have hf := ite_f hf c2
  refine z_iload h dX5_consider_16 0 rfl rfl ?_
  refine z_aload_n h dX5_consider_18 1 rfl rfl ?_
  refine z_get h (C := RX5) (T := TX5) (N := 2) (v := .int c0_goods) 0 rfl rfl 0 (by decide) (by decide +kernel) (by decide +kernel) rfl dX5_consider_19 rfl ?_
  refine z_icmp_ge h (tgt := 41) dX5_consider_22 (by decide) rfl (fun c3 => ?_) (fun c3 => ?_)
  · have hf := ite_t hf c3
    refine z_locs h (lv2 := []) [] rfl ?_
    exact hB41 c0_goods c0_which hf
  have hf := ite_f hf c3
  refine z_locs h (lv2 := [(0, .ref a0), (1, .int x1), (2, .int x2), (3, .int x3), (4, .int ((x1 + x2) + x3))]) [1, 2, 3, 4, 0] rfl ?_
  exact hB25 c0_goods c0_which ((x1 + x2) + x3) hf
def fX5_seek_b98 (c1_goods : Nat → Int32) (c1_owes : Nat → Int32) (c1_liking : Nat → Int32) (x2 : Int32) (K14 : (Int32 → Int32 → Int32 → Option (Int32 × Int32))) (K27 : (Int32 → Int32 → Int32 → Int32 → Option (Int32 × Int32))) (c0_goods : Int32) (c0_which : Int32) (x3 : Int32) (x4 : Int32) : Option (Int32 × Int32) := (K27 c0_goods c0_which x3 (x4 + (1 : Int32)))
def fX5_seek_L27 (c1_goods : Nat → Int32) (c1_owes : Nat → Int32) (c1_liking : Nat → Int32) (x2 : Int32) (K14 : (Int32 → Int32 → Int32 → Option (Int32 × Int32))) : Nat → Int32 → Int32 → Int32 → Int32 → Option (Int32 × Int32)
  | 0, _, _, _, _ => none
  | n + 1, c0_goods, c0_which, x3, x4 => Option.bind (fX8_goodsOf c1_goods x2 (1 : Int32)) (fun v1 => (if v1 < x4 then (K14 c0_goods c0_which (x3 + (1 : Int32))) else gd (inb x2 6) (gd (inb (0 : Int32) 3) (gd (inb (1 : Int32) 3) (gd (inb (2 : Int32) 3) (Option.bind (fX5_sheetsFor (((c1_owes (x2).toNatClampNeg) - (x3 * (c1_liking ((0 : Int32)).toNatClampNeg))) - (x4 * (c1_liking ((1 : Int32)).toNatClampNeg))) (c1_liking ((2 : Int32)).toNatClampNeg)) (fun v7 => Option.bind (fX8_goodsOf c1_goods x2 (2 : Int32)) (fun v8 => (if v8 < v7 then (fX5_seek_b98 c1_goods c1_owes c1_liking x2 K14 (fX5_seek_L27 c1_goods c1_owes c1_liking x2 K14 n) c0_goods c0_which x3 x4) else Option.bind (fX5_consider c0_goods c0_which x3 x4 v7) (fun v10 => (fX5_seek_b98 c1_goods c1_owes c1_liking x2 K14 (fX5_seek_L27 c1_goods c1_owes c1_liking x2 K14 n) v10.1 v10.2 x3 x4)))))))))))
def fX5_seek_L14 (c1_goods : Nat → Int32) (c1_owes : Nat → Int32) (c1_liking : Nat → Int32) (x2 : Int32)  : Nat → Int32 → Int32 → Int32 → Option (Int32 × Int32)
  | 0, _, _, _ => none
  | n + 1, c0_goods, c0_which, x3 => Option.bind (fX8_goodsOf c1_goods x2 (0 : Int32)) (fun v11 => (if v11 < x3 then (some (c0_goods, c0_which)) else (fX5_seek_L27 c1_goods c1_owes c1_liking x2 (fX5_seek_L14 c1_goods c1_owes c1_liking x2  n) zF c0_goods c0_which x3 (0 : Int32))))
def fX5_seek (c0_goods : Int32) (c0_which : Int32) (c1_goods : Nat → Int32) (c1_owes : Nat → Int32) (c1_liking : Nat → Int32) (x2 : Int32) : Option (Int32 × Int32) := (fX5_seek_L14 c1_goods c1_owes c1_liking x2  zF (-6 : Int32) (-6 : Int32) (0 : Int32))
abbrev rmX5_seek : Room := { frames := 2, cells := 0, slots := 0, locals := 46 }
set_option maxRecDepth 100000 in
set_option maxHeartbeats 4000000 in
theorem ctX5_seek (l : Launch) (G : zG) (a0 a1 a1_air a1_cell a1_hours a1_owes a1_holds a1_lies a1_goods a1_liking : Nat) (c0_goods : Int32) (c0_which : Int32) (c1_hour : Int32) (c1_day : Int32) (c1_goods : Nat → Int32) (c1_owes : Nat → Int32) (c1_liking : Nat → Int32) (x2 : Int32) {R : Int32 × Int32} (hf : fX5_seek c0_goods c0_which c1_goods c1_owes c1_liking x2 = some R) : zCt l yX5_seek wsX5_seek rmX5_seek G [(a0, .inr (5, [.int c0_goods, .int c0_which])), (a1, .inr (8, [.ref a1_air, .ref a1_cell, .ref a1_hours, .ref a1_owes, .ref a1_holds, .ref a1_lies, .ref a1_goods, .ref a1_liking, .int c1_hour, .int c1_day])), (a1_goods, .inl (G.2.1, 18, .inl c1_goods)), (a1_owes, .inl (G.2.1, 6, .inl c1_owes)), (a1_liking, .inl (G.2.1, 3, .inl c1_liking))] [.ref a0, .ref a1, .int x2] (fun v w => v = none ∧ w = [(a0, .inr (5, [.int (R.1), .int (R.2)])), (a1, .inr (8, [.ref a1_air, .ref a1_cell, .ref a1_hours, .ref a1_owes, .ref a1_holds, .ref a1_lies, .ref a1_goods, .ref a1_liking, .int c1_hour, .int c1_day])), (a1_goods, .inl (G.2.1, 18, .inl c1_goods)), (a1_owes, .inl (G.2.1, 6, .inl c1_owes)), (a1_liking, .inl (G.2.1, 3, .inl c1_liking))]) := by
  refine zMkV (own := RX5) false (by decide) (by decide +kernel) rfl rfl (Nat.le_of_ble_eq_true rfl) ?_
  intro Z h hret
  have hL14 : ∀ (n14 : Nat) (c0_goods : Int32) (c0_which : Int32) (x3 : Int32), fX5_seek_L14 c1_goods c1_owes c1_liking x2  n14 c0_goods c0_which x3 = some R → Z 0 0 [(a0, .inr (5, [.int c0_goods, .int c0_which])), (a1, .inr (8, [.ref a1_air, .ref a1_cell, .ref a1_hours, .ref a1_owes, .ref a1_holds, .ref a1_lies, .ref a1_goods, .ref a1_liking, .int c1_hour, .int c1_day])), (a1_goods, .inl (G.2.1, 18, .inl c1_goods)), (a1_owes, .inl (G.2.1, 6, .inl c1_owes)), (a1_liking, .inl (G.2.1, 3, .inl c1_liking))] [(0, .ref a0), (1, .ref a1), (2, .int x2), (3, .int x3)] 14 [] := by
    intro n14
    induction n14 with
    | zero =>
      intro c0_goods c0_which x3 hf
      rw [fX5_seek_L14] at hf
      cases hf
    | succ n14 ih14 =>
      have hL27 : ∀ (n27 : Nat) (c0_goods : Int32) (c0_which : Int32) (x3 : Int32) (x4 : Int32), fX5_seek_L27 c1_goods c1_owes c1_liking x2 (fX5_seek_L14 c1_goods c1_owes c1_liking x2  n14) n27 c0_goods c0_which x3 x4 = some R → Z 0 0 [(a0, .inr (5, [.int c0_goods, .int c0_which])), (a1, .inr (8, [.ref a1_air, .ref a1_cell, .ref a1_hours, .ref a1_owes, .ref a1_holds, .ref a1_lies, .ref a1_goods, .ref a1_liking, .int c1_hour, .int c1_day])), (a1_goods, .inl (G.2.1, 18, .inl c1_goods)), (a1_owes, .inl (G.2.1, 6, .inl c1_owes)), (a1_liking, .inl (G.2.1, 3, .inl c1_liking))] [(0, .ref a0), (1, .ref a1), (2, .int x2), (3, .int x3), (4, .int x4)] 27 [] := by
        intro n27
        induction n27 with
        | zero =>
          intro c0_goods c0_which x3 x4 hf
          rw [fX5_seek_L27] at hf
          cases hf
        | succ n27 ih27 =>
          have hB98 : ∀ (c0_goods : Int32) (c0_which : Int32) (x3 : Int32) (x4 : Int32), fX5_seek_b98 c1_goods c1_owes c1_liking x2 (fX5_seek_L14 c1_goods c1_owes c1_liking x2  n14) (fX5_seek_L27 c1_goods c1_owes c1_liking x2 (fX5_seek_L14 c1_goods c1_owes c1_liking x2  n14) n27) c0_goods c0_which x3 x4 = some R → Z 0 0 [(a0, .inr (5, [.int c0_goods, .int c0_which])), (a1, .inr (8, [.ref a1_air, .ref a1_cell, .ref a1_hours, .ref a1_owes, .ref a1_holds, .ref a1_lies, .ref a1_goods, .ref a1_liking, .int c1_hour, .int c1_day])), (a1_goods, .inl (G.2.1, 18, .inl c1_goods)), (a1_owes, .inl (G.2.1, 6, .inl c1_owes)), (a1_liking, .inl (G.2.1, 3, .inl c1_liking))] [(0, .ref a0), (1, .ref a1), (2, .int x2), (3, .int x3), (4, .int x4)] 98 [] := by
            intro c0_goods c0_which x3 x4 hf
            rw [fX5_seek_b98] at hf
            refine z_iinc h (v := (x4 + (1 : Int32))) (lv2 := [(4, .int (x4 + (1 : Int32))), (0, .ref a0), (1, .ref a1), (2, .int x2), (3, .int x3)]) (j := 4) dX5_seek_98 rfl rfl (by decide) rfl rfl ?_
            refine z_goto h (tgt := 27) dX5_seek_101 (by decide) ?_
            refine z_locs h (lv2 := [(0, .ref a0), (1, .ref a1), (2, .int x2), (3, .int x3), (4, .int (x4 + (1 : Int32)))]) [1, 2, 3, 4, 0] rfl ?_
            exact ih27 c0_goods c0_which x3 (x4 + (1 : Int32)) hf
          intro c0_goods c0_which x3 x4 hf
          rw [fX5_seek_L27] at hf
          refine z_iload h dX5_seek_27 4 rfl rfl ?_
          refine z_aload_n h dX5_seek_29 1 rfl rfl ?_
          refine z_iload_n h dX5_seek_30 2 rfl rfl ?_
          refine z_iconst h (v := (1 : Int32)) dX5_seek_31 (by decide) rfl ?_
          obtain ⟨v1, hv1, hf⟩ := bd_some hf
          refine z_callV h (np := 2) (st := [.int x4]) (wr := [(a0, .inr (5, [.int c0_goods, .int c0_which])), (a1_owes, .inl (G.2.1, 6, .inl c1_owes)), (a1_liking, .inl (G.2.1, 3, .inl c1_liking))]) [.int x2, .int (1 : Int32)] (ctX8_goodsOf l G a1 a1_air a1_cell a1_hours a1_owes a1_holds a1_lies a1_goods a1_liking c1_hour c1_day c1_goods x2 (1 : Int32) hv1) gX5_seek_X8_goodsOf (by decide +kernel) 0 rfl rfl rfl ⟨Nat.le_of_ble_eq_true rfl, Nat.le_of_ble_eq_true rfl⟩ ⟨Nat.le_refl _, Nat.le_refl _⟩ rfl rfl rfl [1, 2] [0, 3, 4] rfl rfl rfl rfl (by decide) (Nat.le_of_ble_eq_true rfl) dX5_seek_32 rfl rfl (fun rv1 wv1 hrv1 => ?_)
          obtain ⟨rfl, rfl⟩ := hrv1
          refine z_perm h (w2 := [(a0, .inr (5, [.int c0_goods, .int c0_which])), (a1, .inr (8, [.ref a1_air, .ref a1_cell, .ref a1_hours, .ref a1_owes, .ref a1_holds, .ref a1_lies, .ref a1_goods, .ref a1_liking, .int c1_hour, .int c1_day])), (a1_goods, .inl (G.2.1, 18, .inl c1_goods)), (a1_owes, .inl (G.2.1, 6, .inl c1_owes)), (a1_liking, .inl (G.2.1, 3, .inl c1_liking))]) (st := [.int v1, .int x4]) [0, 3, 4, 1, 2] rfl rfl ?_
          refine z_icmp_gt h (tgt := 104) dX5_seek_35 (by decide) rfl (fun c2 => ?_) (fun c2 => ?_)
          · have hf := ite_t hf c2
            refine z_iinc h (v := (x3 + (1 : Int32))) (lv2 := [(3, .int (x3 + (1 : Int32))), (0, .ref a0), (1, .ref a1), (2, .int x2), (4, .int x4)]) (j := 3) dX5_seek_104 rfl rfl (by decide) rfl rfl ?_
            refine z_goto h (tgt := 14) dX5_seek_107 (by decide) ?_
            refine z_locs h (lv2 := [(0, .ref a0), (1, .ref a1), (2, .int x2), (3, .int (x3 + (1 : Int32)))]) [1, 2, 3, 0] rfl ?_
            exact ih14 c0_goods c0_which (x3 + (1 : Int32)) hf
          have hf := ite_f hf c2
          refine z_aload_n h dX5_seek_38 1 rfl rfl ?_
          refine z_get h (C := RX8) (T := TX8) (N := 10) (v := .ref a1_owes) 1 rfl rfl 3 (by decide) (by decide +kernel) (by decide +kernel) rfl dX5_seek_39 rfl ?_
          refine z_iload_n h dX5_seek_42 2 rfl rfl ?_
          obtain ⟨hg3, hf⟩ := gd_some hf
          refine z_iald h 3 rfl rfl hg3 dX5_seek_43 rfl ?_
          refine z_iload_n h dX5_seek_44 3 rfl rfl ?_
          refine z_aload_n h dX5_seek_45 1 rfl rfl ?_
          refine z_get h (C := RX8) (T := TX8) (N := 10) (v := .ref a1_liking) 1 rfl rfl 7 (by decide) (by decide +kernel) (by decide +kernel) rfl dX5_seek_46 rfl ?_
          refine z_iconst h (v := (0 : Int32)) dX5_seek_49 (by decide) rfl ?_
          obtain ⟨hg4, hf⟩ := gd_some hf
          refine z_iald h 4 rfl rfl hg4 dX5_seek_50 rfl ?_
          refine z_imul h dX5_seek_51 rfl ?_
          refine z_isub h dX5_seek_52 rfl ?_
          refine z_iload h dX5_seek_53 4 rfl rfl ?_
          refine z_aload_n h dX5_seek_55 1 rfl rfl ?_
          refine z_get h (C := RX8) (T := TX8) (N := 10) (v := .ref a1_liking) 1 rfl rfl 7 (by decide) (by decide +kernel) (by decide +kernel) rfl dX5_seek_56 rfl ?_
          refine z_iconst h (v := (1 : Int32)) dX5_seek_59 (by decide) rfl ?_
          obtain ⟨hg5, hf⟩ := gd_some hf
          refine z_iald h 4 rfl rfl hg5 dX5_seek_60 rfl ?_
          refine z_imul h dX5_seek_61 rfl ?_
          refine z_isub h dX5_seek_62 rfl ?_
          refine z_istore h (lv2 := [(5, .int (((c1_owes (x2).toNatClampNeg) - (x3 * (c1_liking ((0 : Int32)).toNatClampNeg))) - (x4 * (c1_liking ((1 : Int32)).toNatClampNeg)))), (0, .ref a0), (1, .ref a1), (2, .int x2), (3, .int x3), (4, .int x4)]) dX5_seek_63 (by decide) rfl rfl ?_
          refine z_iload h dX5_seek_65 0 rfl rfl ?_
          refine z_aload_n h dX5_seek_67 2 rfl rfl ?_
          refine z_get h (C := RX8) (T := TX8) (N := 10) (v := .ref a1_liking) 1 rfl rfl 7 (by decide) (by decide +kernel) (by decide +kernel) rfl dX5_seek_68 rfl ?_
          refine z_iconst h (v := (2 : Int32)) dX5_seek_71 (by decide) rfl ?_
          obtain ⟨hg6, hf⟩ := gd_some hf
          refine z_iald h 4 rfl rfl hg6 dX5_seek_72 rfl ?_
          obtain ⟨v7, hv7, hf⟩ := bd_some hf
          refine z_callS h (np := 2) (st := []) (wr := [(a0, .inr (5, [.int c0_goods, .int c0_which])), (a1, .inr (8, [.ref a1_air, .ref a1_cell, .ref a1_hours, .ref a1_owes, .ref a1_holds, .ref a1_lies, .ref a1_goods, .ref a1_liking, .int c1_hour, .int c1_day])), (a1_goods, .inl (G.2.1, 18, .inl c1_goods)), (a1_owes, .inl (G.2.1, 6, .inl c1_owes)), (a1_liking, .inl (G.2.1, 3, .inl c1_liking))]) [.int (((c1_owes (x2).toNatClampNeg) - (x3 * (c1_liking ((0 : Int32)).toNatClampNeg))) - (x4 * (c1_liking ((1 : Int32)).toNatClampNeg))), .int (c1_liking ((2 : Int32)).toNatClampNeg)] (ctX5_sheetsFor l G (((c1_owes (x2).toNatClampNeg) - (x3 * (c1_liking ((0 : Int32)).toNatClampNeg))) - (x4 * (c1_liking ((1 : Int32)).toNatClampNeg))) (c1_liking ((2 : Int32)).toNatClampNeg) hv7) gX5_seek_X5_sheetsFor (by decide +kernel) rfl ⟨Nat.le_of_ble_eq_true rfl, Nat.le_of_ble_eq_true rfl⟩ ⟨Nat.le_refl _, Nat.le_refl _⟩ rfl rfl rfl [] [0, 1, 2, 3, 4] rfl rfl rfl rfl (by decide) (Nat.le_of_ble_eq_true rfl) dX5_seek_73 rfl rfl (fun rv7 wv7 hrv7 => ?_)
          obtain ⟨rfl, rfl⟩ := hrv7
          refine z_perm h (w2 := [(a0, .inr (5, [.int c0_goods, .int c0_which])), (a1, .inr (8, [.ref a1_air, .ref a1_cell, .ref a1_hours, .ref a1_owes, .ref a1_holds, .ref a1_lies, .ref a1_goods, .ref a1_liking, .int c1_hour, .int c1_day])), (a1_goods, .inl (G.2.1, 18, .inl c1_goods)), (a1_owes, .inl (G.2.1, 6, .inl c1_owes)), (a1_liking, .inl (G.2.1, 3, .inl c1_liking))]) (st := [.int v7]) [0, 1, 2, 3, 4] rfl rfl ?_
          refine z_istore h (lv2 := [(6, .int v7), (5, .int (((c1_owes (x2).toNatClampNeg) - (x3 * (c1_liking ((0 : Int32)).toNatClampNeg))) - (x4 * (c1_liking ((1 : Int32)).toNatClampNeg)))), (0, .ref a0), (1, .ref a1), (2, .int x2), (3, .int x3), (4, .int x4)]) dX5_seek_76 (by decide) rfl rfl ?_
          refine z_iload h dX5_seek_78 0 rfl rfl ?_
          refine z_aload_n h dX5_seek_80 3 rfl rfl ?_
          refine z_iload_n h dX5_seek_81 4 rfl rfl ?_
          refine z_iconst h (v := (2 : Int32)) dX5_seek_82 (by decide) rfl ?_
          obtain ⟨v8, hv8, hf⟩ := bd_some hf
          refine z_callV h (np := 2) (st := [.int v7]) (wr := [(a0, .inr (5, [.int c0_goods, .int c0_which])), (a1_owes, .inl (G.2.1, 6, .inl c1_owes)), (a1_liking, .inl (G.2.1, 3, .inl c1_liking))]) [.int x2, .int (2 : Int32)] (ctX8_goodsOf l G a1 a1_air a1_cell a1_hours a1_owes a1_holds a1_lies a1_goods a1_liking c1_hour c1_day c1_goods x2 (2 : Int32) hv8) gX5_seek_X8_goodsOf (by decide +kernel) 0 rfl rfl rfl ⟨Nat.le_of_ble_eq_true rfl, Nat.le_of_ble_eq_true rfl⟩ ⟨Nat.le_refl _, Nat.le_refl _⟩ rfl rfl rfl [1, 2] [0, 3, 4] rfl rfl rfl rfl (by decide) (Nat.le_of_ble_eq_true rfl) dX5_seek_83 rfl rfl (fun rv8 wv8 hrv8 => ?_)
          obtain ⟨rfl, rfl⟩ := hrv8
          refine z_perm h (w2 := [(a0, .inr (5, [.int c0_goods, .int c0_which])), (a1, .inr (8, [.ref a1_air, .ref a1_cell, .ref a1_hours, .ref a1_owes, .ref a1_holds, .ref a1_lies, .ref a1_goods, .ref a1_liking, .int c1_hour, .int c1_day])), (a1_goods, .inl (G.2.1, 18, .inl c1_goods)), (a1_owes, .inl (G.2.1, 6, .inl c1_owes)), (a1_liking, .inl (G.2.1, 3, .inl c1_liking))]) (st := [.int v8, .int v7]) [0, 3, 4, 1, 2] rfl rfl ?_
          refine z_icmp_gt h (tgt := 98) dX5_seek_86 (by decide) rfl (fun c9 => ?_) (fun c9 => ?_)
          · have hf := ite_t hf c9
            refine z_locs h (lv2 := [(0, .ref a0), (1, .ref a1), (2, .int x2), (3, .int x3), (4, .int x4)]) [2, 3, 4, 5, 6] rfl ?_
            exact hB98 c0_goods c0_which x3 x4 hf
          have hf := ite_f hf c9
          refine z_aload_n h dX5_seek_89 2 rfl rfl ?_
          refine z_iload_n h dX5_seek_90 5 rfl rfl ?_
          refine z_iload h dX5_seek_91 6 rfl rfl ?_
          refine z_iload h dX5_seek_93 0 rfl rfl ?_
          obtain ⟨v10, hv10, hf⟩ := bd_some hf
          refine z_callV h (np := 3) (st := []) (wr := [(a1, .inr (8, [.ref a1_air, .ref a1_cell, .ref a1_hours, .ref a1_owes, .ref a1_holds, .ref a1_lies, .ref a1_goods, .ref a1_liking, .int c1_hour, .int c1_day])), (a1_goods, .inl (G.2.1, 18, .inl c1_goods)), (a1_owes, .inl (G.2.1, 6, .inl c1_owes)), (a1_liking, .inl (G.2.1, 3, .inl c1_liking))]) [.int x3, .int x4, .int v7] (ctX5_consider l G a0 c0_goods c0_which x3 x4 v7 hv10) gX5_seek_X5_consider (by decide +kernel) 0 rfl rfl rfl ⟨Nat.le_of_ble_eq_true rfl, Nat.le_of_ble_eq_true rfl⟩ ⟨Nat.le_refl _, Nat.le_refl _⟩ rfl rfl rfl [0] [1, 2, 3, 4] rfl rfl rfl rfl (by decide) (Nat.le_of_ble_eq_true rfl) dX5_seek_95 rfl rfl (fun rv10 wv10 hrv10 => ?_)
          obtain ⟨rfl, rfl⟩ := hrv10
          refine z_perm h (w2 := [(a0, .inr (5, [.int v10.1, .int v10.2])), (a1, .inr (8, [.ref a1_air, .ref a1_cell, .ref a1_hours, .ref a1_owes, .ref a1_holds, .ref a1_lies, .ref a1_goods, .ref a1_liking, .int c1_hour, .int c1_day])), (a1_goods, .inl (G.2.1, 18, .inl c1_goods)), (a1_owes, .inl (G.2.1, 6, .inl c1_owes)), (a1_liking, .inl (G.2.1, 3, .inl c1_liking))]) (st := []) [4, 0, 1, 2, 3] rfl rfl ?_
          refine z_locs h (lv2 := [(0, .ref a0), (1, .ref a1), (2, .int x2), (3, .int x3), (4, .int x4)]) [2, 3, 4, 5, 6] rfl ?_
          exact hB98 v10.1 v10.2 x3 x4 hf
      intro c0_goods c0_which x3 hf
      rw [fX5_seek_L14] at hf
      refine z_iload_n h dX5_seek_14 3 rfl rfl ?_
      refine z_aload_n h dX5_seek_15 1 rfl rfl ?_
      refine z_iload_n h dX5_seek_16 2 rfl rfl ?_
      refine z_iconst h (v := (0 : Int32)) dX5_seek_17 (by decide) rfl ?_
      obtain ⟨v11, hv11, hf⟩ := bd_some hf
      refine z_callV h (np := 2) (st := [.int x3]) (wr := [(a0, .inr (5, [.int c0_goods, .int c0_which])), (a1_owes, .inl (G.2.1, 6, .inl c1_owes)), (a1_liking, .inl (G.2.1, 3, .inl c1_liking))]) [.int x2, .int (0 : Int32)] (ctX8_goodsOf l G a1 a1_air a1_cell a1_hours a1_owes a1_holds a1_lies a1_goods a1_liking c1_hour c1_day c1_goods x2 (0 : Int32) hv11) gX5_seek_X8_goodsOf (by decide +kernel) 0 rfl rfl rfl ⟨Nat.le_of_ble_eq_true rfl, Nat.le_of_ble_eq_true rfl⟩ ⟨Nat.le_refl _, Nat.le_refl _⟩ rfl rfl rfl [1, 2] [0, 3, 4] rfl rfl rfl rfl (by decide) (Nat.le_of_ble_eq_true rfl) dX5_seek_18 rfl rfl (fun rv11 wv11 hrv11 => ?_)
      obtain ⟨rfl, rfl⟩ := hrv11
      refine z_perm h (w2 := [(a0, .inr (5, [.int c0_goods, .int c0_which])), (a1, .inr (8, [.ref a1_air, .ref a1_cell, .ref a1_hours, .ref a1_owes, .ref a1_holds, .ref a1_lies, .ref a1_goods, .ref a1_liking, .int c1_hour, .int c1_day])), (a1_goods, .inl (G.2.1, 18, .inl c1_goods)), (a1_owes, .inl (G.2.1, 6, .inl c1_owes)), (a1_liking, .inl (G.2.1, 3, .inl c1_liking))]) (st := [.int v11, .int x3]) [0, 3, 4, 1, 2] rfl rfl ?_
      refine z_icmp_gt h (tgt := 110) dX5_seek_21 (by decide) rfl (fun c12 => ?_) (fun c12 => ?_)
      · have hf := ite_t hf c12
        have hf := Option.some.inj hf
        subst hf
        exact hret _ _ _ dX5_seek_110 ⟨rfl, rfl⟩
      have hf := ite_f hf c12
      refine z_iconst h (v := (0 : Int32)) dX5_seek_24 (by decide) rfl ?_
      refine z_istore h (lv2 := [(4, .int (0 : Int32)), (0, .ref a0), (1, .ref a1), (2, .int x2), (3, .int x3)]) dX5_seek_25 (by decide) rfl rfl ?_
      refine z_locs h (lv2 := [(0, .ref a0), (1, .ref a1), (2, .int x2), (3, .int x3), (4, .int (0 : Int32))]) [1, 2, 3, 4, 0] rfl ?_
      exact hL27 zF c0_goods c0_which x3 (0 : Int32) hf
  rw [fX5_seek] at hf
  show Z 0 0 _ [(0, .ref a0), (1, .ref a1), (2, .int x2)] 0 []
  refine z_aload_n h dX5_seek_0 0 rfl rfl ?_
  refine z_bipush h (v := (-6 : Int32)) dX5_seek_1 (by decide) rfl ?_
  refine z_put h (C := RX5) (T := TX5) (N := 2) 0 rfl rfl 0 (by decide) (by decide +kernel) (by decide +kernel) tyX5 tyX5_ok nmX5 (w2 := [(a0, .inr (5, [.int (-6 : Int32), .int c0_which])), (a1, .inr (8, [.ref a1_air, .ref a1_cell, .ref a1_hours, .ref a1_owes, .ref a1_holds, .ref a1_lies, .ref a1_goods, .ref a1_liking, .int c1_hour, .int c1_day])), (a1_goods, .inl (G.2.1, 18, .inl c1_goods)), (a1_owes, .inl (G.2.1, 6, .inl c1_owes)), (a1_liking, .inl (G.2.1, 3, .inl c1_liking))]) rfl rfl rfl (Nat.le_of_ble_eq_true rfl) rfl dX5_seek_3 rfl ?_
  refine z_aload_n h dX5_seek_6 0 rfl rfl ?_
  refine z_bipush h (v := (-6 : Int32)) dX5_seek_7 (by decide) rfl ?_
  refine z_put h (C := RX5) (T := TX5) (N := 2) 0 rfl rfl 1 (by decide) (by decide +kernel) (by decide +kernel) tyX5 tyX5_ok nmX5 (w2 := [(a0, .inr (5, [.int (-6 : Int32), .int (-6 : Int32)])), (a1, .inr (8, [.ref a1_air, .ref a1_cell, .ref a1_hours, .ref a1_owes, .ref a1_holds, .ref a1_lies, .ref a1_goods, .ref a1_liking, .int c1_hour, .int c1_day])), (a1_goods, .inl (G.2.1, 18, .inl c1_goods)), (a1_owes, .inl (G.2.1, 6, .inl c1_owes)), (a1_liking, .inl (G.2.1, 3, .inl c1_liking))]) rfl rfl rfl (Nat.le_of_ble_eq_true rfl) rfl dX5_seek_9 rfl ?_
  refine z_iconst h (v := (0 : Int32)) dX5_seek_12 (by decide) rfl ?_
  refine z_istore_n h (lv2 := [(3, .int (0 : Int32)), (0, .ref a0), (1, .ref a1), (2, .int x2)]) dX5_seek_13 (by decide) rfl rfl ?_
  refine z_locs h (lv2 := [(0, .ref a0), (1, .ref a1), (2, .int x2), (3, .int (0 : Int32))]) [1, 2, 3, 0] rfl ?_
  exact hL14 zF (-6 : Int32) (-6 : Int32) (0 : Int32) hf
def fX6_withinReach_b49 (c0_hour : Int32) (c0_hours : Nat → Int32) (c0_owes : Nat → Int32) (c0_cell : Nat → Int32) (x1 : Int32) (x2 : Int32) (K5 : (Int32 → Int32 → Option (Int32))) (x3 : Int32) (x4 : Int32) : Option (Int32) := (K5 x3 (x4 + (1 : Int32)))
def fX6_withinReach_L5 (c0_hour : Int32) (c0_hours : Nat → Int32) (c0_owes : Nat → Int32) (c0_cell : Nat → Int32) (x1 : Int32) (x2 : Int32)  : Nat → Int32 → Int32 → Option (Int32)
  | 0, _, _ => none
  | n + 1, x3, x4 => (if (6 : Int32) ≤ x4 then (some x3) else Option.bind (fX8_atPeace c0_hour c0_hours c0_owes x4) (fun v2 => (if v2 = (0 : Int32) then gd (inb x4 6) (gd (inb x1 6) ((if x2 < (iabs ((c0_cell (x4).toNatClampNeg) - (c0_cell (x1).toNatClampNeg))) then (fX6_withinReach_b49 c0_hour c0_hours c0_owes c0_cell x1 x2 (fX6_withinReach_L5 c0_hour c0_hours c0_owes c0_cell x1 x2  n) x3 x4) else (fX6_withinReach_b49 c0_hour c0_hours c0_owes c0_cell x1 x2 (fX6_withinReach_L5 c0_hour c0_hours c0_owes c0_cell x1 x2  n) (x3 ||| (sl (1 : Int32) x4)) x4)))) else (fX6_withinReach_b49 c0_hour c0_hours c0_owes c0_cell x1 x2 (fX6_withinReach_L5 c0_hour c0_hours c0_owes c0_cell x1 x2  n) x3 x4))))
def fX6_withinReach (c0_hour : Int32) (c0_hours : Nat → Int32) (c0_owes : Nat → Int32) (c0_cell : Nat → Int32) (x1 : Int32) (x2 : Int32) : Option (Int32) := (fX6_withinReach_L5 c0_hour c0_hours c0_owes c0_cell x1 x2  zF (0 : Int32) (0 : Int32))
abbrev rmX6_withinReach : Room := { frames := 2, cells := 0, slots := 0, locals := 42 }
set_option maxRecDepth 100000 in
set_option maxHeartbeats 4000000 in
theorem ctX6_withinReach (l : Launch) (G : zG) (a0 a0_air a0_cell a0_hours a0_owes a0_holds a0_lies a0_goods a0_liking : Nat) (c0_hour : Int32) (c0_day : Int32) (c0_hours : Nat → Int32) (c0_owes : Nat → Int32) (c0_cell : Nat → Int32) (x1 : Int32) (x2 : Int32) {R : Int32} (hf : fX6_withinReach c0_hour c0_hours c0_owes c0_cell x1 x2 = some R) : zCt l yX6_withinReach wsX6_withinReach rmX6_withinReach G [(a0, .inr (8, [.ref a0_air, .ref a0_cell, .ref a0_hours, .ref a0_owes, .ref a0_holds, .ref a0_lies, .ref a0_goods, .ref a0_liking, .int c0_hour, .int c0_day])), (a0_hours, .inl (G.2.1, 6, .inl c0_hours)), (a0_owes, .inl (G.2.1, 6, .inl c0_owes)), (a0_cell, .inl (G.2.1, 6, .inl c0_cell))] [.ref a0, .int x1, .int x2] (fun v w => v = some (.int (R)) ∧ w = [(a0, .inr (8, [.ref a0_air, .ref a0_cell, .ref a0_hours, .ref a0_owes, .ref a0_holds, .ref a0_lies, .ref a0_goods, .ref a0_liking, .int c0_hour, .int c0_day])), (a0_hours, .inl (G.2.1, 6, .inl c0_hours)), (a0_owes, .inl (G.2.1, 6, .inl c0_owes)), (a0_cell, .inl (G.2.1, 6, .inl c0_cell))]) := by
  refine zMkI (own := RX6) false (by decide) (by decide +kernel) rfl rfl (Nat.le_of_ble_eq_true rfl) ?_
  intro Z h hret
  have hL5 : ∀ (n5 : Nat) (x3 : Int32) (x4 : Int32), fX6_withinReach_L5 c0_hour c0_hours c0_owes c0_cell x1 x2  n5 x3 x4 = some R → Z 0 0 [(a0, .inr (8, [.ref a0_air, .ref a0_cell, .ref a0_hours, .ref a0_owes, .ref a0_holds, .ref a0_lies, .ref a0_goods, .ref a0_liking, .int c0_hour, .int c0_day])), (a0_hours, .inl (G.2.1, 6, .inl c0_hours)), (a0_owes, .inl (G.2.1, 6, .inl c0_owes)), (a0_cell, .inl (G.2.1, 6, .inl c0_cell))] [(0, .ref a0), (1, .int x1), (2, .int x2), (3, .int x3), (4, .int x4)] 5 [] := by
    intro n5
    induction n5 with
    | zero =>
      intro x3 x4 hf
      rw [fX6_withinReach_L5] at hf
      cases hf
    | succ n5 ih5 =>
      have hB49 : ∀ (x3 : Int32) (x4 : Int32), fX6_withinReach_b49 c0_hour c0_hours c0_owes c0_cell x1 x2 (fX6_withinReach_L5 c0_hour c0_hours c0_owes c0_cell x1 x2  n5) x3 x4 = some R → Z 0 0 [(a0, .inr (8, [.ref a0_air, .ref a0_cell, .ref a0_hours, .ref a0_owes, .ref a0_holds, .ref a0_lies, .ref a0_goods, .ref a0_liking, .int c0_hour, .int c0_day])), (a0_hours, .inl (G.2.1, 6, .inl c0_hours)), (a0_owes, .inl (G.2.1, 6, .inl c0_owes)), (a0_cell, .inl (G.2.1, 6, .inl c0_cell))] [(0, .ref a0), (1, .int x1), (2, .int x2), (3, .int x3), (4, .int x4)] 49 [] := by
        intro x3 x4 hf
        rw [fX6_withinReach_b49] at hf
        refine z_iinc h (v := (x4 + (1 : Int32))) (lv2 := [(4, .int (x4 + (1 : Int32))), (0, .ref a0), (1, .int x1), (2, .int x2), (3, .int x3)]) (j := 4) dX6_withinReach_49 rfl rfl (by decide) rfl rfl ?_
        refine z_goto h (tgt := 5) dX6_withinReach_52 (by decide) ?_
        refine z_locs h (lv2 := [(0, .ref a0), (1, .int x1), (2, .int x2), (3, .int x3), (4, .int (x4 + (1 : Int32)))]) [1, 2, 3, 4, 0] rfl ?_
        exact ih5 x3 (x4 + (1 : Int32)) hf
      intro x3 x4 hf
      rw [fX6_withinReach_L5] at hf
      refine z_iload h dX6_withinReach_5 4 rfl rfl ?_
      refine z_bipush h (v := (6 : Int32)) dX6_withinReach_7 (by decide) rfl ?_
      refine z_icmp_ge h (tgt := 55) dX6_withinReach_9 (by decide) rfl (fun c1 => ?_) (fun c1 => ?_)
      · have hf := ite_t hf c1
        refine z_iload_n h dX6_withinReach_55 3 rfl rfl ?_
        have hf := Option.some.inj hf
        subst hf
        exact hret _ _ _ _ dX6_withinReach_56 ⟨rfl, rfl⟩
      have hf := ite_f hf c1
      refine z_aload_n h dX6_withinReach_12 0 rfl rfl ?_
      refine z_iload h dX6_withinReach_13 4 rfl rfl ?_
      obtain ⟨v2, hv2, hf⟩ := bd_some hf
      refine z_callV h (np := 1) (st := []) (wr := [(a0_cell, .inl (G.2.1, 6, .inl c0_cell))]) [.int x4] (ctX8_atPeace l G a0 a0_air a0_cell a0_hours a0_owes a0_holds a0_lies a0_goods a0_liking c0_hour c0_day c0_hours c0_owes x4 hv2) gX6_withinReach_X8_atPeace (by decide +kernel) 0 rfl rfl rfl ⟨Nat.le_of_ble_eq_true rfl, Nat.le_of_ble_eq_true rfl⟩ ⟨Nat.le_refl _, Nat.le_refl _⟩ rfl rfl rfl [0, 1, 2] [3] rfl rfl rfl rfl (by decide) (Nat.le_of_ble_eq_true rfl) dX6_withinReach_15 rfl rfl (fun rv2 wv2 hrv2 => ?_)
      obtain ⟨rfl, rfl⟩ := hrv2
      refine z_perm h (w2 := [(a0, .inr (8, [.ref a0_air, .ref a0_cell, .ref a0_hours, .ref a0_owes, .ref a0_holds, .ref a0_lies, .ref a0_goods, .ref a0_liking, .int c0_hour, .int c0_day])), (a0_hours, .inl (G.2.1, 6, .inl c0_hours)), (a0_owes, .inl (G.2.1, 6, .inl c0_owes)), (a0_cell, .inl (G.2.1, 6, .inl c0_cell))]) (st := [.int v2]) [1, 2, 3, 0] rfl rfl ?_
      refine z_if_ne h (tgt := 49) dX6_withinReach_18 (by decide) rfl (fun c3 => ?_) (fun c3 => ?_)
      · have hf := ite_f hf c3
        exact hB49 x3 x4 hf
      have hf := ite_t hf c3
      refine z_aload_n h dX6_withinReach_21 0 rfl rfl ?_
      refine z_get h (C := RX8) (T := TX8) (N := 10) (v := .ref a0_cell) 0 rfl rfl 1 (by decide) (by decide +kernel) (by decide +kernel) rfl dX6_withinReach_22 rfl ?_
      refine z_iload h dX6_withinReach_25 4 rfl rfl ?_
      obtain ⟨hg4, hf⟩ := gd_some hf
      refine z_iald h 3 rfl rfl hg4 dX6_withinReach_27 rfl ?_
      refine z_aload_n h dX6_withinReach_28 0 rfl rfl ?_
      refine z_get h (C := RX8) (T := TX8) (N := 10) (v := .ref a0_cell) 0 rfl rfl 1 (by decide) (by decide +kernel) (by decide +kernel) rfl dX6_withinReach_29 rfl ?_
      refine z_iload_n h dX6_withinReach_32 1 rfl rfl ?_
      obtain ⟨hg5, hf⟩ := gd_some hf
      refine z_iald h 3 rfl rfl hg5 dX6_withinReach_33 rfl ?_
      refine z_isub h dX6_withinReach_34 rfl ?_
      refine z_mabs h (by decide +kernel) (by decide +kernel) (by decide +kernel) (by decide +kernel) (Nat.le_of_ble_eq_true rfl) (Nat.le_of_ble_eq_true rfl) (Nat.zero_le _) (Nat.zero_le _) dX6_withinReach_35 rfl ?_
      refine z_iload_n h dX6_withinReach_38 2 rfl rfl ?_
      refine z_icmp_gt h (tgt := 49) dX6_withinReach_39 (by decide) rfl (fun c6 => ?_) (fun c6 => ?_)
      · have hf := ite_t hf c6
        exact hB49 x3 x4 hf
      have hf := ite_f hf c6
      refine z_iload_n h dX6_withinReach_42 3 rfl rfl ?_
      refine z_iconst h (v := (1 : Int32)) dX6_withinReach_43 (by decide) rfl ?_
      refine z_iload h dX6_withinReach_44 4 rfl rfl ?_
      refine z_ishl h dX6_withinReach_46 rfl ?_
      refine z_ior h dX6_withinReach_47 rfl ?_
      refine z_istore_n h (lv2 := [(3, .int (x3 ||| (sl (1 : Int32) x4))), (0, .ref a0), (1, .int x1), (2, .int x2), (4, .int x4)]) dX6_withinReach_48 (by decide) rfl rfl ?_
      refine z_locs h (lv2 := [(0, .ref a0), (1, .int x1), (2, .int x2), (3, .int (x3 ||| (sl (1 : Int32) x4))), (4, .int x4)]) [1, 2, 3, 0, 4] rfl ?_
      exact hB49 (x3 ||| (sl (1 : Int32) x4)) x4 hf
  rw [fX6_withinReach] at hf
  show Z 0 0 _ [(0, .ref a0), (1, .int x1), (2, .int x2)] 0 []
  refine z_iconst h (v := (0 : Int32)) dX6_withinReach_0 (by decide) rfl ?_
  refine z_istore_n h (lv2 := [(3, .int (0 : Int32)), (0, .ref a0), (1, .int x1), (2, .int x2)]) dX6_withinReach_1 (by decide) rfl rfl ?_
  refine z_iconst h (v := (0 : Int32)) dX6_withinReach_2 (by decide) rfl ?_
  refine z_istore h (lv2 := [(4, .int (0 : Int32)), (3, .int (0 : Int32)), (0, .ref a0), (1, .int x1), (2, .int x2)]) dX6_withinReach_3 (by decide) rfl rfl ?_
  refine z_locs h (lv2 := [(0, .ref a0), (1, .int x1), (2, .int x2), (3, .int (0 : Int32)), (4, .int (0 : Int32))]) [2, 3, 4, 1, 0] rfl ?_
  exact hL5 zF (0 : Int32) (0 : Int32) hf
def fX6_addHolder_b49 (x1 : Int32) (K3 : ((Nat → Int32) → Int32 → Option ((Nat → Int32)))) (c0_possible : Nat → Int32) (x2 : Int32) : Option ((Nat → Int32)) := (K3 c0_possible (x2 + (-1 : Int32)))
def fX6_addHolder_b43 (x1 : Int32) (K3 : ((Nat → Int32) → Int32 → Option ((Nat → Int32)))) (K9 : ((Nat → Int32) → Int32 → Int32 → Option ((Nat → Int32)))) (c0_possible : Nat → Int32) (x2 : Int32) (x3 : Int32) : Option ((Nat → Int32)) := (K9 c0_possible x2 (x3 + (1 : Int32)))
def fX6_addHolder_L9 (x1 : Int32) (K3 : ((Nat → Int32) → Int32 → Option ((Nat → Int32)))) : Nat → (Nat → Int32) → Int32 → Int32 → Option ((Nat → Int32))
  | 0, _, _, _ => none
  | n + 1, c0_possible, x2, x3 => (if (6 : Int32) ≤ x3 then (fX6_addHolder_b49 x1 K3 c0_possible x2) else gd (inb x2 64) ((if (c0_possible (x2).toNatClampNeg) = (0 : Int32) then (fX6_addHolder_b49 x1 K3 c0_possible x2) else Option.bind (fX11_has x1 x3) (fun v4 => (if v4 = (0 : Int32) then (fX6_addHolder_b43 x1 K3 (fX6_addHolder_L9 x1 K3 n) c0_possible x2 x3) else gd (inb (x2 ||| (sl (1 : Int32) x3)) 64) ((fX6_addHolder_b43 x1 K3 (fX6_addHolder_L9 x1 K3 n) (upd c0_possible ((x2 ||| (sl (1 : Int32) x3))).toNatClampNeg (vp_nar .boolean (1 : Int32))) x2 x3)))))))
def fX6_addHolder_L3 (x1 : Int32)  : Nat → (Nat → Int32) → Int32 → Option ((Nat → Int32))
  | 0, _, _ => none
  | n + 1, c0_possible, x2 => (if x2 < (0 : Int32) then (some c0_possible) else (fX6_addHolder_L9 x1 (fX6_addHolder_L3 x1  n) zF c0_possible x2 (0 : Int32)))
def fX6_addHolder (c0_possible : Nat → Int32) (x1 : Int32) : Option ((Nat → Int32)) := (fX6_addHolder_L3 x1  zF c0_possible (63 : Int32))
abbrev rmX6_addHolder : Room := { frames := 1, cells := 0, slots := 0, locals := 21 }
set_option maxRecDepth 100000 in
set_option maxHeartbeats 4000000 in
theorem ctX6_addHolder (l : Launch) (G : zG) (a0 a0_possible : Nat) (c0_possible : Nat → Int32) (x1 : Int32) {R : (Nat → Int32)} (hf : fX6_addHolder c0_possible x1 = some R) : zCt l yX6_addHolder wsX6_addHolder rmX6_addHolder G [(a0, .inr (6, [.ref a0_possible])), (a0_possible, .inl (G.2.2.1, 64, .inl c0_possible))] [.ref a0, .int x1] (fun v w => v = none ∧ w = [(a0, .inr (6, [.ref a0_possible])), (a0_possible, .inl (G.2.2.1, 64, .inl R))]) := by
  refine zMkV (own := RX6) false (by decide) (by decide +kernel) rfl rfl (Nat.le_of_ble_eq_true rfl) ?_
  intro Z h hret
  have hL3 : ∀ (n3 : Nat) (c0_possible : Nat → Int32) (x2 : Int32), fX6_addHolder_L3 x1  n3 c0_possible x2 = some R → Z 0 0 [(a0, .inr (6, [.ref a0_possible])), (a0_possible, .inl (G.2.2.1, 64, .inl c0_possible))] [(0, .ref a0), (1, .int x1), (2, .int x2)] 3 [] := by
    intro n3
    induction n3 with
    | zero =>
      intro c0_possible x2 hf
      rw [fX6_addHolder_L3] at hf
      cases hf
    | succ n3 ih3 =>
      have hB49 : ∀ (c0_possible : Nat → Int32) (x2 : Int32), fX6_addHolder_b49 x1 (fX6_addHolder_L3 x1  n3) c0_possible x2 = some R → Z 0 0 [(a0, .inr (6, [.ref a0_possible])), (a0_possible, .inl (G.2.2.1, 64, .inl c0_possible))] [(0, .ref a0), (1, .int x1), (2, .int x2)] 49 [] := by
        intro c0_possible x2 hf
        rw [fX6_addHolder_b49] at hf
        refine z_iinc h (v := (x2 + (-1 : Int32))) (lv2 := [(2, .int (x2 + (-1 : Int32))), (0, .ref a0), (1, .int x1)]) (j := 2) dX6_addHolder_49 rfl rfl (by decide) rfl rfl ?_
        refine z_goto h (tgt := 3) dX6_addHolder_52 (by decide) ?_
        refine z_locs h (lv2 := [(0, .ref a0), (1, .int x1), (2, .int (x2 + (-1 : Int32)))]) [1, 2, 0] rfl ?_
        exact ih3 c0_possible (x2 + (-1 : Int32)) hf
      have hL9 : ∀ (n9 : Nat) (c0_possible : Nat → Int32) (x2 : Int32) (x3 : Int32), fX6_addHolder_L9 x1 (fX6_addHolder_L3 x1  n3) n9 c0_possible x2 x3 = some R → Z 0 0 [(a0, .inr (6, [.ref a0_possible])), (a0_possible, .inl (G.2.2.1, 64, .inl c0_possible))] [(0, .ref a0), (1, .int x1), (2, .int x2), (3, .int x3)] 9 [] := by
        intro n9
        induction n9 with
        | zero =>
          intro c0_possible x2 x3 hf
          rw [fX6_addHolder_L9] at hf
          cases hf
        | succ n9 ih9 =>
          have hB43 : ∀ (c0_possible : Nat → Int32) (x2 : Int32) (x3 : Int32), fX6_addHolder_b43 x1 (fX6_addHolder_L3 x1  n3) (fX6_addHolder_L9 x1 (fX6_addHolder_L3 x1  n3) n9) c0_possible x2 x3 = some R → Z 0 0 [(a0, .inr (6, [.ref a0_possible])), (a0_possible, .inl (G.2.2.1, 64, .inl c0_possible))] [(0, .ref a0), (1, .int x1), (2, .int x2), (3, .int x3)] 43 [] := by
            intro c0_possible x2 x3 hf
            rw [fX6_addHolder_b43] at hf
            refine z_iinc h (v := (x3 + (1 : Int32))) (lv2 := [(3, .int (x3 + (1 : Int32))), (0, .ref a0), (1, .int x1), (2, .int x2)]) (j := 3) dX6_addHolder_43 rfl rfl (by decide) rfl rfl ?_
            refine z_goto h (tgt := 9) dX6_addHolder_46 (by decide) ?_
            refine z_locs h (lv2 := [(0, .ref a0), (1, .int x1), (2, .int x2), (3, .int (x3 + (1 : Int32)))]) [1, 2, 3, 0] rfl ?_
            exact ih9 c0_possible x2 (x3 + (1 : Int32)) hf
          intro c0_possible x2 x3 hf
          rw [fX6_addHolder_L9] at hf
          refine z_iload_n h dX6_addHolder_9 3 rfl rfl ?_
          refine z_bipush h (v := (6 : Int32)) dX6_addHolder_10 (by decide) rfl ?_
          refine z_icmp_ge h (tgt := 49) dX6_addHolder_12 (by decide) rfl (fun c1 => ?_) (fun c1 => ?_)
          · have hf := ite_t hf c1
            refine z_locs h (lv2 := [(0, .ref a0), (1, .int x1), (2, .int x2)]) [0, 1, 2] rfl ?_
            exact hB49 c0_possible x2 hf
          have hf := ite_f hf c1
          refine z_aload_n h dX6_addHolder_15 0 rfl rfl ?_
          refine z_get h (C := RX6) (T := TX6) (N := 1) (v := .ref a0_possible) 0 rfl rfl 0 (by decide) (by decide +kernel) (by decide +kernel) rfl dX6_addHolder_16 rfl ?_
          refine z_iload_n h dX6_addHolder_19 2 rfl rfl ?_
          obtain ⟨hg2, hf⟩ := gd_some hf
          refine z_zald h 1 rfl rfl hg2 dX6_addHolder_20 rfl ?_
          refine z_if_eq h (tgt := 49) dX6_addHolder_21 (by decide) rfl (fun c3 => ?_) (fun c3 => ?_)
          · have hf := ite_t hf c3
            refine z_locs h (lv2 := [(0, .ref a0), (1, .int x1), (2, .int x2)]) [0, 1, 2] rfl ?_
            exact hB49 c0_possible x2 hf
          have hf := ite_f hf c3
          refine z_iload_n h dX6_addHolder_24 1 rfl rfl ?_
          refine z_iload_n h dX6_addHolder_25 3 rfl rfl ?_
          obtain ⟨v4, hv4, hf⟩ := bd_some hf
          refine z_callSN h (np := 2) (st := []) (wr := [(a0, .inr (6, [.ref a0_possible])), (a0_possible, .inl (G.2.2.1, 64, .inl c0_possible))]) [.int x1, .int x3] (ctX11_has l G x1 x3 hv4) gX6_addHolder_X11_has_n44 (by decide +kernel) (by decide +kernel) (by decide +kernel) (by decide +kernel) rfl ⟨Nat.le_of_ble_eq_true rfl, Nat.le_of_ble_eq_true rfl⟩ ⟨Nat.le_refl _, Nat.le_refl _⟩ rfl rfl rfl [] [0, 1] rfl rfl rfl rfl (by decide) (Nat.le_of_ble_eq_true rfl) dX6_addHolder_26 rfl rfl (fun rv4 wv4 hrv4 => ?_)
          obtain ⟨rfl, rfl⟩ := hrv4
          refine z_perm h (w2 := [(a0, .inr (6, [.ref a0_possible])), (a0_possible, .inl (G.2.2.1, 64, .inl c0_possible))]) (st := [.int v4]) [0, 1] rfl rfl ?_
          refine z_if_eq h (tgt := 43) dX6_addHolder_29 (by decide) rfl (fun c5 => ?_) (fun c5 => ?_)
          · have hf := ite_t hf c5
            exact hB43 c0_possible x2 x3 hf
          have hf := ite_f hf c5
          refine z_aload_n h dX6_addHolder_32 0 rfl rfl ?_
          refine z_get h (C := RX6) (T := TX6) (N := 1) (v := .ref a0_possible) 0 rfl rfl 0 (by decide) (by decide +kernel) (by decide +kernel) rfl dX6_addHolder_33 rfl ?_
          refine z_iload_n h dX6_addHolder_36 2 rfl rfl ?_
          refine z_iconst h (v := (1 : Int32)) dX6_addHolder_37 (by decide) rfl ?_
          refine z_iload_n h dX6_addHolder_38 3 rfl rfl ?_
          refine z_ishl h dX6_addHolder_39 rfl ?_
          refine z_ior h dX6_addHolder_40 rfl ?_
          refine z_iconst h (v := (1 : Int32)) dX6_addHolder_41 (by decide) rfl ?_
          obtain ⟨hg6, hf⟩ := gd_some hf
          refine z_zast h (w2 := [(a0, .inr (6, [.ref a0_possible])), (a0_possible, .inl (G.2.2.1, 64, .inl (upd c0_possible ((x2 ||| (sl (1 : Int32) x3))).toNatClampNeg (vp_nar .boolean (1 : Int32)))))]) 1 rfl rfl hg6 dX6_addHolder_42 rfl rfl ?_
          exact hB43 (upd c0_possible ((x2 ||| (sl (1 : Int32) x3))).toNatClampNeg (vp_nar .boolean (1 : Int32))) x2 x3 hf
      intro c0_possible x2 hf
      rw [fX6_addHolder_L3] at hf
      refine z_iload_n h dX6_addHolder_3 2 rfl rfl ?_
      refine z_if_lt h (tgt := 55) dX6_addHolder_4 (by decide) rfl (fun c7 => ?_) (fun c7 => ?_)
      · have hf := ite_t hf c7
        have hf := Option.some.inj hf
        subst hf
        exact hret _ _ _ dX6_addHolder_55 ⟨rfl, rfl⟩
      have hf := ite_f hf c7
      refine z_iconst h (v := (0 : Int32)) dX6_addHolder_7 (by decide) rfl ?_
      refine z_istore_n h (lv2 := [(3, .int (0 : Int32)), (0, .ref a0), (1, .int x1), (2, .int x2)]) dX6_addHolder_8 (by decide) rfl rfl ?_
      refine z_locs h (lv2 := [(0, .ref a0), (1, .int x1), (2, .int x2), (3, .int (0 : Int32))]) [1, 2, 3, 0] rfl ?_
      exact hL9 zF c0_possible x2 (0 : Int32) hf
  rw [fX6_addHolder] at hf
  show Z 0 0 _ [(0, .ref a0), (1, .int x1)] 0 []
  refine z_bipush h (v := (63 : Int32)) dX6_addHolder_0 (by decide) rfl ?_
  refine z_istore_n h (lv2 := [(2, .int (63 : Int32)), (0, .ref a0), (1, .int x1)]) dX6_addHolder_2 (by decide) rfl rfl ?_
  refine z_locs h (lv2 := [(0, .ref a0), (1, .int x1), (2, .int (63 : Int32))]) [1, 2, 0] rfl ?_
  exact hL3 zF c0_possible (63 : Int32) hf
def fX6_most_b98 (c1_hour : Int32) (c1_hours : Nat → Int32) (c1_owes : Nat → Int32) (c1_cell : Nat → Int32) (x2 : Int32) (K66 : ((Nat → Int32) → Int32 → Int32 → Option (Int32 × (Nat → Int32)))) (c0_possible : Nat → Int32) (x3 : Int32) (x4 : Int32) : Option (Int32 × (Nat → Int32)) := (K66 c0_possible x3 (x4 + (1 : Int32)))
def fX6_most_L66 (c1_hour : Int32) (c1_hours : Nat → Int32) (c1_owes : Nat → Int32) (c1_cell : Nat → Int32) (x2 : Int32)  : Nat → (Nat → Int32) → Int32 → Int32 → Option (Int32 × (Nat → Int32))
  | 0, _, _, _ => none
  | n + 1, c0_possible, x3, x4 => (if (64 : Int32) ≤ x4 then (some (x3, c0_possible)) else gd (inb x4 64) ((if (c0_possible (x4).toNatClampNeg) = (0 : Int32) then (fX6_most_b98 c1_hour c1_hours c1_owes c1_cell x2 (fX6_most_L66 c1_hour c1_hours c1_owes c1_cell x2  n) c0_possible x3 x4) else Option.bind (fJ6_bitCount_0f7a4 x4) (fun v4 => Option.bind (fJ6_bitCount_0f7a4 x3) (fun v5 => (if v4 ≤ v5 then (fX6_most_b98 c1_hour c1_hours c1_owes c1_cell x2 (fX6_most_L66 c1_hour c1_hours c1_owes c1_cell x2  n) c0_possible x3 x4) else (fX6_most_b98 c1_hour c1_hours c1_owes c1_cell x2 (fX6_most_L66 c1_hour c1_hours c1_owes c1_cell x2  n) c0_possible x4 x4)))))))
def fX6_most_b55 (c1_hour : Int32) (c1_hours : Nat → Int32) (c1_owes : Nat → Int32) (c1_cell : Nat → Int32) (x2 : Int32) (K31 : ((Nat → Int32) → Int32 → Option (Int32 × (Nat → Int32)))) (c0_possible : Nat → Int32) (x3 : Int32) : Option (Int32 × (Nat → Int32)) := (K31 c0_possible (x3 + (1 : Int32)))
def fX6_most_L31 (c1_hour : Int32) (c1_hours : Nat → Int32) (c1_owes : Nat → Int32) (c1_cell : Nat → Int32) (x2 : Int32)  : Nat → (Nat → Int32) → Int32 → Option (Int32 × (Nat → Int32))
  | 0, _, _ => none
  | n + 1, c0_possible, x3 => (if (6 : Int32) ≤ x3 then (fX6_most_L66 c1_hour c1_hours c1_owes c1_cell x2  zF c0_possible (0 : Int32) (0 : Int32)) else Option.bind (fX8_atPeace c1_hour c1_hours c1_owes x3) (fun v8 => (if v8 = (0 : Int32) then (fX6_most_b55 c1_hour c1_hours c1_owes c1_cell x2 (fX6_most_L31 c1_hour c1_hours c1_owes c1_cell x2  n) c0_possible x3) else Option.bind (fX6_withinReach c1_hour c1_hours c1_owes c1_cell x3 x2) (fun v10 => Option.bind (fX6_addHolder c0_possible v10) (fun v11 => (fX6_most_b55 c1_hour c1_hours c1_owes c1_cell x2 (fX6_most_L31 c1_hour c1_hours c1_owes c1_cell x2  n) v11 x3))))))
def fX6_most_b22 (c1_hour : Int32) (c1_hours : Nat → Int32) (c1_owes : Nat → Int32) (c1_cell : Nat → Int32) (x2 : Int32) (K2 : ((Nat → Int32) → Int32 → Option (Int32 × (Nat → Int32)))) (c0_possible : Nat → Int32) (x3 : Int32) (s1 : Int32) (s2 : Int32) : Option (Int32 × (Nat → Int32)) := gd (inb s1 64) ((K2 (upd c0_possible (s1).toNatClampNeg (vp_nar .boolean s2)) (x3 + (1 : Int32))))
def fX6_most_L2 (c1_hour : Int32) (c1_hours : Nat → Int32) (c1_owes : Nat → Int32) (c1_cell : Nat → Int32) (x2 : Int32)  : Nat → (Nat → Int32) → Int32 → Option (Int32 × (Nat → Int32))
  | 0, _, _ => none
  | n + 1, c0_possible, x3 => (if (64 : Int32) ≤ x3 then (fX6_most_L31 c1_hour c1_hours c1_owes c1_cell x2  zF c0_possible (0 : Int32)) else (if x3 = (0 : Int32) then (fX6_most_b22 c1_hour c1_hours c1_owes c1_cell x2 (fX6_most_L2 c1_hour c1_hours c1_owes c1_cell x2  n) c0_possible x3 x3 (1 : Int32)) else (fX6_most_b22 c1_hour c1_hours c1_owes c1_cell x2 (fX6_most_L2 c1_hour c1_hours c1_owes c1_cell x2  n) c0_possible x3 x3 (0 : Int32))))
def fX6_most (c0_possible : Nat → Int32) (c1_hour : Int32) (c1_hours : Nat → Int32) (c1_owes : Nat → Int32) (c1_cell : Nat → Int32) (x2 : Int32) : Option (Int32 × (Nat → Int32)) := (fX6_most_L2 c1_hour c1_hours c1_owes c1_cell x2  zF c0_possible (0 : Int32))
abbrev rmX6_most : Room := { frames := 3, cells := 0, slots := 0, locals := 66 }
set_option maxRecDepth 100000 in
set_option maxHeartbeats 4000000 in
theorem ctX6_most (l : Launch) (G : zG) (a0 a0_possible a1 a1_air a1_cell a1_hours a1_owes a1_holds a1_lies a1_goods a1_liking : Nat) (c0_possible : Nat → Int32) (c1_hour : Int32) (c1_day : Int32) (c1_hours : Nat → Int32) (c1_owes : Nat → Int32) (c1_cell : Nat → Int32) (x2 : Int32) {R : Int32 × (Nat → Int32)} (hf : fX6_most c0_possible c1_hour c1_hours c1_owes c1_cell x2 = some R) : zCt l yX6_most wsX6_most rmX6_most G [(a0, .inr (6, [.ref a0_possible])), (a0_possible, .inl (G.2.2.1, 64, .inl c0_possible)), (a1, .inr (8, [.ref a1_air, .ref a1_cell, .ref a1_hours, .ref a1_owes, .ref a1_holds, .ref a1_lies, .ref a1_goods, .ref a1_liking, .int c1_hour, .int c1_day])), (a1_hours, .inl (G.2.1, 6, .inl c1_hours)), (a1_owes, .inl (G.2.1, 6, .inl c1_owes)), (a1_cell, .inl (G.2.1, 6, .inl c1_cell))] [.ref a0, .ref a1, .int x2] (fun v w => v = some (.int (R.1)) ∧ w = [(a0, .inr (6, [.ref a0_possible])), (a0_possible, .inl (G.2.2.1, 64, .inl (R.2))), (a1, .inr (8, [.ref a1_air, .ref a1_cell, .ref a1_hours, .ref a1_owes, .ref a1_holds, .ref a1_lies, .ref a1_goods, .ref a1_liking, .int c1_hour, .int c1_day])), (a1_hours, .inl (G.2.1, 6, .inl c1_hours)), (a1_owes, .inl (G.2.1, 6, .inl c1_owes)), (a1_cell, .inl (G.2.1, 6, .inl c1_cell))]) := by
  refine zMkI (own := RX6) false (by decide) (by decide +kernel) rfl rfl (Nat.le_of_ble_eq_true rfl) ?_
  intro Z h hret
  have hL66 : ∀ (n66 : Nat) (c0_possible : Nat → Int32) (x3 : Int32) (x4 : Int32), fX6_most_L66 c1_hour c1_hours c1_owes c1_cell x2  n66 c0_possible x3 x4 = some R → Z 0 0 [(a0, .inr (6, [.ref a0_possible])), (a0_possible, .inl (G.2.2.1, 64, .inl c0_possible)), (a1, .inr (8, [.ref a1_air, .ref a1_cell, .ref a1_hours, .ref a1_owes, .ref a1_holds, .ref a1_lies, .ref a1_goods, .ref a1_liking, .int c1_hour, .int c1_day])), (a1_hours, .inl (G.2.1, 6, .inl c1_hours)), (a1_owes, .inl (G.2.1, 6, .inl c1_owes)), (a1_cell, .inl (G.2.1, 6, .inl c1_cell))] [(0, .ref a0), (3, .int x3), (4, .int x4)] 66 [] := by
    intro n66
    induction n66 with
    | zero =>
      intro c0_possible x3 x4 hf
      rw [fX6_most_L66] at hf
      cases hf
    | succ n66 ih66 =>
      have hB98 : ∀ (c0_possible : Nat → Int32) (x3 : Int32) (x4 : Int32), fX6_most_b98 c1_hour c1_hours c1_owes c1_cell x2 (fX6_most_L66 c1_hour c1_hours c1_owes c1_cell x2  n66) c0_possible x3 x4 = some R → Z 0 0 [(a0, .inr (6, [.ref a0_possible])), (a0_possible, .inl (G.2.2.1, 64, .inl c0_possible)), (a1, .inr (8, [.ref a1_air, .ref a1_cell, .ref a1_hours, .ref a1_owes, .ref a1_holds, .ref a1_lies, .ref a1_goods, .ref a1_liking, .int c1_hour, .int c1_day])), (a1_hours, .inl (G.2.1, 6, .inl c1_hours)), (a1_owes, .inl (G.2.1, 6, .inl c1_owes)), (a1_cell, .inl (G.2.1, 6, .inl c1_cell))] [(0, .ref a0), (3, .int x3), (4, .int x4)] 98 [] := by
        intro c0_possible x3 x4 hf
        rw [fX6_most_b98] at hf
        refine z_iinc h (v := (x4 + (1 : Int32))) (lv2 := [(4, .int (x4 + (1 : Int32))), (0, .ref a0), (3, .int x3)]) (j := 2) dX6_most_98 rfl rfl (by decide) rfl rfl ?_
        refine z_goto h (tgt := 66) dX6_most_101 (by decide) ?_
        refine z_locs h (lv2 := [(0, .ref a0), (3, .int x3), (4, .int (x4 + (1 : Int32)))]) [1, 2, 0] rfl ?_
        exact ih66 c0_possible x3 (x4 + (1 : Int32)) hf
      intro c0_possible x3 x4 hf
      rw [fX6_most_L66] at hf
      refine z_iload h dX6_most_66 2 rfl rfl ?_
      refine z_bipush h (v := (64 : Int32)) dX6_most_68 (by decide) rfl ?_
      refine z_icmp_ge h (tgt := 104) dX6_most_70 (by decide) rfl (fun c1 => ?_) (fun c1 => ?_)
      · have hf := ite_t hf c1
        refine z_iload_n h dX6_most_104 1 rfl rfl ?_
        have hf := Option.some.inj hf
        subst hf
        exact hret _ _ _ _ dX6_most_105 ⟨rfl, rfl⟩
      have hf := ite_f hf c1
      refine z_aload_n h dX6_most_73 0 rfl rfl ?_
      refine z_get h (C := RX6) (T := TX6) (N := 1) (v := .ref a0_possible) 0 rfl rfl 0 (by decide) (by decide +kernel) (by decide +kernel) rfl dX6_most_74 rfl ?_
      refine z_iload h dX6_most_77 2 rfl rfl ?_
      obtain ⟨hg2, hf⟩ := gd_some hf
      refine z_zald h 1 rfl rfl hg2 dX6_most_79 rfl ?_
      refine z_if_eq h (tgt := 98) dX6_most_80 (by decide) rfl (fun c3 => ?_) (fun c3 => ?_)
      · have hf := ite_t hf c3
        exact hB98 c0_possible x3 x4 hf
      have hf := ite_f hf c3
      refine z_iload h dX6_most_83 2 rfl rfl ?_
      obtain ⟨v4, hv4, hf⟩ := bd_some hf
      refine z_callS h (np := 1) (st := []) (wr := [(a0, .inr (6, [.ref a0_possible])), (a0_possible, .inl (G.2.2.1, 64, .inl c0_possible)), (a1, .inr (8, [.ref a1_air, .ref a1_cell, .ref a1_hours, .ref a1_owes, .ref a1_holds, .ref a1_lies, .ref a1_goods, .ref a1_liking, .int c1_hour, .int c1_day])), (a1_hours, .inl (G.2.1, 6, .inl c1_hours)), (a1_owes, .inl (G.2.1, 6, .inl c1_owes)), (a1_cell, .inl (G.2.1, 6, .inl c1_cell))]) [.int x4] (ctJ6_bitCount_0f7a4 l G x4 hv4) gX6_most_J6_bitCount_0f7a4 (by decide +kernel) rfl ⟨Nat.le_of_ble_eq_true rfl, Nat.le_of_ble_eq_true rfl⟩ ⟨Nat.le_refl _, Nat.le_refl _⟩ rfl rfl rfl [] [0, 1, 2, 3, 4, 5] rfl rfl rfl rfl (by decide) (Nat.le_of_ble_eq_true rfl) dX6_most_85 rfl rfl (fun rv4 wv4 hrv4 => ?_)
      obtain ⟨rfl, rfl⟩ := hrv4
      refine z_perm h (w2 := [(a0, .inr (6, [.ref a0_possible])), (a0_possible, .inl (G.2.2.1, 64, .inl c0_possible)), (a1, .inr (8, [.ref a1_air, .ref a1_cell, .ref a1_hours, .ref a1_owes, .ref a1_holds, .ref a1_lies, .ref a1_goods, .ref a1_liking, .int c1_hour, .int c1_day])), (a1_hours, .inl (G.2.1, 6, .inl c1_hours)), (a1_owes, .inl (G.2.1, 6, .inl c1_owes)), (a1_cell, .inl (G.2.1, 6, .inl c1_cell))]) (st := [.int v4]) [0, 1, 2, 3, 4, 5] rfl rfl ?_
      refine z_iload_n h dX6_most_88 1 rfl rfl ?_
      obtain ⟨v5, hv5, hf⟩ := bd_some hf
      refine z_callS h (np := 1) (st := [.int v4]) (wr := [(a0, .inr (6, [.ref a0_possible])), (a0_possible, .inl (G.2.2.1, 64, .inl c0_possible)), (a1, .inr (8, [.ref a1_air, .ref a1_cell, .ref a1_hours, .ref a1_owes, .ref a1_holds, .ref a1_lies, .ref a1_goods, .ref a1_liking, .int c1_hour, .int c1_day])), (a1_hours, .inl (G.2.1, 6, .inl c1_hours)), (a1_owes, .inl (G.2.1, 6, .inl c1_owes)), (a1_cell, .inl (G.2.1, 6, .inl c1_cell))]) [.int x3] (ctJ6_bitCount_0f7a4 l G x3 hv5) gX6_most_J6_bitCount_0f7a4 (by decide +kernel) rfl ⟨Nat.le_of_ble_eq_true rfl, Nat.le_of_ble_eq_true rfl⟩ ⟨Nat.le_refl _, Nat.le_refl _⟩ rfl rfl rfl [] [0, 1, 2, 3, 4, 5] rfl rfl rfl rfl (by decide) (Nat.le_of_ble_eq_true rfl) dX6_most_89 rfl rfl (fun rv5 wv5 hrv5 => ?_)
      obtain ⟨rfl, rfl⟩ := hrv5
      refine z_perm h (w2 := [(a0, .inr (6, [.ref a0_possible])), (a0_possible, .inl (G.2.2.1, 64, .inl c0_possible)), (a1, .inr (8, [.ref a1_air, .ref a1_cell, .ref a1_hours, .ref a1_owes, .ref a1_holds, .ref a1_lies, .ref a1_goods, .ref a1_liking, .int c1_hour, .int c1_day])), (a1_hours, .inl (G.2.1, 6, .inl c1_hours)), (a1_owes, .inl (G.2.1, 6, .inl c1_owes)), (a1_cell, .inl (G.2.1, 6, .inl c1_cell))]) (st := [.int v5, .int v4]) [0, 1, 2, 3, 4, 5] rfl rfl ?_
      refine z_icmp_le h (tgt := 98) dX6_most_92 (by decide) rfl (fun c6 => ?_) (fun c6 => ?_)
      · have hf := ite_t hf c6
        exact hB98 c0_possible x3 x4 hf
      have hf := ite_f hf c6
      refine z_iload h dX6_most_95 2 rfl rfl ?_
      refine z_istore_n h (lv2 := [(3, .int x4), (0, .ref a0), (4, .int x4)]) dX6_most_97 (by decide) rfl rfl ?_
      refine z_locs h (lv2 := [(0, .ref a0), (3, .int x4), (4, .int x4)]) [1, 0, 2] rfl ?_
      exact hB98 c0_possible x4 x4 hf
  have hL31 : ∀ (n31 : Nat) (c0_possible : Nat → Int32) (x3 : Int32), fX6_most_L31 c1_hour c1_hours c1_owes c1_cell x2  n31 c0_possible x3 = some R → Z 0 0 [(a0, .inr (6, [.ref a0_possible])), (a0_possible, .inl (G.2.2.1, 64, .inl c0_possible)), (a1, .inr (8, [.ref a1_air, .ref a1_cell, .ref a1_hours, .ref a1_owes, .ref a1_holds, .ref a1_lies, .ref a1_goods, .ref a1_liking, .int c1_hour, .int c1_day])), (a1_hours, .inl (G.2.1, 6, .inl c1_hours)), (a1_owes, .inl (G.2.1, 6, .inl c1_owes)), (a1_cell, .inl (G.2.1, 6, .inl c1_cell))] [(0, .ref a0), (1, .ref a1), (2, .int x2), (3, .int x3)] 31 [] := by
    intro n31
    induction n31 with
    | zero =>
      intro c0_possible x3 hf
      rw [fX6_most_L31] at hf
      cases hf
    | succ n31 ih31 =>
      have hB55 : ∀ (c0_possible : Nat → Int32) (x3 : Int32), fX6_most_b55 c1_hour c1_hours c1_owes c1_cell x2 (fX6_most_L31 c1_hour c1_hours c1_owes c1_cell x2  n31) c0_possible x3 = some R → Z 0 0 [(a0, .inr (6, [.ref a0_possible])), (a0_possible, .inl (G.2.2.1, 64, .inl c0_possible)), (a1, .inr (8, [.ref a1_air, .ref a1_cell, .ref a1_hours, .ref a1_owes, .ref a1_holds, .ref a1_lies, .ref a1_goods, .ref a1_liking, .int c1_hour, .int c1_day])), (a1_hours, .inl (G.2.1, 6, .inl c1_hours)), (a1_owes, .inl (G.2.1, 6, .inl c1_owes)), (a1_cell, .inl (G.2.1, 6, .inl c1_cell))] [(0, .ref a0), (1, .ref a1), (2, .int x2), (3, .int x3)] 55 [] := by
        intro c0_possible x3 hf
        rw [fX6_most_b55] at hf
        refine z_iinc h (v := (x3 + (1 : Int32))) (lv2 := [(3, .int (x3 + (1 : Int32))), (0, .ref a0), (1, .ref a1), (2, .int x2)]) (j := 3) dX6_most_55 rfl rfl (by decide) rfl rfl ?_
        refine z_goto h (tgt := 31) dX6_most_58 (by decide) ?_
        refine z_locs h (lv2 := [(0, .ref a0), (1, .ref a1), (2, .int x2), (3, .int (x3 + (1 : Int32)))]) [1, 2, 3, 0] rfl ?_
        exact ih31 c0_possible (x3 + (1 : Int32)) hf
      intro c0_possible x3 hf
      rw [fX6_most_L31] at hf
      refine z_iload_n h dX6_most_31 3 rfl rfl ?_
      refine z_bipush h (v := (6 : Int32)) dX6_most_32 (by decide) rfl ?_
      refine z_icmp_ge h (tgt := 61) dX6_most_34 (by decide) rfl (fun c7 => ?_) (fun c7 => ?_)
      · have hf := ite_t hf c7
        refine z_iconst h (v := (0 : Int32)) dX6_most_61 (by decide) rfl ?_
        refine z_istore_n h (lv2 := [(3, .int (0 : Int32)), (0, .ref a0), (1, .ref a1), (2, .int x2)]) dX6_most_62 (by decide) rfl rfl ?_
        refine z_iconst h (v := (0 : Int32)) dX6_most_63 (by decide) rfl ?_
        refine z_istore h (lv2 := [(4, .int (0 : Int32)), (3, .int (0 : Int32)), (0, .ref a0), (1, .ref a1), (2, .int x2)]) dX6_most_64 (by decide) rfl rfl ?_
        refine z_locs h (lv2 := [(0, .ref a0), (3, .int (0 : Int32)), (4, .int (0 : Int32))]) [2, 1, 0] rfl ?_
        exact hL66 zF c0_possible (0 : Int32) (0 : Int32) hf
      have hf := ite_f hf c7
      refine z_aload_n h dX6_most_37 1 rfl rfl ?_
      refine z_iload_n h dX6_most_38 3 rfl rfl ?_
      obtain ⟨v8, hv8, hf⟩ := bd_some hf
      refine z_callV h (np := 1) (st := []) (wr := [(a0, .inr (6, [.ref a0_possible])), (a0_possible, .inl (G.2.2.1, 64, .inl c0_possible)), (a1_cell, .inl (G.2.1, 6, .inl c1_cell))]) [.int x3] (ctX8_atPeace l G a1 a1_air a1_cell a1_hours a1_owes a1_holds a1_lies a1_goods a1_liking c1_hour c1_day c1_hours c1_owes x3 hv8) gX6_most_X8_atPeace (by decide +kernel) 0 rfl rfl rfl ⟨Nat.le_of_ble_eq_true rfl, Nat.le_of_ble_eq_true rfl⟩ ⟨Nat.le_refl _, Nat.le_refl _⟩ rfl rfl rfl [2, 3, 4] [0, 1, 5] rfl rfl rfl rfl (by decide) (Nat.le_of_ble_eq_true rfl) dX6_most_39 rfl rfl (fun rv8 wv8 hrv8 => ?_)
      obtain ⟨rfl, rfl⟩ := hrv8
      refine z_perm h (w2 := [(a0, .inr (6, [.ref a0_possible])), (a0_possible, .inl (G.2.2.1, 64, .inl c0_possible)), (a1, .inr (8, [.ref a1_air, .ref a1_cell, .ref a1_hours, .ref a1_owes, .ref a1_holds, .ref a1_lies, .ref a1_goods, .ref a1_liking, .int c1_hour, .int c1_day])), (a1_hours, .inl (G.2.1, 6, .inl c1_hours)), (a1_owes, .inl (G.2.1, 6, .inl c1_owes)), (a1_cell, .inl (G.2.1, 6, .inl c1_cell))]) (st := [.int v8]) [0, 1, 3, 4, 5, 2] rfl rfl ?_
      refine z_if_eq h (tgt := 55) dX6_most_42 (by decide) rfl (fun c9 => ?_) (fun c9 => ?_)
      · have hf := ite_t hf c9
        exact hB55 c0_possible x3 hf
      have hf := ite_f hf c9
      refine z_aload_n h dX6_most_45 0 rfl rfl ?_
      refine z_aload_n h dX6_most_46 1 rfl rfl ?_
      refine z_iload_n h dX6_most_47 3 rfl rfl ?_
      refine z_iload_n h dX6_most_48 2 rfl rfl ?_
      obtain ⟨v10, hv10, hf⟩ := bd_some hf
      refine z_callS h (np := 3) (st := [.ref a0]) (wr := [(a0, .inr (6, [.ref a0_possible])), (a0_possible, .inl (G.2.2.1, 64, .inl c0_possible))]) [.ref a1, .int x3, .int x2] (ctX6_withinReach l G a1 a1_air a1_cell a1_hours a1_owes a1_holds a1_lies a1_goods a1_liking c1_hour c1_day c1_hours c1_owes c1_cell x3 x2 hv10) gX6_most_X6_withinReach (by decide +kernel) rfl ⟨Nat.le_of_ble_eq_true rfl, Nat.le_of_ble_eq_true rfl⟩ ⟨Nat.le_refl _, Nat.le_refl _⟩ rfl rfl rfl [2, 3, 4, 5] [0, 1] rfl rfl rfl rfl (by decide) (Nat.le_of_ble_eq_true rfl) dX6_most_49 rfl rfl (fun rv10 wv10 hrv10 => ?_)
      obtain ⟨rfl, rfl⟩ := hrv10
      refine z_perm h (w2 := [(a0, .inr (6, [.ref a0_possible])), (a0_possible, .inl (G.2.2.1, 64, .inl c0_possible)), (a1, .inr (8, [.ref a1_air, .ref a1_cell, .ref a1_hours, .ref a1_owes, .ref a1_holds, .ref a1_lies, .ref a1_goods, .ref a1_liking, .int c1_hour, .int c1_day])), (a1_hours, .inl (G.2.1, 6, .inl c1_hours)), (a1_owes, .inl (G.2.1, 6, .inl c1_owes)), (a1_cell, .inl (G.2.1, 6, .inl c1_cell))]) (st := [.int v10, .ref a0]) [0, 1, 2, 3, 4, 5] rfl rfl ?_
      obtain ⟨v11, hv11, hf⟩ := bd_some hf
      refine z_callV h (np := 1) (st := []) (wr := [(a1, .inr (8, [.ref a1_air, .ref a1_cell, .ref a1_hours, .ref a1_owes, .ref a1_holds, .ref a1_lies, .ref a1_goods, .ref a1_liking, .int c1_hour, .int c1_day])), (a1_hours, .inl (G.2.1, 6, .inl c1_hours)), (a1_owes, .inl (G.2.1, 6, .inl c1_owes)), (a1_cell, .inl (G.2.1, 6, .inl c1_cell))]) [.int v10] (ctX6_addHolder l G a0 a0_possible c0_possible v10 hv11) gX6_most_X6_addHolder (by decide +kernel) 0 rfl rfl rfl ⟨Nat.le_of_ble_eq_true rfl, Nat.le_of_ble_eq_true rfl⟩ ⟨Nat.le_refl _, Nat.le_refl _⟩ rfl rfl rfl [0, 1] [2, 3, 4, 5] rfl rfl rfl rfl (by decide) (Nat.le_of_ble_eq_true rfl) dX6_most_52 rfl rfl (fun rv11 wv11 hrv11 => ?_)
      obtain ⟨rfl, rfl⟩ := hrv11
      refine z_perm h (w2 := [(a0, .inr (6, [.ref a0_possible])), (a0_possible, .inl (G.2.2.1, 64, .inl v11)), (a1, .inr (8, [.ref a1_air, .ref a1_cell, .ref a1_hours, .ref a1_owes, .ref a1_holds, .ref a1_lies, .ref a1_goods, .ref a1_liking, .int c1_hour, .int c1_day])), (a1_hours, .inl (G.2.1, 6, .inl c1_hours)), (a1_owes, .inl (G.2.1, 6, .inl c1_owes)), (a1_cell, .inl (G.2.1, 6, .inl c1_cell))]) (st := []) [4, 5, 0, 1, 2, 3] rfl rfl ?_
      exact hB55 v11 x3 hf
  have hL2 : ∀ (n2 : Nat) (c0_possible : Nat → Int32) (x3 : Int32), fX6_most_L2 c1_hour c1_hours c1_owes c1_cell x2  n2 c0_possible x3 = some R → Z 0 0 [(a0, .inr (6, [.ref a0_possible])), (a0_possible, .inl (G.2.2.1, 64, .inl c0_possible)), (a1, .inr (8, [.ref a1_air, .ref a1_cell, .ref a1_hours, .ref a1_owes, .ref a1_holds, .ref a1_lies, .ref a1_goods, .ref a1_liking, .int c1_hour, .int c1_day])), (a1_hours, .inl (G.2.1, 6, .inl c1_hours)), (a1_owes, .inl (G.2.1, 6, .inl c1_owes)), (a1_cell, .inl (G.2.1, 6, .inl c1_cell))] [(0, .ref a0), (1, .ref a1), (2, .int x2), (3, .int x3)] 2 [] := by
    intro n2
    induction n2 with
    | zero =>
      intro c0_possible x3 hf
      rw [fX6_most_L2] at hf
      cases hf
    | succ n2 ih2 =>
      have hB22 : ∀ (c0_possible : Nat → Int32) (x3 : Int32) (s1 : Int32) (s2 : Int32), fX6_most_b22 c1_hour c1_hours c1_owes c1_cell x2 (fX6_most_L2 c1_hour c1_hours c1_owes c1_cell x2  n2) c0_possible x3 s1 s2 = some R → Z 0 0 [(a0, .inr (6, [.ref a0_possible])), (a0_possible, .inl (G.2.2.1, 64, .inl c0_possible)), (a1, .inr (8, [.ref a1_air, .ref a1_cell, .ref a1_hours, .ref a1_owes, .ref a1_holds, .ref a1_lies, .ref a1_goods, .ref a1_liking, .int c1_hour, .int c1_day])), (a1_hours, .inl (G.2.1, 6, .inl c1_hours)), (a1_owes, .inl (G.2.1, 6, .inl c1_owes)), (a1_cell, .inl (G.2.1, 6, .inl c1_cell))] [(0, .ref a0), (1, .ref a1), (2, .int x2), (3, .int x3)] 22 [.int s2, .int s1, .ref a0_possible] := by
        intro c0_possible x3 s1 s2 hf
        rw [fX6_most_b22] at hf
        obtain ⟨hg12, hf⟩ := gd_some hf
        refine z_zast h (w2 := [(a0, .inr (6, [.ref a0_possible])), (a0_possible, .inl (G.2.2.1, 64, .inl (upd c0_possible (s1).toNatClampNeg (vp_nar .boolean s2)))), (a1, .inr (8, [.ref a1_air, .ref a1_cell, .ref a1_hours, .ref a1_owes, .ref a1_holds, .ref a1_lies, .ref a1_goods, .ref a1_liking, .int c1_hour, .int c1_day])), (a1_hours, .inl (G.2.1, 6, .inl c1_hours)), (a1_owes, .inl (G.2.1, 6, .inl c1_owes)), (a1_cell, .inl (G.2.1, 6, .inl c1_cell))]) 1 rfl rfl hg12 dX6_most_22 rfl rfl ?_
        refine z_iinc h (v := (x3 + (1 : Int32))) (lv2 := [(3, .int (x3 + (1 : Int32))), (0, .ref a0), (1, .ref a1), (2, .int x2)]) (j := 3) dX6_most_23 rfl rfl (by decide) rfl rfl ?_
        refine z_goto h (tgt := 2) dX6_most_26 (by decide) ?_
        refine z_locs h (lv2 := [(0, .ref a0), (1, .ref a1), (2, .int x2), (3, .int (x3 + (1 : Int32)))]) [1, 2, 3, 0] rfl ?_
        exact ih2 (upd c0_possible (s1).toNatClampNeg (vp_nar .boolean s2)) (x3 + (1 : Int32)) hf
      intro c0_possible x3 hf
      rw [fX6_most_L2] at hf
      refine z_iload_n h dX6_most_2 3 rfl rfl ?_
      refine z_bipush h (v := (64 : Int32)) dX6_most_3 (by decide) rfl ?_
      refine z_icmp_ge h (tgt := 29) dX6_most_5 (by decide) rfl (fun c13 => ?_) (fun c13 => ?_)
      · have hf := ite_t hf c13
        refine z_iconst h (v := (0 : Int32)) dX6_most_29 (by decide) rfl ?_
        refine z_istore_n h (lv2 := [(3, .int (0 : Int32)), (0, .ref a0), (1, .ref a1), (2, .int x2)]) dX6_most_30 (by decide) rfl rfl ?_
        refine z_locs h (lv2 := [(0, .ref a0), (1, .ref a1), (2, .int x2), (3, .int (0 : Int32))]) [1, 2, 3, 0] rfl ?_
        exact hL31 zF c0_possible (0 : Int32) hf
      have hf := ite_f hf c13
      refine z_aload_n h dX6_most_8 0 rfl rfl ?_
      refine z_get h (C := RX6) (T := TX6) (N := 1) (v := .ref a0_possible) 0 rfl rfl 0 (by decide) (by decide +kernel) (by decide +kernel) rfl dX6_most_9 rfl ?_
      refine z_iload_n h dX6_most_12 3 rfl rfl ?_
      refine z_iload_n h dX6_most_13 3 rfl rfl ?_
      refine z_if_ne h (tgt := 21) dX6_most_14 (by decide) rfl (fun c14 => ?_) (fun c14 => ?_)
      · have hf := ite_f hf c14
        refine z_iconst h (v := (0 : Int32)) dX6_most_21 (by decide) rfl ?_
        exact hB22 c0_possible x3 x3 (0 : Int32) hf
      have hf := ite_t hf c14
      refine z_iconst h (v := (1 : Int32)) dX6_most_17 (by decide) rfl ?_
      refine z_goto h (tgt := 22) dX6_most_18 (by decide) ?_
      exact hB22 c0_possible x3 x3 (1 : Int32) hf
  rw [fX6_most] at hf
  show Z 0 0 _ [(0, .ref a0), (1, .ref a1), (2, .int x2)] 0 []
  refine z_iconst h (v := (0 : Int32)) dX6_most_0 (by decide) rfl ?_
  refine z_istore_n h (lv2 := [(3, .int (0 : Int32)), (0, .ref a0), (1, .ref a1), (2, .int x2)]) dX6_most_1 (by decide) rfl rfl ?_
  refine z_locs h (lv2 := [(0, .ref a0), (1, .ref a1), (2, .int x2), (3, .int (0 : Int32))]) [1, 2, 3, 0] rfl ?_
  exact hL2 zF c0_possible (0 : Int32) hf
def fX9_begin (c0_acts : Int32) (c0_badAct : Int32) (c0_reason : Int32) (c0_losses : Int32) (c0_firstAct : Int32) (c0_firstLoser : Int32) (c0_town_hour : Int32) (c0_town_day : Int32) (c1_hour : Int32) (c1_day : Int32) (c0_town_air_cell : Int32) (c0_town_air_way : Int32) (c0_town_air_force : Int32) (c1_air_cell : Int32) (c1_air_way : Int32) (c1_air_force : Int32) (c1_cell : Nat → Int32) (c0_town_cell : Nat → Int32) (c1_hours : Nat → Int32) (c0_town_hours : Nat → Int32) (c1_owes : Nat → Int32) (c0_town_owes : Nat → Int32) (c1_holds : Nat → Int32) (c0_town_holds : Nat → Int32) (c1_lies : Nat → Int32) (c0_town_lies : Nat → Int32) (c1_goods : Nat → Int32) (c0_town_goods : Nat → Int32) (c1_liking : Nat → Int32) (c0_town_liking : Nat → Int32)  : Option (Int32 × Int32 × Int32 × Int32 × Int32 × Int32 × Int32 × Int32 × Int32 × Int32 × Int32 × (Nat → Int32) × (Nat → Int32) × (Nat → Int32) × (Nat → Int32) × (Nat → Int32) × (Nat → Int32) × (Nat → Int32)) := Option.bind (fX8_become c0_town_hour c0_town_day c1_hour c1_day c0_town_air_cell c0_town_air_way c0_town_air_force c1_air_cell c1_air_way c1_air_force c1_cell c0_town_cell c1_hours c0_town_hours c1_owes c0_town_owes c1_holds c0_town_holds c1_lies c0_town_lies c1_goods c0_town_goods c1_liking c0_town_liking) (fun v1 => (some ((0 : Int32), (-6 : Int32), (-6 : Int32), (0 : Int32), (-6 : Int32), (-6 : Int32), v1.1, v1.2.1, v1.2.2.1, v1.2.2.2.1, v1.2.2.2.2.1, v1.2.2.2.2.2.1, v1.2.2.2.2.2.2.1, v1.2.2.2.2.2.2.2.1, v1.2.2.2.2.2.2.2.2.1, v1.2.2.2.2.2.2.2.2.2.1, v1.2.2.2.2.2.2.2.2.2.2.1, v1.2.2.2.2.2.2.2.2.2.2.2)))
abbrev rmX9_begin : Room := { frames := 3, cells := 0, slots := 0, locals := 65 }
set_option maxRecDepth 100000 in
set_option maxHeartbeats 4000000 in
theorem ctX9_begin (l : Launch) (G : zG) (a0 a0_town a0_town_air a0_town_cell a0_town_hours a0_town_owes a0_town_holds a0_town_lies a0_town_goods a0_town_liking a1 a1_air a1_cell a1_hours a1_owes a1_holds a1_lies a1_goods a1_liking : Nat) (c0_acts : Int32) (c0_badAct : Int32) (c0_reason : Int32) (c0_losses : Int32) (c0_firstAct : Int32) (c0_firstLoser : Int32) (c0_town_hour : Int32) (c0_town_day : Int32) (c1_hour : Int32) (c1_day : Int32) (c0_town_air_cell : Int32) (c0_town_air_way : Int32) (c0_town_air_force : Int32) (c1_air_cell : Int32) (c1_air_way : Int32) (c1_air_force : Int32) (c1_cell : Nat → Int32) (c0_town_cell : Nat → Int32) (c1_hours : Nat → Int32) (c0_town_hours : Nat → Int32) (c1_owes : Nat → Int32) (c0_town_owes : Nat → Int32) (c1_holds : Nat → Int32) (c0_town_holds : Nat → Int32) (c1_lies : Nat → Int32) (c0_town_lies : Nat → Int32) (c1_goods : Nat → Int32) (c0_town_goods : Nat → Int32) (c1_liking : Nat → Int32) (c0_town_liking : Nat → Int32)  {R : Int32 × Int32 × Int32 × Int32 × Int32 × Int32 × Int32 × Int32 × Int32 × Int32 × Int32 × (Nat → Int32) × (Nat → Int32) × (Nat → Int32) × (Nat → Int32) × (Nat → Int32) × (Nat → Int32) × (Nat → Int32)} (hf : fX9_begin c0_acts c0_badAct c0_reason c0_losses c0_firstAct c0_firstLoser c0_town_hour c0_town_day c1_hour c1_day c0_town_air_cell c0_town_air_way c0_town_air_force c1_air_cell c1_air_way c1_air_force c1_cell c0_town_cell c1_hours c0_town_hours c1_owes c0_town_owes c1_holds c0_town_holds c1_lies c0_town_lies c1_goods c0_town_goods c1_liking c0_town_liking = some R) : zCt l yX9_begin wsX9_begin rmX9_begin G [(a0, .inr (9, [.ref a0_town, .int c0_acts, .int c0_badAct, .int c0_reason, .int c0_losses, .int c0_firstAct, .int c0_firstLoser])), (a0_town, .inr (8, [.ref a0_town_air, .ref a0_town_cell, .ref a0_town_hours, .ref a0_town_owes, .ref a0_town_holds, .ref a0_town_lies, .ref a0_town_goods, .ref a0_town_liking, .int c0_town_hour, .int c0_town_day])), (a1, .inr (8, [.ref a1_air, .ref a1_cell, .ref a1_hours, .ref a1_owes, .ref a1_holds, .ref a1_lies, .ref a1_goods, .ref a1_liking, .int c1_hour, .int c1_day])), (a0_town_air, .inr (10, [.int c0_town_air_cell, .int c0_town_air_way, .int c0_town_air_force])), (a1_air, .inr (10, [.int c1_air_cell, .int c1_air_way, .int c1_air_force])), (a1_cell, .inl (G.2.1, 6, .inl c1_cell)), (a0_town_cell, .inl (G.2.1, 6, .inl c0_town_cell)), (a1_hours, .inl (G.2.1, 6, .inl c1_hours)), (a0_town_hours, .inl (G.2.1, 6, .inl c0_town_hours)), (a1_owes, .inl (G.2.1, 6, .inl c1_owes)), (a0_town_owes, .inl (G.2.1, 6, .inl c0_town_owes)), (a1_holds, .inl (G.2.1, 6, .inl c1_holds)), (a0_town_holds, .inl (G.2.1, 6, .inl c0_town_holds)), (a1_lies, .inl (G.2.1, 6, .inl c1_lies)), (a0_town_lies, .inl (G.2.1, 6, .inl c0_town_lies)), (a1_goods, .inl (G.2.1, 18, .inl c1_goods)), (a0_town_goods, .inl (G.2.1, 18, .inl c0_town_goods)), (a1_liking, .inl (G.2.1, 3, .inl c1_liking)), (a0_town_liking, .inl (G.2.1, 3, .inl c0_town_liking))] [.ref a0, .ref a1] (fun v w => v = none ∧ w = [(a0, .inr (9, [.ref a0_town, .int (R.1), .int (R.2.1), .int (R.2.2.1), .int (R.2.2.2.1), .int (R.2.2.2.2.1), .int (R.2.2.2.2.2.1)])), (a0_town, .inr (8, [.ref a0_town_air, .ref a0_town_cell, .ref a0_town_hours, .ref a0_town_owes, .ref a0_town_holds, .ref a0_town_lies, .ref a0_town_goods, .ref a0_town_liking, .int (R.2.2.2.2.2.2.1), .int (R.2.2.2.2.2.2.2.1)])), (a1, .inr (8, [.ref a1_air, .ref a1_cell, .ref a1_hours, .ref a1_owes, .ref a1_holds, .ref a1_lies, .ref a1_goods, .ref a1_liking, .int c1_hour, .int c1_day])), (a0_town_air, .inr (10, [.int (R.2.2.2.2.2.2.2.2.1), .int (R.2.2.2.2.2.2.2.2.2.1), .int (R.2.2.2.2.2.2.2.2.2.2.1)])), (a1_air, .inr (10, [.int c1_air_cell, .int c1_air_way, .int c1_air_force])), (a1_cell, .inl (G.2.1, 6, .inl c1_cell)), (a0_town_cell, .inl (G.2.1, 6, .inl (R.2.2.2.2.2.2.2.2.2.2.2.1))), (a1_hours, .inl (G.2.1, 6, .inl c1_hours)), (a0_town_hours, .inl (G.2.1, 6, .inl (R.2.2.2.2.2.2.2.2.2.2.2.2.1))), (a1_owes, .inl (G.2.1, 6, .inl c1_owes)), (a0_town_owes, .inl (G.2.1, 6, .inl (R.2.2.2.2.2.2.2.2.2.2.2.2.2.1))), (a1_holds, .inl (G.2.1, 6, .inl c1_holds)), (a0_town_holds, .inl (G.2.1, 6, .inl (R.2.2.2.2.2.2.2.2.2.2.2.2.2.2.1))), (a1_lies, .inl (G.2.1, 6, .inl c1_lies)), (a0_town_lies, .inl (G.2.1, 6, .inl (R.2.2.2.2.2.2.2.2.2.2.2.2.2.2.2.1))), (a1_goods, .inl (G.2.1, 18, .inl c1_goods)), (a0_town_goods, .inl (G.2.1, 18, .inl (R.2.2.2.2.2.2.2.2.2.2.2.2.2.2.2.2.1))), (a1_liking, .inl (G.2.1, 3, .inl c1_liking)), (a0_town_liking, .inl (G.2.1, 3, .inl (R.2.2.2.2.2.2.2.2.2.2.2.2.2.2.2.2.2)))]) := by
  refine zMkV (own := RX9) false (by decide) (by decide +kernel) rfl rfl (Nat.le_of_ble_eq_true rfl) ?_
  intro Z h hret
  rw [fX9_begin] at hf
  show Z 0 0 _ [(0, .ref a0), (1, .ref a1)] 0 []
  refine z_aload_n h dX9_begin_0 0 rfl rfl ?_
  refine z_get h (C := RX9) (T := TX9) (N := 7) (v := .ref a0_town) 0 rfl rfl 0 (by decide) (by decide +kernel) (by decide +kernel) rfl dX9_begin_1 rfl ?_
  refine z_aload_n h dX9_begin_4 1 rfl rfl ?_
  obtain ⟨v1, hv1, hf⟩ := bd_some hf
  refine z_callV h (np := 1) (st := []) (wr := [(a0, .inr (9, [.ref a0_town, .int c0_acts, .int c0_badAct, .int c0_reason, .int c0_losses, .int c0_firstAct, .int c0_firstLoser]))]) [.ref a1] (ctX8_become l G a0_town a0_town_air a0_town_cell a0_town_hours a0_town_owes a0_town_holds a0_town_lies a0_town_goods a0_town_liking a1 a1_air a1_cell a1_hours a1_owes a1_holds a1_lies a1_goods a1_liking c0_town_hour c0_town_day c1_hour c1_day c0_town_air_cell c0_town_air_way c0_town_air_force c1_air_cell c1_air_way c1_air_force c1_cell c0_town_cell c1_hours c0_town_hours c1_owes c0_town_owes c1_holds c0_town_holds c1_lies c0_town_lies c1_goods c0_town_goods c1_liking c0_town_liking hv1) gX9_begin_X8_become (by decide +kernel) 0 rfl rfl rfl ⟨Nat.le_of_ble_eq_true rfl, Nat.le_of_ble_eq_true rfl⟩ ⟨Nat.le_refl _, Nat.le_refl _⟩ rfl rfl rfl [1, 2, 3, 4, 5, 6, 7, 8, 9, 10, 11, 12, 13, 14, 15, 16, 17, 18] [0] rfl rfl rfl rfl (by decide) (Nat.le_of_ble_eq_true rfl) dX9_begin_5 rfl rfl (fun rv1 wv1 hrv1 => ?_)
  obtain ⟨rfl, rfl⟩ := hrv1
  refine z_perm h (w2 := [(a0, .inr (9, [.ref a0_town, .int c0_acts, .int c0_badAct, .int c0_reason, .int c0_losses, .int c0_firstAct, .int c0_firstLoser])), (a0_town, .inr (8, [.ref a0_town_air, .ref a0_town_cell, .ref a0_town_hours, .ref a0_town_owes, .ref a0_town_holds, .ref a0_town_lies, .ref a0_town_goods, .ref a0_town_liking, .int v1.1, .int v1.2.1])), (a1, .inr (8, [.ref a1_air, .ref a1_cell, .ref a1_hours, .ref a1_owes, .ref a1_holds, .ref a1_lies, .ref a1_goods, .ref a1_liking, .int c1_hour, .int c1_day])), (a0_town_air, .inr (10, [.int v1.2.2.1, .int v1.2.2.2.1, .int v1.2.2.2.2.1])), (a1_air, .inr (10, [.int c1_air_cell, .int c1_air_way, .int c1_air_force])), (a1_cell, .inl (G.2.1, 6, .inl c1_cell)), (a0_town_cell, .inl (G.2.1, 6, .inl v1.2.2.2.2.2.1)), (a1_hours, .inl (G.2.1, 6, .inl c1_hours)), (a0_town_hours, .inl (G.2.1, 6, .inl v1.2.2.2.2.2.2.1)), (a1_owes, .inl (G.2.1, 6, .inl c1_owes)), (a0_town_owes, .inl (G.2.1, 6, .inl v1.2.2.2.2.2.2.2.1)), (a1_holds, .inl (G.2.1, 6, .inl c1_holds)), (a0_town_holds, .inl (G.2.1, 6, .inl v1.2.2.2.2.2.2.2.2.1)), (a1_lies, .inl (G.2.1, 6, .inl c1_lies)), (a0_town_lies, .inl (G.2.1, 6, .inl v1.2.2.2.2.2.2.2.2.2.1)), (a1_goods, .inl (G.2.1, 18, .inl c1_goods)), (a0_town_goods, .inl (G.2.1, 18, .inl v1.2.2.2.2.2.2.2.2.2.2.1)), (a1_liking, .inl (G.2.1, 3, .inl c1_liking)), (a0_town_liking, .inl (G.2.1, 3, .inl v1.2.2.2.2.2.2.2.2.2.2.2))]) (st := []) [0, 1, 2, 3, 4, 5, 6, 7, 8, 9, 10, 11, 12, 13, 14, 15, 16, 17, 18] rfl rfl ?_
  refine z_aload_n h dX9_begin_8 0 rfl rfl ?_
  refine z_iconst h (v := (0 : Int32)) dX9_begin_9 (by decide) rfl ?_
  refine z_put h (C := RX9) (T := TX9) (N := 7) 0 rfl rfl 1 (by decide) (by decide +kernel) (by decide +kernel) tyX9 tyX9_ok nmX9 (w2 := [(a0, .inr (9, [.ref a0_town, .int (0 : Int32), .int c0_badAct, .int c0_reason, .int c0_losses, .int c0_firstAct, .int c0_firstLoser])), (a0_town, .inr (8, [.ref a0_town_air, .ref a0_town_cell, .ref a0_town_hours, .ref a0_town_owes, .ref a0_town_holds, .ref a0_town_lies, .ref a0_town_goods, .ref a0_town_liking, .int v1.1, .int v1.2.1])), (a1, .inr (8, [.ref a1_air, .ref a1_cell, .ref a1_hours, .ref a1_owes, .ref a1_holds, .ref a1_lies, .ref a1_goods, .ref a1_liking, .int c1_hour, .int c1_day])), (a0_town_air, .inr (10, [.int v1.2.2.1, .int v1.2.2.2.1, .int v1.2.2.2.2.1])), (a1_air, .inr (10, [.int c1_air_cell, .int c1_air_way, .int c1_air_force])), (a1_cell, .inl (G.2.1, 6, .inl c1_cell)), (a0_town_cell, .inl (G.2.1, 6, .inl v1.2.2.2.2.2.1)), (a1_hours, .inl (G.2.1, 6, .inl c1_hours)), (a0_town_hours, .inl (G.2.1, 6, .inl v1.2.2.2.2.2.2.1)), (a1_owes, .inl (G.2.1, 6, .inl c1_owes)), (a0_town_owes, .inl (G.2.1, 6, .inl v1.2.2.2.2.2.2.2.1)), (a1_holds, .inl (G.2.1, 6, .inl c1_holds)), (a0_town_holds, .inl (G.2.1, 6, .inl v1.2.2.2.2.2.2.2.2.1)), (a1_lies, .inl (G.2.1, 6, .inl c1_lies)), (a0_town_lies, .inl (G.2.1, 6, .inl v1.2.2.2.2.2.2.2.2.2.1)), (a1_goods, .inl (G.2.1, 18, .inl c1_goods)), (a0_town_goods, .inl (G.2.1, 18, .inl v1.2.2.2.2.2.2.2.2.2.2.1)), (a1_liking, .inl (G.2.1, 3, .inl c1_liking)), (a0_town_liking, .inl (G.2.1, 3, .inl v1.2.2.2.2.2.2.2.2.2.2.2))]) rfl rfl rfl (Nat.le_of_ble_eq_true rfl) rfl dX9_begin_10 rfl ?_
  refine z_aload_n h dX9_begin_13 0 rfl rfl ?_
  refine z_bipush h (v := (-6 : Int32)) dX9_begin_14 (by decide) rfl ?_
  refine z_put h (C := RX9) (T := TX9) (N := 7) 0 rfl rfl 2 (by decide) (by decide +kernel) (by decide +kernel) tyX9 tyX9_ok nmX9 (w2 := [(a0, .inr (9, [.ref a0_town, .int (0 : Int32), .int (-6 : Int32), .int c0_reason, .int c0_losses, .int c0_firstAct, .int c0_firstLoser])), (a0_town, .inr (8, [.ref a0_town_air, .ref a0_town_cell, .ref a0_town_hours, .ref a0_town_owes, .ref a0_town_holds, .ref a0_town_lies, .ref a0_town_goods, .ref a0_town_liking, .int v1.1, .int v1.2.1])), (a1, .inr (8, [.ref a1_air, .ref a1_cell, .ref a1_hours, .ref a1_owes, .ref a1_holds, .ref a1_lies, .ref a1_goods, .ref a1_liking, .int c1_hour, .int c1_day])), (a0_town_air, .inr (10, [.int v1.2.2.1, .int v1.2.2.2.1, .int v1.2.2.2.2.1])), (a1_air, .inr (10, [.int c1_air_cell, .int c1_air_way, .int c1_air_force])), (a1_cell, .inl (G.2.1, 6, .inl c1_cell)), (a0_town_cell, .inl (G.2.1, 6, .inl v1.2.2.2.2.2.1)), (a1_hours, .inl (G.2.1, 6, .inl c1_hours)), (a0_town_hours, .inl (G.2.1, 6, .inl v1.2.2.2.2.2.2.1)), (a1_owes, .inl (G.2.1, 6, .inl c1_owes)), (a0_town_owes, .inl (G.2.1, 6, .inl v1.2.2.2.2.2.2.2.1)), (a1_holds, .inl (G.2.1, 6, .inl c1_holds)), (a0_town_holds, .inl (G.2.1, 6, .inl v1.2.2.2.2.2.2.2.2.1)), (a1_lies, .inl (G.2.1, 6, .inl c1_lies)), (a0_town_lies, .inl (G.2.1, 6, .inl v1.2.2.2.2.2.2.2.2.2.1)), (a1_goods, .inl (G.2.1, 18, .inl c1_goods)), (a0_town_goods, .inl (G.2.1, 18, .inl v1.2.2.2.2.2.2.2.2.2.2.1)), (a1_liking, .inl (G.2.1, 3, .inl c1_liking)), (a0_town_liking, .inl (G.2.1, 3, .inl v1.2.2.2.2.2.2.2.2.2.2.2))]) rfl rfl rfl (Nat.le_of_ble_eq_true rfl) rfl dX9_begin_16 rfl ?_
  refine z_aload_n h dX9_begin_19 0 rfl rfl ?_
  refine z_bipush h (v := (-6 : Int32)) dX9_begin_20 (by decide) rfl ?_
  refine z_put h (C := RX9) (T := TX9) (N := 7) 0 rfl rfl 3 (by decide) (by decide +kernel) (by decide +kernel) tyX9 tyX9_ok nmX9 (w2 := [(a0, .inr (9, [.ref a0_town, .int (0 : Int32), .int (-6 : Int32), .int (-6 : Int32), .int c0_losses, .int c0_firstAct, .int c0_firstLoser])), (a0_town, .inr (8, [.ref a0_town_air, .ref a0_town_cell, .ref a0_town_hours, .ref a0_town_owes, .ref a0_town_holds, .ref a0_town_lies, .ref a0_town_goods, .ref a0_town_liking, .int v1.1, .int v1.2.1])), (a1, .inr (8, [.ref a1_air, .ref a1_cell, .ref a1_hours, .ref a1_owes, .ref a1_holds, .ref a1_lies, .ref a1_goods, .ref a1_liking, .int c1_hour, .int c1_day])), (a0_town_air, .inr (10, [.int v1.2.2.1, .int v1.2.2.2.1, .int v1.2.2.2.2.1])), (a1_air, .inr (10, [.int c1_air_cell, .int c1_air_way, .int c1_air_force])), (a1_cell, .inl (G.2.1, 6, .inl c1_cell)), (a0_town_cell, .inl (G.2.1, 6, .inl v1.2.2.2.2.2.1)), (a1_hours, .inl (G.2.1, 6, .inl c1_hours)), (a0_town_hours, .inl (G.2.1, 6, .inl v1.2.2.2.2.2.2.1)), (a1_owes, .inl (G.2.1, 6, .inl c1_owes)), (a0_town_owes, .inl (G.2.1, 6, .inl v1.2.2.2.2.2.2.2.1)), (a1_holds, .inl (G.2.1, 6, .inl c1_holds)), (a0_town_holds, .inl (G.2.1, 6, .inl v1.2.2.2.2.2.2.2.2.1)), (a1_lies, .inl (G.2.1, 6, .inl c1_lies)), (a0_town_lies, .inl (G.2.1, 6, .inl v1.2.2.2.2.2.2.2.2.2.1)), (a1_goods, .inl (G.2.1, 18, .inl c1_goods)), (a0_town_goods, .inl (G.2.1, 18, .inl v1.2.2.2.2.2.2.2.2.2.2.1)), (a1_liking, .inl (G.2.1, 3, .inl c1_liking)), (a0_town_liking, .inl (G.2.1, 3, .inl v1.2.2.2.2.2.2.2.2.2.2.2))]) rfl rfl rfl (Nat.le_of_ble_eq_true rfl) rfl dX9_begin_22 rfl ?_
  refine z_aload_n h dX9_begin_25 0 rfl rfl ?_
  refine z_iconst h (v := (0 : Int32)) dX9_begin_26 (by decide) rfl ?_
  refine z_put h (C := RX9) (T := TX9) (N := 7) 0 rfl rfl 4 (by decide) (by decide +kernel) (by decide +kernel) tyX9 tyX9_ok nmX9 (w2 := [(a0, .inr (9, [.ref a0_town, .int (0 : Int32), .int (-6 : Int32), .int (-6 : Int32), .int (0 : Int32), .int c0_firstAct, .int c0_firstLoser])), (a0_town, .inr (8, [.ref a0_town_air, .ref a0_town_cell, .ref a0_town_hours, .ref a0_town_owes, .ref a0_town_holds, .ref a0_town_lies, .ref a0_town_goods, .ref a0_town_liking, .int v1.1, .int v1.2.1])), (a1, .inr (8, [.ref a1_air, .ref a1_cell, .ref a1_hours, .ref a1_owes, .ref a1_holds, .ref a1_lies, .ref a1_goods, .ref a1_liking, .int c1_hour, .int c1_day])), (a0_town_air, .inr (10, [.int v1.2.2.1, .int v1.2.2.2.1, .int v1.2.2.2.2.1])), (a1_air, .inr (10, [.int c1_air_cell, .int c1_air_way, .int c1_air_force])), (a1_cell, .inl (G.2.1, 6, .inl c1_cell)), (a0_town_cell, .inl (G.2.1, 6, .inl v1.2.2.2.2.2.1)), (a1_hours, .inl (G.2.1, 6, .inl c1_hours)), (a0_town_hours, .inl (G.2.1, 6, .inl v1.2.2.2.2.2.2.1)), (a1_owes, .inl (G.2.1, 6, .inl c1_owes)), (a0_town_owes, .inl (G.2.1, 6, .inl v1.2.2.2.2.2.2.2.1)), (a1_holds, .inl (G.2.1, 6, .inl c1_holds)), (a0_town_holds, .inl (G.2.1, 6, .inl v1.2.2.2.2.2.2.2.2.1)), (a1_lies, .inl (G.2.1, 6, .inl c1_lies)), (a0_town_lies, .inl (G.2.1, 6, .inl v1.2.2.2.2.2.2.2.2.2.1)), (a1_goods, .inl (G.2.1, 18, .inl c1_goods)), (a0_town_goods, .inl (G.2.1, 18, .inl v1.2.2.2.2.2.2.2.2.2.2.1)), (a1_liking, .inl (G.2.1, 3, .inl c1_liking)), (a0_town_liking, .inl (G.2.1, 3, .inl v1.2.2.2.2.2.2.2.2.2.2.2))]) rfl rfl rfl (Nat.le_of_ble_eq_true rfl) rfl dX9_begin_27 rfl ?_
  refine z_aload_n h dX9_begin_30 0 rfl rfl ?_
  refine z_bipush h (v := (-6 : Int32)) dX9_begin_31 (by decide) rfl ?_
  refine z_put h (C := RX9) (T := TX9) (N := 7) 0 rfl rfl 5 (by decide) (by decide +kernel) (by decide +kernel) tyX9 tyX9_ok nmX9 (w2 := [(a0, .inr (9, [.ref a0_town, .int (0 : Int32), .int (-6 : Int32), .int (-6 : Int32), .int (0 : Int32), .int (-6 : Int32), .int c0_firstLoser])), (a0_town, .inr (8, [.ref a0_town_air, .ref a0_town_cell, .ref a0_town_hours, .ref a0_town_owes, .ref a0_town_holds, .ref a0_town_lies, .ref a0_town_goods, .ref a0_town_liking, .int v1.1, .int v1.2.1])), (a1, .inr (8, [.ref a1_air, .ref a1_cell, .ref a1_hours, .ref a1_owes, .ref a1_holds, .ref a1_lies, .ref a1_goods, .ref a1_liking, .int c1_hour, .int c1_day])), (a0_town_air, .inr (10, [.int v1.2.2.1, .int v1.2.2.2.1, .int v1.2.2.2.2.1])), (a1_air, .inr (10, [.int c1_air_cell, .int c1_air_way, .int c1_air_force])), (a1_cell, .inl (G.2.1, 6, .inl c1_cell)), (a0_town_cell, .inl (G.2.1, 6, .inl v1.2.2.2.2.2.1)), (a1_hours, .inl (G.2.1, 6, .inl c1_hours)), (a0_town_hours, .inl (G.2.1, 6, .inl v1.2.2.2.2.2.2.1)), (a1_owes, .inl (G.2.1, 6, .inl c1_owes)), (a0_town_owes, .inl (G.2.1, 6, .inl v1.2.2.2.2.2.2.2.1)), (a1_holds, .inl (G.2.1, 6, .inl c1_holds)), (a0_town_holds, .inl (G.2.1, 6, .inl v1.2.2.2.2.2.2.2.2.1)), (a1_lies, .inl (G.2.1, 6, .inl c1_lies)), (a0_town_lies, .inl (G.2.1, 6, .inl v1.2.2.2.2.2.2.2.2.2.1)), (a1_goods, .inl (G.2.1, 18, .inl c1_goods)), (a0_town_goods, .inl (G.2.1, 18, .inl v1.2.2.2.2.2.2.2.2.2.2.1)), (a1_liking, .inl (G.2.1, 3, .inl c1_liking)), (a0_town_liking, .inl (G.2.1, 3, .inl v1.2.2.2.2.2.2.2.2.2.2.2))]) rfl rfl rfl (Nat.le_of_ble_eq_true rfl) rfl dX9_begin_33 rfl ?_
  refine z_aload_n h dX9_begin_36 0 rfl rfl ?_
  refine z_bipush h (v := (-6 : Int32)) dX9_begin_37 (by decide) rfl ?_
  refine z_put h (C := RX9) (T := TX9) (N := 7) 0 rfl rfl 6 (by decide) (by decide +kernel) (by decide +kernel) tyX9 tyX9_ok nmX9 (w2 := [(a0, .inr (9, [.ref a0_town, .int (0 : Int32), .int (-6 : Int32), .int (-6 : Int32), .int (0 : Int32), .int (-6 : Int32), .int (-6 : Int32)])), (a0_town, .inr (8, [.ref a0_town_air, .ref a0_town_cell, .ref a0_town_hours, .ref a0_town_owes, .ref a0_town_holds, .ref a0_town_lies, .ref a0_town_goods, .ref a0_town_liking, .int v1.1, .int v1.2.1])), (a1, .inr (8, [.ref a1_air, .ref a1_cell, .ref a1_hours, .ref a1_owes, .ref a1_holds, .ref a1_lies, .ref a1_goods, .ref a1_liking, .int c1_hour, .int c1_day])), (a0_town_air, .inr (10, [.int v1.2.2.1, .int v1.2.2.2.1, .int v1.2.2.2.2.1])), (a1_air, .inr (10, [.int c1_air_cell, .int c1_air_way, .int c1_air_force])), (a1_cell, .inl (G.2.1, 6, .inl c1_cell)), (a0_town_cell, .inl (G.2.1, 6, .inl v1.2.2.2.2.2.1)), (a1_hours, .inl (G.2.1, 6, .inl c1_hours)), (a0_town_hours, .inl (G.2.1, 6, .inl v1.2.2.2.2.2.2.1)), (a1_owes, .inl (G.2.1, 6, .inl c1_owes)), (a0_town_owes, .inl (G.2.1, 6, .inl v1.2.2.2.2.2.2.2.1)), (a1_holds, .inl (G.2.1, 6, .inl c1_holds)), (a0_town_holds, .inl (G.2.1, 6, .inl v1.2.2.2.2.2.2.2.2.1)), (a1_lies, .inl (G.2.1, 6, .inl c1_lies)), (a0_town_lies, .inl (G.2.1, 6, .inl v1.2.2.2.2.2.2.2.2.2.1)), (a1_goods, .inl (G.2.1, 18, .inl c1_goods)), (a0_town_goods, .inl (G.2.1, 18, .inl v1.2.2.2.2.2.2.2.2.2.2.1)), (a1_liking, .inl (G.2.1, 3, .inl c1_liking)), (a0_town_liking, .inl (G.2.1, 3, .inl v1.2.2.2.2.2.2.2.2.2.2.2))]) rfl rfl rfl (Nat.le_of_ble_eq_true rfl) rfl dX9_begin_39 rfl ?_
  have hf := Option.some.inj hf
  subst hf
  exact hret _ _ _ dX9_begin_42 ⟨rfl, rfl⟩
def fX9_noteLoss_b32 (c0_acts : Int32) (x1 : Int32)  (c0_losses : Int32) (c0_firstAct : Int32) (c0_firstLoser : Int32) : Option (Int32 × Int32 × Int32) := (some (c0_losses, c0_firstAct, c0_firstLoser))
def fX9_noteLoss (c0_acts : Int32) (c0_losses : Int32) (c0_firstAct : Int32) (c0_firstLoser : Int32) (x1 : Int32) : Option (Int32 × Int32 × Int32) := (if c0_firstLoser = (-6 : Int32) then (fX9_noteLoss_b32 c0_acts x1  (c0_losses + (1 : Int32)) c0_acts x1) else (fX9_noteLoss_b32 c0_acts x1  (c0_losses + (1 : Int32)) c0_firstAct c0_firstLoser))
abbrev rmX9_noteLoss : Room := { frames := 0, cells := 0, slots := 0, locals := 0 }
set_option maxRecDepth 100000 in
set_option maxHeartbeats 4000000 in
theorem ctX9_noteLoss (l : Launch) (G : zG) (a0 a0_town : Nat) (c0_acts : Int32) (c0_badAct : Int32) (c0_reason : Int32) (c0_losses : Int32) (c0_firstAct : Int32) (c0_firstLoser : Int32) (x1 : Int32) {R : Int32 × Int32 × Int32} (hf : fX9_noteLoss c0_acts c0_losses c0_firstAct c0_firstLoser x1 = some R) : zCt l yX9_noteLoss wsX9_noteLoss rmX9_noteLoss G [(a0, .inr (9, [.ref a0_town, .int c0_acts, .int c0_badAct, .int c0_reason, .int c0_losses, .int c0_firstAct, .int c0_firstLoser]))] [.ref a0, .int x1] (fun v w => v = none ∧ w = [(a0, .inr (9, [.ref a0_town, .int c0_acts, .int c0_badAct, .int c0_reason, .int (R.1), .int (R.2.1), .int (R.2.2)]))]) := by
  refine zMkV (own := RX9) false (by decide) (by decide +kernel) rfl rfl (Nat.le_of_ble_eq_true rfl) ?_
  intro Z h hret
  have hB32 : ∀ (c0_losses : Int32) (c0_firstAct : Int32) (c0_firstLoser : Int32), fX9_noteLoss_b32 c0_acts x1  c0_losses c0_firstAct c0_firstLoser = some R → Z 0 0 [(a0, .inr (9, [.ref a0_town, .int c0_acts, .int c0_badAct, .int c0_reason, .int c0_losses, .int c0_firstAct, .int c0_firstLoser]))] [] 32 [] := by
    intro c0_losses c0_firstAct c0_firstLoser hf
    rw [fX9_noteLoss_b32] at hf
    have hf := Option.some.inj hf
    subst hf
    exact hret _ _ _ dX9_noteLoss_32 ⟨rfl, rfl⟩
  rw [fX9_noteLoss] at hf
  show Z 0 0 _ [(0, .ref a0), (1, .int x1)] 0 []
  refine z_aload_n h dX9_noteLoss_0 0 rfl rfl ?_
  refine z_dup h dX9_noteLoss_1 rfl rfl ?_
  refine z_get h (C := RX9) (T := TX9) (N := 7) (v := .int c0_losses) 0 rfl rfl 4 (by decide) (by decide +kernel) (by decide +kernel) rfl dX9_noteLoss_2 rfl ?_
  refine z_iconst h (v := (1 : Int32)) dX9_noteLoss_5 (by decide) rfl ?_
  refine z_iadd h dX9_noteLoss_6 rfl ?_
  refine z_put h (C := RX9) (T := TX9) (N := 7) 0 rfl rfl 4 (by decide) (by decide +kernel) (by decide +kernel) tyX9 tyX9_ok nmX9 (w2 := [(a0, .inr (9, [.ref a0_town, .int c0_acts, .int c0_badAct, .int c0_reason, .int (c0_losses + (1 : Int32)), .int c0_firstAct, .int c0_firstLoser]))]) rfl rfl rfl (Nat.le_of_ble_eq_true rfl) rfl dX9_noteLoss_7 rfl ?_
  refine z_aload_n h dX9_noteLoss_10 0 rfl rfl ?_
  refine z_get h (C := RX9) (T := TX9) (N := 7) (v := .int c0_firstLoser) 0 rfl rfl 6 (by decide) (by decide +kernel) (by decide +kernel) rfl dX9_noteLoss_11 rfl ?_
  refine z_bipush h (v := (-6 : Int32)) dX9_noteLoss_14 (by decide) rfl ?_
  refine z_icmp_ne h (tgt := 32) dX9_noteLoss_16 (by decide) rfl (fun c1 => ?_) (fun c1 => ?_)
  · have hf := ite_f hf c1
    refine z_locs h (lv2 := []) [] rfl ?_
    exact hB32 (c0_losses + (1 : Int32)) c0_firstAct c0_firstLoser hf
  have hf := ite_t hf c1
  refine z_aload_n h dX9_noteLoss_19 0 rfl rfl ?_
  refine z_aload_n h dX9_noteLoss_20 0 rfl rfl ?_
  refine z_get h (C := RX9) (T := TX9) (N := 7) (v := .int c0_acts) 0 rfl rfl 1 (by decide) (by decide +kernel) (by decide +kernel) rfl dX9_noteLoss_21 rfl ?_
  refine z_put h (C := RX9) (T := TX9) (N := 7) 0 rfl rfl 5 (by decide) (by decide +kernel) (by decide +kernel) tyX9 tyX9_ok nmX9 (w2 := [(a0, .inr (9, [.ref a0_town, .int c0_acts, .int c0_badAct, .int c0_reason, .int (c0_losses + (1 : Int32)), .int c0_acts, .int c0_firstLoser]))]) rfl rfl rfl (Nat.le_of_ble_eq_true rfl) rfl dX9_noteLoss_24 rfl ?_
  refine z_aload_n h dX9_noteLoss_27 0 rfl rfl ?_
  refine z_iload_n h dX9_noteLoss_28 1 rfl rfl ?_
  refine z_put h (C := RX9) (T := TX9) (N := 7) 0 rfl rfl 6 (by decide) (by decide +kernel) (by decide +kernel) tyX9 tyX9_ok nmX9 (w2 := [(a0, .inr (9, [.ref a0_town, .int c0_acts, .int c0_badAct, .int c0_reason, .int (c0_losses + (1 : Int32)), .int c0_acts, .int x1]))]) rfl rfl rfl (Nat.le_of_ble_eq_true rfl) rfl dX9_noteLoss_29 rfl ?_
  refine z_locs h (lv2 := []) [] rfl ?_
  exact hB32 (c0_losses + (1 : Int32)) c0_acts x1 hf
def fX9_blowOn_b72 (c0_acts : Int32) (c0_town_cell : Nat → Int32) (c0_town_air_cell : Int32) (c0_town_air_way : Int32) (x1 : Int32) (K4 : (Int32 → Int32 → Int32 → (Nat → Int32) → Int32 → Int32 → Option (Int32 × Int32 × Int32 × Int32 × (Nat → Int32)))) (c0_losses : Int32) (c0_firstAct : Int32) (c0_firstLoser : Int32) (c0_town_lies : Nat → Int32) (x2 : Int32) (x3 : Int32) : Option (Int32 × Int32 × Int32 × Int32 × (Nat → Int32)) := (K4 c0_losses c0_firstAct c0_firstLoser c0_town_lies x2 (x3 + (1 : Int32)))
def fX9_blowOn_L4 (c0_acts : Int32) (c0_town_cell : Nat → Int32) (c0_town_air_cell : Int32) (c0_town_air_way : Int32) (x1 : Int32)  : Nat → Int32 → Int32 → Int32 → (Nat → Int32) → Int32 → Int32 → Option (Int32 × Int32 × Int32 × Int32 × (Nat → Int32))
  | 0, _, _, _, _, _, _ => none
  | n + 1, c0_losses, c0_firstAct, c0_firstLoser, c0_town_lies, x2, x3 => (if (6 : Int32) ≤ x3 then (some (x2, c0_losses, c0_firstAct, c0_firstLoser, c0_town_lies)) else Option.bind (fX11_has x1 x3) (fun v2 => (if v2 = (0 : Int32) then (fX9_blowOn_b72 c0_acts c0_town_cell c0_town_air_cell c0_town_air_way x1 (fX9_blowOn_L4 c0_acts c0_town_cell c0_town_air_cell c0_town_air_way x1  n) c0_losses c0_firstAct c0_firstLoser c0_town_lies x2 x3) else gd (inb x3 6) ((if (c0_town_cell (x3).toNatClampNeg) = c0_town_air_cell then Option.bind (fX10_landing c0_town_air_cell c0_town_air_way) (fun v6 => gd (inb x3 6) (Option.bind (fX9_noteLoss c0_acts c0_losses c0_firstAct c0_firstLoser x3) (fun v8 => (fX9_blowOn_b72 c0_acts c0_town_cell c0_town_air_cell c0_town_air_way x1 (fX9_blowOn_L4 c0_acts c0_town_cell c0_town_air_cell c0_town_air_way x1  n) v8.1 v8.2.1 v8.2.2 (upd c0_town_lies (x3).toNatClampNeg v6) (x2 &&& ((sl (1 : Int32) x3) ^^^ (-1 : Int32))) x3)))) else (fX9_blowOn_b72 c0_acts c0_town_cell c0_town_air_cell c0_town_air_way x1 (fX9_blowOn_L4 c0_acts c0_town_cell c0_town_air_cell c0_town_air_way x1  n) c0_losses c0_firstAct c0_firstLoser c0_town_lies x2 x3))))))
def fX9_blowOn (c0_acts : Int32) (c0_losses : Int32) (c0_firstAct : Int32) (c0_firstLoser : Int32) (c0_town_cell : Nat → Int32) (c0_town_air_cell : Int32) (c0_town_air_way : Int32) (c0_town_lies : Nat → Int32) (x1 : Int32) : Option (Int32 × Int32 × Int32 × Int32 × (Nat → Int32)) := (fX9_blowOn_L4 c0_acts c0_town_cell c0_town_air_cell c0_town_air_way x1  zF c0_losses c0_firstAct c0_firstLoser c0_town_lies x1 (0 : Int32))
abbrev rmX9_blowOn : Room := { frames := 2, cells := 0, slots := 0, locals := 40 }
set_option maxRecDepth 100000 in
set_option maxHeartbeats 4000000 in
theorem ctX9_blowOn (l : Launch) (G : zG) (a0 a0_town a0_town_air a0_town_cell a0_town_hours a0_town_owes a0_town_holds a0_town_lies a0_town_goods a0_town_liking : Nat) (c0_acts : Int32) (c0_badAct : Int32) (c0_reason : Int32) (c0_losses : Int32) (c0_firstAct : Int32) (c0_firstLoser : Int32) (c0_town_hour : Int32) (c0_town_day : Int32) (c0_town_cell : Nat → Int32) (c0_town_air_cell : Int32) (c0_town_air_way : Int32) (c0_town_air_force : Int32) (c0_town_lies : Nat → Int32) (x1 : Int32) {R : Int32 × Int32 × Int32 × Int32 × (Nat → Int32)} (hf : fX9_blowOn c0_acts c0_losses c0_firstAct c0_firstLoser c0_town_cell c0_town_air_cell c0_town_air_way c0_town_lies x1 = some R) : zCt l yX9_blowOn wsX9_blowOn rmX9_blowOn G [(a0, .inr (9, [.ref a0_town, .int c0_acts, .int c0_badAct, .int c0_reason, .int c0_losses, .int c0_firstAct, .int c0_firstLoser])), (a0_town, .inr (8, [.ref a0_town_air, .ref a0_town_cell, .ref a0_town_hours, .ref a0_town_owes, .ref a0_town_holds, .ref a0_town_lies, .ref a0_town_goods, .ref a0_town_liking, .int c0_town_hour, .int c0_town_day])), (a0_town_cell, .inl (G.2.1, 6, .inl c0_town_cell)), (a0_town_air, .inr (10, [.int c0_town_air_cell, .int c0_town_air_way, .int c0_town_air_force])), (a0_town_lies, .inl (G.2.1, 6, .inl c0_town_lies))] [.ref a0, .int x1] (fun v w => v = some (.int (R.1)) ∧ w = [(a0, .inr (9, [.ref a0_town, .int c0_acts, .int c0_badAct, .int c0_reason, .int (R.2.1), .int (R.2.2.1), .int (R.2.2.2.1)])), (a0_town, .inr (8, [.ref a0_town_air, .ref a0_town_cell, .ref a0_town_hours, .ref a0_town_owes, .ref a0_town_holds, .ref a0_town_lies, .ref a0_town_goods, .ref a0_town_liking, .int c0_town_hour, .int c0_town_day])), (a0_town_cell, .inl (G.2.1, 6, .inl c0_town_cell)), (a0_town_air, .inr (10, [.int c0_town_air_cell, .int c0_town_air_way, .int c0_town_air_force])), (a0_town_lies, .inl (G.2.1, 6, .inl (R.2.2.2.2)))]) := by
  refine zMkI (own := RX9) false (by decide) (by decide +kernel) rfl rfl (Nat.le_of_ble_eq_true rfl) ?_
  intro Z h hret
  have hL4 : ∀ (n4 : Nat) (c0_losses : Int32) (c0_firstAct : Int32) (c0_firstLoser : Int32) (c0_town_lies : Nat → Int32) (x2 : Int32) (x3 : Int32), fX9_blowOn_L4 c0_acts c0_town_cell c0_town_air_cell c0_town_air_way x1  n4 c0_losses c0_firstAct c0_firstLoser c0_town_lies x2 x3 = some R → Z 0 0 [(a0, .inr (9, [.ref a0_town, .int c0_acts, .int c0_badAct, .int c0_reason, .int c0_losses, .int c0_firstAct, .int c0_firstLoser])), (a0_town, .inr (8, [.ref a0_town_air, .ref a0_town_cell, .ref a0_town_hours, .ref a0_town_owes, .ref a0_town_holds, .ref a0_town_lies, .ref a0_town_goods, .ref a0_town_liking, .int c0_town_hour, .int c0_town_day])), (a0_town_cell, .inl (G.2.1, 6, .inl c0_town_cell)), (a0_town_air, .inr (10, [.int c0_town_air_cell, .int c0_town_air_way, .int c0_town_air_force])), (a0_town_lies, .inl (G.2.1, 6, .inl c0_town_lies))] [(0, .ref a0), (1, .int x1), (2, .int x2), (3, .int x3)] 4 [] := by
    intro n4
    induction n4 with
    | zero =>
      intro c0_losses c0_firstAct c0_firstLoser c0_town_lies x2 x3 hf
      rw [fX9_blowOn_L4] at hf
      cases hf
    | succ n4 ih4 =>
      have hB72 : ∀ (c0_losses : Int32) (c0_firstAct : Int32) (c0_firstLoser : Int32) (c0_town_lies : Nat → Int32) (x2 : Int32) (x3 : Int32), fX9_blowOn_b72 c0_acts c0_town_cell c0_town_air_cell c0_town_air_way x1 (fX9_blowOn_L4 c0_acts c0_town_cell c0_town_air_cell c0_town_air_way x1  n4) c0_losses c0_firstAct c0_firstLoser c0_town_lies x2 x3 = some R → Z 0 0 [(a0, .inr (9, [.ref a0_town, .int c0_acts, .int c0_badAct, .int c0_reason, .int c0_losses, .int c0_firstAct, .int c0_firstLoser])), (a0_town, .inr (8, [.ref a0_town_air, .ref a0_town_cell, .ref a0_town_hours, .ref a0_town_owes, .ref a0_town_holds, .ref a0_town_lies, .ref a0_town_goods, .ref a0_town_liking, .int c0_town_hour, .int c0_town_day])), (a0_town_cell, .inl (G.2.1, 6, .inl c0_town_cell)), (a0_town_air, .inr (10, [.int c0_town_air_cell, .int c0_town_air_way, .int c0_town_air_force])), (a0_town_lies, .inl (G.2.1, 6, .inl c0_town_lies))] [(0, .ref a0), (1, .int x1), (2, .int x2), (3, .int x3)] 72 [] := by
        intro c0_losses c0_firstAct c0_firstLoser c0_town_lies x2 x3 hf
        rw [fX9_blowOn_b72] at hf
        refine z_iinc h (v := (x3 + (1 : Int32))) (lv2 := [(3, .int (x3 + (1 : Int32))), (0, .ref a0), (1, .int x1), (2, .int x2)]) (j := 3) dX9_blowOn_72 rfl rfl (by decide) rfl rfl ?_
        refine z_goto h (tgt := 4) dX9_blowOn_75 (by decide) ?_
        refine z_locs h (lv2 := [(0, .ref a0), (1, .int x1), (2, .int x2), (3, .int (x3 + (1 : Int32)))]) [1, 2, 3, 0] rfl ?_
        exact ih4 c0_losses c0_firstAct c0_firstLoser c0_town_lies x2 (x3 + (1 : Int32)) hf
      intro c0_losses c0_firstAct c0_firstLoser c0_town_lies x2 x3 hf
      rw [fX9_blowOn_L4] at hf
      refine z_iload_n h dX9_blowOn_4 3 rfl rfl ?_
      refine z_bipush h (v := (6 : Int32)) dX9_blowOn_5 (by decide) rfl ?_
      refine z_icmp_ge h (tgt := 78) dX9_blowOn_7 (by decide) rfl (fun c1 => ?_) (fun c1 => ?_)
      · have hf := ite_t hf c1
        refine z_iload_n h dX9_blowOn_78 2 rfl rfl ?_
        have hf := Option.some.inj hf
        subst hf
        exact hret _ _ _ _ dX9_blowOn_79 ⟨rfl, rfl⟩
      have hf := ite_f hf c1
      refine z_iload_n h dX9_blowOn_10 1 rfl rfl ?_
      refine z_iload_n h dX9_blowOn_11 3 rfl rfl ?_
      obtain ⟨v2, hv2, hf⟩ := bd_some hf
      refine z_callSN h (np := 2) (st := []) (wr := [(a0, .inr (9, [.ref a0_town, .int c0_acts, .int c0_badAct, .int c0_reason, .int c0_losses, .int c0_firstAct, .int c0_firstLoser])), (a0_town, .inr (8, [.ref a0_town_air, .ref a0_town_cell, .ref a0_town_hours, .ref a0_town_owes, .ref a0_town_holds, .ref a0_town_lies, .ref a0_town_goods, .ref a0_town_liking, .int c0_town_hour, .int c0_town_day])), (a0_town_cell, .inl (G.2.1, 6, .inl c0_town_cell)), (a0_town_air, .inr (10, [.int c0_town_air_cell, .int c0_town_air_way, .int c0_town_air_force])), (a0_town_lies, .inl (G.2.1, 6, .inl c0_town_lies))]) [.int x1, .int x3] (ctX11_has l G x1 x3 hv2) gX9_blowOn_X11_has_n107 (by decide +kernel) (by decide +kernel) (by decide +kernel) (by decide +kernel) rfl ⟨Nat.le_of_ble_eq_true rfl, Nat.le_of_ble_eq_true rfl⟩ ⟨Nat.le_refl _, Nat.le_refl _⟩ rfl rfl rfl [] [0, 1, 2, 3, 4] rfl rfl rfl rfl (by decide) (Nat.le_of_ble_eq_true rfl) dX9_blowOn_12 rfl rfl (fun rv2 wv2 hrv2 => ?_)
      obtain ⟨rfl, rfl⟩ := hrv2
      refine z_perm h (w2 := [(a0, .inr (9, [.ref a0_town, .int c0_acts, .int c0_badAct, .int c0_reason, .int c0_losses, .int c0_firstAct, .int c0_firstLoser])), (a0_town, .inr (8, [.ref a0_town_air, .ref a0_town_cell, .ref a0_town_hours, .ref a0_town_owes, .ref a0_town_holds, .ref a0_town_lies, .ref a0_town_goods, .ref a0_town_liking, .int c0_town_hour, .int c0_town_day])), (a0_town_cell, .inl (G.2.1, 6, .inl c0_town_cell)), (a0_town_air, .inr (10, [.int c0_town_air_cell, .int c0_town_air_way, .int c0_town_air_force])), (a0_town_lies, .inl (G.2.1, 6, .inl c0_town_lies))]) (st := [.int v2]) [0, 1, 2, 3, 4] rfl rfl ?_
      refine z_if_eq h (tgt := 72) dX9_blowOn_15 (by decide) rfl (fun c3 => ?_) (fun c3 => ?_)
      · have hf := ite_t hf c3
        exact hB72 c0_losses c0_firstAct c0_firstLoser c0_town_lies x2 x3 hf
      have hf := ite_f hf c3
      refine z_aload_n h dX9_blowOn_18 0 rfl rfl ?_
      refine z_get h (C := RX9) (T := TX9) (N := 7) (v := .ref a0_town) 0 rfl rfl 0 (by decide) (by decide +kernel) (by decide +kernel) rfl dX9_blowOn_19 rfl ?_
      refine z_get h (C := RX8) (T := TX8) (N := 10) (v := .ref a0_town_cell) 1 rfl rfl 1 (by decide) (by decide +kernel) (by decide +kernel) rfl dX9_blowOn_22 rfl ?_
      refine z_iload_n h dX9_blowOn_25 3 rfl rfl ?_
      obtain ⟨hg4, hf⟩ := gd_some hf
      refine z_iald h 2 rfl rfl hg4 dX9_blowOn_26 rfl ?_
      refine z_aload_n h dX9_blowOn_27 0 rfl rfl ?_
      refine z_get h (C := RX9) (T := TX9) (N := 7) (v := .ref a0_town) 0 rfl rfl 0 (by decide) (by decide +kernel) (by decide +kernel) rfl dX9_blowOn_28 rfl ?_
      refine z_get h (C := RX8) (T := TX8) (N := 10) (v := .ref a0_town_air) 1 rfl rfl 0 (by decide) (by decide +kernel) (by decide +kernel) rfl dX9_blowOn_31 rfl ?_
      refine z_get h (C := RX10) (T := TX10) (N := 3) (v := .int c0_town_air_cell) 3 rfl rfl 0 (by decide) (by decide +kernel) (by decide +kernel) rfl dX9_blowOn_34 rfl ?_
      refine z_icmp_ne h (tgt := 72) dX9_blowOn_37 (by decide) rfl (fun c5 => ?_) (fun c5 => ?_)
      · have hf := ite_f hf c5
        exact hB72 c0_losses c0_firstAct c0_firstLoser c0_town_lies x2 x3 hf
      have hf := ite_t hf c5
      refine z_aload_n h dX9_blowOn_40 0 rfl rfl ?_
      refine z_get h (C := RX9) (T := TX9) (N := 7) (v := .ref a0_town) 0 rfl rfl 0 (by decide) (by decide +kernel) (by decide +kernel) rfl dX9_blowOn_41 rfl ?_
      refine z_get h (C := RX8) (T := TX8) (N := 10) (v := .ref a0_town_lies) 1 rfl rfl 5 (by decide) (by decide +kernel) (by decide +kernel) rfl dX9_blowOn_44 rfl ?_
      refine z_iload_n h dX9_blowOn_47 3 rfl rfl ?_
      refine z_aload_n h dX9_blowOn_48 0 rfl rfl ?_
      refine z_get h (C := RX9) (T := TX9) (N := 7) (v := .ref a0_town) 0 rfl rfl 0 (by decide) (by decide +kernel) (by decide +kernel) rfl dX9_blowOn_49 rfl ?_
      refine z_get h (C := RX8) (T := TX8) (N := 10) (v := .ref a0_town_air) 1 rfl rfl 0 (by decide) (by decide +kernel) (by decide +kernel) rfl dX9_blowOn_52 rfl ?_
      obtain ⟨v6, hv6, hf⟩ := bd_some hf
      refine z_callV h (np := 0) (st := [.int x3, .ref a0_town_lies]) (wr := [(a0, .inr (9, [.ref a0_town, .int c0_acts, .int c0_badAct, .int c0_reason, .int c0_losses, .int c0_firstAct, .int c0_firstLoser])), (a0_town, .inr (8, [.ref a0_town_air, .ref a0_town_cell, .ref a0_town_hours, .ref a0_town_owes, .ref a0_town_holds, .ref a0_town_lies, .ref a0_town_goods, .ref a0_town_liking, .int c0_town_hour, .int c0_town_day])), (a0_town_cell, .inl (G.2.1, 6, .inl c0_town_cell)), (a0_town_lies, .inl (G.2.1, 6, .inl c0_town_lies))]) [] (ctX10_landing l G a0_town_air c0_town_air_cell c0_town_air_way c0_town_air_force hv6) gX9_blowOn_X10_landing (by decide +kernel) 0 rfl rfl rfl ⟨Nat.le_of_ble_eq_true rfl, Nat.le_of_ble_eq_true rfl⟩ ⟨Nat.le_refl _, Nat.le_refl _⟩ rfl rfl rfl [3] [0, 1, 2, 4] rfl rfl rfl rfl (by decide) (Nat.le_of_ble_eq_true rfl) dX9_blowOn_55 rfl rfl (fun rv6 wv6 hrv6 => ?_)
      obtain ⟨rfl, rfl⟩ := hrv6
      refine z_perm h (w2 := [(a0, .inr (9, [.ref a0_town, .int c0_acts, .int c0_badAct, .int c0_reason, .int c0_losses, .int c0_firstAct, .int c0_firstLoser])), (a0_town, .inr (8, [.ref a0_town_air, .ref a0_town_cell, .ref a0_town_hours, .ref a0_town_owes, .ref a0_town_holds, .ref a0_town_lies, .ref a0_town_goods, .ref a0_town_liking, .int c0_town_hour, .int c0_town_day])), (a0_town_cell, .inl (G.2.1, 6, .inl c0_town_cell)), (a0_town_air, .inr (10, [.int c0_town_air_cell, .int c0_town_air_way, .int c0_town_air_force])), (a0_town_lies, .inl (G.2.1, 6, .inl c0_town_lies))]) (st := [.int v6, .int x3, .ref a0_town_lies]) [0, 1, 2, 4, 3] rfl rfl ?_
      obtain ⟨hg7, hf⟩ := gd_some hf
      refine z_iast h (w2 := [(a0, .inr (9, [.ref a0_town, .int c0_acts, .int c0_badAct, .int c0_reason, .int c0_losses, .int c0_firstAct, .int c0_firstLoser])), (a0_town, .inr (8, [.ref a0_town_air, .ref a0_town_cell, .ref a0_town_hours, .ref a0_town_owes, .ref a0_town_holds, .ref a0_town_lies, .ref a0_town_goods, .ref a0_town_liking, .int c0_town_hour, .int c0_town_day])), (a0_town_cell, .inl (G.2.1, 6, .inl c0_town_cell)), (a0_town_air, .inr (10, [.int c0_town_air_cell, .int c0_town_air_way, .int c0_town_air_force])), (a0_town_lies, .inl (G.2.1, 6, .inl (upd c0_town_lies (x3).toNatClampNeg v6)))]) 4 rfl rfl hg7 dX9_blowOn_58 rfl rfl ?_
      refine z_iload_n h dX9_blowOn_59 2 rfl rfl ?_
      refine z_iconst h (v := (1 : Int32)) dX9_blowOn_60 (by decide) rfl ?_
      refine z_iload_n h dX9_blowOn_61 3 rfl rfl ?_
      refine z_ishl h dX9_blowOn_62 rfl ?_
      refine z_iconst h (v := (-1 : Int32)) dX9_blowOn_63 (by decide) rfl ?_
      refine z_ixor h dX9_blowOn_64 rfl ?_
      refine z_iand h dX9_blowOn_65 rfl ?_
      refine z_istore_n h (lv2 := [(2, .int (x2 &&& ((sl (1 : Int32) x3) ^^^ (-1 : Int32)))), (0, .ref a0), (1, .int x1), (3, .int x3)]) dX9_blowOn_66 (by decide) rfl rfl ?_
      refine z_aload_n h dX9_blowOn_67 1 rfl rfl ?_
      refine z_iload_n h dX9_blowOn_68 3 rfl rfl ?_
      obtain ⟨v8, hv8, hf⟩ := bd_some hf
      refine z_callV h (np := 1) (st := []) (wr := [(a0_town, .inr (8, [.ref a0_town_air, .ref a0_town_cell, .ref a0_town_hours, .ref a0_town_owes, .ref a0_town_holds, .ref a0_town_lies, .ref a0_town_goods, .ref a0_town_liking, .int c0_town_hour, .int c0_town_day])), (a0_town_cell, .inl (G.2.1, 6, .inl c0_town_cell)), (a0_town_air, .inr (10, [.int c0_town_air_cell, .int c0_town_air_way, .int c0_town_air_force])), (a0_town_lies, .inl (G.2.1, 6, .inl (upd c0_town_lies (x3).toNatClampNeg v6)))]) [.int x3] (ctX9_noteLoss l G a0 a0_town c0_acts c0_badAct c0_reason c0_losses c0_firstAct c0_firstLoser x3 hv8) gX9_blowOn_X9_noteLoss (by decide +kernel) 0 rfl rfl rfl ⟨Nat.le_of_ble_eq_true rfl, Nat.le_of_ble_eq_true rfl⟩ ⟨Nat.le_refl _, Nat.le_refl _⟩ rfl rfl rfl [0] [1, 2, 3, 4] rfl rfl rfl rfl (by decide) (Nat.le_of_ble_eq_true rfl) dX9_blowOn_69 rfl rfl (fun rv8 wv8 hrv8 => ?_)
      obtain ⟨rfl, rfl⟩ := hrv8
      refine z_perm h (w2 := [(a0, .inr (9, [.ref a0_town, .int c0_acts, .int c0_badAct, .int c0_reason, .int v8.1, .int v8.2.1, .int v8.2.2])), (a0_town, .inr (8, [.ref a0_town_air, .ref a0_town_cell, .ref a0_town_hours, .ref a0_town_owes, .ref a0_town_holds, .ref a0_town_lies, .ref a0_town_goods, .ref a0_town_liking, .int c0_town_hour, .int c0_town_day])), (a0_town_cell, .inl (G.2.1, 6, .inl c0_town_cell)), (a0_town_air, .inr (10, [.int c0_town_air_cell, .int c0_town_air_way, .int c0_town_air_force])), (a0_town_lies, .inl (G.2.1, 6, .inl (upd c0_town_lies (x3).toNatClampNeg v6)))]) (st := []) [4, 0, 1, 2, 3] rfl rfl ?_
      refine z_locs h (lv2 := [(0, .ref a0), (1, .int x1), (2, .int (x2 &&& ((sl (1 : Int32) x3) ^^^ (-1 : Int32)))), (3, .int x3)]) [1, 2, 0, 3] rfl ?_
      exact hB72 v8.1 v8.2.1 v8.2.2 (upd c0_town_lies (x3).toNatClampNeg v6) (x2 &&& ((sl (1 : Int32) x3) ^^^ (-1 : Int32))) x3 hf
  rw [fX9_blowOn] at hf
  show Z 0 0 _ [(0, .ref a0), (1, .int x1)] 0 []
  refine z_iload_n h dX9_blowOn_0 1 rfl rfl ?_
  refine z_istore_n h (lv2 := [(2, .int x1), (0, .ref a0), (1, .int x1)]) dX9_blowOn_1 (by decide) rfl rfl ?_
  refine z_iconst h (v := (0 : Int32)) dX9_blowOn_2 (by decide) rfl ?_
  refine z_istore_n h (lv2 := [(3, .int (0 : Int32)), (2, .int x1), (0, .ref a0), (1, .int x1)]) dX9_blowOn_3 (by decide) rfl rfl ?_
  refine z_locs h (lv2 := [(0, .ref a0), (1, .int x1), (2, .int x1), (3, .int (0 : Int32))]) [2, 3, 1, 0] rfl ?_
  exact hL4 zF c0_losses c0_firstAct c0_firstLoser c0_town_lies x1 (0 : Int32) hf
def fX9_passAnHour_b64 (c0_acts : Int32) (c0_town_hours : Nat → Int32) (c0_town_holds : Nat → Int32) (c0_town_air_force : Int32) (c0_town_cell : Nat → Int32) (K30 : (Int32 → Int32 → Int32 → Int32 → Int32 → (Nat → Int32) → (Nat → Int32) → Int32 → Int32 → Int32 → Int32 → Option (Int32 × Int32 × Int32 × Int32 × Int32 × (Nat → Int32) × (Nat → Int32) × Int32 × Int32))) (c0_losses : Int32) (c0_firstAct : Int32) (c0_firstLoser : Int32) (c0_town_hour : Int32) (c0_town_day : Int32) (c0_town_owes : Nat → Int32) (c0_town_lies : Nat → Int32) (c0_town_air_cell : Int32) (c0_town_air_way : Int32) (x1 : Int32) (x2 : Int32) : Option (Int32 × Int32 × Int32 × Int32 × Int32 × (Nat → Int32) × (Nat → Int32) × Int32 × Int32) := (K30 c0_losses c0_firstAct c0_firstLoser c0_town_hour c0_town_day c0_town_owes c0_town_lies c0_town_air_cell c0_town_air_way x1 (x2 + (1 : Int32)))
def fX9_passAnHour_L30 (c0_acts : Int32) (c0_town_hours : Nat → Int32) (c0_town_holds : Nat → Int32) (c0_town_air_force : Int32) (c0_town_cell : Nat → Int32)  : Nat → Int32 → Int32 → Int32 → Int32 → Int32 → (Nat → Int32) → (Nat → Int32) → Int32 → Int32 → Int32 → Int32 → Option (Int32 × Int32 × Int32 × Int32 × Int32 × (Nat → Int32) × (Nat → Int32) × Int32 × Int32)
  | 0, _, _, _, _, _, _, _, _, _, _, _ => none
  | n + 1, c0_losses, c0_firstAct, c0_firstLoser, c0_town_hour, c0_town_day, c0_town_owes, c0_town_lies, c0_town_air_cell, c0_town_air_way, x1, x2 => (if c0_town_air_force ≤ x2 then (some (c0_losses, c0_firstAct, c0_firstLoser, c0_town_hour, c0_town_day, c0_town_owes, c0_town_lies, c0_town_air_cell, c0_town_air_way)) else Option.bind (fX10_step c0_town_air_cell c0_town_air_way) (fun v2 => (if x1 = (0 : Int32) then (fX9_passAnHour_b64 c0_acts c0_town_hours c0_town_holds c0_town_air_force c0_town_cell (fX9_passAnHour_L30 c0_acts c0_town_hours c0_town_holds c0_town_air_force c0_town_cell  n) c0_losses c0_firstAct c0_firstLoser c0_town_hour c0_town_day c0_town_owes c0_town_lies v2.1 v2.2 x1 x2) else Option.bind (fX9_blowOn c0_acts c0_losses c0_firstAct c0_firstLoser c0_town_cell v2.1 v2.2 c0_town_lies x1) (fun v4 => (fX9_passAnHour_b64 c0_acts c0_town_hours c0_town_holds c0_town_air_force c0_town_cell (fX9_passAnHour_L30 c0_acts c0_town_hours c0_town_holds c0_town_air_force c0_town_cell  n) v4.2.1 v4.2.2.1 v4.2.2.2.1 c0_town_hour c0_town_day c0_town_owes v4.2.2.2.2 v2.1 v2.2 v4.1 x2)))))
def fX9_passAnHour (c0_acts : Int32) (c0_losses : Int32) (c0_firstAct : Int32) (c0_firstLoser : Int32) (c0_town_hour : Int32) (c0_town_day : Int32) (c0_town_owes : Nat → Int32) (c0_town_hours : Nat → Int32) (c0_town_holds : Nat → Int32) (c0_town_lies : Nat → Int32) (c0_town_air_cell : Int32) (c0_town_air_way : Int32) (c0_town_air_force : Int32) (c0_town_cell : Nat → Int32)  : Option (Int32 × Int32 × Int32 × Int32 × Int32 × (Nat → Int32) × (Nat → Int32) × Int32 × Int32) := Option.bind (fX8_passTime c0_town_hour c0_town_day c0_town_owes c0_town_hours) (fun v5 => Option.bind (fX8_hushed v5.1 c0_town_hours v5.2.2 c0_town_holds) (fun v6 => Option.bind (fX8_bareHeads c0_town_lies) (fun v7 => (fX9_passAnHour_L30 c0_acts c0_town_hours c0_town_holds c0_town_air_force c0_town_cell  zF c0_losses c0_firstAct c0_firstLoser v5.1 v5.2.1 v5.2.2 c0_town_lies c0_town_air_cell c0_town_air_way ((63 : Int32) &&& ((v6 ||| v7) ^^^ (-1 : Int32))) (0 : Int32)))))
abbrev rmX9_passAnHour : Room := { frames := 3, cells := 0, slots := 0, locals := 64 }
set_option maxRecDepth 100000 in
set_option maxHeartbeats 4000000 in
theorem ctX9_passAnHour (l : Launch) (G : zG) (a0 a0_town a0_town_air a0_town_cell a0_town_hours a0_town_owes a0_town_holds a0_town_lies a0_town_goods a0_town_liking : Nat) (c0_acts : Int32) (c0_badAct : Int32) (c0_reason : Int32) (c0_losses : Int32) (c0_firstAct : Int32) (c0_firstLoser : Int32) (c0_town_hour : Int32) (c0_town_day : Int32) (c0_town_owes : Nat → Int32) (c0_town_hours : Nat → Int32) (c0_town_holds : Nat → Int32) (c0_town_lies : Nat → Int32) (c0_town_air_cell : Int32) (c0_town_air_way : Int32) (c0_town_air_force : Int32) (c0_town_cell : Nat → Int32)  {R : Int32 × Int32 × Int32 × Int32 × Int32 × (Nat → Int32) × (Nat → Int32) × Int32 × Int32} (hf : fX9_passAnHour c0_acts c0_losses c0_firstAct c0_firstLoser c0_town_hour c0_town_day c0_town_owes c0_town_hours c0_town_holds c0_town_lies c0_town_air_cell c0_town_air_way c0_town_air_force c0_town_cell = some R) : zCt l yX9_passAnHour wsX9_passAnHour rmX9_passAnHour G [(a0, .inr (9, [.ref a0_town, .int c0_acts, .int c0_badAct, .int c0_reason, .int c0_losses, .int c0_firstAct, .int c0_firstLoser])), (a0_town, .inr (8, [.ref a0_town_air, .ref a0_town_cell, .ref a0_town_hours, .ref a0_town_owes, .ref a0_town_holds, .ref a0_town_lies, .ref a0_town_goods, .ref a0_town_liking, .int c0_town_hour, .int c0_town_day])), (a0_town_owes, .inl (G.2.1, 6, .inl c0_town_owes)), (a0_town_hours, .inl (G.2.1, 6, .inl c0_town_hours)), (a0_town_holds, .inl (G.2.1, 6, .inl c0_town_holds)), (a0_town_lies, .inl (G.2.1, 6, .inl c0_town_lies)), (a0_town_air, .inr (10, [.int c0_town_air_cell, .int c0_town_air_way, .int c0_town_air_force])), (a0_town_cell, .inl (G.2.1, 6, .inl c0_town_cell))] [.ref a0] (fun v w => v = none ∧ w = [(a0, .inr (9, [.ref a0_town, .int c0_acts, .int c0_badAct, .int c0_reason, .int (R.1), .int (R.2.1), .int (R.2.2.1)])), (a0_town, .inr (8, [.ref a0_town_air, .ref a0_town_cell, .ref a0_town_hours, .ref a0_town_owes, .ref a0_town_holds, .ref a0_town_lies, .ref a0_town_goods, .ref a0_town_liking, .int (R.2.2.2.1), .int (R.2.2.2.2.1)])), (a0_town_owes, .inl (G.2.1, 6, .inl (R.2.2.2.2.2.1))), (a0_town_hours, .inl (G.2.1, 6, .inl c0_town_hours)), (a0_town_holds, .inl (G.2.1, 6, .inl c0_town_holds)), (a0_town_lies, .inl (G.2.1, 6, .inl (R.2.2.2.2.2.2.1))), (a0_town_air, .inr (10, [.int (R.2.2.2.2.2.2.2.1), .int (R.2.2.2.2.2.2.2.2), .int c0_town_air_force])), (a0_town_cell, .inl (G.2.1, 6, .inl c0_town_cell))]) := by
  refine zMkV (own := RX9) false (by decide) (by decide +kernel) rfl rfl (Nat.le_of_ble_eq_true rfl) ?_
  intro Z h hret
  have hL30 : ∀ (n30 : Nat) (c0_losses : Int32) (c0_firstAct : Int32) (c0_firstLoser : Int32) (c0_town_hour : Int32) (c0_town_day : Int32) (c0_town_owes : Nat → Int32) (c0_town_lies : Nat → Int32) (c0_town_air_cell : Int32) (c0_town_air_way : Int32) (x1 : Int32) (x2 : Int32), fX9_passAnHour_L30 c0_acts c0_town_hours c0_town_holds c0_town_air_force c0_town_cell  n30 c0_losses c0_firstAct c0_firstLoser c0_town_hour c0_town_day c0_town_owes c0_town_lies c0_town_air_cell c0_town_air_way x1 x2 = some R → Z 0 0 [(a0, .inr (9, [.ref a0_town, .int c0_acts, .int c0_badAct, .int c0_reason, .int c0_losses, .int c0_firstAct, .int c0_firstLoser])), (a0_town, .inr (8, [.ref a0_town_air, .ref a0_town_cell, .ref a0_town_hours, .ref a0_town_owes, .ref a0_town_holds, .ref a0_town_lies, .ref a0_town_goods, .ref a0_town_liking, .int c0_town_hour, .int c0_town_day])), (a0_town_owes, .inl (G.2.1, 6, .inl c0_town_owes)), (a0_town_hours, .inl (G.2.1, 6, .inl c0_town_hours)), (a0_town_holds, .inl (G.2.1, 6, .inl c0_town_holds)), (a0_town_lies, .inl (G.2.1, 6, .inl c0_town_lies)), (a0_town_air, .inr (10, [.int c0_town_air_cell, .int c0_town_air_way, .int c0_town_air_force])), (a0_town_cell, .inl (G.2.1, 6, .inl c0_town_cell))] [(0, .ref a0), (1, .int x1), (2, .int x2)] 30 [] := by
    intro n30
    induction n30 with
    | zero =>
      intro c0_losses c0_firstAct c0_firstLoser c0_town_hour c0_town_day c0_town_owes c0_town_lies c0_town_air_cell c0_town_air_way x1 x2 hf
      rw [fX9_passAnHour_L30] at hf
      cases hf
    | succ n30 ih30 =>
      have hB64 : ∀ (c0_losses : Int32) (c0_firstAct : Int32) (c0_firstLoser : Int32) (c0_town_hour : Int32) (c0_town_day : Int32) (c0_town_owes : Nat → Int32) (c0_town_lies : Nat → Int32) (c0_town_air_cell : Int32) (c0_town_air_way : Int32) (x1 : Int32) (x2 : Int32), fX9_passAnHour_b64 c0_acts c0_town_hours c0_town_holds c0_town_air_force c0_town_cell (fX9_passAnHour_L30 c0_acts c0_town_hours c0_town_holds c0_town_air_force c0_town_cell  n30) c0_losses c0_firstAct c0_firstLoser c0_town_hour c0_town_day c0_town_owes c0_town_lies c0_town_air_cell c0_town_air_way x1 x2 = some R → Z 0 0 [(a0, .inr (9, [.ref a0_town, .int c0_acts, .int c0_badAct, .int c0_reason, .int c0_losses, .int c0_firstAct, .int c0_firstLoser])), (a0_town, .inr (8, [.ref a0_town_air, .ref a0_town_cell, .ref a0_town_hours, .ref a0_town_owes, .ref a0_town_holds, .ref a0_town_lies, .ref a0_town_goods, .ref a0_town_liking, .int c0_town_hour, .int c0_town_day])), (a0_town_owes, .inl (G.2.1, 6, .inl c0_town_owes)), (a0_town_hours, .inl (G.2.1, 6, .inl c0_town_hours)), (a0_town_holds, .inl (G.2.1, 6, .inl c0_town_holds)), (a0_town_lies, .inl (G.2.1, 6, .inl c0_town_lies)), (a0_town_air, .inr (10, [.int c0_town_air_cell, .int c0_town_air_way, .int c0_town_air_force])), (a0_town_cell, .inl (G.2.1, 6, .inl c0_town_cell))] [(0, .ref a0), (1, .int x1), (2, .int x2)] 64 [] := by
        intro c0_losses c0_firstAct c0_firstLoser c0_town_hour c0_town_day c0_town_owes c0_town_lies c0_town_air_cell c0_town_air_way x1 x2 hf
        rw [fX9_passAnHour_b64] at hf
        refine z_iinc h (v := (x2 + (1 : Int32))) (lv2 := [(2, .int (x2 + (1 : Int32))), (0, .ref a0), (1, .int x1)]) (j := 2) dX9_passAnHour_64 rfl rfl (by decide) rfl rfl ?_
        refine z_goto h (tgt := 30) dX9_passAnHour_67 (by decide) ?_
        refine z_locs h (lv2 := [(0, .ref a0), (1, .int x1), (2, .int (x2 + (1 : Int32)))]) [1, 2, 0] rfl ?_
        exact ih30 c0_losses c0_firstAct c0_firstLoser c0_town_hour c0_town_day c0_town_owes c0_town_lies c0_town_air_cell c0_town_air_way x1 (x2 + (1 : Int32)) hf
      intro c0_losses c0_firstAct c0_firstLoser c0_town_hour c0_town_day c0_town_owes c0_town_lies c0_town_air_cell c0_town_air_way x1 x2 hf
      rw [fX9_passAnHour_L30] at hf
      refine z_iload_n h dX9_passAnHour_30 2 rfl rfl ?_
      refine z_aload_n h dX9_passAnHour_31 0 rfl rfl ?_
      refine z_get h (C := RX9) (T := TX9) (N := 7) (v := .ref a0_town) 0 rfl rfl 0 (by decide) (by decide +kernel) (by decide +kernel) rfl dX9_passAnHour_32 rfl ?_
      refine z_get h (C := RX8) (T := TX8) (N := 10) (v := .ref a0_town_air) 1 rfl rfl 0 (by decide) (by decide +kernel) (by decide +kernel) rfl dX9_passAnHour_35 rfl ?_
      refine z_get h (C := RX10) (T := TX10) (N := 3) (v := .int c0_town_air_force) 6 rfl rfl 2 (by decide) (by decide +kernel) (by decide +kernel) rfl dX9_passAnHour_38 rfl ?_
      refine z_icmp_ge h (tgt := 70) dX9_passAnHour_41 (by decide) rfl (fun c1 => ?_) (fun c1 => ?_)
      · have hf := ite_t hf c1
        have hf := Option.some.inj hf
        subst hf
        exact hret _ _ _ dX9_passAnHour_70 ⟨rfl, rfl⟩
      have hf := ite_f hf c1
      refine z_aload_n h dX9_passAnHour_44 0 rfl rfl ?_
      refine z_get h (C := RX9) (T := TX9) (N := 7) (v := .ref a0_town) 0 rfl rfl 0 (by decide) (by decide +kernel) (by decide +kernel) rfl dX9_passAnHour_45 rfl ?_
      refine z_get h (C := RX8) (T := TX8) (N := 10) (v := .ref a0_town_air) 1 rfl rfl 0 (by decide) (by decide +kernel) (by decide +kernel) rfl dX9_passAnHour_48 rfl ?_
      obtain ⟨v2, hv2, hf⟩ := bd_some hf
      refine z_callV h (np := 0) (st := []) (wr := [(a0, .inr (9, [.ref a0_town, .int c0_acts, .int c0_badAct, .int c0_reason, .int c0_losses, .int c0_firstAct, .int c0_firstLoser])), (a0_town, .inr (8, [.ref a0_town_air, .ref a0_town_cell, .ref a0_town_hours, .ref a0_town_owes, .ref a0_town_holds, .ref a0_town_lies, .ref a0_town_goods, .ref a0_town_liking, .int c0_town_hour, .int c0_town_day])), (a0_town_owes, .inl (G.2.1, 6, .inl c0_town_owes)), (a0_town_hours, .inl (G.2.1, 6, .inl c0_town_hours)), (a0_town_holds, .inl (G.2.1, 6, .inl c0_town_holds)), (a0_town_lies, .inl (G.2.1, 6, .inl c0_town_lies)), (a0_town_cell, .inl (G.2.1, 6, .inl c0_town_cell))]) [] (ctX10_step l G a0_town_air c0_town_air_cell c0_town_air_way c0_town_air_force hv2) gX9_passAnHour_X10_step (by decide +kernel) 0 rfl rfl rfl ⟨Nat.le_of_ble_eq_true rfl, Nat.le_of_ble_eq_true rfl⟩ ⟨Nat.le_refl _, Nat.le_refl _⟩ rfl rfl rfl [6] [0, 1, 2, 3, 4, 5, 7] rfl rfl rfl rfl (by decide) (Nat.le_of_ble_eq_true rfl) dX9_passAnHour_51 rfl rfl (fun rv2 wv2 hrv2 => ?_)
      obtain ⟨rfl, rfl⟩ := hrv2
      refine z_perm h (w2 := [(a0, .inr (9, [.ref a0_town, .int c0_acts, .int c0_badAct, .int c0_reason, .int c0_losses, .int c0_firstAct, .int c0_firstLoser])), (a0_town, .inr (8, [.ref a0_town_air, .ref a0_town_cell, .ref a0_town_hours, .ref a0_town_owes, .ref a0_town_holds, .ref a0_town_lies, .ref a0_town_goods, .ref a0_town_liking, .int c0_town_hour, .int c0_town_day])), (a0_town_owes, .inl (G.2.1, 6, .inl c0_town_owes)), (a0_town_hours, .inl (G.2.1, 6, .inl c0_town_hours)), (a0_town_holds, .inl (G.2.1, 6, .inl c0_town_holds)), (a0_town_lies, .inl (G.2.1, 6, .inl c0_town_lies)), (a0_town_air, .inr (10, [.int v2.1, .int v2.2, .int c0_town_air_force])), (a0_town_cell, .inl (G.2.1, 6, .inl c0_town_cell))]) (st := []) [0, 1, 2, 3, 4, 5, 7, 6] rfl rfl ?_
      refine z_iload_n h dX9_passAnHour_54 1 rfl rfl ?_
      refine z_if_eq h (tgt := 64) dX9_passAnHour_55 (by decide) rfl (fun c3 => ?_) (fun c3 => ?_)
      · have hf := ite_t hf c3
        exact hB64 c0_losses c0_firstAct c0_firstLoser c0_town_hour c0_town_day c0_town_owes c0_town_lies v2.1 v2.2 x1 x2 hf
      have hf := ite_f hf c3
      refine z_aload_n h dX9_passAnHour_58 0 rfl rfl ?_
      refine z_iload_n h dX9_passAnHour_59 1 rfl rfl ?_
      obtain ⟨v4, hv4, hf⟩ := bd_some hf
      refine z_callV h (np := 1) (st := []) (wr := [(a0_town_owes, .inl (G.2.1, 6, .inl c0_town_owes)), (a0_town_hours, .inl (G.2.1, 6, .inl c0_town_hours)), (a0_town_holds, .inl (G.2.1, 6, .inl c0_town_holds))]) [.int x1] (ctX9_blowOn l G a0 a0_town a0_town_air a0_town_cell a0_town_hours a0_town_owes a0_town_holds a0_town_lies a0_town_goods a0_town_liking c0_acts c0_badAct c0_reason c0_losses c0_firstAct c0_firstLoser c0_town_hour c0_town_day c0_town_cell v2.1 v2.2 c0_town_air_force c0_town_lies x1 hv4) gX9_passAnHour_X9_blowOn (by decide +kernel) 0 rfl rfl rfl ⟨Nat.le_of_ble_eq_true rfl, Nat.le_of_ble_eq_true rfl⟩ ⟨Nat.le_refl _, Nat.le_refl _⟩ rfl rfl rfl [0, 1, 7, 6, 5] [2, 3, 4] rfl rfl rfl rfl (by decide) (Nat.le_of_ble_eq_true rfl) dX9_passAnHour_60 rfl rfl (fun rv4 wv4 hrv4 => ?_)
      obtain ⟨rfl, rfl⟩ := hrv4
      refine z_perm h (w2 := [(a0, .inr (9, [.ref a0_town, .int c0_acts, .int c0_badAct, .int c0_reason, .int v4.2.1, .int v4.2.2.1, .int v4.2.2.2.1])), (a0_town, .inr (8, [.ref a0_town_air, .ref a0_town_cell, .ref a0_town_hours, .ref a0_town_owes, .ref a0_town_holds, .ref a0_town_lies, .ref a0_town_goods, .ref a0_town_liking, .int c0_town_hour, .int c0_town_day])), (a0_town_owes, .inl (G.2.1, 6, .inl c0_town_owes)), (a0_town_hours, .inl (G.2.1, 6, .inl c0_town_hours)), (a0_town_holds, .inl (G.2.1, 6, .inl c0_town_holds)), (a0_town_lies, .inl (G.2.1, 6, .inl v4.2.2.2.2)), (a0_town_air, .inr (10, [.int v2.1, .int v2.2, .int c0_town_air_force])), (a0_town_cell, .inl (G.2.1, 6, .inl c0_town_cell))]) (st := [.int v4.1]) [3, 4, 0, 1, 2, 7, 6, 5] rfl rfl ?_
      refine z_istore_n h (lv2 := [(1, .int v4.1), (0, .ref a0), (2, .int x2)]) dX9_passAnHour_63 (by decide) rfl rfl ?_
      refine z_locs h (lv2 := [(0, .ref a0), (1, .int v4.1), (2, .int x2)]) [1, 0, 2] rfl ?_
      exact hB64 v4.2.1 v4.2.2.1 v4.2.2.2.1 c0_town_hour c0_town_day c0_town_owes v4.2.2.2.2 v2.1 v2.2 v4.1 x2 hf
  rw [fX9_passAnHour] at hf
  show Z 0 0 _ [(0, .ref a0)] 0 []
  refine z_aload_n h dX9_passAnHour_0 0 rfl rfl ?_
  refine z_get h (C := RX9) (T := TX9) (N := 7) (v := .ref a0_town) 0 rfl rfl 0 (by decide) (by decide +kernel) (by decide +kernel) rfl dX9_passAnHour_1 rfl ?_
  obtain ⟨v5, hv5, hf⟩ := bd_some hf
  refine z_callV h (np := 0) (st := []) (wr := [(a0, .inr (9, [.ref a0_town, .int c0_acts, .int c0_badAct, .int c0_reason, .int c0_losses, .int c0_firstAct, .int c0_firstLoser])), (a0_town_holds, .inl (G.2.1, 6, .inl c0_town_holds)), (a0_town_lies, .inl (G.2.1, 6, .inl c0_town_lies)), (a0_town_air, .inr (10, [.int c0_town_air_cell, .int c0_town_air_way, .int c0_town_air_force])), (a0_town_cell, .inl (G.2.1, 6, .inl c0_town_cell))]) [] (ctX8_passTime l G a0_town a0_town_air a0_town_cell a0_town_hours a0_town_owes a0_town_holds a0_town_lies a0_town_goods a0_town_liking c0_town_hour c0_town_day c0_town_owes c0_town_hours hv5) gX9_passAnHour_X8_passTime (by decide +kernel) 0 rfl rfl rfl ⟨Nat.le_of_ble_eq_true rfl, Nat.le_of_ble_eq_true rfl⟩ ⟨Nat.le_refl _, Nat.le_refl _⟩ rfl rfl rfl [1, 2, 3] [0, 4, 5, 6, 7] rfl rfl rfl rfl (by decide) (Nat.le_of_ble_eq_true rfl) dX9_passAnHour_4 rfl rfl (fun rv5 wv5 hrv5 => ?_)
  obtain ⟨rfl, rfl⟩ := hrv5
  refine z_perm h (w2 := [(a0, .inr (9, [.ref a0_town, .int c0_acts, .int c0_badAct, .int c0_reason, .int c0_losses, .int c0_firstAct, .int c0_firstLoser])), (a0_town, .inr (8, [.ref a0_town_air, .ref a0_town_cell, .ref a0_town_hours, .ref a0_town_owes, .ref a0_town_holds, .ref a0_town_lies, .ref a0_town_goods, .ref a0_town_liking, .int v5.1, .int v5.2.1])), (a0_town_owes, .inl (G.2.1, 6, .inl v5.2.2)), (a0_town_hours, .inl (G.2.1, 6, .inl c0_town_hours)), (a0_town_holds, .inl (G.2.1, 6, .inl c0_town_holds)), (a0_town_lies, .inl (G.2.1, 6, .inl c0_town_lies)), (a0_town_air, .inr (10, [.int c0_town_air_cell, .int c0_town_air_way, .int c0_town_air_force])), (a0_town_cell, .inl (G.2.1, 6, .inl c0_town_cell))]) (st := []) [0, 5, 6, 7, 1, 2, 3, 4] rfl rfl ?_
  refine z_bipush h (v := (63 : Int32)) dX9_passAnHour_7 (by decide) rfl ?_
  refine z_aload_n h dX9_passAnHour_9 0 rfl rfl ?_
  refine z_get h (C := RX9) (T := TX9) (N := 7) (v := .ref a0_town) 0 rfl rfl 0 (by decide) (by decide +kernel) (by decide +kernel) rfl dX9_passAnHour_10 rfl ?_
  obtain ⟨v6, hv6, hf⟩ := bd_some hf
  refine z_callV h (np := 0) (st := [.int (63 : Int32)]) (wr := [(a0, .inr (9, [.ref a0_town, .int c0_acts, .int c0_badAct, .int c0_reason, .int c0_losses, .int c0_firstAct, .int c0_firstLoser])), (a0_town_lies, .inl (G.2.1, 6, .inl c0_town_lies)), (a0_town_air, .inr (10, [.int c0_town_air_cell, .int c0_town_air_way, .int c0_town_air_force])), (a0_town_cell, .inl (G.2.1, 6, .inl c0_town_cell))]) [] (ctX8_hushed l G a0_town a0_town_air a0_town_cell a0_town_hours a0_town_owes a0_town_holds a0_town_lies a0_town_goods a0_town_liking v5.1 v5.2.1 c0_town_hours v5.2.2 c0_town_holds hv6) gX9_passAnHour_X8_hushed (by decide +kernel) 0 rfl rfl rfl ⟨Nat.le_of_ble_eq_true rfl, Nat.le_of_ble_eq_true rfl⟩ ⟨Nat.le_refl _, Nat.le_refl _⟩ rfl rfl rfl [1, 3, 2, 4] [0, 5, 6, 7] rfl rfl rfl rfl (by decide) (Nat.le_of_ble_eq_true rfl) dX9_passAnHour_13 rfl rfl (fun rv6 wv6 hrv6 => ?_)
  obtain ⟨rfl, rfl⟩ := hrv6
  refine z_perm h (w2 := [(a0, .inr (9, [.ref a0_town, .int c0_acts, .int c0_badAct, .int c0_reason, .int c0_losses, .int c0_firstAct, .int c0_firstLoser])), (a0_town, .inr (8, [.ref a0_town_air, .ref a0_town_cell, .ref a0_town_hours, .ref a0_town_owes, .ref a0_town_holds, .ref a0_town_lies, .ref a0_town_goods, .ref a0_town_liking, .int v5.1, .int v5.2.1])), (a0_town_owes, .inl (G.2.1, 6, .inl v5.2.2)), (a0_town_hours, .inl (G.2.1, 6, .inl c0_town_hours)), (a0_town_holds, .inl (G.2.1, 6, .inl c0_town_holds)), (a0_town_lies, .inl (G.2.1, 6, .inl c0_town_lies)), (a0_town_air, .inr (10, [.int c0_town_air_cell, .int c0_town_air_way, .int c0_town_air_force])), (a0_town_cell, .inl (G.2.1, 6, .inl c0_town_cell))]) (st := [.int v6, .int (63 : Int32)]) [0, 4, 6, 5, 7, 1, 2, 3] rfl rfl ?_
  refine z_aload_n h dX9_passAnHour_16 0 rfl rfl ?_
  refine z_get h (C := RX9) (T := TX9) (N := 7) (v := .ref a0_town) 0 rfl rfl 0 (by decide) (by decide +kernel) (by decide +kernel) rfl dX9_passAnHour_17 rfl ?_
  obtain ⟨v7, hv7, hf⟩ := bd_some hf
  refine z_callV h (np := 0) (st := [.int v6, .int (63 : Int32)]) (wr := [(a0, .inr (9, [.ref a0_town, .int c0_acts, .int c0_badAct, .int c0_reason, .int c0_losses, .int c0_firstAct, .int c0_firstLoser])), (a0_town_owes, .inl (G.2.1, 6, .inl v5.2.2)), (a0_town_hours, .inl (G.2.1, 6, .inl c0_town_hours)), (a0_town_holds, .inl (G.2.1, 6, .inl c0_town_holds)), (a0_town_air, .inr (10, [.int c0_town_air_cell, .int c0_town_air_way, .int c0_town_air_force])), (a0_town_cell, .inl (G.2.1, 6, .inl c0_town_cell))]) [] (ctX8_bareHeads l G a0_town a0_town_air a0_town_cell a0_town_hours a0_town_owes a0_town_holds a0_town_lies a0_town_goods a0_town_liking v5.1 v5.2.1 c0_town_lies hv7) gX9_passAnHour_X8_bareHeads (by decide +kernel) 0 rfl rfl rfl ⟨Nat.le_of_ble_eq_true rfl, Nat.le_of_ble_eq_true rfl⟩ ⟨Nat.le_refl _, Nat.le_refl _⟩ rfl rfl rfl [1, 5] [0, 2, 3, 4, 6, 7] rfl rfl rfl rfl (by decide) (Nat.le_of_ble_eq_true rfl) dX9_passAnHour_20 rfl rfl (fun rv7 wv7 hrv7 => ?_)
  obtain ⟨rfl, rfl⟩ := hrv7
  refine z_perm h (w2 := [(a0, .inr (9, [.ref a0_town, .int c0_acts, .int c0_badAct, .int c0_reason, .int c0_losses, .int c0_firstAct, .int c0_firstLoser])), (a0_town, .inr (8, [.ref a0_town_air, .ref a0_town_cell, .ref a0_town_hours, .ref a0_town_owes, .ref a0_town_holds, .ref a0_town_lies, .ref a0_town_goods, .ref a0_town_liking, .int v5.1, .int v5.2.1])), (a0_town_owes, .inl (G.2.1, 6, .inl v5.2.2)), (a0_town_hours, .inl (G.2.1, 6, .inl c0_town_hours)), (a0_town_holds, .inl (G.2.1, 6, .inl c0_town_holds)), (a0_town_lies, .inl (G.2.1, 6, .inl c0_town_lies)), (a0_town_air, .inr (10, [.int c0_town_air_cell, .int c0_town_air_way, .int c0_town_air_force])), (a0_town_cell, .inl (G.2.1, 6, .inl c0_town_cell))]) (st := [.int v7, .int v6, .int (63 : Int32)]) [0, 6, 1, 2, 3, 7, 4, 5] rfl rfl ?_
  refine z_ior h dX9_passAnHour_23 rfl ?_
  refine z_iconst h (v := (-1 : Int32)) dX9_passAnHour_24 (by decide) rfl ?_
  refine z_ixor h dX9_passAnHour_25 rfl ?_
  refine z_iand h dX9_passAnHour_26 rfl ?_
  refine z_istore_n h (lv2 := [(1, .int ((63 : Int32) &&& ((v6 ||| v7) ^^^ (-1 : Int32)))), (0, .ref a0)]) dX9_passAnHour_27 (by decide) rfl rfl ?_
  refine z_iconst h (v := (0 : Int32)) dX9_passAnHour_28 (by decide) rfl ?_
  refine z_istore_n h (lv2 := [(2, .int (0 : Int32)), (1, .int ((63 : Int32) &&& ((v6 ||| v7) ^^^ (-1 : Int32)))), (0, .ref a0)]) dX9_passAnHour_29 (by decide) rfl rfl ?_
  refine z_locs h (lv2 := [(0, .ref a0), (1, .int ((63 : Int32) &&& ((v6 ||| v7) ^^^ (-1 : Int32)))), (2, .int (0 : Int32))]) [2, 1, 0] rfl ?_
  exact hL30 zF c0_losses c0_firstAct c0_firstLoser v5.1 v5.2.1 v5.2.2 c0_town_lies c0_town_air_cell c0_town_air_way ((63 : Int32) &&& ((v6 ||| v7) ^^^ (-1 : Int32))) (0 : Int32) hf
def fX9_tryAct_b43 (c0_acts : Int32) (c0_town_liking : Nat → Int32) (x1 : Int32) (x2 : Int32) (x3 : Int32)  (c0_losses : Int32) (c0_firstAct : Int32) (c0_firstLoser : Int32) (c0_town_hour : Int32) (c0_town_day : Int32) (c0_town_holds : Nat → Int32) (c0_town_lies : Nat → Int32) (c0_town_cell : Nat → Int32) (c0_town_air_cell : Int32) (c0_town_air_way : Int32) (c0_town_air_force : Int32) (c0_town_owes : Nat → Int32) (c0_town_goods : Nat → Int32) (c0_town_hours : Nat → Int32) : Option (Int32 × Int32 × Int32 × Int32 × Int32 × Int32 × (Nat → Int32) × (Nat → Int32) × (Nat → Int32) × Int32 × Int32 × Int32 × (Nat → Int32) × (Nat → Int32) × (Nat → Int32)) := (some ((0 : Int32), c0_losses, c0_firstAct, c0_firstLoser, c0_town_hour, c0_town_day, c0_town_holds, c0_town_lies, c0_town_cell, c0_town_air_cell, c0_town_air_way, c0_town_air_force, c0_town_owes, c0_town_goods, c0_town_hours))
def fX9_tryAct (c0_acts : Int32) (c0_losses : Int32) (c0_firstAct : Int32) (c0_firstLoser : Int32) (c0_town_hour : Int32) (c0_town_day : Int32) (c0_town_holds : Nat → Int32) (c0_town_lies : Nat → Int32) (c0_town_cell : Nat → Int32) (c0_town_air_cell : Int32) (c0_town_air_way : Int32) (c0_town_air_force : Int32) (c0_town_owes : Nat → Int32) (c0_town_goods : Nat → Int32) (c0_town_hours : Nat → Int32) (c0_town_liking : Nat → Int32) (x1 : Int32) (x2 : Int32) (x3 : Int32) : Option (Int32 × Int32 × Int32 × Int32 × Int32 × Int32 × (Nat → Int32) × (Nat → Int32) × (Nat → Int32) × Int32 × Int32 × Int32 × (Nat → Int32) × (Nat → Int32) × (Nat → Int32)) := Option.bind (fX8_obstacle c0_town_hour c0_town_day c0_town_holds c0_town_lies c0_town_cell c0_town_air_force c0_town_owes c0_town_goods x1 x2 x3) (fun v1 => (if v1 = (0 : Int32) then (if x2 = (8 : Int32) then Option.bind (fX9_passAnHour c0_acts c0_losses c0_firstAct c0_firstLoser c0_town_hour c0_town_day c0_town_owes c0_town_hours c0_town_holds c0_town_lies c0_town_air_cell c0_town_air_way c0_town_air_force c0_town_cell) (fun v5 => (fX9_tryAct_b43 c0_acts c0_town_liking x1 x2 x3  v5.1 v5.2.1 v5.2.2.1 v5.2.2.2.1 v5.2.2.2.2.1 c0_town_holds v5.2.2.2.2.2.2.1 c0_town_cell v5.2.2.2.2.2.2.2.1 v5.2.2.2.2.2.2.2.2 c0_town_air_force v5.2.2.2.2.2.1 c0_town_goods c0_town_hours)) else Option.bind (fX8_perform c0_town_cell c0_town_holds c0_town_goods c0_town_owes c0_town_liking c0_town_air_force c0_town_hours c0_town_lies x1 x2 x3) (fun v4 => (fX9_tryAct_b43 c0_acts c0_town_liking x1 x2 x3  c0_losses c0_firstAct c0_firstLoser c0_town_hour c0_town_day v4.2.1 v4.2.2.2.2.2.2 v4.1 c0_town_air_cell c0_town_air_way v4.2.2.2.2.1 v4.2.2.2.1 v4.2.2.1 v4.2.2.2.2.2.1))) else (some (v1, c0_losses, c0_firstAct, c0_firstLoser, c0_town_hour, c0_town_day, c0_town_holds, c0_town_lies, c0_town_cell, c0_town_air_cell, c0_town_air_way, c0_town_air_force, c0_town_owes, c0_town_goods, c0_town_hours))))
abbrev rmX9_tryAct : Room := { frames := 4, cells := 0, slots := 0, locals := 86 }
set_option maxRecDepth 100000 in
set_option maxHeartbeats 4000000 in
theorem ctX9_tryAct (l : Launch) (G : zG) (a0 a0_town a0_town_air a0_town_cell a0_town_hours a0_town_owes a0_town_holds a0_town_lies a0_town_goods a0_town_liking : Nat) (c0_acts : Int32) (c0_badAct : Int32) (c0_reason : Int32) (c0_losses : Int32) (c0_firstAct : Int32) (c0_firstLoser : Int32) (c0_town_hour : Int32) (c0_town_day : Int32) (c0_town_holds : Nat → Int32) (c0_town_lies : Nat → Int32) (c0_town_cell : Nat → Int32) (c0_town_air_cell : Int32) (c0_town_air_way : Int32) (c0_town_air_force : Int32) (c0_town_owes : Nat → Int32) (c0_town_goods : Nat → Int32) (c0_town_hours : Nat → Int32) (c0_town_liking : Nat → Int32) (x1 : Int32) (x2 : Int32) (x3 : Int32) {R : Int32 × Int32 × Int32 × Int32 × Int32 × Int32 × (Nat → Int32) × (Nat → Int32) × (Nat → Int32) × Int32 × Int32 × Int32 × (Nat → Int32) × (Nat → Int32) × (Nat → Int32)} (hf : fX9_tryAct c0_acts c0_losses c0_firstAct c0_firstLoser c0_town_hour c0_town_day c0_town_holds c0_town_lies c0_town_cell c0_town_air_cell c0_town_air_way c0_town_air_force c0_town_owes c0_town_goods c0_town_hours c0_town_liking x1 x2 x3 = some R) : zCt l yX9_tryAct wsX9_tryAct rmX9_tryAct G [(a0, .inr (9, [.ref a0_town, .int c0_acts, .int c0_badAct, .int c0_reason, .int c0_losses, .int c0_firstAct, .int c0_firstLoser])), (a0_town, .inr (8, [.ref a0_town_air, .ref a0_town_cell, .ref a0_town_hours, .ref a0_town_owes, .ref a0_town_holds, .ref a0_town_lies, .ref a0_town_goods, .ref a0_town_liking, .int c0_town_hour, .int c0_town_day])), (a0_town_holds, .inl (G.2.1, 6, .inl c0_town_holds)), (a0_town_lies, .inl (G.2.1, 6, .inl c0_town_lies)), (a0_town_cell, .inl (G.2.1, 6, .inl c0_town_cell)), (a0_town_air, .inr (10, [.int c0_town_air_cell, .int c0_town_air_way, .int c0_town_air_force])), (a0_town_owes, .inl (G.2.1, 6, .inl c0_town_owes)), (a0_town_goods, .inl (G.2.1, 18, .inl c0_town_goods)), (a0_town_hours, .inl (G.2.1, 6, .inl c0_town_hours)), (a0_town_liking, .inl (G.2.1, 3, .inl c0_town_liking))] [.ref a0, .int x1, .int x2, .int x3] (fun v w => v = some (.int (R.1)) ∧ w = [(a0, .inr (9, [.ref a0_town, .int c0_acts, .int c0_badAct, .int c0_reason, .int (R.2.1), .int (R.2.2.1), .int (R.2.2.2.1)])), (a0_town, .inr (8, [.ref a0_town_air, .ref a0_town_cell, .ref a0_town_hours, .ref a0_town_owes, .ref a0_town_holds, .ref a0_town_lies, .ref a0_town_goods, .ref a0_town_liking, .int (R.2.2.2.2.1), .int (R.2.2.2.2.2.1)])), (a0_town_holds, .inl (G.2.1, 6, .inl (R.2.2.2.2.2.2.1))), (a0_town_lies, .inl (G.2.1, 6, .inl (R.2.2.2.2.2.2.2.1))), (a0_town_cell, .inl (G.2.1, 6, .inl (R.2.2.2.2.2.2.2.2.1))), (a0_town_air, .inr (10, [.int (R.2.2.2.2.2.2.2.2.2.1), .int (R.2.2.2.2.2.2.2.2.2.2.1), .int (R.2.2.2.2.2.2.2.2.2.2.2.1)])), (a0_town_owes, .inl (G.2.1, 6, .inl (R.2.2.2.2.2.2.2.2.2.2.2.2.1))), (a0_town_goods, .inl (G.2.1, 18, .inl (R.2.2.2.2.2.2.2.2.2.2.2.2.2.1))), (a0_town_hours, .inl (G.2.1, 6, .inl (R.2.2.2.2.2.2.2.2.2.2.2.2.2.2))), (a0_town_liking, .inl (G.2.1, 3, .inl c0_town_liking))]) := by
  refine zMkI (own := RX9) false (by decide) (by decide +kernel) rfl rfl (Nat.le_of_ble_eq_true rfl) ?_
  intro Z h hret
  have hB43 : ∀ (c0_losses : Int32) (c0_firstAct : Int32) (c0_firstLoser : Int32) (c0_town_hour : Int32) (c0_town_day : Int32) (c0_town_holds : Nat → Int32) (c0_town_lies : Nat → Int32) (c0_town_cell : Nat → Int32) (c0_town_air_cell : Int32) (c0_town_air_way : Int32) (c0_town_air_force : Int32) (c0_town_owes : Nat → Int32) (c0_town_goods : Nat → Int32) (c0_town_hours : Nat → Int32), fX9_tryAct_b43 c0_acts c0_town_liking x1 x2 x3  c0_losses c0_firstAct c0_firstLoser c0_town_hour c0_town_day c0_town_holds c0_town_lies c0_town_cell c0_town_air_cell c0_town_air_way c0_town_air_force c0_town_owes c0_town_goods c0_town_hours = some R → Z 0 0 [(a0, .inr (9, [.ref a0_town, .int c0_acts, .int c0_badAct, .int c0_reason, .int c0_losses, .int c0_firstAct, .int c0_firstLoser])), (a0_town, .inr (8, [.ref a0_town_air, .ref a0_town_cell, .ref a0_town_hours, .ref a0_town_owes, .ref a0_town_holds, .ref a0_town_lies, .ref a0_town_goods, .ref a0_town_liking, .int c0_town_hour, .int c0_town_day])), (a0_town_holds, .inl (G.2.1, 6, .inl c0_town_holds)), (a0_town_lies, .inl (G.2.1, 6, .inl c0_town_lies)), (a0_town_cell, .inl (G.2.1, 6, .inl c0_town_cell)), (a0_town_air, .inr (10, [.int c0_town_air_cell, .int c0_town_air_way, .int c0_town_air_force])), (a0_town_owes, .inl (G.2.1, 6, .inl c0_town_owes)), (a0_town_goods, .inl (G.2.1, 18, .inl c0_town_goods)), (a0_town_hours, .inl (G.2.1, 6, .inl c0_town_hours)), (a0_town_liking, .inl (G.2.1, 3, .inl c0_town_liking))] [] 43 [] := by
    intro c0_losses c0_firstAct c0_firstLoser c0_town_hour c0_town_day c0_town_holds c0_town_lies c0_town_cell c0_town_air_cell c0_town_air_way c0_town_air_force c0_town_owes c0_town_goods c0_town_hours hf
    rw [fX9_tryAct_b43] at hf
    refine z_iconst h (v := (0 : Int32)) dX9_tryAct_43 (by decide) rfl ?_
    have hf := Option.some.inj hf
    subst hf
    exact hret _ _ _ _ dX9_tryAct_44 ⟨rfl, rfl⟩
  rw [fX9_tryAct] at hf
  show Z 0 0 _ [(0, .ref a0), (1, .int x1), (2, .int x2), (3, .int x3)] 0 []
  refine z_aload_n h dX9_tryAct_0 0 rfl rfl ?_
  refine z_get h (C := RX9) (T := TX9) (N := 7) (v := .ref a0_town) 0 rfl rfl 0 (by decide) (by decide +kernel) (by decide +kernel) rfl dX9_tryAct_1 rfl ?_
  refine z_iload_n h dX9_tryAct_4 1 rfl rfl ?_
  refine z_iload_n h dX9_tryAct_5 2 rfl rfl ?_
  refine z_iload_n h dX9_tryAct_6 3 rfl rfl ?_
  obtain ⟨v1, hv1, hf⟩ := bd_some hf
  refine z_callV h (np := 3) (st := []) (wr := [(a0, .inr (9, [.ref a0_town, .int c0_acts, .int c0_badAct, .int c0_reason, .int c0_losses, .int c0_firstAct, .int c0_firstLoser])), (a0_town_hours, .inl (G.2.1, 6, .inl c0_town_hours)), (a0_town_liking, .inl (G.2.1, 3, .inl c0_town_liking))]) [.int x1, .int x2, .int x3] (ctX8_obstacle l G a0_town a0_town_air a0_town_cell a0_town_hours a0_town_owes a0_town_holds a0_town_lies a0_town_goods a0_town_liking c0_town_hour c0_town_day c0_town_holds c0_town_lies c0_town_cell c0_town_air_cell c0_town_air_way c0_town_air_force c0_town_owes c0_town_goods x1 x2 x3 hv1) gX9_tryAct_X8_obstacle (by decide +kernel) 0 rfl rfl rfl ⟨Nat.le_of_ble_eq_true rfl, Nat.le_of_ble_eq_true rfl⟩ ⟨Nat.le_refl _, Nat.le_refl _⟩ rfl rfl rfl [1, 2, 3, 4, 5, 6, 7] [0, 8, 9] rfl rfl rfl rfl (by decide) (Nat.le_of_ble_eq_true rfl) dX9_tryAct_7 rfl rfl (fun rv1 wv1 hrv1 => ?_)
  obtain ⟨rfl, rfl⟩ := hrv1
  refine z_perm h (w2 := [(a0, .inr (9, [.ref a0_town, .int c0_acts, .int c0_badAct, .int c0_reason, .int c0_losses, .int c0_firstAct, .int c0_firstLoser])), (a0_town, .inr (8, [.ref a0_town_air, .ref a0_town_cell, .ref a0_town_hours, .ref a0_town_owes, .ref a0_town_holds, .ref a0_town_lies, .ref a0_town_goods, .ref a0_town_liking, .int c0_town_hour, .int c0_town_day])), (a0_town_holds, .inl (G.2.1, 6, .inl c0_town_holds)), (a0_town_lies, .inl (G.2.1, 6, .inl c0_town_lies)), (a0_town_cell, .inl (G.2.1, 6, .inl c0_town_cell)), (a0_town_air, .inr (10, [.int c0_town_air_cell, .int c0_town_air_way, .int c0_town_air_force])), (a0_town_owes, .inl (G.2.1, 6, .inl c0_town_owes)), (a0_town_goods, .inl (G.2.1, 18, .inl c0_town_goods)), (a0_town_hours, .inl (G.2.1, 6, .inl c0_town_hours)), (a0_town_liking, .inl (G.2.1, 3, .inl c0_town_liking))]) (st := [.int v1]) [0, 3, 4, 5, 6, 7, 8, 9, 1, 2] rfl rfl ?_
  refine z_istore h (lv2 := [(4, .int v1), (0, .ref a0), (1, .int x1), (2, .int x2), (3, .int x3)]) dX9_tryAct_10 (by decide) rfl rfl ?_
  refine z_iload h dX9_tryAct_12 0 rfl rfl ?_
  refine z_if_eq h (tgt := 20) dX9_tryAct_14 (by decide) rfl (fun c2 => ?_) (fun c2 => ?_)
  · have hf := ite_t hf c2
    refine z_iload_n h dX9_tryAct_20 3 rfl rfl ?_
    refine z_bipush h (v := (8 : Int32)) dX9_tryAct_21 (by decide) rfl ?_
    refine z_icmp_ne h (tgt := 33) dX9_tryAct_23 (by decide) rfl (fun c3 => ?_) (fun c3 => ?_)
    · have hf := ite_f hf c3
      refine z_aload_n h dX9_tryAct_33 1 rfl rfl ?_
      refine z_get h (C := RX9) (T := TX9) (N := 7) (v := .ref a0_town) 0 rfl rfl 0 (by decide) (by decide +kernel) (by decide +kernel) rfl dX9_tryAct_34 rfl ?_
      refine z_iload_n h dX9_tryAct_37 2 rfl rfl ?_
      refine z_iload_n h dX9_tryAct_38 3 rfl rfl ?_
      refine z_iload_n h dX9_tryAct_39 4 rfl rfl ?_
      obtain ⟨v4, hv4, hf⟩ := bd_some hf
      refine z_callV h (np := 3) (st := []) (wr := [(a0, .inr (9, [.ref a0_town, .int c0_acts, .int c0_badAct, .int c0_reason, .int c0_losses, .int c0_firstAct, .int c0_firstLoser]))]) [.int x1, .int x2, .int x3] (ctX8_perform l G a0_town a0_town_air a0_town_cell a0_town_hours a0_town_owes a0_town_holds a0_town_lies a0_town_goods a0_town_liking c0_town_hour c0_town_day c0_town_cell c0_town_holds c0_town_goods c0_town_owes c0_town_liking c0_town_air_cell c0_town_air_way c0_town_air_force c0_town_hours c0_town_lies x1 x2 x3 hv4) gX9_tryAct_X8_perform (by decide +kernel) 0 rfl rfl rfl ⟨Nat.le_of_ble_eq_true rfl, Nat.le_of_ble_eq_true rfl⟩ ⟨Nat.le_refl _, Nat.le_refl _⟩ rfl rfl rfl [1, 4, 2, 7, 6, 9, 5, 8, 3] [0] rfl rfl rfl rfl (by decide) (Nat.le_of_ble_eq_true rfl) dX9_tryAct_40 rfl rfl (fun rv4 wv4 hrv4 => ?_)
      obtain ⟨rfl, rfl⟩ := hrv4
      refine z_perm h (w2 := [(a0, .inr (9, [.ref a0_town, .int c0_acts, .int c0_badAct, .int c0_reason, .int c0_losses, .int c0_firstAct, .int c0_firstLoser])), (a0_town, .inr (8, [.ref a0_town_air, .ref a0_town_cell, .ref a0_town_hours, .ref a0_town_owes, .ref a0_town_holds, .ref a0_town_lies, .ref a0_town_goods, .ref a0_town_liking, .int c0_town_hour, .int c0_town_day])), (a0_town_holds, .inl (G.2.1, 6, .inl v4.2.1)), (a0_town_lies, .inl (G.2.1, 6, .inl v4.2.2.2.2.2.2)), (a0_town_cell, .inl (G.2.1, 6, .inl v4.1)), (a0_town_air, .inr (10, [.int c0_town_air_cell, .int c0_town_air_way, .int v4.2.2.2.2.1])), (a0_town_owes, .inl (G.2.1, 6, .inl v4.2.2.2.1)), (a0_town_goods, .inl (G.2.1, 18, .inl v4.2.2.1)), (a0_town_hours, .inl (G.2.1, 6, .inl v4.2.2.2.2.2.1)), (a0_town_liking, .inl (G.2.1, 3, .inl c0_town_liking))]) (st := []) [0, 1, 3, 9, 2, 7, 5, 4, 8, 6] rfl rfl ?_
      refine z_locs h (lv2 := []) [] rfl ?_
      exact hB43 c0_losses c0_firstAct c0_firstLoser c0_town_hour c0_town_day v4.2.1 v4.2.2.2.2.2.2 v4.1 c0_town_air_cell c0_town_air_way v4.2.2.2.2.1 v4.2.2.2.1 v4.2.2.1 v4.2.2.2.2.2.1 hf
    have hf := ite_t hf c3
    refine z_aload_n h dX9_tryAct_26 1 rfl rfl ?_
    obtain ⟨v5, hv5, hf⟩ := bd_some hf
    refine z_callV h (np := 0) (st := []) (wr := [(a0_town_goods, .inl (G.2.1, 18, .inl c0_town_goods)), (a0_town_liking, .inl (G.2.1, 3, .inl c0_town_liking))]) [] (ctX9_passAnHour l G a0 a0_town a0_town_air a0_town_cell a0_town_hours a0_town_owes a0_town_holds a0_town_lies a0_town_goods a0_town_liking c0_acts c0_badAct c0_reason c0_losses c0_firstAct c0_firstLoser c0_town_hour c0_town_day c0_town_owes c0_town_hours c0_town_holds c0_town_lies c0_town_air_cell c0_town_air_way c0_town_air_force c0_town_cell hv5) gX9_tryAct_X9_passAnHour (by decide +kernel) 0 rfl rfl rfl ⟨Nat.le_of_ble_eq_true rfl, Nat.le_of_ble_eq_true rfl⟩ ⟨Nat.le_refl _, Nat.le_refl _⟩ rfl rfl rfl [0, 1, 6, 8, 2, 3, 5, 4] [7, 9] rfl rfl rfl rfl (by decide) (Nat.le_of_ble_eq_true rfl) dX9_tryAct_27 rfl rfl (fun rv5 wv5 hrv5 => ?_)
    obtain ⟨rfl, rfl⟩ := hrv5
    refine z_perm h (w2 := [(a0, .inr (9, [.ref a0_town, .int c0_acts, .int c0_badAct, .int c0_reason, .int v5.1, .int v5.2.1, .int v5.2.2.1])), (a0_town, .inr (8, [.ref a0_town_air, .ref a0_town_cell, .ref a0_town_hours, .ref a0_town_owes, .ref a0_town_holds, .ref a0_town_lies, .ref a0_town_goods, .ref a0_town_liking, .int v5.2.2.2.1, .int v5.2.2.2.2.1])), (a0_town_holds, .inl (G.2.1, 6, .inl c0_town_holds)), (a0_town_lies, .inl (G.2.1, 6, .inl v5.2.2.2.2.2.2.1)), (a0_town_cell, .inl (G.2.1, 6, .inl c0_town_cell)), (a0_town_air, .inr (10, [.int v5.2.2.2.2.2.2.2.1, .int v5.2.2.2.2.2.2.2.2, .int c0_town_air_force])), (a0_town_owes, .inl (G.2.1, 6, .inl v5.2.2.2.2.2.1)), (a0_town_goods, .inl (G.2.1, 18, .inl c0_town_goods)), (a0_town_hours, .inl (G.2.1, 6, .inl c0_town_hours)), (a0_town_liking, .inl (G.2.1, 3, .inl c0_town_liking))]) (st := []) [2, 3, 6, 7, 9, 8, 4, 0, 5, 1] rfl rfl ?_
    refine z_goto h (tgt := 43) dX9_tryAct_30 (by decide) ?_
    refine z_locs h (lv2 := []) [] rfl ?_
    exact hB43 v5.1 v5.2.1 v5.2.2.1 v5.2.2.2.1 v5.2.2.2.2.1 c0_town_holds v5.2.2.2.2.2.2.1 c0_town_cell v5.2.2.2.2.2.2.2.1 v5.2.2.2.2.2.2.2.2 c0_town_air_force v5.2.2.2.2.2.1 c0_town_goods c0_town_hours hf
  have hf := ite_f hf c2
  refine z_iload h dX9_tryAct_17 0 rfl rfl ?_
  have hf := Option.some.inj hf
  subst hf
  exact hret _ _ _ _ dX9_tryAct_19 ⟨rfl, rfl⟩
def fX9_note_b30 (x1 : Int32)  (c0_acts : Int32) (c0_badAct : Int32) (c0_reason : Int32) : Option (Int32 × Int32 × Int32) := (some (c0_acts, c0_badAct, c0_reason))
def fX9_note (c0_acts : Int32) (c0_badAct : Int32) (c0_reason : Int32) (x1 : Int32) : Option (Int32 × Int32 × Int32) := (if x1 = (0 : Int32) then (fX9_note_b30 x1  (c0_acts + (1 : Int32)) c0_badAct c0_reason) else (fX9_note_b30 x1  c0_acts c0_acts x1))
abbrev rmX9_note : Room := { frames := 0, cells := 0, slots := 0, locals := 0 }
set_option maxRecDepth 100000 in
set_option maxHeartbeats 4000000 in
theorem ctX9_note (l : Launch) (G : zG) (a0 a0_town : Nat) (c0_acts : Int32) (c0_badAct : Int32) (c0_reason : Int32) (c0_losses : Int32) (c0_firstAct : Int32) (c0_firstLoser : Int32) (x1 : Int32) {R : Int32 × Int32 × Int32} (hf : fX9_note c0_acts c0_badAct c0_reason x1 = some R) : zCt l yX9_note wsX9_note rmX9_note G [(a0, .inr (9, [.ref a0_town, .int c0_acts, .int c0_badAct, .int c0_reason, .int c0_losses, .int c0_firstAct, .int c0_firstLoser]))] [.ref a0, .int x1] (fun v w => v = none ∧ w = [(a0, .inr (9, [.ref a0_town, .int (R.1), .int (R.2.1), .int (R.2.2), .int c0_losses, .int c0_firstAct, .int c0_firstLoser]))]) := by
  refine zMkV (own := RX9) false (by decide) (by decide +kernel) rfl rfl (Nat.le_of_ble_eq_true rfl) ?_
  intro Z h hret
  have hB30 : ∀ (c0_acts : Int32) (c0_badAct : Int32) (c0_reason : Int32), fX9_note_b30 x1  c0_acts c0_badAct c0_reason = some R → Z 0 0 [(a0, .inr (9, [.ref a0_town, .int c0_acts, .int c0_badAct, .int c0_reason, .int c0_losses, .int c0_firstAct, .int c0_firstLoser]))] [] 30 [] := by
    intro c0_acts c0_badAct c0_reason hf
    rw [fX9_note_b30] at hf
    have hf := Option.some.inj hf
    subst hf
    exact hret _ _ _ dX9_note_30 ⟨rfl, rfl⟩
  rw [fX9_note] at hf
  show Z 0 0 _ [(0, .ref a0), (1, .int x1)] 0 []
  refine z_iload_n h dX9_note_0 1 rfl rfl ?_
  refine z_if_ne h (tgt := 17) dX9_note_1 (by decide) rfl (fun c1 => ?_) (fun c1 => ?_)
  · have hf := ite_f hf c1
    refine z_aload_n h dX9_note_17 0 rfl rfl ?_
    refine z_aload_n h dX9_note_18 0 rfl rfl ?_
    refine z_get h (C := RX9) (T := TX9) (N := 7) (v := .int c0_acts) 0 rfl rfl 1 (by decide) (by decide +kernel) (by decide +kernel) rfl dX9_note_19 rfl ?_
    refine z_put h (C := RX9) (T := TX9) (N := 7) 0 rfl rfl 2 (by decide) (by decide +kernel) (by decide +kernel) tyX9 tyX9_ok nmX9 (w2 := [(a0, .inr (9, [.ref a0_town, .int c0_acts, .int c0_acts, .int c0_reason, .int c0_losses, .int c0_firstAct, .int c0_firstLoser]))]) rfl rfl rfl (Nat.le_of_ble_eq_true rfl) rfl dX9_note_22 rfl ?_
    refine z_aload_n h dX9_note_25 0 rfl rfl ?_
    refine z_iload_n h dX9_note_26 1 rfl rfl ?_
    refine z_put h (C := RX9) (T := TX9) (N := 7) 0 rfl rfl 3 (by decide) (by decide +kernel) (by decide +kernel) tyX9 tyX9_ok nmX9 (w2 := [(a0, .inr (9, [.ref a0_town, .int c0_acts, .int c0_acts, .int x1, .int c0_losses, .int c0_firstAct, .int c0_firstLoser]))]) rfl rfl rfl (Nat.le_of_ble_eq_true rfl) rfl dX9_note_27 rfl ?_
    refine z_locs h (lv2 := []) [] rfl ?_
    exact hB30 c0_acts c0_acts x1 hf
  have hf := ite_t hf c1
  refine z_aload_n h dX9_note_4 0 rfl rfl ?_
  refine z_dup h dX9_note_5 rfl rfl ?_
  refine z_get h (C := RX9) (T := TX9) (N := 7) (v := .int c0_acts) 0 rfl rfl 1 (by decide) (by decide +kernel) (by decide +kernel) rfl dX9_note_6 rfl ?_
  refine z_iconst h (v := (1 : Int32)) dX9_note_9 (by decide) rfl ?_
  refine z_iadd h dX9_note_10 rfl ?_
  refine z_put h (C := RX9) (T := TX9) (N := 7) 0 rfl rfl 1 (by decide) (by decide +kernel) (by decide +kernel) tyX9 tyX9_ok nmX9 (w2 := [(a0, .inr (9, [.ref a0_town, .int (c0_acts + (1 : Int32)), .int c0_badAct, .int c0_reason, .int c0_losses, .int c0_firstAct, .int c0_firstLoser]))]) rfl rfl rfl (Nat.le_of_ble_eq_true rfl) rfl dX9_note_11 rfl ?_
  refine z_goto h (tgt := 30) dX9_note_14 (by decide) ?_
  refine z_locs h (lv2 := []) [] rfl ?_
  exact hB30 (c0_acts + (1 : Int32)) c0_badAct c0_reason hf
def fX9_read_b100 (c2_hour : Int32) (c2_day : Int32) (c2_air_cell : Int32) (c2_air_way : Int32) (c2_air_force : Int32) (c2_cell : Nat → Int32) (c2_hours : Nat → Int32) (c2_owes : Nat → Int32) (c2_holds : Nat → Int32) (c2_lies : Nat → Int32) (c2_goods : Nat → Int32) (c2_liking : Nat → Int32) (c1_size : Int32) (c1_signs : Nat → Int32)  (c0_acts : Int32) (c0_badAct : Int32) (c0_reason : Int32) (c0_losses : Int32) (c0_firstAct : Int32) (c0_firstLoser : Int32) (c0_town_hour : Int32) (c0_town_day : Int32) (c0_town_air_cell : Int32) (c0_town_air_way : Int32) (c0_town_air_force : Int32) (c0_town_cell : Nat → Int32) (c0_town_hours : Nat → Int32) (c0_town_owes : Nat → Int32) (c0_town_holds : Nat → Int32) (c0_town_lies : Nat → Int32) (c0_town_goods : Nat → Int32) (c0_town_liking : Nat → Int32) : Option (Int32 × Int32 × Int32 × Int32 × Int32 × Int32 × Int32 × Int32 × Int32 × Int32 × Int32 × (Nat → Int32) × (Nat → Int32) × (Nat → Int32) × (Nat → Int32) × (Nat → Int32) × (Nat → Int32) × (Nat → Int32)) := (some (c0_acts, c0_badAct, c0_reason, c0_losses, c0_firstAct, c0_firstLoser, c0_town_hour, c0_town_day, c0_town_air_cell, c0_town_air_way, c0_town_air_force, c0_town_cell, c0_town_hours, c0_town_owes, c0_town_holds, c0_town_lies, c0_town_goods, c0_town_liking))
def fX9_read_b91 (c2_hour : Int32) (c2_day : Int32) (c2_air_cell : Int32) (c2_air_way : Int32) (c2_air_force : Int32) (c2_cell : Nat → Int32) (c2_hours : Nat → Int32) (c2_owes : Nat → Int32) (c2_holds : Nat → Int32) (c2_lies : Nat → Int32) (c2_goods : Nat → Int32) (c2_liking : Nat → Int32) (c1_size : Int32) (c1_signs : Nat → Int32) (K13 : (Int32 → Int32 → Int32 → Int32 → Int32 → Int32 → Int32 → Int32 → Int32 → Int32 → Int32 → (Nat → Int32) → (Nat → Int32) → (Nat → Int32) → (Nat → Int32) → (Nat → Int32) → (Nat → Int32) → (Nat → Int32) → Int32 → Int32 → Int32 → Option (Int32 × Int32 × Int32 × Int32 × Int32 × Int32 × Int32 × Int32 × Int32 × Int32 × Int32 × (Nat → Int32) × (Nat → Int32) × (Nat → Int32) × (Nat → Int32) × (Nat → Int32) × (Nat → Int32) × (Nat → Int32)))) (c0_acts : Int32) (c0_badAct : Int32) (c0_reason : Int32) (c0_losses : Int32) (c0_firstAct : Int32) (c0_firstLoser : Int32) (c0_town_hour : Int32) (c0_town_day : Int32) (c0_town_air_cell : Int32) (c0_town_air_way : Int32) (c0_town_air_force : Int32) (c0_town_cell : Nat → Int32) (c0_town_hours : Nat → Int32) (c0_town_owes : Nat → Int32) (c0_town_holds : Nat → Int32) (c0_town_lies : Nat → Int32) (c0_town_goods : Nat → Int32) (c0_town_liking : Nat → Int32) (x4 : Int32) (x5 : Int32) (x7 : Int32) : Option (Int32 × Int32 × Int32 × Int32 × Int32 × Int32 × Int32 × Int32 × Int32 × Int32 × Int32 × (Nat → Int32) × (Nat → Int32) × (Nat → Int32) × (Nat → Int32) × (Nat → Int32) × (Nat → Int32) × (Nat → Int32)) := (K13 c0_acts c0_badAct c0_reason c0_losses c0_firstAct c0_firstLoser c0_town_hour c0_town_day c0_town_air_cell c0_town_air_way c0_town_air_force c0_town_cell c0_town_hours c0_town_owes c0_town_holds c0_town_lies c0_town_goods c0_town_liking x7 x4 (x5 + (1 : Int32)))
def fX9_read_L13 (c2_hour : Int32) (c2_day : Int32) (c2_air_cell : Int32) (c2_air_way : Int32) (c2_air_force : Int32) (c2_cell : Nat → Int32) (c2_hours : Nat → Int32) (c2_owes : Nat → Int32) (c2_holds : Nat → Int32) (c2_lies : Nat → Int32) (c2_goods : Nat → Int32) (c2_liking : Nat → Int32) (c1_size : Int32) (c1_signs : Nat → Int32)  : Nat → Int32 → Int32 → Int32 → Int32 → Int32 → Int32 → Int32 → Int32 → Int32 → Int32 → Int32 → (Nat → Int32) → (Nat → Int32) → (Nat → Int32) → (Nat → Int32) → (Nat → Int32) → (Nat → Int32) → (Nat → Int32) → Int32 → Int32 → Int32 → Option (Int32 × Int32 × Int32 × Int32 × Int32 × Int32 × Int32 × Int32 × Int32 × Int32 × Int32 × (Nat → Int32) × (Nat → Int32) × (Nat → Int32) × (Nat → Int32) × (Nat → Int32) × (Nat → Int32) × (Nat → Int32))
  | 0, _, _, _, _, _, _, _, _, _, _, _, _, _, _, _, _, _, _, _, _, _ => none
  | n + 1, c0_acts, c0_badAct, c0_reason, c0_losses, c0_firstAct, c0_firstLoser, c0_town_hour, c0_town_day, c0_town_air_cell, c0_town_air_way, c0_town_air_force, c0_town_cell, c0_town_hours, c0_town_owes, c0_town_holds, c0_town_lies, c0_town_goods, c0_town_liking, x3, x4, x5 => (if c1_size ≤ x5 then (fX9_read_b100 c2_hour c2_day c2_air_cell c2_air_way c2_air_force c2_cell c2_hours c2_owes c2_holds c2_lies c2_goods c2_liking c1_size c1_signs  c0_acts c0_badAct c0_reason c0_losses c0_firstAct c0_firstLoser c0_town_hour c0_town_day c0_town_air_cell c0_town_air_way c0_town_air_force c0_town_cell c0_town_hours c0_town_owes c0_town_holds c0_town_lies c0_town_goods c0_town_liking) else (if c0_badAct = (-6 : Int32) then gd (inb x5 60) (Option.bind (fX3_after x3 (c1_signs (x5).toNatClampNeg)) (fun v4 => (if v4 = (1 : Int32) then (fX9_read_b91 c2_hour c2_day c2_air_cell c2_air_way c2_air_force c2_cell c2_hours c2_owes c2_holds c2_lies c2_goods c2_liking c1_size c1_signs (fX9_read_L13 c2_hour c2_day c2_air_cell c2_air_way c2_air_force c2_cell c2_hours c2_owes c2_holds c2_lies c2_goods c2_liking c1_size c1_signs  n) c0_acts c0_badAct c0_reason c0_losses c0_firstAct c0_firstLoser c0_town_hour c0_town_day c0_town_air_cell c0_town_air_way c0_town_air_force c0_town_cell c0_town_hours c0_town_owes c0_town_holds c0_town_lies c0_town_goods c0_town_liking ((c1_signs (x5).toNatClampNeg) - (65 : Int32)) x5 v4) else (if v4 = (0 : Int32) then Option.bind (fX3_kind x3 (c1_signs (x5).toNatClampNeg)) (fun v7 => Option.bind (fX3_object x3 (c1_signs (x5).toNatClampNeg)) (fun v8 => Option.bind (fX9_tryAct c0_acts c0_losses c0_firstAct c0_firstLoser c0_town_hour c0_town_day c0_town_holds c0_town_lies c0_town_cell c0_town_air_cell c0_town_air_way c0_town_air_force c0_town_owes c0_town_goods c0_town_hours c0_town_liking x4 v7 v8) (fun v9 => Option.bind (fX9_note c0_acts c0_badAct c0_reason v9.1) (fun v10 => (fX9_read_b91 c2_hour c2_day c2_air_cell c2_air_way c2_air_force c2_cell c2_hours c2_owes c2_holds c2_lies c2_goods c2_liking c1_size c1_signs (fX9_read_L13 c2_hour c2_day c2_air_cell c2_air_way c2_air_force c2_cell c2_hours c2_owes c2_holds c2_lies c2_goods c2_liking c1_size c1_signs  n) v10.1 v10.2.1 v10.2.2 v9.2.1 v9.2.2.1 v9.2.2.2.1 v9.2.2.2.2.1 v9.2.2.2.2.2.1 v9.2.2.2.2.2.2.2.2.2.1 v9.2.2.2.2.2.2.2.2.2.2.1 v9.2.2.2.2.2.2.2.2.2.2.2.1 v9.2.2.2.2.2.2.2.2.1 v9.2.2.2.2.2.2.2.2.2.2.2.2.2.2 v9.2.2.2.2.2.2.2.2.2.2.2.2.1 v9.2.2.2.2.2.2.1 v9.2.2.2.2.2.2.2.1 v9.2.2.2.2.2.2.2.2.2.2.2.2.2.1 c0_town_liking x4 x5 v4))))) else (fX9_read_b91 c2_hour c2_day c2_air_cell c2_air_way c2_air_force c2_cell c2_hours c2_owes c2_holds c2_lies c2_goods c2_liking c1_size c1_signs (fX9_read_L13 c2_hour c2_day c2_air_cell c2_air_way c2_air_force c2_cell c2_hours c2_owes c2_holds c2_lies c2_goods c2_liking c1_size c1_signs  n) c0_acts c0_badAct c0_reason c0_losses c0_firstAct c0_firstLoser c0_town_hour c0_town_day c0_town_air_cell c0_town_air_way c0_town_air_force c0_town_cell c0_town_hours c0_town_owes c0_town_holds c0_town_lies c0_town_goods c0_town_liking x4 x5 v4))))) else (fX9_read_b100 c2_hour c2_day c2_air_cell c2_air_way c2_air_force c2_cell c2_hours c2_owes c2_holds c2_lies c2_goods c2_liking c1_size c1_signs  c0_acts c0_badAct c0_reason c0_losses c0_firstAct c0_firstLoser c0_town_hour c0_town_day c0_town_air_cell c0_town_air_way c0_town_air_force c0_town_cell c0_town_hours c0_town_owes c0_town_holds c0_town_lies c0_town_goods c0_town_liking)))
def fX9_read (c0_acts : Int32) (c0_badAct : Int32) (c0_reason : Int32) (c0_losses : Int32) (c0_firstAct : Int32) (c0_firstLoser : Int32) (c0_town_hour : Int32) (c0_town_day : Int32) (c2_hour : Int32) (c2_day : Int32) (c0_town_air_cell : Int32) (c0_town_air_way : Int32) (c0_town_air_force : Int32) (c2_air_cell : Int32) (c2_air_way : Int32) (c2_air_force : Int32) (c2_cell : Nat → Int32) (c0_town_cell : Nat → Int32) (c2_hours : Nat → Int32) (c0_town_hours : Nat → Int32) (c2_owes : Nat → Int32) (c0_town_owes : Nat → Int32) (c2_holds : Nat → Int32) (c0_town_holds : Nat → Int32) (c2_lies : Nat → Int32) (c0_town_lies : Nat → Int32) (c2_goods : Nat → Int32) (c0_town_goods : Nat → Int32) (c2_liking : Nat → Int32) (c0_town_liking : Nat → Int32) (c1_size : Int32) (c1_signs : Nat → Int32)  : Option (Int32 × Int32 × Int32 × Int32 × Int32 × Int32 × Int32 × Int32 × Int32 × Int32 × Int32 × (Nat → Int32) × (Nat → Int32) × (Nat → Int32) × (Nat → Int32) × (Nat → Int32) × (Nat → Int32) × (Nat → Int32)) := Option.bind (fX9_begin c0_acts c0_badAct c0_reason c0_losses c0_firstAct c0_firstLoser c0_town_hour c0_town_day c2_hour c2_day c0_town_air_cell c0_town_air_way c0_town_air_force c2_air_cell c2_air_way c2_air_force c2_cell c0_town_cell c2_hours c0_town_hours c2_owes c0_town_owes c2_holds c0_town_holds c2_lies c0_town_lies c2_goods c0_town_goods c2_liking c0_town_liking) (fun v11 => (fX9_read_L13 c2_hour c2_day c2_air_cell c2_air_way c2_air_force c2_cell c2_hours c2_owes c2_holds c2_lies c2_goods c2_liking c1_size c1_signs  zF v11.1 v11.2.1 v11.2.2.1 v11.2.2.2.1 v11.2.2.2.2.1 v11.2.2.2.2.2.1 v11.2.2.2.2.2.2.1 v11.2.2.2.2.2.2.2.1 v11.2.2.2.2.2.2.2.2.1 v11.2.2.2.2.2.2.2.2.2.1 v11.2.2.2.2.2.2.2.2.2.2.1 v11.2.2.2.2.2.2.2.2.2.2.2.1 v11.2.2.2.2.2.2.2.2.2.2.2.2.1 v11.2.2.2.2.2.2.2.2.2.2.2.2.2.1 v11.2.2.2.2.2.2.2.2.2.2.2.2.2.2.1 v11.2.2.2.2.2.2.2.2.2.2.2.2.2.2.2.1 v11.2.2.2.2.2.2.2.2.2.2.2.2.2.2.2.2.1 v11.2.2.2.2.2.2.2.2.2.2.2.2.2.2.2.2.2 (0 : Int32) (0 : Int32) (0 : Int32)))
abbrev rmX9_read : Room := { frames := 5, cells := 0, slots := 0, locals := 110 }
set_option maxRecDepth 100000 in
set_option maxHeartbeats 4000000 in
theorem ctX9_read (l : Launch) (G : zG) (a0 a0_town a0_town_air a0_town_cell a0_town_hours a0_town_owes a0_town_holds a0_town_lies a0_town_goods a0_town_liking a2 a2_air a2_cell a2_hours a2_owes a2_holds a2_lies a2_goods a2_liking a1 a1_signs : Nat) (c0_acts : Int32) (c0_badAct : Int32) (c0_reason : Int32) (c0_losses : Int32) (c0_firstAct : Int32) (c0_firstLoser : Int32) (c0_town_hour : Int32) (c0_town_day : Int32) (c2_hour : Int32) (c2_day : Int32) (c0_town_air_cell : Int32) (c0_town_air_way : Int32) (c0_town_air_force : Int32) (c2_air_cell : Int32) (c2_air_way : Int32) (c2_air_force : Int32) (c2_cell : Nat → Int32) (c0_town_cell : Nat → Int32) (c2_hours : Nat → Int32) (c0_town_hours : Nat → Int32) (c2_owes : Nat → Int32) (c0_town_owes : Nat → Int32) (c2_holds : Nat → Int32) (c0_town_holds : Nat → Int32) (c2_lies : Nat → Int32) (c0_town_lies : Nat → Int32) (c2_goods : Nat → Int32) (c0_town_goods : Nat → Int32) (c2_liking : Nat → Int32) (c0_town_liking : Nat → Int32) (c1_size : Int32) (c1_signs : Nat → Int32)  {R : Int32 × Int32 × Int32 × Int32 × Int32 × Int32 × Int32 × Int32 × Int32 × Int32 × Int32 × (Nat → Int32) × (Nat → Int32) × (Nat → Int32) × (Nat → Int32) × (Nat → Int32) × (Nat → Int32) × (Nat → Int32)} (hf : fX9_read c0_acts c0_badAct c0_reason c0_losses c0_firstAct c0_firstLoser c0_town_hour c0_town_day c2_hour c2_day c0_town_air_cell c0_town_air_way c0_town_air_force c2_air_cell c2_air_way c2_air_force c2_cell c0_town_cell c2_hours c0_town_hours c2_owes c0_town_owes c2_holds c0_town_holds c2_lies c0_town_lies c2_goods c0_town_goods c2_liking c0_town_liking c1_size c1_signs = some R) : zCt l yX9_read wsX9_read rmX9_read G [(a0, .inr (9, [.ref a0_town, .int c0_acts, .int c0_badAct, .int c0_reason, .int c0_losses, .int c0_firstAct, .int c0_firstLoser])), (a0_town, .inr (8, [.ref a0_town_air, .ref a0_town_cell, .ref a0_town_hours, .ref a0_town_owes, .ref a0_town_holds, .ref a0_town_lies, .ref a0_town_goods, .ref a0_town_liking, .int c0_town_hour, .int c0_town_day])), (a2, .inr (8, [.ref a2_air, .ref a2_cell, .ref a2_hours, .ref a2_owes, .ref a2_holds, .ref a2_lies, .ref a2_goods, .ref a2_liking, .int c2_hour, .int c2_day])), (a0_town_air, .inr (10, [.int c0_town_air_cell, .int c0_town_air_way, .int c0_town_air_force])), (a2_air, .inr (10, [.int c2_air_cell, .int c2_air_way, .int c2_air_force])), (a2_cell, .inl (G.2.1, 6, .inl c2_cell)), (a0_town_cell, .inl (G.2.1, 6, .inl c0_town_cell)), (a2_hours, .inl (G.2.1, 6, .inl c2_hours)), (a0_town_hours, .inl (G.2.1, 6, .inl c0_town_hours)), (a2_owes, .inl (G.2.1, 6, .inl c2_owes)), (a0_town_owes, .inl (G.2.1, 6, .inl c0_town_owes)), (a2_holds, .inl (G.2.1, 6, .inl c2_holds)), (a0_town_holds, .inl (G.2.1, 6, .inl c0_town_holds)), (a2_lies, .inl (G.2.1, 6, .inl c2_lies)), (a0_town_lies, .inl (G.2.1, 6, .inl c0_town_lies)), (a2_goods, .inl (G.2.1, 18, .inl c2_goods)), (a0_town_goods, .inl (G.2.1, 18, .inl c0_town_goods)), (a2_liking, .inl (G.2.1, 3, .inl c2_liking)), (a0_town_liking, .inl (G.2.1, 3, .inl c0_town_liking)), (a1, .inr (3, [.ref a1_signs, .int c1_size])), (a1_signs, .inl (G.2.1, 60, .inl c1_signs))] [.ref a0, .ref a1, .ref a2] (fun v w => v = none ∧ w = [(a0, .inr (9, [.ref a0_town, .int (R.1), .int (R.2.1), .int (R.2.2.1), .int (R.2.2.2.1), .int (R.2.2.2.2.1), .int (R.2.2.2.2.2.1)])), (a0_town, .inr (8, [.ref a0_town_air, .ref a0_town_cell, .ref a0_town_hours, .ref a0_town_owes, .ref a0_town_holds, .ref a0_town_lies, .ref a0_town_goods, .ref a0_town_liking, .int (R.2.2.2.2.2.2.1), .int (R.2.2.2.2.2.2.2.1)])), (a2, .inr (8, [.ref a2_air, .ref a2_cell, .ref a2_hours, .ref a2_owes, .ref a2_holds, .ref a2_lies, .ref a2_goods, .ref a2_liking, .int c2_hour, .int c2_day])), (a0_town_air, .inr (10, [.int (R.2.2.2.2.2.2.2.2.1), .int (R.2.2.2.2.2.2.2.2.2.1), .int (R.2.2.2.2.2.2.2.2.2.2.1)])), (a2_air, .inr (10, [.int c2_air_cell, .int c2_air_way, .int c2_air_force])), (a2_cell, .inl (G.2.1, 6, .inl c2_cell)), (a0_town_cell, .inl (G.2.1, 6, .inl (R.2.2.2.2.2.2.2.2.2.2.2.1))), (a2_hours, .inl (G.2.1, 6, .inl c2_hours)), (a0_town_hours, .inl (G.2.1, 6, .inl (R.2.2.2.2.2.2.2.2.2.2.2.2.1))), (a2_owes, .inl (G.2.1, 6, .inl c2_owes)), (a0_town_owes, .inl (G.2.1, 6, .inl (R.2.2.2.2.2.2.2.2.2.2.2.2.2.1))), (a2_holds, .inl (G.2.1, 6, .inl c2_holds)), (a0_town_holds, .inl (G.2.1, 6, .inl (R.2.2.2.2.2.2.2.2.2.2.2.2.2.2.1))), (a2_lies, .inl (G.2.1, 6, .inl c2_lies)), (a0_town_lies, .inl (G.2.1, 6, .inl (R.2.2.2.2.2.2.2.2.2.2.2.2.2.2.2.1))), (a2_goods, .inl (G.2.1, 18, .inl c2_goods)), (a0_town_goods, .inl (G.2.1, 18, .inl (R.2.2.2.2.2.2.2.2.2.2.2.2.2.2.2.2.1))), (a2_liking, .inl (G.2.1, 3, .inl c2_liking)), (a0_town_liking, .inl (G.2.1, 3, .inl (R.2.2.2.2.2.2.2.2.2.2.2.2.2.2.2.2.2))), (a1, .inr (3, [.ref a1_signs, .int c1_size])), (a1_signs, .inl (G.2.1, 60, .inl c1_signs))]) := by
  refine zMkV (own := RX9) false (by decide) (by decide +kernel) rfl rfl (Nat.le_of_ble_eq_true rfl) ?_
  intro Z h hret
  have hB100 : ∀ (c0_acts : Int32) (c0_badAct : Int32) (c0_reason : Int32) (c0_losses : Int32) (c0_firstAct : Int32) (c0_firstLoser : Int32) (c0_town_hour : Int32) (c0_town_day : Int32) (c0_town_air_cell : Int32) (c0_town_air_way : Int32) (c0_town_air_force : Int32) (c0_town_cell : Nat → Int32) (c0_town_hours : Nat → Int32) (c0_town_owes : Nat → Int32) (c0_town_holds : Nat → Int32) (c0_town_lies : Nat → Int32) (c0_town_goods : Nat → Int32) (c0_town_liking : Nat → Int32), fX9_read_b100 c2_hour c2_day c2_air_cell c2_air_way c2_air_force c2_cell c2_hours c2_owes c2_holds c2_lies c2_goods c2_liking c1_size c1_signs  c0_acts c0_badAct c0_reason c0_losses c0_firstAct c0_firstLoser c0_town_hour c0_town_day c0_town_air_cell c0_town_air_way c0_town_air_force c0_town_cell c0_town_hours c0_town_owes c0_town_holds c0_town_lies c0_town_goods c0_town_liking = some R → Z 0 0 [(a0, .inr (9, [.ref a0_town, .int c0_acts, .int c0_badAct, .int c0_reason, .int c0_losses, .int c0_firstAct, .int c0_firstLoser])), (a0_town, .inr (8, [.ref a0_town_air, .ref a0_town_cell, .ref a0_town_hours, .ref a0_town_owes, .ref a0_town_holds, .ref a0_town_lies, .ref a0_town_goods, .ref a0_town_liking, .int c0_town_hour, .int c0_town_day])), (a2, .inr (8, [.ref a2_air, .ref a2_cell, .ref a2_hours, .ref a2_owes, .ref a2_holds, .ref a2_lies, .ref a2_goods, .ref a2_liking, .int c2_hour, .int c2_day])), (a0_town_air, .inr (10, [.int c0_town_air_cell, .int c0_town_air_way, .int c0_town_air_force])), (a2_air, .inr (10, [.int c2_air_cell, .int c2_air_way, .int c2_air_force])), (a2_cell, .inl (G.2.1, 6, .inl c2_cell)), (a0_town_cell, .inl (G.2.1, 6, .inl c0_town_cell)), (a2_hours, .inl (G.2.1, 6, .inl c2_hours)), (a0_town_hours, .inl (G.2.1, 6, .inl c0_town_hours)), (a2_owes, .inl (G.2.1, 6, .inl c2_owes)), (a0_town_owes, .inl (G.2.1, 6, .inl c0_town_owes)), (a2_holds, .inl (G.2.1, 6, .inl c2_holds)), (a0_town_holds, .inl (G.2.1, 6, .inl c0_town_holds)), (a2_lies, .inl (G.2.1, 6, .inl c2_lies)), (a0_town_lies, .inl (G.2.1, 6, .inl c0_town_lies)), (a2_goods, .inl (G.2.1, 18, .inl c2_goods)), (a0_town_goods, .inl (G.2.1, 18, .inl c0_town_goods)), (a2_liking, .inl (G.2.1, 3, .inl c2_liking)), (a0_town_liking, .inl (G.2.1, 3, .inl c0_town_liking)), (a1, .inr (3, [.ref a1_signs, .int c1_size])), (a1_signs, .inl (G.2.1, 60, .inl c1_signs))] [] 100 [] := by
    intro c0_acts c0_badAct c0_reason c0_losses c0_firstAct c0_firstLoser c0_town_hour c0_town_day c0_town_air_cell c0_town_air_way c0_town_air_force c0_town_cell c0_town_hours c0_town_owes c0_town_holds c0_town_lies c0_town_goods c0_town_liking hf
    rw [fX9_read_b100] at hf
    have hf := Option.some.inj hf
    subst hf
    exact hret _ _ _ dX9_read_100 ⟨rfl, rfl⟩
  have hL13 : ∀ (n13 : Nat) (c0_acts : Int32) (c0_badAct : Int32) (c0_reason : Int32) (c0_losses : Int32) (c0_firstAct : Int32) (c0_firstLoser : Int32) (c0_town_hour : Int32) (c0_town_day : Int32) (c0_town_air_cell : Int32) (c0_town_air_way : Int32) (c0_town_air_force : Int32) (c0_town_cell : Nat → Int32) (c0_town_hours : Nat → Int32) (c0_town_owes : Nat → Int32) (c0_town_holds : Nat → Int32) (c0_town_lies : Nat → Int32) (c0_town_goods : Nat → Int32) (c0_town_liking : Nat → Int32) (x3 : Int32) (x4 : Int32) (x5 : Int32), fX9_read_L13 c2_hour c2_day c2_air_cell c2_air_way c2_air_force c2_cell c2_hours c2_owes c2_holds c2_lies c2_goods c2_liking c1_size c1_signs  n13 c0_acts c0_badAct c0_reason c0_losses c0_firstAct c0_firstLoser c0_town_hour c0_town_day c0_town_air_cell c0_town_air_way c0_town_air_force c0_town_cell c0_town_hours c0_town_owes c0_town_holds c0_town_lies c0_town_goods c0_town_liking x3 x4 x5 = some R → Z 0 0 [(a0, .inr (9, [.ref a0_town, .int c0_acts, .int c0_badAct, .int c0_reason, .int c0_losses, .int c0_firstAct, .int c0_firstLoser])), (a0_town, .inr (8, [.ref a0_town_air, .ref a0_town_cell, .ref a0_town_hours, .ref a0_town_owes, .ref a0_town_holds, .ref a0_town_lies, .ref a0_town_goods, .ref a0_town_liking, .int c0_town_hour, .int c0_town_day])), (a2, .inr (8, [.ref a2_air, .ref a2_cell, .ref a2_hours, .ref a2_owes, .ref a2_holds, .ref a2_lies, .ref a2_goods, .ref a2_liking, .int c2_hour, .int c2_day])), (a0_town_air, .inr (10, [.int c0_town_air_cell, .int c0_town_air_way, .int c0_town_air_force])), (a2_air, .inr (10, [.int c2_air_cell, .int c2_air_way, .int c2_air_force])), (a2_cell, .inl (G.2.1, 6, .inl c2_cell)), (a0_town_cell, .inl (G.2.1, 6, .inl c0_town_cell)), (a2_hours, .inl (G.2.1, 6, .inl c2_hours)), (a0_town_hours, .inl (G.2.1, 6, .inl c0_town_hours)), (a2_owes, .inl (G.2.1, 6, .inl c2_owes)), (a0_town_owes, .inl (G.2.1, 6, .inl c0_town_owes)), (a2_holds, .inl (G.2.1, 6, .inl c2_holds)), (a0_town_holds, .inl (G.2.1, 6, .inl c0_town_holds)), (a2_lies, .inl (G.2.1, 6, .inl c2_lies)), (a0_town_lies, .inl (G.2.1, 6, .inl c0_town_lies)), (a2_goods, .inl (G.2.1, 18, .inl c2_goods)), (a0_town_goods, .inl (G.2.1, 18, .inl c0_town_goods)), (a2_liking, .inl (G.2.1, 3, .inl c2_liking)), (a0_town_liking, .inl (G.2.1, 3, .inl c0_town_liking)), (a1, .inr (3, [.ref a1_signs, .int c1_size])), (a1_signs, .inl (G.2.1, 60, .inl c1_signs))] [(0, .ref a0), (1, .ref a1), (3, .int x3), (4, .int x4), (5, .int x5)] 13 [] := by
    intro n13
    induction n13 with
    | zero =>
      intro c0_acts c0_badAct c0_reason c0_losses c0_firstAct c0_firstLoser c0_town_hour c0_town_day c0_town_air_cell c0_town_air_way c0_town_air_force c0_town_cell c0_town_hours c0_town_owes c0_town_holds c0_town_lies c0_town_goods c0_town_liking x3 x4 x5 hf
      rw [fX9_read_L13] at hf
      cases hf
    | succ n13 ih13 =>
      have hB91 : ∀ (c0_acts : Int32) (c0_badAct : Int32) (c0_reason : Int32) (c0_losses : Int32) (c0_firstAct : Int32) (c0_firstLoser : Int32) (c0_town_hour : Int32) (c0_town_day : Int32) (c0_town_air_cell : Int32) (c0_town_air_way : Int32) (c0_town_air_force : Int32) (c0_town_cell : Nat → Int32) (c0_town_hours : Nat → Int32) (c0_town_owes : Nat → Int32) (c0_town_holds : Nat → Int32) (c0_town_lies : Nat → Int32) (c0_town_goods : Nat → Int32) (c0_town_liking : Nat → Int32) (x4 : Int32) (x5 : Int32) (x7 : Int32), fX9_read_b91 c2_hour c2_day c2_air_cell c2_air_way c2_air_force c2_cell c2_hours c2_owes c2_holds c2_lies c2_goods c2_liking c1_size c1_signs (fX9_read_L13 c2_hour c2_day c2_air_cell c2_air_way c2_air_force c2_cell c2_hours c2_owes c2_holds c2_lies c2_goods c2_liking c1_size c1_signs  n13) c0_acts c0_badAct c0_reason c0_losses c0_firstAct c0_firstLoser c0_town_hour c0_town_day c0_town_air_cell c0_town_air_way c0_town_air_force c0_town_cell c0_town_hours c0_town_owes c0_town_holds c0_town_lies c0_town_goods c0_town_liking x4 x5 x7 = some R → Z 0 0 [(a0, .inr (9, [.ref a0_town, .int c0_acts, .int c0_badAct, .int c0_reason, .int c0_losses, .int c0_firstAct, .int c0_firstLoser])), (a0_town, .inr (8, [.ref a0_town_air, .ref a0_town_cell, .ref a0_town_hours, .ref a0_town_owes, .ref a0_town_holds, .ref a0_town_lies, .ref a0_town_goods, .ref a0_town_liking, .int c0_town_hour, .int c0_town_day])), (a2, .inr (8, [.ref a2_air, .ref a2_cell, .ref a2_hours, .ref a2_owes, .ref a2_holds, .ref a2_lies, .ref a2_goods, .ref a2_liking, .int c2_hour, .int c2_day])), (a0_town_air, .inr (10, [.int c0_town_air_cell, .int c0_town_air_way, .int c0_town_air_force])), (a2_air, .inr (10, [.int c2_air_cell, .int c2_air_way, .int c2_air_force])), (a2_cell, .inl (G.2.1, 6, .inl c2_cell)), (a0_town_cell, .inl (G.2.1, 6, .inl c0_town_cell)), (a2_hours, .inl (G.2.1, 6, .inl c2_hours)), (a0_town_hours, .inl (G.2.1, 6, .inl c0_town_hours)), (a2_owes, .inl (G.2.1, 6, .inl c2_owes)), (a0_town_owes, .inl (G.2.1, 6, .inl c0_town_owes)), (a2_holds, .inl (G.2.1, 6, .inl c2_holds)), (a0_town_holds, .inl (G.2.1, 6, .inl c0_town_holds)), (a2_lies, .inl (G.2.1, 6, .inl c2_lies)), (a0_town_lies, .inl (G.2.1, 6, .inl c0_town_lies)), (a2_goods, .inl (G.2.1, 18, .inl c2_goods)), (a0_town_goods, .inl (G.2.1, 18, .inl c0_town_goods)), (a2_liking, .inl (G.2.1, 3, .inl c2_liking)), (a0_town_liking, .inl (G.2.1, 3, .inl c0_town_liking)), (a1, .inr (3, [.ref a1_signs, .int c1_size])), (a1_signs, .inl (G.2.1, 60, .inl c1_signs))] [(0, .ref a0), (1, .ref a1), (4, .int x4), (5, .int x5), (7, .int x7)] 91 [] := by
        intro c0_acts c0_badAct c0_reason c0_losses c0_firstAct c0_firstLoser c0_town_hour c0_town_day c0_town_air_cell c0_town_air_way c0_town_air_force c0_town_cell c0_town_hours c0_town_owes c0_town_holds c0_town_lies c0_town_goods c0_town_liking x4 x5 x7 hf
        rw [fX9_read_b91] at hf
        refine z_iload h dX9_read_91 4 rfl rfl ?_
        refine z_istore_n h (lv2 := [(3, .int x7), (0, .ref a0), (1, .ref a1), (4, .int x4), (5, .int x5), (7, .int x7)]) dX9_read_93 (by decide) rfl rfl ?_
        refine z_iinc h (v := (x5 + (1 : Int32))) (lv2 := [(5, .int (x5 + (1 : Int32))), (3, .int x7), (0, .ref a0), (1, .ref a1), (4, .int x4), (7, .int x7)]) (j := 4) dX9_read_94 rfl rfl (by decide) rfl rfl ?_
        refine z_goto h (tgt := 13) dX9_read_97 (by decide) ?_
        refine z_locs h (lv2 := [(0, .ref a0), (1, .ref a1), (3, .int x7), (4, .int x4), (5, .int (x5 + (1 : Int32)))]) [2, 3, 1, 4, 0] rfl ?_
        exact ih13 c0_acts c0_badAct c0_reason c0_losses c0_firstAct c0_firstLoser c0_town_hour c0_town_day c0_town_air_cell c0_town_air_way c0_town_air_force c0_town_cell c0_town_hours c0_town_owes c0_town_holds c0_town_lies c0_town_goods c0_town_liking x7 x4 (x5 + (1 : Int32)) hf
      intro c0_acts c0_badAct c0_reason c0_losses c0_firstAct c0_firstLoser c0_town_hour c0_town_day c0_town_air_cell c0_town_air_way c0_town_air_force c0_town_cell c0_town_hours c0_town_owes c0_town_holds c0_town_lies c0_town_goods c0_town_liking x3 x4 x5 hf
      rw [fX9_read_L13] at hf
      refine z_iload h dX9_read_13 4 rfl rfl ?_
      refine z_aload_n h dX9_read_15 1 rfl rfl ?_
      refine z_get h (C := RX3) (T := TX3) (N := 2) (v := .int c1_size) 19 rfl rfl 1 (by decide) (by decide +kernel) (by decide +kernel) rfl dX9_read_16 rfl ?_
      refine z_icmp_ge h (tgt := 100) dX9_read_19 (by decide) rfl (fun c1 => ?_) (fun c1 => ?_)
      · have hf := ite_t hf c1
        refine z_locs h (lv2 := []) [] rfl ?_
        exact hB100 c0_acts c0_badAct c0_reason c0_losses c0_firstAct c0_firstLoser c0_town_hour c0_town_day c0_town_air_cell c0_town_air_way c0_town_air_force c0_town_cell c0_town_hours c0_town_owes c0_town_holds c0_town_lies c0_town_goods c0_town_liking hf
      have hf := ite_f hf c1
      refine z_aload_n h dX9_read_22 0 rfl rfl ?_
      refine z_get h (C := RX9) (T := TX9) (N := 7) (v := .int c0_badAct) 0 rfl rfl 2 (by decide) (by decide +kernel) (by decide +kernel) rfl dX9_read_23 rfl ?_
      refine z_bipush h (v := (-6 : Int32)) dX9_read_26 (by decide) rfl ?_
      refine z_icmp_ne h (tgt := 100) dX9_read_28 (by decide) rfl (fun c2 => ?_) (fun c2 => ?_)
      · have hf := ite_f hf c2
        refine z_locs h (lv2 := []) [] rfl ?_
        exact hB100 c0_acts c0_badAct c0_reason c0_losses c0_firstAct c0_firstLoser c0_town_hour c0_town_day c0_town_air_cell c0_town_air_way c0_town_air_force c0_town_cell c0_town_hours c0_town_owes c0_town_holds c0_town_lies c0_town_goods c0_town_liking hf
      have hf := ite_t hf c2
      refine z_aload_n h dX9_read_31 1 rfl rfl ?_
      refine z_get h (C := RX3) (T := TX3) (N := 2) (v := .ref a1_signs) 19 rfl rfl 0 (by decide) (by decide +kernel) (by decide +kernel) rfl dX9_read_32 rfl ?_
      refine z_iload h dX9_read_35 4 rfl rfl ?_
      obtain ⟨hg3, hf⟩ := gd_some hf
      refine z_iald h 20 rfl rfl hg3 dX9_read_37 rfl ?_
      refine z_istore h (lv2 := [(6, .int (c1_signs (x5).toNatClampNeg)), (0, .ref a0), (1, .ref a1), (3, .int x3), (4, .int x4), (5, .int x5)]) dX9_read_38 (by decide) rfl rfl ?_
      refine z_iload_n h dX9_read_40 3 rfl rfl ?_
      refine z_iload h dX9_read_41 0 rfl rfl ?_
      obtain ⟨v4, hv4, hf⟩ := bd_some hf
      refine z_callS h (np := 2) (st := []) (wr := [(a0, .inr (9, [.ref a0_town, .int c0_acts, .int c0_badAct, .int c0_reason, .int c0_losses, .int c0_firstAct, .int c0_firstLoser])), (a0_town, .inr (8, [.ref a0_town_air, .ref a0_town_cell, .ref a0_town_hours, .ref a0_town_owes, .ref a0_town_holds, .ref a0_town_lies, .ref a0_town_goods, .ref a0_town_liking, .int c0_town_hour, .int c0_town_day])), (a2, .inr (8, [.ref a2_air, .ref a2_cell, .ref a2_hours, .ref a2_owes, .ref a2_holds, .ref a2_lies, .ref a2_goods, .ref a2_liking, .int c2_hour, .int c2_day])), (a0_town_air, .inr (10, [.int c0_town_air_cell, .int c0_town_air_way, .int c0_town_air_force])), (a2_air, .inr (10, [.int c2_air_cell, .int c2_air_way, .int c2_air_force])), (a2_cell, .inl (G.2.1, 6, .inl c2_cell)), (a0_town_cell, .inl (G.2.1, 6, .inl c0_town_cell)), (a2_hours, .inl (G.2.1, 6, .inl c2_hours)), (a0_town_hours, .inl (G.2.1, 6, .inl c0_town_hours)), (a2_owes, .inl (G.2.1, 6, .inl c2_owes)), (a0_town_owes, .inl (G.2.1, 6, .inl c0_town_owes)), (a2_holds, .inl (G.2.1, 6, .inl c2_holds)), (a0_town_holds, .inl (G.2.1, 6, .inl c0_town_holds)), (a2_lies, .inl (G.2.1, 6, .inl c2_lies)), (a0_town_lies, .inl (G.2.1, 6, .inl c0_town_lies)), (a2_goods, .inl (G.2.1, 18, .inl c2_goods)), (a0_town_goods, .inl (G.2.1, 18, .inl c0_town_goods)), (a2_liking, .inl (G.2.1, 3, .inl c2_liking)), (a0_town_liking, .inl (G.2.1, 3, .inl c0_town_liking)), (a1, .inr (3, [.ref a1_signs, .int c1_size])), (a1_signs, .inl (G.2.1, 60, .inl c1_signs))]) [.int x3, .int (c1_signs (x5).toNatClampNeg)] (ctX3_after l G x3 (c1_signs (x5).toNatClampNeg) hv4) gX9_read_X3_after (by decide +kernel) rfl ⟨Nat.le_of_ble_eq_true rfl, Nat.le_of_ble_eq_true rfl⟩ ⟨Nat.le_refl _, Nat.le_refl _⟩ rfl rfl rfl [] [0, 1, 2, 3, 4, 5, 6, 7, 8, 9, 10, 11, 12, 13, 14, 15, 16, 17, 18, 19, 20] rfl rfl rfl rfl (by decide) (Nat.le_of_ble_eq_true rfl) dX9_read_43 rfl rfl (fun rv4 wv4 hrv4 => ?_)
      obtain ⟨rfl, rfl⟩ := hrv4
      refine z_perm h (w2 := [(a0, .inr (9, [.ref a0_town, .int c0_acts, .int c0_badAct, .int c0_reason, .int c0_losses, .int c0_firstAct, .int c0_firstLoser])), (a0_town, .inr (8, [.ref a0_town_air, .ref a0_town_cell, .ref a0_town_hours, .ref a0_town_owes, .ref a0_town_holds, .ref a0_town_lies, .ref a0_town_goods, .ref a0_town_liking, .int c0_town_hour, .int c0_town_day])), (a2, .inr (8, [.ref a2_air, .ref a2_cell, .ref a2_hours, .ref a2_owes, .ref a2_holds, .ref a2_lies, .ref a2_goods, .ref a2_liking, .int c2_hour, .int c2_day])), (a0_town_air, .inr (10, [.int c0_town_air_cell, .int c0_town_air_way, .int c0_town_air_force])), (a2_air, .inr (10, [.int c2_air_cell, .int c2_air_way, .int c2_air_force])), (a2_cell, .inl (G.2.1, 6, .inl c2_cell)), (a0_town_cell, .inl (G.2.1, 6, .inl c0_town_cell)), (a2_hours, .inl (G.2.1, 6, .inl c2_hours)), (a0_town_hours, .inl (G.2.1, 6, .inl c0_town_hours)), (a2_owes, .inl (G.2.1, 6, .inl c2_owes)), (a0_town_owes, .inl (G.2.1, 6, .inl c0_town_owes)), (a2_holds, .inl (G.2.1, 6, .inl c2_holds)), (a0_town_holds, .inl (G.2.1, 6, .inl c0_town_holds)), (a2_lies, .inl (G.2.1, 6, .inl c2_lies)), (a0_town_lies, .inl (G.2.1, 6, .inl c0_town_lies)), (a2_goods, .inl (G.2.1, 18, .inl c2_goods)), (a0_town_goods, .inl (G.2.1, 18, .inl c0_town_goods)), (a2_liking, .inl (G.2.1, 3, .inl c2_liking)), (a0_town_liking, .inl (G.2.1, 3, .inl c0_town_liking)), (a1, .inr (3, [.ref a1_signs, .int c1_size])), (a1_signs, .inl (G.2.1, 60, .inl c1_signs))]) (st := [.int v4]) [0, 1, 2, 3, 4, 5, 6, 7, 8, 9, 10, 11, 12, 13, 14, 15, 16, 17, 18, 19, 20] rfl rfl ?_
      refine z_istore h (lv2 := [(7, .int v4), (6, .int (c1_signs (x5).toNatClampNeg)), (0, .ref a0), (1, .ref a1), (3, .int x3), (4, .int x4), (5, .int x5)]) dX9_read_46 (by decide) rfl rfl ?_
      refine z_iload h dX9_read_48 0 rfl rfl ?_
      refine z_iconst h (v := (1 : Int32)) dX9_read_50 (by decide) rfl ?_
      refine z_icmp_ne h (tgt := 64) dX9_read_51 (by decide) rfl (fun c5 => ?_) (fun c5 => ?_)
      · have hf := ite_f hf c5
        refine z_iload h dX9_read_64 0 rfl rfl ?_
        refine z_if_ne h (tgt := 91) dX9_read_66 (by decide) rfl (fun c6 => ?_) (fun c6 => ?_)
        · have hf := ite_f hf c6
          refine z_locs h (lv2 := [(0, .ref a0), (1, .ref a1), (4, .int x4), (5, .int x5), (7, .int v4)]) [2, 3, 5, 6, 0] rfl ?_
          exact hB91 c0_acts c0_badAct c0_reason c0_losses c0_firstAct c0_firstLoser c0_town_hour c0_town_day c0_town_air_cell c0_town_air_way c0_town_air_force c0_town_cell c0_town_hours c0_town_owes c0_town_holds c0_town_lies c0_town_goods c0_town_liking x4 x5 v4 hf
        have hf := ite_t hf c6
        refine z_aload_n h dX9_read_69 2 rfl rfl ?_
        refine z_aload_n h dX9_read_70 2 rfl rfl ?_
        refine z_iload h dX9_read_71 5 rfl rfl ?_
        refine z_iload_n h dX9_read_73 4 rfl rfl ?_
        refine z_iload h dX9_read_74 1 rfl rfl ?_
        obtain ⟨v7, hv7, hf⟩ := bd_some hf
        refine z_callS h (np := 2) (st := [.int x4, .ref a0, .ref a0]) (wr := [(a0, .inr (9, [.ref a0_town, .int c0_acts, .int c0_badAct, .int c0_reason, .int c0_losses, .int c0_firstAct, .int c0_firstLoser])), (a0_town, .inr (8, [.ref a0_town_air, .ref a0_town_cell, .ref a0_town_hours, .ref a0_town_owes, .ref a0_town_holds, .ref a0_town_lies, .ref a0_town_goods, .ref a0_town_liking, .int c0_town_hour, .int c0_town_day])), (a2, .inr (8, [.ref a2_air, .ref a2_cell, .ref a2_hours, .ref a2_owes, .ref a2_holds, .ref a2_lies, .ref a2_goods, .ref a2_liking, .int c2_hour, .int c2_day])), (a0_town_air, .inr (10, [.int c0_town_air_cell, .int c0_town_air_way, .int c0_town_air_force])), (a2_air, .inr (10, [.int c2_air_cell, .int c2_air_way, .int c2_air_force])), (a2_cell, .inl (G.2.1, 6, .inl c2_cell)), (a0_town_cell, .inl (G.2.1, 6, .inl c0_town_cell)), (a2_hours, .inl (G.2.1, 6, .inl c2_hours)), (a0_town_hours, .inl (G.2.1, 6, .inl c0_town_hours)), (a2_owes, .inl (G.2.1, 6, .inl c2_owes)), (a0_town_owes, .inl (G.2.1, 6, .inl c0_town_owes)), (a2_holds, .inl (G.2.1, 6, .inl c2_holds)), (a0_town_holds, .inl (G.2.1, 6, .inl c0_town_holds)), (a2_lies, .inl (G.2.1, 6, .inl c2_lies)), (a0_town_lies, .inl (G.2.1, 6, .inl c0_town_lies)), (a2_goods, .inl (G.2.1, 18, .inl c2_goods)), (a0_town_goods, .inl (G.2.1, 18, .inl c0_town_goods)), (a2_liking, .inl (G.2.1, 3, .inl c2_liking)), (a0_town_liking, .inl (G.2.1, 3, .inl c0_town_liking)), (a1, .inr (3, [.ref a1_signs, .int c1_size])), (a1_signs, .inl (G.2.1, 60, .inl c1_signs))]) [.int x3, .int (c1_signs (x5).toNatClampNeg)] (ctX3_kind l G x3 (c1_signs (x5).toNatClampNeg) hv7) gX9_read_X3_kind (by decide +kernel) rfl ⟨Nat.le_of_ble_eq_true rfl, Nat.le_of_ble_eq_true rfl⟩ ⟨Nat.le_refl _, Nat.le_refl _⟩ rfl rfl rfl [] [0, 1, 2, 3, 4, 5, 6, 7, 8, 9, 10, 11, 12, 13, 14, 15, 16, 17, 18, 19, 20] rfl rfl rfl rfl (by decide) (Nat.le_of_ble_eq_true rfl) dX9_read_76 rfl rfl (fun rv7 wv7 hrv7 => ?_)
        obtain ⟨rfl, rfl⟩ := hrv7
        refine z_perm h (w2 := [(a0, .inr (9, [.ref a0_town, .int c0_acts, .int c0_badAct, .int c0_reason, .int c0_losses, .int c0_firstAct, .int c0_firstLoser])), (a0_town, .inr (8, [.ref a0_town_air, .ref a0_town_cell, .ref a0_town_hours, .ref a0_town_owes, .ref a0_town_holds, .ref a0_town_lies, .ref a0_town_goods, .ref a0_town_liking, .int c0_town_hour, .int c0_town_day])), (a2, .inr (8, [.ref a2_air, .ref a2_cell, .ref a2_hours, .ref a2_owes, .ref a2_holds, .ref a2_lies, .ref a2_goods, .ref a2_liking, .int c2_hour, .int c2_day])), (a0_town_air, .inr (10, [.int c0_town_air_cell, .int c0_town_air_way, .int c0_town_air_force])), (a2_air, .inr (10, [.int c2_air_cell, .int c2_air_way, .int c2_air_force])), (a2_cell, .inl (G.2.1, 6, .inl c2_cell)), (a0_town_cell, .inl (G.2.1, 6, .inl c0_town_cell)), (a2_hours, .inl (G.2.1, 6, .inl c2_hours)), (a0_town_hours, .inl (G.2.1, 6, .inl c0_town_hours)), (a2_owes, .inl (G.2.1, 6, .inl c2_owes)), (a0_town_owes, .inl (G.2.1, 6, .inl c0_town_owes)), (a2_holds, .inl (G.2.1, 6, .inl c2_holds)), (a0_town_holds, .inl (G.2.1, 6, .inl c0_town_holds)), (a2_lies, .inl (G.2.1, 6, .inl c2_lies)), (a0_town_lies, .inl (G.2.1, 6, .inl c0_town_lies)), (a2_goods, .inl (G.2.1, 18, .inl c2_goods)), (a0_town_goods, .inl (G.2.1, 18, .inl c0_town_goods)), (a2_liking, .inl (G.2.1, 3, .inl c2_liking)), (a0_town_liking, .inl (G.2.1, 3, .inl c0_town_liking)), (a1, .inr (3, [.ref a1_signs, .int c1_size])), (a1_signs, .inl (G.2.1, 60, .inl c1_signs))]) (st := [.int v7, .int x4, .ref a0, .ref a0]) [0, 1, 2, 3, 4, 5, 6, 7, 8, 9, 10, 11, 12, 13, 14, 15, 16, 17, 18, 19, 20] rfl rfl ?_
        refine z_iload_n h dX9_read_79 4 rfl rfl ?_
        refine z_iload h dX9_read_80 1 rfl rfl ?_
        obtain ⟨v8, hv8, hf⟩ := bd_some hf
        refine z_callS h (np := 2) (st := [.int v7, .int x4, .ref a0, .ref a0]) (wr := [(a0, .inr (9, [.ref a0_town, .int c0_acts, .int c0_badAct, .int c0_reason, .int c0_losses, .int c0_firstAct, .int c0_firstLoser])), (a0_town, .inr (8, [.ref a0_town_air, .ref a0_town_cell, .ref a0_town_hours, .ref a0_town_owes, .ref a0_town_holds, .ref a0_town_lies, .ref a0_town_goods, .ref a0_town_liking, .int c0_town_hour, .int c0_town_day])), (a2, .inr (8, [.ref a2_air, .ref a2_cell, .ref a2_hours, .ref a2_owes, .ref a2_holds, .ref a2_lies, .ref a2_goods, .ref a2_liking, .int c2_hour, .int c2_day])), (a0_town_air, .inr (10, [.int c0_town_air_cell, .int c0_town_air_way, .int c0_town_air_force])), (a2_air, .inr (10, [.int c2_air_cell, .int c2_air_way, .int c2_air_force])), (a2_cell, .inl (G.2.1, 6, .inl c2_cell)), (a0_town_cell, .inl (G.2.1, 6, .inl c0_town_cell)), (a2_hours, .inl (G.2.1, 6, .inl c2_hours)), (a0_town_hours, .inl (G.2.1, 6, .inl c0_town_hours)), (a2_owes, .inl (G.2.1, 6, .inl c2_owes)), (a0_town_owes, .inl (G.2.1, 6, .inl c0_town_owes)), (a2_holds, .inl (G.2.1, 6, .inl c2_holds)), (a0_town_holds, .inl (G.2.1, 6, .inl c0_town_holds)), (a2_lies, .inl (G.2.1, 6, .inl c2_lies)), (a0_town_lies, .inl (G.2.1, 6, .inl c0_town_lies)), (a2_goods, .inl (G.2.1, 18, .inl c2_goods)), (a0_town_goods, .inl (G.2.1, 18, .inl c0_town_goods)), (a2_liking, .inl (G.2.1, 3, .inl c2_liking)), (a0_town_liking, .inl (G.2.1, 3, .inl c0_town_liking)), (a1, .inr (3, [.ref a1_signs, .int c1_size])), (a1_signs, .inl (G.2.1, 60, .inl c1_signs))]) [.int x3, .int (c1_signs (x5).toNatClampNeg)] (ctX3_object l G x3 (c1_signs (x5).toNatClampNeg) hv8) gX9_read_X3_object (by decide +kernel) rfl ⟨Nat.le_of_ble_eq_true rfl, Nat.le_of_ble_eq_true rfl⟩ ⟨Nat.le_refl _, Nat.le_refl _⟩ rfl rfl rfl [] [0, 1, 2, 3, 4, 5, 6, 7, 8, 9, 10, 11, 12, 13, 14, 15, 16, 17, 18, 19, 20] rfl rfl rfl rfl (by decide) (Nat.le_of_ble_eq_true rfl) dX9_read_82 rfl rfl (fun rv8 wv8 hrv8 => ?_)
        obtain ⟨rfl, rfl⟩ := hrv8
        refine z_perm h (w2 := [(a0, .inr (9, [.ref a0_town, .int c0_acts, .int c0_badAct, .int c0_reason, .int c0_losses, .int c0_firstAct, .int c0_firstLoser])), (a0_town, .inr (8, [.ref a0_town_air, .ref a0_town_cell, .ref a0_town_hours, .ref a0_town_owes, .ref a0_town_holds, .ref a0_town_lies, .ref a0_town_goods, .ref a0_town_liking, .int c0_town_hour, .int c0_town_day])), (a2, .inr (8, [.ref a2_air, .ref a2_cell, .ref a2_hours, .ref a2_owes, .ref a2_holds, .ref a2_lies, .ref a2_goods, .ref a2_liking, .int c2_hour, .int c2_day])), (a0_town_air, .inr (10, [.int c0_town_air_cell, .int c0_town_air_way, .int c0_town_air_force])), (a2_air, .inr (10, [.int c2_air_cell, .int c2_air_way, .int c2_air_force])), (a2_cell, .inl (G.2.1, 6, .inl c2_cell)), (a0_town_cell, .inl (G.2.1, 6, .inl c0_town_cell)), (a2_hours, .inl (G.2.1, 6, .inl c2_hours)), (a0_town_hours, .inl (G.2.1, 6, .inl c0_town_hours)), (a2_owes, .inl (G.2.1, 6, .inl c2_owes)), (a0_town_owes, .inl (G.2.1, 6, .inl c0_town_owes)), (a2_holds, .inl (G.2.1, 6, .inl c2_holds)), (a0_town_holds, .inl (G.2.1, 6, .inl c0_town_holds)), (a2_lies, .inl (G.2.1, 6, .inl c2_lies)), (a0_town_lies, .inl (G.2.1, 6, .inl c0_town_lies)), (a2_goods, .inl (G.2.1, 18, .inl c2_goods)), (a0_town_goods, .inl (G.2.1, 18, .inl c0_town_goods)), (a2_liking, .inl (G.2.1, 3, .inl c2_liking)), (a0_town_liking, .inl (G.2.1, 3, .inl c0_town_liking)), (a1, .inr (3, [.ref a1_signs, .int c1_size])), (a1_signs, .inl (G.2.1, 60, .inl c1_signs))]) (st := [.int v8, .int v7, .int x4, .ref a0, .ref a0]) [0, 1, 2, 3, 4, 5, 6, 7, 8, 9, 10, 11, 12, 13, 14, 15, 16, 17, 18, 19, 20] rfl rfl ?_
        obtain ⟨v9, hv9, hf⟩ := bd_some hf
        refine z_callV h (np := 3) (st := [.ref a0]) (wr := [(a2, .inr (8, [.ref a2_air, .ref a2_cell, .ref a2_hours, .ref a2_owes, .ref a2_holds, .ref a2_lies, .ref a2_goods, .ref a2_liking, .int c2_hour, .int c2_day])), (a2_air, .inr (10, [.int c2_air_cell, .int c2_air_way, .int c2_air_force])), (a2_cell, .inl (G.2.1, 6, .inl c2_cell)), (a2_hours, .inl (G.2.1, 6, .inl c2_hours)), (a2_owes, .inl (G.2.1, 6, .inl c2_owes)), (a2_holds, .inl (G.2.1, 6, .inl c2_holds)), (a2_lies, .inl (G.2.1, 6, .inl c2_lies)), (a2_goods, .inl (G.2.1, 18, .inl c2_goods)), (a2_liking, .inl (G.2.1, 3, .inl c2_liking)), (a1, .inr (3, [.ref a1_signs, .int c1_size])), (a1_signs, .inl (G.2.1, 60, .inl c1_signs))]) [.int x4, .int v7, .int v8] (ctX9_tryAct l G a0 a0_town a0_town_air a0_town_cell a0_town_hours a0_town_owes a0_town_holds a0_town_lies a0_town_goods a0_town_liking c0_acts c0_badAct c0_reason c0_losses c0_firstAct c0_firstLoser c0_town_hour c0_town_day c0_town_holds c0_town_lies c0_town_cell c0_town_air_cell c0_town_air_way c0_town_air_force c0_town_owes c0_town_goods c0_town_hours c0_town_liking x4 v7 v8 hv9) gX9_read_X9_tryAct (by decide +kernel) 0 rfl rfl rfl ⟨Nat.le_of_ble_eq_true rfl, Nat.le_of_ble_eq_true rfl⟩ ⟨Nat.le_refl _, Nat.le_refl _⟩ rfl rfl rfl [0, 1, 12, 14, 6, 3, 10, 16, 8, 18] [2, 4, 5, 7, 9, 11, 13, 15, 17, 19, 20] rfl rfl rfl rfl (by decide) (Nat.le_of_ble_eq_true rfl) dX9_read_85 rfl rfl (fun rv9 wv9 hrv9 => ?_)
        obtain ⟨rfl, rfl⟩ := hrv9
        refine z_perm h (w2 := [(a0, .inr (9, [.ref a0_town, .int c0_acts, .int c0_badAct, .int c0_reason, .int v9.2.1, .int v9.2.2.1, .int v9.2.2.2.1])), (a0_town, .inr (8, [.ref a0_town_air, .ref a0_town_cell, .ref a0_town_hours, .ref a0_town_owes, .ref a0_town_holds, .ref a0_town_lies, .ref a0_town_goods, .ref a0_town_liking, .int v9.2.2.2.2.1, .int v9.2.2.2.2.2.1])), (a2, .inr (8, [.ref a2_air, .ref a2_cell, .ref a2_hours, .ref a2_owes, .ref a2_holds, .ref a2_lies, .ref a2_goods, .ref a2_liking, .int c2_hour, .int c2_day])), (a0_town_air, .inr (10, [.int v9.2.2.2.2.2.2.2.2.2.1, .int v9.2.2.2.2.2.2.2.2.2.2.1, .int v9.2.2.2.2.2.2.2.2.2.2.2.1])), (a2_air, .inr (10, [.int c2_air_cell, .int c2_air_way, .int c2_air_force])), (a2_cell, .inl (G.2.1, 6, .inl c2_cell)), (a0_town_cell, .inl (G.2.1, 6, .inl v9.2.2.2.2.2.2.2.2.1)), (a2_hours, .inl (G.2.1, 6, .inl c2_hours)), (a0_town_hours, .inl (G.2.1, 6, .inl v9.2.2.2.2.2.2.2.2.2.2.2.2.2.2)), (a2_owes, .inl (G.2.1, 6, .inl c2_owes)), (a0_town_owes, .inl (G.2.1, 6, .inl v9.2.2.2.2.2.2.2.2.2.2.2.2.1)), (a2_holds, .inl (G.2.1, 6, .inl c2_holds)), (a0_town_holds, .inl (G.2.1, 6, .inl v9.2.2.2.2.2.2.1)), (a2_lies, .inl (G.2.1, 6, .inl c2_lies)), (a0_town_lies, .inl (G.2.1, 6, .inl v9.2.2.2.2.2.2.2.1)), (a2_goods, .inl (G.2.1, 18, .inl c2_goods)), (a0_town_goods, .inl (G.2.1, 18, .inl v9.2.2.2.2.2.2.2.2.2.2.2.2.2.1)), (a2_liking, .inl (G.2.1, 3, .inl c2_liking)), (a0_town_liking, .inl (G.2.1, 3, .inl c0_town_liking)), (a1, .inr (3, [.ref a1_signs, .int c1_size])), (a1_signs, .inl (G.2.1, 60, .inl c1_signs))]) (st := [.int v9.1, .ref a0]) [11, 12, 0, 16, 1, 2, 15, 3, 19, 4, 17, 5, 13, 6, 14, 7, 18, 8, 20, 9, 10] rfl rfl ?_
        obtain ⟨v10, hv10, hf⟩ := bd_some hf
        refine z_callV h (np := 1) (st := []) (wr := [(a0_town, .inr (8, [.ref a0_town_air, .ref a0_town_cell, .ref a0_town_hours, .ref a0_town_owes, .ref a0_town_holds, .ref a0_town_lies, .ref a0_town_goods, .ref a0_town_liking, .int v9.2.2.2.2.1, .int v9.2.2.2.2.2.1])), (a2, .inr (8, [.ref a2_air, .ref a2_cell, .ref a2_hours, .ref a2_owes, .ref a2_holds, .ref a2_lies, .ref a2_goods, .ref a2_liking, .int c2_hour, .int c2_day])), (a0_town_air, .inr (10, [.int v9.2.2.2.2.2.2.2.2.2.1, .int v9.2.2.2.2.2.2.2.2.2.2.1, .int v9.2.2.2.2.2.2.2.2.2.2.2.1])), (a2_air, .inr (10, [.int c2_air_cell, .int c2_air_way, .int c2_air_force])), (a2_cell, .inl (G.2.1, 6, .inl c2_cell)), (a0_town_cell, .inl (G.2.1, 6, .inl v9.2.2.2.2.2.2.2.2.1)), (a2_hours, .inl (G.2.1, 6, .inl c2_hours)), (a0_town_hours, .inl (G.2.1, 6, .inl v9.2.2.2.2.2.2.2.2.2.2.2.2.2.2)), (a2_owes, .inl (G.2.1, 6, .inl c2_owes)), (a0_town_owes, .inl (G.2.1, 6, .inl v9.2.2.2.2.2.2.2.2.2.2.2.2.1)), (a2_holds, .inl (G.2.1, 6, .inl c2_holds)), (a0_town_holds, .inl (G.2.1, 6, .inl v9.2.2.2.2.2.2.1)), (a2_lies, .inl (G.2.1, 6, .inl c2_lies)), (a0_town_lies, .inl (G.2.1, 6, .inl v9.2.2.2.2.2.2.2.1)), (a2_goods, .inl (G.2.1, 18, .inl c2_goods)), (a0_town_goods, .inl (G.2.1, 18, .inl v9.2.2.2.2.2.2.2.2.2.2.2.2.2.1)), (a2_liking, .inl (G.2.1, 3, .inl c2_liking)), (a0_town_liking, .inl (G.2.1, 3, .inl c0_town_liking)), (a1, .inr (3, [.ref a1_signs, .int c1_size])), (a1_signs, .inl (G.2.1, 60, .inl c1_signs))]) [.int v9.1] (ctX9_note l G a0 a0_town c0_acts c0_badAct c0_reason v9.2.1 v9.2.2.1 v9.2.2.2.1 v9.1 hv10) gX9_read_X9_note (by decide +kernel) 0 rfl rfl rfl ⟨Nat.le_of_ble_eq_true rfl, Nat.le_of_ble_eq_true rfl⟩ ⟨Nat.le_refl _, Nat.le_refl _⟩ rfl rfl rfl [0] [1, 2, 3, 4, 5, 6, 7, 8, 9, 10, 11, 12, 13, 14, 15, 16, 17, 18, 19, 20] rfl rfl rfl rfl (by decide) (Nat.le_of_ble_eq_true rfl) dX9_read_88 rfl rfl (fun rv10 wv10 hrv10 => ?_)
        obtain ⟨rfl, rfl⟩ := hrv10
        refine z_perm h (w2 := [(a0, .inr (9, [.ref a0_town, .int v10.1, .int v10.2.1, .int v10.2.2, .int v9.2.1, .int v9.2.2.1, .int v9.2.2.2.1])), (a0_town, .inr (8, [.ref a0_town_air, .ref a0_town_cell, .ref a0_town_hours, .ref a0_town_owes, .ref a0_town_holds, .ref a0_town_lies, .ref a0_town_goods, .ref a0_town_liking, .int v9.2.2.2.2.1, .int v9.2.2.2.2.2.1])), (a2, .inr (8, [.ref a2_air, .ref a2_cell, .ref a2_hours, .ref a2_owes, .ref a2_holds, .ref a2_lies, .ref a2_goods, .ref a2_liking, .int c2_hour, .int c2_day])), (a0_town_air, .inr (10, [.int v9.2.2.2.2.2.2.2.2.2.1, .int v9.2.2.2.2.2.2.2.2.2.2.1, .int v9.2.2.2.2.2.2.2.2.2.2.2.1])), (a2_air, .inr (10, [.int c2_air_cell, .int c2_air_way, .int c2_air_force])), (a2_cell, .inl (G.2.1, 6, .inl c2_cell)), (a0_town_cell, .inl (G.2.1, 6, .inl v9.2.2.2.2.2.2.2.2.1)), (a2_hours, .inl (G.2.1, 6, .inl c2_hours)), (a0_town_hours, .inl (G.2.1, 6, .inl v9.2.2.2.2.2.2.2.2.2.2.2.2.2.2)), (a2_owes, .inl (G.2.1, 6, .inl c2_owes)), (a0_town_owes, .inl (G.2.1, 6, .inl v9.2.2.2.2.2.2.2.2.2.2.2.2.1)), (a2_holds, .inl (G.2.1, 6, .inl c2_holds)), (a0_town_holds, .inl (G.2.1, 6, .inl v9.2.2.2.2.2.2.1)), (a2_lies, .inl (G.2.1, 6, .inl c2_lies)), (a0_town_lies, .inl (G.2.1, 6, .inl v9.2.2.2.2.2.2.2.1)), (a2_goods, .inl (G.2.1, 18, .inl c2_goods)), (a0_town_goods, .inl (G.2.1, 18, .inl v9.2.2.2.2.2.2.2.2.2.2.2.2.2.1)), (a2_liking, .inl (G.2.1, 3, .inl c2_liking)), (a0_town_liking, .inl (G.2.1, 3, .inl c0_town_liking)), (a1, .inr (3, [.ref a1_signs, .int c1_size])), (a1_signs, .inl (G.2.1, 60, .inl c1_signs))]) (st := []) [20, 0, 1, 2, 3, 4, 5, 6, 7, 8, 9, 10, 11, 12, 13, 14, 15, 16, 17, 18, 19] rfl rfl ?_
        refine z_locs h (lv2 := [(0, .ref a0), (1, .ref a1), (4, .int x4), (5, .int x5), (7, .int v4)]) [2, 3, 5, 6, 0] rfl ?_
        exact hB91 v10.1 v10.2.1 v10.2.2 v9.2.1 v9.2.2.1 v9.2.2.2.1 v9.2.2.2.2.1 v9.2.2.2.2.2.1 v9.2.2.2.2.2.2.2.2.2.1 v9.2.2.2.2.2.2.2.2.2.2.1 v9.2.2.2.2.2.2.2.2.2.2.2.1 v9.2.2.2.2.2.2.2.2.1 v9.2.2.2.2.2.2.2.2.2.2.2.2.2.2 v9.2.2.2.2.2.2.2.2.2.2.2.2.1 v9.2.2.2.2.2.2.1 v9.2.2.2.2.2.2.2.1 v9.2.2.2.2.2.2.2.2.2.2.2.2.2.1 c0_town_liking x4 x5 v4 hf
      have hf := ite_t hf c5
      refine z_iload h dX9_read_54 1 rfl rfl ?_
      refine z_bipush h (v := (65 : Int32)) dX9_read_56 (by decide) rfl ?_
      refine z_isub h dX9_read_58 rfl ?_
      refine z_istore h (lv2 := [(4, .int ((c1_signs (x5).toNatClampNeg) - (65 : Int32))), (7, .int v4), (6, .int (c1_signs (x5).toNatClampNeg)), (0, .ref a0), (1, .ref a1), (3, .int x3), (5, .int x5)]) dX9_read_59 (by decide) rfl rfl ?_
      refine z_goto h (tgt := 91) dX9_read_61 (by decide) ?_
      refine z_locs h (lv2 := [(0, .ref a0), (1, .ref a1), (4, .int ((c1_signs (x5).toNatClampNeg) - (65 : Int32))), (5, .int x5), (7, .int v4)]) [3, 4, 0, 6, 1] rfl ?_
      exact hB91 c0_acts c0_badAct c0_reason c0_losses c0_firstAct c0_firstLoser c0_town_hour c0_town_day c0_town_air_cell c0_town_air_way c0_town_air_force c0_town_cell c0_town_hours c0_town_owes c0_town_holds c0_town_lies c0_town_goods c0_town_liking ((c1_signs (x5).toNatClampNeg) - (65 : Int32)) x5 v4 hf
  rw [fX9_read] at hf
  show Z 0 0 _ [(0, .ref a0), (1, .ref a1), (2, .ref a2)] 0 []
  refine z_aload_n h dX9_read_0 0 rfl rfl ?_
  refine z_aload_n h dX9_read_1 2 rfl rfl ?_
  obtain ⟨v11, hv11, hf⟩ := bd_some hf
  refine z_callV h (np := 1) (st := []) (wr := [(a1, .inr (3, [.ref a1_signs, .int c1_size])), (a1_signs, .inl (G.2.1, 60, .inl c1_signs))]) [.ref a2] (ctX9_begin l G a0 a0_town a0_town_air a0_town_cell a0_town_hours a0_town_owes a0_town_holds a0_town_lies a0_town_goods a0_town_liking a2 a2_air a2_cell a2_hours a2_owes a2_holds a2_lies a2_goods a2_liking c0_acts c0_badAct c0_reason c0_losses c0_firstAct c0_firstLoser c0_town_hour c0_town_day c2_hour c2_day c0_town_air_cell c0_town_air_way c0_town_air_force c2_air_cell c2_air_way c2_air_force c2_cell c0_town_cell c2_hours c0_town_hours c2_owes c0_town_owes c2_holds c0_town_holds c2_lies c0_town_lies c2_goods c0_town_goods c2_liking c0_town_liking hv11) gX9_read_X9_begin (by decide +kernel) 0 rfl rfl rfl ⟨Nat.le_of_ble_eq_true rfl, Nat.le_of_ble_eq_true rfl⟩ ⟨Nat.le_refl _, Nat.le_refl _⟩ rfl rfl rfl [0, 1, 2, 3, 4, 5, 6, 7, 8, 9, 10, 11, 12, 13, 14, 15, 16, 17, 18] [19, 20] rfl rfl rfl rfl (by decide) (Nat.le_of_ble_eq_true rfl) dX9_read_2 rfl rfl (fun rv11 wv11 hrv11 => ?_)
  obtain ⟨rfl, rfl⟩ := hrv11
  refine z_perm h (w2 := [(a0, .inr (9, [.ref a0_town, .int v11.1, .int v11.2.1, .int v11.2.2.1, .int v11.2.2.2.1, .int v11.2.2.2.2.1, .int v11.2.2.2.2.2.1])), (a0_town, .inr (8, [.ref a0_town_air, .ref a0_town_cell, .ref a0_town_hours, .ref a0_town_owes, .ref a0_town_holds, .ref a0_town_lies, .ref a0_town_goods, .ref a0_town_liking, .int v11.2.2.2.2.2.2.1, .int v11.2.2.2.2.2.2.2.1])), (a2, .inr (8, [.ref a2_air, .ref a2_cell, .ref a2_hours, .ref a2_owes, .ref a2_holds, .ref a2_lies, .ref a2_goods, .ref a2_liking, .int c2_hour, .int c2_day])), (a0_town_air, .inr (10, [.int v11.2.2.2.2.2.2.2.2.1, .int v11.2.2.2.2.2.2.2.2.2.1, .int v11.2.2.2.2.2.2.2.2.2.2.1])), (a2_air, .inr (10, [.int c2_air_cell, .int c2_air_way, .int c2_air_force])), (a2_cell, .inl (G.2.1, 6, .inl c2_cell)), (a0_town_cell, .inl (G.2.1, 6, .inl v11.2.2.2.2.2.2.2.2.2.2.2.1)), (a2_hours, .inl (G.2.1, 6, .inl c2_hours)), (a0_town_hours, .inl (G.2.1, 6, .inl v11.2.2.2.2.2.2.2.2.2.2.2.2.1)), (a2_owes, .inl (G.2.1, 6, .inl c2_owes)), (a0_town_owes, .inl (G.2.1, 6, .inl v11.2.2.2.2.2.2.2.2.2.2.2.2.2.1)), (a2_holds, .inl (G.2.1, 6, .inl c2_holds)), (a0_town_holds, .inl (G.2.1, 6, .inl v11.2.2.2.2.2.2.2.2.2.2.2.2.2.2.1)), (a2_lies, .inl (G.2.1, 6, .inl c2_lies)), (a0_town_lies, .inl (G.2.1, 6, .inl v11.2.2.2.2.2.2.2.2.2.2.2.2.2.2.2.1)), (a2_goods, .inl (G.2.1, 18, .inl c2_goods)), (a0_town_goods, .inl (G.2.1, 18, .inl v11.2.2.2.2.2.2.2.2.2.2.2.2.2.2.2.2.1)), (a2_liking, .inl (G.2.1, 3, .inl c2_liking)), (a0_town_liking, .inl (G.2.1, 3, .inl v11.2.2.2.2.2.2.2.2.2.2.2.2.2.2.2.2.2)), (a1, .inr (3, [.ref a1_signs, .int c1_size])), (a1_signs, .inl (G.2.1, 60, .inl c1_signs))]) (st := []) [2, 3, 4, 5, 6, 7, 8, 9, 10, 11, 12, 13, 14, 15, 16, 17, 18, 19, 20, 0, 1] rfl rfl ?_
  refine z_iconst h (v := (0 : Int32)) dX9_read_5 (by decide) rfl ?_
  refine z_istore_n h (lv2 := [(3, .int (0 : Int32)), (0, .ref a0), (1, .ref a1), (2, .ref a2)]) dX9_read_6 (by decide) rfl rfl ?_
  refine z_iconst h (v := (0 : Int32)) dX9_read_7 (by decide) rfl ?_
  refine z_istore h (lv2 := [(4, .int (0 : Int32)), (3, .int (0 : Int32)), (0, .ref a0), (1, .ref a1), (2, .ref a2)]) dX9_read_8 (by decide) rfl rfl ?_
  refine z_iconst h (v := (0 : Int32)) dX9_read_10 (by decide) rfl ?_
  refine z_istore h (lv2 := [(5, .int (0 : Int32)), (4, .int (0 : Int32)), (3, .int (0 : Int32)), (0, .ref a0), (1, .ref a1), (2, .ref a2)]) dX9_read_11 (by decide) rfl rfl ?_
  refine z_locs h (lv2 := [(0, .ref a0), (1, .ref a1), (3, .int (0 : Int32)), (4, .int (0 : Int32)), (5, .int (0 : Int32))]) [3, 4, 2, 1, 0] rfl ?_
  exact hL13 zF v11.1 v11.2.1 v11.2.2.1 v11.2.2.2.1 v11.2.2.2.2.1 v11.2.2.2.2.2.1 v11.2.2.2.2.2.2.1 v11.2.2.2.2.2.2.2.1 v11.2.2.2.2.2.2.2.2.1 v11.2.2.2.2.2.2.2.2.2.1 v11.2.2.2.2.2.2.2.2.2.2.1 v11.2.2.2.2.2.2.2.2.2.2.2.1 v11.2.2.2.2.2.2.2.2.2.2.2.2.1 v11.2.2.2.2.2.2.2.2.2.2.2.2.2.1 v11.2.2.2.2.2.2.2.2.2.2.2.2.2.2.1 v11.2.2.2.2.2.2.2.2.2.2.2.2.2.2.2.1 v11.2.2.2.2.2.2.2.2.2.2.2.2.2.2.2.2.1 v11.2.2.2.2.2.2.2.2.2.2.2.2.2.2.2.2.2 (0 : Int32) (0 : Int32) (0 : Int32) hf
def fX9_tryDrawn_b164 (c0_acts : Int32) (c0_town_liking : Nat → Int32) (x1 : Int32) (x2 : Int32) (x3 : Int32)  (c0_losses : Int32) (c0_firstAct : Int32) (c0_firstLoser : Int32) (c0_town_hour : Int32) (c0_town_day : Int32) (c0_town_holds : Nat → Int32) (c0_town_lies : Nat → Int32) (c0_town_cell : Nat → Int32) (c0_town_air_cell : Int32) (c0_town_air_way : Int32) (c0_town_air_force : Int32) (c0_town_owes : Nat → Int32) (c0_town_goods : Nat → Int32) (c0_town_hours : Nat → Int32) : Option (Int32 × Int32 × Int32 × Int32 × Int32 × (Nat → Int32) × (Nat → Int32) × (Nat → Int32) × Int32 × Int32 × Int32 × (Nat → Int32) × (Nat → Int32) × (Nat → Int32)) := (some (c0_losses, c0_firstAct, c0_firstLoser, c0_town_hour, c0_town_day, c0_town_holds, c0_town_lies, c0_town_cell, c0_town_air_cell, c0_town_air_way, c0_town_air_force, c0_town_owes, c0_town_goods, c0_town_hours))
def fX9_tryDrawn_b121 (c0_acts : Int32) (c0_town_liking : Nat → Int32) (x1 : Int32) (x2 : Int32) (x3 : Int32)  (c0_losses : Int32) (c0_firstAct : Int32) (c0_firstLoser : Int32) (c0_town_hour : Int32) (c0_town_day : Int32) (c0_town_holds : Nat → Int32) (c0_town_lies : Nat → Int32) (c0_town_cell : Nat → Int32) (c0_town_air_cell : Int32) (c0_town_air_way : Int32) (c0_town_air_force : Int32) (c0_town_owes : Nat → Int32) (c0_town_goods : Nat → Int32) (c0_town_hours : Nat → Int32) (s1 : Int32) (s2 : Int32) : Option (Int32 × Int32 × Int32 × Int32 × Int32 × (Nat → Int32) × (Nat → Int32) × (Nat → Int32) × Int32 × Int32 × Int32 × (Nat → Int32) × (Nat → Int32) × (Nat → Int32)) := Option.bind (fX9_tryAct c0_acts c0_losses c0_firstAct c0_firstLoser c0_town_hour c0_town_day c0_town_holds c0_town_lies c0_town_cell c0_town_air_cell c0_town_air_way c0_town_air_force c0_town_owes c0_town_goods c0_town_hours c0_town_liking s1 s2 (irm x3 (6 : Int32))) (fun v1 => (fX9_tryDrawn_b164 c0_acts c0_town_liking x1 x2 x3  v1.2.1 v1.2.2.1 v1.2.2.2.1 v1.2.2.2.2.1 v1.2.2.2.2.2.1 v1.2.2.2.2.2.2.1 v1.2.2.2.2.2.2.2.1 v1.2.2.2.2.2.2.2.2.1 v1.2.2.2.2.2.2.2.2.2.1 v1.2.2.2.2.2.2.2.2.2.2.1 v1.2.2.2.2.2.2.2.2.2.2.2.1 v1.2.2.2.2.2.2.2.2.2.2.2.2.1 v1.2.2.2.2.2.2.2.2.2.2.2.2.2.1 v1.2.2.2.2.2.2.2.2.2.2.2.2.2.2))
def fX9_tryDrawn_b147 (c0_acts : Int32) (c0_town_liking : Nat → Int32) (x1 : Int32) (x2 : Int32) (x3 : Int32)  (c0_losses : Int32) (c0_firstAct : Int32) (c0_firstLoser : Int32) (c0_town_hour : Int32) (c0_town_day : Int32) (c0_town_holds : Nat → Int32) (c0_town_lies : Nat → Int32) (c0_town_cell : Nat → Int32) (c0_town_air_cell : Int32) (c0_town_air_way : Int32) (c0_town_air_force : Int32) (c0_town_owes : Nat → Int32) (c0_town_goods : Nat → Int32) (c0_town_hours : Nat → Int32) (s1 : Int32) (s2 : Int32) : Option (Int32 × Int32 × Int32 × Int32 × Int32 × (Nat → Int32) × (Nat → Int32) × (Nat → Int32) × Int32 × Int32 × Int32 × (Nat → Int32) × (Nat → Int32) × (Nat → Int32)) := Option.bind (fX9_tryAct c0_acts c0_losses c0_firstAct c0_firstLoser c0_town_hour c0_town_day c0_town_holds c0_town_lies c0_town_cell c0_town_air_cell c0_town_air_way c0_town_air_force c0_town_owes c0_town_goods c0_town_hours c0_town_liking s1 s2 (0 : Int32)) (fun v2 => (fX9_tryDrawn_b164 c0_acts c0_town_liking x1 x2 x3  v2.2.1 v2.2.2.1 v2.2.2.2.1 v2.2.2.2.2.1 v2.2.2.2.2.2.1 v2.2.2.2.2.2.2.1 v2.2.2.2.2.2.2.2.1 v2.2.2.2.2.2.2.2.2.1 v2.2.2.2.2.2.2.2.2.2.1 v2.2.2.2.2.2.2.2.2.2.2.1 v2.2.2.2.2.2.2.2.2.2.2.2.1 v2.2.2.2.2.2.2.2.2.2.2.2.2.1 v2.2.2.2.2.2.2.2.2.2.2.2.2.2.1 v2.2.2.2.2.2.2.2.2.2.2.2.2.2.2))
def fX9_tryDrawn (c0_acts : Int32) (c0_losses : Int32) (c0_firstAct : Int32) (c0_firstLoser : Int32) (c0_town_hour : Int32) (c0_town_day : Int32) (c0_town_holds : Nat → Int32) (c0_town_lies : Nat → Int32) (c0_town_cell : Nat → Int32) (c0_town_air_cell : Int32) (c0_town_air_way : Int32) (c0_town_air_force : Int32) (c0_town_owes : Nat → Int32) (c0_town_goods : Nat → Int32) (c0_town_hours : Nat → Int32) (c0_town_liking : Nat → Int32) (x1 : Int32) (x2 : Int32) (x3 : Int32) : Option (Int32 × Int32 × Int32 × Int32 × Int32 × (Nat → Int32) × (Nat → Int32) × (Nat → Int32) × Int32 × Int32 × Int32 × (Nat → Int32) × (Nat → Int32) × (Nat → Int32)) := (if x2 = (0 : Int32) then Option.bind (fX9_tryAct c0_acts c0_losses c0_firstAct c0_firstLoser c0_town_hour c0_town_day c0_town_holds c0_town_lies c0_town_cell c0_town_air_cell c0_town_air_way c0_town_air_force c0_town_owes c0_town_goods c0_town_hours c0_town_liking x1 (0 : Int32) (0 : Int32)) (fun v4 => (fX9_tryDrawn_b164 c0_acts c0_town_liking x1 x2 x3  v4.2.1 v4.2.2.1 v4.2.2.2.1 v4.2.2.2.2.1 v4.2.2.2.2.2.1 v4.2.2.2.2.2.2.1 v4.2.2.2.2.2.2.2.1 v4.2.2.2.2.2.2.2.2.1 v4.2.2.2.2.2.2.2.2.2.1 v4.2.2.2.2.2.2.2.2.2.2.1 v4.2.2.2.2.2.2.2.2.2.2.2.1 v4.2.2.2.2.2.2.2.2.2.2.2.2.1 v4.2.2.2.2.2.2.2.2.2.2.2.2.2.1 v4.2.2.2.2.2.2.2.2.2.2.2.2.2.2)) else if x2 = (1 : Int32) then Option.bind (fX9_tryAct c0_acts c0_losses c0_firstAct c0_firstLoser c0_town_hour c0_town_day c0_town_holds c0_town_lies c0_town_cell c0_town_air_cell c0_town_air_way c0_town_air_force c0_town_owes c0_town_goods c0_town_hours c0_town_liking x1 (1 : Int32) (0 : Int32)) (fun v6 => (fX9_tryDrawn_b164 c0_acts c0_town_liking x1 x2 x3  v6.2.1 v6.2.2.1 v6.2.2.2.1 v6.2.2.2.2.1 v6.2.2.2.2.2.1 v6.2.2.2.2.2.2.1 v6.2.2.2.2.2.2.2.1 v6.2.2.2.2.2.2.2.2.1 v6.2.2.2.2.2.2.2.2.2.1 v6.2.2.2.2.2.2.2.2.2.2.1 v6.2.2.2.2.2.2.2.2.2.2.2.1 v6.2.2.2.2.2.2.2.2.2.2.2.2.1 v6.2.2.2.2.2.2.2.2.2.2.2.2.2.1 v6.2.2.2.2.2.2.2.2.2.2.2.2.2.2)) else if x2 = (2 : Int32) then Option.bind (fX9_tryAct c0_acts c0_losses c0_firstAct c0_firstLoser c0_town_hour c0_town_day c0_town_holds c0_town_lies c0_town_cell c0_town_air_cell c0_town_air_way c0_town_air_force c0_town_owes c0_town_goods c0_town_hours c0_town_liking x1 (2 : Int32) (irm x3 (8 : Int32))) (fun v8 => (fX9_tryDrawn_b164 c0_acts c0_town_liking x1 x2 x3  v8.2.1 v8.2.2.1 v8.2.2.2.1 v8.2.2.2.2.1 v8.2.2.2.2.2.1 v8.2.2.2.2.2.2.1 v8.2.2.2.2.2.2.2.1 v8.2.2.2.2.2.2.2.2.1 v8.2.2.2.2.2.2.2.2.2.1 v8.2.2.2.2.2.2.2.2.2.2.1 v8.2.2.2.2.2.2.2.2.2.2.2.1 v8.2.2.2.2.2.2.2.2.2.2.2.2.1 v8.2.2.2.2.2.2.2.2.2.2.2.2.2.1 v8.2.2.2.2.2.2.2.2.2.2.2.2.2.2)) else if x2 = (3 : Int32) then Option.bind (fX9_tryAct c0_acts c0_losses c0_firstAct c0_firstLoser c0_town_hour c0_town_day c0_town_holds c0_town_lies c0_town_cell c0_town_air_cell c0_town_air_way c0_town_air_force c0_town_owes c0_town_goods c0_town_hours c0_town_liking x1 (3 : Int32) (irm x3 (3 : Int32))) (fun v10 => (fX9_tryDrawn_b164 c0_acts c0_town_liking x1 x2 x3  v10.2.1 v10.2.2.1 v10.2.2.2.1 v10.2.2.2.2.1 v10.2.2.2.2.2.1 v10.2.2.2.2.2.2.1 v10.2.2.2.2.2.2.2.1 v10.2.2.2.2.2.2.2.2.1 v10.2.2.2.2.2.2.2.2.2.1 v10.2.2.2.2.2.2.2.2.2.2.1 v10.2.2.2.2.2.2.2.2.2.2.2.1 v10.2.2.2.2.2.2.2.2.2.2.2.2.1 v10.2.2.2.2.2.2.2.2.2.2.2.2.2.1 v10.2.2.2.2.2.2.2.2.2.2.2.2.2.2)) else if x2 = (4 : Int32) then Option.bind (fX9_tryAct c0_acts c0_losses c0_firstAct c0_firstLoser c0_town_hour c0_town_day c0_town_holds c0_town_lies c0_town_cell c0_town_air_cell c0_town_air_way c0_town_air_force c0_town_owes c0_town_goods c0_town_hours c0_town_liking x1 (4 : Int32) (0 : Int32)) (fun v12 => (fX9_tryDrawn_b164 c0_acts c0_town_liking x1 x2 x3  v12.2.1 v12.2.2.1 v12.2.2.2.1 v12.2.2.2.2.1 v12.2.2.2.2.2.1 v12.2.2.2.2.2.2.1 v12.2.2.2.2.2.2.2.1 v12.2.2.2.2.2.2.2.2.1 v12.2.2.2.2.2.2.2.2.2.1 v12.2.2.2.2.2.2.2.2.2.2.1 v12.2.2.2.2.2.2.2.2.2.2.2.1 v12.2.2.2.2.2.2.2.2.2.2.2.2.1 v12.2.2.2.2.2.2.2.2.2.2.2.2.2.1 v12.2.2.2.2.2.2.2.2.2.2.2.2.2.2)) else if x2 = (5 : Int32) then (if (irm (x3 / (6 : Int32)) (2 : Int32)) = (0 : Int32) then (fX9_tryDrawn_b121 c0_acts c0_town_liking x1 x2 x3  c0_losses c0_firstAct c0_firstLoser c0_town_hour c0_town_day c0_town_holds c0_town_lies c0_town_cell c0_town_air_cell c0_town_air_way c0_town_air_force c0_town_owes c0_town_goods c0_town_hours x1 (5 : Int32)) else (fX9_tryDrawn_b121 c0_acts c0_town_liking x1 x2 x3  c0_losses c0_firstAct c0_firstLoser c0_town_hour c0_town_day c0_town_holds c0_town_lies c0_town_cell c0_town_air_cell c0_town_air_way c0_town_air_force c0_town_owes c0_town_goods c0_town_hours x1 (6 : Int32))) else if x2 = (6 : Int32) then (if (irm x3 (4 : Int32)) = (0 : Int32) then (fX9_tryDrawn_b147 c0_acts c0_town_liking x1 x2 x3  c0_losses c0_firstAct c0_firstLoser c0_town_hour c0_town_day c0_town_holds c0_town_lies c0_town_cell c0_town_air_cell c0_town_air_way c0_town_air_force c0_town_owes c0_town_goods c0_town_hours x1 (7 : Int32)) else (fX9_tryDrawn_b147 c0_acts c0_town_liking x1 x2 x3  c0_losses c0_firstAct c0_firstLoser c0_town_hour c0_town_day c0_town_holds c0_town_lies c0_town_cell c0_town_air_cell c0_town_air_way c0_town_air_force c0_town_owes c0_town_goods c0_town_hours x1 (8 : Int32))) else Option.bind (fX9_tryAct c0_acts c0_losses c0_firstAct c0_firstLoser c0_town_hour c0_town_day c0_town_holds c0_town_lies c0_town_cell c0_town_air_cell c0_town_air_way c0_town_air_force c0_town_owes c0_town_goods c0_town_hours c0_town_liking x1 (8 : Int32) (0 : Int32)) (fun v17 => (fX9_tryDrawn_b164 c0_acts c0_town_liking x1 x2 x3  v17.2.1 v17.2.2.1 v17.2.2.2.1 v17.2.2.2.2.1 v17.2.2.2.2.2.1 v17.2.2.2.2.2.2.1 v17.2.2.2.2.2.2.2.1 v17.2.2.2.2.2.2.2.2.1 v17.2.2.2.2.2.2.2.2.2.1 v17.2.2.2.2.2.2.2.2.2.2.1 v17.2.2.2.2.2.2.2.2.2.2.2.1 v17.2.2.2.2.2.2.2.2.2.2.2.2.1 v17.2.2.2.2.2.2.2.2.2.2.2.2.2.1 v17.2.2.2.2.2.2.2.2.2.2.2.2.2.2)))
abbrev rmX9_tryDrawn : Room := { frames := 5, cells := 0, slots := 0, locals := 110 }
set_option maxRecDepth 100000 in
set_option maxHeartbeats 4000000 in
theorem ctX9_tryDrawn (l : Launch) (G : zG) (a0 a0_town a0_town_air a0_town_cell a0_town_hours a0_town_owes a0_town_holds a0_town_lies a0_town_goods a0_town_liking : Nat) (c0_acts : Int32) (c0_badAct : Int32) (c0_reason : Int32) (c0_losses : Int32) (c0_firstAct : Int32) (c0_firstLoser : Int32) (c0_town_hour : Int32) (c0_town_day : Int32) (c0_town_holds : Nat → Int32) (c0_town_lies : Nat → Int32) (c0_town_cell : Nat → Int32) (c0_town_air_cell : Int32) (c0_town_air_way : Int32) (c0_town_air_force : Int32) (c0_town_owes : Nat → Int32) (c0_town_goods : Nat → Int32) (c0_town_hours : Nat → Int32) (c0_town_liking : Nat → Int32) (x1 : Int32) (x2 : Int32) (x3 : Int32) {R : Int32 × Int32 × Int32 × Int32 × Int32 × (Nat → Int32) × (Nat → Int32) × (Nat → Int32) × Int32 × Int32 × Int32 × (Nat → Int32) × (Nat → Int32) × (Nat → Int32)} (hf : fX9_tryDrawn c0_acts c0_losses c0_firstAct c0_firstLoser c0_town_hour c0_town_day c0_town_holds c0_town_lies c0_town_cell c0_town_air_cell c0_town_air_way c0_town_air_force c0_town_owes c0_town_goods c0_town_hours c0_town_liking x1 x2 x3 = some R) : zCt l yX9_tryDrawn wsX9_tryDrawn rmX9_tryDrawn G [(a0, .inr (9, [.ref a0_town, .int c0_acts, .int c0_badAct, .int c0_reason, .int c0_losses, .int c0_firstAct, .int c0_firstLoser])), (a0_town, .inr (8, [.ref a0_town_air, .ref a0_town_cell, .ref a0_town_hours, .ref a0_town_owes, .ref a0_town_holds, .ref a0_town_lies, .ref a0_town_goods, .ref a0_town_liking, .int c0_town_hour, .int c0_town_day])), (a0_town_holds, .inl (G.2.1, 6, .inl c0_town_holds)), (a0_town_lies, .inl (G.2.1, 6, .inl c0_town_lies)), (a0_town_cell, .inl (G.2.1, 6, .inl c0_town_cell)), (a0_town_air, .inr (10, [.int c0_town_air_cell, .int c0_town_air_way, .int c0_town_air_force])), (a0_town_owes, .inl (G.2.1, 6, .inl c0_town_owes)), (a0_town_goods, .inl (G.2.1, 18, .inl c0_town_goods)), (a0_town_hours, .inl (G.2.1, 6, .inl c0_town_hours)), (a0_town_liking, .inl (G.2.1, 3, .inl c0_town_liking))] [.ref a0, .int x1, .int x2, .int x3] (fun v w => v = none ∧ w = [(a0, .inr (9, [.ref a0_town, .int c0_acts, .int c0_badAct, .int c0_reason, .int (R.1), .int (R.2.1), .int (R.2.2.1)])), (a0_town, .inr (8, [.ref a0_town_air, .ref a0_town_cell, .ref a0_town_hours, .ref a0_town_owes, .ref a0_town_holds, .ref a0_town_lies, .ref a0_town_goods, .ref a0_town_liking, .int (R.2.2.2.1), .int (R.2.2.2.2.1)])), (a0_town_holds, .inl (G.2.1, 6, .inl (R.2.2.2.2.2.1))), (a0_town_lies, .inl (G.2.1, 6, .inl (R.2.2.2.2.2.2.1))), (a0_town_cell, .inl (G.2.1, 6, .inl (R.2.2.2.2.2.2.2.1))), (a0_town_air, .inr (10, [.int (R.2.2.2.2.2.2.2.2.1), .int (R.2.2.2.2.2.2.2.2.2.1), .int (R.2.2.2.2.2.2.2.2.2.2.1)])), (a0_town_owes, .inl (G.2.1, 6, .inl (R.2.2.2.2.2.2.2.2.2.2.2.1))), (a0_town_goods, .inl (G.2.1, 18, .inl (R.2.2.2.2.2.2.2.2.2.2.2.2.1))), (a0_town_hours, .inl (G.2.1, 6, .inl (R.2.2.2.2.2.2.2.2.2.2.2.2.2))), (a0_town_liking, .inl (G.2.1, 3, .inl c0_town_liking))]) := by
  refine zMkV (own := RX9) false (by decide) (by decide +kernel) rfl rfl (Nat.le_of_ble_eq_true rfl) ?_
  intro Z h hret
  have hB164 : ∀ (c0_losses : Int32) (c0_firstAct : Int32) (c0_firstLoser : Int32) (c0_town_hour : Int32) (c0_town_day : Int32) (c0_town_holds : Nat → Int32) (c0_town_lies : Nat → Int32) (c0_town_cell : Nat → Int32) (c0_town_air_cell : Int32) (c0_town_air_way : Int32) (c0_town_air_force : Int32) (c0_town_owes : Nat → Int32) (c0_town_goods : Nat → Int32) (c0_town_hours : Nat → Int32), fX9_tryDrawn_b164 c0_acts c0_town_liking x1 x2 x3  c0_losses c0_firstAct c0_firstLoser c0_town_hour c0_town_day c0_town_holds c0_town_lies c0_town_cell c0_town_air_cell c0_town_air_way c0_town_air_force c0_town_owes c0_town_goods c0_town_hours = some R → Z 0 0 [(a0, .inr (9, [.ref a0_town, .int c0_acts, .int c0_badAct, .int c0_reason, .int c0_losses, .int c0_firstAct, .int c0_firstLoser])), (a0_town, .inr (8, [.ref a0_town_air, .ref a0_town_cell, .ref a0_town_hours, .ref a0_town_owes, .ref a0_town_holds, .ref a0_town_lies, .ref a0_town_goods, .ref a0_town_liking, .int c0_town_hour, .int c0_town_day])), (a0_town_holds, .inl (G.2.1, 6, .inl c0_town_holds)), (a0_town_lies, .inl (G.2.1, 6, .inl c0_town_lies)), (a0_town_cell, .inl (G.2.1, 6, .inl c0_town_cell)), (a0_town_air, .inr (10, [.int c0_town_air_cell, .int c0_town_air_way, .int c0_town_air_force])), (a0_town_owes, .inl (G.2.1, 6, .inl c0_town_owes)), (a0_town_goods, .inl (G.2.1, 18, .inl c0_town_goods)), (a0_town_hours, .inl (G.2.1, 6, .inl c0_town_hours)), (a0_town_liking, .inl (G.2.1, 3, .inl c0_town_liking))] [] 164 [] := by
    intro c0_losses c0_firstAct c0_firstLoser c0_town_hour c0_town_day c0_town_holds c0_town_lies c0_town_cell c0_town_air_cell c0_town_air_way c0_town_air_force c0_town_owes c0_town_goods c0_town_hours hf
    rw [fX9_tryDrawn_b164] at hf
    have hf := Option.some.inj hf
    subst hf
    exact hret _ _ _ dX9_tryDrawn_164 ⟨rfl, rfl⟩
  have hB121 : ∀ (c0_losses : Int32) (c0_firstAct : Int32) (c0_firstLoser : Int32) (c0_town_hour : Int32) (c0_town_day : Int32) (c0_town_holds : Nat → Int32) (c0_town_lies : Nat → Int32) (c0_town_cell : Nat → Int32) (c0_town_air_cell : Int32) (c0_town_air_way : Int32) (c0_town_air_force : Int32) (c0_town_owes : Nat → Int32) (c0_town_goods : Nat → Int32) (c0_town_hours : Nat → Int32) (s1 : Int32) (s2 : Int32), fX9_tryDrawn_b121 c0_acts c0_town_liking x1 x2 x3  c0_losses c0_firstAct c0_firstLoser c0_town_hour c0_town_day c0_town_holds c0_town_lies c0_town_cell c0_town_air_cell c0_town_air_way c0_town_air_force c0_town_owes c0_town_goods c0_town_hours s1 s2 = some R → Z 0 0 [(a0, .inr (9, [.ref a0_town, .int c0_acts, .int c0_badAct, .int c0_reason, .int c0_losses, .int c0_firstAct, .int c0_firstLoser])), (a0_town, .inr (8, [.ref a0_town_air, .ref a0_town_cell, .ref a0_town_hours, .ref a0_town_owes, .ref a0_town_holds, .ref a0_town_lies, .ref a0_town_goods, .ref a0_town_liking, .int c0_town_hour, .int c0_town_day])), (a0_town_holds, .inl (G.2.1, 6, .inl c0_town_holds)), (a0_town_lies, .inl (G.2.1, 6, .inl c0_town_lies)), (a0_town_cell, .inl (G.2.1, 6, .inl c0_town_cell)), (a0_town_air, .inr (10, [.int c0_town_air_cell, .int c0_town_air_way, .int c0_town_air_force])), (a0_town_owes, .inl (G.2.1, 6, .inl c0_town_owes)), (a0_town_goods, .inl (G.2.1, 18, .inl c0_town_goods)), (a0_town_hours, .inl (G.2.1, 6, .inl c0_town_hours)), (a0_town_liking, .inl (G.2.1, 3, .inl c0_town_liking))] [(3, .int x3)] 121 [.int s2, .int s1, .ref a0] := by
    intro c0_losses c0_firstAct c0_firstLoser c0_town_hour c0_town_day c0_town_holds c0_town_lies c0_town_cell c0_town_air_cell c0_town_air_way c0_town_air_force c0_town_owes c0_town_goods c0_town_hours s1 s2 hf
    rw [fX9_tryDrawn_b121] at hf
    refine z_iload_n h dX9_tryDrawn_121 0 rfl rfl ?_
    refine z_bipush h (v := (6 : Int32)) dX9_tryDrawn_122 (by decide) rfl ?_
    refine z_irem h dX9_tryDrawn_124 (by decide) rfl ?_
    obtain ⟨v1, hv1, hf⟩ := bd_some hf
    refine z_callV h (np := 3) (st := []) (wr := []) [.int s1, .int s2, .int (irm x3 (6 : Int32))] (ctX9_tryAct l G a0 a0_town a0_town_air a0_town_cell a0_town_hours a0_town_owes a0_town_holds a0_town_lies a0_town_goods a0_town_liking c0_acts c0_badAct c0_reason c0_losses c0_firstAct c0_firstLoser c0_town_hour c0_town_day c0_town_holds c0_town_lies c0_town_cell c0_town_air_cell c0_town_air_way c0_town_air_force c0_town_owes c0_town_goods c0_town_hours c0_town_liking s1 s2 (irm x3 (6 : Int32)) hv1) gX9_tryDrawn_X9_tryAct (by decide +kernel) 0 rfl rfl rfl ⟨Nat.le_of_ble_eq_true rfl, Nat.le_of_ble_eq_true rfl⟩ ⟨Nat.le_refl _, Nat.le_refl _⟩ rfl rfl rfl [0, 1, 2, 3, 4, 5, 6, 7, 8, 9] [] rfl rfl rfl rfl (by decide) (Nat.le_of_ble_eq_true rfl) dX9_tryDrawn_125 rfl rfl (fun rv1 wv1 hrv1 => ?_)
    obtain ⟨rfl, rfl⟩ := hrv1
    refine z_perm h (w2 := [(a0, .inr (9, [.ref a0_town, .int c0_acts, .int c0_badAct, .int c0_reason, .int v1.2.1, .int v1.2.2.1, .int v1.2.2.2.1])), (a0_town, .inr (8, [.ref a0_town_air, .ref a0_town_cell, .ref a0_town_hours, .ref a0_town_owes, .ref a0_town_holds, .ref a0_town_lies, .ref a0_town_goods, .ref a0_town_liking, .int v1.2.2.2.2.1, .int v1.2.2.2.2.2.1])), (a0_town_holds, .inl (G.2.1, 6, .inl v1.2.2.2.2.2.2.1)), (a0_town_lies, .inl (G.2.1, 6, .inl v1.2.2.2.2.2.2.2.1)), (a0_town_cell, .inl (G.2.1, 6, .inl v1.2.2.2.2.2.2.2.2.1)), (a0_town_air, .inr (10, [.int v1.2.2.2.2.2.2.2.2.2.1, .int v1.2.2.2.2.2.2.2.2.2.2.1, .int v1.2.2.2.2.2.2.2.2.2.2.2.1])), (a0_town_owes, .inl (G.2.1, 6, .inl v1.2.2.2.2.2.2.2.2.2.2.2.2.1)), (a0_town_goods, .inl (G.2.1, 18, .inl v1.2.2.2.2.2.2.2.2.2.2.2.2.2.1)), (a0_town_hours, .inl (G.2.1, 6, .inl v1.2.2.2.2.2.2.2.2.2.2.2.2.2.2)), (a0_town_liking, .inl (G.2.1, 3, .inl c0_town_liking))]) (st := [.int v1.1]) [0, 1, 2, 3, 4, 5, 6, 7, 8, 9] rfl rfl ?_
    refine z_pop h dX9_tryDrawn_128 rfl rfl ?_
    refine z_goto h (tgt := 164) dX9_tryDrawn_129 (by decide) ?_
    refine z_locs h (lv2 := []) [] rfl ?_
    exact hB164 v1.2.1 v1.2.2.1 v1.2.2.2.1 v1.2.2.2.2.1 v1.2.2.2.2.2.1 v1.2.2.2.2.2.2.1 v1.2.2.2.2.2.2.2.1 v1.2.2.2.2.2.2.2.2.1 v1.2.2.2.2.2.2.2.2.2.1 v1.2.2.2.2.2.2.2.2.2.2.1 v1.2.2.2.2.2.2.2.2.2.2.2.1 v1.2.2.2.2.2.2.2.2.2.2.2.2.1 v1.2.2.2.2.2.2.2.2.2.2.2.2.2.1 v1.2.2.2.2.2.2.2.2.2.2.2.2.2.2 hf
  have hB147 : ∀ (c0_losses : Int32) (c0_firstAct : Int32) (c0_firstLoser : Int32) (c0_town_hour : Int32) (c0_town_day : Int32) (c0_town_holds : Nat → Int32) (c0_town_lies : Nat → Int32) (c0_town_cell : Nat → Int32) (c0_town_air_cell : Int32) (c0_town_air_way : Int32) (c0_town_air_force : Int32) (c0_town_owes : Nat → Int32) (c0_town_goods : Nat → Int32) (c0_town_hours : Nat → Int32) (s1 : Int32) (s2 : Int32), fX9_tryDrawn_b147 c0_acts c0_town_liking x1 x2 x3  c0_losses c0_firstAct c0_firstLoser c0_town_hour c0_town_day c0_town_holds c0_town_lies c0_town_cell c0_town_air_cell c0_town_air_way c0_town_air_force c0_town_owes c0_town_goods c0_town_hours s1 s2 = some R → Z 0 0 [(a0, .inr (9, [.ref a0_town, .int c0_acts, .int c0_badAct, .int c0_reason, .int c0_losses, .int c0_firstAct, .int c0_firstLoser])), (a0_town, .inr (8, [.ref a0_town_air, .ref a0_town_cell, .ref a0_town_hours, .ref a0_town_owes, .ref a0_town_holds, .ref a0_town_lies, .ref a0_town_goods, .ref a0_town_liking, .int c0_town_hour, .int c0_town_day])), (a0_town_holds, .inl (G.2.1, 6, .inl c0_town_holds)), (a0_town_lies, .inl (G.2.1, 6, .inl c0_town_lies)), (a0_town_cell, .inl (G.2.1, 6, .inl c0_town_cell)), (a0_town_air, .inr (10, [.int c0_town_air_cell, .int c0_town_air_way, .int c0_town_air_force])), (a0_town_owes, .inl (G.2.1, 6, .inl c0_town_owes)), (a0_town_goods, .inl (G.2.1, 18, .inl c0_town_goods)), (a0_town_hours, .inl (G.2.1, 6, .inl c0_town_hours)), (a0_town_liking, .inl (G.2.1, 3, .inl c0_town_liking))] [] 147 [.int s2, .int s1, .ref a0] := by
    intro c0_losses c0_firstAct c0_firstLoser c0_town_hour c0_town_day c0_town_holds c0_town_lies c0_town_cell c0_town_air_cell c0_town_air_way c0_town_air_force c0_town_owes c0_town_goods c0_town_hours s1 s2 hf
    rw [fX9_tryDrawn_b147] at hf
    refine z_iconst h (v := (0 : Int32)) dX9_tryDrawn_147 (by decide) rfl ?_
    obtain ⟨v2, hv2, hf⟩ := bd_some hf
    refine z_callV h (np := 3) (st := []) (wr := []) [.int s1, .int s2, .int (0 : Int32)] (ctX9_tryAct l G a0 a0_town a0_town_air a0_town_cell a0_town_hours a0_town_owes a0_town_holds a0_town_lies a0_town_goods a0_town_liking c0_acts c0_badAct c0_reason c0_losses c0_firstAct c0_firstLoser c0_town_hour c0_town_day c0_town_holds c0_town_lies c0_town_cell c0_town_air_cell c0_town_air_way c0_town_air_force c0_town_owes c0_town_goods c0_town_hours c0_town_liking s1 s2 (0 : Int32) hv2) gX9_tryDrawn_X9_tryAct (by decide +kernel) 0 rfl rfl rfl ⟨Nat.le_of_ble_eq_true rfl, Nat.le_of_ble_eq_true rfl⟩ ⟨Nat.le_refl _, Nat.le_refl _⟩ rfl rfl rfl [0, 1, 2, 3, 4, 5, 6, 7, 8, 9] [] rfl rfl rfl rfl (by decide) (Nat.le_of_ble_eq_true rfl) dX9_tryDrawn_148 rfl rfl (fun rv2 wv2 hrv2 => ?_)
    obtain ⟨rfl, rfl⟩ := hrv2
    refine z_perm h (w2 := [(a0, .inr (9, [.ref a0_town, .int c0_acts, .int c0_badAct, .int c0_reason, .int v2.2.1, .int v2.2.2.1, .int v2.2.2.2.1])), (a0_town, .inr (8, [.ref a0_town_air, .ref a0_town_cell, .ref a0_town_hours, .ref a0_town_owes, .ref a0_town_holds, .ref a0_town_lies, .ref a0_town_goods, .ref a0_town_liking, .int v2.2.2.2.2.1, .int v2.2.2.2.2.2.1])), (a0_town_holds, .inl (G.2.1, 6, .inl v2.2.2.2.2.2.2.1)), (a0_town_lies, .inl (G.2.1, 6, .inl v2.2.2.2.2.2.2.2.1)), (a0_town_cell, .inl (G.2.1, 6, .inl v2.2.2.2.2.2.2.2.2.1)), (a0_town_air, .inr (10, [.int v2.2.2.2.2.2.2.2.2.2.1, .int v2.2.2.2.2.2.2.2.2.2.2.1, .int v2.2.2.2.2.2.2.2.2.2.2.2.1])), (a0_town_owes, .inl (G.2.1, 6, .inl v2.2.2.2.2.2.2.2.2.2.2.2.2.1)), (a0_town_goods, .inl (G.2.1, 18, .inl v2.2.2.2.2.2.2.2.2.2.2.2.2.2.1)), (a0_town_hours, .inl (G.2.1, 6, .inl v2.2.2.2.2.2.2.2.2.2.2.2.2.2.2)), (a0_town_liking, .inl (G.2.1, 3, .inl c0_town_liking))]) (st := [.int v2.1]) [0, 1, 2, 3, 4, 5, 6, 7, 8, 9] rfl rfl ?_
    refine z_pop h dX9_tryDrawn_151 rfl rfl ?_
    refine z_goto h (tgt := 164) dX9_tryDrawn_152 (by decide) ?_
    exact hB164 v2.2.1 v2.2.2.1 v2.2.2.2.1 v2.2.2.2.2.1 v2.2.2.2.2.2.1 v2.2.2.2.2.2.2.1 v2.2.2.2.2.2.2.2.1 v2.2.2.2.2.2.2.2.2.1 v2.2.2.2.2.2.2.2.2.2.1 v2.2.2.2.2.2.2.2.2.2.2.1 v2.2.2.2.2.2.2.2.2.2.2.2.1 v2.2.2.2.2.2.2.2.2.2.2.2.2.1 v2.2.2.2.2.2.2.2.2.2.2.2.2.2.1 v2.2.2.2.2.2.2.2.2.2.2.2.2.2.2 hf
  rw [fX9_tryDrawn] at hf
  show Z 0 0 _ [(0, .ref a0), (1, .int x1), (2, .int x2), (3, .int x3)] 0 []
  refine z_iload_n h dX9_tryDrawn_0 2 rfl rfl ?_
  by_cases c3 : x2 = (0 : Int32)
  · have hf := ite_t hf c3
    refine z_tableIn h (off := 43) (tgt := 44) dX9_tryDrawn_1 (0 : Int32) c3 (by decide) (by decide) (by decide) (by decide) ?_
    refine z_aload_n h dX9_tryDrawn_44 0 rfl rfl ?_
    refine z_iload_n h dX9_tryDrawn_45 1 rfl rfl ?_
    refine z_iconst h (v := (0 : Int32)) dX9_tryDrawn_46 (by decide) rfl ?_
    refine z_iconst h (v := (0 : Int32)) dX9_tryDrawn_47 (by decide) rfl ?_
    obtain ⟨v4, hv4, hf⟩ := bd_some hf
    refine z_callV h (np := 3) (st := []) (wr := []) [.int x1, .int (0 : Int32), .int (0 : Int32)] (ctX9_tryAct l G a0 a0_town a0_town_air a0_town_cell a0_town_hours a0_town_owes a0_town_holds a0_town_lies a0_town_goods a0_town_liking c0_acts c0_badAct c0_reason c0_losses c0_firstAct c0_firstLoser c0_town_hour c0_town_day c0_town_holds c0_town_lies c0_town_cell c0_town_air_cell c0_town_air_way c0_town_air_force c0_town_owes c0_town_goods c0_town_hours c0_town_liking x1 (0 : Int32) (0 : Int32) hv4) gX9_tryDrawn_X9_tryAct (by decide +kernel) 0 rfl rfl rfl ⟨Nat.le_of_ble_eq_true rfl, Nat.le_of_ble_eq_true rfl⟩ ⟨Nat.le_refl _, Nat.le_refl _⟩ rfl rfl rfl [0, 1, 2, 3, 4, 5, 6, 7, 8, 9] [] rfl rfl rfl rfl (by decide) (Nat.le_of_ble_eq_true rfl) dX9_tryDrawn_48 rfl rfl (fun rv4 wv4 hrv4 => ?_)
    obtain ⟨rfl, rfl⟩ := hrv4
    refine z_perm h (w2 := [(a0, .inr (9, [.ref a0_town, .int c0_acts, .int c0_badAct, .int c0_reason, .int v4.2.1, .int v4.2.2.1, .int v4.2.2.2.1])), (a0_town, .inr (8, [.ref a0_town_air, .ref a0_town_cell, .ref a0_town_hours, .ref a0_town_owes, .ref a0_town_holds, .ref a0_town_lies, .ref a0_town_goods, .ref a0_town_liking, .int v4.2.2.2.2.1, .int v4.2.2.2.2.2.1])), (a0_town_holds, .inl (G.2.1, 6, .inl v4.2.2.2.2.2.2.1)), (a0_town_lies, .inl (G.2.1, 6, .inl v4.2.2.2.2.2.2.2.1)), (a0_town_cell, .inl (G.2.1, 6, .inl v4.2.2.2.2.2.2.2.2.1)), (a0_town_air, .inr (10, [.int v4.2.2.2.2.2.2.2.2.2.1, .int v4.2.2.2.2.2.2.2.2.2.2.1, .int v4.2.2.2.2.2.2.2.2.2.2.2.1])), (a0_town_owes, .inl (G.2.1, 6, .inl v4.2.2.2.2.2.2.2.2.2.2.2.2.1)), (a0_town_goods, .inl (G.2.1, 18, .inl v4.2.2.2.2.2.2.2.2.2.2.2.2.2.1)), (a0_town_hours, .inl (G.2.1, 6, .inl v4.2.2.2.2.2.2.2.2.2.2.2.2.2.2)), (a0_town_liking, .inl (G.2.1, 3, .inl c0_town_liking))]) (st := [.int v4.1]) [0, 1, 2, 3, 4, 5, 6, 7, 8, 9] rfl rfl ?_
    refine z_pop h dX9_tryDrawn_51 rfl rfl ?_
    refine z_goto h (tgt := 164) dX9_tryDrawn_52 (by decide) ?_
    refine z_locs h (lv2 := []) [] rfl ?_
    exact hB164 v4.2.1 v4.2.2.1 v4.2.2.2.1 v4.2.2.2.2.1 v4.2.2.2.2.2.1 v4.2.2.2.2.2.2.1 v4.2.2.2.2.2.2.2.1 v4.2.2.2.2.2.2.2.2.1 v4.2.2.2.2.2.2.2.2.2.1 v4.2.2.2.2.2.2.2.2.2.2.1 v4.2.2.2.2.2.2.2.2.2.2.2.1 v4.2.2.2.2.2.2.2.2.2.2.2.2.1 v4.2.2.2.2.2.2.2.2.2.2.2.2.2.1 v4.2.2.2.2.2.2.2.2.2.2.2.2.2.2 hf
  have hf := ite_f hf c3
  by_cases c5 : x2 = (1 : Int32)
  · have hf := ite_t hf c5
    refine z_tableIn h (off := 54) (tgt := 55) dX9_tryDrawn_1 (1 : Int32) c5 (by decide) (by decide) (by decide) (by decide) ?_
    refine z_aload_n h dX9_tryDrawn_55 0 rfl rfl ?_
    refine z_iload_n h dX9_tryDrawn_56 1 rfl rfl ?_
    refine z_iconst h (v := (1 : Int32)) dX9_tryDrawn_57 (by decide) rfl ?_
    refine z_iconst h (v := (0 : Int32)) dX9_tryDrawn_58 (by decide) rfl ?_
    obtain ⟨v6, hv6, hf⟩ := bd_some hf
    refine z_callV h (np := 3) (st := []) (wr := []) [.int x1, .int (1 : Int32), .int (0 : Int32)] (ctX9_tryAct l G a0 a0_town a0_town_air a0_town_cell a0_town_hours a0_town_owes a0_town_holds a0_town_lies a0_town_goods a0_town_liking c0_acts c0_badAct c0_reason c0_losses c0_firstAct c0_firstLoser c0_town_hour c0_town_day c0_town_holds c0_town_lies c0_town_cell c0_town_air_cell c0_town_air_way c0_town_air_force c0_town_owes c0_town_goods c0_town_hours c0_town_liking x1 (1 : Int32) (0 : Int32) hv6) gX9_tryDrawn_X9_tryAct (by decide +kernel) 0 rfl rfl rfl ⟨Nat.le_of_ble_eq_true rfl, Nat.le_of_ble_eq_true rfl⟩ ⟨Nat.le_refl _, Nat.le_refl _⟩ rfl rfl rfl [0, 1, 2, 3, 4, 5, 6, 7, 8, 9] [] rfl rfl rfl rfl (by decide) (Nat.le_of_ble_eq_true rfl) dX9_tryDrawn_59 rfl rfl (fun rv6 wv6 hrv6 => ?_)
    obtain ⟨rfl, rfl⟩ := hrv6
    refine z_perm h (w2 := [(a0, .inr (9, [.ref a0_town, .int c0_acts, .int c0_badAct, .int c0_reason, .int v6.2.1, .int v6.2.2.1, .int v6.2.2.2.1])), (a0_town, .inr (8, [.ref a0_town_air, .ref a0_town_cell, .ref a0_town_hours, .ref a0_town_owes, .ref a0_town_holds, .ref a0_town_lies, .ref a0_town_goods, .ref a0_town_liking, .int v6.2.2.2.2.1, .int v6.2.2.2.2.2.1])), (a0_town_holds, .inl (G.2.1, 6, .inl v6.2.2.2.2.2.2.1)), (a0_town_lies, .inl (G.2.1, 6, .inl v6.2.2.2.2.2.2.2.1)), (a0_town_cell, .inl (G.2.1, 6, .inl v6.2.2.2.2.2.2.2.2.1)), (a0_town_air, .inr (10, [.int v6.2.2.2.2.2.2.2.2.2.1, .int v6.2.2.2.2.2.2.2.2.2.2.1, .int v6.2.2.2.2.2.2.2.2.2.2.2.1])), (a0_town_owes, .inl (G.2.1, 6, .inl v6.2.2.2.2.2.2.2.2.2.2.2.2.1)), (a0_town_goods, .inl (G.2.1, 18, .inl v6.2.2.2.2.2.2.2.2.2.2.2.2.2.1)), (a0_town_hours, .inl (G.2.1, 6, .inl v6.2.2.2.2.2.2.2.2.2.2.2.2.2.2)), (a0_town_liking, .inl (G.2.1, 3, .inl c0_town_liking))]) (st := [.int v6.1]) [0, 1, 2, 3, 4, 5, 6, 7, 8, 9] rfl rfl ?_
    refine z_pop h dX9_tryDrawn_62 rfl rfl ?_
    refine z_goto h (tgt := 164) dX9_tryDrawn_63 (by decide) ?_
    refine z_locs h (lv2 := []) [] rfl ?_
    exact hB164 v6.2.1 v6.2.2.1 v6.2.2.2.1 v6.2.2.2.2.1 v6.2.2.2.2.2.1 v6.2.2.2.2.2.2.1 v6.2.2.2.2.2.2.2.1 v6.2.2.2.2.2.2.2.2.1 v6.2.2.2.2.2.2.2.2.2.1 v6.2.2.2.2.2.2.2.2.2.2.1 v6.2.2.2.2.2.2.2.2.2.2.2.1 v6.2.2.2.2.2.2.2.2.2.2.2.2.1 v6.2.2.2.2.2.2.2.2.2.2.2.2.2.1 v6.2.2.2.2.2.2.2.2.2.2.2.2.2.2 hf
  have hf := ite_f hf c5
  by_cases c7 : x2 = (2 : Int32)
  · have hf := ite_t hf c7
    refine z_tableIn h (off := 65) (tgt := 66) dX9_tryDrawn_1 (2 : Int32) c7 (by decide) (by decide) (by decide) (by decide) ?_
    refine z_aload_n h dX9_tryDrawn_66 0 rfl rfl ?_
    refine z_iload_n h dX9_tryDrawn_67 1 rfl rfl ?_
    refine z_iconst h (v := (2 : Int32)) dX9_tryDrawn_68 (by decide) rfl ?_
    refine z_iload_n h dX9_tryDrawn_69 3 rfl rfl ?_
    refine z_bipush h (v := (8 : Int32)) dX9_tryDrawn_70 (by decide) rfl ?_
    refine z_irem h dX9_tryDrawn_72 (by decide) rfl ?_
    obtain ⟨v8, hv8, hf⟩ := bd_some hf
    refine z_callV h (np := 3) (st := []) (wr := []) [.int x1, .int (2 : Int32), .int (irm x3 (8 : Int32))] (ctX9_tryAct l G a0 a0_town a0_town_air a0_town_cell a0_town_hours a0_town_owes a0_town_holds a0_town_lies a0_town_goods a0_town_liking c0_acts c0_badAct c0_reason c0_losses c0_firstAct c0_firstLoser c0_town_hour c0_town_day c0_town_holds c0_town_lies c0_town_cell c0_town_air_cell c0_town_air_way c0_town_air_force c0_town_owes c0_town_goods c0_town_hours c0_town_liking x1 (2 : Int32) (irm x3 (8 : Int32)) hv8) gX9_tryDrawn_X9_tryAct (by decide +kernel) 0 rfl rfl rfl ⟨Nat.le_of_ble_eq_true rfl, Nat.le_of_ble_eq_true rfl⟩ ⟨Nat.le_refl _, Nat.le_refl _⟩ rfl rfl rfl [0, 1, 2, 3, 4, 5, 6, 7, 8, 9] [] rfl rfl rfl rfl (by decide) (Nat.le_of_ble_eq_true rfl) dX9_tryDrawn_73 rfl rfl (fun rv8 wv8 hrv8 => ?_)
    obtain ⟨rfl, rfl⟩ := hrv8
    refine z_perm h (w2 := [(a0, .inr (9, [.ref a0_town, .int c0_acts, .int c0_badAct, .int c0_reason, .int v8.2.1, .int v8.2.2.1, .int v8.2.2.2.1])), (a0_town, .inr (8, [.ref a0_town_air, .ref a0_town_cell, .ref a0_town_hours, .ref a0_town_owes, .ref a0_town_holds, .ref a0_town_lies, .ref a0_town_goods, .ref a0_town_liking, .int v8.2.2.2.2.1, .int v8.2.2.2.2.2.1])), (a0_town_holds, .inl (G.2.1, 6, .inl v8.2.2.2.2.2.2.1)), (a0_town_lies, .inl (G.2.1, 6, .inl v8.2.2.2.2.2.2.2.1)), (a0_town_cell, .inl (G.2.1, 6, .inl v8.2.2.2.2.2.2.2.2.1)), (a0_town_air, .inr (10, [.int v8.2.2.2.2.2.2.2.2.2.1, .int v8.2.2.2.2.2.2.2.2.2.2.1, .int v8.2.2.2.2.2.2.2.2.2.2.2.1])), (a0_town_owes, .inl (G.2.1, 6, .inl v8.2.2.2.2.2.2.2.2.2.2.2.2.1)), (a0_town_goods, .inl (G.2.1, 18, .inl v8.2.2.2.2.2.2.2.2.2.2.2.2.2.1)), (a0_town_hours, .inl (G.2.1, 6, .inl v8.2.2.2.2.2.2.2.2.2.2.2.2.2.2)), (a0_town_liking, .inl (G.2.1, 3, .inl c0_town_liking))]) (st := [.int v8.1]) [0, 1, 2, 3, 4, 5, 6, 7, 8, 9] rfl rfl ?_
    refine z_pop h dX9_tryDrawn_76 rfl rfl ?_
    refine z_goto h (tgt := 164) dX9_tryDrawn_77 (by decide) ?_
    refine z_locs h (lv2 := []) [] rfl ?_
    exact hB164 v8.2.1 v8.2.2.1 v8.2.2.2.1 v8.2.2.2.2.1 v8.2.2.2.2.2.1 v8.2.2.2.2.2.2.1 v8.2.2.2.2.2.2.2.1 v8.2.2.2.2.2.2.2.2.1 v8.2.2.2.2.2.2.2.2.2.1 v8.2.2.2.2.2.2.2.2.2.2.1 v8.2.2.2.2.2.2.2.2.2.2.2.1 v8.2.2.2.2.2.2.2.2.2.2.2.2.1 v8.2.2.2.2.2.2.2.2.2.2.2.2.2.1 v8.2.2.2.2.2.2.2.2.2.2.2.2.2.2 hf
  have hf := ite_f hf c7
  by_cases c9 : x2 = (3 : Int32)
  · have hf := ite_t hf c9
    refine z_tableIn h (off := 79) (tgt := 80) dX9_tryDrawn_1 (3 : Int32) c9 (by decide) (by decide) (by decide) (by decide) ?_
    refine z_aload_n h dX9_tryDrawn_80 0 rfl rfl ?_
    refine z_iload_n h dX9_tryDrawn_81 1 rfl rfl ?_
    refine z_iconst h (v := (3 : Int32)) dX9_tryDrawn_82 (by decide) rfl ?_
    refine z_iload_n h dX9_tryDrawn_83 3 rfl rfl ?_
    refine z_iconst h (v := (3 : Int32)) dX9_tryDrawn_84 (by decide) rfl ?_
    refine z_irem h dX9_tryDrawn_85 (by decide) rfl ?_
    obtain ⟨v10, hv10, hf⟩ := bd_some hf
    refine z_callV h (np := 3) (st := []) (wr := []) [.int x1, .int (3 : Int32), .int (irm x3 (3 : Int32))] (ctX9_tryAct l G a0 a0_town a0_town_air a0_town_cell a0_town_hours a0_town_owes a0_town_holds a0_town_lies a0_town_goods a0_town_liking c0_acts c0_badAct c0_reason c0_losses c0_firstAct c0_firstLoser c0_town_hour c0_town_day c0_town_holds c0_town_lies c0_town_cell c0_town_air_cell c0_town_air_way c0_town_air_force c0_town_owes c0_town_goods c0_town_hours c0_town_liking x1 (3 : Int32) (irm x3 (3 : Int32)) hv10) gX9_tryDrawn_X9_tryAct (by decide +kernel) 0 rfl rfl rfl ⟨Nat.le_of_ble_eq_true rfl, Nat.le_of_ble_eq_true rfl⟩ ⟨Nat.le_refl _, Nat.le_refl _⟩ rfl rfl rfl [0, 1, 2, 3, 4, 5, 6, 7, 8, 9] [] rfl rfl rfl rfl (by decide) (Nat.le_of_ble_eq_true rfl) dX9_tryDrawn_86 rfl rfl (fun rv10 wv10 hrv10 => ?_)
    obtain ⟨rfl, rfl⟩ := hrv10
    refine z_perm h (w2 := [(a0, .inr (9, [.ref a0_town, .int c0_acts, .int c0_badAct, .int c0_reason, .int v10.2.1, .int v10.2.2.1, .int v10.2.2.2.1])), (a0_town, .inr (8, [.ref a0_town_air, .ref a0_town_cell, .ref a0_town_hours, .ref a0_town_owes, .ref a0_town_holds, .ref a0_town_lies, .ref a0_town_goods, .ref a0_town_liking, .int v10.2.2.2.2.1, .int v10.2.2.2.2.2.1])), (a0_town_holds, .inl (G.2.1, 6, .inl v10.2.2.2.2.2.2.1)), (a0_town_lies, .inl (G.2.1, 6, .inl v10.2.2.2.2.2.2.2.1)), (a0_town_cell, .inl (G.2.1, 6, .inl v10.2.2.2.2.2.2.2.2.1)), (a0_town_air, .inr (10, [.int v10.2.2.2.2.2.2.2.2.2.1, .int v10.2.2.2.2.2.2.2.2.2.2.1, .int v10.2.2.2.2.2.2.2.2.2.2.2.1])), (a0_town_owes, .inl (G.2.1, 6, .inl v10.2.2.2.2.2.2.2.2.2.2.2.2.1)), (a0_town_goods, .inl (G.2.1, 18, .inl v10.2.2.2.2.2.2.2.2.2.2.2.2.2.1)), (a0_town_hours, .inl (G.2.1, 6, .inl v10.2.2.2.2.2.2.2.2.2.2.2.2.2.2)), (a0_town_liking, .inl (G.2.1, 3, .inl c0_town_liking))]) (st := [.int v10.1]) [0, 1, 2, 3, 4, 5, 6, 7, 8, 9] rfl rfl ?_
    refine z_pop h dX9_tryDrawn_89 rfl rfl ?_
    refine z_goto h (tgt := 164) dX9_tryDrawn_90 (by decide) ?_
    refine z_locs h (lv2 := []) [] rfl ?_
    exact hB164 v10.2.1 v10.2.2.1 v10.2.2.2.1 v10.2.2.2.2.1 v10.2.2.2.2.2.1 v10.2.2.2.2.2.2.1 v10.2.2.2.2.2.2.2.1 v10.2.2.2.2.2.2.2.2.1 v10.2.2.2.2.2.2.2.2.2.1 v10.2.2.2.2.2.2.2.2.2.2.1 v10.2.2.2.2.2.2.2.2.2.2.2.1 v10.2.2.2.2.2.2.2.2.2.2.2.2.1 v10.2.2.2.2.2.2.2.2.2.2.2.2.2.1 v10.2.2.2.2.2.2.2.2.2.2.2.2.2.2 hf
  have hf := ite_f hf c9
  by_cases c11 : x2 = (4 : Int32)
  · have hf := ite_t hf c11
    refine z_tableIn h (off := 92) (tgt := 93) dX9_tryDrawn_1 (4 : Int32) c11 (by decide) (by decide) (by decide) (by decide) ?_
    refine z_aload_n h dX9_tryDrawn_93 0 rfl rfl ?_
    refine z_iload_n h dX9_tryDrawn_94 1 rfl rfl ?_
    refine z_iconst h (v := (4 : Int32)) dX9_tryDrawn_95 (by decide) rfl ?_
    refine z_iconst h (v := (0 : Int32)) dX9_tryDrawn_96 (by decide) rfl ?_
    obtain ⟨v12, hv12, hf⟩ := bd_some hf
    refine z_callV h (np := 3) (st := []) (wr := []) [.int x1, .int (4 : Int32), .int (0 : Int32)] (ctX9_tryAct l G a0 a0_town a0_town_air a0_town_cell a0_town_hours a0_town_owes a0_town_holds a0_town_lies a0_town_goods a0_town_liking c0_acts c0_badAct c0_reason c0_losses c0_firstAct c0_firstLoser c0_town_hour c0_town_day c0_town_holds c0_town_lies c0_town_cell c0_town_air_cell c0_town_air_way c0_town_air_force c0_town_owes c0_town_goods c0_town_hours c0_town_liking x1 (4 : Int32) (0 : Int32) hv12) gX9_tryDrawn_X9_tryAct (by decide +kernel) 0 rfl rfl rfl ⟨Nat.le_of_ble_eq_true rfl, Nat.le_of_ble_eq_true rfl⟩ ⟨Nat.le_refl _, Nat.le_refl _⟩ rfl rfl rfl [0, 1, 2, 3, 4, 5, 6, 7, 8, 9] [] rfl rfl rfl rfl (by decide) (Nat.le_of_ble_eq_true rfl) dX9_tryDrawn_97 rfl rfl (fun rv12 wv12 hrv12 => ?_)
    obtain ⟨rfl, rfl⟩ := hrv12
    refine z_perm h (w2 := [(a0, .inr (9, [.ref a0_town, .int c0_acts, .int c0_badAct, .int c0_reason, .int v12.2.1, .int v12.2.2.1, .int v12.2.2.2.1])), (a0_town, .inr (8, [.ref a0_town_air, .ref a0_town_cell, .ref a0_town_hours, .ref a0_town_owes, .ref a0_town_holds, .ref a0_town_lies, .ref a0_town_goods, .ref a0_town_liking, .int v12.2.2.2.2.1, .int v12.2.2.2.2.2.1])), (a0_town_holds, .inl (G.2.1, 6, .inl v12.2.2.2.2.2.2.1)), (a0_town_lies, .inl (G.2.1, 6, .inl v12.2.2.2.2.2.2.2.1)), (a0_town_cell, .inl (G.2.1, 6, .inl v12.2.2.2.2.2.2.2.2.1)), (a0_town_air, .inr (10, [.int v12.2.2.2.2.2.2.2.2.2.1, .int v12.2.2.2.2.2.2.2.2.2.2.1, .int v12.2.2.2.2.2.2.2.2.2.2.2.1])), (a0_town_owes, .inl (G.2.1, 6, .inl v12.2.2.2.2.2.2.2.2.2.2.2.2.1)), (a0_town_goods, .inl (G.2.1, 18, .inl v12.2.2.2.2.2.2.2.2.2.2.2.2.2.1)), (a0_town_hours, .inl (G.2.1, 6, .inl v12.2.2.2.2.2.2.2.2.2.2.2.2.2.2)), (a0_town_liking, .inl (G.2.1, 3, .inl c0_town_liking))]) (st := [.int v12.1]) [0, 1, 2, 3, 4, 5, 6, 7, 8, 9] rfl rfl ?_
    refine z_pop h dX9_tryDrawn_100 rfl rfl ?_
    refine z_goto h (tgt := 164) dX9_tryDrawn_101 (by decide) ?_
    refine z_locs h (lv2 := []) [] rfl ?_
    exact hB164 v12.2.1 v12.2.2.1 v12.2.2.2.1 v12.2.2.2.2.1 v12.2.2.2.2.2.1 v12.2.2.2.2.2.2.1 v12.2.2.2.2.2.2.2.1 v12.2.2.2.2.2.2.2.2.1 v12.2.2.2.2.2.2.2.2.2.1 v12.2.2.2.2.2.2.2.2.2.2.1 v12.2.2.2.2.2.2.2.2.2.2.2.1 v12.2.2.2.2.2.2.2.2.2.2.2.2.1 v12.2.2.2.2.2.2.2.2.2.2.2.2.2.1 v12.2.2.2.2.2.2.2.2.2.2.2.2.2.2 hf
  have hf := ite_f hf c11
  by_cases c13 : x2 = (5 : Int32)
  · have hf := ite_t hf c13
    refine z_tableIn h (off := 103) (tgt := 104) dX9_tryDrawn_1 (5 : Int32) c13 (by decide) (by decide) (by decide) (by decide) ?_
    refine z_aload_n h dX9_tryDrawn_104 0 rfl rfl ?_
    refine z_iload_n h dX9_tryDrawn_105 1 rfl rfl ?_
    refine z_iload_n h dX9_tryDrawn_106 3 rfl rfl ?_
    refine z_bipush h (v := (6 : Int32)) dX9_tryDrawn_107 (by decide) rfl ?_
    refine z_idiv h dX9_tryDrawn_109 (by decide) rfl ?_
    refine z_iconst h (v := (2 : Int32)) dX9_tryDrawn_110 (by decide) rfl ?_
    refine z_irem h dX9_tryDrawn_111 (by decide) rfl ?_
    refine z_if_ne h (tgt := 119) dX9_tryDrawn_112 (by decide) rfl (fun c14 => ?_) (fun c14 => ?_)
    · have hf := ite_f hf c14
      refine z_bipush h (v := (6 : Int32)) dX9_tryDrawn_119 (by decide) rfl ?_
      refine z_locs h (lv2 := [(3, .int x3)]) [3] rfl ?_
      exact hB121 c0_losses c0_firstAct c0_firstLoser c0_town_hour c0_town_day c0_town_holds c0_town_lies c0_town_cell c0_town_air_cell c0_town_air_way c0_town_air_force c0_town_owes c0_town_goods c0_town_hours x1 (6 : Int32) hf
    have hf := ite_t hf c14
    refine z_iconst h (v := (5 : Int32)) dX9_tryDrawn_115 (by decide) rfl ?_
    refine z_goto h (tgt := 121) dX9_tryDrawn_116 (by decide) ?_
    refine z_locs h (lv2 := [(3, .int x3)]) [3] rfl ?_
    exact hB121 c0_losses c0_firstAct c0_firstLoser c0_town_hour c0_town_day c0_town_holds c0_town_lies c0_town_cell c0_town_air_cell c0_town_air_way c0_town_air_force c0_town_owes c0_town_goods c0_town_hours x1 (5 : Int32) hf
  have hf := ite_f hf c13
  by_cases c15 : x2 = (6 : Int32)
  · have hf := ite_t hf c15
    refine z_tableIn h (off := 131) (tgt := 132) dX9_tryDrawn_1 (6 : Int32) c15 (by decide) (by decide) (by decide) (by decide) ?_
    refine z_aload_n h dX9_tryDrawn_132 0 rfl rfl ?_
    refine z_iload_n h dX9_tryDrawn_133 1 rfl rfl ?_
    refine z_iload_n h dX9_tryDrawn_134 3 rfl rfl ?_
    refine z_iconst h (v := (4 : Int32)) dX9_tryDrawn_135 (by decide) rfl ?_
    refine z_irem h dX9_tryDrawn_136 (by decide) rfl ?_
    refine z_if_ne h (tgt := 145) dX9_tryDrawn_137 (by decide) rfl (fun c16 => ?_) (fun c16 => ?_)
    · have hf := ite_f hf c16
      refine z_bipush h (v := (8 : Int32)) dX9_tryDrawn_145 (by decide) rfl ?_
      refine z_locs h (lv2 := []) [] rfl ?_
      exact hB147 c0_losses c0_firstAct c0_firstLoser c0_town_hour c0_town_day c0_town_holds c0_town_lies c0_town_cell c0_town_air_cell c0_town_air_way c0_town_air_force c0_town_owes c0_town_goods c0_town_hours x1 (8 : Int32) hf
    have hf := ite_t hf c16
    refine z_bipush h (v := (7 : Int32)) dX9_tryDrawn_140 (by decide) rfl ?_
    refine z_goto h (tgt := 147) dX9_tryDrawn_142 (by decide) ?_
    refine z_locs h (lv2 := []) [] rfl ?_
    exact hB147 c0_losses c0_firstAct c0_firstLoser c0_town_hour c0_town_day c0_town_holds c0_town_lies c0_town_cell c0_town_air_cell c0_town_air_way c0_town_air_force c0_town_owes c0_town_goods c0_town_hours x1 (7 : Int32) hf
  have hf := ite_f hf c15
  refine z_tableOut h (tgt := 155) dX9_tryDrawn_1 (z_tout 7 (by decide) (by decide) (by decide) (fun j hj => match j, hj with
    | 0, _ => c3
    | 1, _ => c5
    | 2, _ => c7
    | 3, _ => c9
    | 4, _ => c11
    | 5, _ => c13
    | 6, _ => c15
    | j + 7, hj => absurd hj (by omega))) (by decide) ?_
  refine z_aload_n h dX9_tryDrawn_155 0 rfl rfl ?_
  refine z_iload_n h dX9_tryDrawn_156 1 rfl rfl ?_
  refine z_bipush h (v := (8 : Int32)) dX9_tryDrawn_157 (by decide) rfl ?_
  refine z_iconst h (v := (0 : Int32)) dX9_tryDrawn_159 (by decide) rfl ?_
  obtain ⟨v17, hv17, hf⟩ := bd_some hf
  refine z_callV h (np := 3) (st := []) (wr := []) [.int x1, .int (8 : Int32), .int (0 : Int32)] (ctX9_tryAct l G a0 a0_town a0_town_air a0_town_cell a0_town_hours a0_town_owes a0_town_holds a0_town_lies a0_town_goods a0_town_liking c0_acts c0_badAct c0_reason c0_losses c0_firstAct c0_firstLoser c0_town_hour c0_town_day c0_town_holds c0_town_lies c0_town_cell c0_town_air_cell c0_town_air_way c0_town_air_force c0_town_owes c0_town_goods c0_town_hours c0_town_liking x1 (8 : Int32) (0 : Int32) hv17) gX9_tryDrawn_X9_tryAct (by decide +kernel) 0 rfl rfl rfl ⟨Nat.le_of_ble_eq_true rfl, Nat.le_of_ble_eq_true rfl⟩ ⟨Nat.le_refl _, Nat.le_refl _⟩ rfl rfl rfl [0, 1, 2, 3, 4, 5, 6, 7, 8, 9] [] rfl rfl rfl rfl (by decide) (Nat.le_of_ble_eq_true rfl) dX9_tryDrawn_160 rfl rfl (fun rv17 wv17 hrv17 => ?_)
  obtain ⟨rfl, rfl⟩ := hrv17
  refine z_perm h (w2 := [(a0, .inr (9, [.ref a0_town, .int c0_acts, .int c0_badAct, .int c0_reason, .int v17.2.1, .int v17.2.2.1, .int v17.2.2.2.1])), (a0_town, .inr (8, [.ref a0_town_air, .ref a0_town_cell, .ref a0_town_hours, .ref a0_town_owes, .ref a0_town_holds, .ref a0_town_lies, .ref a0_town_goods, .ref a0_town_liking, .int v17.2.2.2.2.1, .int v17.2.2.2.2.2.1])), (a0_town_holds, .inl (G.2.1, 6, .inl v17.2.2.2.2.2.2.1)), (a0_town_lies, .inl (G.2.1, 6, .inl v17.2.2.2.2.2.2.2.1)), (a0_town_cell, .inl (G.2.1, 6, .inl v17.2.2.2.2.2.2.2.2.1)), (a0_town_air, .inr (10, [.int v17.2.2.2.2.2.2.2.2.2.1, .int v17.2.2.2.2.2.2.2.2.2.2.1, .int v17.2.2.2.2.2.2.2.2.2.2.2.1])), (a0_town_owes, .inl (G.2.1, 6, .inl v17.2.2.2.2.2.2.2.2.2.2.2.2.1)), (a0_town_goods, .inl (G.2.1, 18, .inl v17.2.2.2.2.2.2.2.2.2.2.2.2.2.1)), (a0_town_hours, .inl (G.2.1, 6, .inl v17.2.2.2.2.2.2.2.2.2.2.2.2.2.2)), (a0_town_liking, .inl (G.2.1, 3, .inl c0_town_liking))]) (st := [.int v17.1]) [0, 1, 2, 3, 4, 5, 6, 7, 8, 9] rfl rfl ?_
  refine z_pop h dX9_tryDrawn_163 rfl rfl ?_
  refine z_locs h (lv2 := []) [] rfl ?_
  exact hB164 v17.2.1 v17.2.2.1 v17.2.2.2.1 v17.2.2.2.2.1 v17.2.2.2.2.2.1 v17.2.2.2.2.2.2.1 v17.2.2.2.2.2.2.2.1 v17.2.2.2.2.2.2.2.2.1 v17.2.2.2.2.2.2.2.2.2.1 v17.2.2.2.2.2.2.2.2.2.2.1 v17.2.2.2.2.2.2.2.2.2.2.2.1 v17.2.2.2.2.2.2.2.2.2.2.2.2.1 v17.2.2.2.2.2.2.2.2.2.2.2.2.2.1 v17.2.2.2.2.2.2.2.2.2.2.2.2.2.2 hf
def fX9_draw_L11 (c3_hour : Int32) (c3_day : Int32) (c3_air_cell : Int32) (c3_air_way : Int32) (c3_air_force : Int32) (c3_cell : Nat → Int32) (c3_hours : Nat → Int32) (c3_owes : Nat → Int32) (c3_holds : Nat → Int32) (c3_lies : Nat → Int32) (c3_goods : Nat → Int32) (c3_liking : Nat → Int32) (x1 : Int32) (x2 : Int32)  : Nat → Int32 → Int32 → Int32 → Int32 → Int32 → Int32 → Int32 → Int32 → Int32 → Int32 → Int32 → (Nat → Int32) → (Nat → Int32) → (Nat → Int32) → (Nat → Int32) → (Nat → Int32) → (Nat → Int32) → (Nat → Int32) → Int32 → Int32 → Option (Int32 × Int32 × Int32 × Int32 × Int32 × Int32 × Int32 × Int32 × Int32 × Int32 × Int32 × (Nat → Int32) × (Nat → Int32) × (Nat → Int32) × (Nat → Int32) × (Nat → Int32) × (Nat → Int32) × (Nat → Int32))
  | 0, _, _, _, _, _, _, _, _, _, _, _, _, _, _, _, _, _, _, _, _ => none
  | n + 1, c0_acts, c0_badAct, c0_reason, c0_losses, c0_firstAct, c0_firstLoser, c0_town_hour, c0_town_day, c0_town_air_cell, c0_town_air_way, c0_town_air_force, c0_town_cell, c0_town_hours, c0_town_owes, c0_town_holds, c0_town_lies, c0_town_goods, c0_town_liking, x4, x5 => (if x2 ≤ x5 then (some (c0_acts, c0_badAct, c0_reason, c0_losses, c0_firstAct, c0_firstLoser, c0_town_hour, c0_town_day, c0_town_air_cell, c0_town_air_way, c0_town_air_force, c0_town_cell, c0_town_hours, c0_town_owes, c0_town_holds, c0_town_lies, c0_town_goods, c0_town_liking)) else Option.bind (fX9_tryDrawn c0_acts c0_losses c0_firstAct c0_firstLoser c0_town_hour c0_town_day c0_town_holds c0_town_lies c0_town_cell c0_town_air_cell c0_town_air_way c0_town_air_force c0_town_owes c0_town_goods c0_town_hours c0_town_liking (irm (irm (((75 : Int32) * x4) + (74 : Int32)) (65537 : Int32)) (6 : Int32)) (irm ((irm (((75 : Int32) * x4) + (74 : Int32)) (65537 : Int32)) / (6 : Int32)) (8 : Int32)) ((irm (((75 : Int32) * x4) + (74 : Int32)) (65537 : Int32)) / (48 : Int32))) (fun v2 => ((fX9_draw_L11 c3_hour c3_day c3_air_cell c3_air_way c3_air_force c3_cell c3_hours c3_owes c3_holds c3_lies c3_goods c3_liking x1 x2  n) c0_acts c0_badAct c0_reason v2.1 v2.2.1 v2.2.2.1 v2.2.2.2.1 v2.2.2.2.2.1 v2.2.2.2.2.2.2.2.2.1 v2.2.2.2.2.2.2.2.2.2.1 v2.2.2.2.2.2.2.2.2.2.2.1 v2.2.2.2.2.2.2.2.1 v2.2.2.2.2.2.2.2.2.2.2.2.2.2 v2.2.2.2.2.2.2.2.2.2.2.2.1 v2.2.2.2.2.2.1 v2.2.2.2.2.2.2.1 v2.2.2.2.2.2.2.2.2.2.2.2.2.1 c0_town_liking (irm (((75 : Int32) * x4) + (74 : Int32)) (65537 : Int32)) (x5 + (1 : Int32)))))
def fX9_draw (c0_acts : Int32) (c0_badAct : Int32) (c0_reason : Int32) (c0_losses : Int32) (c0_firstAct : Int32) (c0_firstLoser : Int32) (c0_town_hour : Int32) (c0_town_day : Int32) (c3_hour : Int32) (c3_day : Int32) (c0_town_air_cell : Int32) (c0_town_air_way : Int32) (c0_town_air_force : Int32) (c3_air_cell : Int32) (c3_air_way : Int32) (c3_air_force : Int32) (c3_cell : Nat → Int32) (c0_town_cell : Nat → Int32) (c3_hours : Nat → Int32) (c0_town_hours : Nat → Int32) (c3_owes : Nat → Int32) (c0_town_owes : Nat → Int32) (c3_holds : Nat → Int32) (c0_town_holds : Nat → Int32) (c3_lies : Nat → Int32) (c0_town_lies : Nat → Int32) (c3_goods : Nat → Int32) (c0_town_goods : Nat → Int32) (c3_liking : Nat → Int32) (c0_town_liking : Nat → Int32) (x1 : Int32) (x2 : Int32) : Option (Int32 × Int32 × Int32 × Int32 × Int32 × Int32 × Int32 × Int32 × Int32 × Int32 × Int32 × (Nat → Int32) × (Nat → Int32) × (Nat → Int32) × (Nat → Int32) × (Nat → Int32) × (Nat → Int32) × (Nat → Int32)) := Option.bind (fX9_begin c0_acts c0_badAct c0_reason c0_losses c0_firstAct c0_firstLoser c0_town_hour c0_town_day c3_hour c3_day c0_town_air_cell c0_town_air_way c0_town_air_force c3_air_cell c3_air_way c3_air_force c3_cell c0_town_cell c3_hours c0_town_hours c3_owes c0_town_owes c3_holds c0_town_holds c3_lies c0_town_lies c3_goods c0_town_goods c3_liking c0_town_liking) (fun v3 => (fX9_draw_L11 c3_hour c3_day c3_air_cell c3_air_way c3_air_force c3_cell c3_hours c3_owes c3_holds c3_lies c3_goods c3_liking x1 x2  zF v3.1 v3.2.1 v3.2.2.1 v3.2.2.2.1 v3.2.2.2.2.1 v3.2.2.2.2.2.1 v3.2.2.2.2.2.2.1 v3.2.2.2.2.2.2.2.1 v3.2.2.2.2.2.2.2.2.1 v3.2.2.2.2.2.2.2.2.2.1 v3.2.2.2.2.2.2.2.2.2.2.1 v3.2.2.2.2.2.2.2.2.2.2.2.1 v3.2.2.2.2.2.2.2.2.2.2.2.2.1 v3.2.2.2.2.2.2.2.2.2.2.2.2.2.1 v3.2.2.2.2.2.2.2.2.2.2.2.2.2.2.1 v3.2.2.2.2.2.2.2.2.2.2.2.2.2.2.2.1 v3.2.2.2.2.2.2.2.2.2.2.2.2.2.2.2.2.1 v3.2.2.2.2.2.2.2.2.2.2.2.2.2.2.2.2.2 x1 (0 : Int32)))
abbrev rmX9_draw : Room := { frames := 6, cells := 0, slots := 0, locals := 133 }
set_option maxRecDepth 100000 in
set_option maxHeartbeats 4000000 in
theorem ctX9_draw (l : Launch) (G : zG) (a0 a0_town a0_town_air a0_town_cell a0_town_hours a0_town_owes a0_town_holds a0_town_lies a0_town_goods a0_town_liking a3 a3_air a3_cell a3_hours a3_owes a3_holds a3_lies a3_goods a3_liking : Nat) (c0_acts : Int32) (c0_badAct : Int32) (c0_reason : Int32) (c0_losses : Int32) (c0_firstAct : Int32) (c0_firstLoser : Int32) (c0_town_hour : Int32) (c0_town_day : Int32) (c3_hour : Int32) (c3_day : Int32) (c0_town_air_cell : Int32) (c0_town_air_way : Int32) (c0_town_air_force : Int32) (c3_air_cell : Int32) (c3_air_way : Int32) (c3_air_force : Int32) (c3_cell : Nat → Int32) (c0_town_cell : Nat → Int32) (c3_hours : Nat → Int32) (c0_town_hours : Nat → Int32) (c3_owes : Nat → Int32) (c0_town_owes : Nat → Int32) (c3_holds : Nat → Int32) (c0_town_holds : Nat → Int32) (c3_lies : Nat → Int32) (c0_town_lies : Nat → Int32) (c3_goods : Nat → Int32) (c0_town_goods : Nat → Int32) (c3_liking : Nat → Int32) (c0_town_liking : Nat → Int32) (x1 : Int32) (x2 : Int32) {R : Int32 × Int32 × Int32 × Int32 × Int32 × Int32 × Int32 × Int32 × Int32 × Int32 × Int32 × (Nat → Int32) × (Nat → Int32) × (Nat → Int32) × (Nat → Int32) × (Nat → Int32) × (Nat → Int32) × (Nat → Int32)} (hf : fX9_draw c0_acts c0_badAct c0_reason c0_losses c0_firstAct c0_firstLoser c0_town_hour c0_town_day c3_hour c3_day c0_town_air_cell c0_town_air_way c0_town_air_force c3_air_cell c3_air_way c3_air_force c3_cell c0_town_cell c3_hours c0_town_hours c3_owes c0_town_owes c3_holds c0_town_holds c3_lies c0_town_lies c3_goods c0_town_goods c3_liking c0_town_liking x1 x2 = some R) : zCt l yX9_draw wsX9_draw rmX9_draw G [(a0, .inr (9, [.ref a0_town, .int c0_acts, .int c0_badAct, .int c0_reason, .int c0_losses, .int c0_firstAct, .int c0_firstLoser])), (a0_town, .inr (8, [.ref a0_town_air, .ref a0_town_cell, .ref a0_town_hours, .ref a0_town_owes, .ref a0_town_holds, .ref a0_town_lies, .ref a0_town_goods, .ref a0_town_liking, .int c0_town_hour, .int c0_town_day])), (a3, .inr (8, [.ref a3_air, .ref a3_cell, .ref a3_hours, .ref a3_owes, .ref a3_holds, .ref a3_lies, .ref a3_goods, .ref a3_liking, .int c3_hour, .int c3_day])), (a0_town_air, .inr (10, [.int c0_town_air_cell, .int c0_town_air_way, .int c0_town_air_force])), (a3_air, .inr (10, [.int c3_air_cell, .int c3_air_way, .int c3_air_force])), (a3_cell, .inl (G.2.1, 6, .inl c3_cell)), (a0_town_cell, .inl (G.2.1, 6, .inl c0_town_cell)), (a3_hours, .inl (G.2.1, 6, .inl c3_hours)), (a0_town_hours, .inl (G.2.1, 6, .inl c0_town_hours)), (a3_owes, .inl (G.2.1, 6, .inl c3_owes)), (a0_town_owes, .inl (G.2.1, 6, .inl c0_town_owes)), (a3_holds, .inl (G.2.1, 6, .inl c3_holds)), (a0_town_holds, .inl (G.2.1, 6, .inl c0_town_holds)), (a3_lies, .inl (G.2.1, 6, .inl c3_lies)), (a0_town_lies, .inl (G.2.1, 6, .inl c0_town_lies)), (a3_goods, .inl (G.2.1, 18, .inl c3_goods)), (a0_town_goods, .inl (G.2.1, 18, .inl c0_town_goods)), (a3_liking, .inl (G.2.1, 3, .inl c3_liking)), (a0_town_liking, .inl (G.2.1, 3, .inl c0_town_liking))] [.ref a0, .int x1, .int x2, .ref a3] (fun v w => v = none ∧ w = [(a0, .inr (9, [.ref a0_town, .int (R.1), .int (R.2.1), .int (R.2.2.1), .int (R.2.2.2.1), .int (R.2.2.2.2.1), .int (R.2.2.2.2.2.1)])), (a0_town, .inr (8, [.ref a0_town_air, .ref a0_town_cell, .ref a0_town_hours, .ref a0_town_owes, .ref a0_town_holds, .ref a0_town_lies, .ref a0_town_goods, .ref a0_town_liking, .int (R.2.2.2.2.2.2.1), .int (R.2.2.2.2.2.2.2.1)])), (a3, .inr (8, [.ref a3_air, .ref a3_cell, .ref a3_hours, .ref a3_owes, .ref a3_holds, .ref a3_lies, .ref a3_goods, .ref a3_liking, .int c3_hour, .int c3_day])), (a0_town_air, .inr (10, [.int (R.2.2.2.2.2.2.2.2.1), .int (R.2.2.2.2.2.2.2.2.2.1), .int (R.2.2.2.2.2.2.2.2.2.2.1)])), (a3_air, .inr (10, [.int c3_air_cell, .int c3_air_way, .int c3_air_force])), (a3_cell, .inl (G.2.1, 6, .inl c3_cell)), (a0_town_cell, .inl (G.2.1, 6, .inl (R.2.2.2.2.2.2.2.2.2.2.2.1))), (a3_hours, .inl (G.2.1, 6, .inl c3_hours)), (a0_town_hours, .inl (G.2.1, 6, .inl (R.2.2.2.2.2.2.2.2.2.2.2.2.1))), (a3_owes, .inl (G.2.1, 6, .inl c3_owes)), (a0_town_owes, .inl (G.2.1, 6, .inl (R.2.2.2.2.2.2.2.2.2.2.2.2.2.1))), (a3_holds, .inl (G.2.1, 6, .inl c3_holds)), (a0_town_holds, .inl (G.2.1, 6, .inl (R.2.2.2.2.2.2.2.2.2.2.2.2.2.2.1))), (a3_lies, .inl (G.2.1, 6, .inl c3_lies)), (a0_town_lies, .inl (G.2.1, 6, .inl (R.2.2.2.2.2.2.2.2.2.2.2.2.2.2.2.1))), (a3_goods, .inl (G.2.1, 18, .inl c3_goods)), (a0_town_goods, .inl (G.2.1, 18, .inl (R.2.2.2.2.2.2.2.2.2.2.2.2.2.2.2.2.1))), (a3_liking, .inl (G.2.1, 3, .inl c3_liking)), (a0_town_liking, .inl (G.2.1, 3, .inl (R.2.2.2.2.2.2.2.2.2.2.2.2.2.2.2.2.2)))]) := by
  refine zMkV (own := RX9) false (by decide) (by decide +kernel) rfl rfl (Nat.le_of_ble_eq_true rfl) ?_
  intro Z h hret
  have hL11 : ∀ (n11 : Nat) (c0_acts : Int32) (c0_badAct : Int32) (c0_reason : Int32) (c0_losses : Int32) (c0_firstAct : Int32) (c0_firstLoser : Int32) (c0_town_hour : Int32) (c0_town_day : Int32) (c0_town_air_cell : Int32) (c0_town_air_way : Int32) (c0_town_air_force : Int32) (c0_town_cell : Nat → Int32) (c0_town_hours : Nat → Int32) (c0_town_owes : Nat → Int32) (c0_town_holds : Nat → Int32) (c0_town_lies : Nat → Int32) (c0_town_goods : Nat → Int32) (c0_town_liking : Nat → Int32) (x4 : Int32) (x5 : Int32), fX9_draw_L11 c3_hour c3_day c3_air_cell c3_air_way c3_air_force c3_cell c3_hours c3_owes c3_holds c3_lies c3_goods c3_liking x1 x2  n11 c0_acts c0_badAct c0_reason c0_losses c0_firstAct c0_firstLoser c0_town_hour c0_town_day c0_town_air_cell c0_town_air_way c0_town_air_force c0_town_cell c0_town_hours c0_town_owes c0_town_holds c0_town_lies c0_town_goods c0_town_liking x4 x5 = some R → Z 0 0 [(a0, .inr (9, [.ref a0_town, .int c0_acts, .int c0_badAct, .int c0_reason, .int c0_losses, .int c0_firstAct, .int c0_firstLoser])), (a0_town, .inr (8, [.ref a0_town_air, .ref a0_town_cell, .ref a0_town_hours, .ref a0_town_owes, .ref a0_town_holds, .ref a0_town_lies, .ref a0_town_goods, .ref a0_town_liking, .int c0_town_hour, .int c0_town_day])), (a3, .inr (8, [.ref a3_air, .ref a3_cell, .ref a3_hours, .ref a3_owes, .ref a3_holds, .ref a3_lies, .ref a3_goods, .ref a3_liking, .int c3_hour, .int c3_day])), (a0_town_air, .inr (10, [.int c0_town_air_cell, .int c0_town_air_way, .int c0_town_air_force])), (a3_air, .inr (10, [.int c3_air_cell, .int c3_air_way, .int c3_air_force])), (a3_cell, .inl (G.2.1, 6, .inl c3_cell)), (a0_town_cell, .inl (G.2.1, 6, .inl c0_town_cell)), (a3_hours, .inl (G.2.1, 6, .inl c3_hours)), (a0_town_hours, .inl (G.2.1, 6, .inl c0_town_hours)), (a3_owes, .inl (G.2.1, 6, .inl c3_owes)), (a0_town_owes, .inl (G.2.1, 6, .inl c0_town_owes)), (a3_holds, .inl (G.2.1, 6, .inl c3_holds)), (a0_town_holds, .inl (G.2.1, 6, .inl c0_town_holds)), (a3_lies, .inl (G.2.1, 6, .inl c3_lies)), (a0_town_lies, .inl (G.2.1, 6, .inl c0_town_lies)), (a3_goods, .inl (G.2.1, 18, .inl c3_goods)), (a0_town_goods, .inl (G.2.1, 18, .inl c0_town_goods)), (a3_liking, .inl (G.2.1, 3, .inl c3_liking)), (a0_town_liking, .inl (G.2.1, 3, .inl c0_town_liking))] [(0, .ref a0), (2, .int x2), (4, .int x4), (5, .int x5)] 11 [] := by
    intro n11
    induction n11 with
    | zero =>
      intro c0_acts c0_badAct c0_reason c0_losses c0_firstAct c0_firstLoser c0_town_hour c0_town_day c0_town_air_cell c0_town_air_way c0_town_air_force c0_town_cell c0_town_hours c0_town_owes c0_town_holds c0_town_lies c0_town_goods c0_town_liking x4 x5 hf
      rw [fX9_draw_L11] at hf
      cases hf
    | succ n11 ih11 =>
      intro c0_acts c0_badAct c0_reason c0_losses c0_firstAct c0_firstLoser c0_town_hour c0_town_day c0_town_air_cell c0_town_air_way c0_town_air_force c0_town_cell c0_town_hours c0_town_owes c0_town_holds c0_town_lies c0_town_goods c0_town_liking x4 x5 hf
      rw [fX9_draw_L11] at hf
      refine z_iload h dX9_draw_11 3 rfl rfl ?_
      refine z_iload_n h dX9_draw_13 1 rfl rfl ?_
      refine z_icmp_ge h (tgt := 58) dX9_draw_14 (by decide) rfl (fun c1 => ?_) (fun c1 => ?_)
      · have hf := ite_t hf c1
        have hf := Option.some.inj hf
        subst hf
        exact hret _ _ _ dX9_draw_58 ⟨rfl, rfl⟩
      have hf := ite_f hf c1
      refine z_bipush h (v := (75 : Int32)) dX9_draw_17 (by decide) rfl ?_
      refine z_iload h dX9_draw_19 2 rfl rfl ?_
      refine z_imul h dX9_draw_21 rfl ?_
      refine z_bipush h (v := (74 : Int32)) dX9_draw_22 (by decide) rfl ?_
      refine z_iadd h dX9_draw_24 rfl ?_
      refine z_ldc h (v := (65537 : Int32)) dX9_draw_25 (by decide +kernel) rfl ?_
      refine z_irem h dX9_draw_27 (by decide) rfl ?_
      refine z_istore h (lv2 := [(4, .int (irm (((75 : Int32) * x4) + (74 : Int32)) (65537 : Int32))), (0, .ref a0), (2, .int x2), (5, .int x5)]) dX9_draw_28 (by decide) rfl rfl ?_
      refine z_aload_n h dX9_draw_30 1 rfl rfl ?_
      refine z_iload h dX9_draw_31 0 rfl rfl ?_
      refine z_bipush h (v := (6 : Int32)) dX9_draw_33 (by decide) rfl ?_
      refine z_irem h dX9_draw_35 (by decide) rfl ?_
      refine z_iload h dX9_draw_36 0 rfl rfl ?_
      refine z_bipush h (v := (6 : Int32)) dX9_draw_38 (by decide) rfl ?_
      refine z_idiv h dX9_draw_40 (by decide) rfl ?_
      refine z_bipush h (v := (8 : Int32)) dX9_draw_41 (by decide) rfl ?_
      refine z_irem h dX9_draw_43 (by decide) rfl ?_
      refine z_iload h dX9_draw_44 0 rfl rfl ?_
      refine z_bipush h (v := (48 : Int32)) dX9_draw_46 (by decide) rfl ?_
      refine z_idiv h dX9_draw_48 (by decide) rfl ?_
      obtain ⟨v2, hv2, hf⟩ := bd_some hf
      refine z_callV h (np := 3) (st := []) (wr := [(a3, .inr (8, [.ref a3_air, .ref a3_cell, .ref a3_hours, .ref a3_owes, .ref a3_holds, .ref a3_lies, .ref a3_goods, .ref a3_liking, .int c3_hour, .int c3_day])), (a3_air, .inr (10, [.int c3_air_cell, .int c3_air_way, .int c3_air_force])), (a3_cell, .inl (G.2.1, 6, .inl c3_cell)), (a3_hours, .inl (G.2.1, 6, .inl c3_hours)), (a3_owes, .inl (G.2.1, 6, .inl c3_owes)), (a3_holds, .inl (G.2.1, 6, .inl c3_holds)), (a3_lies, .inl (G.2.1, 6, .inl c3_lies)), (a3_goods, .inl (G.2.1, 18, .inl c3_goods)), (a3_liking, .inl (G.2.1, 3, .inl c3_liking))]) [.int (irm (irm (((75 : Int32) * x4) + (74 : Int32)) (65537 : Int32)) (6 : Int32)), .int (irm ((irm (((75 : Int32) * x4) + (74 : Int32)) (65537 : Int32)) / (6 : Int32)) (8 : Int32)), .int ((irm (((75 : Int32) * x4) + (74 : Int32)) (65537 : Int32)) / (48 : Int32))] (ctX9_tryDrawn l G a0 a0_town a0_town_air a0_town_cell a0_town_hours a0_town_owes a0_town_holds a0_town_lies a0_town_goods a0_town_liking c0_acts c0_badAct c0_reason c0_losses c0_firstAct c0_firstLoser c0_town_hour c0_town_day c0_town_holds c0_town_lies c0_town_cell c0_town_air_cell c0_town_air_way c0_town_air_force c0_town_owes c0_town_goods c0_town_hours c0_town_liking (irm (irm (((75 : Int32) * x4) + (74 : Int32)) (65537 : Int32)) (6 : Int32)) (irm ((irm (((75 : Int32) * x4) + (74 : Int32)) (65537 : Int32)) / (6 : Int32)) (8 : Int32)) ((irm (((75 : Int32) * x4) + (74 : Int32)) (65537 : Int32)) / (48 : Int32)) hv2) gX9_draw_X9_tryDrawn (by decide +kernel) 0 rfl rfl rfl ⟨Nat.le_of_ble_eq_true rfl, Nat.le_of_ble_eq_true rfl⟩ ⟨Nat.le_refl _, Nat.le_refl _⟩ rfl rfl rfl [0, 1, 12, 14, 6, 3, 10, 16, 8, 18] [2, 4, 5, 7, 9, 11, 13, 15, 17] rfl rfl rfl rfl (by decide) (Nat.le_of_ble_eq_true rfl) dX9_draw_49 rfl rfl (fun rv2 wv2 hrv2 => ?_)
      obtain ⟨rfl, rfl⟩ := hrv2
      refine z_perm h (w2 := [(a0, .inr (9, [.ref a0_town, .int c0_acts, .int c0_badAct, .int c0_reason, .int v2.1, .int v2.2.1, .int v2.2.2.1])), (a0_town, .inr (8, [.ref a0_town_air, .ref a0_town_cell, .ref a0_town_hours, .ref a0_town_owes, .ref a0_town_holds, .ref a0_town_lies, .ref a0_town_goods, .ref a0_town_liking, .int v2.2.2.2.1, .int v2.2.2.2.2.1])), (a3, .inr (8, [.ref a3_air, .ref a3_cell, .ref a3_hours, .ref a3_owes, .ref a3_holds, .ref a3_lies, .ref a3_goods, .ref a3_liking, .int c3_hour, .int c3_day])), (a0_town_air, .inr (10, [.int v2.2.2.2.2.2.2.2.2.1, .int v2.2.2.2.2.2.2.2.2.2.1, .int v2.2.2.2.2.2.2.2.2.2.2.1])), (a3_air, .inr (10, [.int c3_air_cell, .int c3_air_way, .int c3_air_force])), (a3_cell, .inl (G.2.1, 6, .inl c3_cell)), (a0_town_cell, .inl (G.2.1, 6, .inl v2.2.2.2.2.2.2.2.1)), (a3_hours, .inl (G.2.1, 6, .inl c3_hours)), (a0_town_hours, .inl (G.2.1, 6, .inl v2.2.2.2.2.2.2.2.2.2.2.2.2.2)), (a3_owes, .inl (G.2.1, 6, .inl c3_owes)), (a0_town_owes, .inl (G.2.1, 6, .inl v2.2.2.2.2.2.2.2.2.2.2.2.1)), (a3_holds, .inl (G.2.1, 6, .inl c3_holds)), (a0_town_holds, .inl (G.2.1, 6, .inl v2.2.2.2.2.2.1)), (a3_lies, .inl (G.2.1, 6, .inl c3_lies)), (a0_town_lies, .inl (G.2.1, 6, .inl v2.2.2.2.2.2.2.1)), (a3_goods, .inl (G.2.1, 18, .inl c3_goods)), (a0_town_goods, .inl (G.2.1, 18, .inl v2.2.2.2.2.2.2.2.2.2.2.2.2.1)), (a3_liking, .inl (G.2.1, 3, .inl c3_liking)), (a0_town_liking, .inl (G.2.1, 3, .inl c0_town_liking))]) (st := []) [9, 10, 0, 14, 1, 2, 13, 3, 17, 4, 15, 5, 11, 6, 12, 7, 16, 8, 18] rfl rfl ?_
      refine z_iinc h (v := (x5 + (1 : Int32))) (lv2 := [(5, .int (x5 + (1 : Int32))), (4, .int (irm (((75 : Int32) * x4) + (74 : Int32)) (65537 : Int32))), (0, .ref a0), (2, .int x2)]) (j := 3) dX9_draw_52 rfl rfl (by decide) rfl rfl ?_
      refine z_goto h (tgt := 11) dX9_draw_55 (by decide) ?_
      refine z_locs h (lv2 := [(0, .ref a0), (2, .int x2), (4, .int (irm (((75 : Int32) * x4) + (74 : Int32)) (65537 : Int32))), (5, .int (x5 + (1 : Int32)))]) [2, 3, 1, 0] rfl ?_
      exact ih11 c0_acts c0_badAct c0_reason v2.1 v2.2.1 v2.2.2.1 v2.2.2.2.1 v2.2.2.2.2.1 v2.2.2.2.2.2.2.2.2.1 v2.2.2.2.2.2.2.2.2.2.1 v2.2.2.2.2.2.2.2.2.2.2.1 v2.2.2.2.2.2.2.2.1 v2.2.2.2.2.2.2.2.2.2.2.2.2.2 v2.2.2.2.2.2.2.2.2.2.2.2.1 v2.2.2.2.2.2.1 v2.2.2.2.2.2.2.1 v2.2.2.2.2.2.2.2.2.2.2.2.2.1 c0_town_liking (irm (((75 : Int32) * x4) + (74 : Int32)) (65537 : Int32)) (x5 + (1 : Int32)) hf
  rw [fX9_draw] at hf
  show Z 0 0 _ [(0, .ref a0), (1, .int x1), (2, .int x2), (3, .ref a3)] 0 []
  refine z_aload_n h dX9_draw_0 0 rfl rfl ?_
  refine z_aload_n h dX9_draw_1 3 rfl rfl ?_
  obtain ⟨v3, hv3, hf⟩ := bd_some hf
  refine z_callV h (np := 1) (st := []) (wr := []) [.ref a3] (ctX9_begin l G a0 a0_town a0_town_air a0_town_cell a0_town_hours a0_town_owes a0_town_holds a0_town_lies a0_town_goods a0_town_liking a3 a3_air a3_cell a3_hours a3_owes a3_holds a3_lies a3_goods a3_liking c0_acts c0_badAct c0_reason c0_losses c0_firstAct c0_firstLoser c0_town_hour c0_town_day c3_hour c3_day c0_town_air_cell c0_town_air_way c0_town_air_force c3_air_cell c3_air_way c3_air_force c3_cell c0_town_cell c3_hours c0_town_hours c3_owes c0_town_owes c3_holds c0_town_holds c3_lies c0_town_lies c3_goods c0_town_goods c3_liking c0_town_liking hv3) gX9_draw_X9_begin (by decide +kernel) 0 rfl rfl rfl ⟨Nat.le_of_ble_eq_true rfl, Nat.le_of_ble_eq_true rfl⟩ ⟨Nat.le_refl _, Nat.le_refl _⟩ rfl rfl rfl [0, 1, 2, 3, 4, 5, 6, 7, 8, 9, 10, 11, 12, 13, 14, 15, 16, 17, 18] [] rfl rfl rfl rfl (by decide) (Nat.le_of_ble_eq_true rfl) dX9_draw_2 rfl rfl (fun rv3 wv3 hrv3 => ?_)
  obtain ⟨rfl, rfl⟩ := hrv3
  refine z_perm h (w2 := [(a0, .inr (9, [.ref a0_town, .int v3.1, .int v3.2.1, .int v3.2.2.1, .int v3.2.2.2.1, .int v3.2.2.2.2.1, .int v3.2.2.2.2.2.1])), (a0_town, .inr (8, [.ref a0_town_air, .ref a0_town_cell, .ref a0_town_hours, .ref a0_town_owes, .ref a0_town_holds, .ref a0_town_lies, .ref a0_town_goods, .ref a0_town_liking, .int v3.2.2.2.2.2.2.1, .int v3.2.2.2.2.2.2.2.1])), (a3, .inr (8, [.ref a3_air, .ref a3_cell, .ref a3_hours, .ref a3_owes, .ref a3_holds, .ref a3_lies, .ref a3_goods, .ref a3_liking, .int c3_hour, .int c3_day])), (a0_town_air, .inr (10, [.int v3.2.2.2.2.2.2.2.2.1, .int v3.2.2.2.2.2.2.2.2.2.1, .int v3.2.2.2.2.2.2.2.2.2.2.1])), (a3_air, .inr (10, [.int c3_air_cell, .int c3_air_way, .int c3_air_force])), (a3_cell, .inl (G.2.1, 6, .inl c3_cell)), (a0_town_cell, .inl (G.2.1, 6, .inl v3.2.2.2.2.2.2.2.2.2.2.2.1)), (a3_hours, .inl (G.2.1, 6, .inl c3_hours)), (a0_town_hours, .inl (G.2.1, 6, .inl v3.2.2.2.2.2.2.2.2.2.2.2.2.1)), (a3_owes, .inl (G.2.1, 6, .inl c3_owes)), (a0_town_owes, .inl (G.2.1, 6, .inl v3.2.2.2.2.2.2.2.2.2.2.2.2.2.1)), (a3_holds, .inl (G.2.1, 6, .inl c3_holds)), (a0_town_holds, .inl (G.2.1, 6, .inl v3.2.2.2.2.2.2.2.2.2.2.2.2.2.2.1)), (a3_lies, .inl (G.2.1, 6, .inl c3_lies)), (a0_town_lies, .inl (G.2.1, 6, .inl v3.2.2.2.2.2.2.2.2.2.2.2.2.2.2.2.1)), (a3_goods, .inl (G.2.1, 18, .inl c3_goods)), (a0_town_goods, .inl (G.2.1, 18, .inl v3.2.2.2.2.2.2.2.2.2.2.2.2.2.2.2.2.1)), (a3_liking, .inl (G.2.1, 3, .inl c3_liking)), (a0_town_liking, .inl (G.2.1, 3, .inl v3.2.2.2.2.2.2.2.2.2.2.2.2.2.2.2.2.2))]) (st := []) [0, 1, 2, 3, 4, 5, 6, 7, 8, 9, 10, 11, 12, 13, 14, 15, 16, 17, 18] rfl rfl ?_
  refine z_iload_n h dX9_draw_5 1 rfl rfl ?_
  refine z_istore h (lv2 := [(4, .int x1), (0, .ref a0), (1, .int x1), (2, .int x2), (3, .ref a3)]) dX9_draw_6 (by decide) rfl rfl ?_
  refine z_iconst h (v := (0 : Int32)) dX9_draw_8 (by decide) rfl ?_
  refine z_istore h (lv2 := [(5, .int (0 : Int32)), (4, .int x1), (0, .ref a0), (1, .int x1), (2, .int x2), (3, .ref a3)]) dX9_draw_9 (by decide) rfl rfl ?_
  refine z_locs h (lv2 := [(0, .ref a0), (2, .int x2), (4, .int x1), (5, .int (0 : Int32))]) [2, 4, 1, 0] rfl ?_
  exact hL11 zF v3.1 v3.2.1 v3.2.2.1 v3.2.2.2.1 v3.2.2.2.2.1 v3.2.2.2.2.2.1 v3.2.2.2.2.2.2.1 v3.2.2.2.2.2.2.2.1 v3.2.2.2.2.2.2.2.2.1 v3.2.2.2.2.2.2.2.2.2.1 v3.2.2.2.2.2.2.2.2.2.2.1 v3.2.2.2.2.2.2.2.2.2.2.2.1 v3.2.2.2.2.2.2.2.2.2.2.2.2.1 v3.2.2.2.2.2.2.2.2.2.2.2.2.2.1 v3.2.2.2.2.2.2.2.2.2.2.2.2.2.2.1 v3.2.2.2.2.2.2.2.2.2.2.2.2.2.2.2.1 v3.2.2.2.2.2.2.2.2.2.2.2.2.2.2.2.2.1 v3.2.2.2.2.2.2.2.2.2.2.2.2.2.2.2.2.2 x1 (0 : Int32) hf
