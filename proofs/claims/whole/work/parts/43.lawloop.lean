theorem lp_sub {L : Nat} (h : 6 ≤ L) : Int32.ofNat L - 6 = nI (L - 6) := by
  have e : nI (L - 6) + nI 6 = nI L := by rw [nI_add]; congr 1; omega
  show nI L - nI 6 = _
  rw [← e, Int32.add_sub_cancel]
theorem lp_lo : ∀ L : Nat, L < 6 → Int32.ofNat L - 6 < nI (6 * 0) := by decide +kernel
/-- the loop goes on just where six ints are left -/
theorem lp_if {L j : Nat} (hL : L ≤ 3072) (hj : 6 * j ≤ L) : (Int32.ofNat L - 6 < nI (6 * j)) ↔ ¬ 6 * j + 6 ≤ L := by
  by_cases h : 6 ≤ L
  · rw [lp_sub h, nI_ltI (by omega) (by omega)]
    omega
  · have e : j = 0 := by omega
    subst e
    exact ⟨fun _ => by omega, fun _ => lp_lo L (by omega)⟩
set_option maxRecDepth 20000 in
set_option maxHeartbeats 4000000 in
theorem law_case {l : Launch} {G : zG} {sb L : Nat} {xs : Nat → Int32} {Z : zT} (hW : zW l G sb L xs Z) (hL : L ≤ 3072) {j : Nat} (h6 : 6 * j + 6 ≤ L) {k n : Nat} (hk : k + 12 ≤ room_1.cells) (hn : n + 81 ≤ room_1.slots) {a b : Nat → Nat} {w : va_W} (hI : LInv G a b w) (KK : ∀ w2, LInv G a b w2 → Z (k + 12) (n + 81) w2 (lvL sb (a 0) (b 0) (nI (6 * j))) 950 []) {c : Nat} (hc : c < 25) {x : Int32} (hcx : x = Int32.ofInt (0 + (c : Int))) : Z k n w (lvL sb (a 0) (b 0) (nI (6 * j))) 33 [.int x] := by
  match c, hc, hcx with
  | 0, _, hcx => exact z_tableIn (tgt := 148) (off := 115) hW.1 dL_law_33 0 hcx (by decide) (by decide) (by decide) rfl (cs_walker hW hL h6 hk hn hI KK)
  | 1, _, hcx => exact z_tableIn (tgt := 201) (off := 168) hW.1 dL_law_33 1 hcx (by decide) (by decide) (by decide) rfl (cs_purse hW hL h6 hk hn hI KK)
  | 2, _, hcx => exact z_tableIn (tgt := 254) (off := 221) hW.1 dL_law_33 2 hcx (by decide) (by decide) (by decide) rfl (cs_likes hW hL h6 hk hn hI KK)
  | 3, _, hcx => exact z_tableIn (tgt := 297) (off := 264) hW.1 dL_law_33 3 hcx (by decide) (by decide) (by decide) rfl (cs_wind hW hL h6 hk hn hI KK)
  | 4, _, hcx => exact z_tableIn (tgt := 340) (off := 307) hW.1 dL_law_33 4 hcx (by decide) (by decide) (by decide) rfl (cs_say hW hL h6 hk hn hI KK)
  | 5, _, hcx => exact z_tableIn (tgt := 363) (off := 330) hW.1 dL_law_33 5 hcx (by decide) (by decide) (by decide) rfl (cs_wipe hW hL h6 hk hn hI KK)
  | 6, _, hcx => exact z_tableIn (tgt := 376) (off := 343) hW.1 dL_law_33 6 hcx (by decide) (by decide) (by decide) rfl (cs_fault hW hL h6 hk hn hI KK)
  | 7, _, hcx => exact z_tableIn (tgt := 389) (off := 356) hW.1 dL_law_33 7 hcx (by decide) (by decide) (by decide) rfl (cs_judge hW hL h6 hk hn hI KK)
  | 8, _, hcx => exact z_tableIn (tgt := 412) (off := 379) hW.1 dL_law_33 8 hcx (by decide) (by decide) (by decide) rfl (cs_done hW hL h6 hk hn hI KK)
  | 9, _, hcx => exact z_tableIn (tgt := 425) (off := 392) hW.1 dL_law_33 9 hcx (by decide) (by decide) (by decide) rfl (cs_behind hW hL h6 hk hn hI KK)
  | 10, _, hcx => exact z_tableIn (tgt := 458) (off := 425) hW.1 dL_law_33 10 hcx (by decide) (by decide) (by decide) rfl (cs_then hW hL h6 hk hn hI KK)
  | 11, _, hcx => exact z_tableIn (tgt := 481) (off := 448) hW.1 dL_law_33 11 hcx (by decide) (by decide) (by decide) rfl (cs_when hW hL h6 hk hn hI KK)
  | 12, _, hcx => exact z_tableIn (tgt := 504) (off := 471) hW.1 dL_law_33 12 hcx (by decide) (by decide) (by decide) rfl (cs_pass hW hL h6 hk hn hI KK)
  | 13, _, hcx => exact z_tableIn (tgt := 547) (off := 514) hW.1 dL_law_33 13 hcx (by decide) (by decide) (by decide) rfl (cs_arms hW hL h6 hk hn hI KK)
  | 14, _, hcx => exact z_tableIn (tgt := 580) (off := 547) hW.1 dL_law_33 14 hcx (by decide) (by decide) (by decide) rfl (cs_paid hW hL h6 hk hn hI KK)
  | 15, _, hcx => exact z_tableIn (tgt := 613) (off := 580) hW.1 dL_law_33 15 hcx (by decide) (by decide) (by decide) rfl (cs_seen hW hL h6 hk hn hI KK)
  | 16, _, hcx => exact z_tableIn (tgt := 692) (off := 659) hW.1 dL_law_33 16 hcx (by decide) (by decide) (by decide) rfl (cs_forget hW hL h6 hk hn hI KK)
  | 17, _, hcx => exact z_tableIn (tgt := 705) (off := 672) hW.1 dL_law_33 17 hcx (by decide) (by decide) (by decide) rfl (cs_likings hW hL h6 hk hn hI KK)
  | 18, _, hcx => exact z_tableIn (tgt := 728) (off := 695) hW.1 dL_law_33 18 hcx (by decide) (by decide) (by decide) rfl (cs_ask hW hL h6 hk hn hI KK)
  | 19, _, hcx => exact z_tableIn (tgt := 751) (off := 718) hW.1 dL_law_33 19 hcx (by decide) (by decide) (by decide) rfl (cs_bowls hW hL h6 hk hn hI KK)
  | 20, _, hcx => exact z_tableIn (tgt := 794) (off := 761) hW.1 dL_law_33 20 hcx (by decide) (by decide) (by decide) rfl (cs_gale hW hL h6 hk hn hI KK)
  | 21, _, hcx => exact z_tableIn (tgt := 838) (off := 805) hW.1 dL_law_33 21 hcx (by decide) (by decide) (by decide) rfl (cs_year hW hL h6 hk hn hI KK)
  | 22, _, hcx => exact z_tableIn (tgt := 881) (off := 848) hW.1 dL_law_33 22 hcx (by decide) (by decide) (by decide) rfl (cs_image hW hL h6 hk hn hI KK)
  | 23, _, hcx => exact z_tableIn (tgt := 904) (off := 871) hW.1 dL_law_33 23 hcx (by decide) (by decide) (by decide) rfl (cs_restore hW hL h6 hk hn hI KK)
  | 24, _, hcx => exact z_tableIn (tgt := 927) (off := 894) hW.1 dL_law_33 24 hcx (by decide) (by decide) (by decide) rfl (cs_told hW hL h6 hk hn hI KK)
  | c + 25, hc, _ => exact absurd hc (by omega)
set_option maxRecDepth 20000 in
set_option maxHeartbeats 4000000 in
theorem law_loop {l : Launch} {G : zG} {sb L : Nat} {xs : Nat → Int32} {Z : zT} (hW : zW l G sb L xs Z) (hL : L ≤ 3072) {a b : Nat → Nat} : ∀ (m j : Nat), L < 6 * (j + m + 1) → 6 * j ≤ L → ∀ w : va_W, LInv G a b w → Z (100 + 12 * j) (1600 + 81 * j) w (lvL sb (a 0) (b 0) (nI (6 * j))) 18 [] := by
  have head : ∀ (j : Nat), 6 * j ≤ L → ∀ w : va_W, LInv G a b w → (∀ w2, LInv G a b w2 → 6 * j + 6 ≤ L → Z (100 + 12 * j + 12) (1600 + 81 * j + 81) w2 (lvL sb (a 0) (b 0) (nI (6 * j))) 950 []) → Z (100 + 12 * j) (1600 + 81 * j) w (lvL sb (a 0) (b 0) (nI (6 * j))) 18 [] := by
    intro j hj w hI KK0
    have rc := lw_cells
    have rs := lw_slots
    refine z_iload_n hW.1 dL_law_18 0 rfl rfl ?_
    refine z_aload_n hW.1 dL_law_19 3 rfl rfl ?_
    refine hW.2.2.1 _ _ _ _ _ _ dL_law_20 ?_
    refine z_bipush (v := 6) hW.1 dL_law_21 rfl rfl ?_
    refine z_isub hW.1 dL_law_23 rfl ?_
    refine z_icmp_gt (tgt := 956) hW.1 dL_law_24 rfl rfl (fun h => ?_) (fun h => ?_)
    · refine z_iconst (v := 1) hW.1 dL_law_956 rfl rfl ?_
      exact hW.2.2.2 _ _ _ _ _ (by omega) (by omega) dL_law_957
    · have h6 : 6 * j + 6 ≤ L := by
        rw [lp_if hL hj] at h
        omega
      have KK := fun w2 h2 => KK0 w2 h2 h6
      have hk : 100 + 12 * j + 12 ≤ room_1.cells := by omega
      have hn : 1600 + 81 * j + 81 ≤ room_1.slots := by omega
      refine z_aload_n hW.1 dL_law_27 3 rfl rfl ?_
      refine z_iload_n hW.1 dL_law_28 0 rfl rfl ?_
      refine hW.2.1 _ _ _ _ _ _ _ (nI_in (by omega) (by omega)) dL_law_29 ?_
      refine z_bipush (v := 31) hW.1 dL_law_30 rfl rfl ?_
      refine z_iand hW.1 dL_law_32 rfl ?_
      generalize xs (nI (6 * j)).toNatClampNeg &&& 31 = x
      by_cases hc : ∃ c : Nat, c < 25 ∧ x = Int32.ofInt (0 + (c : Int))
      · obtain ⟨c, hc, hcx⟩ := hc
        exact law_case hW hL h6 hk hn hI KK hc hcx
      · refine z_tableOut (tgt := 950) hW.1 dL_law_33 (z_tout 25 (by decide) (by decide) (by decide) (fun c h1 h2 => hc ⟨c, h1, h2⟩)) rfl ?_
        exact z_widen hW.1 (by omega) (by omega) (KK w hI)
  intro m
  induction m with
  | zero =>
    intro j h1 h2 w hI
    exact head j h2 w hI (fun w2 _ h6 => absurd h6 (by omega))
  | succ m ih =>
    intro j h1 h2 w hI
    refine head j h2 w hI (fun w2 hI2 h6 => ?_)
    have e1 : nI (6 * j) + Int32.ofInt 6 = nI (6 * (j + 1)) := by
      show nI (6 * j) + nI 6 = _
      rw [nI_add]
      rfl
    refine z_iinc (j := 0) hW.1 dL_law_950 rfl e1 (by decide) rfl rfl ?_
    refine z_goto (tgt := 18) hW.1 dL_law_953 rfl ?_
    have := ih (j + 1) (by omega) (by omega) w2 hI2
    rw [show 100 + 12 * (j + 1) = 100 + 12 * j + 12 by omega, show 1600 + 81 * (j + 1) = 1600 + 81 * j + 81 by omega] at this
    exact this
