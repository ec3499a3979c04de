/-! plain facts of numbers; the simple predicates of both sides -/
def bI (p : Prop) [Decidable p] : Int32 := if p then 1 else 0
theorem bI0 {p : Prop} [Decidable p] : (bI p = (0 : Int32)) ↔ ¬ p := by
  unfold bI
  by_cases h : p <;> simp [h]
theorem bI1 {p : Prop} [Decidable p] : (bI p = (1 : Int32)) ↔ p := by
  unfold bI
  by_cases h : p <;> simp [h]
theorem bIb {p : Prop} [Decidable p] : (bI p == 0 || bI p == 1) = true := by
  unfold bI
  by_cases h : p <;> simp [h]
/-- not by rfl: a row by rfl lets the kernel unfold the loops -/
theorem gd_T {α : Type} {x : Option α} : gd true x = x := gd_t rfl
theorem bsome {α β : Type} (a : α) (f : α → Option β) : Option.bind (some a) f = f a := congrArg id (Option.bind_some a f)
theorem b01 : ((0 : Int32) == 0 || (0 : Int32) == 1) = true := by decide
theorem b11 : ((1 : Int32) == 0 || (1 : Int32) == 1) = true := by decide
theorem i_lt (a b : Int32) : a < b ↔ a.toInt < b.toInt := Int32.lt_iff_toInt_lt
theorem i_le (a b : Int32) : a ≤ b ↔ a.toInt ≤ b.toInt := Int32.le_iff_toInt_le
theorem i_eq (a b : Int32) : a = b ↔ a.toInt = b.toInt := Int32.toInt_inj.symm
theorem i_nlt {a b : Int32} : ¬ a < b ↔ b ≤ a := by rw [i_lt, i_le]; omega
theorem i_nle {a b : Int32} : ¬ a ≤ b ↔ b < a := by rw [i_lt, i_le]; omega
theorem i_lit (n : Nat) : (no_index (OfNat.ofNat n) : Int32) = nI n := rfl
theorem l_add (c a : Nat) : (no_index (OfNat.ofNat c) : Int32) + nI a = nI ((OfNat.ofNat c : Nat) + a) := nI_add c a
theorem a_lit (c a : Nat) : nI a + (no_index (OfNat.ofNat c) : Int32) = nI (a + (OfNat.ofNat c : Nat)) := nI_add a c
theorem l_mul (c a : Nat) : (no_index (OfNat.ofNat c) : Int32) * nI a = nI ((OfNat.ofNat c : Nat) * a) := pk_mul c a
theorem m_lit (c a : Nat) : nI a * (no_index (OfNat.ofNat c) : Int32) = nI (a * (OfNat.ofNat c : Nat)) := pk_mul a c
theorem inb_t {a n : Nat} (h : a < n ∧ n ≤ 2147483647) : inb (nI a) n = true := by
  unfold inb
  rw [nI_toInt (by omega)]
  exact decide_eq_true ⟨by omega, by omega⟩
theorem inb_lit {c n : Nat} (h : (OfNat.ofNat c : Nat) < n ∧ n ≤ 2147483647) : inb (no_index (OfNat.ofNat c) : Int32) n = true := inb_t h
theorem toN_t {a : Nat} (h : a < 2147483648) : (nI a).toNatClampNeg = a := nI_clamp h
theorem toN_lit {c : Nat} (h : (OfNat.ofNat c : Nat) < 2147483648) : (no_index (OfNat.ofNat c) : Int32).toNatClampNeg = (OfNat.ofNat c : Nat) := nI_clamp h
theorem upd_ap (f : Nat → Int32) (k : Nat) (x : Int32) (j : Nat) : upd f k x j = if j = k then x else f j := rfl
theorem f_within (x a b : Int32) : fX11_within x a b = some (bI (a ≤ x ∧ x ≤ b)) := by
  unfold fX11_within fX11_within_b14 fX11_within_b15 bI
  by_cases h1 : x < a
  · have : ¬ a ≤ x := i_nle.mpr h1
    simp [h1, this, gd]
  · by_cases h2 : b < x
    · have : ¬ x ≤ b := i_nle.mpr h2
      simp [h1, h2, this, gd]
    · simp [h1, h2, i_nlt.mp h1, i_nlt.mp h2, gd]
theorem f_in (x a b : Int32) : fX12_in x a b = some (bI (a ≤ x ∧ x ≤ b)) := f_within x a b
theorem f_isWalker (x : Int32) : fX11_isWalker x = some (bI (0 ≤ x ∧ x ≤ 5)) := by
  unfold fX11_isWalker
  rw [f_within, Option.bind_some, gd_t bIb]
theorem f_isWalkerM (x : Int32) : fX12_isWalker x = some (bI (0 ≤ x ∧ x ≤ 5)) := f_isWalker x
theorem f_isCell (x : Int32) : fX11_isCell x = some (bI (0 ≤ x ∧ x ≤ 11)) := by
  unfold fX11_isCell
  rw [f_within, Option.bind_some, gd_t bIb]
theorem f_isCellM (x : Int32) : fX12_isCell x = some (bI (0 ≤ x ∧ x ≤ 11)) := f_isCell x
theorem f_allWithin (x y z b : Int32) : fX11_allWithin x y z b = some (bI ((0 ≤ x ∧ x ≤ b) ∧ (0 ≤ y ∧ y ≤ b) ∧ (0 ≤ z ∧ z ≤ b))) := by
  unfold fX11_allWithin fX11_allWithin_b31 fX11_allWithin_b32
  simp only [f_within, Option.bind_some, bI0]
  by_cases h1 : 0 ≤ x ∧ x ≤ b
  · by_cases h2 : 0 ≤ y ∧ y ≤ b
    · by_cases h3 : 0 ≤ z ∧ z ≤ b
      · simp [h1, h2, h3, gd, bI]
      · simp [h1, h2, h3, gd, bI]
    · simp [h1, h2, gd, bI]
  · simp [h1, gd, bI]
theorem rng {x : Int32} {c : Nat} (hc : (OfNat.ofNat c : Nat) < 2147483648) (h : 0 ≤ x ∧ x ≤ (no_index (OfNat.ofNat c) : Int32)) : ∃ j : Nat, j ≤ (OfNat.ofNat c : Nat) ∧ x = nI j := by
  obtain ⟨h0, h1⟩ := h
  refine nI_of2 (M := (OfNat.ofNat c : Int32)) ?_ (i_nlt.mpr h0) h1
  exact nI_toInt (n := c) hc
theorem rng_of {c j : Nat} (hc : (OfNat.ofNat c : Nat) < 2147483648) (h : j ≤ (OfNat.ofNat c : Nat)) : 0 ≤ nI j ∧ nI j ≤ (no_index (OfNat.ofNat c) : Int32) := ⟨nI_pos' (by omega), nI_le h (by omega)⟩
theorem nI_inj {a b : Nat} (ha : a < 2147483648) (hb : b < 2147483648) : nI a = nI b ↔ a = b := nI_eq ha hb
theorem nI_lit_eq {a c : Nat} (ha : a < 2147483648) (hc : (OfNat.ofNat c : Nat) < 2147483648) : nI a = (no_index (OfNat.ofNat c) : Int32) ↔ a = (OfNat.ofNat c : Nat) := nI_eq ha hc
theorem lit_nI_le {a c : Nat} (ha : a < 2147483648) (hc : (OfNat.ofNat c : Nat) < 2147483648) : (no_index (OfNat.ofNat c) : Int32) ≤ nI a ↔ (OfNat.ofNat c : Nat) ≤ a := nI_leI hc ha
theorem nI_lit_le {a c : Nat} (ha : a < 2147483648) (hc : (OfNat.ofNat c : Nat) < 2147483648) : nI a ≤ (no_index (OfNat.ofNat c) : Int32) ↔ a ≤ (OfNat.ofNat c : Nat) := nI_leI ha hc
theorem lit_nI_lt {a c : Nat} (ha : a < 2147483648) (hc : (OfNat.ofNat c : Nat) < 2147483648) : (no_index (OfNat.ofNat c) : Int32) < nI a ↔ (OfNat.ofNat c : Nat) < a := nI_ltI hc ha
theorem nI_lit_lt {a c : Nat} (ha : a < 2147483648) (hc : (OfNat.ofNat c : Nat) < 2147483648) : nI a < (no_index (OfNat.ofNat c) : Int32) ↔ a < (OfNat.ofNat c : Nat) := nI_ltI ha hc
theorem f_code (a b c : Int32) : fX11_code a b c = some (100 * a + 10 * b + c) := rfl
/-! ===== Int32 by its bits: bt x i ===== -/
def bt (x : Int32) (i : Nat) : Bool := x.toBitVec.getLsbD i
theorem b_ext {x y : Int32} (h : ∀ i, i < 32 → bt x i = bt y i) : x = y := Int32.toBitVec_inj.mp (BitVec.eq_of_getLsbD_eq (fun i hi => h i hi))
theorem b_or (x y : Int32) (i : Nat) : bt (x ||| y) i = (bt x i || bt y i) := by unfold bt; rw [Int32.toBitVec_or, BitVec.getLsbD_or]
theorem b_and (x y : Int32) (i : Nat) : bt (x &&& y) i = (bt x i && bt y i) := by unfold bt; rw [Int32.toBitVec_and, BitVec.getLsbD_and]
theorem b_xor (x y : Int32) (i : Nat) : bt (x ^^^ y) i = (bt x i ^^ bt y i) := by unfold bt; rw [Int32.toBitVec_xor, BitVec.getLsbD_xor]
theorem b_big {x : Int32} {i : Nat} (h : 32 ≤ i) : bt x i = false := BitVec.getLsbD_of_ge _ _ h
theorem b_255 (i : Nat) : bt 255 i = decide (i < 8) := by
  rcases Nat.lt_or_ge i 32 with h | h
  · exact (by decide +kernel : ∀ i, i < 32 → bt 255 i = decide (i < 8)) i h
  · rw [b_big h, decide_eq_false (by omega)]
theorem b_65535 (i : Nat) : bt 65535 i = decide (i < 16) := by
  rcases Nat.lt_or_ge i 32 with h | h
  · exact (by decide +kernel : ∀ i, i < 32 → bt 65535 i = decide (i < 16)) i h
  · rw [b_big h, decide_eq_false (by omega)]
theorem b_m1 : ∀ i, i < 32 → bt (-1) i = true := by decide +kernel
theorem b_0 (i : Nat) : bt 0 i = false := BitVec.getLsbD_zero
theorem s_l : ∀ n, n < 32 → ((nI n &&& 31).toBitVec.smod 32).toNat = n := by decide +kernel
theorem s_u : ∀ n, n < 32 → (((nI n).toUInt32 &&& Int32.toUInt32 31).toBitVec % 32).toNat = n := by decide +kernel
theorem b_shl (n : Nat) (hn : n < 32) (x : Int32) {i : Nat} (hi : i < 32) : bt (x <<< (nI n &&& 31)) i = (decide (n ≤ i) && bt x (i - n)) := by
  unfold bt
  rw [Int32.toBitVec_shiftLeft]
  show (x.toBitVec <<< ((nI n &&& 31).toBitVec.smod 32).toNat).getLsbD i = _
  rw [s_l n hn, BitVec.getLsbD_shiftLeft]
  rcases Nat.lt_or_ge i n with h | h
  · simp [h, Nat.not_le.mpr h]
  · simp [hi, h, Nat.not_lt.mpr h]
theorem b_ushr (n : Nat) (hn : n < 32) (x : Int32) (i : Nat) : bt ((x.toUInt32 >>> ((nI n).toUInt32 &&& Int32.toUInt32 31)).toInt32) i = bt x (n + i) := by
  show (x.toUInt32 >>> ((nI n).toUInt32 &&& Int32.toUInt32 31)).toBitVec.getLsbD i = x.toUInt32.toBitVec.getLsbD (n + i)
  rw [UInt32.toBitVec_shiftRight]
  show (x.toUInt32.toBitVec >>> (((nI n).toUInt32 &&& Int32.toUInt32 31).toBitVec % 32).toNat).getLsbD i = _
  rw [s_u n hn, BitVec.getLsbD_ushiftRight]
theorem b_sshr (n : Nat) (hn : n < 32) (x : Int32) {i : Nat} (hi : i < 32) : bt (x >>> (nI n &&& 31)) i = if n + i < 32 then bt x (n + i) else bt x 31 := by
  unfold bt
  rw [Int32.toBitVec_shiftRight]
  show (x.toBitVec.sshiftRight ((nI n &&& 31).toBitVec.smod 32).toNat).getLsbD i = _
  rw [s_l n hn, BitVec.getLsbD_sshiftRight, BitVec.msb_eq_getLsbD_last]
  simp [hi]
theorem bt_1 (i : Nat) : bt 1 i = decide (i = 0) := by
  rcases Nat.lt_or_ge i 32 with h | h
  · exact (by decide +kernel : ∀ i, i < 32 → bt 1 i = decide (i = 0)) i h
  · rw [b_big h, decide_eq_false (by omega)]
theorem and1_0 (y : Int32) : (y &&& 1 = 0) ↔ bt y 0 = false := by
  constructor
  · intro h
    have h1 : bt (y &&& 1) 0 = bt 0 0 := by rw [h]
    rw [b_and, bt_1, b_0] at h1
    simpa using h1
  · intro h
    refine b_ext (fun i _ => ?_)
    rw [b_and, bt_1, b_0]
    by_cases hi : i = 0
    · subst hi; simp [h]
    · simp [hi]
theorem and1_1 (y : Int32) : (y &&& 1 = 1) ↔ ¬ (y &&& 1 = 0) := by
  constructor
  · intro h h2
    rw [h] at h2
    exact absurd h2 (by decide)
  · intro h
    rw [and1_0, Bool.not_eq_false] at h
    refine b_ext (fun i _ => ?_)
    rw [b_and, bt_1]
    by_cases hi : i = 0
    · subst hi; simp [h]
    · simp [hi]
theorem f_has (x y : Int32) : fX11_has x y = some (bI (¬ (sr x y &&& 1 = 0))) := by
  unfold fX11_has fX11_has_b13 bI
  by_cases h : sr x y &&& 1 = 0
  · simp [h, gd]
  · simp [h, gd]
theorem f_hasM (x y : Int32) : fX12_has x y = some (bI (¬ (sr x y &&& 1 = 0))) := by
  unfold fX12_has fX12_has_b14 bI
  by_cases h : sr x y &&& 1 = 0
  · have h1 : ¬ (sr x y &&& 1 = 1) := fun e => (and1_1 _).mp e h
    simp [h, gd]
  · have h1 : sr x y &&& 1 = 1 := (and1_1 _).mpr h
    simp [h1, gd]
theorem sr_bt (x : Int32) {k : Nat} (hk : k < 32) : (sr x (nI k) &&& 1 = 0) ↔ bt x k = false := by
  rw [and1_0]
  unfold sr
  rw [b_sshr k hk x (by omega)]
  simp [hk]
theorem bt_sl {k i : Nat} (hk : k < 32) (hi : i < 32) : bt (sl 1 (nI k)) i = decide (i = k) := by
  unfold sl
  rw [b_shl k hk 1 hi, bt_1]
  by_cases h : i = k
  · subst h; simp
  · simp only [h, decide_false, Bool.and_eq_false_iff, decide_eq_false_iff_not]
    omega
theorem upd_eq {f : Nat → Int32} {k j : Nat} {x : Int32} (h : j = k) : upd f k x j = x := by rw [upd_ap, if_pos h]
theorem upd_ne {f : Nat → Int32} {k j : Nat} {x : Int32} (h : j ≠ k) : upd f k x j = f j := by rw [upd_ap, if_neg h]
theorem n6_nI {a : Nat} (h : a < 2147483648) : ¬ (-6 : Int32) = nI a := by
  rw [i_eq, nI_toInt h]
  have : (-6 : Int32).toInt = -6 := by decide
  omega
theorem nI_n6 {a : Nat} (h : a < 2147483648) : ¬ nI a = (-6 : Int32) := fun e => n6_nI h e.symm
theorem n6_lt : (-6 : Int32) < 0 := by decide
theorem nI_nneg {a : Nat} (h : a < 2147483648) : ¬ nI a < (0 : Int32) := nI_pos h
