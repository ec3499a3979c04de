/-! the bits of a long -/
def lb (x : Int64) (i : Nat) : Bool := x.toBitVec.getLsbD i
theorem lb_T (x : Int64) (i : Nat) : (lT x).testBit i = lb x i := BitVec.testBit_toNat x.toBitVec
theorem lb_ext {x y : Int64} (h : ∀ i, i < 64 → lb x i = lb y i) : x = y := Int64.toBitVec_inj.mp (BitVec.eq_of_getLsbD_eq (fun i hi => h i hi))
theorem lb_and (x y : Int64) (i : Nat) : lb (x &&& y) i = (lb x i && lb y i) := by unfold lb; rw [Int64.toBitVec_and, BitVec.getLsbD_and]
theorem lb_xor (x y : Int64) (i : Nat) : lb (x ^^^ y) i = (lb x i ^^ lb y i) := by unfold lb; rw [Int64.toBitVec_xor, BitVec.getLsbD_xor]
theorem lb_big {x : Int64} {i : Nat} (h : 64 ≤ i) : lb x i = false := BitVec.getLsbD_of_ge _ _ h
theorem lb_m1 : ∀ i, i < 64 → lb (-1) i = true := by decide +kernel
theorem lb_0 (i : Nat) : lb 0 i = false := BitVec.getLsbD_zero
theorem ls_l : ∀ n, n < 64 → (((nI n).toInt64 &&& 63).toBitVec.smod 64).toNat = n := by decide +kernel
theorem lb_shl (n : Nat) (hn : n < 64) (x : Int64) {i : Nat} (hi : i < 64) : lb (lsl x (nI n)) i = (decide (n ≤ i) && lb x (i - n)) := by
  unfold lsl lb
  rw [Int64.toBitVec_shiftLeft]
  show (x.toBitVec <<< (((nI n).toInt64 &&& 63).toBitVec.smod 64).toNat).getLsbD i = _
  rw [ls_l n hn, BitVec.getLsbD_shiftLeft]
  rcases Nat.lt_or_ge i n with h | h
  · simp [h, Nat.not_le.mpr h]
  · simp [hi, h, Nat.not_lt.mpr h]
theorem lb_sshr (n : Nat) (hn : n < 64) (x : Int64) {i : Nat} (hi : i < 64) : lb (lsr x (nI n)) i = if n + i < 64 then lb x (n + i) else lb x 63 := by
  unfold lsr lb
  rw [Int64.toBitVec_shiftRight]
  show (x.toBitVec.sshiftRight (((nI n).toInt64 &&& 63).toBitVec.smod 64).toNat).getLsbD i = _
  rw [ls_l n hn, BitVec.getLsbD_sshiftRight, BitVec.msb_eq_getLsbD_last]
  simp [hi]
theorem lb_1 (i : Nat) : lb 1 i = decide (i = 0) := by
  rcases Nat.lt_or_ge i 64 with h | h
  · exact (by decide +kernel : ∀ i, i < 64 → lb 1 i = decide (i = 0)) i h
  · rw [lb_big h, decide_eq_false (by omega)]
theorem lnd1_0 (y : Int64) : (y &&& 1 = 0) ↔ lb y 0 = false := by
  constructor
  · intro h
    have h1 : lb (y &&& 1) 0 = lb 0 0 := by rw [h]
    rw [lb_and, lb_1, lb_0] at h1
    simpa using h1
  · intro h
    refine lb_ext (fun i _ => ?_)
    rw [lb_and, lb_1, lb_0]
    by_cases hi : i = 0
    · subst hi; simp [h]
    · simp [hi]
theorem f_fits (x : Int64) {k : Nat} (hk : k < 64) : fX7_fits x (nI k) = some (bB (lb x k)) := by
  unfold fX7_fits fX7_fits_b18
  have e : (lg_cmp (lsr x (nI k) &&& 1) 0 = 0) ↔ lb x k = false := by
    rw [lg_cmp_eq, lnd1_0, lb_sshr k hk x (by omega), Nat.add_zero, if_pos hk]
  cases h : lb x k
  · rw [if_pos (e.mpr h)]; rfl
  · rw [if_neg (fun z => by rw [e.mp z] at h; exact absurd h (by simp))]; rfl
theorem lb_clr (x : Int64) {k i : Nat} (hk : k < 64) (hi : i < 64) : lb (x &&& (lsl 1 (nI k) ^^^ (-1))) i = (lb x i && !decide (i = k)) := by
  rw [lb_and, lb_xor, lb_m1 i hi, lb_shl k hk 1 hi, lb_1]
  congr 1
  by_cases h : i = k
  · subst h; simp
  · by_cases h2 : k ≤ i
    · simp [h]; omega
    · simp [h]; omega
theorem dg64 : ∀ i, i < 64 → sr (nI i) 4 = nI (i / 16) ∧ sr (nI i) 2 &&& 3 = nI (i / 4 % 4) ∧ nI i &&& 3 = nI (i % 4) := by decide +kernel
def wN (i b c d : Nat) : Nat := i / 16 * b + i / 4 % 4 * c + i % 4 * d
theorem f_worth {i : Nat} (hi : i < 64) (b c d : Nat) : fX7_worth (nI i) (nI b) (nI c) (nI d) = some (nI (wN i b c d)) := by
  obtain ⟨h1, h2, h3⟩ := dg64 i hi
  unfold fX7_worth
  rw [h1, h2, h3, pk_mul, pk_mul, pk_mul, nI_add, nI_add]
  rfl
theorem wN_le {i b c d : Nat} (hi : i < 64) (hb : b < 10) (hc : c < 10) (hd : d < 10) : wN i b c d < 82 := by
  unfold wN
  have h1 : i / 16 * b ≤ 3 * 9 := Nat.mul_le_mul (by omega) (by omega)
  have h2 : i / 4 % 4 * c ≤ 3 * 9 := Nat.mul_le_mul (by omega) (by omega)
  have h3 : i % 4 * d ≤ 3 * 9 := Nat.mul_le_mul (by omega) (by omega)
  omega
theorem f_add {x1 b c d : Nat} (h1 : x1 < 10) (hb : b < 10) (hc : c < 10) (hd : d < 10) (v : Bool) (cn : Int32) : ∀ m i, i + m = 64 → ∀ n, m < n → ∀ ft, ∃ ft', fX7_add_L3 (nI x1) (nI b) (nI c) (nI d) (bB v) n cn ft (nI i) = some (cn + 1, ft') ∧ ∀ j, j < 64 → lb ft' j = (lb ft j && (decide (j < i) || (decide (x1 ≤ wN j b c d) == v))) := by
  intro m
  induction m with
  | zero =>
    intro i hi n hn ft
    obtain ⟨n, rfl⟩ : ∃ q, n = q + 1 := ⟨n - 1, by omega⟩
    have : i = 64 := by omega
    subst this
    refine ⟨ft, by rw [fX7_add_L3, if_pos (by decide)], fun j hj => ?_⟩
    rw [decide_eq_true hj]; simp
  | succ m ih =>
    intro i hi n hn ft
    obtain ⟨n, rfl⟩ : ∃ q, n = q + 1 := ⟨n - 1, by omega⟩
    have hw := wN_le (show i < 64 by omega) hb hc hd
    rw [fX7_add_L3, if_neg (show ¬ (64 : Int32) ≤ nI i from nI_ge (a := i) (b := 64) (by omega) (by omega)), f_worth (by omega), bsome]
    simp only [fX7_add_b28, fX7_add_b50, nI_1]
    have keep : (decide (x1 ≤ wN i b c d) == v) = true → ∃ ft', fX7_add_L3 (nI x1) (nI b) (nI c) (nI d) (bB v) n cn ft (nI (i + 1)) = some (cn + 1, ft') ∧ ∀ j, j < 64 → lb ft' j = (lb ft j && (decide (j < i) || (decide (x1 ≤ wN j b c d) == v))) := by
      intro e
      obtain ⟨ft', g1, g2⟩ := ih (i + 1) (by omega) n (by omega) ft
      refine ⟨ft', g1, fun j hj => ?_⟩
      rw [g2 j hj]
      by_cases q : j = i
      · subst q; rw [e]; simp
      · rw [show decide (j < i + 1) = decide (j < i) from decide_eq_decide.mpr (by omega)]
    have drop : (decide (x1 ≤ wN i b c d) == v) = false → ∃ ft', fX7_add_L3 (nI x1) (nI b) (nI c) (nI d) (bB v) n cn (ft &&& (lsl 1 (nI i) ^^^ (-1))) (nI (i + 1)) = some (cn + 1, ft') ∧ ∀ j, j < 64 → lb ft' j = (lb ft j && (decide (j < i) || (decide (x1 ≤ wN j b c d) == v))) := by
      intro e
      obtain ⟨ft', g1, g2⟩ := ih (i + 1) (by omega) n (by omega) (ft &&& (lsl 1 (nI i) ^^^ (-1)))
      refine ⟨ft', g1, fun j hj => ?_⟩
      rw [g2 j hj, lb_clr ft (by omega) hj]
      by_cases q : j = i
      · subst q; rw [e]; simp
      · rw [show decide (j < i + 1) = decide (j < i) from decide_eq_decide.mpr (by omega), decide_eq_false q]; simp
    by_cases q : wN i b c d < x1
    · have e0 : decide (x1 ≤ wN i b c d) = false := decide_eq_false (by omega)
      rw [if_pos (nI_lt q (by omega))]
      cases v with
      | true => rw [if_neg (by decide)]; exact drop (by rw [e0]; rfl)
      | false => rw [if_pos (by decide)]; exact keep (by rw [e0]; rfl)
    · have e0 : decide (x1 ≤ wN i b c d) = true := decide_eq_true (by omega)
      rw [if_neg (nI_nlt (by omega) (by omega))]
      cases v with
      | true => rw [if_pos (by decide)]; exact keep (by rw [e0]; rfl)
      | false => rw [if_neg (by decide)]; exact drop (by rw [e0]; rfl)
def FT (q : Nat → Nat) (v : Nat → Bool) (i : Nat) : Nat → Bool
  | 0 => true
  | s + 1 => FT q v i s && (decide (q s / 1000 ≤ wN i (q s / 100 % 10) (q s / 10 % 10) (q s % 10)) == v s)
theorem FT_ext {q q' : Nat → Nat} {v v' : Nat → Bool} (i : Nat) : ∀ s, (∀ j, j < s → q j = q' j ∧ v j = v' j) → FT q v i s = FT q' v' i s := by
  intro s
  induction s with
  | zero => intro _; rfl
  | succ s ih => intro h; rw [FT, FT, ih (fun j hj => h j (by omega)), (h s (by omega)).1, (h s (by omega)).2]
theorem FT_mono {q : Nat → Nat} {v : Nat → Bool} {i j : Nat} (h : FT q v i j = false) : ∀ k, FT q v i (j + k) = false := by
  intro k
  induction k with
  | zero => exact h
  | succ k ih => rw [← Nat.add_assoc, FT, ih]; rfl
def SG (cn : Int32) (ft : Int64) (sg : Int32) (st : Nat → Int32) : Prop := ∃ (s : Nat) (q : Nat → Nat) (v : Nat → Bool), s ≤ 8 ∧ cn = nI s ∧ sg = nI s ∧ (∀ j, j < s → st (2 * j) = nI (q j) ∧ st (2 * j + 1) = bB (v j) ∧ q j < 10000) ∧ ∀ i, i < 64 → lb ft i = FT q v i s
theorem op_forget {cn sg : Int32} {ft : Int64} {st : Nat → Int32} (h : SG cn ft sg st) : ∃ (r cn' sg' : Int32) (ft' : Int64), fX11_forget cn ft = some (r, cn', ft') ∧ fX12_forget sg = some (r, sg') ∧ SG cn' ft' sg' st := by
  obtain ⟨s, q, v, h1, h2, h3, -⟩ := h
  refine ⟨cn, 0, 0, -1, rfl, by rw [h2, ← h3]; rfl, 0, q, v, by omega, rfl, rfl, fun j hj => absurd hj (by omega), fun i hi => ?_⟩
  exact lb_m1 i hi
theorem op_seen {cn sg : Int32} {ft : Int64} {st : Nat → Int32} (h : SG cn ft sg st) (x1 x2 x3 x4 : Int32) (w : Bool) : ∃ (r cn' sg' : Int32) (ft' : Int64) (st' : Nat → Int32), fX11_seen cn ft x1 x2 x3 x4 (bB w) = some (r, cn', ft') ∧ fX12_seen sg st x1 x2 x3 x4 (bB w) = some (r, sg', st') ∧ SG cn' ft' sg' st' := by
  have h' := h
  obtain ⟨s, q, v, h1, h2, h3, h4, h5⟩ := h
  unfold fX11_seen fX12_seen fX11_seen_b21 fX12_seen_b38
  simp only [f_within, f_in, f_allWithin, bsome, bI0]
  by_cases c1 : 1 ≤ x1 ∧ x1 ≤ 9
  · by_cases c2 : 0 ≤ x2 ∧ x2 ≤ 3
    · by_cases c3 : 0 ≤ x3 ∧ x3 ≤ 3
      · by_cases c4 : 0 ≤ x4 ∧ x4 ≤ 3
        · simp only [c1, c2, c3, c4, not_true_eq_false, and_self, if_false]
          obtain ⟨a, ha1, ha, ea⟩ := rng1 (by decide) c1
          obtain ⟨b, hb, eb⟩ := rng (by decide) c2
          obtain ⟨c, hc, ec⟩ := rng (by decide) c3
          obtain ⟨d, hd, ed⟩ := rng (by decide) c4
          subst ea
          subst eb
          subst ec
          subst ed
          subst h2
          subst h3
          by_cases c5 : s = 8
          · subst c5
            rw [if_neg (by decide), if_pos (show nI 8 = (8 : Int32) from rfl)]
            exact ⟨_, _, _, _, _, rfl, rfl, h'⟩
          · rw [if_pos (show nI s < (8 : Int32) from nI_lt (a := s) (b := 8) (by omega) (by omega)), if_neg (show ¬ nI s = (8 : Int32) from fun e => c5 ((nI_inj (b := 8) (by omega) (by omega)).mp e))]
            obtain ⟨ft', g1, g2⟩ := f_add (x1 := a) (b := b) (c := c) (d := d) (by omega) (by omega) (by omega) (by omega) w (nI s) 64 0 (by omega) zF (by unfold zF; omega) ft
            have g1' : fX7_add (nI s) ft (nI a) (nI b) (nI c) (nI d) (bB w) = some (nI s + 1, ft') := g1
            rw [g1', bsome]
            unfold fX12_seen_b104
            simp (disch := omega) only [l_mul, a_lit, nI_add, inb_t, toN_t, gd_T]
            have hw : (if bB w = 0 then some (nI (s + 1), nI (s + 1), upd (upd st (2 * s) (nI (1000 * a + 100 * b + 10 * c + d))) (2 * s + 1) 0) else some (nI (s + 1), nI (s + 1), upd (upd st (2 * s) (nI (1000 * a + 100 * b + 10 * c + d))) (2 * s + 1) 1)) = some (nI (s + 1), nI (s + 1), upd (upd st (2 * s) (nI (1000 * a + 100 * b + 10 * c + d))) (2 * s + 1) (bB w)) := by
              cases w
              · rw [if_pos (by decide)]; rfl
              · rw [if_neg (by decide)]; rfl
            refine ⟨_, _, _, _, _, rfl, hw, s + 1, fun j => if j = s then 1000 * a + 100 * b + 10 * c + d else q j, fun j => if j = s then w else v j, by omega, rfl, rfl, fun j hj => ?_, fun i hi => ?_⟩
            · by_cases e : j = s
              · subst e
                simp only [if_true]
                exact ⟨by rw [upd_ne (by omega), upd_eq rfl], upd_eq rfl, by omega⟩
              · simp only [if_neg e]
                obtain ⟨k1, k2, k3⟩ := h4 j (by omega)
                exact ⟨by rw [upd_ne (by omega), upd_ne (by omega)]; exact k1, by rw [upd_ne (by omega), upd_ne (by omega)]; exact k2, k3⟩
            · rw [g2 i hi, h5 i hi, FT, FT_ext i s (q' := q) (v' := v) (fun j hj => ⟨if_neg (by omega), if_neg (by omega)⟩)]
              simp only [if_true]
              rw [show (1000 * a + 100 * b + 10 * c + d) / 1000 = a by omega, show (1000 * a + 100 * b + 10 * c + d) / 100 % 10 = b by omega, show (1000 * a + 100 * b + 10 * c + d) / 10 % 10 = c by omega, show (1000 * a + 100 * b + 10 * c + d) % 10 = d by omega]
              simp
        · simp only [c1, c2, c3, c4, not_true_eq_false, and_self, if_false, not_false_eq_true, if_true, and_false, and_true]
          exact ⟨_, _, _, _, _, rfl, rfl, h'⟩
      · simp only [c1, c2, c3, not_true_eq_false, and_self, if_false, not_false_eq_true, if_true, and_false, false_and, and_true, true_and]
        exact ⟨_, _, _, _, _, rfl, rfl, h'⟩
    · simp only [c1, c2, not_true_eq_false, and_self, if_false, not_false_eq_true, if_true, and_false, false_and, and_true, true_and]
      exact ⟨_, _, _, _, _, rfl, rfl, h'⟩
  · simp only [c1, not_false_eq_true, if_true]
    exact ⟨_, _, _, _, _, rfl, rfl, h'⟩
/-! which likings fit -/
def lc (i : Nat) : Nat := 100 * (i / 16) + 10 * (i / 4 % 4) + i % 4
def nx (c : Nat) : Nat := c / 100 * 16 + (if c / 10 % 10 < 4 then c / 10 % 10 * 4 + (if c % 10 < 4 then c % 10 else 4) else 16)
def isL (c : Nat) : Bool := decide (c / 10 % 10 < 4) && decide (c % 10 < 4)
theorem nx_f : ∀ c, c < 334 → nx c ≤ 64 ∧ (isL c = true → nx c < 64 ∧ nx (c + 1) = nx c + 1 ∧ lc (nx c) = c ∧ nx c / 16 = c / 100 ∧ nx c / 4 % 4 = c / 10 % 10 ∧ nx c % 4 = c % 10) ∧ (isL c = false → nx (c + 1) = nx c) := by decide +kernel
theorem f_enough {c q : Nat} (hc : c < 334) (hq : q < 10000) : fX12_isEnough (nI c) (nI q) = some (bB (decide (q / 1000 ≤ c / 100 * (q / 100 % 10) + c / 10 % 10 * (q / 10 % 10) + c % 10 * (q % 10)))) := by
  unfold fX12_isEnough fX12_isEnough_b53
  have a1 : nI c / (100 : Int32) = nI (c / 100) := d_lit (by omega) (by decide) (by decide)
  have a2 : irm (nI c / (10 : Int32)) 10 = nI (c / 10 % 10) := by rw [d_lit (by omega) (by decide) (by decide)]; exact r_lit (by show c / 10 < _; omega) (by decide) (by decide)
  have a3 : irm (nI c) 10 = nI (c % 10) := r_lit (by omega) (by decide) (by decide)
  have b0 : nI q / (1000 : Int32) = nI (q / 1000) := d_lit (by omega) (by decide) (by decide)
  have b1 : irm (nI q / (100 : Int32)) 10 = nI (q / 100 % 10) := by rw [d_lit (by omega) (by decide) (by decide)]; exact r_lit (by show q / 100 < _; omega) (by decide) (by decide)
  have b2 : irm (nI q / (10 : Int32)) 10 = nI (q / 10 % 10) := by rw [d_lit (by omega) (by decide) (by decide)]; exact r_lit (by show q / 10 < _; omega) (by decide) (by decide)
  have b3 : irm (nI q) 10 = nI (q % 10) := r_lit (by omega) (by decide) (by decide)
  rw [a1, a2, a3, b0, b1, b2, b3, pk_mul, pk_mul, pk_mul, nI_add, nI_add]
  have h1 : c / 100 * (q / 100 % 10) ≤ 3 * 9 := Nat.mul_le_mul (by omega) (by omega)
  have h2 : c / 10 % 10 * (q / 10 % 10) ≤ 9 * 9 := Nat.mul_le_mul (by omega) (by omega)
  have h3 : c % 10 * (q % 10) ≤ 9 * 9 := Nat.mul_le_mul (by omega) (by omega)
  by_cases z : c / 100 * (q / 100 % 10) + c / 10 % 10 * (q / 10 % 10) + c % 10 * (q % 10) < q / 1000
  · rw [if_pos (nI_lt z (by omega)), decide_eq_false (by omega)]; rfl
  · rw [if_neg (nI_nlt (by omega) (by omega)), decide_eq_true (by omega)]; rfl
theorem f_isFit {s : Nat} {q : Nat → Nat} {v : Nat → Bool} {st : Nat → Int32} (hs : s ≤ 8) (h4 : ∀ j, j < s → st (2 * j) = nI (q j) ∧ st (2 * j + 1) = bB (v j) ∧ q j < 10000) {c : Nat} (hc : c < 334) : fX12_isFit (nI s) st (nI c) = some (bB (isL c && FT q v (nx c) s)) := by
  have gb : ∀ b : Bool, gd (bB b == 0 || bB b == 1) (some (bB b)) = some (bB b) := by intro b; cases b <;> rfl
  have a1 : nI c / (100 : Int32) = nI (c / 100) := d_lit (by omega) (by decide) (by decide)
  have a2 : irm (nI c / (10 : Int32)) 10 = nI (c / 10 % 10) := by rw [d_lit (by omega) (by decide) (by decide)]; exact r_lit (by show c / 10 < _; omega) (by decide) (by decide)
  have a3 : irm (nI c) 10 = nI (c % 10) := r_lit (by omega) (by decide) (by decide)
  have zero : fX12_isFit_b31 (nI s) st (nI c) = some (bB false) := by
    unfold fX12_isFit_b31 fX12_isFit_b32
    rw [show zF = 99999 + 1 from rfl, fX12_isFit_L35]
    unfold fX12_isFit_b93
    by_cases z : nI s ≤ (0 : Int32)
    · rw [if_pos z]; rfl
    · rw [if_neg z, if_pos rfl]; rfl
  have L : isL c = true → ∀ m j, j + m = s → ∀ n, m < n → fX12_isFit_L35 (nI s) st (nI c) n (bB (FT q v (nx c) j)) (nI j) = some (bB (FT q v (nx c) s)) := by
    intro hL m
    induction m with
    | zero =>
      intro j hj n hn
      obtain ⟨n, rfl⟩ : ∃ q, n = q + 1 := ⟨n - 1, by omega⟩
      have : j = s := by omega
      subst this
      rw [fX12_isFit_L35, if_pos (Int32.le_refl _)]
      unfold fX12_isFit_b93
      exact gb _
    | succ m ih =>
      intro j hj n hn
      obtain ⟨n, rfl⟩ : ∃ q, n = q + 1 := ⟨n - 1, by omega⟩
      rw [fX12_isFit_L35, if_neg (nI_ge (by omega) (by omega))]
      cases hf : FT q v (nx c) j with
      | false =>
        rw [if_pos (by decide)]
        have := FT_mono hf (m + 1)
        rw [hj] at this
        rw [this]
        rfl
      | true =>
        obtain ⟨k1, k2, k3⟩ := h4 j (by omega)
        rw [if_neg (by decide)]
        simp (disch := omega) only [l_mul, a_lit, inb_t, toN_t, gd_T]
        rw [k1, k2, f_enough hc k3, bsome]
        obtain ⟨-, n1, -⟩ := nx_f c hc
        obtain ⟨-, -, -, m1, m2, m3⟩ := n1 hL
        have step := ih (j + 1) (by omega) n (by omega)
        rw [FT, hf, Bool.true_and, wN, m1, m2, m3] at step
        unfold fX12_isFit_b78 fX12_isFit_b86
        rw [nI_1]
        generalize hE : decide (q j / 1000 ≤ c / 100 * (q j / 100 % 10) + c / 10 % 10 * (q j / 10 % 10) + c % 10 * (q j % 10)) = E at *
        cases hV : v j <;> cases E <;> rw [hV] at step <;> exact step
  unfold fX12_isFit
  rw [a1, a2, a3, if_neg (show ¬ (4 : Int32) ≤ nI (c / 100) from nI_ge (a := c / 100) (b := 4) (by omega) (by omega))]
  by_cases z1 : 4 ≤ c / 10 % 10
  · rw [if_pos (show (4 : Int32) ≤ nI (c / 10 % 10) from nI_le (a := 4) z1 (by omega)), zero]
    unfold isL
    rw [decide_eq_false (by omega)]; rfl
  · rw [if_neg (show ¬ (4 : Int32) ≤ nI (c / 10 % 10) from nI_ge (b := 4) (by omega) (by omega))]
    by_cases z2 : 4 ≤ c % 10
    · rw [if_pos (show (4 : Int32) ≤ nI (c % 10) from nI_le (a := 4) z2 (by omega)), zero]
      unfold isL
      rw [decide_eq_false (show ¬ c % 10 < 4 by omega), Bool.and_false]; rfl
    · rw [if_neg (show ¬ (4 : Int32) ≤ nI (c % 10) from nI_ge (b := 4) (by omega) (by omega))]
      have hL : isL c = true := by unfold isL; rw [decide_eq_true (by omega), decide_eq_true (by omega)]; rfl
      rw [hL, Bool.true_and]
      exact L hL s 0 (by omega) zF (by unfold zF; omega)
