/-! the count of the bits of a long -/
def mk8 (m : Nat) : Nat → Nat
  | 0 => 0
  | k + 1 => m + 256 * mk8 m k
theorem and_sp {m M : Nat} (hm : m < 256) (a : Nat) : a &&& (m + 256 * M) = (a % 256 &&& m) + 256 * (a / 256 &&& M) := by
  have h1 : (a &&& (m + 256 * M)) % 2 ^ 8 = (a % 2 ^ 8 &&& m) := by
    rw [Nat.and_mod_two_pow]
    congr 1
    omega
  have h2 : (a &&& (m + 256 * M)) / 2 ^ 8 = (a / 2 ^ 8 &&& M) := by
    rw [Nat.and_div_two_pow]
    congr 1
    omega
  have h3 : a % 2 ^ 8 = a % 256 := rfl
  have h4 : a / 2 ^ 8 = a / 256 := rfl
  rw [h3] at h1
  rw [h4] at h2
  omega
def p1 (k x : Nat) : Nat := x / 2 &&& mk8 85 k
def pz (k y : Nat) : Nat := (y &&& mk8 51 k) + (y / 4 &&& mk8 51 k)
def pu (k z : Nat) : Nat := (z + z / 16) &&& mk8 15 k
theorem b1 : ∀ r, r < 512 → (r / 2 % 256 &&& 85) = (r % 256 / 2 &&& 85) ∧ (r % 256 / 2 &&& 85) ≤ r % 256 := by decide +kernel
theorem b2 : ∀ r, r < 1024 → (r / 4 % 256 &&& 51) = (r % 256 / 4 &&& 51) := by decide +kernel
theorem p1_s (k r q : Nat) (hr : r < 256) : p1 (k + 1) (r + 256 * q) = (r / 2 &&& 85) + 256 * p1 k q ∧ (r / 2 &&& 85) ≤ r := by
  unfold p1
  rw [mk8, and_sp (by omega)]
  have h := b1 ((r + 256 * q) % 512) (by omega)
  have e1 : (r + 256 * q) % 512 / 2 % 256 = (r + 256 * q) / 2 % 256 := by omega
  have e2 : (r + 256 * q) % 512 % 256 = r := by omega
  have e3 : (r + 256 * q) / 2 / 256 = q / 2 := by omega
  rw [e1, e2] at h
  rw [h.1, e3]
  exact ⟨rfl, h.2⟩
theorem p1_le : ∀ k x, p1 k x ≤ x := by
  intro k
  induction k with
  | zero => intro x; unfold p1 mk8; simp
  | succ k ih =>
    intro x
    have e : x = x % 256 + 256 * (x / 256) := by omega
    have h := p1_s k (x % 256) (x / 256) (by omega)
    rw [← e] at h
    have := ih (x / 256)
    omega
theorem pz_s (k r q : Nat) (hr : r < 256) : pz (k + 1) (r + 256 * q) = ((r &&& 51) + (r / 4 &&& 51)) + 256 * pz k q := by
  unfold pz
  rw [mk8, and_sp (by omega), and_sp (by omega)]
  have h := b2 ((r + 256 * q) % 1024) (by omega)
  have e1 : (r + 256 * q) % 1024 / 4 % 256 = (r + 256 * q) / 4 % 256 := by omega
  have e2 : (r + 256 * q) % 1024 % 256 = r := by omega
  have e3 : (r + 256 * q) / 4 / 256 = q / 4 := by omega
  have e4 : (r + 256 * q) % 256 = r := by omega
  have e5 : (r + 256 * q) / 256 = q := by omega
  rw [e1, e2] at h
  rw [h, e3, e4, e5]
  omega
def by8 (r : Nat) : Nat := (r - (r / 2 &&& 85))
def bz8 (r : Nat) : Nat := ((r &&& 51) + (r / 4 &&& 51))
theorem b3 : ∀ r, r < 256 → by8 r < 256 ∧ bz8 (by8 r) < 69 ∧ bz8 (by8 r) % 16 ≤ 4 ∧ ((bz8 (by8 r) + bz8 (by8 r) / 16) % 16) = pop8 r := by decide +kernel
def pyz (k x : Nat) : Nat := pz k (x - p1 k x)
theorem pyz_s (k r q : Nat) (hr : r < 256) : pyz (k + 1) (r + 256 * q) = bz8 (by8 r) + 256 * pyz k q := by
  unfold pyz
  obtain ⟨h1, h2⟩ := p1_s k r q hr
  have h3 := p1_le k q
  rw [h1, show r + 256 * q - ((r / 2 &&& 85) + 256 * p1 k q) = by8 r + 256 * (q - p1 k q) by unfold by8; omega, pz_s _ _ _ (b3 r hr).1]
  rfl
theorem pyz_b : ∀ k x, pyz k x % 16 ≤ 4 := by
  intro k x
  cases k with
  | zero => unfold pyz pz mk8; simp
  | succ k =>
    have e : x = x % 256 + 256 * (x / 256) := by omega
    rw [e, pyz_s _ _ _ (by omega)]
    obtain ⟨i1, i2, i3, -⟩ := b3 (x % 256) (by omega)
    generalize bz8 (by8 (x % 256)) = z at *
    generalize pyz k (x / 256) = y at *
    omega
theorem b4 : ∀ a, a < 256 → (a &&& 15) = a % 16 := by decide +kernel
def pq (k x : Nat) : Nat := pu k (pyz k x)
theorem pq_s (k r q : Nat) (hr : r < 256) : pq (k + 1) (r + 256 * q) = pop8 r + 256 * pq k q := by
  unfold pq
  rw [pyz_s _ _ _ hr]
  obtain ⟨i1, i2, i3, i4⟩ := b3 r hr
  have j1 := pyz_b k q
  unfold pu
  generalize hz : bz8 (by8 r) = z at *
  generalize hy : pyz k q = y at *
  rw [mk8, and_sp (by omega), b4 _ (by omega)]
  have d1 : (z + 256 * y) / 16 = z / 16 + 16 * y := by omega
  obtain ⟨y0, y1, hy0, hy1, hy2⟩ : ∃ y0 y1, y = 16 * y1 + y0 ∧ y0 ≤ 4 ∧ y / 16 = y1 := ⟨y % 16, y / 16, by omega, by omega, rfl⟩
  have d2 : z + 256 * y + (z + 256 * y) / 16 = (z + z / 16 + 16 * y0) + 256 * (y + y1) := by omega
  rw [d2, hy2, Nat.add_mul_mod_self_left, Nat.add_mul_div_left _ _ (by omega)]
  have z16 : z / 16 < 5 := by omega
  have e3 : (z + z / 16 + 16 * y0) / 256 = 0 := Nat.div_eq_of_lt (by omega)
  have e4 : (z + z / 16 + 16 * y0) % 256 = z + z / 16 + 16 * y0 := Nat.mod_eq_of_lt (by omega)
  rw [e3, e4, Nat.add_mul_mod_self_left, i4, Nat.zero_add]
theorem pop8_8 (r : Nat) : pop8 r ≤ 8 := pop8_le r
theorem dv1 {r X T : Nat} (h : r < 256) (e : T = r + 256 * X) : T / 256 = X := by omega
theorem ad8 {a b X Y A B : Nat} (h1 : A = a + 256 * X) (h2 : B = b + 256 * Y) : A + B = (a + b) + 256 * (X + Y) := by omega
theorem bd8 {A a X m : Nat} (h1 : A = a + 256 * X) (h2 : a ≤ 8) (h3 : X ≤ m) : A ≤ 8 + 256 * m := by omega
theorem md8 {T s W : Nat} (h : T = s + 256 * W) (hs : s ≤ 64) : T % 128 = s := by omega
theorem s8 {a b c d : Nat} (ha : a ≤ 8) (hb : b ≤ 8) (hc : c ≤ 8) (hd : d ≤ 8) : a + b < 256 ∧ a + b + (c + d) < 256 ∧ a + b + (c + d) ≤ 32 := by omega
theorem s16 {a b : Nat} (ha : a ≤ 32) (hb : b ≤ 32) : a + b ≤ 64 := by omega
theorem bg8 {T B C D E F G h : Nat} (h0 : T ≤ 8 + 256 * (8 + 256 * (8 + 256 * (8 + 256 * (8 + 256 * (8 + 256 * (8 + 256 * 8))))))) (h1 : B ≤ 8 + 256 * (8 + 256 * (8 + 256 * (8 + 256 * (8 + 256 * (8 + 256 * 8)))))) (h2 : C ≤ 8 + 256 * (8 + 256 * (8 + 256 * (8 + 256 * (8 + 256 * 8))))) (h3 : D ≤ 8 + 256 * (8 + 256 * (8 + 256 * (8 + 256 * 8)))) (h4 : E ≤ 8 + 256 * (8 + 256 * (8 + 256 * 8))) (h5 : F ≤ 8 + 256 * (8 + 256 * 8)) (h6 : G ≤ 8 + 256 * 8) (h7 : h ≤ 8) : T + B + (C + D) + (E + F + (G + h)) < 9223372036854775808 := by omega
/-- eight bytes -/
theorem fold8 {a b c d e f g h B C D E F G T1 : Nat} (ha : a ≤ 8) (hb : b ≤ 8) (hc : c ≤ 8) (hd : d ≤ 8) (he : e ≤ 8) (hf : f ≤ 8) (hg : g ≤ 8) (hh : h ≤ 8) (k1 : T1 = a + 256 * B) (k2 : B = b + 256 * C) (k3 : C = c + 256 * D) (k4 : D = d + 256 * E) (k5 : E = e + 256 * F) (k6 : F = f + 256 * G) (k7 : G = g + 256 * h) :
    T1 / 256 = B ∧ (T1 + B) / 65536 = C + D ∧ (T1 + B + (C + D)) / 4294967296 = E + F + (G + h) ∧ (T1 + B + (C + D) + (E + F + (G + h))) % 128 = a + b + (c + d) + (e + f + (g + h)) ∧ T1 + B + (C + D) + (E + F + (G + h)) < 9223372036854775808 := by
  have k8 : h = h + 256 * 0 := rfl
  have f2 : (T1 + B) / 256 = B + C := dv1 (s8 ha hb hb hb).1 (ad8 k1 k2)
  have f3 : (B + C) / 256 = C + D := dv1 (s8 hb hc hb hb).1 (ad8 k2 k3)
  have g2 : (T1 + B) / 65536 = C + D := by rw [show 65536 = 256 * 256 from rfl, ← Nat.div_div_eq_div_mul, f2, f3]
  have f4 : (T1 + B + (C + D)) / 256 = B + C + (D + E) := dv1 (s8 ha hb hc hd).2.1 (ad8 (ad8 k1 k2) (ad8 k3 k4))
  have f5 : (B + C + (D + E)) / 256 = C + D + (E + F) := dv1 (s8 hb hc hd he).2.1 (ad8 (ad8 k2 k3) (ad8 k4 k5))
  have f6 : (C + D + (E + F)) / 256 = D + E + (F + G) := dv1 (s8 hc hd he hf).2.1 (ad8 (ad8 k3 k4) (ad8 k5 k6))
  have f7 : (D + E + (F + G)) / 256 = E + F + (G + h) := dv1 (s8 hd he hf hg).2.1 (ad8 (ad8 k4 k5) (ad8 k6 k7))
  have g3 : (T1 + B + (C + D)) / 4294967296 = E + F + (G + h) := by rw [show 4294967296 = 256 * 256 * 256 * 256 from rfl, ← Nat.div_div_eq_div_mul, ← Nat.div_div_eq_div_mul, ← Nat.div_div_eq_div_mul, f4, f5, f6, f7]
  have b1 := bd8 k7 hg hh
  have b2 := bd8 k6 hf b1
  have b3 := bd8 k5 he b2
  have b4 := bd8 k4 hd b3
  have b5 := bd8 k3 hc b4
  have b6 := bd8 k2 hb b5
  have b7 := bd8 k1 ha b6
  exact ⟨dv1 (Nat.lt_of_le_of_lt ha (by decide)) k1, g2, g3, md8 (ad8 (ad8 (ad8 k1 k2) (ad8 k3 k4)) (ad8 (ad8 k5 k6) (ad8 k7 k8))) (s16 (s8 ha hb hc hd).2.2 (s8 he hf hg hh).2.2), bg8 b7 b6 b5 b4 b3 b2 b1 hh⟩
theorem pq_0 (x : Nat) : pq 0 x = 0 := by unfold pq pu mk8; simp
theorem pq_n (k x : Nat) : pq (k + 1) x = pop8 (x % 256) + 256 * pq k (x / 256) := by
  have e : x = x % 256 + 256 * (x / 256) := by omega
  have h := pq_s k (x % 256) (x / 256) (by omega)
  rw [← e] at h
  exact h
theorem popN_8 (a k : Nat) : popN a (k + 8) = popN a k + pop8 (a / 2 ^ k % 256) := by
  have e : ∀ j, a / 2 ^ (k + j) = a / 2 ^ k / 2 ^ j := fun j => by rw [Nat.pow_add, Nat.div_div_eq_div_mul]
  show popN a (k + 0) + a / 2 ^ (k + 0) % 2 + a / 2 ^ (k + 1) % 2 + a / 2 ^ (k + 2) % 2 + a / 2 ^ (k + 3) % 2 + a / 2 ^ (k + 4) % 2 + a / 2 ^ (k + 5) % 2 + a / 2 ^ (k + 6) % 2 + a / 2 ^ (k + 7) % 2 = _
  rw [e 1, e 2, e 3, e 4, e 5, e 6, e 7, Nat.add_zero]
  generalize a / 2 ^ k = q
  unfold pop8
  omega
def lT (x : Int64) : Nat := x.toBitVec.toNat
theorem lT_lt (x : Int64) : lT x < 18446744073709551616 := x.toBitVec.isLt
theorem lT_and (a b : Int64) : lT (a &&& b) = (lT a &&& lT b) := by unfold lT; rw [Int64.toBitVec_and, BitVec.toNat_and]
theorem lT_sub {a b : Int64} (h : lT b ≤ lT a) : lT (a - b) = lT a - lT b := by
  unfold lT at *
  have h1 := a.toBitVec.isLt
  have h2 := b.toBitVec.isLt
  rw [Int64.toBitVec_sub, BitVec.toNat_sub]
  omega
theorem lT_add {a b : Int64} (h : lT a + lT b < 18446744073709551616) : lT (a + b) = lT a + lT b := by
  unfold lT at *
  rw [Int64.toBitVec_add, BitVec.toNat_add]
  exact Nat.mod_eq_of_lt h
theorem lT_usr (x : Int64) (y : Int32) (k : Nat) (hy : ((y.toInt64.toUInt64 &&& Int64.toUInt64 63).toBitVec % 64).toNat = k) : lT (lusr x y) = lT x / 2 ^ k := by
  have e : (lusr x y).toBitVec = x.toBitVec >>> k := by
    rw [← hy]
    exact UInt64.toBitVec_shiftRight _ _
  unfold lT
  rw [e, BitVec.toNat_ushiftRight, Nat.shiftRight_eq_div_pow]
theorem mk_55 : lT 6148914691236517205 = mk8 85 8 := by decide +kernel
theorem mk_33 : lT 3689348814741910323 = mk8 51 8 := by decide +kernel
theorem mk_0f : lT 1085102592571150095 = mk8 15 8 := by decide +kernel
theorem mk_le (m : Nat) (hm : m < 52) : mk8 m 8 < 4000000000000000000 := by
  show m + 256 * (m + 256 * (m + 256 * (m + 256 * (m + 256 * (m + 256 * (m + 256 * (m + 256 * 0))))))) < 4000000000000000000
  omega
theorem lT_127 (y : Int64) : y.toInt32 &&& 127 = nI (lT y % 128) := by
  rw [pk_and y.toInt32 7 (by decide)]
  have : y.toInt32.toBitVec.toNat = lT y % 4294967296 := by
    unfold lT
    rw [Int64.toBitVec_toInt32]
    first
      | rw [BitVec.signExtend_eq_setWidth_of_le _ (by decide), BitVec.toNat_setWidth]
      | rw [BitVec.signExtend_eq_setWidth_of_lt _ (by decide), BitVec.toNat_setWidth]
      | simp [BitVec.signExtend_eq_setWidth_of_le]
  rw [this, Nat.mod_mod_of_dvd _ (by decide)]
theorem f_bc (x : Int64) : fJ13_bitCount_95d88 x = some (nI (popN (lT x) 64)) := by
  unfold fJ13_bitCount_95d88
  have hx := lT_lt x
  generalize h1 : x - (lusr x 1 &&& 6148914691236517205) = i1
  have e1 : lT i1 = lT x - p1 8 (lT x) := by
    have a1 : lT (lusr x 1 &&& 6148914691236517205) = p1 8 (lT x) := by
      rw [lT_and, lT_usr x 1 1 (by decide), mk_55]; rfl
    rw [← h1, lT_sub (by rw [a1]; exact p1_le 8 _), a1]
  generalize h2 : (i1 &&& 3689348814741910323) + (lusr i1 2 &&& 3689348814741910323) = i2
  have e2 : lT i2 = pyz 8 (lT x) := by
    have a1 : lT (i1 &&& 3689348814741910323) = (lT i1 &&& mk8 51 8) := by rw [lT_and, mk_33]
    have a2 : lT (lusr i1 2 &&& 3689348814741910323) = (lT i1 / 4 &&& mk8 51 8) := by rw [lT_and, lT_usr i1 2 2 (by decide), mk_33]
    have q1 : (lT i1 &&& mk8 51 8) ≤ mk8 51 8 := Nat.and_le_right
    have q2 : (lT i1 / 4 &&& mk8 51 8) ≤ mk8 51 8 := Nat.and_le_right
    have q3 := mk_le 51 (by omega)
    rw [← h2, lT_add (by rw [a1, a2]; omega), a1, a2, e1]
    rfl
  have e2b : lT i2 < 8000000000000000000 := by
    rw [e2]
    unfold pyz pz
    have q1 : ((lT x - p1 8 (lT x)) &&& mk8 51 8) ≤ mk8 51 8 := Nat.and_le_right
    have q2 : ((lT x - p1 8 (lT x)) / 4 &&& mk8 51 8) ≤ mk8 51 8 := Nat.and_le_right
    have q3 := mk_le 51 (by omega)
    omega
  generalize h3 : (i2 + lusr i2 4) &&& 1085102592571150095 = i3
  have e3 : lT i3 = pq 8 (lT x) := by
    have a1 : lT (lusr i2 4) = lT i2 / 16 := lT_usr i2 4 4 (by decide)
    rw [← h3, lT_and, lT_add (by rw [a1]; omega), a1, mk_0f, e2]
    rfl
  obtain ⟨B, hB⟩ : ∃ B, B = pq 7 (lT x / 256) := ⟨_, rfl⟩
  obtain ⟨C, hC⟩ : ∃ B, B = pq 6 (lT x / 256 / 256) := ⟨_, rfl⟩
  obtain ⟨D, hD⟩ : ∃ B, B = pq 5 (lT x / 256 / 256 / 256) := ⟨_, rfl⟩
  obtain ⟨E, hE⟩ : ∃ B, B = pq 4 (lT x / 256 / 256 / 256 / 256) := ⟨_, rfl⟩
  obtain ⟨F, hF⟩ : ∃ B, B = pq 3 (lT x / 256 / 256 / 256 / 256 / 256) := ⟨_, rfl⟩
  obtain ⟨G, hG⟩ : ∃ B, B = pq 2 (lT x / 256 / 256 / 256 / 256 / 256 / 256) := ⟨_, rfl⟩
  have r8 : pq 1 (lT x / 256 / 256 / 256 / 256 / 256 / 256 / 256) = pop8 (lT x / 256 / 256 / 256 / 256 / 256 / 256 / 256 % 256) := by rw [pq_n, pq_0]; rfl
  have Z := fold8 (pop8_8 (lT x % 256)) (pop8_8 (lT x / 256 % 256)) (pop8_8 (lT x / 256 / 256 % 256)) (pop8_8 (lT x / 256 / 256 / 256 % 256)) (pop8_8 (lT x / 256 / 256 / 256 / 256 % 256)) (pop8_8 (lT x / 256 / 256 / 256 / 256 / 256 % 256)) (pop8_8 (lT x / 256 / 256 / 256 / 256 / 256 / 256 % 256)) (pop8_8 (lT x / 256 / 256 / 256 / 256 / 256 / 256 / 256 % 256)) (T1 := lT i3) (B := B) (C := C) (D := D) (E := E) (F := F) (G := G)
    (by rw [e3, hB]; exact pq_n 7 _) (by rw [hB, hC]; exact pq_n 6 _) (by rw [hC, hD]; exact pq_n 5 _) (by rw [hD, hE]; exact pq_n 4 _) (by rw [hE, hF]; exact pq_n 3 _) (by rw [hF, hG]; exact pq_n 2 _) (by rw [hG, ← r8]; exact pq_n 1 _)
  clear hB hC hD hE hF hG r8
  obtain ⟨z1, z2, z3, z4, z5⟩ := Z
  have u1 : lT (lusr i3 8) = B := by rw [lT_usr i3 8 8 (by decide)]; exact z1
  have u2 : lT (i3 + lusr i3 8) = lT i3 + B := by rw [lT_add (by rw [u1]; omega), u1]
  have u3 : lT (lusr (i3 + lusr i3 8) 16) = C + D := by rw [lT_usr _ 16 16 (by decide), u2]; exact z2
  have u4 : lT (i3 + lusr i3 8 + lusr (i3 + lusr i3 8) 16) = lT i3 + B + (C + D) := by rw [lT_add (by rw [u2, u3]; omega), u2, u3]
  have u5 : lT (lusr (i3 + lusr i3 8 + lusr (i3 + lusr i3 8) 16) 32) = E + F + (G + pop8 (lT x / 256 / 256 / 256 / 256 / 256 / 256 / 256 % 256)) := by rw [lT_usr _ 32 32 (by decide), u4]; exact z3
  have u6 : lT (i3 + lusr i3 8 + lusr (i3 + lusr i3 8) 16 + lusr (i3 + lusr i3 8 + lusr (i3 + lusr i3 8) 16) 32) % 128 = popN (lT x) 64 := by
    rw [lT_add (by rw [u4, u5]; omega), u4, u5, z4]
    have n0 := popN_8 (lT x) 0
    have n1 := popN_8 (lT x) 8
    have n2 := popN_8 (lT x) 16
    have n3 := popN_8 (lT x) 24
    have n4 := popN_8 (lT x) 32
    have n5 := popN_8 (lT x) 40
    have n6 := popN_8 (lT x) 48
    have n7 := popN_8 (lT x) 56
    have dd : ∀ a k, a / 2 ^ (k + 8) = a / 2 ^ k / 256 := fun a k => by rw [Nat.pow_add, ← Nat.div_div_eq_div_mul]
    have q0 : lT x / 2 ^ 0 = lT x := Nat.div_one _
    have q1 : lT x / 2 ^ 8 = lT x / 256 := rfl
    have q2 : lT x / 2 ^ 16 = lT x / 256 / 256 := by rw [dd _ 8, q1]
    have q3 : lT x / 2 ^ 24 = lT x / 256 / 256 / 256 := by rw [dd _ 16, q2]
    have q4 : lT x / 2 ^ 32 = lT x / 256 / 256 / 256 / 256 := by rw [dd _ 24, q3]
    have q5 : lT x / 2 ^ 40 = lT x / 256 / 256 / 256 / 256 / 256 := by rw [dd _ 32, q4]
    have q6 : lT x / 2 ^ 48 = lT x / 256 / 256 / 256 / 256 / 256 / 256 := by rw [dd _ 40, q5]
    have q7 : lT x / 2 ^ 56 = lT x / 256 / 256 / 256 / 256 / 256 / 256 / 256 := by rw [dd _ 48, q6]
    rw [q0] at n0
    rw [q1] at n1
    rw [q2] at n2
    rw [q3] at n3
    rw [q4] at n4
    rw [q5] at n5
    rw [q6] at n6
    rw [q7] at n7
    rw [n7, n6, n5, n4, n3, n2, n1, n0]
    show _ = 0 + _ + _ + _ + _ + _ + _ + _ + _
    simp only [Nat.zero_add, Nat.add_assoc]
  rw [lT_127, u6]
