/-! the count of the bits of a long -/
def mk8 (m : Nat) : Nat → Nat
  | 0 => 0
  | k + 1 => m + 256 * mk8 m k
theorem and_sp {m M : Nat} (hm : m < 256) (a : Nat) : a &&& (m + 256 * M) = (a % 256 &&& m) + 256 * (a / 256 &&& M) := by
  have h1 : (a &&& (m + 256 * M)) % 2 ^ 8 = (a % 2 ^ 8 &&& m) := by
    rw [Nat.and_mod_two_pow]
    congr 1
    omega
  have h2 : (a &&& (m + 256 * M)) / 2 ^ 8 = (a / 2 ^ 8 &&& M) := by
    rw [Nat.and_div_two_pow]
    congr 1
    omega
  have h3 : a % 2 ^ 8 = a % 256 := rfl
  have h4 : a / 2 ^ 8 = a / 256 := rfl
  rw [h3] at h1
  rw [h4] at h2
  omega
def p1 (k x : Nat) : Nat := x / 2 &&& mk8 85 k
def pz (k y : Nat) : Nat := (y &&& mk8 51 k) + (y / 4 &&& mk8 51 k)
def pu (k z : Nat) : Nat := (z + z / 16) &&& mk8 15 k
theorem b1 : ∀ r, r < 512 → (r / 2 % 256 &&& 85) = (r % 256 / 2 &&& 85) ∧ (r % 256 / 2 &&& 85) ≤ r % 256 := by decide +kernel
theorem b2 : ∀ r, r < 1024 → (r / 4 % 256 &&& 51) = (r % 256 / 4 &&& 51) := by decide +kernel
theorem p1_s (k r q : Nat) (hr : r < 256) : p1 (k + 1) (r + 256 * q) = (r / 2 &&& 85) + 256 * p1 k q ∧ (r / 2 &&& 85) ≤ r := by
  unfold p1
  rw [mk8, and_sp (by omega)]
  have h := b1 ((r + 256 * q) % 512) (by omega)
  have e1 : (r + 256 * q) % 512 / 2 % 256 = (r + 256 * q) / 2 % 256 := by omega
  have e2 : (r + 256 * q) % 512 % 256 = r := by omega
  have e3 : (r + 256 * q) / 2 / 256 = q / 2 := by omega
  rw [e1, e2] at h
  rw [h.1, e3]
  exact ⟨rfl, h.2⟩
theorem p1_le : ∀ k x, p1 k x ≤ x := by
  intro k
  induction k with
  | zero => intro x; unfold p1 mk8; simp
  | succ k ih =>
    intro x
    have e : x = x % 256 + 256 * (x / 256) := by omega
    have h := p1_s k (x % 256) (x / 256) (by omega)
    rw [← e] at h
    have := ih (x / 256)
    omega
theorem pz_s (k r q : Nat) (hr : r < 256) : pz (k + 1) (r + 256 * q) = ((r &&& 51) + (r / 4 &&& 51)) + 256 * pz k q := by
  unfold pz
  rw [mk8, and_sp (by omega), and_sp (by omega)]
  have h := b2 ((r + 256 * q) % 1024) (by omega)
  have e1 : (r + 256 * q) % 1024 / 4 % 256 = (r + 256 * q) / 4 % 256 := by omega
  have e2 : (r + 256 * q) % 1024 % 256 = r := by omega
  have e3 : (r + 256 * q) / 4 / 256 = q / 4 := by omega
  have e4 : (r + 256 * q) % 256 = r := by omega
  have e5 : (r + 256 * q) / 256 = q := by omega
  rw [e1, e2] at h
  rw [h, e3, e4, e5]
  omega
def by8 (r : Nat) : Nat := (r - (r / 2 &&& 85))
def bz8 (r : Nat) : Nat := ((r &&& 51) + (r / 4 &&& 51))
theorem b3 : ∀ r, r < 256 → by8 r < 256 ∧ bz8 (by8 r) < 69 ∧ bz8 (by8 r) % 16 ≤ 4 ∧ ((bz8 (by8 r) + bz8 (by8 r) / 16) % 16) = pop8 r := by decide +kernel
def pyz (k x : Nat) : Nat := pz k (x - p1 k x)
theorem pyz_s (k r q : Nat) (hr : r < 256) : pyz (k + 1) (r + 256 * q) = bz8 (by8 r) + 256 * pyz k q := by
  unfold pyz
  obtain ⟨h1, h2⟩ := p1_s k r q hr
  have h3 := p1_le k q
  rw [h1, show r + 256 * q - ((r / 2 &&& 85) + 256 * p1 k q) = by8 r + 256 * (q - p1 k q) by unfold by8; omega, pz_s _ _ _ (b3 r hr).1]
  rfl
theorem pyz_b : ∀ k x, pyz k x % 16 ≤ 4 := by
  intro k x
  cases k with
  | zero => unfold pyz pz mk8; simp
  | succ k =>
    have e : x = x % 256 + 256 * (x / 256) := by omega
    rw [e, pyz_s _ _ _ (by omega)]
    obtain ⟨i1, i2, i3, -⟩ := b3 (x % 256) (by omega)
    generalize bz8 (by8 (x % 256)) = z at *
    generalize pyz k (x / 256) = y at *
    omega
theorem b4 : ∀ a, a < 256 → (a &&& 15) = a % 16 := by decide +kernel
def pq (k x : Nat) : Nat := pu k (pyz k x)
theorem pq_s (k r q : Nat) (hr : r < 256) : pq (k + 1) (r + 256 * q) = pop8 r + 256 * pq k q := by
  unfold pq
  rw [pyz_s _ _ _ hr]
  obtain ⟨i1, i2, i3, i4⟩ := b3 r hr
  have j1 := pyz_b k q
  unfold pu
  generalize hz : bz8 (by8 r) = z at *
  generalize hy : pyz k q = y at *
  rw [mk8, and_sp (by omega), b4 _ (by omega)]
  have d1 : (z + 256 * y) / 16 = z / 16 + 16 * y := by omega
  obtain ⟨y0, y1, hy0, hy1, hy2⟩ : ∃ y0 y1, y = 16 * y1 + y0 ∧ y0 ≤ 4 ∧ y / 16 = y1 := ⟨y % 16, y / 16, by omega, by omega, rfl⟩
  have d2 : z + 256 * y + (z + 256 * y) / 16 = (z + z / 16 + 16 * y0) + 256 * (y + y1) := by omega
  rw [d2, hy2, Nat.add_mul_mod_self_left, Nat.add_mul_div_left _ _ (by omega)]
  have z16 : z / 16 < 5 := by omega
  have e3 : (z + z / 16 + 16 * y0) / 256 = 0 := Nat.div_eq_of_lt (by omega)
  have e4 : (z + z / 16 + 16 * y0) % 256 = z + z / 16 + 16 * y0 := Nat.mod_eq_of_lt (by omega)
  rw [e3, e4, Nat.add_mul_mod_self_left, i4, Nat.zero_add]
theorem pop8_8 (r : Nat) : pop8 r ≤ 8 := pop8_le r
theorem dv1 {r X T : Nat} (h : r < 256) (e : T = r + 256 * X) : T / 256 = X := by omega
theorem ad8 {a b X Y A B : Nat} (h1 : A = a + 256 * X) (h2 : B = b + 256 * Y) : A + B = (a + b) + 256 * (X + Y) := by omega
theorem bd8 {A a X m : Nat} (h1 : A = a + 256 * X) (h2 : a ≤ 8) (h3 : X ≤ m) : A ≤ 8 + 256 * m := by omega
theorem md8 {T s W : Nat} (h : T = s + 256 * W) (hs : s ≤ 64) : T % 128 = s := by omega
theorem s8 {a b c d : Nat} (ha : a ≤ 8) (hb : b ≤ 8) (hc : c ≤ 8) (hd : d ≤ 8) : a + b < 256 ∧ a + b + (c + d) < 256 ∧ a + b + (c + d) ≤ 32 := by omega
theorem s16 {a b : Nat} (ha : a ≤ 32) (hb : b ≤ 32) : a + b ≤ 64 := by omega
theorem bg8 {T B C D E F G h : Nat} (h0 : T ≤ 8 + 256 * (8 + 256 * (8 + 256 * (8 + 256 * (8 + 256 * (8 + 256 * (8 + 256 * 8))))))) (h1 : B ≤ 8 + 256 * (8 + 256 * (8 + 256 * (8 + 256 * (8 + 256 * (8 + 256 * 8)))))) (h2 : C ≤ 8 + 256 * (8 + 256 * (8 + 256 * (8 + 256 * (8 + 256 * 8))))) (h3 : D ≤ 8 + 256 * (8 + 256 * (8 + 256 * (8 + 256 * 8)))) (h4 : E ≤ 8 + 256 * (8 + 256 * (8 + 256 * 8))) (h5 : F ≤ 8 + 256 * (8 + 256 * 8)) (h6 : G ≤ 8 + 256 * 8) (h7 : h ≤ 8) : T + B + (C + D) + (E + F + (G + h)) < 9223372036854775808 := by omega
/-- eight bytes -/
theorem fold8 {a b c d e f g h B C D E F G T1 : Nat} (ha : a ≤ 8) (hb : b ≤ 8) (hc : c ≤ 8) (hd : d ≤ 8) (he : e ≤ 8) (hf : f ≤ 8) (hg : g ≤ 8) (hh : h ≤ 8) (k1 : T1 = a + 256 * B) (k2 : B = b + 256 * C) (k3 : C = c + 256 * D) (k4 : D = d + 256 * E) (k5 : E = e + 256 * F) (k6 : F = f + 256 * G) (k7 : G = g + 256 * h) :
    T1 / 256 = B ∧ (T1 + B) / 65536 = C + D ∧ (T1 + B + (C + D)) / 4294967296 = E + F + (G + h) ∧ (T1 + B + (C + D) + (E + F + (G + h))) % 128 = a + b + (c + d) + (e + f + (g + h)) ∧ T1 + B + (C + D) + (E + F + (G + h)) < 9223372036854775808 := by
  have k8 : h = h + 256 * 0 := rfl
  have f2 : (T1 + B) / 256 = B + C := dv1 (s8 ha hb hb hb).1 (ad8 k1 k2)
  have f3 : (B + C) / 256 = C + D := dv1 (s8 hb hc hb hb).1 (ad8 k2 k3)
  have g2 : (T1 + B) / 65536 = C + D := by rw [show 65536 = 256 * 256 from rfl, ← Nat.div_div_eq_div_mul, f2, f3]
  have f4 : (T1 + B + (C + D)) / 256 = B + C + (D + E) := dv1 (s8 ha hb hc hd).2.1 (ad8 (ad8 k1 k2) (ad8 k3 k4))
  have f5 : (B + C + (D + E)) / 256 = C + D + (E + F) := dv1 (s8 hb hc hd he).2.1 (ad8 (ad8 k2 k3) (ad8 k4 k5))
  have f6 : (C + D + (E + F)) / 256 = D + E + (F + G) := dv1 (s8 hc hd he hf).2.1 (ad8 (ad8 k3 k4) (ad8 k5 k6))
  have f7 : (D + E + (F + G)) / 256 = E + F + (G + h) := dv1 (s8 hd he hf hg).2.1 (ad8 (ad8 k4 k5) (ad8 k6 k7))
  have g3 : (T1 + B + (C + D)) / 4294967296 = E + F + (G + h) := by rw [show 4294967296 = 256 * 256 * 256 * 256 from rfl, ← Nat.div_div_eq_div_mul, ← Nat.div_div_eq_div_mul, ← Nat.div_div_eq_div_mul, f4, f5, f6, f7]
  have b1 := bd8 k7 hg hh
  have b2 := bd8 k6 hf b1
  have b3 := bd8 k5 he b2
  have b4 := bd8 k4 hd b3
  have b5 := bd8 k3 hc b4
  have b6 := bd8 k2 hb b5
  have b7 := bd8 k1 ha b6
  exact ⟨dv1 (Nat.lt_of_le_of_lt ha (by decide)) k1, g2, g3, md8 (ad8 (ad8 (ad8 k1 k2) (ad8 k3 k4)) (ad8 (ad8 k5 k6) (ad8 k7 k8))) (s16 (s8 ha hb hc hd).2.2 (s8 he hf hg hh).2.2), bg8 b7 b6 b5 b4 b3 b2 b1 hh⟩
