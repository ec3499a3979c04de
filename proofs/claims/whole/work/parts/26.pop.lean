/-! the count of the bits of a long -/
def mk8 (m : Nat) : Nat → Nat
  | 0 => 0
  | k + 1 => m + 256 * mk8 m k
theorem and_sp {m M : Nat} (hm : m < 256) (a : Nat) : a &&& (m + 256 * M) = (a % 256 &&& m) + 256 * (a / 256 &&& M) := by
  have h1 : (a &&& (m + 256 * M)) % 2 ^ 8 = (a % 2 ^ 8 &&& m) := by
    rw [Nat.and_mod_two_pow]
    congr 1
    omega
  have h2 : (a &&& (m + 256 * M)) / 2 ^ 8 = (a / 2 ^ 8 &&& M) := by
    rw [Nat.and_div_two_pow]
    congr 1
    omega
  have h3 : a % 2 ^ 8 = a % 256 := rfl
  have h4 : a / 2 ^ 8 = a / 256 := rfl
  rw [h3] at h1
  rw [h4] at h2
  omega
def p1 (k x : Nat) : Nat := x / 2 &&& mk8 85 k
def pz (k y : Nat) : Nat := (y &&& mk8 51 k) + (y / 4 &&& mk8 51 k)
def pu (k z : Nat) : Nat := (z + z / 16) &&& mk8 15 k
theorem b1 : ∀ r, r < 512 → (r / 2 % 256 &&& 85) = (r % 256 / 2 &&& 85) ∧ (r % 256 / 2 &&& 85) ≤ r % 256 := by decide +kernel
theorem b2 : ∀ r, r < 1024 → (r / 4 % 256 &&& 51) = (r % 256 / 4 &&& 51) := by decide +kernel
theorem p1_s (k r q : Nat) (hr : r < 256) : p1 (k + 1) (r + 256 * q) = (r / 2 &&& 85) + 256 * p1 k q ∧ (r / 2 &&& 85) ≤ r := by
  unfold p1
  rw [mk8, and_sp (by omega)]
  have h := b1 ((r + 256 * q) % 512) (by omega)
  have e1 : (r + 256 * q) % 512 / 2 % 256 = (r + 256 * q) / 2 % 256 := by omega
  have e2 : (r + 256 * q) % 512 % 256 = r := by omega
  have e3 : (r + 256 * q) / 2 / 256 = q / 2 := by omega
  rw [e1, e2] at h
  rw [h.1, e3]
  exact ⟨rfl, h.2⟩
theorem p1_le : ∀ k x, p1 k x ≤ x := by
  intro k
  induction k with
  | zero => intro x; unfold p1 mk8; simp
  | succ k ih =>
    intro x
    have e : x = x % 256 + 256 * (x / 256) := by omega
    have h := p1_s k (x % 256) (x / 256) (by omega)
    rw [← e] at h
    have := ih (x / 256)
    omega
theorem pz_s (k r q : Nat) (hr : r < 256) : pz (k + 1) (r + 256 * q) = ((r &&& 51) + (r / 4 &&& 51)) + 256 * pz k q := by
  unfold pz
  rw [mk8, and_sp (by omega), and_sp (by omega)]
  have h := b2 ((r + 256 * q) % 1024) (by omega)
  have e1 : (r + 256 * q) % 1024 / 4 % 256 = (r + 256 * q) / 4 % 256 := by omega
  have e2 : (r + 256 * q) % 1024 % 256 = r := by omega
  have e3 : (r + 256 * q) / 4 / 256 = q / 4 := by omega
  have e4 : (r + 256 * q) % 256 = r := by omega
  have e5 : (r + 256 * q) / 256 = q := by omega
  rw [e1, e2] at h
  rw [h, e3, e4, e5]
  omega
def by8 (r : Nat) : Nat := (r - (r / 2 &&& 85))
def bz8 (r : Nat) : Nat := ((r &&& 51) + (r / 4 &&& 51))
theorem b3 : ∀ r, r < 256 → by8 r < 256 ∧ bz8 (by8 r) < 69 ∧ bz8 (by8 r) % 16 ≤ 4 ∧ ((bz8 (by8 r) + bz8 (by8 r) / 16) % 16) = pop8 r := by decide +kernel
def pyz (k x : Nat) : Nat := pz k (x - p1 k x)
theorem pyz_s (k r q : Nat) (hr : r < 256) : pyz (k + 1) (r + 256 * q) = bz8 (by8 r) + 256 * pyz k q := by
  unfold pyz
  obtain ⟨h1, h2⟩ := p1_s k r q hr
  have h3 := p1_le k q
  rw [h1, show r + 256 * q - ((r / 2 &&& 85) + 256 * p1 k q) = by8 r + 256 * (q - p1 k q) by unfold by8; omega, pz_s _ _ _ (b3 r hr).1]
  rfl
theorem pyz_b : ∀ k x, pyz k x % 16 ≤ 4 ∧ pyz k x < 69 * 256 ^ k := by
  intro k
  induction k with
  | zero => intro x; unfold pyz pz mk8; simp
  | succ k ih =>
    intro x
    have e : x = x % 256 + 256 * (x / 256) := by omega
    rw [e, pyz_s _ _ _ (by omega)]
    obtain ⟨i1, i2, i3, -⟩ := b3 (x % 256) (by omega)
    obtain ⟨j1, j2⟩ := ih (x / 256)
    rw [Nat.pow_succ]
    constructor
    · omega
    · cases k with
      | zero => omega
      | succ k =>
        have : 1 ≤ 256 ^ (k + 1) := Nat.one_le_two_pow.trans (Nat.pow_le_pow_left (by omega) _)
        omega
theorem b4 : ∀ a, a < 256 → (a &&& 15) = a % 16 := by decide +kernel
def pq (k x : Nat) : Nat := pu k (pyz k x)
theorem pq_s (k r q : Nat) (hr : r < 256) : pq (k + 1) (r + 256 * q) = pop8 r + 256 * pq k q := by
  unfold pq
  rw [pyz_s _ _ _ hr]
  obtain ⟨i1, i2, i3, i4⟩ := b3 r hr
  obtain ⟨j1, -⟩ := pyz_b k q
  unfold pu
  generalize hz : bz8 (by8 r) = z at *
  generalize hy : pyz k q = y at *
  rw [mk8, and_sp (by omega), b4 _ (by omega)]
  have e1 : (z + 256 * y + (z + 256 * y) / 16) / 256 = y + y / 16 := by omega
  have e2 : (z + 256 * y + (z + 256 * y) / 16) % 256 % 16 = pop8 r := by omega
  rw [e1, e2]
theorem pop8_8 (r : Nat) : pop8 r ≤ 8 := pop8_le r
/-- eight bytes -/
theorem fold8 {a b c d e f g h T1 T2 T3 T4 : Nat} (ha : a ≤ 8) (hb : b ≤ 8) (hc : c ≤ 8) (hd : d ≤ 8) (he : e ≤ 8) (hf : f ≤ 8) (hg : g ≤ 8) (hh : h ≤ 8) (h1 : T1 = a + 256 * (b + 256 * (c + 256 * (d + 256 * (e + 256 * (f + 256 * (g + 256 * h))))))) (h2 : T2 = T1 + T1 / 256) (h3 : T3 = T2 + T2 / 65536) (h4 : T4 = T3 + T3 / 4294967296) : T4 % 128 = a + b + c + d + e + f + g + h ∧ T4 < 18446744073709551616 := by
  have k2 : T2 = (a + b) + 256 * ((b + c) + 256 * ((c + d) + 256 * ((d + e) + 256 * ((e + f) + 256 * ((f + g) + 256 * ((g + h) + 256 * h)))))) := by omega
  have k3 : T3 = (a + b + c + d) + 256 * ((b + c + d + e) + 256 * ((c + d + e + f) + 256 * ((d + e + f + g) + 256 * ((e + f + g + h) + 256 * ((f + g + h) + 256 * ((g + h) + 256 * h)))))) := by omega
  omega
