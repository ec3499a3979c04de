/-! the passage -/
theorem nx_and (a b : Nat) : nI a &&& nI b = nI (a &&& b) := by
  apply Int32.toBitVec_inj.1
  show BitVec.ofNat 32 a &&& BitVec.ofNat 32 b = BitVec.ofNat 32 (a &&& b)
  apply BitVec.eq_of_getLsbD_eq
  intro i hi
  simp [hi]
theorem b_nI {a i : Nat} (hi : i < 32) : bt (nI a) i = a.testBit i := by
  show (BitVec.ofNat 32 a).getLsbD i = _
  rw [BitVec.getLsbD_ofNat]
  simp [hi]
theorem x_not (m : Nat) (hm : m < 4096) : 4095 &&& (nI m ^^^ (-1 : Int32)) = nI (4095 ^^^ m) := by
  refine b_ext (fun i hi => ?_)
  rw [b_and, b_xor, b_m1 i hi, b_nI hi, b_nI hi, show (4095 : Int32) = nI 4095 from rfl, b_nI hi, Nat.testBit_xor]
  by_cases q : i < 12
  · have : Nat.testBit 4095 i = true := (by decide : ∀ i, i < 12 → Nat.testBit 4095 i = true) i q
    rw [this]; cases m.testBit i <;> rfl
  · have h1 : Nat.testBit 4095 i = false := Nat.testBit_lt_two_pow (Nat.lt_of_lt_of_le (by decide : 4095 < 2 ^ 12) (Nat.pow_le_pow_right (by omega) (by omega)))
    have h2 : m.testBit i = false := Nat.testBit_lt_two_pow (Nat.lt_of_lt_of_le (by omega : m < 2 ^ 12) (Nat.pow_le_pow_right (by omega) (by omega)))
    rw [h1, h2]; rfl
theorem x_sl1 {S : Nat} (h : S < 65536) : sl (nI S) 1 = nI (S <<< 1) := by
  unfold sl
  rw [pk_shlN ((1 : Int32) &&& 31) 1 (by decide) (by omega), Nat.shiftLeft_eq]
theorem x_sr1 {S : Nat} (h : S < 65536) : sr (nI S) 1 = nI (S >>> 1) := by
  unfold sr
  rw [pk_shrN (by omega) ((1 : Int32) &&& 31) 1 (by decide), Nat.shiftRight_eq_div_pow]
def spN (m S : Nat) : Nat := (S ||| S <<< 1 ||| S >>> 1) &&& (4095 ^^^ m)
theorem x_sp {m S : Nat} (hS : S < 65536) : ((nI S ||| sl (nI S) 1) ||| sr (nI S) 1) &&& nI (4095 ^^^ m) = nI (spN m S) := by
  rw [x_sl1 hS, x_sr1 hS, nx_or, nx_or, nx_and]
  rfl
theorem x_nm {m : Nat} (hm : m < 4096) : 4095 ^^^ m < 4096 := Nat.xor_lt_two_pow (n := 12) (by omega) (by omega)
theorem spN_lt {m S : Nat} (hm : m < 4096) : spN m S < 4096 := Nat.and_lt_two_pow (n := 12) _ (x_nm hm)
theorem spN_or (m A B : Nat) : spN m (A ||| B) = spN m A ||| spN m B := by
  apply Nat.eq_of_testBit_eq
  intro i
  unfold spN
  simp only [Nat.testBit_and, Nat.testBit_or, Nat.testBit_shiftLeft, Nat.testBit_shiftRight]
  cases A.testBit i <;> cases B.testBit i <;> cases A.testBit (i - 1) <;> cases B.testBit (i - 1) <;> cases A.testBit (1 + i) <;> cases B.testBit (1 + i) <;> cases (4095 ^^^ m).testBit i <;> simp
def sq (f : Nat) : Nat → Nat → Nat → Nat → Nat
  | 0, _, _, S => S
  | n + 1, c, y, S => sq f n (wpc f c y) (wpy f c y) (spN (wmk f c y 0) S)
theorem sq_or (f : Nat) : ∀ n c y A B, sq f n c y (A ||| B) = sq f n c y A ||| sq f n c y B := by
  intro n
  induction n with
  | zero => intro c y A B; rfl
  | succ n ih => intro c y A B; rw [sq, sq, sq, spN_or]; exact ih _ _ _ _
theorem sp_0 (m : Nat) : spN m 0 = 0 := by unfold spN; simp
theorem sq_0 (f : Nat) : ∀ n c y, sq f n c y 0 = 0 := by
  intro n
  induction n with
  | zero => intro c y; rfl
  | succ n ih => intro c y; rw [sq, sp_0]; exact ih _ _
def qc (f : Nat) : Nat → Nat → Nat → Nat
  | 0, c, _ => c
  | n + 1, c, y => qc f n (wpc f c y) (wpy f c y)
def qy (f : Nat) : Nat → Nat → Nat → Nat
  | 0, _, y => y
  | n + 1, c, y => qy f n (wpc f c y) (wpy f c y)
theorem sq_add (f b : Nat) : ∀ a c y S, sq f (a + b) c y S = sq f b (qc f a c y) (qy f a c y) (sq f a c y S) := by
  intro a
  induction a with
  | zero => intro c y S; rw [Nat.zero_add]; rfl
  | succ a ih =>
    intro c y S
    have : a + 1 + b = (a + b) + 1 := by omega
    rw [this, sq, ih]; rfl
theorem q_add (f b : Nat) : ∀ a c y, qc f (a + b) c y = qc f b (qc f a c y) (qy f a c y) ∧ qy f (a + b) c y = qy f b (qc f a c y) (qy f a c y) := by
  intro a
  induction a with
  | zero => intro c y; rw [Nat.zero_add]; exact ⟨rfl, rfl⟩
  | succ a ih =>
    intro c y
    have : a + 1 + b = (a + b) + 1 := by omega
    rw [this, qc, qy]
    exact ih _ _
def frc {α : Type} (n : Nat) (k : Nat → α) : α := Nat.rec (k 0) (fun m _ => k (m + 1)) n
theorem frc_eq {α : Type} (n : Nat) (k : Nat → α) : frc n k = k n := by cases n <;> rfl
def sqK (f : Nat) : Nat → Nat → Nat → Nat → Nat
  | 0, _, _, S => S
  | n + 1, c, y, S => frc (wpc f c y) fun c' => frc (wpy f c y) fun y' => frc (spN (wmk f c y 0) S) fun S' => sqK f n c' y' S'
theorem sqK_eq (f : Nat) : ∀ n c y S, sqK f n c y S = sq f n c y S := by
  intro n
  induction n with
  | zero => intro c y S; rfl
  | succ n ih => intro c y S; rw [sqK, frc_eq, frc_eq, frc_eq, ih]; rfl
theorem per1 : ∀ f, f < 10 → ∀ c, c < 12 → ∀ y, y < 2 → qc f 44 c y = qc f 22 c y ∧ qy f 44 c y = qy f 22 c y := by decide +kernel
theorem per2 : ∀ f, f < 10 → ∀ c, c < 12 → ∀ y, y < 2 → ∀ s, s < 12 → frc (sqK f 22 c y (2 ^ s)) (fun S => Nat.beq (sqK f 22 (qc f 22 c y) (qy f 22 c y) S) S) = true := by decide +kernel
theorem per {f c y s : Nat} (hf : f < 10) (hc : c < 12) (hy : y < 2) (hs : s < 12) (j : Nat) : sq f (44 + j) c y (2 ^ s) = sq f (22 + j) c y (2 ^ s) := by
  have h1 := per1 f hf c hc y hy
  have h2 := per2 f hf c hc y hy s hs
  rw [frc_eq] at h2
  have h3 := Nat.eq_of_beq_eq_true h2
  rw [sqK_eq, sqK_eq] at h3
  rw [sq_add, sq_add, h1.1, h1.2, show (44 : Nat) = 22 + 22 from rfl, sq_add f 22 22, h3]
theorem per_all {f c y s k : Nat} (hf : f < 10) (hc : c < 12) (hy : y < 2) (hs : s < 12) (h : ∀ i, i ≤ 288 → (sq f i c y (2 ^ s)).testBit k = false) : ∀ i, (sq f i c y (2 ^ s)).testBit k = false := by
  intro i
  induction i using Nat.strongRecOn with
  | ind i ih =>
    by_cases q : i ≤ 288
    · exact h i q
    · obtain ⟨j, rfl⟩ : ∃ j, i = 44 + j := ⟨i - 44, by omega⟩
      rw [per hf hc hy hs]
      exact ih _ (by omega)
theorem has_N {a k : Nat} (ha : a < 2147483648) (hk : k < 31) : (¬ (sr (nI a) (nI k) &&& 1 = 0)) ↔ a.testBit k = true := by
  rw [srN ha hk, Nat.testBit_eq_decide_div_mod_eq, decide_eq_true_iff]
  have : a / 2 ^ k % 2 < 2 := Nat.mod_lt _ (by omega)
  rw [show (0 : Int32) = nI 0 from rfl, nI_inj (by omega) (by omega)]
  omega
theorem f_hours {f to : Nat} (hf : f < 10) (ht : to < 12) (x1 : Int32) : ∀ m t, t + m = 600 → ∀ n, m < n → ∀ c y S (N : Nat → Int32), c < 12 → y < 2 → S < 4096 → N 48 = nI c → N 49 = nI y → N 50 = nI f → ∃ N' : Nat → Int32,
    (∃ i, i < m ∧ (sq f i c y S).testBit to = true ∧ (∀ j, j < i → (sq f j c y S).testBit to = false) ∧ fX12_hoursTo_L7 x1 (nI to) n N (nI S) (nI t) = some (nI (t + i), N')) ∨
    ((∀ i, i < m → (sq f i c y S).testBit to = false) ∧ fX12_hoursTo_L7 x1 (nI to) n N (nI S) (nI t) = some (1000000, N')) := by
  intro m
  induction m with
  | zero =>
    intro t htm n hn c y S N hc hy hS e1 e2 e3
    obtain ⟨n, rfl⟩ : ∃ q, n = q + 1 := ⟨n - 1, by omega⟩
    have : t = 600 := by omega
    subst this
    refine ⟨N, Or.inr ⟨fun i hi => absurd hi (by omega), ?_⟩⟩
    rw [fX12_hoursTo_L7, if_pos (by decide)]
  | succ m ih =>
    intro t htm n hn c y S N hc hy hS e1 e2 e3
    obtain ⟨n, rfl⟩ : ∃ q, n = q + 1 := ⟨n - 1, by omega⟩
    rw [fX12_hoursTo_L7, if_neg (show ¬ (600 : Int32) ≤ nI t from nI_ge (a := t) (b := 600) (by omega) (by omega)), f_hasM, bsome]
    simp only [bI0]
    by_cases b : S.testBit to = true
    · rw [if_neg (by rw [Decidable.not_not]; exact (has_N (by omega) (by omega)).mpr b)]
      exact ⟨N, Or.inl ⟨0, by omega, b, fun j hj => absurd hj (by omega), by rw [Nat.add_zero]⟩⟩
    · rw [if_pos (fun h => b ((has_N (by omega) (by omega)).mp h))]
      obtain ⟨N1, g1, g2, g3, g4⟩ := f_blowHo hf hc hy e1 e2 e3
      obtain ⟨p1, p2⟩ := wp_lt f c y hc hy
      have hm : wmk f c y 0 < 4096 := wmk_lt _ _ _ _ hc hy (by omega)
      have b' : S.testBit to = false := by cases h : S.testBit to with | true => exact absurd h b | false => rfl
      rw [g1, bsome, Int32.and_assoc, x_not _ hm, x_sp (by omega), nI_1]
      obtain ⟨N', h⟩ := ih (t + 1) (by omega) n (by omega) _ _ (spN (wmk f c y 0) S) N1 p1 p2 (spN_lt hm) g2 g3 g4
      refine ⟨N', ?_⟩
      rcases h with ⟨i, h1, h2, h3, h4⟩ | ⟨h1, h2⟩
      · refine Or.inl ⟨i + 1, by omega, h2, ?_, ?_⟩
        · intro j hj
          cases j with
          | zero => exact b'
          | succ j => exact h3 j (by omega)
        · rw [show t + (i + 1) = t + 1 + i by omega]; exact h4
      · refine Or.inr ⟨?_, h2⟩
        intro j hj
        cases j with
        | zero => exact b'
        | succ j => exact h1 j (by omega)
theorem f_look {to : Nat} (ht : to < 12) (fi x4 : Int32) (hx : ¬ x4 = -6) (w : Nat → Int32) {A B C : Nat} (hA : A < 4096) (hB : B < 4096) (hC : C < 4096) (eA : w 0 = nI A) (eB : w 1 = nI B) (eC : w 2 = nI C) :
    fX4_lookFor (-6) fi w (nI to) x4 = some (if A.testBit to = true then (x4, 0) else if B.testBit to = true then (x4, 1) else if C.testBit to = true then (x4, 2) else (-6, fi)) := by
  unfold fX4_lookFor
  rw [show zF = 99996 + 1 + 1 + 1 + 1 from rfl, fX4_lookFor_L2, if_neg (by decide), if_pos rfl]
  simp (disch := omega) only [inb_lit, toN_lit, gd_T, eA, eB, eC, f_has, bsome, bI0, fX4_lookFor_b39]
  have hA' := has_N (a := A) (k := to) (by omega) (by omega)
  have hB' := has_N (a := B) (k := to) (by omega) (by omega)
  have hC' := has_N (a := C) (k := to) (by omega) (by omega)
  have k0 : inb 0 3 = true := by decide
  have k1 : inb (0 + 1) 3 = true := by decide
  have k2 : inb (0 + 1 + 1) 3 = true := by decide
  have t1 : ((0 : Int32) + 1).toNatClampNeg = 1 := by decide
  have t2 : ((0 : Int32) + 1 + 1).toNatClampNeg = 2 := by decide
  by_cases a : A.testBit to = true
  · rw [if_neg (fun h => h (hA'.mpr a)), if_pos a, fX4_lookFor_L2, if_neg (by decide), if_neg hx]; rfl
  · rw [if_pos (fun h => a (hA'.mp h)), if_neg a, fX4_lookFor_L2, if_neg (by decide), if_pos rfl, k1, gd_T, t1, eB, f_has, bsome]
    simp only [bI0, fX4_lookFor_b39]
    by_cases b : B.testBit to = true
    · rw [if_neg (fun h => h (hB'.mpr b)), if_pos b, fX4_lookFor_L2, if_neg (by decide), if_neg hx]; rfl
    · rw [if_pos (fun h => b (hB'.mp h)), if_neg b, fX4_lookFor_L2, if_neg (by decide), if_pos rfl, k2, gd_T, t2, eC, f_has, bsome]
      simp only [bI0, fX4_lookFor_b39]
      by_cases c : C.testBit to = true
      · rw [if_neg (fun h => h (hC'.mpr c)), if_pos c, fX4_lookFor_L2, if_pos (by decide)]; rfl
      · rw [if_pos (fun h => c (hC'.mp h)), if_neg c, fX4_lookFor_L2, if_pos (by decide)]; rfl
def w3 (w : Nat → Int32) (A B C : Nat) : Nat → Int32 := upd (upd (upd w 0 (nI A)) 1 (nI B)) 2 (nI C)
theorem w3_0 (w : Nat → Int32) (A B C : Nat) : w3 w A B C 0 = nI A := rfl
theorem w3_1 (w : Nat → Int32) (A B C : Nat) : w3 w A B C 1 = nI B := rfl
theorem w3_2 (w : Nat → Int32) (A B C : Nat) : w3 w A B C 2 = nI C := rfl
theorem and_c (a b : Int32) : a &&& b = b &&& a := by
  refine b_ext (fun i _ => ?_)
  rw [b_and, b_and, Bool.and_comm]
theorem f_spr (x : Int32) : fX4_spread x = some ((x ||| sl x 1) ||| sr x 1) := rfl
theorem f_L87s {f to : Nat} (x2 : Int32) {t : Nat} (h1 : 2 ≤ t) (h2 : t ≤ 288) (K : Int32 → Int32 → (Nat → Int32) → Int32 → Int32 → Int32 → Option (Int32 × Int32 × (Nat → Int32) × Int32 × Int32)) (w : Nat → Int32) (A B C : Nat) (hA : A < 65536) (hB : B < 65536) (hC : C < 65536) (eA : w 0 = nI A) (eB : w 1 = nI B) (eC : w 2 = nI C) (m : Nat) (c y fi : Int32) :
    fX4_seek_L87 (nI f) x2 (nI to) K zF (-6) fi w c y (nI t) (nI (4095 ^^^ m)) 0 = Option.bind (fX4_lookFor (-6) fi (w3 w (spN m A) (spN m B) (spN m C)) (nI to) (nI t)) (fun v => K v.1 v.2 (w3 w (spN m A) (spN m B) (spN m C)) c y (nI (t + 1))) := by
  have n1 : ¬ nI t = (1 : Int32) := fun e => by have := (nI_inj (b := 1) (by omega) (by omega)).mp e; omega
  have k0 : inb 0 3 = true := by decide
  have k1 : inb (0 + 1) 3 = true := by decide
  have k2 : inb (0 + 1 + 1) 3 = true := by decide
  have t0 : (0 : Int32).toNatClampNeg = 0 := by decide
  have t1 : ((0 : Int32) + 1).toNatClampNeg = 1 := by decide
  have t2 : ((0 : Int32) + 1 + 1).toNatClampNeg = 2 := by decide
  rw [show zF = 99996 + 1 + 1 + 1 + 1 from rfl]
  rw [fX4_seek_L87, if_neg (by decide), if_neg n1, k0, gd_T, t0, f_spr, bsome, fX4_seek_b119, k0, gd_T, t0, eA, x_sp hA]
  rw [fX4_seek_L87, if_neg (by decide), if_neg n1, k1, gd_T, t1, f_spr, bsome, fX4_seek_b119, k1, gd_T, t1, upd_ne (by omega), eB, x_sp hB]
  rw [fX4_seek_L87, if_neg (by decide), if_neg n1, k2, gd_T, t2, f_spr, bsome, fX4_seek_b119, k2, gd_T, t2, upd_ne (by omega), upd_ne (by omega), eC, x_sp hC]
  rw [fX4_seek_L87, if_pos (by decide), nI_1]
  rfl
theorem f_L87o {f to : Nat} (x2 : Int32) (K : Int32 → Int32 → (Nat → Int32) → Int32 → Int32 → Int32 → Option (Int32 × Int32 × (Nat → Int32) × Int32 × Int32)) (w : Nat → Int32) (A B C : Nat) (eA : w 0 = nI A) (eB : w 1 = nI B) (eC : w 2 = nI C) (m : Nat) (c y fi : Int32) :
    fX4_seek_L87 (nI f) x2 (nI to) K zF (-6) fi w c y 1 (nI (4095 ^^^ m)) 0 = Option.bind (fX4_lookFor (-6) fi (w3 w (A &&& (4095 ^^^ m)) (B &&& (4095 ^^^ m)) (C &&& (4095 ^^^ m))) (nI to) 1) (fun v => K v.1 v.2 (w3 w (A &&& (4095 ^^^ m)) (B &&& (4095 ^^^ m)) (C &&& (4095 ^^^ m))) c y (nI 2)) := by
  have k0 : inb 0 3 = true := by decide
  have k1 : inb (0 + 1) 3 = true := by decide
  have k2 : inb (0 + 1 + 1) 3 = true := by decide
  have t0 : (0 : Int32).toNatClampNeg = 0 := by decide
  have t1 : ((0 : Int32) + 1).toNatClampNeg = 1 := by decide
  have t2 : ((0 : Int32) + 1 + 1).toNatClampNeg = 2 := by decide
  rw [show zF = 99996 + 1 + 1 + 1 + 1 from rfl]
  rw [fX4_seek_L87, if_neg (by decide), if_pos rfl, k0, gd_T, t0, fX4_seek_b119, k0, gd_T, t0, eA, nx_and]
  rw [fX4_seek_L87, if_neg (by decide), if_pos rfl, k1, gd_T, t1, fX4_seek_b119, k1, gd_T, t1, upd_ne (by omega), eB, nx_and]
  rw [fX4_seek_L87, if_neg (by decide), if_pos rfl, k2, gd_T, t2, fX4_seek_b119, k2, gd_T, t2, upd_ne (by omega), upd_ne (by omega), eC, nx_and]
  rw [fX4_seek_L87, if_pos (by decide)]
  rfl
def g3 (A B C : Nat) (k : Nat) : Nat := if k = 0 then A else if k = 1 then B else C
theorem f_seek2 {f to : Nat} (hf : f < 10) (ht : to < 12) (x2 : Int32) : ∀ m t, t + m = 289 → 2 ≤ t → ∀ n, m < n → ∀ c y A B C (w : Nat → Int32), c < 12 → y < 2 → A < 4096 → B < 4096 → C < 4096 → w 0 = nI A → w 1 = nI B → w 2 = nI C → ∃ (w' : Nat → Int32) (c' y' : Int32),
    (∃ i k, i < m ∧ k < 3 ∧ (sq f (i + 1) c y (g3 A B C k)).testBit to = true ∧ (∀ k', k' < k → (sq f (i + 1) c y (g3 A B C k')).testBit to = false) ∧ (∀ j, j < i → ∀ k', k' < 3 → (sq f (j + 1) c y (g3 A B C k')).testBit to = false) ∧ fX4_seek_L55 (nI f) x2 (nI to) n (-6) (-6) w (nI c) (nI y) (nI t) = some (nI (t + i), nI k, w', c', y')) ∨
    ((∀ i, i < m → ∀ k', k' < 3 → (sq f (i + 1) c y (g3 A B C k')).testBit to = false) ∧ fX4_seek_L55 (nI f) x2 (nI to) n (-6) (-6) w (nI c) (nI y) (nI t) = some (-6, -6, w', c', y')) := by
  intro m
  induction m with
  | zero =>
    intro t htm h2 n hn c y A B C w hc hy hA hB hC eA eB eC
    obtain ⟨n, rfl⟩ : ∃ q, n = q + 1 := ⟨n - 1, by omega⟩
    have : t = 289 := by omega
    subst this
    refine ⟨w, nI c, nI y, Or.inr ⟨fun i hi => absurd hi (by omega), ?_⟩⟩
    rw [fX4_seek_L55, if_pos (by decide)]
    rfl
  | succ m ih =>
    intro t htm h2 n hn c y A B C w hc hy hA hB hC eA eB eC
    obtain ⟨n, rfl⟩ : ∃ q, n = q + 1 := ⟨n - 1, by omega⟩
    obtain ⟨p1, p2⟩ := wp_lt f c y hc hy
    have hm : wmk f c y 0 < 4096 := wmk_lt _ _ _ _ hc hy (by omega)
    rw [fX4_seek_L55, if_neg (show ¬ (288 : Int32) < nI t from nI_nlt (a := 288) (b := t) (by omega) (by omega)), if_pos rfl, f_blowAn hf hc hy, bsome]
    simp only []
    rw [x_not _ hm, f_L87s x2 h2 (by omega) _ w A B C (by omega) (by omega) (by omega) eA eB eC, f_look ht _ _ (nI_n6 (by omega)) _ (spN_lt hm) (spN_lt hm) (spN_lt hm) (w3_0 _ _ _ _) (w3_1 _ _ _ _) (w3_2 _ _ _ _), bsome]
    have done : ∀ (k : Int32), fX4_seek_L55 (nI f) x2 (nI to) n (nI t) k (w3 w (spN (wmk f c y 0) A) (spN (wmk f c y 0) B) (spN (wmk f c y 0) C)) (nI (wpc f c y)) (nI (wpy f c y)) (nI (t + 1)) = some (nI t, k, w3 w (spN (wmk f c y 0) A) (spN (wmk f c y 0) B) (spN (wmk f c y 0) C), nI (wpc f c y), nI (wpy f c y)) := by
      intro k
      obtain ⟨n, rfl⟩ : ∃ q, n = q + 1 := ⟨n - 1, by omega⟩
      rw [fX4_seek_L55, if_neg (nI_n6 (by omega))]
      by_cases q : (288 : Int32) < nI (t + 1)
      · rw [if_pos q]; rfl
      · rw [if_neg q]; rfl
    have fls : ∀ {b : Bool}, ¬ b = true → b = false := by intro b; cases b <;> simp
    by_cases a : (spN (wmk f c y 0) A).testBit to = true
    · rw [if_pos a]
      exact ⟨_, _, _, Or.inl ⟨0, 0, by omega, by omega, a, fun k' hk => absurd hk (by omega), fun j hj => absurd hj (by omega), done 0⟩⟩
    · rw [if_neg a]
      by_cases b : (spN (wmk f c y 0) B).testBit to = true
      · rw [if_pos b]
        refine ⟨_, _, _, Or.inl ⟨0, 1, by omega, by omega, b, ?_, fun j hj => absurd hj (by omega), done 1⟩⟩
        intro k' hk
        have : k' = 0 := by omega
        subst this
        exact fls a
      · rw [if_neg b]
        by_cases d : (spN (wmk f c y 0) C).testBit to = true
        · rw [if_pos d]
          refine ⟨_, _, _, Or.inl ⟨0, 2, by omega, by omega, d, ?_, fun j hj => absurd hj (by omega), done 2⟩⟩
          intro k' hk
          have : k' = 0 ∨ k' = 1 := by omega
          rcases this with rfl | rfl
          · exact fls a
          · exact fls b
        · rw [if_neg d]
          have base : ∀ k', k' < 3 → (sq f (0 + 1) c y (g3 A B C k')).testBit to = false := by
            intro k' hk
            have : k' = 0 ∨ k' = 1 ∨ k' = 2 := by omega
            rcases this with rfl | rfl | rfl
            · exact fls a
            · exact fls b
            · exact fls d
          have sg : ∀ i k', sq f (i + 1) (wpc f c y) (wpy f c y) (g3 (spN (wmk f c y 0) A) (spN (wmk f c y 0) B) (spN (wmk f c y 0) C) k') = sq f (i + 1 + 1) c y (g3 A B C k') := by
            intro i k'
            have : g3 (spN (wmk f c y 0) A) (spN (wmk f c y 0) B) (spN (wmk f c y 0) C) k' = spN (wmk f c y 0) (g3 A B C k') := by
              unfold g3
              by_cases q : k' = 0
              · rw [if_pos q, if_pos q]
              · rw [if_neg q, if_neg q]
                by_cases q : k' = 1
                · rw [if_pos q, if_pos q]
                · rw [if_neg q, if_neg q]
            rw [this]
            rfl
          obtain ⟨w', c', y', h⟩ := ih (t + 1) (by omega) (by omega) n (by omega) _ _ _ _ _ (w3 w (spN (wmk f c y 0) A) (spN (wmk f c y 0) B) (spN (wmk f c y 0) C)) p1 p2 (spN_lt hm) (spN_lt hm) (spN_lt hm) (w3_0 _ _ _ _) (w3_1 _ _ _ _) (w3_2 _ _ _ _)
          refine ⟨w', c', y', ?_⟩
          rcases h with ⟨i, k, h1, h2, h3, h4, h5, h6⟩ | ⟨h1, h2⟩
          · refine Or.inl ⟨i + 1, k, by omega, h2, ?_, ?_, ?_, ?_⟩
            · rw [← sg]; exact h3
            · intro k' hk; rw [← sg]; exact h4 k' hk
            · intro j hj k' hk
              cases j with
              | zero => exact base k' hk
              | succ j => rw [← sg]; exact h5 j (by omega) k' hk
            · rw [show t + (i + 1) = t + 1 + i by omega]; exact h6
          · refine Or.inr ⟨?_, h2⟩
            intro j hj k' hk
            cases j with
            | zero => exact base k' hk
            | succ j => rw [← sg]; exact h1 j (by omega) k' hk
theorem f_seek {f to s c y : Nat} (hf : f < 10) (ht : to < 12) (hs : s < 12) (hc : c < 12) (hy : y < 2) (hne : s ≠ to) (h0 f0 : Int32) (w0 : Nat → Int32) : ∃ (w' : Nat → Int32) (c' y' : Int32),
    (∃ i k, i < 288 ∧ k < 3 ∧ (sq f i (wpc f c y) (wpy f c y) (g3 (2 ^ s &&& (4095 ^^^ wmk f c y 0)) (2 ^ (s + 1) &&& (4095 ^^^ wmk f c y 0)) (2 ^ s >>> 1 &&& (4095 ^^^ wmk f c y 0)) k)).testBit to = true ∧ (∀ k', k' < k → (sq f i (wpc f c y) (wpy f c y) (g3 (2 ^ s &&& (4095 ^^^ wmk f c y 0)) (2 ^ (s + 1) &&& (4095 ^^^ wmk f c y 0)) (2 ^ s >>> 1 &&& (4095 ^^^ wmk f c y 0)) k')).testBit to = false) ∧ (∀ j, j < i → ∀ k', k' < 3 → (sq f j (wpc f c y) (wpy f c y) (g3 (2 ^ s &&& (4095 ^^^ wmk f c y 0)) (2 ^ (s + 1) &&& (4095 ^^^ wmk f c y 0)) (2 ^ s >>> 1 &&& (4095 ^^^ wmk f c y 0)) k')).testBit to = false) ∧ fX4_seek h0 f0 w0 (nI c) (nI y) (nI f) (nI s) (nI to) = some (nI (i + 1), nI k, w', c', y')) ∨
    ((∀ i, i < 288 → ∀ k', k' < 3 → (sq f i (wpc f c y) (wpy f c y) (g3 (2 ^ s &&& (4095 ^^^ wmk f c y 0)) (2 ^ (s + 1) &&& (4095 ^^^ wmk f c y 0)) (2 ^ s >>> 1 &&& (4095 ^^^ wmk f c y 0)) k')).testBit to = false) ∧ fX4_seek h0 f0 w0 (nI c) (nI y) (nI f) (nI s) (nI to) = some (-6, -6, w', c', y')) := by
  obtain ⟨p1, p2⟩ := wp_lt f c y hc hy
  have hm : wmk f c y 0 < 4096 := wmk_lt _ _ _ _ hc hy (by omega)
  have hlt : ∀ a, a &&& (4095 ^^^ wmk f c y 0) < 4096 := fun a => Nat.and_lt_two_pow (n := 12) _ (x_nm hm)
  have hpow : 2 ^ s < 65536 := Nat.pow_lt_pow_right (n := 16) (by omega) (by omega)
  unfold fX4_seek fX4_seek_b12
  rw [if_neg (fun e => hne ((nI_inj (by omega) (by omega)).mp e))]
  simp (disch := omega) only [inb_lit, toN_lit, gd_T]
  rw [sl_1 _ (by omega), nI_1, sl_1 _ (by omega), x_sr1 hpow]
  rw [show zF = 99998 + 1 + 1 from rfl, fX4_seek_L55, if_neg (by decide), if_pos rfl, f_blowAn hf hc hy, bsome]
  simp only []
  rw [x_not _ hm, f_L87o _ _ _ (2 ^ s) (2 ^ (s + 1)) (2 ^ s >>> 1) rfl rfl rfl, f_look ht _ _ (by decide) _ (hlt _) (hlt _) (hlt _) (w3_0 _ _ _ _) (w3_1 _ _ _ _) (w3_2 _ _ _ _), bsome]
  generalize hA : 2 ^ s &&& (4095 ^^^ wmk f c y 0) = A
  generalize hB : 2 ^ (s + 1) &&& (4095 ^^^ wmk f c y 0) = B
  generalize hC : 2 ^ s >>> 1 &&& (4095 ^^^ wmk f c y 0) = C
  have lA : A < 4096 := hA ▸ hlt _
  have lB : B < 4096 := hB ▸ hlt _
  have lC : C < 4096 := hC ▸ hlt _
  generalize hw : w3 (upd (upd (upd w0 0 (nI (2 ^ s))) 1 (nI (2 ^ (s + 1)))) 2 (nI (2 ^ s >>> 1))) A B C = w
  have done : ∀ (k : Int32), fX4_seek_L55 (nI f) (nI s) (nI to) (99998 + 1) 1 k w (nI (wpc f c y)) (nI (wpy f c y)) (nI 2) = some (1, k, w, nI (wpc f c y), nI (wpy f c y)) := by
    intro k
    rw [fX4_seek_L55, if_neg (by decide), if_neg (by decide)]
    rfl
  have fls : ∀ {b : Bool}, ¬ b = true → b = false := by intro b; cases b <;> simp
  by_cases a : A.testBit to = true
  · rw [if_pos a]
    exact ⟨_, _, _, Or.inl ⟨0, 0, by omega, by omega, a, fun k' hk => absurd hk (by omega), fun j hj => absurd hj (by omega), done 0⟩⟩
  · rw [if_neg a]
    by_cases b : B.testBit to = true
    · rw [if_pos b]
      refine ⟨_, _, _, Or.inl ⟨0, 1, by omega, by omega, b, ?_, fun j hj => absurd hj (by omega), done 1⟩⟩
      intro k' hk
      have : k' = 0 := by omega
      subst this
      exact fls a
    · rw [if_neg b]
      by_cases d : C.testBit to = true
      · rw [if_pos d]
        refine ⟨_, _, _, Or.inl ⟨0, 2, by omega, by omega, d, ?_, fun j hj => absurd hj (by omega), done 2⟩⟩
        intro k' hk
        have : k' = 0 ∨ k' = 1 := by omega
        rcases this with rfl | rfl
        · exact fls a
        · exact fls b
      · rw [if_neg d]
        have base : ∀ k', k' < 3 → (sq f 0 (wpc f c y) (wpy f c y) (g3 A B C k')).testBit to = false := by
          intro k' hk
          have : k' = 0 ∨ k' = 1 ∨ k' = 2 := by omega
          rcases this with rfl | rfl | rfl
          · exact fls a
          · exact fls b
          · exact fls d
        obtain ⟨w', c', y', h⟩ := f_seek2 (f := f) (to := to) hf ht (nI s) 287 2 (by omega) (by omega) (99998 + 1) (by omega) (wpc f c y) (wpy f c y) A B C w p1 p2 lA lB lC (hw ▸ w3_0 _ _ _ _) (hw ▸ w3_1 _ _ _ _) (hw ▸ w3_2 _ _ _ _)
        refine ⟨w', c', y', ?_⟩
        rcases h with ⟨i, k, h1, h2, h3, h4, h5, h6⟩ | ⟨h1, h2⟩
        · refine Or.inl ⟨i + 1, k, by omega, h2, h3, h4, ?_, ?_⟩
          · intro j hj k' hk
            cases j with
            | zero => exact base k' hk
            | succ j => exact h5 j (by omega) k' hk
          · rw [show i + 1 + 1 = 2 + i by omega]; exact h6
        · refine Or.inr ⟨?_, h2⟩
          intro j hj k' hk
          cases j with
          | zero => exact base k' hk
          | succ j => exact h1 j (by omega) k' hk
