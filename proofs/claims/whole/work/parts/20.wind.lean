/-! the wind: when, gale -/
theorem nx_or (a b : Nat) : nI a ||| nI b = nI (a ||| b) := by
  apply Int32.toBitVec_inj.1
  show BitVec.ofNat 32 a ||| BitVec.ofNat 32 b = BitVec.ofNat 32 (a ||| b)
  apply BitVec.eq_of_getLsbD_eq
  intro i hi
  simp [hi]
theorem srN {a k : Nat} (ha : a < 2147483648) (hk : k < 31) : sr (nI a) (nI k) &&& 1 = nI (a / 2 ^ k % 2) := by
  unfold sr
  rw [pk_shrN ha (nI k &&& 31) k (s_l k (by omega))]
  have : a / 2 ^ k ≤ a := Nat.div_le_self _ _
  exact pk_andN (by omega) 1 (by decide)
def wmk : Nat → Nat → Nat → Nat → Nat
  | 0, _, _, x => x
  | n + 1, c, y, x => wmk n (wsc c y) (wsy c y) (x ||| 2 ^ (wsc c y))
def wpc : Nat → Nat → Nat → Nat
  | 0, c, _ => c
  | n + 1, c, y => wpc n (wsc c y) (wsy c y)
def wpy : Nat → Nat → Nat → Nat
  | 0, _, y => y
  | n + 1, c, y => wpy n (wsc c y) (wsy c y)
theorem wp_lt : ∀ n c y, c < 12 → y < 2 → wpc n c y < 12 ∧ wpy n c y < 2 := by
  intro n
  induction n with
  | zero => intro c y h1 h2; exact ⟨h1, h2⟩
  | succ n ih => intro c y h1 h2; exact ih _ _ (wsc_lt c h1 y h2) (wsy_lt c h1 y h2)
theorem wmk_lt : ∀ n c y x, c < 12 → y < 2 → x < 4096 → wmk n c y x < 4096 := by
  intro n
  induction n with
  | zero => intro c y x _ _ h; exact h
  | succ n ih =>
    intro c y x h1 h2 h3
    exact ih _ _ _ (wsc_lt c h1 y h2) (wsy_lt c h1 y h2) (Nat.or_lt_two_pow (n := 12) h3 (Nat.pow_lt_pow_right (by omega) (wsc_lt c h1 y h2)))
theorem f_blowA {f : Nat} (hf : f < 10) : ∀ m i, i + m = f → ∀ n, m < n → ∀ c y x, c < 12 → y < 2 → fX10_blowAnHour_L4 (nI f) n (nI c) (nI y) (nI x) (nI i) = some (nI (wmk m c y x), nI (wpc m c y), nI (wpy m c y)) := by
  intro m
  induction m with
  | zero =>
    intro i hi n hn c y x hc hy
    obtain ⟨n, rfl⟩ : ∃ q, n = q + 1 := ⟨n - 1, by omega⟩
    have : i = f := by omega
    subst this
    rw [fX10_blowAnHour_L4, if_pos (nI_le (Nat.le_refl i) (by omega))]
    rfl
  | succ m ih =>
    intro i hi n hn c y x hc hy
    obtain ⟨n, rfl⟩ : ∃ q, n = q + 1 := ⟨n - 1, by omega⟩
    have h1 := wsc_lt c hc y hy
    rw [fX10_blowAnHour_L4, if_neg (nI_ge (by omega) (by omega)), f_step c hc y hy, bsome, sl_1 _ (by omega), nx_or, nI_1]
    exact ih (i + 1) (by omega) n (by omega) _ _ _ h1 (wsy_lt c hc y hy)
theorem f_blowAn {f c y : Nat} (hf : f < 10) (hc : c < 12) (hy : y < 2) : fX10_blowAnHour (nI c) (nI y) (nI f) = some (nI (wmk f c y 0), nI (wpc f c y), nI (wpy f c y)) :=
  f_blowA hf f 0 (by omega) zF (by unfold zF; omega) c y 0 hc hy
theorem f_blowH {f : Nat} (hf : f < 10) : ∀ m i, i + m = f → ∀ n, m < n → ∀ c y x (N : Nat → Int32), c < 12 → y < 2 → N 48 = nI c → N 49 = nI y → N 50 = nI f → ∃ N' : Nat → Int32, fX12_blowHour_L4 n N (nI x) (nI i) = some (nI (wmk m c y x), N') ∧ N' 48 = nI (wpc m c y) ∧ N' 49 = nI (wpy m c y) ∧ N' 50 = nI f := by
  intro m
  induction m with
  | zero =>
    intro i hi n hn c y x N hc hy e1 e2 e3
    obtain ⟨n, rfl⟩ : ∃ q, n = q + 1 := ⟨n - 1, by omega⟩
    have : i = f := by omega
    subst this
    refine ⟨N, ?_, e1, e2, e3⟩
    rw [fX12_blowHour_L4]
    simp (disch := omega) only [inb_lit, toN_lit, gd_T]
    rw [e3, if_pos (nI_le (Nat.le_refl i) (by omega))]
    rfl
  | succ m ih =>
    intro i hi n hn c y x N hc hy e1 e2 e3
    obtain ⟨n, rfl⟩ : ∃ q, n = q + 1 := ⟨n - 1, by omega⟩
    have h1 := wsc_lt c hc y hy
    obtain ⟨N', g1, g2, g3, g4⟩ := ih (i + 1) (by omega) n (by omega) _ _ (x ||| 2 ^ (wsc c y)) (upd (upd N 49 (nI (wsy c y))) 48 (nI (wsc c y))) h1 (wsy_lt c hc y hy) (upd_eq rfl) (by rw [upd_ne (by omega), upd_eq rfl]) (by rw [upd_ne (by omega), upd_ne (by omega)]; exact e3)
    refine ⟨N', ?_, g2, g3, g4⟩
    rw [fX12_blowHour_L4]
    simp (disch := omega) only [inb_lit, toN_lit, gd_T, f_blowOnM hc hy e1 e2, bsome, upd_eq]
    rw [e3, if_neg (nI_ge (by omega) (by omega)), sl_1 _ (by omega), nx_or, nI_1]
    exact g1
theorem f_blowHo {f c y : Nat} (hf : f < 10) (hc : c < 12) (hy : y < 2) {N : Nat → Int32} (e1 : N 48 = nI c) (e2 : N 49 = nI y) (e3 : N 50 = nI f) : ∃ N' : Nat → Int32, fX12_blowHour N = some (nI (wmk f c y 0), N') ∧ N' 48 = nI (wpc f c y) ∧ N' 49 = nI (wpy f c y) ∧ N' 50 = nI f :=
  f_blowH hf f 0 (by omega) zF (by unfold zF; omega) c y 0 N hc hy e1 e2 e3
theorem or_0 (x : Int32) : x ||| 0 = x := by
  refine b_ext (fun i _ => ?_)
  rw [b_or, b_0]
  simp
theorem when_run {hr w1 w2 w3 x1 a1 a2 a3 a4 : Int32} {B : Nat → Int32} (eh : hr = B 51) {f : Nat} (hf : f < 10) : ∀ m i, i + m = 9 → ∀ n1 n2, m < n1 → m < n2 → ∀ c y x (N : Nat → Int32), c < 12 → y < 2 → N 48 = nI c → N 49 = nI y → N 50 = nI f → ∃ (r s1 s2 : Int32) (N' : Nat → Int32), fX11_when_L27 hr w1 w2 w3 x1 n1 (nI c) (nI y) (nI f) x (nI i) = some (r, s1, s2, nI f) ∧ fX12_when_L17 B x1 n2 a1 a2 a3 a4 N x (nI i) = some (r, a1, a2, a3, a4, N') := by
  intro m
  induction m with
  | zero =>
    intro i hi n1 n2 h1 h2 c y x N hc hy e1 e2 e3
    obtain ⟨n1, rfl⟩ : ∃ q, n1 = q + 1 := ⟨n1 - 1, by omega⟩
    obtain ⟨n2, rfl⟩ : ∃ q, n2 = q + 1 := ⟨n2 - 1, by omega⟩
    have : i = 9 := by omega
    subst this
    rw [fX11_when_L27, fX12_when_L17, if_pos (by decide), if_pos (by decide)]
    exact ⟨_, _, _, _, rfl, rfl⟩
  | succ m ih =>
    intro i hi n1 n2 h1 h2 c y x N hc hy e1 e2 e3
    obtain ⟨n1, rfl⟩ : ∃ q, n1 = q + 1 := ⟨n1 - 1, by omega⟩
    obtain ⟨n2, rfl⟩ : ∃ q, n2 = q + 1 := ⟨n2 - 1, by omega⟩
    obtain ⟨p1, p2⟩ := wp_lt f c y hc hy
    obtain ⟨N', g1, g2, g3, g4⟩ := f_blowHo hf hc hy e1 e2 e3
    rw [fX11_when_L27, fX12_when_L17]
    simp (disch := omega) only [lit_nI_lt, lit_nI_le, f_blowAn hf hc hy, g1, bsome, f_has, f_hasM, bI0, fX11_when_b64, fX12_when_b53, a_lit, inb_lit, toN_lit, gd_T]
    rw [if_neg (show ¬ 8 < i by omega), if_neg (show ¬ 9 ≤ i by omega), eh]
    by_cases c1 : ¬ (¬ (sr (nI (wmk f c y 0)) x1 &&& 1 = 0))
    · rw [if_pos c1, if_pos c1, or_0, ← eh]
      exact ih (i + 1) (by omega) n1 n2 (by omega) (by omega) _ _ _ N' p1 p2 g2 g3 g4
    · rw [if_neg c1, if_neg c1, ← eh]
      exact ih (i + 1) (by omega) n1 n2 (by omega) (by omega) _ _ _ N' p1 p2 g2 g3 g4
theorem op_when {ce ho ow hd li go lk : Nat → Int32} {wc wy wf hr dy : Int32} {B : Nat → Int32} (hT : TR ce ho ow hd li go lk wc wy wf hr dy B) (hB : BI B) (fc fy ff o1 o2 o3 o4 : Int32) (N : Nat → Int32) (x1 : Int32) :
    ∃ (r s1 s2 s3 p1 p2 p3 p4 : Int32) (N' : Nat → Int32), fX11_when hr fc fy ff wc wy wf x1 = some (r, s1, s2, s3) ∧ fX12_when o1 o2 o3 o4 B N x1 = some (r, p1, p2, p3, p4, N') := by
  unfold fX11_when fX12_when
  simp only [f_isCell, f_isCellM, bsome, bI0, f_asNow]
  by_cases h1 : 0 ≤ x1 ∧ x1 ≤ 11
  · simp only [h1, not_true_eq_false, and_self, if_false]
    unfold fX10_become fX10_put
    simp only [bsome]
    obtain ⟨c, hc, e1⟩ := hB.2.2.2.2.2.2.1
    obtain ⟨y, hy, e2⟩ := hB.2.2.2.2.2.2.2.1
    obtain ⟨f, hf1, hf, e3⟩ := hB.2.2.2.2.2.2.2.2.1
    have t8 := hT.2.2.2.2.2.2.2.1
    have t9 := hT.2.2.2.2.2.2.2.2.1
    have t10 := hT.2.2.2.2.2.2.2.2.2.1
    obtain ⟨r, s1, s2, N', g1, g2⟩ := when_run (w1 := wc) (w2 := wy) (w3 := wf) (x1 := x1) (a1 := 0) (a2 := -6) (a3 := -6) (a4 := -6) hT.2.2.2.2.2.2.2.2.2.2.1 hf 8 1 (by omega) zF zF (by decide) (by decide) c y 0 (cp B N 56) hc hy (by rw [cp_in (by omega)]; exact e1) (by rw [cp_in (by omega)]; exact e2) (by rw [cp_in (by omega)]; exact e3)
    have q1 : wc = nI c := t8.trans e1
    have q2 : wy = nI y := t9.trans e2
    have q3 : wf = nI f := t10.trans e3
    have g1' : fX11_when_L27 hr wc wy wf x1 zF wc wy wf 0 1 = some (r, s1, s2, nI f) := by
      have : fX11_when_L27 hr wc wy wf x1 zF (nI c) (nI y) (nI f) 0 1 = some (r, s1, s2, nI f) := g1
      rw [← q1, ← q2, ← q3] at this
      rw [← q3]
      exact this
    have g2' : fX12_when_L17 B x1 zF 0 (-6) (-6) (-6) (cp B N 56) 0 1 = some (r, 0, -6, -6, -6, N') := g2
    rw [g1', g2']
    exact ⟨_, _, _, _, _, _, _, _, _, rfl, rfl⟩
  · simp only [h1, not_false_eq_true, if_true]
    exact ⟨_, _, _, _, _, _, _, _, _, rfl, rfl⟩
/-! the gale -/
def rcF (c : Nat) : Nat := if c = 0 ∨ c = 11 then 45 else if c = 1 ∨ c = 10 then 71 else if c = 2 ∨ c = 9 then 84 else if c = 3 ∨ c = 8 then 93 else if c = 4 ∨ c = 7 then 98 else 99
def upV (c w : Nat) : Nat := if w = 0 then rcF c else 980
theorem cf_ind (a b c wc wy wf x1 x2 x3 : Int32) : fX0_countFrom a b c wc wy wf x1 x2 x3 = fX0_countFrom a b c 0 0 0 x1 x2 x3 := by
  unfold fX0_countFrom fX10_put
  simp only [bsome]
theorem ct_ind (a b c wc wy wf x1 : Int32) : fX0_count a b c wc wy wf x1 = fX0_count 0 0 0 0 0 0 x1 := by
  unfold fX0_count
  have e : zF = 99999 + 1 := rfl
  rw [e, fX0_count_L17, fX0_count_L17, if_neg (by decide), if_neg (by decide), cf_ind 0 0 0 wc wy wf]
theorem g_cls : ∀ c, c < 12 → (fX0_count 0 0 0 0 0 0 (nI c)).map (fun v => (v.1, v.2.1, v.2.2.1)) = some (216, nI (rcF c), nI 980) := by decide +kernel
theorem g_gcd : ∀ c, c < 12 → ∀ w, w < 2 → fX11_commonDivisor (nI (upV c w)) 216 = some (nI (Nat.gcd (upV c w) 216)) := by decide +kernel
theorem g_pos : ∀ c, c < 12 → ∀ w, w < 2 → 0 < Nat.gcd (upV c w) 216 ∧ Nat.gcd (upV c w) 216 < 1000 ∧ upV c w < 5000 := by decide +kernel
theorem f_galeC {c w p : Nat} (hc : c < 12) (hw : w < 2) (hp : p < 2) (a1 a2 a3 a4 a5 a6 : Int32) : ∃ s1 s2 s3 s4 s5 s6 : Int32, fX11_gale a1 a2 a3 a4 a5 a6 (nI c) (nI w) (nI p) = some (lN ((if p = 0 then upV c w else 216) / Nat.gcd (upV c w) 216), s1, s2, s3, s4, s5, s6) := by
  unfold fX11_gale fX11_gale_b62 fX11_gale_b94 fX11_gale_b113
  simp only [f_isCell, f_within, bsome, bI0]
  have h1 : 0 ≤ nI c ∧ nI c ≤ 11 := rng_of (c := 11) (by decide) (by show c ≤ 11; omega)
  have h2 : 0 ≤ nI w ∧ nI w ≤ 1 := rng_of (c := 1) (by decide) (by show w ≤ 1; omega)
  have h3 : 0 ≤ nI p ∧ nI p ≤ 1 := rng_of (c := 1) (by decide) (by show p ≤ 1; omega)
  simp only [h1, h2, h3, not_true_eq_false, and_self, if_false]
  rw [ct_ind]
  have g1 := g_cls c hc
  cases hk : fX0_count 0 0 0 0 0 0 (nI c) with
  | none => rw [hk] at g1; exact absurd g1 (by simp)
  | some v =>
    rw [hk] at g1
    simp only [Option.map_some, Option.some.injEq, Prod.mk.injEq] at g1
    obtain ⟨v1, v2, v3⟩ := g1
    obtain ⟨p1, p2, p3⟩ := g_pos c hc w hw
    rw [bsome, v1, v2, v3]
    have key : ∀ u : Int32, u = nI (upV c w) → ∃ s1 s2 s3 s4 s5 s6 : Int32, (Option.bind (fX11_commonDivisor u 216) fun v3 => if nI p = 0 then (if v3 ≤ 0 then some (u.toInt64, (216 : Int32), nI (rcF c), nI 980, v.2.2.2.1, v.2.2.2.2.1, v.2.2.2.2.2) else gd (v3 != 0) (some ((u / v3).toInt64, 216, nI (rcF c), nI 980, v.2.2.2.1, v.2.2.2.2.1, v.2.2.2.2.2))) else if v3 ≤ 0 then some ((216 : Int32).toInt64, 216, nI (rcF c), nI 980, v.2.2.2.1, v.2.2.2.2.1, v.2.2.2.2.2) else gd (v3 != 0) (some ((216 / v3 : Int32).toInt64, 216, nI (rcF c), nI 980, v.2.2.2.1, v.2.2.2.2.1, v.2.2.2.2.2))) = some (lN ((if p = 0 then upV c w else 216) / Nat.gcd (upV c w) 216), s1, s2, s3, s4, s5, s6) := by
      intro u hu
      subst hu
      rw [g_gcd c hc w hw, bsome]
      have n1 : ¬ nI (Nat.gcd (upV c w) 216) ≤ 0 := nI_nle p1 (by omega)
      have n2 : (nI (Nat.gcd (upV c w) 216) != 0) = true := by
        rw [bne_iff_ne]
        exact nI_ne0 p1 (by omega)
      have d0 : (upV c w) / Nat.gcd (upV c w) 216 ≤ upV c w := Nat.div_le_self _ _
      have d1 : 216 / Nat.gcd (upV c w) 216 ≤ 216 := Nat.div_le_self _ _
      rw [if_neg n1, if_neg n1, gd_t n2, gd_t n2]
      by_cases q : p = 0
      · subst q
        rw [if_pos (show nI 0 = (0 : Int32) from rfl), if_pos rfl, pk_div (by omega) p1 (by omega), nI_l (by omega)]
        exact ⟨_, _, _, _, _, _, rfl⟩
      · rw [if_neg (show ¬ nI p = (0 : Int32) from fun e => q ((nI_inj (b := 0) (by omega) (by omega)).mp e)), if_neg q]
        have e216 : (216 : Int32) / nI (Nat.gcd (upV c w) 216) = nI (216 / Nat.gcd (upV c w) 216) := pk_div (a := 216) (by omega) p1 (by omega)
        rw [e216, nI_l (by omega)]
        exact ⟨_, _, _, _, _, _, rfl⟩
    by_cases q : w = 0
    · rw [if_pos (by rw [q]; rfl)]
      exact key (nI (rcF c)) (by unfold upV; rw [if_pos q])
    · rw [if_neg (show ¬ nI w = (0 : Int32) from fun e => q ((nI_inj (b := 0) (by omega) (by omega)).mp e))]
      exact key (nI 980) (by unfold upV; rw [if_neg q])
def popN (a : Nat) : Nat → Nat
  | 0 => 0
  | k + 1 => popN a k + a / 2 ^ k % 2
theorem popN_le (a : Nat) : ∀ k, popN a k ≤ k := by
  intro k
  induction k with
  | zero => exact Nat.le_refl 0
  | succ k ih => rw [popN]; omega
theorem f_bitsN {a : Nat} (ha : a < 2147483648) : fX12_bits (nI a) = some (nI (popN a 12)) := by
  have L : ∀ n i, i ≤ 12 → 12 - i < n → fX12_bits_L4 (nI a) n (nI (popN a i)) (nI i) = some (nI (popN a 12)) := by
    intro n
    induction n with
    | zero => intro i _ h2; omega
    | succ n ih =>
      intro i hi hn
      rw [fX12_bits_L4]
      by_cases h6 : i = 12
      · subst h6; rw [if_pos (by decide)]
      · simp (disch := omega) only [lit_nI_le, a_lit]
        rw [if_neg (by omega), srN ha (by omega), nI_add]
        exact ih (i + 1) (by omega) (by omega)
  exact L zF 0 (by omega) (by decide)
def gM (i : Nat) : Nat := wmk (1 + i % 9) (i / 18) (i / 9 % 2) 0
def gT (cell what i : Nat) : Nat := if what = 1 then popN (gM i) 12 else gM i / 2 ^ cell % 2
def gS (cell what : Nat) : Nat → Nat
  | 0 => 0
  | i + 1 => gS cell what i + gT cell what i
theorem gS_le (cell what : Nat) : ∀ i, gS cell what i ≤ 12 * i := by
  intro i
  induction i with
  | zero => exact Nat.le_refl 0
  | succ i ih =>
    have : gT cell what i ≤ 12 := by
      unfold gT
      by_cases q : what = 1
      · rw [if_pos q]; exact popN_le _ _
      · rw [if_neg q]; omega
    rw [gS]; omega
theorem f_galeL {c w : Nat} (hc : c < 12) (hw : w < 2) (x3 : Int32) : ∀ m i, i + m = 216 → ∀ n, m < n → ∀ N : Nat → Int32, ∃ N' : Nat → Int32, fX12_gale_L39 (nI c) (nI w) x3 n N (lN (gS c w i)) (nI i) = fX12_gale_L141 (nI c) (nI w) x3 zF N' (lN (gS c w 216)) (lN (gS c w 216)) 216 := by
  intro m
  induction m with
  | zero =>
    intro i hi n hn N
    obtain ⟨n, rfl⟩ : ∃ q, n = q + 1 := ⟨n - 1, by omega⟩
    have : i = 216 := by omega
    subst this
    rw [fX12_gale_L39, if_pos (by decide)]
    exact ⟨N, rfl⟩
  | succ m ih =>
    intro i hi n hn N
    obtain ⟨n, rfl⟩ : ∃ q, n = q + 1 := ⟨n - 1, by omega⟩
    have c1 : i / 18 < 12 := by omega
    have c2 : i / 9 % 2 < 2 := by omega
    have c3 : 1 + i % 9 < 10 := by omega
    have k1 : nI i / (18 : Int32) = nI (i / 18) := d_lit (by omega) (by decide) (by decide)
    have k2 : nI i / (9 : Int32) = nI (i / 9) := d_lit (by omega) (by decide) (by decide)
    have k3 : irm (nI (i / 9)) 2 = nI (i / 9 % 2) := r_lit (by omega) (by decide) (by decide)
    have k4 : irm (nI i) 9 = nI (i % 9) := r_lit (by omega) (by decide) (by decide)
    have k5 : (1 : Int32) + nI (i % 9) = nI (1 + i % 9) := nI_add 1 _
    obtain ⟨N1, g1, -⟩ := f_blowHo c3 c1 c2 (N := upd (upd (upd N 48 (nI (i / 18))) 49 (nI (i / 9 % 2))) 50 (nI (1 + i % 9))) (by rw [upd_ne (by omega), upd_ne (by omega), upd_eq rfl]) (by rw [upd_ne (by omega), upd_eq rfl]) (upd_eq rfl)
    have hM : gM i < 4096 := wmk_lt _ _ _ _ c1 c2 (by omega)
    obtain ⟨N2, g2⟩ := ih (i + 1) (by omega) n (by omega) N1
    refine ⟨N2, ?_⟩
    rw [← g2, fX12_gale_L39, if_neg (show ¬ (216 : Int32) ≤ nI i from nI_ge (a := i) (b := 216) (by omega) (by omega))]
    simp (disch := omega) only [inb_lit, toN_lit, gd_T, k1, k2, k3, k4, k5]
    rw [g1, bsome]
    have hle := gS_le c w (i + 1)
    have eM : wmk (1 + i % 9) (i / 18) (i / 9 % 2) 0 = gM i := rfl
    rw [eM]
    by_cases q : w = 1
    · have e1 : gS c w (i + 1) = gS c w i + popN (gM i) 12 := by rw [gS, gT, if_pos q]
      have := popN_le (gM i) 12
      rw [if_pos (by rw [q]; rfl), f_bitsN (by omega), bsome, fX12_gale_b123, nI_l (by omega), lN_add, nI_1, e1]
    · have e1 : gS c w (i + 1) = gS c w i + gM i / 2 ^ c % 2 := by rw [gS, gT, if_neg q]
      rw [if_neg (show ¬ nI w = (1 : Int32) from fun e => q ((nI_inj (b := 1) (by omega) (by omega)).mp e)), f_hasM, bsome, e1, srN (by omega) (by omega)]
      by_cases q2 : gM i / 2 ^ c % 2 = 0
      · rw [if_pos (by rw [bI0, q2, Decidable.not_not]; rfl), fX12_gale_b123, nI_1, q2]
        have : (0 : Int64) = lN 0 := rfl
        rw [this, lN_add]
      · have q3 : gM i / 2 ^ c % 2 = 1 := by omega
        rw [if_neg (by rw [bI0, q3]; decide), fX12_gale_b123, nI_1, q3]
        have : (1 : Int64) = lN 1 := rfl
        rw [this, lN_add]
theorem L141_ind (x1 x2 x3 : Int32) (N : Nat → Int32) : ∀ n a b d, fX12_gale_L141 x1 x2 x3 n N a b d = (fX12_gale_L141 0 0 x3 n (fun _ => 0) a b d).map (fun v => (v.1, N)) := by
  intro n
  induction n with
  | zero => intro a b d; rw [fX12_gale_L141, fX12_gale_L141]; rfl
  | succ n ih =>
    intro a b d
    rw [fX12_gale_L141, fX12_gale_L141]
    simp only [fX12_gale_b184]
    by_cases c1 : lg_cmp d 0 = 0
    · rw [if_pos c1, if_pos c1]
      by_cases c2 : x3 = 0
      · rw [if_pos c2, if_pos c2]
        cases (b != 0) <;> rfl
      · rw [if_neg c2, if_neg c2]
        cases (b != 0) <;> rfl
    · rw [if_neg c1, if_neg c1]
      cases (d != 0) with
      | true => rw [gd_T, gd_T]; exact ih _ _ _
      | false => rfl
theorem g_ref : ∀ c, c < 12 → ∀ w, w < 2 → ∀ p, p < 2 → (fX12_gale_L141 0 0 (nI p) zF (fun _ => 0) (lN (gS c w 216)) (lN (gS c w 216)) 216).map (fun v => v.1) = some (lN ((if p = 0 then upV c w else 216) / Nat.gcd (upV c w) 216)) := by decide +kernel
theorem op_gale (a1 a2 a3 a4 a5 a6 : Int32) (N : Nat → Int32) (x1 x2 x3 : Int32) : ∃ (r : Int64) (s1 s2 s3 s4 s5 s6 : Int32) (N' : Nat → Int32), fX11_gale a1 a2 a3 a4 a5 a6 x1 x2 x3 = some (r, s1, s2, s3, s4, s5, s6) ∧ fX12_gale N x1 x2 x3 = some (r, N') := by
  by_cases h1 : 0 ≤ x1 ∧ x1 ≤ 11
  · by_cases h2 : 0 ≤ x2 ∧ x2 ≤ 1
    · by_cases h3 : 0 ≤ x3 ∧ x3 ≤ 1
      · obtain ⟨c, hc, e1⟩ := rng (by decide) h1
        obtain ⟨w, hw, e2⟩ := rng (by decide) h2
        obtain ⟨p, hp, e3⟩ := rng (by decide) h3
        obtain ⟨s1, s2, s3, s4, s5, s6, g1⟩ := f_galeC (c := c) (w := w) (p := p) (by omega) (by omega) (by omega) a1 a2 a3 a4 a5 a6
        rw [← e1, ← e2, ← e3] at g1
        refine ⟨lN ((if p = 0 then upV c w else 216) / Nat.gcd (upV c w) 216), s1, s2, s3, s4, s5, s6, ?_⟩
        obtain ⟨N1, g2⟩ := f_galeL (c := c) (w := w) (by omega) (by omega) x3 216 0 (by omega) zF (by decide) N
        refine ⟨N1, g1, ?_⟩
        unfold fX12_gale
        simp only [f_isCellM, f_in, bsome, bI0, h1, h2, h3, not_true_eq_false, and_self, if_false]
        rw [e1, e2]
        have g2' : fX12_gale_L39 (nI c) (nI w) x3 zF N 0 0 = _ := g2
        rw [g2', L141_ind, e3]
        have g3 := g_ref c (by omega) w (by omega) p (by omega)
        cases hk : fX12_gale_L141 0 0 (nI p) zF (fun _ => 0) (lN (gS c w 216)) (lN (gS c w 216)) 216 with
        | none => rw [hk] at g3; exact absurd g3 (by simp)
        | some v =>
          rw [hk] at g3
          simp only [Option.map_some, Option.some.injEq] at g3
          simp only [Option.map_some, g3]
      · unfold fX11_gale fX12_gale fX11_gale_b29 fX12_gale_b29
        simp only [f_isCell, f_isCellM, f_within, f_in, bsome, bI0, h1, h2, h3, not_true_eq_false, and_self, if_false, not_false_eq_true, if_true]
        exact ⟨_, _, _, _, _, _, _, _, rfl, rfl⟩
    · unfold fX11_gale fX12_gale fX11_gale_b29 fX12_gale_b29
      simp only [f_isCell, f_isCellM, f_within, f_in, bsome, bI0, h1, h2, not_true_eq_false, and_self, if_false, not_false_eq_true, if_true]
      exact ⟨_, _, _, _, _, _, _, _, rfl, rfl⟩
  · unfold fX11_gale fX12_gale
    simp only [f_isCell, f_isCellM, bsome, bI0, h1, not_false_eq_true, if_true]
    exact ⟨_, _, _, _, _, _, _, _, rfl, rfl⟩
