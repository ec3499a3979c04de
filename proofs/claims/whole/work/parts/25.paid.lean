/-! paid -/
def con (st : Option (Nat × Nat)) (t c : Nat) : Option (Nat × Nat) := match st with
  | none => some (t, c)
  | some p => if p.1 ≤ t then some p else some (t, c)
theorem con_s (r : Nat × Nat) (t c : Nat) : con (some r) t c = if r.1 ≤ t then some r else some (t, c) := rfl
def gI (st : Option (Nat × Nat)) : Int32 := match st with
  | none => -6
  | some p => nI p.1
def wI (st : Option (Nat × Nat)) : Int32 := match st with
  | none => -6
  | some p => nI p.2
def xI (st : Option (Nat × Nat)) : Int32 := match st with
  | none => 1000000
  | some p => nI p.1
def VS (st : Option (Nat × Nat)) : Prop := ∀ p, st = some p → p.1 < 100 ∧ p.2 < 1000
theorem VS_con {st : Option (Nat × Nat)} {t c : Nat} (h : VS st) (ht : t < 100) (hc : c < 1000) : VS (con st t c) := by
  intro p hp
  unfold con at hp
  cases st with
  | none => simp only [Option.some.injEq] at hp; subst hp; exact ⟨ht, hc⟩
  | some q =>
    simp only [] at hp
    by_cases z : q.1 ≤ t
    · rw [if_pos z] at hp; exact h p hp
    · rw [if_neg z] at hp
      simp only [Option.some.injEq] at hp; subst hp; exact ⟨ht, hc⟩
def shN (d l : Nat) : Nat := if d = 0 then 0 else if l = 0 then 10 else (d + l - 1) / l
theorem sh_ok : ∀ d, d < 10 → ∀ l, l < 4 → fX5_sheetsFor (nI d) (nI l) = some (nI (shN d l)) := by decide +kernel
theorem sh_neg : ∀ o, o < 10 → ∀ a, a < 28 → ∀ b, b < 28 → o ≤ a + b → ¬ (0 : Int32) < nI o - nI a - nI b := by decide +kernel
theorem sh_iff : ∀ d, d < 10 → ∀ l, l < 4 → ∀ s, s < 10 → (d ≤ s * l ↔ shN d l ≤ s) := by decide +kernel
theorem sh_le : ∀ d, d < 10 → ∀ l, l < 4 → shN d l ≤ 10 := by decide +kernel
theorem f_sheets {o a b l : Nat} (ho : o < 10) (ha : a < 28) (hb : b < 28) (hl : l < 4) : fX5_sheetsFor (nI o - nI a - nI b) (nI l) = some (nI (shN (o - (a + b)) l)) := by
  by_cases q : a + b < o
  · rw [pk_sub (by omega), pk_sub (by omega), show o - a - b = o - (a + b) by omega]
    exact sh_ok _ (by omega) l hl
  · unfold fX5_sheetsFor
    rw [if_neg (sh_neg o ho a ha b hb (by omega)), show o - (a + b) = 0 by omega]
    rfl
theorem f_con {st : Option (Nat × Nat)} (h : VS st) {a b c : Nat} (ha : a < 10) (hb : b < 10) (hc : c < 10) : fX5_consider (gI st) (wI st) (nI a) (nI b) (nI c) = some (gI (con st (a + b + c) (100 * a + 10 * b + c)), wI (con st (a + b + c) (100 * a + 10 * b + c))) := by
  unfold fX5_consider fX5_consider_b25 fX5_consider_b41 fX11_code
  rw [bsome, nI_add, nI_add, l_mul, l_mul, nI_add, nI_add]
  cases st with
  | none => rw [if_pos (show gI none = -6 from rfl)]; rfl
  | some p =>
    obtain ⟨h1, h2⟩ := h p rfl
    have e : gI (some p) = nI p.1 := rfl
    rw [e, if_neg (nI_n6 (by omega)), con_s]
    by_cases q : p.1 ≤ a + b + c
    · rw [if_pos (nI_le q (by omega)), if_pos q]; rfl
    · rw [if_neg (nI_ge (by omega) (by omega)), if_neg q]; rfl
def PM : Type := { t : Nat × Nat × Nat × Nat × Nat × Nat × Nat // t.1 < 10 ∧ t.2.1 < 4 ∧ t.2.2.1 < 4 ∧ t.2.2.2.1 < 4 ∧ t.2.2.2.2.1 < 10 ∧ t.2.2.2.2.2.1 < 10 ∧ t.2.2.2.2.2.2 < 10 }
def PM.o (p : PM) : Nat := p.1.1
def PM.l0 (p : PM) : Nat := p.1.2.1
def PM.l1 (p : PM) : Nat := p.1.2.2.1
def PM.l2 (p : PM) : Nat := p.1.2.2.2.1
def PM.G0 (p : PM) : Nat := p.1.2.2.2.2.1
def PM.G1 (p : PM) : Nat := p.1.2.2.2.2.2.1
def PM.G2 (p : PM) : Nat := p.1.2.2.2.2.2.2
theorem PM.ho (p : PM) : p.o < 10 := p.2.1
theorem PM.h0 (p : PM) : p.l0 < 4 := p.2.2.1
theorem PM.h1 (p : PM) : p.l1 < 4 := p.2.2.2.1
theorem PM.h2 (p : PM) : p.l2 < 4 := p.2.2.2.2.1
theorem PM.k0 (p : PM) : p.G0 < 10 := p.2.2.2.2.2.1
theorem PM.k1 (p : PM) : p.G1 < 10 := p.2.2.2.2.2.2.1
theorem PM.k2 (p : PM) : p.G2 < 10 := p.2.2.2.2.2.2.2
def PM.s0 (p : PM) (g f : Nat) : Nat := shN (p.o - (g * p.l0 + f * p.l1)) p.l2
abbrev PM.ok (p : PM) (g f s : Nat) : Prop := g ≤ p.G0 ∧ f ≤ p.G1 ∧ s ≤ p.G2 ∧ p.o ≤ g * p.l0 + f * p.l1 + s * p.l2
def PM.bl (p : PM) (g f : Nat) (st : Option (Nat × Nat)) : Option (Nat × Nat) := if g ≤ p.G0 ∧ f ≤ p.G1 ∧ p.s0 g f ≤ p.G2 then con st (g + f + p.s0 g f) (100 * g + 10 * f + p.s0 g f) else st
def PM.ff (p : PM) (g : Nat) : Nat → Nat → Option (Nat × Nat) → Option (Nat × Nat)
  | 0, _, st => st
  | k + 1, f, st => p.ff g k (f + 1) (p.bl g f st)
def PM.gg (p : PM) : Nat → Nat → Option (Nat × Nat) → Option (Nat × Nat)
  | 0, _, st => st
  | k + 1, g, st => p.gg k (g + 1) (p.ff g 10 0 st)
theorem mul28 {a b : Nat} (ha : a < 10) (hb : b < 4) : a * b < 28 := by
  have : a * b ≤ 9 * 3 := Nat.mul_le_mul (by omega) (by omega)
  omega
theorem s0_iff (p : PM) (g f s : Nat) (hs : s < 10) : p.o ≤ g * p.l0 + f * p.l1 + s * p.l2 ↔ p.s0 g f ≤ s := by
  have h1 := sh_iff (p.o - (g * p.l0 + f * p.l1)) (by have := p.ho; omega) p.l2 p.h2 s hs
  unfold PM.s0
  rw [← h1]
  omega
theorem VS_bl (p : PM) {g f : Nat} (hg : g < 10) (hf : f < 10) {st : Option (Nat × Nat)} (h : VS st) : VS (p.bl g f st) := by
  unfold PM.bl
  by_cases q : g ≤ p.G0 ∧ f ≤ p.G1 ∧ p.s0 g f ≤ p.G2
  · rw [if_pos q]
    have := p.k2
    exact VS_con h (by omega) (by omega)
  · rw [if_neg q]; exact h
theorem ff_no (p : PM) {g : Nat} : ∀ k f st, (p.G0 < g ∨ p.G1 < f) → p.ff g k f st = st := by
  intro k
  induction k with
  | zero => intro f st _; rfl
  | succ k ih =>
    intro f st h
    rw [PM.ff, PM.bl, if_neg (by omega)]
    exact ih _ _ (by omega)
theorem gg_no (p : PM) : ∀ k g st, p.G0 < g → p.gg k g st = st := by
  intro k
  induction k with
  | zero => intro g st _; rfl
  | succ k ih =>
    intro g st h
    rw [PM.gg, ff_no p _ _ _ (Or.inl h)]
    exact ih _ _ (by omega)
theorem VS_ff (p : PM) {g : Nat} (hg : g < 10) : ∀ k f st, f + k ≤ 10 → VS st → VS (p.ff g k f st) := by
  intro k
  induction k with
  | zero => intro f st _ h; exact h
  | succ k ih => intro f st hk h; exact ih _ _ (by omega) (VS_bl p hg (by omega) h)
theorem VS_gg (p : PM) : ∀ k g st, g + k ≤ 10 → VS st → VS (p.gg k g st) := by
  intro k
  induction k with
  | zero => intro f st _ h; exact h
  | succ k ih => intro g st hk h; exact ih _ _ (by omega) (VS_ff p (by omega) _ _ _ (by omega) h)
/-- the class -/
def PC (p : PM) (go ow lk : Nat → Int32) (w : Nat) : Prop := w < 6 ∧ go (w * 3 + 0) = nI p.G0 ∧ go (w * 3 + 1) = nI p.G1 ∧ go (w * 3 + 2) = nI p.G2 ∧ ow w = nI p.o ∧ lk 0 = nI p.l0 ∧ lk 1 = nI p.l1 ∧ lk 2 = nI p.l2
theorem PC.hw {p : PM} {go ow lk : Nat → Int32} {w : Nat} (h : PC p go ow lk w) : w < 6 := h.1
theorem PC.e0 {p : PM} {go ow lk : Nat → Int32} {w : Nat} (h : PC p go ow lk w) : go (w * 3 + 0) = nI p.G0 := h.2.1
theorem PC.e1 {p : PM} {go ow lk : Nat → Int32} {w : Nat} (h : PC p go ow lk w) : go (w * 3 + 1) = nI p.G1 := h.2.2.1
theorem PC.e2 {p : PM} {go ow lk : Nat → Int32} {w : Nat} (h : PC p go ow lk w) : go (w * 3 + 2) = nI p.G2 := h.2.2.2.1
theorem PC.eo {p : PM} {go ow lk : Nat → Int32} {w : Nat} (h : PC p go ow lk w) : ow w = nI p.o := h.2.2.2.2.1
theorem PC.f0 {p : PM} {go ow lk : Nat → Int32} {w : Nat} (h : PC p go ow lk w) : lk 0 = nI p.l0 := h.2.2.2.2.2.1
theorem PC.f1 {p : PM} {go ow lk : Nat → Int32} {w : Nat} (h : PC p go ow lk w) : lk 1 = nI p.l1 := h.2.2.2.2.2.2.1
theorem PC.f2 {p : PM} {go ow lk : Nat → Int32} {w : Nat} (h : PC p go ow lk w) : lk 2 = nI p.l2 := h.2.2.2.2.2.2.2
theorem f_go {go : Nat → Int32} {w k : Nat} (hw : w < 6) (hk : k < 3) : fX8_goodsOf go (nI w) (nI k) = some (go (w * 3 + k)) := by
  unfold fX8_goodsOf
  simp (disch := omega) only [m_lit, nI_add, inb_t, toN_t, gd_T]
theorem f_L27 {p : PM} {go ow lk : Nat → Int32} {w : Nat} (hp : PC p go ow lk w) (K : Int32 → Int32 → Int32 → Option (Int32 × Int32)) {g : Nat} (hg : g ≤ p.G0) : ∀ k f, f + k = 10 → ∀ n, k < n → ∀ st, VS st → fX5_seek_L27 go ow lk (nI w) K n (gI st) (wI st) (nI g) (nI f) = K (gI (p.ff g k f st)) (wI (p.ff g k f st)) (nI (g + 1)) := by
  have G1 : fX8_goodsOf go (nI w) 1 = some (nI p.G1) := (f_go (k := 1) hp.hw (by omega)).trans (by rw [hp.e1])
  have G2 : fX8_goodsOf go (nI w) 2 = some (nI p.G2) := (f_go (k := 2) hp.hw (by omega)).trans (by rw [hp.e2])
  have hw := hp.hw
  have := p.ho
  have := p.k0
  have := p.k1
  have := p.k2
  intro k
  induction k with
  | zero =>
    intro f hf n hn st hs
    obtain ⟨n, rfl⟩ : ∃ q, n = q + 1 := ⟨n - 1, by omega⟩
    rw [fX5_seek_L27, G1, bsome, if_pos (nI_lt (by omega) (by omega)), nI_1]
    rfl
  | succ k ih =>
    intro f hf n hn st hs
    obtain ⟨n, rfl⟩ : ∃ q, n = q + 1 := ⟨n - 1, by omega⟩
    rw [fX5_seek_L27, G1, bsome]
    by_cases q : p.G1 < f
    · rw [if_pos (nI_lt q (by omega)), nI_1, ff_no p _ _ _ (Or.inr q)]
    · rw [if_neg (nI_nlt (by omega) (by omega))]
      simp (disch := omega) only [inb_t, inb_lit, toN_t, toN_lit, gd_T, hp.eo, hp.f0, hp.f1, hp.f2, pk_mul]
      rw [f_sheets p.ho (mul28 (by omega) p.h0) (mul28 (by omega) p.h1) p.h2, bsome, G2, bsome]
      have es : shN (p.o - (g * p.l0 + f * p.l1)) p.l2 = p.s0 g f := rfl
      have hs10 : p.s0 g f ≤ 10 := sh_le _ (by omega) _ p.h2
      rw [es, PM.ff]
      unfold fX5_seek_b98
      by_cases r : p.G2 < p.s0 g f
      · rw [if_pos (nI_lt r (by omega)), nI_1, PM.bl, if_neg (by omega)]
        exact ih (f + 1) (by omega) n (by omega) st hs
      · rw [if_neg (nI_nlt (by omega) (by omega)), f_con hs (by omega) (by omega) (by omega), bsome, nI_1, PM.bl, if_pos (by omega)]
        exact ih (f + 1) (by omega) n (by omega) _ (VS_con hs (by omega) (by omega))
theorem f_L14 {p : PM} {go ow lk : Nat → Int32} {w : Nat} (hp : PC p go ow lk w) : ∀ k g, g + k = 10 → ∀ n, k < n → ∀ st, VS st → fX5_seek_L14 go ow lk (nI w) n (gI st) (wI st) (nI g) = some (gI (p.gg k g st), wI (p.gg k g st)) := by
  have G0 : fX8_goodsOf go (nI w) 0 = some (nI p.G0) := (f_go (k := 0) hp.hw (by omega)).trans (by rw [hp.e0])
  have := p.k0
  intro k
  induction k with
  | zero =>
    intro g hg n hn st hs
    obtain ⟨n, rfl⟩ : ∃ q, n = q + 1 := ⟨n - 1, by omega⟩
    rw [fX5_seek_L14, G0, bsome, if_pos (nI_lt (by omega) (by omega))]
    rfl
  | succ k ih =>
    intro g hg n hn st hs
    obtain ⟨n, rfl⟩ : ∃ q, n = q + 1 := ⟨n - 1, by omega⟩
    rw [fX5_seek_L14, G0, bsome]
    by_cases q : p.G0 < g
    · rw [if_pos (nI_lt q (by omega)), gg_no p _ _ _ q]
    · rw [if_neg (nI_nlt (by omega) (by omega))]
      have z := f_L27 hp (fX5_seek_L14 go ow lk (nI w) n) (g := g) (by omega) 10 0 (by omega) zF (by unfold zF; omega) st hs
      have z' : fX5_seek_L27 go ow lk (nI w) (fX5_seek_L14 go ow lk (nI w) n) zF (gI st) (wI st) (nI g) 0 = _ := z
      rw [z']
      exact ih (g + 1) (by omega) n (by omega) _ (VS_ff p (by omega) _ _ _ (by omega) hs)
/-- the reference -/
def PB (p : PM) (B : Nat → Int32) (w : Nat) : Prop := w < 6 ∧ B (30 + w) = nI p.G0 ∧ B (36 + w) = nI p.G1 ∧ B (42 + w) = nI p.G2 ∧ B (12 + w) = nI p.o ∧ B 53 = nI p.l0 ∧ B 54 = nI p.l1 ∧ B 55 = nI p.l2
theorem PB.hw {p : PM} {B : Nat → Int32} {w : Nat} (h : PB p B w) : w < 6 := h.1
theorem PB.e0 {p : PM} {B : Nat → Int32} {w : Nat} (h : PB p B w) : B (30 + w) = nI p.G0 := h.2.1
theorem PB.e1 {p : PM} {B : Nat → Int32} {w : Nat} (h : PB p B w) : B (36 + w) = nI p.G1 := h.2.2.1
theorem PB.e2 {p : PM} {B : Nat → Int32} {w : Nat} (h : PB p B w) : B (42 + w) = nI p.G2 := h.2.2.2.1
theorem PB.eo {p : PM} {B : Nat → Int32} {w : Nat} (h : PB p B w) : B (12 + w) = nI p.o := h.2.2.2.2.1
theorem PB.f0 {p : PM} {B : Nat → Int32} {w : Nat} (h : PB p B w) : B 53 = nI p.l0 := h.2.2.2.2.2.1
theorem PB.f1 {p : PM} {B : Nat → Int32} {w : Nat} (h : PB p B w) : B 54 = nI p.l1 := h.2.2.2.2.2.2.1
theorem PB.f2 {p : PM} {B : Nat → Int32} {w : Nat} (h : PB p B w) : B 55 = nI p.l2 := h.2.2.2.2.2.2.2
theorem r_step {p : PM} {B : Nat → Int32} {w : Nat} (hp : PB p B w) (x2 : Int32) (n : Nat) {g f s : Nat} (hg : g < 10) (hf : f < 10) (hs : s < 10) {st : Option (Nat × Nat)} (hv : VS st) :
    fX12_paid_L31 B (nI w) x2 (n + 1) (xI st) (wI st) (nI (100 * g + 10 * f + s)) = fX12_paid_L31 B (nI w) x2 n (xI (if p.ok g f s then con st (g + f + s) (100 * g + 10 * f + s) else st)) (wI (if p.ok g f s then con st (g + f + s) (100 * g + 10 * f + s) else st)) (nI (100 * g + 10 * f + s + 1)) := by
  have hw := hp.hw
  have i0 := p.ho
  have i1 := p.k0
  have i2 := p.k1
  have i3 := p.k2
  have i4 := mul28 hg p.h0
  have i5 := mul28 hf p.h1
  have i6 := mul28 hs p.h2
  rw [fX12_paid_L31, if_neg (show ¬ (1000 : Int32) ≤ nI (100 * g + 10 * f + s) from nI_ge (a := 100 * g + 10 * f + s) (b := 1000) (by omega) (by omega))]
  have d1 : nI (100 * g + 10 * f + s) / (100 : Int32) = nI g := by rw [d_lit (by omega) (by decide) (by decide)]; exact congrArg nI (by show (100 * g + 10 * f + s) / 100 = g; omega)
  have d2 : irm (nI (100 * g + 10 * f + s) / (10 : Int32)) 10 = nI f := by rw [d_lit (by omega) (by decide) (by decide), r_lit (by show (100 * g + 10 * f + s) / 10 < _; omega) (by decide) (by decide)]; exact congrArg nI (by show (100 * g + 10 * f + s) / 10 % 10 = f; omega)
  have d3 : irm (nI (100 * g + 10 * f + s)) 10 = nI s := by rw [r_lit (by omega) (by decide) (by decide)]; exact congrArg nI (by show (100 * g + 10 * f + s) % 10 = s; omega)
  rw [d1, d2, d3]
  have no : ∀ z : Int32, ¬ p.ok g f s → fX12_paid_b198 B (nI w) x2 (fX12_paid_L31 B (nI w) x2 n) (xI st) (wI st) (nI (100 * g + 10 * f + s)) = fX12_paid_L31 B (nI w) x2 n (xI (if p.ok g f s then con st (g + f + s) (100 * g + 10 * f + s) else st)) (wI (if p.ok g f s then con st (g + f + s) (100 * g + 10 * f + s) else st)) (nI (100 * g + 10 * f + s + 1)) := by
    intro _ h
    rw [if_neg h]
    unfold fX12_paid_b198
    rw [nI_1]
  have b109 : ¬ p.ok g f s → fX12_paid_b109 B (nI w) x2 (fX12_paid_L31 B (nI w) x2 n) (xI st) (wI st) (nI (100 * g + 10 * f + s)) (nI g) (nI f) (nI s) = fX12_paid_L31 B (nI w) x2 n (xI (if p.ok g f s then con st (g + f + s) (100 * g + 10 * f + s) else st)) (wI (if p.ok g f s then con st (g + f + s) (100 * g + 10 * f + s) else st)) (nI (100 * g + 10 * f + s + 1)) := by
    intro h
    unfold fX12_paid_b109 fX12_paid_b110 fX12_paid_b161
    simp (disch := omega) only [l_add, inb_t, inb_lit, toN_t, toN_lit, gd_T]
    simp only [if_true]
    by_cases q : nI g * B 53 + nI f * B 54 + nI s * B 55 < B (12 + w)
    · rw [if_pos q]; exact no 0 h
    · rw [if_neg q]; exact no 0 h
  simp (disch := omega) only [l_add, inb_t, toN_t, gd_T]
  rw [hp.e0, hp.e1, hp.e2]
  by_cases q1 : p.G0 < g
  · rw [if_pos (nI_lt q1 (by omega))]
    exact b109 (by unfold PM.ok; omega)
  · rw [if_neg (nI_nlt (by omega) (by omega))]
    by_cases q2 : p.G1 < f
    · rw [if_pos (nI_lt q2 (by omega))]
      exact b109 (by unfold PM.ok; omega)
    · rw [if_neg (nI_nlt (by omega) (by omega))]
      by_cases q3 : p.G2 < s
      · rw [if_pos (nI_lt q3 (by omega))]
        exact b109 (by unfold PM.ok; omega)
      · rw [if_neg (nI_nlt (by omega) (by omega))]
        unfold fX12_paid_b110 fX12_paid_b161
        simp (disch := omega) only [l_add, inb_t, inb_lit, toN_t, toN_lit, gd_T]
        rw [hp.f0, hp.f1, hp.f2, hp.eo, pk_mul, pk_mul, pk_mul, nI_add, nI_add, nI_add, nI_add]
        simp only [if_true, if_neg (show ¬ (1 : Int32) = 0 by decide)]
        by_cases q4 : g * p.l0 + f * p.l1 + s * p.l2 < p.o
        · rw [if_pos (nI_lt q4 (by omega))]
          exact no 0 (by unfold PM.ok; omega)
        · rw [if_neg (nI_nlt (by omega) (by omega)), if_pos (show p.ok g f s by unfold PM.ok; omega)]
          unfold fX12_paid_b198
          rw [nI_1]
          cases st with
          | none => rw [if_neg (show ¬ xI none ≤ nI (g + f + s) from nI_ge (a := g + f + s) (b := 1000000) (by omega) (by omega))]; rfl
          | some r =>
            obtain ⟨v1, v2⟩ := hv r rfl
            have ex : xI (some r) = nI r.1 := rfl
            rw [con_s]
            by_cases q : r.1 ≤ g + f + s
            · rw [ex, if_pos (nI_le q (by omega))]
              simp only [if_pos q]
              rfl
            · rw [ex, if_neg (nI_ge (by omega) (by omega))]
              simp only [if_neg q]
              rfl
theorem r_ten {p : PM} {B : Nat → Int32} {w : Nat} (hp : PB p B w) (x2 : Int32) {g f : Nat} (hg : g < 10) (hf : f < 10) (n : Nat) : ∀ k s, s + k = 10 → ∀ st, VS st → (s ≤ p.s0 g f ∨ ∀ s', s ≤ s' → s' < 10 → (if p.ok g f s' then con st (g + f + s') (100 * g + 10 * f + s') else st) = st) → fX12_paid_L31 B (nI w) x2 (n + k) (xI st) (wI st) (nI (100 * g + 10 * f + s)) = fX12_paid_L31 B (nI w) x2 n (xI (if s ≤ p.s0 g f then p.bl g f st else st)) (wI (if s ≤ p.s0 g f then p.bl g f st else st)) (nI (100 * g + 10 * f + 10)) := by
  have k2 := p.k2
  intro k
  induction k with
  | zero =>
    intro s hs st hv h
    have : s = 10 := by omega
    subst this
    have e : (if 10 ≤ p.s0 g f then p.bl g f st else st) = st := by
      by_cases q : 10 ≤ p.s0 g f
      · rw [if_pos q, PM.bl, if_neg (by omega)]
      · rw [if_neg q]
    rw [e]
    rfl
  | succ k ih =>
    intro s hs st hv h
    rw [show n + (k + 1) = (n + k) + 1 by omega, r_step hp x2 (n + k) hg hf (by omega) hv]
    have hpay := s0_iff p g f s (by omega)
    by_cases q1 : s < p.s0 g f
    · have : ¬ p.ok g f s := by unfold PM.ok; omega
      rw [if_neg this, if_pos (by omega)]
      have z := ih (s + 1) (by omega) st hv (Or.inl (by omega))
      rw [if_pos (by omega)] at z
      exact z
    · by_cases q2 : s = p.s0 g f
      · have hb : (if p.ok g f s then con st (g + f + s) (100 * g + 10 * f + s) else st) = p.bl g f st := by
          unfold PM.bl
          rw [← q2]
          by_cases q : g ≤ p.G0 ∧ f ≤ p.G1 ∧ s ≤ p.G2
          · rw [if_pos q, if_pos (show p.ok g f s by unfold PM.ok; omega)]
          · rw [if_neg q, if_neg (show ¬ p.ok g f s by unfold PM.ok; omega)]
        rw [hb, if_pos (by omega)]
        have z := ih (s + 1) (by omega) (p.bl g f st) (VS_bl p hg hf hv) (Or.inr (fun s' h1 h2 => by
          by_cases q : p.ok g f s'
          · rw [if_pos q]
            have qq : g ≤ p.G0 ∧ f ≤ p.G1 ∧ p.s0 g f ≤ p.G2 := by unfold PM.ok at q; omega
            unfold PM.bl
            rw [if_pos qq]
            unfold con
            cases st with
            | none => simp only []; rw [if_pos (by show g + f + p.s0 g f ≤ g + f + s'; omega)]
            | some r =>
              simp only []
              by_cases y : r.1 ≤ g + f + p.s0 g f
              · rw [if_pos y]; simp only []; rw [if_pos (by omega)]
              · rw [if_neg y]; simp only []; rw [if_pos (by show g + f + p.s0 g f ≤ g + f + s'; omega)]
          · rw [if_neg q]))
        rw [if_neg (by omega)] at z
        exact z
      · have hn : ∀ s', s ≤ s' → s' < 10 → (if p.ok g f s' then con st (g + f + s') (100 * g + 10 * f + s') else st) = st := by
          rcases h with h | h
          · omega
          · exact h
        rw [hn s (by omega) (by omega), if_neg (by omega)]
        have z := ih (s + 1) (by omega) st hv (Or.inr (fun s' h1 h2 => hn s' (by omega) h2))
        rw [if_neg (by omega)] at z
        exact z
theorem r_ff {p : PM} {B : Nat → Int32} {w : Nat} (hp : PB p B w) (x2 : Int32) {g : Nat} (hg : g < 10) (n : Nat) : ∀ k f, f + k = 10 → ∀ st, VS st → fX12_paid_L31 B (nI w) x2 (n + 10 * k) (xI st) (wI st) (nI (100 * g + 10 * f)) = fX12_paid_L31 B (nI w) x2 n (xI (p.ff g k f st)) (wI (p.ff g k f st)) (nI (100 * g + 100)) := by
  intro k
  induction k with
  | zero =>
    intro f hf st hv
    have : f = 10 := by omega
    subst this
    rfl
  | succ k ih =>
    intro f hf st hv
    have z := r_ten hp x2 hg (show f < 10 by omega) (n + 10 * k) 10 0 (by omega) st hv (Or.inl (Nat.zero_le _))
    rw [if_pos (Nat.zero_le _), Nat.add_zero (100 * g + 10 * f)] at z
    rw [show n + 10 * (k + 1) = n + 10 * k + 10 by omega, z, show 100 * g + 10 * f + 10 = 100 * g + 10 * (f + 1) by omega]
    exact ih (f + 1) (by omega) _ (VS_bl p hg (by omega) hv)
theorem r_gg {p : PM} {B : Nat → Int32} {w : Nat} (hp : PB p B w) (x2 : Int32) (n : Nat) : ∀ k g, g + k = 10 → ∀ st, VS st → fX12_paid_L31 B (nI w) x2 (n + 100 * k) (xI st) (wI st) (nI (100 * g)) = fX12_paid_L31 B (nI w) x2 n (xI (p.gg k g st)) (wI (p.gg k g st)) (nI 1000) := by
  intro k
  induction k with
  | zero =>
    intro g hg st hv
    have : g = 10 := by omega
    subst this
    rfl
  | succ k ih =>
    intro g hg st hv
    have z := r_ff hp x2 (show g < 10 by omega) (n + 100 * k) 10 0 (by omega) st hv
    rw [show 100 * g + 10 * 0 = 100 * g by omega] at z
    rw [show n + 100 * (k + 1) = n + 100 * k + 10 * 10 by omega, z, show 100 * g + 100 = 100 * (g + 1) by omega]
    exact ih (g + 1) (by omega) _ (VS_ff p (by omega) _ _ _ (by omega) hv)
theorem op_paid {ce ho ow hd li go lk : Nat → Int32} {wc wy wf hr dy : Int32} {B : Nat → Int32} (hT : TR ce ho ow hd li go lk wc wy wf hr dy B) (hB : BI B) (pg pw x1 x2 : Int32) :
    ∃ (r s1 s2 : Int32), fX11_paid pg pw go ow lk x1 x2 = some (r, s1, s2) ∧ fX12_paid B x1 x2 = some r := by
  unfold fX11_paid fX12_paid fX11_paid_b54
  simp only [f_isWalker, f_isWalkerM, f_within, f_in, bsome, bI0]
  by_cases h1 : 0 ≤ x1 ∧ x1 ≤ 5
  · by_cases h2 : 0 ≤ x2 ∧ x2 ≤ 1
    · simp only [h1, h2, not_true_eq_false, and_self, if_false]
      obtain ⟨w, hw, e1⟩ := rng (by decide) h1
      have hw : w < 6 := by omega
      subst e1
      obtain ⟨o, ho', eo⟩ := hB.2.2.1 w hw
      obtain ⟨G0, k0, g0⟩ := hB.2.2.2.2.2.1 w (by omega)
      obtain ⟨G1, k1, g1⟩ := hB.2.2.2.2.2.1 (6 + w) (by omega)
      obtain ⟨G2, k2, g2⟩ := hB.2.2.2.2.2.1 (12 + w) (by omega)
      have hl := hB.2.2.2.2.2.2.2.2.2.2.2.1
      obtain ⟨l0, i0, j0⟩ := hl 0 (by omega)
      obtain ⟨l1, i1, j1⟩ := hl 1 (by omega)
      obtain ⟨l2, i2, j2⟩ := hl 2 (by omega)
      have tgo := hT.2.2.2.2.2.1
      have tlk := hT.2.2.2.2.2.2.1
      rw [show 30 + (6 + w) = 36 + w by omega] at g1
      rw [show 30 + (12 + w) = 42 + w by omega] at g2
      let p : PM := Subtype.mk (o, l0, l1, l2, G0, G1, G2) ⟨ho', i0, i1, i2, k0, k1, k2⟩
      have hpc : PC p go ow lk w := by
        unfold PC
        exact ⟨hw, (tgo w 0 hw (by omega)).trans (by rw [show 30 + 6 * 0 + w = 30 + w by omega]; exact g0), (tgo w 1 hw (by omega)).trans (by rw [show 30 + 6 * 1 + w = 36 + w by omega]; exact g1), (tgo w 2 hw (by omega)).trans (by rw [show 30 + 6 * 2 + w = 42 + w by omega]; exact g2), (hT.2.2.1 w hw).trans eo, (tlk 0 (by omega)).trans j0, (tlk 1 (by omega)).trans j1, (tlk 2 (by omega)).trans j2⟩
      have hpb : PB p B w := by
        unfold PB
        exact ⟨hw, g0, g1, g2, eo, j0, j1, j2⟩
      have vn : VS none := fun q h => absurd h (by simp)
      have c1 : fX5_seek pg pw go ow lk (nI w) = some (gI (p.gg 10 0 none), wI (p.gg 10 0 none)) := f_L14 hpc 10 0 (by omega) zF (by unfold zF; omega) none vn
      have c2 : fX12_paid_L31 B (nI w) x2 zF 1000000 (-6) 0 = fX12_paid_L31 B (nI w) x2 (98999 + 1) (xI (p.gg 10 0 none)) (wI (p.gg 10 0 none)) 1000 := r_gg hpb x2 99000 10 0 (by omega) none vn
      have hv := VS_gg p 10 0 none (by omega) vn
      rw [c1, c2, bsome, fX12_paid_L31, if_pos (show (1000 : Int32) ≤ 1000 by decide)]
      unfold fX12_paid_b214 fX12_paid_b220
      cases hst : p.gg 10 0 none with
      | none =>
        rw [if_pos (show wI none < 0 by decide)]
        by_cases q : x2 = 0
        · rw [if_pos q]; exact ⟨_, _, _, rfl, rfl⟩
        · rw [if_neg q]; exact ⟨_, _, _, rfl, rfl⟩
      | some r =>
        obtain ⟨v1, v2⟩ := hv r hst
        rw [if_neg (show ¬ wI (some r) < 0 from nI_nneg (by omega))]
        by_cases q : x2 = 0
        · rw [if_pos q, if_neg (by rw [q]; decide)]; exact ⟨_, _, _, rfl, rfl⟩
        · rw [if_neg q, if_pos (rng01 h2 q)]; exact ⟨_, _, _, rfl, rfl⟩
    · simp only [h1, h2, not_true_eq_false, and_self, if_false, not_false_eq_true, if_true]
      exact ⟨_, _, _, rfl, rfl⟩
  · simp only [h1, not_false_eq_true, if_true]
    exact ⟨_, _, _, rfl, rfl⟩
