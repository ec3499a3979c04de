/-! the text: faults, and days -/
def an (q a : Nat) : Nat := if q = 0 then (if a = 33 ∨ a = 46 then 0 else if 65 ≤ a ∧ a ≤ 70 then 1 else 3) else if q = 1 then (if a = 38 then 2 else if (48 ≤ a ∧ a ≤ 55) ∨ a = 60 ∨ a = 62 ∨ a = 94 ∨ a = 102 ∨ a = 103 ∨ a = 115 ∨ a = 124 then 0 else 3) else (if 65 ≤ a ∧ a ≤ 70 then 0 else 3)
theorem f_after : ∀ q, q < 3 → ∀ a, a < 127 → fX3_after (nI q) (nI a) = some (if an q a = 3 then -1 else nI (an q a)) := by decide +kernel
theorem f_stepM : ∀ q, q < 3 → ∀ a, a < 127 → fX12_step (nI q) (nI a) = some (if an q a = 3 then -6 else nI (an q a)) := by decide +kernel
theorem an_le : ∀ q, q < 3 → ∀ a, a < 127 → an q a ≤ 3 := by decide +kernel
/-- the fault, from a place and a state on -/
def ft (g : Nat → Nat) (s : Nat) : Nat → Nat → Nat → Int32
  | 0, q, _ => if q = 0 then -6 else nI s
  | m + 1, q, i => if an q (g i) = 3 then nI i else ft g s m (an q (g i)) (i + 1)
/-- the signs, as numbers -/
def PG (pc pm : Nat → Int32) (g : Nat → Nat) (s : Nat) : Prop := s ≤ 60 ∧ ∀ i, i < s → pc i = nI (g i) ∧ pm i = nI (g i) ∧ 33 ≤ g i ∧ g i ≤ 126
theorem PR_g {sz sg : Int32} {pc pm : Nat → Int32} (h : PR sz sg pc pm) : ∃ (g : Nat → Nat) (s : Nat), sz = nI s ∧ sg = nI s ∧ PG pc pm g s := by
  obtain ⟨e, s, hs, es, hp⟩ := h
  refine ⟨fun i => (pm i).toNatClampNeg, s, es, e ▸ es, hs, fun i hi => ?_⟩
  obtain ⟨e1, a, a1, a2, e2⟩ := hp i hi
  have e3 : (pm i).toNatClampNeg = a := by rw [e2]; exact toN_t (by omega)
  refine ⟨?_, ?_, ?_, ?_⟩
  · show pc i = nI (pm i).toNatClampNeg
    rw [e3, e1, e2]
  · show pm i = nI (pm i).toNatClampNeg
    rw [e3, e2]
  · show 33 ≤ (pm i).toNatClampNeg
    rw [e3]; exact a1
  · show (pm i).toNatClampNeg ≤ 126
    rw [e3]; exact a2
theorem f_fault {pc pm : Nat → Int32} {g : Nat → Nat} {s : Nat} (h : PG pc pm g s) : ∀ m q i, q < 3 → i + m = s → ∀ n1 n2, m < n1 → m < n2 → fX3_faultyPlace_L4 (nI s) pc n1 (nI q) (nI i) = some (ft g s m q i) ∧ fX12_faultOf_L4 (nI s) pm n2 (nI q) (nI i) = some (ft g s m q i) := by
  obtain ⟨hs, hp⟩ := h
  intro m
  induction m with
  | zero =>
    intro q i hq hi n1 n2 h1 h2
    obtain ⟨n1, rfl⟩ : ∃ z, n1 = z + 1 := ⟨n1 - 1, by omega⟩
    obtain ⟨n2, rfl⟩ : ∃ z, n2 = z + 1 := ⟨n2 - 1, by omega⟩
    have : i = s := by omega
    subst this
    rw [fX3_faultyPlace_L4, fX12_faultOf_L4, if_pos (nI_le (Nat.le_refl i) (by omega)), if_pos (nI_le (Nat.le_refl i) (by omega)), ft]
    simp (disch := omega) only [nI_lit_eq, fX3_faultyPlace_b49, fX12_faultOf_b48]
    by_cases q0 : q = 0
    · rw [if_pos q0, if_pos q0]; exact ⟨rfl, rfl⟩
    · rw [if_neg q0, if_neg q0]; exact ⟨rfl, rfl⟩
  | succ m ih =>
    intro q i hq hi n1 n2 h1 h2
    obtain ⟨n1, rfl⟩ : ∃ z, n1 = z + 1 := ⟨n1 - 1, by omega⟩
    obtain ⟨n2, rfl⟩ : ∃ z, n2 = z + 1 := ⟨n2 - 1, by omega⟩
    obtain ⟨e1, e2, e3, e4⟩ := hp i (by omega)
    rw [fX3_faultyPlace_L4, fX12_faultOf_L4, if_neg (nI_ge (by omega) (by omega)), if_neg (nI_ge (by omega) (by omega)), ft]
    simp (disch := omega) only [inb_t, toN_t, gd_T, e1, e2, f_after q hq _ (by omega : g i < 127), f_stepM q hq _ (by omega : g i < 127), bsome, a_lit]
    by_cases c : an q (g i) = 3
    · rw [if_pos c, if_pos c, if_pos c, if_pos rfl, if_neg n60']
      exact ⟨rfl, rfl⟩
    · have hl := an_le q hq (g i) (by omega)
      rw [if_neg c, if_neg c, if_neg c, if_neg (by
        rw [i_eq, nI_toInt (by omega)]
        have : (-1 : Int32).toInt = -1 := by decide
        omega), if_pos (nI_pos' (by omega))]
      exact ih (an q (g i)) (i + 1) (by omega) (by omega) n1 n2 (by omega) (by omega)
theorem op_fault {sz sg : Int32} {pc pm : Nat → Int32} (h : PR sz sg pc pm) : ∃ r : Int32, fX11_fault sz pc = some r ∧ fX12_fault sg pm = some r := by
  obtain ⟨g, s, rfl, rfl, hp⟩ := PR_g h
  obtain ⟨k1, k2⟩ := f_fault hp s 0 0 (by omega) (by omega) zF zF (by have := hp.1; unfold zF; omega) (by have := hp.1; unfold zF; omega)
  refine ⟨ft g s s 0 0, ?_, ?_⟩
  · unfold fX11_fault fX3_faultyPlace
    have k1' : fX3_faultyPlace_L4 (nI s) pc zF 0 0 = _ := k1
    rw [k1', bsome]
  · unfold fX12_fault fX12_faultOf
    have k2' : fX12_faultOf_L4 (nI s) pm zF 0 0 = _ := k2
    rw [k2', bsome]
theorem ft_cases (g : Nat → Nat) (s : Nat) (hs : s ≤ 60) : ∀ m q i, i + m = s → ft g s m q i = -6 ∨ ∃ a, a ≤ 60 ∧ ft g s m q i = nI a := by
  intro m
  induction m with
  | zero =>
    intro q i hi
    rw [ft]
    by_cases c : q = 0
    · rw [if_pos c]; exact Or.inl rfl
    · rw [if_neg c]; exact Or.inr ⟨s, hs, rfl⟩
  | succ m ih =>
    intro q i hi
    rw [ft]
    by_cases c : an q (g i) = 3
    · rw [if_pos c]; exact Or.inr ⟨i, by omega, rfl⟩
    · rw [if_neg c]; exact ih _ _ (by omega)
def kd (b : Nat) : Nat := if 48 ≤ b ∧ b ≤ 55 then 2 else if b = 60 then 1 else if b = 62 then 0 else if b = 94 then 4 else if b = 124 then 6 else 3
def ob (b : Nat) : Nat := if 48 ≤ b ∧ b ≤ 55 then b - 48 else if b = 102 then 1 else if b = 115 then 2 else 0
theorem f_kind1 : ∀ b, b < 127 → an 1 b = 0 → fX3_kind 1 (nI b) = some (nI (kd b)) ∧ fX3_object 1 (nI b) = some (nI (ob b)) := by decide +kernel
theorem f_kind2 : ∀ b, b < 127 → an 2 b = 0 → fX3_kind 2 (nI b) = some 5 ∧ fX3_object 2 (nI b) = some (nI (b - 65)) := by decide +kernel
theorem f_kind0 : fX3_kind 0 (nI 33) = some 7 ∧ fX3_object 0 (nI 33) = some 0 ∧ fX3_kind 0 (nI 46) = some 8 ∧ fX3_object 0 (nI 46) = some 0 := by decide +kernel
theorem rd_1 {h2 d2 c2 y2 f2 : Int32} {ce2 ho2 ow2 hd2 li2 go2 lk2 : Nat → Int32} {pc pm : Nat → Int32} {g : Nat → Nat} {s : Nat} (hp : PG pc pm g s) {i : Nat} (hi : i < s) {q : Nat} (hq : q < 3) (ha : an q (g i) = 1) (n : Nat) (acts rea ls fa fl : Int32) (ce ho ow hd li go lk : Nat → Int32) (wc wy wf hr dy x4 : Int32) : fX9_read_L13 h2 d2 c2 y2 f2 ce2 ho2 ow2 hd2 li2 go2 lk2 (nI s) pc (n + 1) acts (-6) rea ls fa fl hr dy wc wy wf ce ho ow hd li go lk (nI q) x4 (nI i) = fX9_read_L13 h2 d2 c2 y2 f2 ce2 ho2 ow2 hd2 li2 go2 lk2 (nI s) pc n acts (-6) rea ls fa fl hr dy wc wy wf ce ho ow hd li go lk 1 (nI (g i) - 65) (nI (i + 1)) := by
  obtain ⟨hs, hp⟩ := hp
  obtain ⟨e1, e2, e3, e4⟩ := hp i hi
  have fa0 : fX3_after (nI q) (nI (g i)) = some 1 := by
    rw [f_after q hq _ (by omega), ha]
    rfl
  rw [fX9_read_L13, if_neg (nI_ge hi (by omega)), if_pos rfl, toN_t (by omega), e1, inb_t (by omega), gd_T, fa0, bsome, if_pos rfl, fX9_read_b91, nI_1]
theorem rd_2 {h2 d2 c2 y2 f2 : Int32} {ce2 ho2 ow2 hd2 li2 go2 lk2 : Nat → Int32} {pc pm : Nat → Int32} {g : Nat → Nat} {s : Nat} (hp : PG pc pm g s) {i : Nat} (hi : i < s) {q : Nat} (hq : q < 3) (ha : an q (g i) = 2) (n : Nat) (acts rea ls fa fl : Int32) (ce ho ow hd li go lk : Nat → Int32) (wc wy wf hr dy x4 : Int32) : fX9_read_L13 h2 d2 c2 y2 f2 ce2 ho2 ow2 hd2 li2 go2 lk2 (nI s) pc (n + 1) acts (-6) rea ls fa fl hr dy wc wy wf ce ho ow hd li go lk (nI q) x4 (nI i) = fX9_read_L13 h2 d2 c2 y2 f2 ce2 ho2 ow2 hd2 li2 go2 lk2 (nI s) pc n acts (-6) rea ls fa fl hr dy wc wy wf ce ho ow hd li go lk 2 x4 (nI (i + 1)) := by
  obtain ⟨hs, hp⟩ := hp
  obtain ⟨e1, e2, e3, e4⟩ := hp i hi
  have fa0 : fX3_after (nI q) (nI (g i)) = some 2 := by
    rw [f_after q hq _ (by omega), ha]
    rfl
  rw [fX9_read_L13, if_neg (nI_ge hi (by omega)), if_pos rfl, toN_t (by omega), e1, inb_t (by omega), gd_T, fa0, bsome, if_neg (by decide), if_neg (by decide), fX9_read_b91, nI_1]
theorem rd_0 {h2 d2 c2 y2 f2 : Int32} {ce2 ho2 ow2 hd2 li2 go2 lk2 : Nat → Int32} {pc pm : Nat → Int32} {g : Nat → Nat} {s : Nat} (hp : PG pc pm g s) {i : Nat} (hi : i < s) {q : Nat} (hq : q < 3) (ha : an q (g i) = 0) {K O : Int32} (hK : fX3_kind (nI q) (nI (g i)) = some K) (hO : fX3_object (nI q) (nI (g i)) = some O) (n k : Nat) (ls fa fl : Int32) (ce ho ow hd li go lk : Nat → Int32) (wc wy wf hr dy x4 : Int32) {r ls' fa' fl' hr' dy' wc' wy' wf' : Int32} {hd' li' ce' ow' go' ho' : Nat → Int32} (hA : fX9_tryAct (nI k) ls fa fl hr dy hd li ce wc wy wf ow go ho lk x4 K O = some (r, ls', fa', fl', hr', dy', hd', li', ce', wc', wy', wf', ow', go', ho')) : fX9_read_L13 h2 d2 c2 y2 f2 ce2 ho2 ow2 hd2 li2 go2 lk2 (nI s) pc (n + 1) (nI k) (-6) (-6) ls fa fl hr dy wc wy wf ce ho ow hd li go lk (nI q) x4 (nI i) = fX9_read_L13 h2 d2 c2 y2 f2 ce2 ho2 ow2 hd2 li2 go2 lk2 (nI s) pc n (if r = 0 then nI (k + 1) else nI k) (if r = 0 then -6 else nI k) (if r = 0 then -6 else r) ls' fa' fl' hr' dy' wc' wy' wf' ce' ho' ow' hd' li' go' lk 0 x4 (nI (i + 1)) := by
  obtain ⟨hs, hp⟩ := hp
  obtain ⟨e1, e2, e3, e4⟩ := hp i hi
  have fa0 : fX3_after (nI q) (nI (g i)) = some 0 := by
    rw [f_after q hq _ (by omega), ha]
    rfl
  rw [fX9_read_L13, if_neg (nI_ge hi (by omega)), if_pos rfl, toN_t (by omega), e1, inb_t (by omega), gd_T, fa0, bsome, if_neg (by decide), if_pos rfl, hK, bsome, hO, bsome, hA, bsome, fX9_note, fX9_note_b30, fX9_note_b30]
  by_cases c : r = 0
  · rw [if_pos c, if_pos c, if_pos c, if_pos c, bsome, fX9_read_b91, nI_1, nI_1]
  · rw [if_neg c, if_neg c, if_neg c, if_neg c, bsome, fX9_read_b91, nI_1]
theorem rd_end {h2 d2 c2 y2 f2 : Int32} {ce2 ho2 ow2 hd2 li2 go2 lk2 : Nat → Int32} {pc : Nat → Int32} {s i : Nat} (hs : s ≤ 60) (hi : i ≤ s) {bad : Int32} (hb : i = s ∨ ¬ bad = -6) (n : Nat) (acts rea ls fa fl : Int32) (ce ho ow hd li go lk : Nat → Int32) (wc wy wf hr dy x3 x4 : Int32) : fX9_read_L13 h2 d2 c2 y2 f2 ce2 ho2 ow2 hd2 li2 go2 lk2 (nI s) pc (n + 1) acts bad rea ls fa fl hr dy wc wy wf ce ho ow hd li go lk x3 x4 (nI i) = some (acts, bad, rea, ls, fa, fl, hr, dy, wc, wy, wf, ce, ho, ow, hd, li, go, lk) := by
  rw [fX9_read_L13, fX9_read_b100]
  by_cases c : i = s
  · rw [if_pos (by rw [c]; exact nI_le (Nat.le_refl s) (by omega))]
  · rw [if_neg (nI_ge (by omega) (by omega)), if_neg (hb.resolve_left c)]
theorem go_118 {B pm N : Nat → Int32} {s : Nat} (K : Int32 → Int32 → Int32 → Int32 → Int32 → Int32 → (Nat → Int32) → Int32 → Option (Int32 × Int32 × Int32 × Int32 × Int32 × Int32 × Int32 × (Nat → Int32))) (ls oa ow lo r : Int32) (k i d : Nat) (hr : r = 0 ∨ 0 < r) : fX12_goDays_b118 (nI s) B pm K ls oa ow lo r (nI k) N (nI i) (nI d) = if r = 0 then K ls (if lo < 0 then oa else if 0 ≤ oa then oa else nI k) (if lo < 0 then ow else if 0 ≤ oa then ow else lo) lo r (nI (k + 1)) N (nI (i + d)) else some (nI k, ls, oa, ow, lo, r, nI k, N) := by
  simp only [fX12_goDays_b118, fX12_goDays_b162, nI_add, nI_1]
  rcases hr with rfl | hr
  · rw [if_pos (by decide), if_pos rfl]
    by_cases c : lo < 0
    · rw [if_pos c, if_pos c, if_pos c]
    · rw [if_neg c, if_neg c, if_neg c]
      by_cases c2 : 0 ≤ oa
      · rw [if_pos c2, if_pos c2, if_pos c2]
      · rw [if_neg c2, if_neg c2, if_neg c2]
  · rw [if_neg (i_nle.mpr hr), if_neg (fun e => by rw [e] at hr; exact absurd hr (by decide))]
/-- who was first, as the reference keeps it between acts -/
def oaN (oa lo acts : Int32) : Int32 := if lo < 0 then oa else if 0 ≤ oa then oa else acts
def owN (oa ow lo : Int32) : Int32 := if lo < 0 then ow else if 0 ≤ oa then ow else lo
def OJ (oa ow : Int32) : Prop := (oa = -6 ∧ ow = -6) ∨ ∃ a x, a < 100 ∧ x < 6 ∧ oa = nI a ∧ ow = nI x
theorem OJ_n {oa ow fa fl lo : Int32} {k : Nat} (hk : k < 100) (hJ : OJ oa ow) (hL : LR (nI k) oa ow fa fl lo) : fa = oaN oa lo (nI k) ∧ fl = owN oa ow lo ∧ OJ fa fl := by
  unfold oaN owN
  rcases hL with ⟨rfl, rfl, rfl⟩ | ⟨x, hx, rfl, ⟨h1, rfl, rfl⟩ | ⟨h1, rfl, rfl⟩⟩
  · rw [if_pos n6_lt, if_pos n6_lt]; exact ⟨rfl, rfl, hJ⟩
  · rcases hJ with ⟨rfl, -⟩ | ⟨a, y, ha, hy, rfl, e⟩
    · rw [if_neg (nI_nneg (by omega)), if_neg (nI_nneg (by omega)), if_neg n60', if_neg n60']
      exact ⟨rfl, rfl, Or.inr ⟨k, x, hk, hx, rfl, rfl⟩⟩
    · rw [e] at h1
      exact absurd h1 (nI_n6 (by omega))
  · rcases hJ with ⟨rfl, e⟩ | ⟨a, y, ha, hy, rfl, e⟩
    · exact absurd e h1
    · rw [if_neg (nI_nneg (by omega)), if_neg (nI_nneg (by omega)), if_pos (nI_pos' (by omega)), if_pos (nI_pos' (by omega))]
      exact ⟨rfl, rfl, Or.inr ⟨a, y, ha, hy, rfl, e⟩⟩
set_option maxHeartbeats 4000000 in
theorem one_act {h2 d2 c2 y2 f2 : Int32} {ce2 ho2 ow2 hd2 li2 go2 lk2 : Nat → Int32} {B pc pm : Nat → Int32} {g : Nat → Nat} {s : Nat} (hp : PG pc pm g s) {m i : Nat} (him : i + m = s) (hm : 0 < m) (hf : ft g s m 0 i = -6) {k : Nat} (hk : k < 100) {ce ho ow hd li go lk : Nat → Int32} {wc wy wf hr dy : Int32} {N : Nat → Int32} {ls fa fl : Int32} (hT : TR ce ho ow hd li go lk wc wy wf hr dy N) (hB : BI N) :
    ∃ (d : Nat) (r ls' fa' fl' lo' hr' dy' wc' wy' wf' : Int32) (ce' ho' ow' hd' li' go' N' : Nat → Int32), 1 ≤ d ∧ d ≤ 3 ∧ d ≤ m ∧ ft g s (m - d) 0 (i + d) = -6 ∧
    (∀ (n : Nat) (x4 : Int32), ∃ x4' : Int32, fX9_read_L13 h2 d2 c2 y2 f2 ce2 ho2 ow2 hd2 li2 go2 lk2 (nI s) pc (n + d) (nI k) (-6) (-6) ls fa fl hr dy wc wy wf ce ho ow hd li go lk 0 x4 (nI i) = fX9_read_L13 h2 d2 c2 y2 f2 ce2 ho2 ow2 hd2 li2 go2 lk2 (nI s) pc n (if r = 0 then nI (k + 1) else nI k) (if r = 0 then -6 else nI k) (if r = 0 then -6 else r) ls' fa' fl' hr' dy' wc' wy' wf' ce' ho' ow' hd' li' go' lk 0 x4' (nI (i + d))) ∧
    (∀ (n : Nat) (lo rs : Int32), fX12_goDays_L11 (nI s) B pm (n + 1) ls fa fl lo rs (nI k) N (nI i) = if r = 0 then fX12_goDays_L11 (nI s) B pm n ls' (oaN fa lo' (nI k)) (owN fa fl lo') lo' r (nI (k + 1)) N' (nI (i + d)) else some (nI k, ls', fa, fl, lo', r, nI k, N')) ∧
    TR ce' ho' ow' hd' li' go' lk wc' wy' wf' hr' dy' N' ∧ BI N' ∧ LR (nI k) fa fl fa' fl' lo' ∧ (r = 0 ∨ 0 < r) := by
  have hs := hp.1
  have hL0 : LR (nI k) fa fl fa fl (-6) := Or.inl ⟨rfl, rfl, rfl⟩
  obtain ⟨m, rfl⟩ : ∃ z, m = z + 1 := ⟨m - 1, by omega⟩
  have hi : i < s := by omega
  obtain ⟨e1, e2, e3, e4⟩ := hp.2 i hi
  rw [ft] at hf
  have hA0 : an 0 (g i) ≠ 3 := fun e => by
    rw [if_pos e] at hf
    exact nI_n6 (by omega) hf
  rw [if_neg hA0] at hf
  by_cases c33 : g i = 33
  · -- a gale
    have ha : an 0 (g i) = 0 := by rw [c33]; rfl
    rw [ha] at hf
    obtain ⟨r, N', ce', ho', ow', hd', li', go', wf', g1, g2, g3, g4, g5⟩ := ac_gust (acts := nI k) (lo := ls) (fa := fa) (fl := fl) hT hB 0 0
    refine ⟨1, r, ls, fa, fl, -6, hr, dy, wc, wy, wf', ce', ho', ow', hd', li', go', N', by omega, by omega, by omega, hf, fun n x4 => ?_, fun n lo rs => ?_, g3, g4, hL0, g5⟩
    · have o7 : ∀ w : Int32, fX8_obstacle hr dy hd li ce wf ow go w 7 0 = (if wf < 9 then some 0 else some 9) := fun w => by
        unfold fX8_obstacle fX8_obstacle_b135
        rw [if_neg (by decide), if_neg (by decide), if_neg (by decide), if_neg (by decide), if_neg (by decide), if_neg (by decide), if_neg (by decide), if_pos rfl]
      have p7 : ∀ w : Int32, fX8_perform ce hd go ow lk wf ho li w 7 0 = some (ce, hd, go, ow, wf + 1, ho, li) := fun w => by
        unfold fX8_perform fX8_perform_b138
        rw [if_neg (by decide), if_neg (by decide), if_neg (by decide), if_neg (by decide), if_neg (by decide), if_neg (by decide), if_neg (by decide), if_pos rfl]
      have eq1 : fX9_tryAct (nI k) ls fa fl hr dy hd li ce wc wy wf ow go ho lk x4 7 0 = fX9_tryAct (nI k) ls fa fl hr dy hd li ce wc wy wf ow go ho lk 0 7 0 := by
        simp only [fX9_tryAct, o7, p7, fX9_tryAct_b43]
      exact ⟨x4, rd_0 (q := 0) (h2 := h2) (d2 := d2) (c2 := c2) (y2 := y2) (f2 := f2) (ce2 := ce2) (ho2 := ho2) (ow2 := ow2) (hd2 := hd2) (li2 := li2) (go2 := go2) (lk2 := lk2) hp hi (by omega) ha (by rw [c33]; exact f_kind0.1) (by rw [c33]; exact f_kind0.2.1) n k ls fa fl ce ho ow hd li go lk wc wy wf hr dy x4 (eq1.trans g1)⟩
    · rw [fX12_goDays_L11, if_neg (nI_ge hi (by omega)), toN_t (by omega), e2, inb_t (by omega), gd_T, if_pos (by rw [c33]; rfl), fX12_goDays_b47, fX12_goDays_b52, toN_t (by omega), e2, inb_t (by omega), gd_T, if_pos (by rw [c33]; rfl), g2, bsome, fX12_goDays_b88, if_neg (by decide)]
      exact go_118 _ _ _ _ _ _ _ _ 1 g5
  · by_cases c46 : g i = 46
    · -- an hour
      have ha : an 0 (g i) = 0 := by rw [c46]; rfl
      rw [ha] at hf
      obtain ⟨r, ls', fa', fl', lo', hr', dy', wc', wy', ow', li', N', g1, g2, g3, g4, g5, g6⟩ := hour (ls := ls) hT hB hL0 0 0
      refine ⟨1, r, ls', fa', fl', lo', hr', dy', wc', wy', wf, ce, ho, ow', hd, li', go, N', by omega, by omega, by omega, hf, fun n x4 => ?_, fun n lo rs => ?_, g3, g4, g5, g6⟩
      · have o8 : ∀ w : Int32, fX8_obstacle hr dy hd li ce wf ow go w 8 0 = (if hr = 7 then (if dy < 99 then some 0 else some 9) else some 0) := fun w => by
          unfold fX8_obstacle fX8_obstacle_b159 fX8_obstacle_b160
          rw [if_neg (by decide), if_neg (by decide), if_neg (by decide), if_neg (by decide), if_neg (by decide), if_neg (by decide), if_neg (by decide), if_neg (by decide)]
        have p8 : ∀ w : Int32, fX8_perform ce hd go ow lk wf ho li w 8 0 = some (ce, hd, go, ow, wf, ho, li) := fun w => by
          unfold fX8_perform fX8_perform_b138
          rw [if_neg (by decide), if_neg (by decide), if_neg (by decide), if_neg (by decide), if_neg (by decide), if_neg (by decide), if_neg (by decide), if_neg (by decide)]
        have eq1 : fX9_tryAct (nI k) ls fa fl hr dy hd li ce wc wy wf ow go ho lk x4 8 0 = fX9_tryAct (nI k) ls fa fl hr dy hd li ce wc wy wf ow go ho lk 0 8 0 := by
          simp only [fX9_tryAct, o8, p8, fX9_tryAct_b43]
        exact ⟨x4, rd_0 (q := 0) (h2 := h2) (d2 := d2) (c2 := c2) (y2 := y2) (f2 := f2) (ce2 := ce2) (ho2 := ho2) (ow2 := ow2) (hd2 := hd2) (li2 := li2) (go2 := go2) (lk2 := lk2) hp hi (by omega) ha (by rw [c46]; exact f_kind0.2.2.1) (by rw [c46]; exact f_kind0.2.2.2) n k ls fa fl ce ho ow hd li go lk wc wy wf hr dy x4 (eq1.trans g1)⟩
      · rw [fX12_goDays_L11, if_neg (nI_ge hi (by omega)), toN_t (by omega), e2, inb_t (by omega), gd_T, if_neg (show ¬ nI (g i) = (33 : Int32) from fun e => c33 ((nI_inj (b := 33) (by omega) (by omega)).mp e)), gd_T, if_pos (by rw [c46]; rfl), fX12_goDays_b47, fX12_goDays_b52, toN_t (by omega), e2, inb_t (by omega), gd_T, if_neg (show ¬ nI (g i) = (33 : Int32) from fun e => c33 ((nI_inj (b := 33) (by omega) (by omega)).mp e)), if_neg (by decide), g2, bsome, fX12_goDays_b88, if_neg (by decide)]
        exact go_118 _ _ _ _ _ _ _ _ 1 g6
    · -- a walker's letter
      have hlet : 65 ≤ g i ∧ g i ≤ 70 := by
        by_cases z : 65 ≤ g i ∧ g i ≤ 70
        · exact z
        · refine absurd ?_ hA0
          unfold an
          rw [if_pos rfl, if_neg (by omega), if_neg z]
      have ha : an 0 (g i) = 1 := by
        unfold an
        rw [if_pos rfl, if_neg (by omega), if_pos hlet]
      obtain ⟨w, hw, ew⟩ : ∃ w, w < 6 ∧ g i = 65 + w := ⟨g i - 65, by omega, by omega⟩
      have ew2 : nI (g i) - 65 = nI w := by rw [ew, s_lit (by show 65 ≤ 65 + w; omega)]; congr 1; show 65 + w - 65 = w; omega
      rw [ha] at hf
      have hm0 : m ≠ 0 := fun e => by
        rw [e, ft, if_neg (by decide)] at hf
        exact nI_n6 (by omega) hf
      obtain ⟨m, rfl⟩ : ∃ z, m = z + 1 := ⟨m - 1, by omega⟩
      have hi2 : i + 1 < s := by omega
      obtain ⟨zf1, zf2, zf3, zf4⟩ := hp.2 (i + 1) hi2
      rw [ft] at hf
      have hA1 : an 1 (g (i + 1)) ≠ 3 := fun e => by
        rw [if_pos e] at hf
        exact nI_n6 (by omega) hf
      rw [if_neg hA1] at hf
      have R0 : ∀ (n : Nat) (lo rs : Int32), fX12_goDays_L11 (nI s) B pm (n + 1) ls fa fl lo rs (nI k) N (nI i) = (fX12_oneAct pm N (nI i)).bind (fun v10 => fX12_goDays_b88 (nI s) B pm (fX12_goDays_L11 (nI s) B pm n) ls fa fl (-6) rs (nI k) v10.2 (nI i) 0 v10.1) := fun n lo rs => by
        rw [fX12_goDays_L11, if_neg (nI_ge hi (by omega)), toN_t (by omega), e2, inb_t (by omega), gd_T, if_neg (show ¬ nI (g i) = (33 : Int32) from fun e => c33 ((nI_inj (b := 33) (by omega) (by omega)).mp e)), gd_T, if_neg (show ¬ nI (g i) = (46 : Int32) from fun e => c46 ((nI_inj (b := 46) (by omega) (by omega)).mp e)), fX12_goDays_b52, toN_t (by omega), e2, inb_t (by omega), gd_T, if_neg (show ¬ nI (g i) = (33 : Int32) from fun e => c33 ((nI_inj (b := 33) (by omega) (by omega)).mp e)), if_pos rfl]
      have C1 : ∀ (n : Nat) (x4 : Int32), fX9_read_L13 h2 d2 c2 y2 f2 ce2 ho2 ow2 hd2 li2 go2 lk2 (nI s) pc (n + 1) (nI k) (-6) (-6) ls fa fl hr dy wc wy wf ce ho ow hd li go lk 0 x4 (nI i) = fX9_read_L13 h2 d2 c2 y2 f2 ce2 ho2 ow2 hd2 li2 go2 lk2 (nI s) pc n (nI k) (-6) (-6) ls fa fl hr dy wc wy wf ce ho ow hd li go lk 1 (nI w) (nI (i + 1)) := fun n x4 => by
        have := rd_1 (q := 0) (h2 := h2) (d2 := d2) (c2 := c2) (y2 := y2) (f2 := f2) (ce2 := ce2) (ho2 := ho2) (ow2 := ow2) (hd2 := hd2) (li2 := li2) (go2 := go2) (lk2 := lk2) hp hi (by omega) ha n (nI k) (-6) ls fa fl ce ho ow hd li go lk wc wy wf hr dy x4
        rw [ew2] at this
        exact this
      have O1 : fX12_oneAct pm N (nI i) = (if nI (g (i + 1)) = (38 : Int32) then gd (inb (nI i + 2) 60) (Option.bind (fX12_hold N (nI w) (pm (nI i + 2).toNatClampNeg - 65)) (fun v5 => some (v5.1, v5.2))) else if nI (g (i + 1)) = (60 : Int32) then Option.bind (fX12_walk N (nI w) (-1)) (fun v7 => some (v7.1, v7.2)) else if nI (g (i + 1)) = (62 : Int32) then Option.bind (fX12_walk N (nI w) 1) (fun v9 => some (v9.1, v9.2)) else if nI (g (i + 1)) = (94 : Int32) then Option.bind (fX12_putOn N (nI w)) (fun v11 => some (v11.1, v11.2)) else if nI (g (i + 1)) = (102 : Int32) then Option.bind (fX12_pay N (nI w) 1) (fun v13 => some (v13.1, v13.2)) else if nI (g (i + 1)) = (103 : Int32) then Option.bind (fX12_pay N (nI w) 0) (fun v15 => some (v15.1, v15.2)) else if nI (g (i + 1)) = (115 : Int32) then Option.bind (fX12_pay N (nI w) 2) (fun v17 => some (v17.1, v17.2)) else if nI (g (i + 1)) = (124 : Int32) then Option.bind (fX12_letGo N (nI w)) (fun v19 => some (v19.1, v19.2)) else Option.bind (fX12_state N (nI w) (nI (g (i + 1)) - 48)) (fun v20 => some (v20.1, v20.2))) := by
        unfold fX12_oneAct
        rw [nI_1, toN_t (by omega), toN_t (by omega), e2, zf2, ew2, inb_t (by omega), inb_t (by omega), gd_T, gd_T]
      by_cases c38 : g (i + 1) = 38
      · -- taking one under the arm
        have ha1 : an 1 (g (i + 1)) = 2 := by rw [c38]; rfl
        rw [ha1] at hf
        have hm1 : m ≠ 0 := fun e => by
          rw [e, ft, if_neg (by decide)] at hf
          exact nI_n6 (by omega) hf
        obtain ⟨m, rfl⟩ : ∃ z, m = z + 1 := ⟨m - 1, by omega⟩
        have hi3 : i + 1 + 1 < s := by omega
        obtain ⟨u1, u2, u3, u4⟩ := hp.2 (i + 1 + 1) hi3
        rw [ft] at hf
        have hA2 : an 2 (g (i + 1 + 1)) ≠ 3 := fun e => by
          rw [if_pos e] at hf
          exact nI_n6 (by omega) hf
        rw [if_neg hA2] at hf
        have hlet2 : 65 ≤ g (i + 1 + 1) ∧ g (i + 1 + 1) ≤ 70 := by
          by_cases z : 65 ≤ g (i + 1 + 1) ∧ g (i + 1 + 1) ≤ 70
          · exact z
          · refine absurd ?_ hA2
            unfold an
            rw [if_neg (by decide), if_neg (by decide), if_neg z]
        have ha2 : an 2 (g (i + 1 + 1)) = 0 := by
          unfold an
          rw [if_neg (by decide), if_neg (by decide), if_pos hlet2]
        rw [ha2] at hf
        obtain ⟨o, ho_, eo⟩ : ∃ o, o < 6 ∧ g (i + 1 + 1) = 65 + o := ⟨g (i + 1 + 1) - 65, by omega, by omega⟩
        have eo2 : nI (g (i + 1 + 1)) - 65 = nI o := by rw [eo, s_lit (by show 65 ≤ 65 + o; omega)]; congr 1; show 65 + o - 65 = o; omega
        have eo3 : nI (g (i + 1 + 1) - 65) = nI o := by rw [eo]; congr 1; omega
        obtain ⟨r, N', ce', ho', ow', hd', li', go', wf', g1, g2, g3, g4, g5⟩ := ac_hold (acts := nI k) (lo := ls) (fa := fa) (fl := fl) hT hB hw ho_
        refine ⟨3, r, ls, fa, fl, -6, hr, dy, wc, wy, wf', ce', ho', ow', hd', li', go', N', by omega, by omega, by omega, hf, fun n x4 => ⟨nI w, ?_⟩, fun n lo rs => ?_, g3, g4, hL0, g5⟩
        · obtain ⟨k1, k2⟩ := f_kind2 (g (i + 1 + 1)) (by omega) ha2
          have s1 := C1 (n + 1 + 1) x4
          have s2 := rd_2 (q := 1) (h2 := h2) (d2 := d2) (c2 := c2) (y2 := y2) (f2 := f2) (ce2 := ce2) (ho2 := ho2) (ow2 := ow2) (hd2 := hd2) (li2 := li2) (go2 := go2) (lk2 := lk2) hp hi2 (by omega) ha1 (n + 1) (nI k) (-6) ls fa fl ce ho ow hd li go lk wc wy wf hr dy (nI w)
          have s3 := rd_0 (q := 2) (h2 := h2) (d2 := d2) (c2 := c2) (y2 := y2) (f2 := f2) (ce2 := ce2) (ho2 := ho2) (ow2 := ow2) (hd2 := hd2) (li2 := li2) (go2 := go2) (lk2 := lk2) hp hi3 (by omega) ha2 k1 (k2.trans (congrArg some eo3)) n k ls fa fl ce ho ow hd li go lk wc wy wf hr dy (nI w) g1
          exact s1.trans (s2.trans s3)
        · rw [R0 n lo rs, O1, if_pos (by rw [c38]; rfl), a_lit, inb_t (by show i + 2 < 60 ∧ _; omega), gd_T, toN_t (by show i + 2 < _; omega)]
          have u2' : pm (i + (OfNat.ofNat 2 : Nat)) = nI (g (i + 1 + 1)) := u2
          rw [u2', eo2, g2, bsome, bsome, fX12_goDays_b88, if_pos rfl, nI_1, inb_t (by omega), gd_T, toN_t (by omega), zf2, if_pos (by rw [c38]; rfl)]
          exact go_118 _ _ _ _ _ _ _ _ 3 g5
      · -- the other deeds
        have hA1' : an 1 (g (i + 1)) = 0 := by
          have : an 1 (g (i + 1)) = 0 ∨ an 1 (g (i + 1)) = 3 := by
            unfold an
            rw [if_neg (by decide), if_pos rfl, if_neg c38]
            by_cases z : (48 ≤ g (i + 1) ∧ g (i + 1) ≤ 55) ∨ g (i + 1) = 60 ∨ g (i + 1) = 62 ∨ g (i + 1) = 94 ∨ g (i + 1) = 102 ∨ g (i + 1) = 103 ∨ g (i + 1) = 115 ∨ g (i + 1) = 124
            · rw [if_pos z]; exact Or.inl rfl
            · rw [if_neg z]; exact Or.inr rfl
          exact this.resolve_right hA1
        rw [hA1'] at hf
        obtain ⟨k1, k2⟩ := f_kind1 (g (i + 1)) (by omega) hA1'
        have hb : (48 ≤ g (i + 1) ∧ g (i + 1) ≤ 55) ∨ g (i + 1) = 60 ∨ g (i + 1) = 62 ∨ g (i + 1) = 94 ∨ g (i + 1) = 102 ∨ g (i + 1) = 103 ∨ g (i + 1) = 115 ∨ g (i + 1) = 124 := by
          by_cases z : (48 ≤ g (i + 1) ∧ g (i + 1) ≤ 55) ∨ g (i + 1) = 60 ∨ g (i + 1) = 62 ∨ g (i + 1) = 94 ∨ g (i + 1) = 102 ∨ g (i + 1) = 103 ∨ g (i + 1) = 115 ∨ g (i + 1) = 124
          · exact z
          · unfold an at hA1'
            rw [if_neg (by decide), if_pos rfl, if_neg c38, if_neg z] at hA1'
            exact absurd hA1' (by decide)
        have fin : ∀ {r : Int32} {N' ce' ho' ow' hd' li' go' : Nat → Int32} {wf' : Int32}, fX9_tryAct (nI k) ls fa fl hr dy hd li ce wc wy wf ow go ho lk (nI w) (nI (kd (g (i + 1)))) (nI (ob (g (i + 1)))) = some (r, ls, fa, fl, hr, dy, hd', li', ce', wc, wy, wf', ow', go', ho') → fX12_oneAct pm N (nI i) = some (r, N') → TR ce' ho' ow' hd' li' go' lk wc wy wf' hr dy N' → BI N' → (r = 0 ∨ 0 < r) → ∃ (d : Nat) (r ls' fa' fl' lo' hr' dy' wc' wy' wf' : Int32) (ce' ho' ow' hd' li' go' N' : Nat → Int32), 1 ≤ d ∧ d ≤ 3 ∧ d ≤ m + 1 + 1 ∧ ft g s (m + 1 + 1 - d) 0 (i + d) = -6 ∧ (∀ (n : Nat) (x4 : Int32), ∃ x4' : Int32, fX9_read_L13 h2 d2 c2 y2 f2 ce2 ho2 ow2 hd2 li2 go2 lk2 (nI s) pc (n + d) (nI k) (-6) (-6) ls fa fl hr dy wc wy wf ce ho ow hd li go lk 0 x4 (nI i) = fX9_read_L13 h2 d2 c2 y2 f2 ce2 ho2 ow2 hd2 li2 go2 lk2 (nI s) pc n (if r = 0 then nI (k + 1) else nI k) (if r = 0 then -6 else nI k) (if r = 0 then -6 else r) ls' fa' fl' hr' dy' wc' wy' wf' ce' ho' ow' hd' li' go' lk 0 x4' (nI (i + d))) ∧ (∀ (n : Nat) (lo rs : Int32), fX12_goDays_L11 (nI s) B pm (n + 1) ls fa fl lo rs (nI k) N (nI i) = if r = 0 then fX12_goDays_L11 (nI s) B pm n ls' (oaN fa lo' (nI k)) (owN fa fl lo') lo' r (nI (k + 1)) N' (nI (i + d)) else some (nI k, ls', fa, fl, lo', r, nI k, N')) ∧ TR ce' ho' ow' hd' li' go' lk wc' wy' wf' hr' dy' N' ∧ BI N' ∧ LR (nI k) fa fl fa' fl' lo' ∧ (r = 0 ∨ 0 < r) := by
          intro r N' ce' ho' ow' hd' li' go' wf' g1 g2 g3 g4 g5
          refine ⟨2, r, ls, fa, fl, -6, hr, dy, wc, wy, wf', ce', ho', ow', hd', li', go', N', by omega, by omega, by omega, hf, fun n x4 => ⟨nI w, ?_⟩, fun n lo rs => ?_, g3, g4, hL0, g5⟩
          · have s1 := C1 (n + 1) x4
            have s2 := rd_0 (q := 1) (h2 := h2) (d2 := d2) (c2 := c2) (y2 := y2) (f2 := f2) (ce2 := ce2) (ho2 := ho2) (ow2 := ow2) (hd2 := hd2) (li2 := li2) (go2 := go2) (lk2 := lk2) hp hi2 (by omega) hA1' k1 k2 n k ls fa fl ce ho ow hd li go lk wc wy wf hr dy (nI w) g1
            exact s1.trans s2
          · rw [R0 n lo rs, g2, bsome, fX12_goDays_b88, if_pos rfl, nI_1, inb_t (by omega), gd_T, toN_t (by omega), zf2, if_neg (show ¬ nI (g (i + 1)) = (38 : Int32) from fun e => c38 ((nI_inj (b := 38) (by omega) (by omega)).mp e))]
            exact go_118 _ _ _ _ _ _ _ _ 2 g5
        have ne : ∀ c : Nat, c < 127 → g (i + 1) ≠ c → ¬ nI (g (i + 1)) = nI c := fun c hc h e => h ((nI_inj (by omega) (by omega)).mp e)
        rcases hb with z | z | z | z | z | z | z | z
        · obtain ⟨h, hh, eh⟩ : ∃ h, h < 8 ∧ g (i + 1) = 48 + h := ⟨g (i + 1) - 48, by omega, by omega⟩
          obtain ⟨r, N', ce', ho', ow', hd', li', go', wf', g1, g2, g3, g4, g5⟩ := ac_state (acts := nI k) (lo := ls) (fa := fa) (fl := fl) hT hB hw hh
          have q1 : kd (g (i + 1)) = 2 := by unfold kd; rw [if_pos z]
          have q2 : ob (g (i + 1)) = h := by unfold ob; rw [if_pos z]; omega
          have q3 : nI (g (i + 1)) - 48 = nI h := by rw [eh, s_lit (by show 48 ≤ 48 + h; omega)]; congr 1; show 48 + h - 48 = h; omega
          refine fin (r := r) (N' := N') (by rw [q1, q2]; exact g1) ?_ g3 g4 g5
          rw [O1, if_neg (show ¬ nI (g (i + 1)) = (38 : Int32) from ne 38 (by omega) (by omega)), if_neg (show ¬ nI (g (i + 1)) = (60 : Int32) from ne 60 (by omega) (by omega)), if_neg (show ¬ nI (g (i + 1)) = (62 : Int32) from ne 62 (by omega) (by omega)), if_neg (show ¬ nI (g (i + 1)) = (94 : Int32) from ne 94 (by omega) (by omega)), if_neg (show ¬ nI (g (i + 1)) = (102 : Int32) from ne 102 (by omega) (by omega)), if_neg (show ¬ nI (g (i + 1)) = (103 : Int32) from ne 103 (by omega) (by omega)), if_neg (show ¬ nI (g (i + 1)) = (115 : Int32) from ne 115 (by omega) (by omega)), if_neg (show ¬ nI (g (i + 1)) = (124 : Int32) from ne 124 (by omega) (by omega)), q3, g2, bsome]
        · obtain ⟨r, N', ce', ho', ow', hd', li', go', wf', g1, g2, g3, g4, g5⟩ := ac_go (acts := nI k) (lo := ls) (fa := fa) (fl := fl) hT hB hw false 0
          have q1 : kd (g (i + 1)) = 1 := by rw [z]; rfl
          have q2 : ob (g (i + 1)) = 0 := by rw [z]; rfl
          have g2' : fX12_walk N (nI w) (-1) = some (r, N') := g2
          refine fin (r := r) (N' := N') (by rw [q1, q2]; exact g1) ?_ g3 g4 g5
          rw [O1, if_neg (show ¬ nI (g (i + 1)) = (38 : Int32) from ne 38 (by omega) (by omega)), if_pos (by rw [z]; rfl), g2', bsome]
        · obtain ⟨r, N', ce', ho', ow', hd', li', go', wf', g1, g2, g3, g4, g5⟩ := ac_go (acts := nI k) (lo := ls) (fa := fa) (fl := fl) hT hB hw true 0
          have q1 : kd (g (i + 1)) = 0 := by rw [z]; rfl
          have q2 : ob (g (i + 1)) = 0 := by rw [z]; rfl
          have g2' : fX12_walk N (nI w) 1 = some (r, N') := g2
          refine fin (r := r) (N' := N') (by rw [q1, q2]; exact g1) ?_ g3 g4 g5
          rw [O1, if_neg (show ¬ nI (g (i + 1)) = (38 : Int32) from ne 38 (by omega) (by omega)), if_neg (show ¬ nI (g (i + 1)) = (60 : Int32) from ne 60 (by omega) (by omega)), if_pos (by rw [z]; rfl), g2', bsome]
        · obtain ⟨r, N', ce', ho', ow', hd', li', go', wf', g1, g2, g3, g4, g5⟩ := ac_on (acts := nI k) (lo := ls) (fa := fa) (fl := fl) hT hB hw 0
          have q1 : kd (g (i + 1)) = 4 := by rw [z]; rfl
          have q2 : ob (g (i + 1)) = 0 := by rw [z]; rfl
          have g2' : fX12_putOn N (nI w) = some (r, N') := g2
          refine fin (r := r) (N' := N') (by rw [q1, q2]; exact g1) ?_ g3 g4 g5
          rw [O1, if_neg (show ¬ nI (g (i + 1)) = (38 : Int32) from ne 38 (by omega) (by omega)), if_neg (show ¬ nI (g (i + 1)) = (60 : Int32) from ne 60 (by omega) (by omega)), if_neg (show ¬ nI (g (i + 1)) = (62 : Int32) from ne 62 (by omega) (by omega)), if_pos (by rw [z]; rfl), g2', bsome]
        · obtain ⟨r, N', ce', ho', ow', hd', li', go', wf', g1, g2, g3, g4, g5⟩ := ac_pay (q := 1) (acts := nI k) (lo := ls) (fa := fa) (fl := fl) hT hB hw (by omega)
          have q1 : kd (g (i + 1)) = 3 := by rw [z]; rfl
          have q2 : ob (g (i + 1)) = 1 := by rw [z]; rfl
          have g2' : fX12_pay N (nI w) 1 = some (r, N') := g2
          refine fin (r := r) (N' := N') (by rw [q1, q2]; exact g1) ?_ g3 g4 g5
          rw [O1, if_neg (show ¬ nI (g (i + 1)) = (38 : Int32) from ne 38 (by omega) (by omega)), if_neg (show ¬ nI (g (i + 1)) = (60 : Int32) from ne 60 (by omega) (by omega)), if_neg (show ¬ nI (g (i + 1)) = (62 : Int32) from ne 62 (by omega) (by omega)), if_neg (show ¬ nI (g (i + 1)) = (94 : Int32) from ne 94 (by omega) (by omega)), if_pos (by rw [z]; rfl), g2', bsome]
        · obtain ⟨r, N', ce', ho', ow', hd', li', go', wf', g1, g2, g3, g4, g5⟩ := ac_pay (q := 0) (acts := nI k) (lo := ls) (fa := fa) (fl := fl) hT hB hw (by omega)
          have q1 : kd (g (i + 1)) = 3 := by rw [z]; rfl
          have q2 : ob (g (i + 1)) = 0 := by rw [z]; rfl
          have g2' : fX12_pay N (nI w) 0 = some (r, N') := g2
          refine fin (r := r) (N' := N') (by rw [q1, q2]; exact g1) ?_ g3 g4 g5
          rw [O1, if_neg (show ¬ nI (g (i + 1)) = (38 : Int32) from ne 38 (by omega) (by omega)), if_neg (show ¬ nI (g (i + 1)) = (60 : Int32) from ne 60 (by omega) (by omega)), if_neg (show ¬ nI (g (i + 1)) = (62 : Int32) from ne 62 (by omega) (by omega)), if_neg (show ¬ nI (g (i + 1)) = (94 : Int32) from ne 94 (by omega) (by omega)), if_neg (show ¬ nI (g (i + 1)) = (102 : Int32) from ne 102 (by omega) (by omega)), if_pos (by rw [z]; rfl), g2', bsome]
        · obtain ⟨r, N', ce', ho', ow', hd', li', go', wf', g1, g2, g3, g4, g5⟩ := ac_pay (q := 2) (acts := nI k) (lo := ls) (fa := fa) (fl := fl) hT hB hw (by omega)
          have q1 : kd (g (i + 1)) = 3 := by rw [z]; rfl
          have q2 : ob (g (i + 1)) = 2 := by rw [z]; rfl
          have g2' : fX12_pay N (nI w) 2 = some (r, N') := g2
          refine fin (r := r) (N' := N') (by rw [q1, q2]; exact g1) ?_ g3 g4 g5
          rw [O1, if_neg (show ¬ nI (g (i + 1)) = (38 : Int32) from ne 38 (by omega) (by omega)), if_neg (show ¬ nI (g (i + 1)) = (60 : Int32) from ne 60 (by omega) (by omega)), if_neg (show ¬ nI (g (i + 1)) = (62 : Int32) from ne 62 (by omega) (by omega)), if_neg (show ¬ nI (g (i + 1)) = (94 : Int32) from ne 94 (by omega) (by omega)), if_neg (show ¬ nI (g (i + 1)) = (102 : Int32) from ne 102 (by omega) (by omega)), if_neg (show ¬ nI (g (i + 1)) = (103 : Int32) from ne 103 (by omega) (by omega)), if_pos (by rw [z]; rfl), g2', bsome]
        · obtain ⟨r, N', ce', ho', ow', hd', li', go', wf', g1, g2, g3, g4, g5⟩ := ac_let (acts := nI k) (lo := ls) (fa := fa) (fl := fl) hT hB hw 0
          have q1 : kd (g (i + 1)) = 6 := by rw [z]; rfl
          have q2 : ob (g (i + 1)) = 0 := by rw [z]; rfl
          have g2' : fX12_letGo N (nI w) = some (r, N') := g2
          refine fin (r := r) (N' := N') (by rw [q1, q2]; exact g1) ?_ g3 g4 g5
          rw [O1, if_neg (show ¬ nI (g (i + 1)) = (38 : Int32) from ne 38 (by omega) (by omega)), if_neg (show ¬ nI (g (i + 1)) = (60 : Int32) from ne 60 (by omega) (by omega)), if_neg (show ¬ nI (g (i + 1)) = (62 : Int32) from ne 62 (by omega) (by omega)), if_neg (show ¬ nI (g (i + 1)) = (94 : Int32) from ne 94 (by omega) (by omega)), if_neg (show ¬ nI (g (i + 1)) = (102 : Int32) from ne 102 (by omega) (by omega)), if_neg (show ¬ nI (g (i + 1)) = (103 : Int32) from ne 103 (by omega) (by omega)), if_neg (show ¬ nI (g (i + 1)) = (115 : Int32) from ne 115 (by omega) (by omega)), if_pos (by rw [z]; rfl), g2', bsome]
set_option maxHeartbeats 4000000 in
theorem days_run {h2 d2 c2 y2 f2 : Int32} {ce2 ho2 ow2 hd2 li2 go2 lk2 : Nat → Int32} {B pc pm : Nat → Int32} {g : Nat → Nat} {s : Nat} (hp : PG pc pm g s) :
    ∀ M m i, m ≤ M → i + m = s → ft g s m 0 i = -6 → ∀ n1 n2, 3 * m < n1 → m < n2 → ∀ k, k ≤ i → ∀ (ls fa fl lo rs x4 : Int32) (ce ho ow hd li go lk : Nat → Int32) (wc wy wf hr dy : Int32) (N : Nat → Int32), TR ce ho ow hd li go lk wc wy wf hr dy N → BI N → OJ fa fl →
    (∃ (k' : Nat) (ls' fa' fl' lo' rs' hr' dy' wc' wy' wf' : Int32) (ce' ho' ow' hd' li' go' N' : Nat → Int32), k' ≤ 60 ∧ fX9_read_L13 h2 d2 c2 y2 f2 ce2 ho2 ow2 hd2 li2 go2 lk2 (nI s) pc n1 (nI k) (-6) (-6) ls fa fl hr dy wc wy wf ce ho ow hd li go lk 0 x4 (nI i) = some (nI k', -6, -6, ls', fa', fl', hr', dy', wc', wy', wf', ce', ho', ow', hd', li', go', lk) ∧ fX12_goDays_L11 (nI s) B pm n2 ls fa fl lo rs (nI k) N (nI i) = some (-6, ls', fa', fl', lo', rs', nI k', N') ∧ TR ce' ho' ow' hd' li' go' lk wc' wy' wf' hr' dy' N' ∧ BI N') ∨
    (∃ (k' : Nat) (r ls' fa' fl' lo' oa' ow_' hr' dy' wc' wy' wf' : Int32) (ce' ho' ow' hd' li' go' N' : Nat → Int32), k' ≤ 60 ∧ 0 < r ∧ fX9_read_L13 h2 d2 c2 y2 f2 ce2 ho2 ow2 hd2 li2 go2 lk2 (nI s) pc n1 (nI k) (-6) (-6) ls fa fl hr dy wc wy wf ce ho ow hd li go lk 0 x4 (nI i) = some (nI k', nI k', r, ls', fa', fl', hr', dy', wc', wy', wf', ce', ho', ow', hd', li', go', lk) ∧ fX12_goDays_L11 (nI s) B pm n2 ls fa fl lo rs (nI k) N (nI i) = some (nI k', ls', oa', ow_', lo', r, nI k', N')) := by
  have hs := hp.1
  intro M
  induction M with
  | zero =>
    intro m i hm him hf n1 n2 h1 h2_ k hk ls fa fl lo rs x4 ce ho ow hd li go lk wc wy wf hr dy N hT hB hJ
    have hi : i = s := by omega
    obtain ⟨n1, rfl⟩ : ∃ z, n1 = z + 1 := ⟨n1 - 1, by omega⟩
    obtain ⟨n2, rfl⟩ : ∃ z, n2 = z + 1 := ⟨n2 - 1, by omega⟩
    refine Or.inl ⟨k, ls, fa, fl, lo, rs, hr, dy, wc, wy, wf, ce, ho, ow, hd, li, go, N, by omega, rd_end hs (by omega) (Or.inl hi) n1 _ _ _ _ _ _ _ _ _ _ _ _ _ _ _ _ _ _ _, ?_, hT, hB⟩
    rw [fX12_goDays_L11, if_pos (by rw [hi]; exact nI_le (Nat.le_refl s) (by omega))]
  | succ M ih =>
    intro m i hm him hf n1 n2 h1 h2_ k hk ls fa fl lo rs x4 ce ho ow hd li go lk wc wy wf hr dy N hT hB hJ
    by_cases m0 : m = 0
    · have hi : i = s := by omega
      obtain ⟨n1, rfl⟩ : ∃ z, n1 = z + 1 := ⟨n1 - 1, by omega⟩
      obtain ⟨n2, rfl⟩ : ∃ z, n2 = z + 1 := ⟨n2 - 1, by omega⟩
      refine Or.inl ⟨k, ls, fa, fl, lo, rs, hr, dy, wc, wy, wf, ce, ho, ow, hd, li, go, N, by omega, rd_end hs (by omega) (Or.inl hi) n1 _ _ _ _ _ _ _ _ _ _ _ _ _ _ _ _ _ _ _, ?_, hT, hB⟩
      rw [fX12_goDays_L11, if_pos (by rw [hi]; exact nI_le (Nat.le_refl s) (by omega))]
    · obtain ⟨d, r, ls', fa', fl', lo', hr', dy', wc', wy', wf', ce', ho', ow', hd', li', go', N', d1, d2_, d3, k1, k2, k3, k4, k5, k6, k7⟩ := one_act (h2 := h2) (d2 := d2) (c2 := c2) (y2 := y2) (f2 := f2) (ce2 := ce2) (ho2 := ho2) (ow2 := ow2) (hd2 := hd2) (li2 := li2) (go2 := go2) (lk2 := lk2) (B := B) hp him (by omega) hf (k := k) (by omega) (ls := ls) (fa := fa) (fl := fl) hT hB
      obtain ⟨n1, rfl⟩ : ∃ z, n1 = z + d := ⟨n1 - d, by omega⟩
      obtain ⟨n2, rfl⟩ : ∃ z, n2 = z + 1 := ⟨n2 - 1, by omega⟩
      obtain ⟨x4', k2'⟩ := k2 n1 x4
      rw [k2', k3 n2 lo rs]
      by_cases c : r = 0
      · rw [if_pos c, if_pos c, if_pos c, if_pos c]
        obtain ⟨j1, j2, j3⟩ := OJ_n (k := k) (by omega) hJ k6
        rw [← j1, ← j2]
        exact ih (m - d) (i + d) (by omega) (by omega) k1 n1 n2 (by omega) (by omega) (k + 1) (by omega) ls' fa' fl' lo' r x4' ce' ho' ow' hd' li' go' lk wc' wy' wf' hr' dy' N' k4 k5 j3
      · rw [if_neg c, if_neg c, if_neg c, if_neg c]
        obtain ⟨n1, rfl⟩ : ∃ z, n1 = z + 1 := ⟨n1 - 1, by omega⟩
        refine Or.inr ⟨k, r, ls', fa', fl', lo', fa, fl, hr', dy', wc', wy', wf', ce', ho', ow', hd', li', go', N', by omega, k7.resolve_left c, ?_, rfl⟩
        exact rd_end hs (by omega) (Or.inr (nI_n6 (by omega))) n1 _ _ _ _ _ _ _ _ _ _ _ _ _ _ _ _ _ _ _
