theorem lc_f : ∀ i, i < 64 → lc i / 100 = i / 16 ∧ lc i / 10 % 10 = i / 4 % 4 ∧ lc i % 10 = i % 4 ∧ lc i < 334 := by decide +kernel
def LI (b : Nat → Bool) (arr : Nat → Int32) (F : Nat → Nat) (N : Nat) : Prop := (∀ j, j < cN b N → arr j = nI (F j) ∧ F j < 334) ∧ ∀ P : Nat → Bool, cN (fun j => P (F j)) (cN b N) = cN (fun i => b i && P (lc i)) N
theorem f_L16 {s : Nat} {q : Nat → Nat} {v : Nat → Bool} {st : Nat → Int32} (hs : s ≤ 8) (h4 : ∀ j, j < s → st (2 * j) = nI (q j) ∧ st (2 * j + 1) = bB (v j) ∧ q j < 10000) {b : Nat → Bool} (hb : ∀ i, i < 64 → b i = FT q v i s) (x1 : Int32) : ∀ m c, c + m = 334 → ∀ n, m < n → ∀ arr F, LI b arr F (nx c) → ∃ arr' F', LI b arr' F' 64 ∧ fX12_ask_L16 (nI s) st x1 n arr (nI (cN b (nx c))) (nI c) = fX12_ask_L59 (nI s) st x1 zF arr' (nI (cN b 64)) (-6) 1000000 1000 := by
  intro m
  induction m with
  | zero =>
    intro c hc n hn arr F h
    obtain ⟨n, rfl⟩ : ∃ q, n = q + 1 := ⟨n - 1, by omega⟩
    have : c = 334 := by omega
    subst this
    have e : nx 334 = 64 := by decide
    rw [e] at h
    refine ⟨arr, F, h, ?_⟩
    rw [fX12_ask_L16, if_pos (by decide), e]
  | succ m ih =>
    intro c hc n hn arr F h
    obtain ⟨n, rfl⟩ : ∃ q, n = q + 1 := ⟨n - 1, by omega⟩
    obtain ⟨n1, n2, n3⟩ := nx_f c (by omega)
    rw [fX12_ask_L16, if_neg (show ¬ (334 : Int32) ≤ nI c from nI_ge (a := c) (b := 334) (by omega) (by omega)), f_isFit hs h4 (by omega), bsome]
    unfold fX12_ask_b41
    rw [nI_1, nI_1]
    cases hL : isL c with
    | false =>
      rw [Bool.false_and, if_pos (by decide)]
      have := ih (c + 1) (by omega) n (by omega) arr F (by rw [n3 hL]; exact h)
      rw [n3 hL] at this
      exact this
    | true =>
      obtain ⟨m1, m2, m3, -⟩ := n2 hL
      have hle := cN_le b (nx c)
      rw [Bool.true_and, ← hb _ m1]
      obtain ⟨h1, h2⟩ := h
      cases hv : b (nx c) with
      | false =>
        rw [if_pos (by decide)]
        have ek : cN b (nx (c + 1)) = cN b (nx c) := by rw [m2, cN, hv]; rfl
        have := ih (c + 1) (by omega) n (by omega) arr F (by
          refine ⟨fun j hj => h1 j (by omega), fun P => ?_⟩
          rw [ek, h2 P, m2, cN, hv]; rfl)
        rw [ek] at this
        exact this
      | true =>
        rw [if_neg (by decide)]
        simp (disch := omega) only [inb_t, toN_t, gd_T]
        have ek : cN b (nx (c + 1)) = cN b (nx c) + 1 := by rw [m2, cN, hv]; rfl
        have := ih (c + 1) (by omega) n (by omega) (upd arr (cN b (nx c)) (nI c)) (fun j => if j = cN b (nx c) then c else F j) (by
          refine ⟨fun j hj => ?_, fun P => ?_⟩
          · by_cases z : j = cN b (nx c)
            · rw [upd_eq z]; simp only [if_pos z]; exact ⟨trivial, by omega⟩
            · rw [upd_ne z]; simp only [if_neg z]; exact h1 j (by omega)
          · rw [ek, cN, m2, cN, hv, m3, ← h2 P]
            simp only [if_true, Bool.true_and]
            rw [cN_ext (p := fun j => P (if j = cN b (nx c) then c else F j)) (q := fun j => P (F j)) _ (fun j hj => by rw [if_neg (by omega)])])
        rw [ek] at this
        exact this
theorem f_L117 {s : Nat} {st : Nat → Int32} {x1 x3 x4 : Int32} {K : (Nat → Int32) → Int32 → Int32 → Int32 → Int32 → Option (Int32 × (Nat → Int32))} {arr : Nat → Int32} {F : Nat → Nat} {k q : Nat} (hk : k ≤ 64) (hq : q < 10000) (h1 : ∀ j, j < k → arr j = nI (F j) ∧ F j < 334) : ∀ m j, j + m = k → ∀ n, m < n → fX12_ask_L117 (nI s) st x1 K n arr (nI k) x3 x4 (nI q) 1 (nI (cN (fun j => decide (q / 1000 ≤ F j / 100 * (q / 100 % 10) + F j / 10 % 10 * (q / 10 % 10) + F j % 10 * (q % 10))) j)) (nI j) = fX12_ask_b159 (nI s) st x1 K arr (nI k) x3 x4 (nI q) 1 (nI (cN (fun j => decide (q / 1000 ≤ F j / 100 * (q / 100 % 10) + F j / 10 % 10 * (q / 10 % 10) + F j % 10 * (q % 10))) k)) := by
  intro m
  induction m with
  | zero =>
    intro j hj n hn
    obtain ⟨n, rfl⟩ : ∃ q, n = q + 1 := ⟨n - 1, by omega⟩
    have : j = k := by omega
    subst this
    rw [fX12_ask_L117, if_pos (Int32.le_refl _)]
  | succ m ih =>
    intro j hj n hn
    obtain ⟨n, rfl⟩ : ∃ q, n = q + 1 := ⟨n - 1, by omega⟩
    obtain ⟨e1, e2⟩ := h1 j (by omega)
    rw [fX12_ask_L117, if_neg (nI_ge (by omega) (by omega)), if_neg (by decide)]
    simp (disch := omega) only [inb_t, toN_t, gd_T]
    rw [e1, f_enough e2 hq, bsome]
    unfold fX12_ask_b150
    have step := ih (j + 1) (by omega) n (by omega)
    rw [cN] at step
    rw [nI_1]
    generalize decide (q / 1000 ≤ F j / 100 * (q / 100 % 10) + F j / 10 % 10 * (q / 10 % 10) + F j % 10 * (q % 10)) = E at *
    cases E with
    | false =>
      rw [if_pos (by decide)]
      rw [if_neg (by simp)] at step
      rw [show (0 : Int32) = nI 0 from rfl, nI_add]
      exact step
    | true =>
      rw [if_neg (by decide)]
      rw [if_pos rfl] at step
      rw [nI_1]
      exact step
def e4 (st : Option (Nat × Nat)) : Int32 := match st with
  | none => 1000000
  | some p => nI p.2
theorem f_L59 {s : Nat} {sa : Nat → Int32} {x1 : Int32} {b : Nat → Bool} {arr : Nat → Int32} {F : Nat → Nat} (hLI : LI b arr F 64) (hpos : 0 < cN b 64) : ∀ m q, q + m = 9334 → 1000 ≤ q → ∀ n, m < n → ∀ st, VT st → BM (fun q' => TQ q' ∧ q' < q) (lef b) st → ∃ st', VT st' ∧ BM TQ (lef b) st' ∧ fX12_ask_L59 (nI s) sa x1 n arr (nI (cN b 64)) (gI st) (e4 st) (nI q) = fX12_ask_b230 (nI s) sa x1 arr (gI st') (e4 st') := by
  intro m
  induction m with
  | zero =>
    intro q hq h1 n hn st hv hb
    obtain ⟨n, rfl⟩ : ∃ q, n = q + 1 := ⟨n - 1, by omega⟩
    have : q = 9334 := by omega
    subst this
    refine ⟨st, hv, BM_congr hb (fun q => ⟨fun h => h.1, fun h => ⟨h, h.2.1⟩⟩), ?_⟩
    rw [fX12_ask_L59, if_pos (by decide)]
  | succ m ih =>
    intro q hq h1 n hn st hv hb
    obtain ⟨n, rfl⟩ : ∃ q, n = q + 1 := ⟨n - 1, by omega⟩
    have h64 := cN_le b 64
    rw [fX12_ask_L59, if_neg (show ¬ (9334 : Int32) ≤ nI q from nI_ge (a := q) (b := 9334) (by omega) (by omega)), if_neg (nI_nle hpos (by omega))]
    have b1 : irm (nI q / (100 : Int32)) 10 = nI (q / 100 % 10) := by rw [d_lit (by omega) (by decide) (by decide)]; exact r_lit (by show q / 100 < _; omega) (by decide) (by decide)
    have b2 : irm (nI q / (10 : Int32)) 10 = nI (q / 10 % 10) := by rw [d_lit (by omega) (by decide) (by decide)]; exact r_lit (by show q / 10 < _; omega) (by decide) (by decide)
    have b3 : irm (nI q) 10 = nI (q % 10) := r_lit (by omega) (by decide) (by decide)
    rw [b1, b2, b3]
    have skip : ¬ TQ q → ∃ st', VT st' ∧ BM TQ (lef b) st' ∧ fX12_ask_b108 (nI s) sa x1 (fX12_ask_L59 (nI s) sa x1 n) arr (nI (cN b 64)) (gI st) (e4 st) (nI q) = fX12_ask_b230 (nI s) sa x1 arr (gI st') (e4 st') := by
      intro hT
      obtain ⟨st', k1, k2, k3⟩ := ih (q + 1) (by omega) (by omega) n (by omega) st hv (BM_congr hb (fun q' => ⟨fun h => ⟨h.1, by omega⟩, fun h => ⟨h.1, by
        have : q' ≠ q := fun e => hT (e ▸ h.1)
        omega⟩⟩))
      refine ⟨st', k1, k2, ?_⟩
      rw [← k3]
      unfold fX12_ask_b108 fX12_ask_b109
      rw [show zF = 99999 + 1 from rfl, fX12_ask_L117]
      have fin : fX12_ask_b159 (nI s) sa x1 (fX12_ask_L59 (nI s) sa x1 n) arr (nI (cN b 64)) (gI st) (e4 st) (nI q) 0 0 = fX12_ask_L59 (nI s) sa x1 n arr (nI (cN b 64)) (gI st) (e4 st) (nI (q + 1)) := by
        unfold fX12_ask_b159 fX12_ask_b177 fX12_ask_b195 fX12_ask_b196 fX12_ask_b209 fX12_ask_b222
        simp only [if_true, nI_1]
        by_cases z : (0 : Int32) ≤ nI (cN b 64) - 0
        · rw [if_pos z]
        · rw [if_neg z]
      by_cases z : nI (cN b 64) ≤ (0 : Int32)
      · rw [if_pos z]; exact fin
      · rw [if_neg z, if_pos rfl]; exact fin
    by_cases z1 : 4 ≤ q / 100 % 10
    · rw [if_pos (show (4 : Int32) ≤ nI (q / 100 % 10) from nI_le (a := 4) z1 (by omega))]
      exact skip (by unfold TQ; omega)
    · rw [if_neg (show ¬ (4 : Int32) ≤ nI (q / 100 % 10) from nI_ge (b := 4) (by omega) (by omega))]
      by_cases z2 : 4 ≤ q / 10 % 10
      · rw [if_pos (show (4 : Int32) ≤ nI (q / 10 % 10) from nI_le (a := 4) z2 (by omega))]
        exact skip (by unfold TQ; omega)
      · rw [if_neg (show ¬ (4 : Int32) ≤ nI (q / 10 % 10) from nI_ge (b := 4) (by omega) (by omega))]
        by_cases z3 : 4 ≤ q % 10
        · rw [if_pos (show (4 : Int32) ≤ nI (q % 10) from nI_le (a := 4) z3 (by omega))]
          exact skip (by unfold TQ; omega)
        · rw [if_neg (show ¬ (4 : Int32) ≤ nI (q % 10) from nI_ge (b := 4) (by omega) (by omega))]
          have hT : TQ q := by unfold TQ; omega
          unfold fX12_ask_b109
          have e1 := f_L117 (s := s) (st := sa) (x1 := x1) (x3 := gI st) (x4 := e4 st) (K := fX12_ask_L59 (nI s) sa x1 n) h64 (show q < 10000 by omega) hLI.1 (cN b 64) 0 (by omega) zF (by unfold zF; omega)
          have e1' : fX12_ask_L117 (nI s) sa x1 (fX12_ask_L59 (nI s) sa x1 n) zF arr (nI (cN b 64)) (gI st) (e4 st) (nI q) 1 0 0 = _ := e1
          rw [e1']
          have e2 := hLI.2 (fun c => decide (q / 1000 ≤ c / 100 * (q / 100 % 10) + c / 10 % 10 * (q / 10 % 10) + c % 10 * (q % 10)))
          have e3 : cN (fun i => b i && decide (q / 1000 ≤ lc i / 100 * (q / 100 % 10) + lc i / 10 % 10 * (q / 10 % 10) + lc i % 10 * (q % 10))) 64 + bel b q = cN b 64 := by
            unfold bel
            refine cN_add 64 (fun i hi => ?_)
            obtain ⟨l1, l2, l3, -⟩ := lc_f i hi
            rw [l1, l2, l3]
            show (if (b i && decide (q / 1000 ≤ wN i (q / 100 % 10) (q / 10 % 10) (q % 10))) = true then 1 else 0) + _ = _
            generalize wN i (q / 100 % 10) (q / 10 % 10) (q % 10) = w
            cases b i with
            | false => rfl
            | true =>
              simp only [Bool.true_and, decide_eq_true_eq, if_true]
              by_cases c1 : q / 1000 ≤ w
              · rw [if_pos c1, if_neg (by omega)]
              · rw [if_neg c1, if_pos (by omega)]
          rw [e2]
          generalize cN (fun i => b i && decide (q / 1000 ≤ lc i / 100 * (q / 100 % 10) + lc i / 10 % 10 * (q / 10 % 10) + lc i % 10 * (q % 10))) 64 = A at *
          have hlef : lef b q = max (bel b q) A := by unfold lef; rw [show cN b 64 - bel b q = A by omega]
          have hl := lef_le b q
          have esub : nI (cN b 64) - nI A = nI (bel b q) := by rw [pk_sub (by omega)]; exact congrArg nI (by omega)
          have e177 : fX12_ask_b159 (nI s) sa x1 (fX12_ask_L59 (nI s) sa x1 n) arr (nI (cN b 64)) (gI st) (e4 st) (nI q) 1 (nI A) = fX12_ask_b177 (nI s) sa x1 (fX12_ask_L59 (nI s) sa x1 n) arr (nI (cN b 64)) (gI st) (e4 st) (nI q) 1 (nI (lef b q)) := by
            unfold fX12_ask_b159
            rw [esub]
            by_cases c1 : A ≤ bel b q
            · rw [if_pos (nI_le c1 (by omega)), hlef, Nat.max_eq_left c1]
            · rw [if_neg (nI_ge (by omega) (by omega)), hlef, Nat.max_eq_right (by omega)]
          rw [e177]
          have fin : ∃ st', VT st' ∧ BM TQ (lef b) st' ∧ fX12_ask_L59 (nI s) sa x1 n arr (nI (cN b 64)) (gI (btr (lef b) q st)) (e4 (btr (lef b) q st)) (nI (q + 1)) = fX12_ask_b230 (nI s) sa x1 arr (gI st') (e4 st') := by
            refine ih (q + 1) (by omega) (by omega) n (by omega) _ (VT_btr hv (by omega) hl) (BM_congr (BM_step hb q) (fun q' => ⟨?_, ?_⟩))
            · rintro (h | h)
              · exact ⟨h.1, by omega⟩
              · subst h; exact ⟨hT, by omega⟩
            · rintro ⟨h, h'⟩
              by_cases z : q' = q
              · exact Or.inr z
              · exact Or.inl ⟨h, by omega⟩
          unfold fX12_ask_b177 fX12_ask_b195 fX12_ask_b196 fX12_ask_b209 fX12_ask_b222
          simp only [if_true, nI_1, if_neg (show ¬ (1 : Int32) = 0 by decide)]
          cases st with
          | none =>
            rw [if_neg (show ¬ e4 none ≤ nI (lef b q) from nI_ge (a := lef b q) (b := 1000000) (by omega) (by omega))]
            exact fin
          | some p =>
            obtain ⟨v1, v2⟩ := hv p rfl
            have hlt : p.1 < q := hb.1.2
            have ee : e4 (some p) = nI p.2 := rfl
            rw [btr_s] at fin
            rw [ee]
            by_cases c1 : lef b q < p.2
            · rw [if_pos c1] at fin
              rw [if_neg (nI_ge c1 (by omega))]
              exact fin
            · rw [if_neg c1] at fin
              rw [if_pos (nI_le (by omega) (by omega))]
              by_cases c2 : lef b q = p.2
              · rw [if_pos c2, if_pos (by omega)] at fin
                exact fin
              · rw [if_neg c2] at fin
                exact fin
theorem cN_z {b : Nat → Bool} : ∀ n, cN b n = 0 → ∀ i, i < n → b i = false := by
  intro n
  induction n with
  | zero => intro _ i hi; omega
  | succ n ih =>
    intro h i hi
    rw [cN] at h
    by_cases z : b n = true
    · rw [if_pos z] at h; omega
    · by_cases e : i = n
      · subst e
        cases hb : b i with
        | true => exact absurd hb z
        | false => rfl
      · exact ih (by omega) i (by omega)
theorem op_ask {cn sg : Int32} {ft : Int64} {st : Nat → Int32} (h : SG cn ft sg st) (bt0 ml0 : Int32) (ta fi : Nat → Int32) (x1 : Int32) : ∃ (r b' m' : Int32) (ta' fi' : Nat → Int32), fX11_ask ft bt0 ml0 ta x1 = some (r, b', m', ta') ∧ fX12_ask sg st fi x1 = some (r, fi') := by
  obtain ⟨s, q, v, h1, h2, h3, h4, h5⟩ := h
  subst h3
  unfold fX11_ask fX12_ask fX11_ask_b55
  simp only [f_within, f_in, bsome, bI0]
  by_cases c1 : 0 ≤ x1 ∧ x1 ≤ 1
  · simp only [c1, not_true_eq_false, and_self, if_false]
    obtain ⟨arr, F, g1, g2⟩ := f_L16 h1 h4 h5 x1 334 0 (by omega) zF (by unfold zF; omega) fi (fun _ => 0) ⟨fun j hj => absurd hj (by show ¬ j < 0; omega), fun P => rfl⟩
    have g2' : fX12_ask_L16 (nI s) st x1 zF fi 0 0 = _ := g2
    rw [g2']
    by_cases z : ft = 0
    · have e0 : cN (lb ft) 64 = 0 := cN_0 64 (fun i _ => by rw [z]; exact lb_0 i)
      rw [if_pos ((lg_cmp_eq ft 0).mpr z), e0, show zF = 99999 + 1 from rfl, fX12_ask_L59, if_neg (by decide), if_pos (by decide)]
      unfold fX12_ask_b230 fX12_ask_b238 fX12_ask_b244
      rw [if_pos (by decide)]
      exact ⟨_, _, _, _, _, rfl, rfl⟩
    · have hpos : 0 < cN (lb ft) 64 := by
        rcases Nat.eq_zero_or_pos (cN (lb ft) 64) with e | e
        · exact absurd (lb_ext (fun i hi => by rw [cN_z 64 e i hi, lb_0])) z
        · exact e
      rw [if_neg (fun e => z ((lg_cmp_eq ft 0).mp e))]
      obtain ⟨st1, t1, a1, a2, a3⟩ := f_seekT ft bt0 ml0 ta
      obtain ⟨st2, k1, k2, k3⟩ := f_L59 (s := s) (sa := st) (x1 := x1) g1 hpos 8334 1000 (by omega) (by omega) zF (by unfold zF; omega) none (fun p hp => absurd hp (by simp)) (fun q hq => by have h6 := hq.1.1; have h7 := hq.2; omega)
      have k3' : fX12_ask_L59 (nI s) st x1 zF arr (nI (cN (lb ft) 64)) (-6) 1000000 1000 = _ := k3
      rw [a3, k3', bsome, ← BM_uni a2 k2]
      unfold fX12_ask_b230 fX12_ask_b238 fX12_ask_b244
      cases hst : st1 with
      | none =>
        rw [hst] at a2
        exact absurd (show TQ 1000 by unfold TQ; omega) (a2 1000)
      | some p =>
        obtain ⟨v1, v2⟩ := a1 p hst
        rw [if_neg (show ¬ gI (some p) < 0 from nI_nneg (by omega))]
        by_cases q0 : x1 = 0
        · rw [if_pos q0, if_pos q0]; exact ⟨_, _, _, _, _, rfl, rfl⟩
        · rw [if_neg q0, if_neg q0]; exact ⟨_, _, _, _, _, rfl, rfl⟩
  · simp only [c1, not_false_eq_true, if_true]
    exact ⟨_, _, _, _, _, rfl, rfl⟩
