theorem TR_ce {ce ho ow hd li go lk : Nat → Int32} {wc wy wf hr dy : Int32} {N : Nat → Int32} {w : Nat} {x : Int32} (hw : w < 6) (h : TR ce ho ow hd li go lk wc wy wf hr dy N) : TR (upd ce w x) ho ow hd li go lk wc wy wf hr dy (upd N w x) := by
  obtain ⟨t1, t2, t3, t4, t5, t6, t7, t8, t9, t10, t11, t12⟩ := h
  exact ⟨fun i hi => by
    by_cases e : i = w
    · subst e; rw [upd_eq rfl, upd_eq rfl]
    · rw [upd_ne e, upd_ne (by omega)]; exact t1 i hi, fun i hi => by rw [upd_ne (by omega)]; exact t2 i hi, fun i hi => by rw [upd_ne (by omega)]; exact t3 i hi, fun i hi => by rw [upd_ne (by omega)]; exact t4 i hi, fun i hi => by rw [upd_ne (by omega)]; exact t5 i hi, fun i k hi hk => by rw [upd_ne (by omega)]; exact t6 i k hi hk, fun k hk => by rw [upd_ne (by omega)]; exact t7 k hk, (by rw [upd_ne (by omega)]; exact t8), (by rw [upd_ne (by omega)]; exact t9), (by rw [upd_ne (by omega)]; exact t10), (by rw [upd_ne (by omega)]; exact t11), (by rw [upd_ne (by omega)]; exact t12)⟩
theorem TR_ho {ce ho ow hd li go lk : Nat → Int32} {wc wy wf hr dy : Int32} {N : Nat → Int32} {w : Nat} {x : Int32} (hw : w < 6) (h : TR ce ho ow hd li go lk wc wy wf hr dy N) : TR ce (upd ho w x) ow hd li go lk wc wy wf hr dy (upd N (6 + w) x) := by
  obtain ⟨t1, t2, t3, t4, t5, t6, t7, t8, t9, t10, t11, t12⟩ := h
  exact ⟨fun i hi => by rw [upd_ne (by omega)]; exact t1 i hi, fun i hi => by
    by_cases e : i = w
    · subst e; rw [upd_eq rfl, upd_eq rfl]
    · rw [upd_ne e, upd_ne (by omega)]; exact t2 i hi, fun i hi => by rw [upd_ne (by omega)]; exact t3 i hi, fun i hi => by rw [upd_ne (by omega)]; exact t4 i hi, fun i hi => by rw [upd_ne (by omega)]; exact t5 i hi, fun i k hi hk => by rw [upd_ne (by omega)]; exact t6 i k hi hk, fun k hk => by rw [upd_ne (by omega)]; exact t7 k hk, (by rw [upd_ne (by omega)]; exact t8), (by rw [upd_ne (by omega)]; exact t9), (by rw [upd_ne (by omega)]; exact t10), (by rw [upd_ne (by omega)]; exact t11), (by rw [upd_ne (by omega)]; exact t12)⟩
theorem TR_ow {ce ho ow hd li go lk : Nat → Int32} {wc wy wf hr dy : Int32} {N : Nat → Int32} {w : Nat} {x : Int32} (hw : w < 6) (h : TR ce ho ow hd li go lk wc wy wf hr dy N) : TR ce ho (upd ow w x) hd li go lk wc wy wf hr dy (upd N (12 + w) x) := by
  obtain ⟨t1, t2, t3, t4, t5, t6, t7, t8, t9, t10, t11, t12⟩ := h
  exact ⟨fun i hi => by rw [upd_ne (by omega)]; exact t1 i hi, fun i hi => by rw [upd_ne (by omega)]; exact t2 i hi, fun i hi => by
    by_cases e : i = w
    · subst e; rw [upd_eq rfl, upd_eq rfl]
    · rw [upd_ne e, upd_ne (by omega)]; exact t3 i hi, fun i hi => by rw [upd_ne (by omega)]; exact t4 i hi, fun i hi => by rw [upd_ne (by omega)]; exact t5 i hi, fun i k hi hk => by rw [upd_ne (by omega)]; exact t6 i k hi hk, fun k hk => by rw [upd_ne (by omega)]; exact t7 k hk, (by rw [upd_ne (by omega)]; exact t8), (by rw [upd_ne (by omega)]; exact t9), (by rw [upd_ne (by omega)]; exact t10), (by rw [upd_ne (by omega)]; exact t11), (by rw [upd_ne (by omega)]; exact t12)⟩
theorem TR_hd {ce ho ow hd li go lk : Nat → Int32} {wc wy wf hr dy : Int32} {N : Nat → Int32} {w : Nat} {x : Int32} (hw : w < 6) (h : TR ce ho ow hd li go lk wc wy wf hr dy N) : TR ce ho ow (upd hd w x) li go lk wc wy wf hr dy (upd N (18 + w) x) := by
  obtain ⟨t1, t2, t3, t4, t5, t6, t7, t8, t9, t10, t11, t12⟩ := h
  exact ⟨fun i hi => by rw [upd_ne (by omega)]; exact t1 i hi, fun i hi => by rw [upd_ne (by omega)]; exact t2 i hi, fun i hi => by rw [upd_ne (by omega)]; exact t3 i hi, fun i hi => by
    by_cases e : i = w
    · subst e; rw [upd_eq rfl, upd_eq rfl]
    · rw [upd_ne e, upd_ne (by omega)]; exact t4 i hi, fun i hi => by rw [upd_ne (by omega)]; exact t5 i hi, fun i k hi hk => by rw [upd_ne (by omega)]; exact t6 i k hi hk, fun k hk => by rw [upd_ne (by omega)]; exact t7 k hk, (by rw [upd_ne (by omega)]; exact t8), (by rw [upd_ne (by omega)]; exact t9), (by rw [upd_ne (by omega)]; exact t10), (by rw [upd_ne (by omega)]; exact t11), (by rw [upd_ne (by omega)]; exact t12)⟩
theorem TR_li {ce ho ow hd li go lk : Nat → Int32} {wc wy wf hr dy : Int32} {N : Nat → Int32} {w : Nat} {x : Int32} (hw : w < 6) (h : TR ce ho ow hd li go lk wc wy wf hr dy N) : TR ce ho ow hd (upd li w x) go lk wc wy wf hr dy (upd N (24 + w) x) := by
  obtain ⟨t1, t2, t3, t4, t5, t6, t7, t8, t9, t10, t11, t12⟩ := h
  exact ⟨fun i hi => by rw [upd_ne (by omega)]; exact t1 i hi, fun i hi => by rw [upd_ne (by omega)]; exact t2 i hi, fun i hi => by rw [upd_ne (by omega)]; exact t3 i hi, fun i hi => by rw [upd_ne (by omega)]; exact t4 i hi, fun i hi => by
    by_cases e : i = w
    · subst e; rw [upd_eq rfl, upd_eq rfl]
    · rw [upd_ne e, upd_ne (by omega)]; exact t5 i hi, fun i k hi hk => by rw [upd_ne (by omega)]; exact t6 i k hi hk, fun k hk => by rw [upd_ne (by omega)]; exact t7 k hk, (by rw [upd_ne (by omega)]; exact t8), (by rw [upd_ne (by omega)]; exact t9), (by rw [upd_ne (by omega)]; exact t10), (by rw [upd_ne (by omega)]; exact t11), (by rw [upd_ne (by omega)]; exact t12)⟩
theorem TR_go {ce ho ow hd li go lk : Nat → Int32} {wc wy wf hr dy : Int32} {N : Nat → Int32} {w q : Nat} {x : Int32} (hw : w < 6) (hq : q < 3) (h : TR ce ho ow hd li go lk wc wy wf hr dy N) : TR ce ho ow hd li (upd go (w * 3 + q) x) lk wc wy wf hr dy (upd N (30 + 6 * q + w) x) := by
  obtain ⟨t1, t2, t3, t4, t5, t6, t7, t8, t9, t10, t11, t12⟩ := h
  exact ⟨fun i hi => by rw [upd_ne (by omega)]; exact t1 i hi, fun i hi => by rw [upd_ne (by omega)]; exact t2 i hi, fun i hi => by rw [upd_ne (by omega)]; exact t3 i hi, fun i hi => by rw [upd_ne (by omega)]; exact t4 i hi, fun i hi => by rw [upd_ne (by omega)]; exact t5 i hi, fun i k hi hk => by
    by_cases e : i = w ∧ k = q
    · obtain ⟨rfl, rfl⟩ := e; rw [upd_eq rfl, upd_eq rfl]
    · rw [upd_ne (by omega), upd_ne (by omega)]; exact t6 i k hi hk, fun k hk => by rw [upd_ne (by omega)]; exact t7 k hk, (by rw [upd_ne (by omega)]; exact t8), (by rw [upd_ne (by omega)]; exact t9), (by rw [upd_ne (by omega)]; exact t10), (by rw [upd_ne (by omega)]; exact t11), (by rw [upd_ne (by omega)]; exact t12)⟩
theorem TR_lk {ce ho ow hd li go lk : Nat → Int32} {wc wy wf hr dy : Int32} {N : Nat → Int32} {q : Nat} {x : Int32} (hq : q < 3) (h : TR ce ho ow hd li go lk wc wy wf hr dy N) : TR ce ho ow hd li go (upd lk q x) wc wy wf hr dy (upd N (53 + q) x) := by
  obtain ⟨t1, t2, t3, t4, t5, t6, t7, t8, t9, t10, t11, t12⟩ := h
  exact ⟨fun i hi => by rw [upd_ne (by omega)]; exact t1 i hi, fun i hi => by rw [upd_ne (by omega)]; exact t2 i hi, fun i hi => by rw [upd_ne (by omega)]; exact t3 i hi, fun i hi => by rw [upd_ne (by omega)]; exact t4 i hi, fun i hi => by rw [upd_ne (by omega)]; exact t5 i hi, fun i k hi hk => by rw [upd_ne (by omega)]; exact t6 i k hi hk, fun k hk => by
    by_cases e : k = q
    · subst e; rw [upd_eq rfl, upd_eq rfl]
    · rw [upd_ne e, upd_ne (by omega)]; exact t7 k hk, (by rw [upd_ne (by omega)]; exact t8), (by rw [upd_ne (by omega)]; exact t9), (by rw [upd_ne (by omega)]; exact t10), (by rw [upd_ne (by omega)]; exact t11), (by rw [upd_ne (by omega)]; exact t12)⟩
theorem TR_wc {ce ho ow hd li go lk : Nat → Int32} {wc wy wf hr dy : Int32} {N : Nat → Int32} {x : Int32} (h : TR ce ho ow hd li go lk wc wy wf hr dy N) : TR ce ho ow hd li go lk x wy wf hr dy (upd N 48 x) := by
  obtain ⟨t1, t2, t3, t4, t5, t6, t7, t8, t9, t10, t11, t12⟩ := h
  exact ⟨fun i hi => by rw [upd_ne (by omega)]; exact t1 i hi, fun i hi => by rw [upd_ne (by omega)]; exact t2 i hi, fun i hi => by rw [upd_ne (by omega)]; exact t3 i hi, fun i hi => by rw [upd_ne (by omega)]; exact t4 i hi, fun i hi => by rw [upd_ne (by omega)]; exact t5 i hi, fun i k hi hk => by rw [upd_ne (by omega)]; exact t6 i k hi hk, fun k hk => by rw [upd_ne (by omega)]; exact t7 k hk, (by rw [upd_eq rfl]), (by rw [upd_ne (by omega)]; exact t9), (by rw [upd_ne (by omega)]; exact t10), (by rw [upd_ne (by omega)]; exact t11), (by rw [upd_ne (by omega)]; exact t12)⟩
theorem TR_wy {ce ho ow hd li go lk : Nat → Int32} {wc wy wf hr dy : Int32} {N : Nat → Int32} {x : Int32} (h : TR ce ho ow hd li go lk wc wy wf hr dy N) : TR ce ho ow hd li go lk wc x wf hr dy (upd N 49 x) := by
  obtain ⟨t1, t2, t3, t4, t5, t6, t7, t8, t9, t10, t11, t12⟩ := h
  exact ⟨fun i hi => by rw [upd_ne (by omega)]; exact t1 i hi, fun i hi => by rw [upd_ne (by omega)]; exact t2 i hi, fun i hi => by rw [upd_ne (by omega)]; exact t3 i hi, fun i hi => by rw [upd_ne (by omega)]; exact t4 i hi, fun i hi => by rw [upd_ne (by omega)]; exact t5 i hi, fun i k hi hk => by rw [upd_ne (by omega)]; exact t6 i k hi hk, fun k hk => by rw [upd_ne (by omega)]; exact t7 k hk, (by rw [upd_ne (by omega)]; exact t8), (by rw [upd_eq rfl]), (by rw [upd_ne (by omega)]; exact t10), (by rw [upd_ne (by omega)]; exact t11), (by rw [upd_ne (by omega)]; exact t12)⟩
theorem TR_wf {ce ho ow hd li go lk : Nat → Int32} {wc wy wf hr dy : Int32} {N : Nat → Int32} {x : Int32} (h : TR ce ho ow hd li go lk wc wy wf hr dy N) : TR ce ho ow hd li go lk wc wy x hr dy (upd N 50 x) := by
  obtain ⟨t1, t2, t3, t4, t5, t6, t7, t8, t9, t10, t11, t12⟩ := h
  exact ⟨fun i hi => by rw [upd_ne (by omega)]; exact t1 i hi, fun i hi => by rw [upd_ne (by omega)]; exact t2 i hi, fun i hi => by rw [upd_ne (by omega)]; exact t3 i hi, fun i hi => by rw [upd_ne (by omega)]; exact t4 i hi, fun i hi => by rw [upd_ne (by omega)]; exact t5 i hi, fun i k hi hk => by rw [upd_ne (by omega)]; exact t6 i k hi hk, fun k hk => by rw [upd_ne (by omega)]; exact t7 k hk, (by rw [upd_ne (by omega)]; exact t8), (by rw [upd_ne (by omega)]; exact t9), (by rw [upd_eq rfl]), (by rw [upd_ne (by omega)]; exact t11), (by rw [upd_ne (by omega)]; exact t12)⟩
theorem TR_hr {ce ho ow hd li go lk : Nat → Int32} {wc wy wf hr dy : Int32} {N : Nat → Int32} {x : Int32} (h : TR ce ho ow hd li go lk wc wy wf hr dy N) : TR ce ho ow hd li go lk wc wy wf x dy (upd N 51 x) := by
  obtain ⟨t1, t2, t3, t4, t5, t6, t7, t8, t9, t10, t11, t12⟩ := h
  exact ⟨fun i hi => by rw [upd_ne (by omega)]; exact t1 i hi, fun i hi => by rw [upd_ne (by omega)]; exact t2 i hi, fun i hi => by rw [upd_ne (by omega)]; exact t3 i hi, fun i hi => by rw [upd_ne (by omega)]; exact t4 i hi, fun i hi => by rw [upd_ne (by omega)]; exact t5 i hi, fun i k hi hk => by rw [upd_ne (by omega)]; exact t6 i k hi hk, fun k hk => by rw [upd_ne (by omega)]; exact t7 k hk, (by rw [upd_ne (by omega)]; exact t8), (by rw [upd_ne (by omega)]; exact t9), (by rw [upd_ne (by omega)]; exact t10), (by rw [upd_eq rfl]), (by rw [upd_ne (by omega)]; exact t12)⟩
theorem TR_dy {ce ho ow hd li go lk : Nat → Int32} {wc wy wf hr dy : Int32} {N : Nat → Int32} {x : Int32} (h : TR ce ho ow hd li go lk wc wy wf hr dy N) : TR ce ho ow hd li go lk wc wy wf hr x (upd N 52 x) := by
  obtain ⟨t1, t2, t3, t4, t5, t6, t7, t8, t9, t10, t11, t12⟩ := h
  exact ⟨fun i hi => by rw [upd_ne (by omega)]; exact t1 i hi, fun i hi => by rw [upd_ne (by omega)]; exact t2 i hi, fun i hi => by rw [upd_ne (by omega)]; exact t3 i hi, fun i hi => by rw [upd_ne (by omega)]; exact t4 i hi, fun i hi => by rw [upd_ne (by omega)]; exact t5 i hi, fun i k hi hk => by rw [upd_ne (by omega)]; exact t6 i k hi hk, fun k hk => by rw [upd_ne (by omega)]; exact t7 k hk, (by rw [upd_ne (by omega)]; exact t8), (by rw [upd_ne (by omega)]; exact t9), (by rw [upd_ne (by omega)]; exact t10), (by rw [upd_ne (by omega)]; exact t11), (by rw [upd_eq rfl])⟩
theorem BH_up {N : Nat → Int32} {k : Nat} {x : Int32} (h : BH N) (hk : (6 ≤ k ∧ k < 18) ∨ 24 ≤ k) : BH (upd N k x) := by
  intro i a hi ha e
  rw [upd_ne (by omega)] at e
  obtain ⟨e1, e2, e3⟩ := h i a hi ha e
  refine ⟨by rw [upd_ne (by omega), upd_ne (by omega)]; exact e1, by rw [upd_ne (by omega)]; exact e2, fun j hj ej => ?_⟩
  rw [upd_ne (by omega)] at ej
  exact e3 j hj ej
theorem BI_ho {N : Nat → Int32} {w : Nat} {x : Int32} (hw : w < 6) (hx : ∃ a, a < 256 ∧ x = nI a) (h : BI N) : BI (upd N (6 + w) x) := by
  obtain ⟨b1, b2, b3, b4, b5, b6, b7, b8, b9, b10, b11, b12, b13⟩ := h
  exact ⟨fun i hi => by rw [upd_ne (by omega)]; exact b1 i hi, fun i hi => by
    by_cases e : i = w
    · subst e; rw [upd_eq rfl]; exact hx
    · rw [upd_ne (by omega)]; exact b2 i hi, fun i hi => by rw [upd_ne (by omega)]; exact b3 i hi, fun i hi => by rw [upd_ne (by omega)]; exact b4 i hi, fun i hi => by rw [upd_ne (by omega)]; exact b5 i hi, fun i hi => by rw [upd_ne (by omega)]; exact b6 i hi, (by rw [upd_ne (by omega)]; exact b7), (by rw [upd_ne (by omega)]; exact b8), (by rw [upd_ne (by omega)]; exact b9), (by rw [upd_ne (by omega)]; exact b10), (by rw [upd_ne (by omega)]; exact b11), fun i hi => by rw [upd_ne (by omega)]; exact b12 i hi, BH_up b13 (by omega)⟩
theorem BI_ow {N : Nat → Int32} {w : Nat} {x : Int32} (hw : w < 6) (hx : ∃ a, a < 10 ∧ x = nI a) (h : BI N) : BI (upd N (12 + w) x) := by
  obtain ⟨b1, b2, b3, b4, b5, b6, b7, b8, b9, b10, b11, b12, b13⟩ := h
  exact ⟨fun i hi => by rw [upd_ne (by omega)]; exact b1 i hi, fun i hi => by rw [upd_ne (by omega)]; exact b2 i hi, fun i hi => by
    by_cases e : i = w
    · subst e; rw [upd_eq rfl]; exact hx
    · rw [upd_ne (by omega)]; exact b3 i hi, fun i hi => by rw [upd_ne (by omega)]; exact b4 i hi, fun i hi => by rw [upd_ne (by omega)]; exact b5 i hi, fun i hi => by rw [upd_ne (by omega)]; exact b6 i hi, (by rw [upd_ne (by omega)]; exact b7), (by rw [upd_ne (by omega)]; exact b8), (by rw [upd_ne (by omega)]; exact b9), (by rw [upd_ne (by omega)]; exact b10), (by rw [upd_ne (by omega)]; exact b11), fun i hi => by rw [upd_ne (by omega)]; exact b12 i hi, BH_up b13 (by omega)⟩
theorem BI_li {N : Nat → Int32} {w : Nat} {x : Int32} (hw : w < 6) (hx : x = -6 ∨ ∃ a, a < 12 ∧ x = nI a) (h : BI N) : BI (upd N (24 + w) x) := by
  obtain ⟨b1, b2, b3, b4, b5, b6, b7, b8, b9, b10, b11, b12, b13⟩ := h
  exact ⟨fun i hi => by rw [upd_ne (by omega)]; exact b1 i hi, fun i hi => by rw [upd_ne (by omega)]; exact b2 i hi, fun i hi => by rw [upd_ne (by omega)]; exact b3 i hi, fun i hi => by rw [upd_ne (by omega)]; exact b4 i hi, fun i hi => by
    by_cases e : i = w
    · subst e; rw [upd_eq rfl]; exact hx
    · rw [upd_ne (by omega)]; exact b5 i hi, fun i hi => by rw [upd_ne (by omega)]; exact b6 i hi, (by rw [upd_ne (by omega)]; exact b7), (by rw [upd_ne (by omega)]; exact b8), (by rw [upd_ne (by omega)]; exact b9), (by rw [upd_ne (by omega)]; exact b10), (by rw [upd_ne (by omega)]; exact b11), fun i hi => by rw [upd_ne (by omega)]; exact b12 i hi, BH_up b13 (by omega)⟩
theorem BI_go {N : Nat → Int32} {w : Nat} {x : Int32} (hw : w < 18) (hx : ∃ a, a < 10 ∧ x = nI a) (h : BI N) : BI (upd N (30 + w) x) := by
  obtain ⟨b1, b2, b3, b4, b5, b6, b7, b8, b9, b10, b11, b12, b13⟩ := h
  exact ⟨fun i hi => by rw [upd_ne (by omega)]; exact b1 i hi, fun i hi => by rw [upd_ne (by omega)]; exact b2 i hi, fun i hi => by rw [upd_ne (by omega)]; exact b3 i hi, fun i hi => by rw [upd_ne (by omega)]; exact b4 i hi, fun i hi => by rw [upd_ne (by omega)]; exact b5 i hi, fun i hi => by
    by_cases e : i = w
    · subst e; rw [upd_eq rfl]; exact hx
    · rw [upd_ne (by omega)]; exact b6 i hi, (by rw [upd_ne (by omega)]; exact b7), (by rw [upd_ne (by omega)]; exact b8), (by rw [upd_ne (by omega)]; exact b9), (by rw [upd_ne (by omega)]; exact b10), (by rw [upd_ne (by omega)]; exact b11), fun i hi => by rw [upd_ne (by omega)]; exact b12 i hi, BH_up b13 (by omega)⟩
theorem BI_lk {N : Nat → Int32} {w : Nat} {x : Int32} (hw : w < 3) (hx : ∃ a, a < 4 ∧ x = nI a) (h : BI N) : BI (upd N (53 + w) x) := by
  obtain ⟨b1, b2, b3, b4, b5, b6, b7, b8, b9, b10, b11, b12, b13⟩ := h
  exact ⟨fun i hi => by rw [upd_ne (by omega)]; exact b1 i hi, fun i hi => by rw [upd_ne (by omega)]; exact b2 i hi, fun i hi => by rw [upd_ne (by omega)]; exact b3 i hi, fun i hi => by rw [upd_ne (by omega)]; exact b4 i hi, fun i hi => by rw [upd_ne (by omega)]; exact b5 i hi, fun i hi => by rw [upd_ne (by omega)]; exact b6 i hi, (by rw [upd_ne (by omega)]; exact b7), (by rw [upd_ne (by omega)]; exact b8), (by rw [upd_ne (by omega)]; exact b9), (by rw [upd_ne (by omega)]; exact b10), (by rw [upd_ne (by omega)]; exact b11), fun i hi => by
    by_cases e : i = w
    · subst e; rw [upd_eq rfl]; exact hx
    · rw [upd_ne (by omega)]; exact b12 i hi, BH_up b13 (by omega)⟩
theorem BI_wc {N : Nat → Int32}  {x : Int32}  (hx : ∃ a, a < 12 ∧ x = nI a) (h : BI N) : BI (upd N (48) x) := by
  obtain ⟨b1, b2, b3, b4, b5, b6, b7, b8, b9, b10, b11, b12, b13⟩ := h
  exact ⟨fun i hi => by rw [upd_ne (by omega)]; exact b1 i hi, fun i hi => by rw [upd_ne (by omega)]; exact b2 i hi, fun i hi => by rw [upd_ne (by omega)]; exact b3 i hi, fun i hi => by rw [upd_ne (by omega)]; exact b4 i hi, fun i hi => by rw [upd_ne (by omega)]; exact b5 i hi, fun i hi => by rw [upd_ne (by omega)]; exact b6 i hi, (by rw [upd_eq rfl]; exact hx), (by rw [upd_ne (by omega)]; exact b8), (by rw [upd_ne (by omega)]; exact b9), (by rw [upd_ne (by omega)]; exact b10), (by rw [upd_ne (by omega)]; exact b11), fun i hi => by rw [upd_ne (by omega)]; exact b12 i hi, BH_up b13 (by omega)⟩
theorem BI_wy {N : Nat → Int32}  {x : Int32}  (hx : ∃ a, a < 2 ∧ x = nI a) (h : BI N) : BI (upd N (49) x) := by
  obtain ⟨b1, b2, b3, b4, b5, b6, b7, b8, b9, b10, b11, b12, b13⟩ := h
  exact ⟨fun i hi => by rw [upd_ne (by omega)]; exact b1 i hi, fun i hi => by rw [upd_ne (by omega)]; exact b2 i hi, fun i hi => by rw [upd_ne (by omega)]; exact b3 i hi, fun i hi => by rw [upd_ne (by omega)]; exact b4 i hi, fun i hi => by rw [upd_ne (by omega)]; exact b5 i hi, fun i hi => by rw [upd_ne (by omega)]; exact b6 i hi, (by rw [upd_ne (by omega)]; exact b7), (by rw [upd_eq rfl]; exact hx), (by rw [upd_ne (by omega)]; exact b9), (by rw [upd_ne (by omega)]; exact b10), (by rw [upd_ne (by omega)]; exact b11), fun i hi => by rw [upd_ne (by omega)]; exact b12 i hi, BH_up b13 (by omega)⟩
theorem BI_wf {N : Nat → Int32}  {x : Int32}  (hx : ∃ a, 1 ≤ a ∧ a < 10 ∧ x = nI a) (h : BI N) : BI (upd N (50) x) := by
  obtain ⟨b1, b2, b3, b4, b5, b6, b7, b8, b9, b10, b11, b12, b13⟩ := h
  exact ⟨fun i hi => by rw [upd_ne (by omega)]; exact b1 i hi, fun i hi => by rw [upd_ne (by omega)]; exact b2 i hi, fun i hi => by rw [upd_ne (by omega)]; exact b3 i hi, fun i hi => by rw [upd_ne (by omega)]; exact b4 i hi, fun i hi => by rw [upd_ne (by omega)]; exact b5 i hi, fun i hi => by rw [upd_ne (by omega)]; exact b6 i hi, (by rw [upd_ne (by omega)]; exact b7), (by rw [upd_ne (by omega)]; exact b8), (by rw [upd_eq rfl]; exact hx), (by rw [upd_ne (by omega)]; exact b10), (by rw [upd_ne (by omega)]; exact b11), fun i hi => by rw [upd_ne (by omega)]; exact b12 i hi, BH_up b13 (by omega)⟩
theorem BI_hr {N : Nat → Int32}  {x : Int32}  (hx : ∃ a, a < 8 ∧ x = nI a) (h : BI N) : BI (upd N (51) x) := by
  obtain ⟨b1, b2, b3, b4, b5, b6, b7, b8, b9, b10, b11, b12, b13⟩ := h
  exact ⟨fun i hi => by rw [upd_ne (by omega)]; exact b1 i hi, fun i hi => by rw [upd_ne (by omega)]; exact b2 i hi, fun i hi => by rw [upd_ne (by omega)]; exact b3 i hi, fun i hi => by rw [upd_ne (by omega)]; exact b4 i hi, fun i hi => by rw [upd_ne (by omega)]; exact b5 i hi, fun i hi => by rw [upd_ne (by omega)]; exact b6 i hi, (by rw [upd_ne (by omega)]; exact b7), (by rw [upd_ne (by omega)]; exact b8), (by rw [upd_ne (by omega)]; exact b9), (by rw [upd_eq rfl]; exact hx), (by rw [upd_ne (by omega)]; exact b11), fun i hi => by rw [upd_ne (by omega)]; exact b12 i hi, BH_up b13 (by omega)⟩
theorem BI_dy {N : Nat → Int32}  {x : Int32}  (hx : ∃ a, a < 100 ∧ x = nI a) (h : BI N) : BI (upd N (52) x) := by
  obtain ⟨b1, b2, b3, b4, b5, b6, b7, b8, b9, b10, b11, b12, b13⟩ := h
  exact ⟨fun i hi => by rw [upd_ne (by omega)]; exact b1 i hi, fun i hi => by rw [upd_ne (by omega)]; exact b2 i hi, fun i hi => by rw [upd_ne (by omega)]; exact b3 i hi, fun i hi => by rw [upd_ne (by omega)]; exact b4 i hi, fun i hi => by rw [upd_ne (by omega)]; exact b5 i hi, fun i hi => by rw [upd_ne (by omega)]; exact b6 i hi, (by rw [upd_ne (by omega)]; exact b7), (by rw [upd_ne (by omega)]; exact b8), (by rw [upd_ne (by omega)]; exact b9), (by rw [upd_ne (by omega)]; exact b10), (by rw [upd_eq rfl]; exact hx), fun i hi => by rw [upd_ne (by omega)]; exact b12 i hi, BH_up b13 (by omega)⟩
theorem BI_ce {N : Nat → Int32} {w : Nat} {x : Int32} (hw : w < 6) (hx : ∃ a, a < 12 ∧ x = nI a) (h : BI N) (hb : BH (upd N (w) x)) : BI (upd N (w) x) := by
  obtain ⟨b1, b2, b3, b4, b5, b6, b7, b8, b9, b10, b11, b12, b13⟩ := h
  exact ⟨fun i hi => by
    by_cases e : i = w
    · subst e; rw [upd_eq rfl]; exact hx
    · rw [upd_ne (by omega)]; exact b1 i hi, fun i hi => by rw [upd_ne (by omega)]; exact b2 i hi, fun i hi => by rw [upd_ne (by omega)]; exact b3 i hi, fun i hi => by rw [upd_ne (by omega)]; exact b4 i hi, fun i hi => by rw [upd_ne (by omega)]; exact b5 i hi, fun i hi => by rw [upd_ne (by omega)]; exact b6 i hi, (by rw [upd_ne (by omega)]; exact b7), (by rw [upd_ne (by omega)]; exact b8), (by rw [upd_ne (by omega)]; exact b9), (by rw [upd_ne (by omega)]; exact b10), (by rw [upd_ne (by omega)]; exact b11), fun i hi => by rw [upd_ne (by omega)]; exact b12 i hi, hb⟩
theorem BI_hd {N : Nat → Int32} {w : Nat} {x : Int32} (hw : w < 6) (hx : x = -6 ∨ ∃ a, a < 6 ∧ x = nI a) (h : BI N) (hb : BH (upd N (18 + w) x)) : BI (upd N (18 + w) x) := by
  obtain ⟨b1, b2, b3, b4, b5, b6, b7, b8, b9, b10, b11, b12, b13⟩ := h
  exact ⟨fun i hi => by rw [upd_ne (by omega)]; exact b1 i hi, fun i hi => by rw [upd_ne (by omega)]; exact b2 i hi, fun i hi => by rw [upd_ne (by omega)]; exact b3 i hi, fun i hi => by
    by_cases e : i = w
    · subst e; rw [upd_eq rfl]; exact hx
    · rw [upd_ne (by omega)]; exact b4 i hi, fun i hi => by rw [upd_ne (by omega)]; exact b5 i hi, fun i hi => by rw [upd_ne (by omega)]; exact b6 i hi, (by rw [upd_ne (by omega)]; exact b7), (by rw [upd_ne (by omega)]; exact b8), (by rw [upd_ne (by omega)]; exact b9), (by rw [upd_ne (by omega)]; exact b10), (by rw [upd_ne (by omega)]; exact b11), fun i hi => by rw [upd_ne (by omega)]; exact b12 i hi, hb⟩
theorem BI_co {N M : Nat → Int32} (e : ∀ i, i < 56 → M i = N i) (h : BI N) : BI M := by
  obtain ⟨b1, b2, b3, b4, b5, b6, b7, b8, b9, b10, b11, b12, b13⟩ := h
  refine ⟨fun i hi => by rw [e _ (by omega)]; exact b1 i hi, fun i hi => by rw [e _ (by omega)]; exact b2 i hi, fun i hi => by rw [e _ (by omega)]; exact b3 i hi, fun i hi => by rw [e _ (by omega)]; exact b4 i hi, fun i hi => by rw [e _ (by omega)]; exact b5 i hi, fun i hi => by rw [e _ (by omega)]; exact b6 i hi, by rw [e _ (by omega)]; exact b7, by rw [e _ (by omega)]; exact b8, by rw [e _ (by omega)]; exact b9, by rw [e _ (by omega)]; exact b10, by rw [e _ (by omega)]; exact b11, fun i hi => by rw [e _ (by omega)]; exact b12 i hi, ?_⟩
  intro i a hi ha q
  rw [e _ (by omega)] at q
  obtain ⟨e1, e2, e3⟩ := b13 i a hi ha q
  refine ⟨by rw [e _ (by omega), e _ (by omega)]; exact e1, by rw [e _ (by omega)]; exact e2, fun j hj ej => ?_⟩
  rw [e _ (by omega)] at ej
  exact e3 j hj ej
theorem TR_co {ce ho ow hd li go lk : Nat → Int32} {wc wy wf hr dy : Int32} {N M : Nat → Int32} (e : ∀ i, i < 56 → M i = N i) (h : TR ce ho ow hd li go lk wc wy wf hr dy N) : TR ce ho ow hd li go lk wc wy wf hr dy M := by
  obtain ⟨t1, t2, t3, t4, t5, t6, t7, t8, t9, t10, t11, t12⟩ := h
  exact ⟨fun i hi => by rw [e _ (by omega)]; exact t1 i hi, fun i hi => by rw [e _ (by omega)]; exact t2 i hi, fun i hi => by rw [e _ (by omega)]; exact t3 i hi, fun i hi => by rw [e _ (by omega)]; exact t4 i hi, fun i hi => by rw [e _ (by omega)]; exact t5 i hi, fun i k hi hk => by rw [e _ (by omega)]; exact t6 i k hi hk, fun k hk => by rw [e _ (by omega)]; exact t7 k hk, by rw [e _ (by omega)]; exact t8, by rw [e _ (by omega)]; exact t9, by rw [e _ (by omega)]; exact t10, by rw [e _ (by omega)]; exact t11, by rw [e _ (by omega)]; exact t12⟩
/-- the class's hushed ones, one by one -/
def hm (N : Nat → Int32) : Nat → Int32
  | 0 => 0
  | w + 1 => if pcb N w = true then (if N (18 + w) = -6 then hm N w ||| sl 1 (nI w) else hm N w ||| sl 1 (nI w) ||| sl 1 (N (18 + w))) else hm N w
theorem f_hushed {ho ow hd N : Nat → Int32} {hr : Int32} (h1 : ∀ i, i < 6 → ho i = N (6 + i)) (h2 : ∀ i, i < 6 → ow i = N (12 + i)) (h3 : hr = N 51) (h4 : ∀ i, i < 6 → hd i = N (18 + i)) : fX8_hushed hr ho ow hd = some (hm N 6) := by
  have L : ∀ n i, i ≤ 6 → 6 - i < n → fX8_hushed_L4 hr ho ow hd n (hm N i) (nI i) = some (hm N 6) := by
    intro n
    induction n with
    | zero => intro i _ h2; omega
    | succ n ih =>
      intro i hi hn
      rw [fX8_hushed_L4]
      by_cases h6 : i = 6
      · subst h6; rfl
      · have hlt : i < 6 := by omega
        simp (disch := omega) only [lit_nI_le, f_peace h1 h2 h3 hlt, Option.bind_some, bI0, inb_t, toN_t, gd_T, h4 i hlt, fX8_hushed_b46, a_lit]
        rw [if_neg (by omega)]
        have e := ih (i + 1) (by omega) (by omega)
        rw [hm] at e
        by_cases p1 : pcb N i = true
        · by_cases p2 : N (18 + i) = -6
          · simp only [p1, p2, not_true_eq_false, if_true, if_false] at e ⊢
            exact e
          · simp only [p1, p2, not_true_eq_false, if_true, if_false] at e ⊢
            exact e
        · simp only [p1, not_false_eq_true, if_true] at e ⊢
          exact e
  exact L zF 0 (by omega) (by decide)
/-- hushed, as a bit -/
def hsb (N : Nat → Int32) (i : Nat) : Bool := pcb N i || (List.range 6).any (fun x => pcb N x && decide (N (18 + x) = nI i))
theorem hm_bt {N : Nat → Int32} (h : ∀ i, i < 6 → N (18 + i) = -6 ∨ ∃ a, a < 6 ∧ N (18 + i) = nI a) : ∀ w, w ≤ 6 → ∀ i, i < 32 → bt (hm N w) i = ((decide (i < w) && pcb N i) || (List.range w).any (fun x => pcb N x && decide (N (18 + x) = nI i))) := by
  intro w
  induction w with
  | zero => intro _ i _; simp [hm, b_0]
  | succ w ih =>
    intro hw i hi
    have e := ih (by omega) i hi
    rw [hm, List.range_succ, List.any_append]
    have d1 : decide (i < w + 1) = (decide (i < w) || decide (i = w)) := by
      by_cases q : i < w
      · simp [q, Nat.lt_succ_of_lt q]
      · by_cases q2 : i = w
        · subst q2; simp
        · simp [q, q2]; omega
    by_cases p1 : pcb N w = true
    · rcases h w (by omega) with p2 | ⟨a, ha, p2⟩
      · rw [if_pos p1, if_pos p2, b_or, e, bt_sl (by omega) hi, d1]
        have q1 : ¬ (-6 : Int32) = nI i := n6_nI (by omega)
        by_cases q2 : i = w
        · subst q2; simp [p1, p2, q1]
        · simp [p1, p2, q1, q2]
      · rw [if_pos p1, if_neg (by rw [p2]; exact nI_n6 (by omega)), b_or, b_or, e, bt_sl (by omega) hi, p2, bt_sl (by omega) hi, d1]
        have q1 : decide (nI a = nI i) = decide (i = a) := by
          rw [decide_eq_decide, nI_inj (by omega) (by omega)]
          exact ⟨Eq.symm, Eq.symm⟩
        by_cases q2 : i = w
        · subst q2; simp [p1, p2, q1]
        · simp [p1, p2, q1, q2, Bool.or_assoc]
    · rw [if_neg p1, e, d1]
      by_cases q2 : i = w
      · subst q2; simp [p1]
      · simp [p1, q2]
theorem f_isHushed {N : Nat → Int32} (hb : BH N) (h : ∀ i, i < 6 → N (18 + i) = -6 ∨ ∃ a, a < 6 ∧ N (18 + i) = nI a) {w : Nat} (hw : w < 6) : fX12_isHushed N (nI w) = some (bI (hsb N w = true)) := by
  unfold fX12_isHushed fX12_isHushed_b28 fX12_isHushed_b32 fX12_isHushed_b33
  simp only [f_peaceM N hw, Option.bind_some, bI0]
  by_cases p1 : pcb N w = true
  · have q : hsb N w = true := by unfold hsb; rw [p1]; rfl
    simp [p1, q, bI, gd]
  · by_cases ex : ∃ x, x < 6 ∧ N (18 + x) = nI w
    · obtain ⟨x, hx, ex⟩ := ex
      have hy : ∀ y, y < x → N (18 + y) ≠ nI w := fun y hy e => by
        have := (hb x w hx hw ex).2.2 y (by omega) e
        omega
      rw [f_holder1 hx ex hy]
      simp only [Option.bind_some, f_peaceM N hx, bI0]
      rw [if_neg (nI_nneg (by omega)), if_pos p1]
      have q : (hsb N w = true) ↔ pcb N x = true := by
        unfold hsb
        simp only [p1, Bool.false_or, List.any_eq_true, List.mem_range, Bool.and_eq_true, decide_eq_true_eq]
        constructor
        · rintro ⟨y, h1, h2, h3⟩
          have := (hb x w hx hw ex).2.2 y h1 h3
          subst this; exact h2
        · intro h2
          exact ⟨x, hx, h2, ex⟩
      by_cases p2 : pcb N x = true
      · simp [p2, q.mpr p2, bI, gd]
      · have p3 : ¬ hsb N w = true := fun e => p2 (q.mp e)
        simp [p2, p3, bI, gd]
    · rw [f_holder0 (v := nI w) (fun x hx e => ex ⟨x, hx, e⟩)]
      have q : ¬ hsb N w = true := by
        unfold hsb
        simp only [p1, Bool.false_or, List.any_eq_true, List.mem_range, Bool.and_eq_true, decide_eq_true_eq]
        rintro ⟨y, h1, h2, h3⟩
        exact ex ⟨y, h1, h3⟩
      simp [p1, q, bI, gd, n6_lt]
/-- a mask of six bits -/
def mk6 (p : Nat → Bool) : Nat → Int32
  | 0 => 0
  | w + 1 => mk6 p w ||| (if p w = true then sl 1 (nI w) else 0)
theorem mk6_bt {p : Nat → Bool} : ∀ w, w ≤ 6 → ∀ i, i < 32 → bt (mk6 p w) i = (decide (i < w) && p i) := by
  intro w
  induction w with
  | zero => intro _ i _; simp [mk6, b_0]
  | succ w ih =>
    intro hw i hi
    rw [mk6, b_or, ih (by omega) i hi]
    by_cases q : i = w
    · subst q
      by_cases p1 : p i = true
      · rw [if_pos p1, bt_sl (by omega) hi]; simp [p1]
      · rw [if_neg p1, b_0]; simp [p1]
    · have d1 : decide (i < w + 1) = decide (i < w) := by rw [decide_eq_decide]; omega
      rw [d1]
      by_cases p1 : p w = true
      · rw [if_pos p1, bt_sl (by omega) hi]; simp [q]
      · rw [if_neg p1, b_0]; simp
theorem f_hushedM {N : Nat → Int32} (hb : BH N) (h : ∀ i, i < 6 → N (18 + i) = -6 ∨ ∃ a, a < 6 ∧ N (18 + i) = nI a) : fX12_hushedOnes N = some (mk6 (hsb N) 6) := by
  have L : ∀ n i, i ≤ 6 → 6 - i < n → fX12_hushedOnes_L4 N n (mk6 (hsb N) i) (nI i) = some (mk6 (hsb N) 6) := by
    intro n
    induction n with
    | zero => intro i _ h2; omega
    | succ n ih =>
      intro i hi hn
      rw [fX12_hushedOnes_L4]
      by_cases h6 : i = 6
      · subst h6; rfl
      · have hlt : i < 6 := by omega
        simp (disch := omega) only [lit_nI_le, f_isHushed hb h hlt, Option.bind_some, bI0, fX12_hushedOnes_b26, a_lit]
        rw [if_neg (by omega)]
        have e := ih (i + 1) (by omega) (by omega)
        rw [mk6] at e
        by_cases p1 : hsb N i = true
        · simp only [p1, not_true_eq_false, if_true, if_false] at e ⊢
          exact e
        · simp only [p1, not_false_eq_true, if_true] at e ⊢
          exact e
  exact L zF 0 (by omega) (by decide)
theorem hm_mk {N : Nat → Int32} (h : ∀ i, i < 6 → N (18 + i) = -6 ∨ ∃ a, a < 6 ∧ N (18 + i) = nI a) : hm N 6 = mk6 (hsb N) 6 := by
  refine b_ext (fun i hi => ?_)
  rw [hm_bt h 6 (Nat.le_refl 6) i hi, mk6_bt 6 (Nat.le_refl 6) i hi]
  unfold hsb
  by_cases q : i < 6
  · simp [q]
  · have : (List.range 6).any (fun x => pcb N x && decide (N (18 + x) = nI i)) = false := by
      rw [List.any_eq_false]
      intro x hx
      rw [List.mem_range] at hx
      rcases h x hx with e | ⟨a, ha, e⟩
      · rw [e, decide_eq_false (n6_nI (by omega))]; simp
      · rw [e, decide_eq_false (by rw [nI_inj (by omega) (by omega)]; omega)]; simp
    simp [q, this]
/-- off, as a bit -/
def ofb (N : Nat → Int32) (i : Nat) : Bool := !decide (N (24 + i) = -6)
theorem f_bare {li N : Nat → Int32} (h1 : ∀ i, i < 6 → li i = N (24 + i)) : fX8_bareHeads li = some (mk6 (ofb N) 6) := by
  have L : ∀ n i, i ≤ 6 → 6 - i < n → fX8_bareHeads_L4 li n (mk6 (ofb N) i) (nI i) = some (mk6 (ofb N) 6) := by
    intro n
    induction n with
    | zero => intro i _ h2; omega
    | succ n ih =>
      intro i hi hn
      rw [fX8_bareHeads_L4]
      by_cases h6 : i = 6
      · subst h6; rfl
      · have hlt : i < 6 := by omega
        simp (disch := omega) only [lit_nI_le, inb_t, toN_t, gd_T, h1 i hlt, fX8_bareHeads_b27, a_lit]
        rw [if_neg (by omega)]
        have e := ih (i + 1) (by omega) (by omega)
        rw [mk6, ofb] at e
        by_cases p1 : N (24 + i) = -6
        · rw [if_pos p1]
          simpa [p1] using e
        · rw [if_neg p1]
          simpa [p1] using e
  exact L zF 0 (by omega) (by decide)
theorem f_bareM {N : Nat → Int32} (h : ∀ i, i < 6 → N (24 + i) = -6 ∨ ∃ a, a < 12 ∧ N (24 + i) = nI a) : fX12_offOnes N = some (mk6 (ofb N) 6) := by
  have L : ∀ n i, i ≤ 6 → 6 - i < n → fX12_offOnes_L4 N n (mk6 (ofb N) i) (nI i) = some (mk6 (ofb N) 6) := by
    intro n
    induction n with
    | zero => intro i _ h2; omega
    | succ n ih =>
      intro i hi hn
      rw [fX12_offOnes_L4]
      by_cases h6 : i = 6
      · subst h6; rfl
      · have hlt : i < 6 := by omega
        simp (disch := omega) only [lit_nI_le, l_add, inb_t, toN_t, gd_T, fX12_offOnes_b30, a_lit]
        rw [if_neg (by omega)]
        have e := ih (i + 1) (by omega) (by omega)
        rw [mk6, ofb] at e
        rcases h i hlt with p1 | ⟨a, ha, p1⟩
        · rw [p1, if_pos n6_lt]
          simpa [p1] using e
        · rw [p1, if_neg (nI_nneg (by omega))]
          simpa [p1, nI_n6 (a := a) (by omega)] using e
  exact L zF 0 (by omega) (by decide)
/-- the book copied over what was there -/
def cp (B N : Nat → Int32) (i : Nat) : Nat → Int32 := fun j => if j < i then B j else N j
theorem cp_s (B N : Nat → Int32) (i : Nat) : upd (cp B N i) i (B i) = cp B N (i + 1) := by
  funext j
  rw [upd_ap]
  unfold cp
  by_cases h : j = i
  · subst h; simp
  · rw [if_neg h]
    by_cases h2 : j < i
    · rw [if_pos h2, if_pos (by omega)]
    · rw [if_neg h2, if_neg (by omega)]
theorem f_asNow (a b c d : Int32) (B N : Nat → Int32) : fX12_asNow a b c d B N = some (0, -6, -6, -6, cp B N 56) := by
  have L : ∀ n i, i ≤ 56 → 56 - i < n → fX12_asNow_L2 B n a b c d (cp B N i) (nI i) = some (0, -6, -6, -6, cp B N 56) := by
    intro n
    induction n with
    | zero => intro i _ h2; omega
    | succ n ih =>
      intro i hi hn
      rw [fX12_asNow_L2]
      by_cases h6 : i = 56
      · subst h6; rfl
      · simp (disch := omega) only [lit_nI_le, inb_t, toN_t, gd_T, a_lit, cp_s]
        rw [if_neg (by omega)]
        exact ih (i + 1) (by omega) (by omega)
  have e : cp B N 0 = N := by funext j; unfold cp; simp
  have := L zF 0 (by omega) (by decide)
  rw [e] at this
  exact this
theorem cp_in {B N : Nat → Int32} {i j : Nat} (h : j < i) : cp B N i j = B j := by unfold cp; rw [if_pos h]
