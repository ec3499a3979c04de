/-! judge, done, behind, then -/
set_option maxHeartbeats 4000000 in
theorem days_of {ce ho ow hd li go lk : Nat → Int32} {wc wy wf hr dy : Int32} {B : Nat → Int32} (hT : TR ce ho ow hd li go lk wc wy wf hr dy B) (hB : BI B) {sz sg : Int32} {pc pm : Nat → Int32} (hP : PR sz sg pc pm) (acts bad rea los fac flo thr tdy twc twy twf : Int32) (tce tho tow thd tli tgo tlk N : Nat → Int32) (o1 o2 o3 o4 o5 o6 : Int32) :
    (∃ a : Nat, a ≤ 60 ∧ fX3_faultyPlace sz pc = some (nI a) ∧ fX12_faultOf sg pm = some (nI a)) ∨
    (fX3_faultyPlace sz pc = some (-6) ∧ fX12_faultOf sg pm = some (-6) ∧ ∃ (k' : Nat) (ls' fa' fl' lo' rs' hr' dy' wc' wy' wf' : Int32) (ce' ho' ow' hd' li' go' lk' N' : Nat → Int32), k' ≤ 60 ∧ fX9_read acts bad rea los fac flo thr tdy hr dy twc twy twf wc wy wf ce tce ho tho ow tow hd thd li tli go tgo lk tlk sz pc = some (nI k', -6, -6, ls', fa', fl', hr', dy', wc', wy', wf', ce', ho', ow', hd', li', go', lk') ∧ fX12_goDays sg o1 o2 o3 o4 o5 o6 B N pm = some (-6, ls', fa', fl', lo', rs', nI k', N') ∧ TR ce' ho' ow' hd' li' go' lk' wc' wy' wf' hr' dy' N' ∧ BI N') ∨
    (fX3_faultyPlace sz pc = some (-6) ∧ fX12_faultOf sg pm = some (-6) ∧ ∃ (k' : Nat) (r ls' fa' fl' lo' oa' ow_' hr' dy' wc' wy' wf' : Int32) (ce' ho' ow' hd' li' go' lk' N' : Nat → Int32), k' ≤ 60 ∧ 0 < r ∧ fX9_read acts bad rea los fac flo thr tdy hr dy twc twy twf wc wy wf ce tce ho tho ow tow hd thd li tli go tgo lk tlk sz pc = some (nI k', nI k', r, ls', fa', fl', hr', dy', wc', wy', wf', ce', ho', ow', hd', li', go', lk') ∧ fX12_goDays sg o1 o2 o3 o4 o5 o6 B N pm = some (nI k', ls', oa', ow_', lo', r, nI k', N')) := by
  obtain ⟨g, s, rfl, rfl, hp⟩ := PR_g hP
  have hs := hp.1
  obtain ⟨k1, k2⟩ := f_fault hp s 0 0 (by omega) (by omega) zF zF (by unfold zF; omega) (by unfold zF; omega)
  have k1' : fX3_faultyPlace (nI s) pc = some (ft g s s 0 0) := k1
  have k2' : fX12_faultOf (nI s) pm = some (ft g s s 0 0) := k2
  rcases ft_cases g s hs s 0 0 (by omega) with c | ⟨a, ha, c⟩
  · rw [c] at k1' k2'
    refine Or.inr ?_
    have hT2 := TR_co cp_low (TR_cpy (ce0 := tce) (ho0 := tho) (ow0 := tow) (hd0 := thd) (li0 := tli) (go0 := tgo) (lk0 := tlk) hT) (M := cp B N 56)
    have hB2 : BI (cp B N 56) := BI_co cp_low hB
    have er : fX9_read acts bad rea los fac flo thr tdy hr dy twc twy twf wc wy wf ce tce ho tho ow tow hd thd li tli go tgo lk tlk (nI s) pc = fX9_read_L13 hr dy wc wy wf ce ho ow hd li go lk (nI s) pc zF (nI 0) (-6) (-6) 0 (-6) (-6) hr dy wc wy wf (va_cpy ce tce 0 0 6) (va_cpy ho tho 0 0 6) (va_cpy ow tow 0 0 6) (va_cpy hd thd 0 0 6) (va_cpy li tli 0 0 6) (va_cpy go tgo 0 0 18) (va_cpy lk tlk 0 0 3) 0 0 (nI 0) := by
      unfold fX9_read fX9_begin fX8_become fX10_become fX10_put
      simp only [bsome]
      rfl
    have eg : fX12_goDays (nI s) o1 o2 o3 o4 o5 o6 B N pm = fX12_goDays_L11 (nI s) B pm zF 0 (-6) (-6) (-6) o5 (nI 0) (cp B N 56) (nI 0) := by
      unfold fX12_goDays
      simp only [f_asNow, bsome]
      rfl
    rw [er, eg]
    rcases days_run (h2 := hr) (d2 := dy) (c2 := wc) (y2 := wy) (f2 := wf) (ce2 := ce) (ho2 := ho) (ow2 := ow) (hd2 := hd) (li2 := li) (go2 := go) (lk2 := lk) (B := B) hp s s 0 (Nat.le_refl s) (by omega) c zF zF (by unfold zF; omega) (by unfold zF; omega) 0 (Nat.le_refl 0) 0 (-6) (-6) (-6) o5 0 _ _ _ _ _ _ _ _ _ _ _ _ _ hT2 hB2 (Or.inl ⟨rfl, rfl⟩) with ⟨k', ls', fa', fl', lo', rs', hr', dy', wc', wy', wf', ce', ho', ow', hd', li', go', N', q1, q2, q3, q4, q5⟩ | ⟨k', r, ls', fa', fl', lo', oa', ow_', hr', dy', wc', wy', wf', ce', ho', ow', hd', li', go', N', q1, q2, q3, q4⟩
    · exact Or.inl ⟨k1', k2', k', ls', fa', fl', lo', rs', hr', dy', wc', wy', wf', ce', ho', ow', hd', li', go', _, N', q1, q2, q3, q4, q5⟩
    · exact Or.inr ⟨k1', k2', k', r, ls', fa', fl', lo', oa', ow_', hr', dy', wc', wy', wf', ce', ho', ow', hd', li', go', _, N', q1, q2, q3, q4⟩
  · rw [c] at k1' k2'
    exact Or.inl ⟨a, ha, k1', k2'⟩
set_option maxHeartbeats 4000000 in
theorem op_judge {ce ho ow hd li go lk : Nat → Int32} {wc wy wf hr dy : Int32} {B : Nat → Int32} (hT : TR ce ho ow hd li go lk wc wy wf hr dy B) (hB : BI B) {sz sg : Int32} {pc pm : Nat → Int32} (hP : PR sz sg pc pm) (acts bad rea los fac flo thr tdy twc twy twf : Int32) (tce tho tow thd tli tgo tlk N : Nat → Int32) (o1 o2 o3 o4 o5 o6 : Int32) (x1 : Int32) : ∃ (r s1 s2 s3 s4 s5 s6 s7 s8 s9 s10 s11 : Int32) (s12 s13 s14 s15 s16 s17 s18 : Nat → Int32) (p1 p2 p3 p4 p5 p6 : Int32) (N' : Nat → Int32), fX11_judge sz pc acts bad rea los fac flo thr tdy hr dy twc twy twf wc wy wf ce tce ho tho ow tow hd thd li tli go tgo lk tlk x1 = some (r, s1, s2, s3, s4, s5, s6, s7, s8, s9, s10, s11, s12, s13, s14, s15, s16, s17, s18) ∧ fX12_judge sg o1 o2 o3 o4 o5 o6 pm B N x1 = some (r, p1, p2, p3, p4, p5, p6, N') := by
  unfold fX11_judge fX11_judge_b63 fX12_judge fX12_judge_b35 fX12_judge_b43
  simp only [f_within, f_in, bsome, bI0]
  by_cases h1 : 0 ≤ x1 ∧ x1 ≤ 1
  · simp only [h1, not_true_eq_false, and_self, if_false]
    obtain ⟨x, hx, rfl⟩ := rng (by decide) h1
    rcases days_of hT hB hP acts bad rea los fac flo thr tdy twc twy twf tce tho tow thd tli tgo tlk N o1 o2 o3 o4 o5 o6 with ⟨a, ha, e1, e2⟩ | ⟨e1, e2, ⟨k', ls', fa', fl', lo', rs', hr', dy', wc', wy', wf', ce', ho', ow', hd', li', go', lk', N', q1, q2, q3, q4, q5⟩⟩ | ⟨e1, e2, ⟨k', r, ls', fa', fl', lo', oa', ow_', hr', dy', wc', wy', wf', ce', ho', ow', hd', li', go', lk', N', q1, q2, q3, q4⟩⟩
    · simp only [e1, e2, bsome]
      rw [if_neg (nI_n6 (by omega)), if_neg (nI_nneg (by omega))]
      exact ⟨_, _, _, _, _, _, _, _, _, _, _, _, _, _, _, _, _, _, _, _, _, _, _, _, _, _, rfl, rfl⟩
    · simp only [e1, e2, bsome, q2, q3]
      rw [if_pos (by decide), if_pos n6_lt, if_pos n6_lt]
      simp (disch := omega) only [nI_lit_eq]
      by_cases c : x = 0
      · rw [if_pos c]
        exact ⟨_, _, _, _, _, _, _, _, _, _, _, _, _, _, _, _, _, _, _, _, _, _, _, _, _, _, rfl, rfl⟩
      · rw [if_neg c]
        exact ⟨_, _, _, _, _, _, _, _, _, _, _, _, _, _, _, _, _, _, _, _, _, _, _, _, _, _, rfl, rfl⟩
    · simp only [e1, e2, bsome, q3, q4]
      rw [if_pos (by decide), if_pos n6_lt, if_neg (nI_nneg (by omega))]
      simp (disch := omega) only [nI_lit_eq]
      by_cases c : x = 0
      · rw [if_pos c, if_pos c]
        exact ⟨_, _, _, _, _, _, _, _, _, _, _, _, _, _, _, _, _, _, _, _, _, _, _, _, _, _, rfl, rfl⟩
      · rw [if_neg c, if_neg c]
        exact ⟨_, _, _, _, _, _, _, _, _, _, _, _, _, _, _, _, _, _, _, _, _, _, _, _, _, _, rfl, rfl⟩
  · simp only [h1, not_false_eq_true, if_true]
    exact ⟨_, _, _, _, _, _, _, _, _, _, _, _, _, _, _, _, _, _, _, _, _, _, _, _, _, _, rfl, rfl⟩
set_option maxHeartbeats 4000000 in
theorem text_of {ce ho ow hd li go lk : Nat → Int32} {wc wy wf hr dy : Int32} {B : Nat → Int32} (hT : TR ce ho ow hd li go lk wc wy wf hr dy B) (hB : BI B) {sz sg : Int32} {pc pm : Nat → Int32} (hP : PR sz sg pc pm) (acts bad rea los fac flo thr tdy twc twy twf : Int32) (tce tho tow thd tli tgo tlk N : Nat → Int32) (o1 o2 o3 o4 o5 o6 : Int32) :
    (∃ (s1 s2 s3 s4 s5 s6 s7 s8 s9 s10 s11 : Int32) (s12 s13 s14 s15 s16 s17 s18 : Nat → Int32) (p1 p2 p3 p4 p5 p6 : Int32) (N' : Nat → Int32), fX11_textCanBe sz pc acts bad rea los fac flo thr tdy hr dy twc twy twf wc wy wf ce tce ho tho ow tow hd thd li tli go tgo lk tlk = some (0, s1, s2, s3, s4, s5, s6, s7, s8, s9, s10, s11, s12, s13, s14, s15, s16, s17, s18) ∧ fX12_barOfDays sg o1 o2 o3 o4 o5 o6 pm B N = some (-5, p1, p2, p3, p4, p5, p6, N')) ∨
    (∃ (k' : Nat) (ls' fa' fl' lo' rs' hr' dy' wc' wy' wf' : Int32) (ce' ho' ow' hd' li' go' lk' N' : Nat → Int32), k' ≤ 60 ∧ fX11_textCanBe sz pc acts bad rea los fac flo thr tdy hr dy twc twy twf wc wy wf ce tce ho tho ow tow hd thd li tli go tgo lk tlk = some (1, nI k', -6, -6, ls', fa', fl', hr', dy', wc', wy', wf', ce', ho', ow', hd', li', go', lk') ∧ fX12_barOfDays sg o1 o2 o3 o4 o5 o6 pm B N = some (0, ls', fa', fl', lo', rs', nI k', N') ∧ TR ce' ho' ow' hd' li' go' lk' wc' wy' wf' hr' dy' N' ∧ BI N') := by
  unfold fX11_textCanBe fX11_textCanBe_b46 fX12_barOfDays fX12_barOfDays_b14 fX12_barOfDays_b20
  rcases days_of hT hB hP acts bad rea los fac flo thr tdy twc twy twf tce tho tow thd tli tgo tlk N o1 o2 o3 o4 o5 o6 with ⟨a, ha, e1, e2⟩ | ⟨e1, e2, ⟨k', ls', fa', fl', lo', rs', hr', dy', wc', wy', wf', ce', ho', ow', hd', li', go', lk', N', q1, q2, q3, q4, q5⟩⟩ | ⟨e1, e2, ⟨k', r, ls', fa', fl', lo', oa', ow_', hr', dy', wc', wy', wf', ce', ho', ow', hd', li', go', lk', N', q1, q2, q3, q4⟩⟩
  · simp only [e1, e2, bsome]
    rw [if_neg (nI_n6 (by omega)), if_pos (nI_pos' (by omega))]
    exact Or.inl ⟨_, _, _, _, _, _, _, _, _, _, _, _, _, _, _, _, _, _, _, _, _, _, _, _, _, rfl, rfl⟩
  · simp only [e1, e2, bsome, q2, q3]
    rw [if_pos (by decide), if_pos (by decide), if_neg n60', if_pos n6_lt, gd_t (by decide)]
    exact Or.inr ⟨k', ls', fa', fl', lo', rs', hr', dy', wc', wy', wf', ce', ho', ow', hd', li', go', lk', N', q1, rfl, rfl, q4, q5⟩
  · simp only [e1, e2, bsome, q3, q4]
    rw [if_pos (by decide), if_neg (nI_n6 (by omega)), if_neg n60', if_neg (nI_nneg (by omega)), gd_t (by decide)]
    exact Or.inl ⟨_, _, _, _, _, _, _, _, _, _, _, _, _, _, _, _, _, _, _, _, _, _, _, _, _, rfl, rfl⟩
set_option maxHeartbeats 4000000 in
theorem op_behind {ce ho ow hd li go lk : Nat → Int32} {wc wy wf hr dy : Int32} {B : Nat → Int32} (hT : TR ce ho ow hd li go lk wc wy wf hr dy B) (hB : BI B) {sz sg : Int32} {pc pm : Nat → Int32} (hP : PR sz sg pc pm) (acts bad rea los fac flo thr tdy twc twy twf : Int32) (tce tho tow thd tli tgo tlk N : Nat → Int32) (o1 o2 o3 o4 o5 o6 : Int32) (x1 x2 : Int32) : ∃ (r s1 s2 s3 s4 s5 s6 s7 s8 s9 s10 s11 : Int32) (s12 s13 s14 s15 s16 s17 s18 : Nat → Int32) (p1 p2 p3 p4 p5 p6 : Int32) (N' : Nat → Int32), fX11_behind sz pc acts bad rea los fac flo thr tdy hr dy twc twy twf wc wy wf ce tce ho tho ow tow hd thd li tli go tgo lk tlk x1 x2 = some (r, s1, s2, s3, s4, s5, s6, s7, s8, s9, s10, s11, s12, s13, s14, s15, s16, s17, s18) ∧ fX12_behind sg o1 o2 o3 o4 o5 o6 pm B N x1 x2 = some (r, p1, p2, p3, p4, p5, p6, N') := by
  unfold fX11_behind fX11_behind_b46 fX12_behind fX12_behind_b45
  simp only [f_isWalker, f_isWalkerM, f_within, f_in, bsome, bI0]
  by_cases h1 : 0 ≤ x1 ∧ x1 ≤ 5
  · by_cases h2 : 0 ≤ x2 ∧ x2 ≤ 7
    · simp only [h1, h2, not_true_eq_false, and_self, if_false]
      obtain ⟨w, hw, rfl⟩ := rng (by decide) h1
      obtain ⟨x, hx, rfl⟩ := rng (by decide) h2
      rcases text_of hT hB hP acts bad rea los fac flo thr tdy twc twy twf tce tho tow thd tli tgo tlk N o1 o2 o3 o4 o5 o6 with ⟨s1, s2, s3, s4, s5, s6, s7, s8, s9, s10, s11, s12, s13, s14, s15, s16, s17, s18, p1, p2, p3, p4, p5, p6, N1, e1, e2⟩ | ⟨k', ls', fa', fl', lo', rs', hr', dy', wc', wy', wf', ce', ho', ow', hd', li', go', lk', N1, q1, e1, e2, q4, q5⟩
      · simp only [e1, e2, bsome]
        rw [if_pos (by decide), if_neg (by decide)]
        exact ⟨_, _, _, _, _, _, _, _, _, _, _, _, _, _, _, _, _, _, _, _, _, _, _, _, _, _, rfl, rfl⟩
      · simp only [e1, e2, bsome]
        rw [if_neg (by decide), if_pos (by decide), f_ofWalker q4 (by omega) (by omega), bsome]
        simp (disch := omega) only [l_mul, nI_add, inb_t, toN_t, gd_T]
        exact ⟨_, _, _, _, _, _, _, _, _, _, _, _, _, _, _, _, _, _, _, _, _, _, _, _, _, _, rfl, rfl⟩
    · simp only [h1, h2, not_true_eq_false, and_self, if_false, not_false_eq_true, if_true]
      exact ⟨_, _, _, _, _, _, _, _, _, _, _, _, _, _, _, _, _, _, _, _, _, _, _, _, _, _, rfl, rfl⟩
  · simp only [h1, not_false_eq_true, if_true]
    exact ⟨_, _, _, _, _, _, _, _, _, _, _, _, _, _, _, _, _, _, _, _, _, _, _, _, _, _, rfl, rfl⟩
set_option maxHeartbeats 4000000 in
theorem op_then {ce ho ow hd li go lk : Nat → Int32} {wc wy wf hr dy : Int32} {B : Nat → Int32} (hT : TR ce ho ow hd li go lk wc wy wf hr dy B) (hB : BI B) {sz sg : Int32} {pc pm : Nat → Int32} (hP : PR sz sg pc pm) (acts bad rea los fac flo thr tdy twc twy twf : Int32) (tce tho tow thd tli tgo tlk N : Nat → Int32) (o1 o2 o3 o4 o5 o6 : Int32) (x1 : Int32) : ∃ (r s1 s2 s3 s4 s5 s6 s7 s8 s9 s10 s11 : Int32) (s12 s13 s14 s15 s16 s17 s18 : Nat → Int32) (p1 p2 p3 p4 p5 p6 : Int32) (N' : Nat → Int32), fX11_then sz pc acts bad rea los fac flo thr tdy hr dy twc twy twf wc wy wf ce tce ho tho ow tow hd thd li tli go tgo lk tlk x1 = some (r, s1, s2, s3, s4, s5, s6, s7, s8, s9, s10, s11, s12, s13, s14, s15, s16, s17, s18) ∧ fX12_then sg o1 o2 o3 o4 o5 o6 pm B N x1 = some (r, p1, p2, p3, p4, p5, p6, N') := by
  unfold fX11_then fX12_then fX12_then_b80
  simp only [f_within, f_in, bsome, bI0]
  by_cases h1 : 0 ≤ x1 ∧ x1 ≤ 8
  · simp only [h1, not_true_eq_false, and_self, if_false]
    obtain ⟨x, hx, rfl⟩ := rng (by decide) h1
    rcases text_of hT hB hP acts bad rea los fac flo thr tdy twc twy twf tce tho tow thd tli tgo tlk N o1 o2 o3 o4 o5 o6 with ⟨s1, s2, s3, s4, s5, s6, s7, s8, s9, s10, s11, s12, s13, s14, s15, s16, s17, s18, p1, p2, p3, p4, p5, p6, N1, e1, e2⟩ | ⟨k', ls', fa', fl', lo', rs', hr', dy', wc', wy', wf', ce', ho', ow', hd', li', go', lk', N1, q1, e1, e2, q4, q5⟩
    · simp only [e1, e2, bsome]
      rw [if_pos (by decide), if_neg (by decide)]
      exact ⟨_, _, _, _, _, _, _, _, _, _, _, _, _, _, _, _, _, _, _, _, _, _, _, _, _, _, rfl, rfl⟩
    · simp only [e1, e2, bsome]
      rw [if_neg (show ¬ (1 : Int32) = 0 by decide), if_pos (show (0 : Int32) ≤ 0 by decide), f_hushedM q5.2.2.2.2.2.2.2.2.2.2.2.2 q5.2.2.2.1]
      simp (disch := omega) only [nI_lit_eq, lit_nI_le, bsome]
      by_cases c5 : x < 5
      · rw [if_neg (by omega), if_neg (by omega), if_neg (by omega), if_neg (by omega), f_ofAll q4 q5 (by omega), bsome, if_pos c5]
        simp (disch := omega) only [l_add, inb_t, toN_t, gd_T]
        exact ⟨_, _, _, _, _, _, _, _, _, _, _, _, _, _, _, _, _, _, _, _, _, _, _, _, _, _, rfl, rfl⟩
      · rw [if_pos (show 5 ≤ x by omega)]
        rcases (by omega : x = 5 ∨ x = 6 ∨ x = 7 ∨ x = 8) with rfl | rfl | rfl | rfl
        · rw [if_neg (by decide), if_neg (by decide), if_neg (by decide), f_ofAll q4 q5 (by omega), bsome, if_neg (by decide), if_pos (by decide)]
          exact ⟨_, _, _, _, _, _, _, _, _, _, _, _, _, _, _, _, _, _, _, _, _, _, _, _, _, _, rfl, rfl⟩
        · rw [if_pos (by decide), if_neg (by decide), if_pos (by decide)]
          exact ⟨_, _, _, _, _, _, _, _, _, _, _, _, _, _, _, _, _, _, _, _, _, _, _, _, _, _, rfl, rfl⟩
        · rw [if_neg (by decide), if_pos (by decide), if_neg (by decide), if_neg (by decide), if_pos (by decide)]
          exact ⟨_, _, _, _, _, _, _, _, _, _, _, _, _, _, _, _, _, _, _, _, _, _, _, _, _, _, rfl, rfl⟩
        · rw [if_neg (by decide), if_neg (by decide), if_pos (by decide), if_neg (by decide), if_neg (by decide), if_neg (by decide)]
          exact ⟨_, _, _, _, _, _, _, _, _, _, _, _, _, _, _, _, _, _, _, _, _, _, _, _, _, _, rfl, rfl⟩
  · simp only [h1, not_false_eq_true, if_true]
    exact ⟨_, _, _, _, _, _, _, _, _, _, _, _, _, _, _, _, _, _, _, _, _, _, _, _, _, _, rfl, rfl⟩
theorem f_doneL (pm : Nat → Int32) (a0 a1 a2 a3 a4 a5 a6 : Int32) (B N : Nat → Int32) : fX12_done_L12 pm zF a0 a1 a2 a3 a4 a5 a6 B N 0 = some (a6, 0, a1, a2, a3, a4, a5, a6, cp N B 56, N) := by
  have L : ∀ n i, i ≤ 56 → 56 - i < n → fX12_done_L12 pm n a0 a1 a2 a3 a4 a5 a6 (cp N B i) N (nI i) = some (a6, 0, a1, a2, a3, a4, a5, a6, cp N B 56, N) := by
    intro n
    induction n with
    | zero => intro i _ h2; omega
    | succ n ih =>
      intro i hi hn
      rw [fX12_done_L12]
      by_cases h6 : i = 56
      · subst h6; rw [if_pos (by decide)]
      · simp (disch := omega) only [lit_nI_le, inb_t, toN_t, gd_T, a_lit, cp_s]
        rw [if_neg (by omega)]
        exact ih (i + 1) (by omega) (by omega)
  have e : cp N B 0 = B := by funext j; unfold cp; simp
  have := L zF 0 (by omega) (by decide)
  rw [e] at this
  exact this
set_option maxHeartbeats 4000000 in
theorem op_done {ce ho ow hd li go lk : Nat → Int32} {wc wy wf hr dy : Int32} {B : Nat → Int32} (hT : TR ce ho ow hd li go lk wc wy wf hr dy B) (hB : BI B) {sz sg : Int32} {pc pm : Nat → Int32} (hP : PR sz sg pc pm) (acts bad rea los fac flo thr tdy twc twy twf : Int32) (tce tho tow thd tli tgo tlk N : Nat → Int32) (o1 o2 o3 o4 o5 o6 : Int32) :
    ∃ (r sz' s1 s2 s3 s4 s5 s6 s7 s8 : Int32) (hr' dy' : Int32) (s9 s10 s11 : Int32) (wc' wy' wf' : Int32) (ce' s12 ho' s13 ow' s14 hd' s15 li' s16 go' s17 lk' s18 : Nat → Int32) (sg' p1 p2 p3 p4 p5 p6 : Int32) (B' N' : Nat → Int32), fX11_done sz pc acts bad rea los fac flo thr tdy hr dy twc twy twf wc wy wf ce tce ho tho ow tow hd thd li tli go tgo lk tlk = some (r, sz', s1, s2, s3, s4, s5, s6, s7, s8, hr', dy', s9, s10, s11, wc', wy', wf', ce', s12, ho', s13, ow', s14, hd', s15, li', s16, go', s17, lk', s18) ∧ fX12_done sg o1 o2 o3 o4 o5 o6 pm B N = some (r, sg', p1, p2, p3, p4, p5, p6, B', N') ∧ TR ce' ho' ow' hd' li' go' lk' wc' wy' wf' hr' dy' B' ∧ BI B' ∧ PR sz' sg' pc pm := by
  unfold fX11_done fX12_done
  rcases text_of hT hB hP acts bad rea los fac flo thr tdy twc twy twf tce tho tow thd tli tgo tlk N o1 o2 o3 o4 o5 o6 with ⟨s1, s2, s3, s4, s5, s6, s7, s8, s9, s10, s11, s12, s13, s14, s15, s16, s17, s18, p1, p2, p3, p4, p5, p6, N1, e1, e2⟩ | ⟨k', ls', fa', fl', lo', rs', hr', dy', wc', wy', wf', ce', ho', ow', hd', li', go', lk', N1, q1, e1, e2, q4, q5⟩
  · simp only [e1, e2, bsome]
    rw [if_pos (by decide), if_neg (by decide)]
    exact ⟨_, _, _, _, _, _, _, _, _, _, _, _, _, _, _, _, _, _, _, _, _, _, _, _, _, _, _, _, _, _, _, _, _, _, _, _, _, _, _, _, _, rfl, rfl, hT, hB, hP⟩
  · simp only [e1, e2, bsome]
    rw [if_neg (by decide), if_pos (by decide), f_doneL]
    unfold fX8_become fX10_become fX10_put fX3_clear
    simp only [bsome]
    refine ⟨_, _, _, _, _, _, _, _, _, _, _, _, _, _, _, _, _, _, _, _, _, _, _, _, _, _, _, _, _, _, _, _, _, _, _, _, _, _, _, _, _, rfl, rfl, TR_co cp_low (TR_cpy q4), BI_co cp_low q5, rfl, 0, by omega, rfl, fun i hi => absurd hi (by omega)⟩
