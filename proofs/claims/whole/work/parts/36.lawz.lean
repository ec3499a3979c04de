def R_law : String := "ToupeeWindLaw"
def lw_P (b : Addr) (xs : List Int32) (args : Array Value) (s : State) : Prop := args = #[.ref b] ∧ s.IntsAt b xs ∧ xs.length ≤ 3072 ∧ (Jvm.Cond.and given_1 narrow_1).before args s = true
/-- all that the proof asks of the claim's room, whatever its numbers are -/
theorem lw_cells : 10000 ≤ room_1.cells := Nat.le_of_ble_eq_true rfl
theorem lw_slots : 60000 ≤ room_1.slots := Nat.le_of_ble_eq_true rfl
def lw_Q (_ : Array Value) (s : State) (o : Outcome) (t : State) : Prop := o = .returned (some (.int 1)) ∧ Framed s o t [] room_1.cells room_1.slots
def lw_Z (below : List Frame) (a : Array Value) (s : State) : State → Prop := fun t => ∃ o, t.status = .running ∧ Ended t below o ∧ lw_Q a s o t
/-- the law's own end, with 1 on the stack, nothing written that was there before, its room as the claim has it -/
theorem lw_ret {p : Program} {l : Launch} {e : Env} {s : State} {m : MethodId} {below : List Frame} {meth : Method} {c : Code} {b : Nat} (hx : p.tables.exec = Jvm.exec) (hb : c.code = code) (hr : meth.sig.returnType = ret) (hlocks : meth.locks = false) {pc : Nat} {H : Heap} {ls : Array Slot} (hdg : decode code pc = .ok (.ireturn, 1)) : W p l e room_1 s m #[Value.ref b] below meth c H [] room_1.cells room_1.slots (lw_Z below #[Value.ref b] s) (F0 m pc ls [.int 1]) := by
  intro T hT X
  obtain ⟨fs, hret, hrun, hended, hW, hframe⟩ := X.leave (v := some (.int 1)) (hlocks := hlocks) (fun h => by rw [hr] at h; cases h)
  have hmeth' : T.vm.method? m = some meth := X.method'
  refine ⟨T.setFrames fs, ?_, .returned (some (.int 1)), hrun, hended, rfl, ⟨_, rfl⟩, hW, hframe⟩
  jvm_step X.here [X.here.top, hx, hb, hdg, hmeth', hr, ret, narrow_b1]
  (try refine ⟨rfl, ?_⟩); (try refine ⟨rfl, ?_⟩)
  first | (intro acts; rw [hret _ acts rfl rfl rfl]) | rw [hret _ _ rfl rfl rfl]
  exact Steps.refl _
/-- what holds at the law's entry: the machine, the code, the tables' words (any of lw_tbl by 'hts w (by decide +kernel)'), the script of L ints xs at the cell b, what the Statement gives of the start (any of its parts by flat_of_before) -/
def lw_At (p : Program) (s : State) (m : MethodId) (meth : Method) (c : Code) (b L : Nat) (xs : Nat → Int32) : Prop :=
  p.tables.exec = Jvm.exec ∧ c.code = code ∧ meth.sig.returnType = ret ∧ c.maxLocals = 4 ∧ s.vm.findClass R_law = some m.cls ∧ (∀ w ∈ lw_tbl, w.before #[Value.ref b] s = true) ∧ va_X b L xs s s.heap ∧ b < s.heap.size ∧ meth.locks = false ∧ (Jvm.Cond.and given_1 narrow_1).before #[Value.ref b] s = true
/-! the law's own machine: Z with the script's rows and the end -/
theorem pm_range {α : Type} (w : List α) : (List.range w.length).map (fun i => w[i]?) = w.map some := by
  apply List.ext_getElem?
  intro i
  rw [List.getElem?_map, List.getElem?_map]
  by_cases h : i < w.length
  · rw [List.getElem?_range h, List.getElem?_eq_getElem h]
    simp [h]
  · rw [List.getElem?_eq_none (by simpa using h), List.getElem?_eq_none (by omega)]
    rfl
theorem pm_fm {α : Type} (w : List α) : (w.map some).filterMap id = w := by
  induction w with
  | nil => rfl
  | cons a w ih => rw [List.map_cons, List.filterMap_cons]; simp only [id]; rw [ih]
theorem pm_of {w w2 : va_W} (is : List Nat) (h : is.map (fun i => w[i]?) = w2.map some) (hp : is.Perm (List.range w.length)) : w.Perm w2 := by
  have h1 := hp.map (fun i => w[i]?)
  rw [h, pm_range] at h1
  have h2 := h1.filterMap id
  rw [pm_fm, pm_fm] at h2
  exact h2.symm
theorem pm_P {D : va_G} {cl : List vw_C} {w w2 : va_W} {H : Heap} (hp : w.Perm w2) (h : va_P D cl w H) : va_P D cl w2 H := by
  intro k q hk
  have hm : q ∈ w := hp.mem_iff.mpr (List.mem_of_getElem? hk)
  obtain ⟨i, hi⟩ := List.getElem?_of_mem hm
  exact h i q hi
theorem pm_nd {A : Nat → Prop} {w : va_W} : va_D A w ↔ (w.map (fun q => q.1)).Nodup ∧ ∀ q ∈ w, A q.1 := by
  constructor
  · intro h
    refine ⟨?_, fun q hq => ?_⟩
    · refine List.pairwise_iff_getElem.mpr fun i j hi hj hij e => ?_
      rw [List.length_map] at hi hj
      rw [List.getElem_map, List.getElem_map] at e
      have := h.1 i j _ _ (List.getElem?_eq_getElem hi) (List.getElem?_eq_getElem hj) e
      omega
    · obtain ⟨i, hi⟩ := List.getElem?_of_mem hq
      exact h.2 i q hi
  · rintro ⟨h1, h2⟩
    refine ⟨fun i j p q hi hj e => ?_, fun k q hk => h2 q (List.mem_of_getElem? hk)⟩
    have h3 := List.pairwise_iff_getElem.mp h1
    obtain ⟨l1, e1⟩ := List.getElem?_eq_some_iff.mp hi
    obtain ⟨l2, e2⟩ := List.getElem?_eq_some_iff.mp hj
    have m1 : i < (w.map (fun q => q.1)).length := by rw [List.length_map]; exact l1
    have m2 : j < (w.map (fun q => q.1)).length := by rw [List.length_map]; exact l2
    have g1 : (w.map (fun q => q.1))[i] = p.1 := by rw [List.getElem_map, e1]
    have g2 : (w.map (fun q => q.1))[j] = q.1 := by rw [List.getElem_map, e2]
    rcases Nat.lt_trichotomy i j with h | h | h
    · exact absurd (g1.trans (e.trans g2.symm)) (h3 i j m1 m2 h)
    · exact h
    · exact absurd (g2.trans (e.symm.trans g1.symm)) (h3 j i m2 m1 h)
theorem pm_D {A : Nat → Prop} {w w2 : va_W} (hp : w.Perm w2) (h : va_D A w) : va_D A w2 := by
  rw [pm_nd] at h ⊢
  exact ⟨(hp.map (fun q => q.1)).nodup_iff.mp h.1, fun q hq => h.2 q (hp.mem_iff.mpr hq)⟩
theorem pm_ndr : ∀ (c a : Nat), va_nd ((List.range c).map (fun i => a + i)) = true := by
  have key : ∀ l : List Nat, l.Nodup → va_nd l = true := by
    intro l
    induction l with
    | nil => intro _; rfl
    | cons x l ih =>
      intro h
      rw [List.nodup_cons] at h
      simp only [va_nd, Bool.and_eq_true, decide_eq_true_eq]
      exact ⟨h.1, ih h.2⟩
  intro c a
  refine key _ (List.Pairwise.map _ (fun x y (h : x ≠ y) => ?_) List.nodup_range)
  omega
section LAWZ
variable {l : Launch} {cc : ByteArray} {nL : Nat} {Ts : List Cond} {own : String} {R : Room} {G : zG} {ini : Bool} {Z : zT}
variable {k n : Nat} {w : va_W} {lv : List (Nat × Value)} {pc pc2 : Nat} {st : List Value}
theorem z_pm (h : zR l cc nL Ts own R G ini Z) {w2 : va_W} (hp : w.Perm w2) (kk : Z k n w2 lv pc st) : Z k n w lv pc st := by
  obtain ⟨p, e, s, m, args, below, meth, c, A, Q, ⟨hx, hb, hml, hown, hts⟩, hK, hA, hini, rfl⟩ := h
  intro H locs hP hD hS ls hl
  exact kk H locs (pm_P hp hP) (pm_D hp hD) hS ls hl
/-- a call, the callee's cells ahead, the rest behind -/
theorem z_cp (h : zR l cc nL Ts own R G ini Z) {y : MethodName} {bytes : ByteArray} {maxL np idx : Nat} {ret : Option FieldType} {wd wd' : List Cond} {rm : Room} {wc wr : va_W} {RtC : Option Value → va_W → Prop} {b ci : Nat} {C : String} {T : u_T} {N : Nat} {fs : List Value} (As : List Value) (hM : zCt l y wd rm G wc (.ref b :: As) RtC) (g : GoodIn Ts (wsV own idx C y wd)) (hdy : y.cls = C ∧ y.cls ≠ "java/lang/invoke/MethodHandle" ∧ y.cls ≠ "java/lang/invoke/VarHandle" ∧ (parseMethodDescriptor y.desc).map (fun d => d.parameters.length) = some np) (q0 : Nat) (hq : wc[q0]? = some (b, .inr (ci, fs))) (hci : vwCl[ci]? = some (C, T, N)) {k2 n2 : Nat} (hw : wd = Cond.code y bytes maxL ret :: wd') (hR : rm.frames + 1 ≤ R.frames ∧ 8 + (maxL + 11) + rm.locals ≤ R.locals) (hcs : k + rm.cells ≤ R.cells ∧ n + rm.slots ≤ R.slots) (hk2 : k + rm.cells = k2) (hn3 : n + rm.slots = n2) (hn2 : As.length = np) (hpm : w.Perm (wc ++ wr)) (hsum : (st.map fun v => v.category).sum ≤ 8) (hd : decode cc pc = .ok (.invokevirtual idx, 3)) {st0 : List Value} (hst0 : st0 = As.reverse ++ .ref b :: st) (hp : pc + 3 = pc2) (kk : ∀ (v : Option Value) (w1 : va_W), RtC v w1 → Z k2 n2 (w1 ++ wr) lv pc2 (v.toList ++ st)) : Z k n w lv pc st0 := by
  refine z_pm h hpm ?_
  refine z_callV (wr := wr) h As hM g hdy q0 hq hci hw hR hcs hk2 hn3 hn2 ((List.range wc.length).map (fun i => 0 + i)) ((List.range wr.length).map (fun i => wc.length + i)) ?_ ?_ (pm_ndr _ _) (pm_ndr _ _) ?_ hsum hd hst0 hp (fun v w1 hv => z_pm h List.perm_append_comm (kk v w1 hv))
  · rw [← pm_range wc, List.map_map]
    apply List.map_congr_left
    intro i hi
    have hi := List.mem_range.mp hi
    simp only [Function.comp, Nat.zero_add]
    rw [List.getElem?_append_left hi]
  · rw [← pm_range wr, List.map_map]
    apply List.map_congr_left
    intro i hi
    simp only [Function.comp]
    rw [List.getElem?_append_right (Nat.le_add_right _ _), Nat.add_sub_cancel_left]
  · intro i hi hj
    obtain ⟨x, hx, rfl⟩ := List.mem_map.mp hi
    obtain ⟨z, hz, e⟩ := List.mem_map.mp hj
    have hz := List.mem_range.mp hz
    omega
/-- a call that makes nothing: of base the places isC go in and come back changed; tl is not seen -/
theorem z_op (h : zR l cc nL Ts own R G ini Z) {y : MethodName} {bytes : ByteArray} {maxL np idx : Nat} {ret : Option FieldType} {wd wd' : List Cond} {rm : Room} {wc w1 wr base base2 tl : va_W} {b ci : Nat} {C : String} {T : u_T} {N : Nat} {fs : List Value} {r : Value} (As : List Value) (hM : zCt l y wd rm G wc (.ref b :: As) (fun v w => v = some r ∧ w = w1)) (g : GoodIn Ts (wsV own idx C y wd)) (hdy : y.cls = C ∧ y.cls ≠ "java/lang/invoke/MethodHandle" ∧ y.cls ≠ "java/lang/invoke/VarHandle" ∧ (parseMethodDescriptor y.desc).map (fun d => d.parameters.length) = some np) (q0 : Nat) (hq : wc[q0]? = some (b, .inr (ci, fs))) (hci : vwCl[ci]? = some (C, T, N)) (hw : wd = Cond.code y bytes maxL ret :: wd') (hR : rm.frames + 1 ≤ R.frames ∧ 8 + (maxL + 11) + rm.locals ≤ R.locals) (hrm : rm.cells = 0 ∧ rm.slots = 0) (hcs : k ≤ R.cells ∧ n ≤ R.slots) (hn2 : As.length = np) (isC isR : List Nat) (hC : isC.map (fun i => base[i]?) = wc.map some) (hRr : isR.map (fun i => base[i]?) = wr.map some) (hC2 : isC.map (fun i => base2[i]?) = w1.map some) (hR2 : isR.map (fun i => base2[i]?) = wr.map some) (nb : Nat) (hall : (isC ++ isR).Perm (List.range nb)) (hlb : base.length = nb) (hlen : base2.length = nb) (hsum : (st.map fun v => v.category).sum ≤ 8) (hd : decode cc pc = .ok (.invokevirtual idx, 3)) {st0 : List Value} (hst0 : st0 = As.reverse ++ .ref b :: st) (hp : pc + 3 = pc2) (kk : Z k n (base2 ++ tl) lv pc2 (r :: st)) : Z k n (base ++ tl) lv pc st0 := by
  have p1 : base.Perm (wc ++ wr) := pm_of (isC ++ isR) (by rw [List.map_append, List.map_append, hC, hRr]) (by rw [hlb]; exact hall)
  have p2 : base2.Perm (w1 ++ wr) := pm_of (isC ++ isR) (by rw [List.map_append, List.map_append, hC2, hR2]) (by rw [hlen]; exact hall)
  refine z_cp (wr := wr ++ tl) (k2 := k) (n2 := n) h As hM g hdy q0 hq hci hw hR (by rw [hrm.1, hrm.2]; exact hcs) (by rw [hrm.1]; rfl) (by rw [hrm.2]; rfl) hn2 ((p1.append_right tl).trans (by rw [List.append_assoc])) hsum hd hst0 hp (fun v w2 hv => ?_)
  obtain ⟨rfl, rfl⟩ := hv
  refine z_pm h ?_ kk
  rw [← List.append_assoc]
  exact (p2.append_right tl).symm
/-- the same behind pre -/
theorem z_opM (h : zR l cc nL Ts own R G ini Z) {y : MethodName} {bytes : ByteArray} {maxL np idx : Nat} {ret : Option FieldType} {wd wd' : List Cond} {rm : Room} {wc w1 wr base base2 pre tl : va_W} {b ci : Nat} {C : String} {T : u_T} {N : Nat} {fs : List Value} {r : Value} (As : List Value) (hM : zCt l y wd rm G wc (.ref b :: As) (fun v w => v = some r ∧ w = w1)) (g : GoodIn Ts (wsV own idx C y wd)) (hdy : y.cls = C ∧ y.cls ≠ "java/lang/invoke/MethodHandle" ∧ y.cls ≠ "java/lang/invoke/VarHandle" ∧ (parseMethodDescriptor y.desc).map (fun d => d.parameters.length) = some np) (q0 : Nat) (hq : wc[q0]? = some (b, .inr (ci, fs))) (hci : vwCl[ci]? = some (C, T, N)) (hw : wd = Cond.code y bytes maxL ret :: wd') (hR : rm.frames + 1 ≤ R.frames ∧ 8 + (maxL + 11) + rm.locals ≤ R.locals) (hrm : rm.cells = 0 ∧ rm.slots = 0) (hcs : k ≤ R.cells ∧ n ≤ R.slots) (hn2 : As.length = np) (isC isR : List Nat) (hC : isC.map (fun i => base[i]?) = wc.map some) (hRr : isR.map (fun i => base[i]?) = wr.map some) (hC2 : isC.map (fun i => base2[i]?) = w1.map some) (hR2 : isR.map (fun i => base2[i]?) = wr.map some) (nb : Nat) (hall : (isC ++ isR).Perm (List.range nb)) (hlb : base.length = nb) (hlen : base2.length = nb) (hsum : (st.map fun v => v.category).sum ≤ 8) (hd : decode cc pc = .ok (.invokevirtual idx, 3)) {st0 : List Value} (hst0 : st0 = As.reverse ++ .ref b :: st) (hp : pc + 3 = pc2) (kk : Z k n (pre ++ (base2 ++ tl)) lv pc2 (r :: st)) : Z k n (pre ++ (base ++ tl)) lv pc st0 := by
  have q : ∀ b0 : va_W, (pre ++ (b0 ++ tl)).Perm (b0 ++ (pre ++ tl)) := fun b0 => by
    rw [← List.append_assoc, ← List.append_assoc]
    exact List.perm_append_comm.append_right tl
  refine z_pm h (q base) ?_
  exact z_op h As hM g hdy q0 hq hci hw hR hrm hcs hn2 isC isR hC hRr hC2 hR2 nb hall hlb hlen hsum hd hst0 hp (z_pm h (q base2).symm kk)
end LAWZ
/-- the locals of the law in its loop -/
abbrev lvL (sb a0 b0 : Nat) (i : Int32) : List (Nat × Value) := [(3, .int i), (2, .ref b0), (1, .ref a0), (0, .ref sb)]
/-- the law's machine: a script of L ints xs at sb, and the end -/
def zW (l : Launch) (G : zG) (sb L : Nat) (xs : Nat → Int32) (Z : zT) : Prop :=
  zR l cL_law 4 wsL_law RL room_1 G false Z ∧
  (∀ (k n : Nat) (w : va_W) (lv : List (Nat × Value)) (pc : Nat) (st : List Value) (i : Int32), vp_in i L → decode cL_law pc = .ok (.iaload, 1) → Z k n w lv (pc + 1) (.int (xs i.toNatClampNeg) :: st) → Z k n w lv pc (.int i :: .ref sb :: st)) ∧
  (∀ (k n : Nat) (w : va_W) (lv : List (Nat × Value)) (pc : Nat) (st : List Value), decode cL_law pc = .ok (.arraylength, 1) → Z k n w lv (pc + 1) (.int (Int32.ofNat L) :: st) → Z k n w lv pc (.ref sb :: st)) ∧
  (∀ (k n : Nat) (w : va_W) (lv : List (Nat × Value)) (pc : Nat), k ≤ room_1.cells → n ≤ room_1.slots → decode cL_law pc = .ok (.ireturn, 1) → Z k n w lv pc [.int 1])
theorem zw_in {L j c : Nat} (hL : L ≤ 3072) (hj : 6 * j + 6 ≤ L) (hc : c < 6) : nI (6 * j) + nI c = nI (6 * j + c) ∧ vp_in (nI (6 * j + c)) L ∧ (nI (6 * j + c)).toNatClampNeg = 6 * j + c := by
  exact ⟨nI_add _ _, nI_in (by omega) (by omega), toN_t (by omega)⟩
/-- script[i + c] -/
theorem zw_arg {l : Launch} {G : zG} {sb L : Nat} {xs : Nat → Int32} {Z : zT} (hW : zW l G sb L xs Z) (hL : L ≤ 3072) {j : Nat} (hj : 6 * j + 6 ≤ L) (c : Nat) (hc : c < 6) {k n : Nat} {w : va_W} {a0 b0 pc pc2 : Nat} {st : List Value} {ci : Int} (d0 : decode cL_law pc = .ok (.aload_n 0, 1)) (d1 : decode cL_law (pc + 1) = .ok (.iload_n 3, 1)) (d2 : decode cL_law (pc + 2) = .ok (.iconst ci, 1)) (hci : Int32.ofInt ci = nI c) (d3 : decode cL_law (pc + 3) = .ok (.iadd, 1)) (d4 : decode cL_law (pc + 4) = .ok (.iaload, 1)) (hp : pc + 5 = pc2) (kk : Z k n w (lvL sb a0 b0 (nI (6 * j))) pc2 (.int (xs (6 * j + c)) :: st)) : Z k n w (lvL sb a0 b0 (nI (6 * j))) pc st := by
  subst hp
  obtain ⟨e1, e2, e3⟩ := zw_in hL hj hc
  refine z_aload_n hW.1 d0 3 rfl rfl ?_
  refine z_iload_n hW.1 d1 0 rfl rfl ?_
  refine z_iconst hW.1 d2 hci rfl ?_
  refine z_iadd hW.1 d3 rfl ?_
  rw [e1]
  refine hW.2.1 k n w _ _ _ _ e2 d4 ?_
  rw [e3]
  exact kk
/-- script[i + 5] != 0 -/
theorem zw_bool {l : Launch} {G : zG} {sb L : Nat} {xs : Nat → Int32} {Z : zT} (hW : zW l G sb L xs Z) (hL : L ≤ 3072) {j : Nat} (hj : 6 * j + 6 ≤ L) (c : Nat) (hc : c < 6) {k n : Nat} {w : va_W} {a0 b0 pc pc2 : Nat} {st : List Value} {ci : Int} (d0 : decode cL_law pc = .ok (.aload_n 0, 1)) (d1 : decode cL_law (pc + 1) = .ok (.iload_n 3, 1)) (d2 : decode cL_law (pc + 2) = .ok (.iconst ci, 1)) (hci : Int32.ofInt ci = nI c) (d3 : decode cL_law (pc + 3) = .ok (.iadd, 1)) (d4 : decode cL_law (pc + 4) = .ok (.iaload, 1)) (d5 : decode cL_law (pc + 5) = .ok (.ifCond .eq 7, 3)) (d6 : decode cL_law (pc + 8) = .ok (.iconst 1, 1)) (d7 : decode cL_law (pc + 9) = .ok (.goto 4, 3)) (d8 : decode cL_law (pc + 12) = .ok (.iconst 0, 1)) (hp : pc + 13 = pc2) (kk : Z k n w (lvL sb a0 b0 (nI (6 * j))) pc2 (.int (bB (!decide (xs (6 * j + c) = 0))) :: st)) : Z k n w (lvL sb a0 b0 (nI (6 * j))) pc st := by
  subst hp
  refine zw_arg hW hL hj c hc d0 d1 d2 hci d3 d4 rfl ?_
  refine z_if_eq (tgt := pc + 12) hW.1 d5 (by omega) rfl (fun h => ?_) (fun h => ?_)
  · refine z_iconst (v := 0) hW.1 d8 rfl rfl ?_
    rw [h] at kk
    exact kk
  · refine z_iconst (v := 1) hW.1 d6 rfl rfl ?_
    refine z_goto (tgt := pc + 13) hW.1 d7 (by omega) ?_
    rw [decide_eq_false h] at kk
    exact kk
theorem pmA {a b c d : va_W} : (a ++ (b ++ (c ++ d))).Perm ((a ++ c) ++ (b ++ d)) := by
  rw [List.append_assoc]
  refine List.Perm.append_left a ?_
  rw [← List.append_assoc, ← List.append_assoc]
  exact List.perm_append_comm.append_right d
theorem pmB {a b c d : va_W} : (a ++ (b ++ (d ++ c))).Perm ((a ++ c) ++ (b ++ d)) :=
  (List.Perm.append_left a (List.Perm.append_left b List.perm_append_comm)).trans pmA
