/-! the abstract machine: a walk is a derivation of Z, over worlds as lists of cells; nothing of the machine itself is seen above this part -/
abbrev zG : Type := va_G × ClassId × ClassId × ClassId
abbrev zTy (G : zG) : List (ClassId × FieldType) := [(G.2.1, .int), (G.2.2.1, .boolean), (G.2.2.2, .object "ToupeeWind$Image")]
def zNest : List (String × Nat × MethodName) := [(RX8, 11, yX10_init), (RX11, 18, yX3_init), (RX11, 25, yX7_init), (RX11, 38, yX9_init), (RX11, 45, yX4_init), (RX11, 52, yX6_init), (RX11, 59, yX5_init), (RX11, 66, yX2_init), (RX11, 73, yX0_init), (RX0, 11, yX10_init), (RX11, 80, yX10_init), (RX8, 61, yX11_code), (RX3, 31, yX11_isWalker), (RX3, 34, yX11_within), (RX8, 77, yX11_has), (RX9, 107, yX11_has), (RX4, 36, yX11_has), (RX6, 44, yX11_has), (RX5, 38, yX11_code), (RX7, 33, yX11_code), (RX2, 32, yX11_has), (RX0, 45, yX11_has), (RX11, 295, yX1_init), (RX1, 18, yX7_init)]
def zK (G : zG) (U : State) : Prop := va_K G.1 vwCl (zTy G) U ∧ (∀ q ∈ zNest, va_Nw (.methodLinkNest q.1 q.2.1 q.2.2 "ToupeeWind") U) ∧ va_AO "ToupeeWind$Image" U
theorem zK.warm {G : zG} {s U : State} (hW : s.WarmedH U.vm) (h : zK G s) : zK G U := ⟨va_K.moved hW.alike h.1, fun q hq => va_Nw.warmM hW (h.2.1 q hq), va_AO.moved hW.alike h.2.2⟩
theorem zK.same {G : zG} {s U : State} (hv : s.vm = U.vm) (h : zK G s) : zK G U := ⟨va_K.moved (hv ▸ Vm.Alike.refl s.vm) h.1, fun q hq => va_Nw.same rfl hv (h.2.1 q hq), va_AO.moved (hv ▸ Vm.Alike.refl s.vm) h.2.2⟩
/-- the end of a method: its answer and its world, as Rt says -/
def zQ (G : zG) (Rt : Option Value → va_W → Prop) (A : Nat → Prop) : Array Value → State → Outcome → State → Prop := fun _ st oc t => (∃ (v : Option Value) (w : va_W), oc = .returned v ∧ Rt v w ∧ va_P G.1 vwCl w t.heap ∧ va_D A w) ∧ va_F A st t
def zPre (G : zG) (w : va_W) (sz : Nat) (av : List Value) : Array Value → State → Prop := va_Pc av (fun U => U.heap.size = sz ∧ va_P G.1 vwCl w U.heap ∧ zK G U ∧ va_D (fun _ => True) w)
theorem zPre.blind {G : zG} {w : va_W} {sz : Nat} {av : List Value} : FrameBlind (zPre G w sz av) := fun a U g mk q => by
  obtain ⟨q0, q1, qP, qK, qD⟩ := q
  exact ⟨q0, q1, qP, zK.same (U := U.calling g mk a) rfl qK, qD⟩
/-- a contract: in the world w, with the arguments av, the method returns as Rt says -/
def zCt (l : Launch) (y : MethodName) (wd : List Cond) (rm : Room) (G : zG) (w : va_W) (av : List Value) (Rt : Option Value → va_W → Prop) : Prop :=
  ∀ sz : Nat, Met l y wd rm (zPre G w sz av) (zQ G Rt (va_A w sz)) rm.cells rm.slots (va_A w sz)
abbrev zT : Type := Nat → Nat → va_W → List (Nat × Value) → Nat → List Value → Prop
def zAt (p : Program) (l : Launch) (e : Env) (R : Room) (s : State) (m : MethodId) (args : Array Value) (below : List Frame) (meth : Method) (c : Code) (A : Nat → Prop) (Q : State → Prop) (G : zG) (nL : Nat) : zT := fun k n w lv pc st =>
  ∀ (H : Heap) (locs : List Loc), va_P G.1 vwCl w H → va_D A w → va_S A s.heap H locs → ∀ ls : Array Slot, lv_has ls nL lv → W p l e R s m args below meth c H locs k n Q (F0 m pc ls st)
/-- Z is the machine in some method's body -/
def zR (l : Launch) (cc : ByteArray) (nL : Nat) (Ts : List Cond) (own : String) (R : Room) (G : zG) (ini : Bool) (Z : zT) : Prop :=
  ∃ (p : Program) (e : Env) (s : State) (m : MethodId) (args : Array Value) (below : List Frame) (meth : Method) (c : Code) (A : Nat → Prop) (Q : State → Prop),
    CallFix p m c cc nL s args Ts own ∧ zK G s ∧ (∀ q, s.heap.size ≤ q → A q) ∧ (ini = true → meth.name = "<init>") ∧ Z = zAt p l e R s m args below meth c A Q G nL
def zRetI (cc : ByteArray) (Z : zT) (Rt : Option Value → va_W → Prop) (R : Room) : Prop := ∀ (w : va_W) (lv : List (Nat × Value)) (pc : Nat) (v : Int32), decode cc pc = .ok (.ireturn, 1) → Rt (some (.int v)) w → Z R.cells R.slots w lv pc [.int v]
def zRetB (cc : ByteArray) (Z : zT) (Rt : Option Value → va_W → Prop) (R : Room) : Prop := ∀ (w : va_W) (lv : List (Nat × Value)) (pc : Nat) (v : Int32), decode cc pc = .ok (.ireturn, 1) → (v == 0 || v == 1) = true → Rt (some (.int v)) w → Z R.cells R.slots w lv pc [.int v]
def zRetL (cc : ByteArray) (Z : zT) (Rt : Option Value → va_W → Prop) (R : Room) : Prop := ∀ (w : va_W) (lv : List (Nat × Value)) (pc : Nat) (v : Int64), decode cc pc = .ok (.lreturn, 1) → Rt (some (.long v)) w → Z R.cells R.slots w lv pc [.long v]
def zRetV (cc : ByteArray) (Z : zT) (Rt : Option Value → va_W → Prop) (R : Room) : Prop := ∀ (w : va_W) (lv : List (Nat × Value)) (pc : Nat), decode cc pc = .ok (.return_, 1) → Rt none w → Z R.cells R.slots w lv pc []
theorem zS.F {A : Nat → Prop} {s t : State} {H : Heap} {locs : List Loc} (hS : va_S A s.heap H locs) (ht : t.heap = H) : va_F A s t := hS.F ht
theorem z_nar {v : Int32} (h : (v == 0 || v == 1) = true) : narrow .boolean (.int v) = .int v := by
  rcases (by simpa using h : v = 0 ∨ v = 1) with rfl | rfl <;> rfl
theorem zMkI {l : Launch} {y : MethodName} {wd wd' : List Cond} {rm : Room} {G : zG} {w : va_W} {av : List Value} {Rt : Option Value → va_W → Prop} {cc : ByteArray} {maxL : Nat} {own : String} (ini : Bool) (hini : ini = true → y.name = "<init>") (hy : plainName y.cls = true) (ho : y.cls = own) (hw : wd = Cond.code y cc maxL (some .int) :: wd') (hav : (lg_sl av).length ≤ maxL)
    (body : ∀ Z : zT, zR l cc maxL wd own rm G ini Z → zRetI cc Z Rt rm → Z 0 0 w (lv_args 0 av) 0 []) : zCt l y wd rm G w av Rt := by
  subst ho
  intro sz
  refine Met.ofW (cc := cc) (maxL := maxL) (ret := (some .int)) hy hw ?_
  intro p e s m args below meth c s₁ B hml hv
  obtain ⟨rfl, hsz, hP, hK, hD0⟩ := hv
  have hx := B.exec
  have hb := B.bytes
  have hr := B.returns
  have hts := atoms_spec (ws := wd) B.pre
  have hown : s.vm.findClass y.cls = some m.cls := findClass_of_methodNamed B.named
  have hlocks := B.notSynchronized
  have hin : ini = true → meth.name = "<init>" := fun h => by rw [(name_of_methodNamed B.named B.method).1]; exact hini h
  subst hsz
  have hD := hD0.self (sz := s.heap.size)
  have hA : ∀ q : Nat, s.heap.size ≤ q → va_A w s.heap.size q := fun q h => Or.inr h
  have hS : va_S (va_A w s.heap.size) s.heap s.heap [] := va_S.rf
  have hl := lv_entry av (n := maxL) hav
  rw [lg_entry_eq]
  refine body (zAt p l e rm s m av.toArray below meth c (va_A w s.heap.size) (MQ below (zQ G Rt (va_A w s.heap.size)) av.toArray s rm.cells rm.slots (va_A w s.heap.size)) G maxL) ⟨p, e, s, m, av.toArray, below, meth, c, va_A w s.heap.size, _, ⟨hx, hb, hml, hown, hts⟩, hK, hA, hin, rfl⟩ ?_ s.heap [] hP hD hS _ hl
  intro w2 lv pc v hdg hR H locs hP hD hS ls hl
  exact W.iret (v := v) hx hb hr (fun t ht hW => ⟨⟨_, w2, rfl, hR, by rw [ht]; exact hP, hD⟩, hS.F ht⟩) hS.2.2 hdg
theorem zMkB {l : Launch} {y : MethodName} {wd wd' : List Cond} {rm : Room} {G : zG} {w : va_W} {av : List Value} {Rt : Option Value → va_W → Prop} {cc : ByteArray} {maxL : Nat} {own : String} (ini : Bool) (hini : ini = true → y.name = "<init>") (hy : plainName y.cls = true) (ho : y.cls = own) (hw : wd = Cond.code y cc maxL (some .boolean) :: wd') (hav : (lg_sl av).length ≤ maxL)
    (body : ∀ Z : zT, zR l cc maxL wd own rm G ini Z → zRetB cc Z Rt rm → Z 0 0 w (lv_args 0 av) 0 []) : zCt l y wd rm G w av Rt := by
  subst ho
  intro sz
  refine Met.ofW (cc := cc) (maxL := maxL) (ret := (some .boolean)) hy hw ?_
  intro p e s m args below meth c s₁ B hml hv
  obtain ⟨rfl, hsz, hP, hK, hD0⟩ := hv
  have hx := B.exec
  have hb := B.bytes
  have hr := B.returns
  have hts := atoms_spec (ws := wd) B.pre
  have hown : s.vm.findClass y.cls = some m.cls := findClass_of_methodNamed B.named
  have hlocks := B.notSynchronized
  have hin : ini = true → meth.name = "<init>" := fun h => by rw [(name_of_methodNamed B.named B.method).1]; exact hini h
  subst hsz
  have hD := hD0.self (sz := s.heap.size)
  have hA : ∀ q : Nat, s.heap.size ≤ q → va_A w s.heap.size q := fun q h => Or.inr h
  have hS : va_S (va_A w s.heap.size) s.heap s.heap [] := va_S.rf
  have hl := lv_entry av (n := maxL) hav
  rw [lg_entry_eq]
  refine body (zAt p l e rm s m av.toArray below meth c (va_A w s.heap.size) (MQ below (zQ G Rt (va_A w s.heap.size)) av.toArray s rm.cells rm.slots (va_A w s.heap.size)) G maxL) ⟨p, e, s, m, av.toArray, below, meth, c, va_A w s.heap.size, _, ⟨hx, hb, hml, hown, hts⟩, hK, hA, hin, rfl⟩ ?_ s.heap [] hP hD hS _ hl
  intro w2 lv pc v hdg hbo hR H locs hP hD hS ls hl
  exact W.zret (v := v) hx hb hr (z_nar hbo) (fun t ht hW => ⟨⟨_, w2, rfl, hR, by rw [ht]; exact hP, hD⟩, hS.F ht⟩) hS.2.2 hdg
theorem zMkL {l : Launch} {y : MethodName} {wd wd' : List Cond} {rm : Room} {G : zG} {w : va_W} {av : List Value} {Rt : Option Value → va_W → Prop} {cc : ByteArray} {maxL : Nat} {own : String} (ini : Bool) (hini : ini = true → y.name = "<init>") (hy : plainName y.cls = true) (ho : y.cls = own) (hw : wd = Cond.code y cc maxL (some .long) :: wd') (hav : (lg_sl av).length ≤ maxL)
    (body : ∀ Z : zT, zR l cc maxL wd own rm G ini Z → zRetL cc Z Rt rm → Z 0 0 w (lv_args 0 av) 0 []) : zCt l y wd rm G w av Rt := by
  subst ho
  intro sz
  refine Met.ofW (cc := cc) (maxL := maxL) (ret := (some .long)) hy hw ?_
  intro p e s m args below meth c s₁ B hml hv
  obtain ⟨rfl, hsz, hP, hK, hD0⟩ := hv
  have hx := B.exec
  have hb := B.bytes
  have hr := B.returns
  have hts := atoms_spec (ws := wd) B.pre
  have hown : s.vm.findClass y.cls = some m.cls := findClass_of_methodNamed B.named
  have hlocks := B.notSynchronized
  have hin : ini = true → meth.name = "<init>" := fun h => by rw [(name_of_methodNamed B.named B.method).1]; exact hini h
  subst hsz
  have hD := hD0.self (sz := s.heap.size)
  have hA : ∀ q : Nat, s.heap.size ≤ q → va_A w s.heap.size q := fun q h => Or.inr h
  have hS : va_S (va_A w s.heap.size) s.heap s.heap [] := va_S.rf
  have hl := lv_entry av (n := maxL) hav
  rw [lg_entry_eq]
  refine body (zAt p l e rm s m av.toArray below meth c (va_A w s.heap.size) (MQ below (zQ G Rt (va_A w s.heap.size)) av.toArray s rm.cells rm.slots (va_A w s.heap.size)) G maxL) ⟨p, e, s, m, av.toArray, below, meth, c, va_A w s.heap.size, _, ⟨hx, hb, hml, hown, hts⟩, hK, hA, hin, rfl⟩ ?_ s.heap [] hP hD hS _ hl
  intro w2 lv pc v hdg hR H locs hP hD hS ls hl
  exact W.lret (v := v) hx hb hr (fun t ht hW => ⟨⟨_, w2, rfl, hR, by rw [ht]; exact hP, hD⟩, hS.F ht⟩) hS.2.2 hdg
theorem zMkV {l : Launch} {y : MethodName} {wd wd' : List Cond} {rm : Room} {G : zG} {w : va_W} {av : List Value} {Rt : Option Value → va_W → Prop} {cc : ByteArray} {maxL : Nat} {own : String} (ini : Bool) (hini : ini = true → y.name = "<init>") (hy : plainName y.cls = true) (ho : y.cls = own) (hw : wd = Cond.code y cc maxL none :: wd') (hav : (lg_sl av).length ≤ maxL)
    (body : ∀ Z : zT, zR l cc maxL wd own rm G ini Z → zRetV cc Z Rt rm → Z 0 0 w (lv_args 0 av) 0 []) : zCt l y wd rm G w av Rt := by
  subst ho
  intro sz
  refine Met.ofW (cc := cc) (maxL := maxL) (ret := none) hy hw ?_
  intro p e s m args below meth c s₁ B hml hv
  obtain ⟨rfl, hsz, hP, hK, hD0⟩ := hv
  have hx := B.exec
  have hb := B.bytes
  have hr := B.returns
  have hts := atoms_spec (ws := wd) B.pre
  have hown : s.vm.findClass y.cls = some m.cls := findClass_of_methodNamed B.named
  have hlocks := B.notSynchronized
  have hin : ini = true → meth.name = "<init>" := fun h => by rw [(name_of_methodNamed B.named B.method).1]; exact hini h
  subst hsz
  have hD := hD0.self (sz := s.heap.size)
  have hA : ∀ q : Nat, s.heap.size ≤ q → va_A w s.heap.size q := fun q h => Or.inr h
  have hS : va_S (va_A w s.heap.size) s.heap s.heap [] := va_S.rf
  have hl := lv_entry av (n := maxL) hav
  rw [lg_entry_eq]
  refine body (zAt p l e rm s m av.toArray below meth c (va_A w s.heap.size) (MQ below (zQ G Rt (va_A w s.heap.size)) av.toArray s rm.cells rm.slots (va_A w s.heap.size)) G maxL) ⟨p, e, s, m, av.toArray, below, meth, c, va_A w s.heap.size, _, ⟨hx, hb, hml, hown, hts⟩, hK, hA, hin, rfl⟩ ?_ s.heap [] hP hD hS _ hl
  intro w2 lv pc hdg hR H locs hP hD hS ls hl
  exact W.vret hx hb hr (fun t ht hW => ⟨⟨_, w2, rfl, hR, by rw [ht]; exact hP, hD⟩, hS.F ht⟩) hS.2.2 hdg
def irm (x y : Int32) : Int32 := x - x / y * y
def lrm (x y : Int64) : Int64 := x - x / y * y
def sl (x y : Int32) : Int32 := x <<< (y &&& 31)
def sr (x y : Int32) : Int32 := x >>> (y &&& 31)
def usr (x y : Int32) : Int32 := (x.toUInt32 >>> (y.toUInt32 &&& Int32.toUInt32 31)).toInt32
def lusr (x : Int64) (y : Int32) : Int64 := (x.toUInt64 >>> (y.toInt64.toUInt64 &&& Int64.toUInt64 63)).toInt64
def lsl (x : Int64) (y : Int32) : Int64 := x <<< (y.toInt64 &&& 63)
def lsr (x : Int64) (y : Int32) : Int64 := x >>> (y.toInt64 &&& 63)
def imax (x y : Int32) : Int32 := if x < y then y else x
def imin (x y : Int32) : Int32 := if y < x then y else x
def iabs (x : Int32) : Int32 := if 0 ≤ x then x else 0 - x
section ZROWS
variable {l : Launch} {cc : ByteArray} {nL : Nat} {Ts : List Cond} {own : String} {R : Room} {G : zG} {ini : Bool} {Z : zT}
variable {k n : Nat} {w : va_W} {lv : List (Nat × Value)} {pc pc2 : Nat} {st : List Value}
theorem z_iadd (h : zR l cc nL Ts own R G ini Z) {x y : Int32} (hd : decode cc pc = .ok (.iadd, 1))  (hp : pc + 1 = pc2) (kk : Z k n w lv pc2 (.int (x + y) :: st)) : Z k n w lv pc (.int y :: .int x :: st) := by
  obtain ⟨p, e, s, m, args, below, meth, c, A, Q, ⟨hx, hb, hml, hown, hts⟩, hK, hA, hini, rfl⟩ := h
  subst hp
  intro H locs hP hD hS ls hl
  exact lv_iadd hx hb hd  (kk H locs hP hD hS ls hl)
theorem z_isub (h : zR l cc nL Ts own R G ini Z) {x y : Int32} (hd : decode cc pc = .ok (.isub, 1))  (hp : pc + 1 = pc2) (kk : Z k n w lv pc2 (.int (x - y) :: st)) : Z k n w lv pc (.int y :: .int x :: st) := by
  obtain ⟨p, e, s, m, args, below, meth, c, A, Q, ⟨hx, hb, hml, hown, hts⟩, hK, hA, hini, rfl⟩ := h
  subst hp
  intro H locs hP hD hS ls hl
  exact lv_isub hx hb hd  (kk H locs hP hD hS ls hl)
theorem z_imul (h : zR l cc nL Ts own R G ini Z) {x y : Int32} (hd : decode cc pc = .ok (.imul, 1))  (hp : pc + 1 = pc2) (kk : Z k n w lv pc2 (.int (x * y) :: st)) : Z k n w lv pc (.int y :: .int x :: st) := by
  obtain ⟨p, e, s, m, args, below, meth, c, A, Q, ⟨hx, hb, hml, hown, hts⟩, hK, hA, hini, rfl⟩ := h
  subst hp
  intro H locs hP hD hS ls hl
  exact lv_imul hx hb hd  (kk H locs hP hD hS ls hl)
theorem z_iand (h : zR l cc nL Ts own R G ini Z) {x y : Int32} (hd : decode cc pc = .ok (.iand, 1))  (hp : pc + 1 = pc2) (kk : Z k n w lv pc2 (.int (x &&& y) :: st)) : Z k n w lv pc (.int y :: .int x :: st) := by
  obtain ⟨p, e, s, m, args, below, meth, c, A, Q, ⟨hx, hb, hml, hown, hts⟩, hK, hA, hini, rfl⟩ := h
  subst hp
  intro H locs hP hD hS ls hl
  exact lv_iand hx hb hd  (kk H locs hP hD hS ls hl)
theorem z_ior (h : zR l cc nL Ts own R G ini Z) {x y : Int32} (hd : decode cc pc = .ok (.ior, 1))  (hp : pc + 1 = pc2) (kk : Z k n w lv pc2 (.int (x ||| y) :: st)) : Z k n w lv pc (.int y :: .int x :: st) := by
  obtain ⟨p, e, s, m, args, below, meth, c, A, Q, ⟨hx, hb, hml, hown, hts⟩, hK, hA, hini, rfl⟩ := h
  subst hp
  intro H locs hP hD hS ls hl
  exact lv_ior hx hb hd  (kk H locs hP hD hS ls hl)
theorem z_ixor (h : zR l cc nL Ts own R G ini Z) {x y : Int32} (hd : decode cc pc = .ok (.ixor, 1))  (hp : pc + 1 = pc2) (kk : Z k n w lv pc2 (.int (x ^^^ y) :: st)) : Z k n w lv pc (.int y :: .int x :: st) := by
  obtain ⟨p, e, s, m, args, below, meth, c, A, Q, ⟨hx, hb, hml, hown, hts⟩, hK, hA, hini, rfl⟩ := h
  subst hp
  intro H locs hP hD hS ls hl
  exact lv_ixor hx hb hd  (kk H locs hP hD hS ls hl)
theorem z_ishl (h : zR l cc nL Ts own R G ini Z) {x y : Int32} (hd : decode cc pc = .ok (.ishl, 1))  (hp : pc + 1 = pc2) (kk : Z k n w lv pc2 (.int (sl x y) :: st)) : Z k n w lv pc (.int y :: .int x :: st) := by
  obtain ⟨p, e, s, m, args, below, meth, c, A, Q, ⟨hx, hb, hml, hown, hts⟩, hK, hA, hini, rfl⟩ := h
  subst hp
  intro H locs hP hD hS ls hl
  exact lv_ishl hx hb hd  (kk H locs hP hD hS ls hl)
theorem z_ishr (h : zR l cc nL Ts own R G ini Z) {x y : Int32} (hd : decode cc pc = .ok (.ishr, 1))  (hp : pc + 1 = pc2) (kk : Z k n w lv pc2 (.int (sr x y) :: st)) : Z k n w lv pc (.int y :: .int x :: st) := by
  obtain ⟨p, e, s, m, args, below, meth, c, A, Q, ⟨hx, hb, hml, hown, hts⟩, hK, hA, hini, rfl⟩ := h
  subst hp
  intro H locs hP hD hS ls hl
  exact lv_ishr hx hb hd  (kk H locs hP hD hS ls hl)
theorem z_idiv (h : zR l cc nL Ts own R G ini Z) {x y : Int32} (hd : decode cc pc = .ok (.idiv, 1)) (hne : ¬ y = 0) (hp : pc + 1 = pc2) (kk : Z k n w lv pc2 (.int (x / y) :: st)) : Z k n w lv pc (.int y :: .int x :: st) := by
  obtain ⟨p, e, s, m, args, below, meth, c, A, Q, ⟨hx, hb, hml, hown, hts⟩, hK, hA, hini, rfl⟩ := h
  subst hp
  intro H locs hP hD hS ls hl
  exact lv_idiv hx hb hd hne (kk H locs hP hD hS ls hl)
theorem z_irem (h : zR l cc nL Ts own R G ini Z) {x y : Int32} (hd : decode cc pc = .ok (.irem, 1)) (hne : ¬ y = 0) (hp : pc + 1 = pc2) (kk : Z k n w lv pc2 (.int (irm x y) :: st)) : Z k n w lv pc (.int y :: .int x :: st) := by
  obtain ⟨p, e, s, m, args, below, meth, c, A, Q, ⟨hx, hb, hml, hown, hts⟩, hK, hA, hini, rfl⟩ := h
  subst hp
  intro H locs hP hD hS ls hl
  exact lv_irem hx hb hd hne (kk H locs hP hD hS ls hl)
theorem z_ineg (h : zR l cc nL Ts own R G ini Z) {x : Int32} (hd : decode cc pc = .ok (.ineg, 1))  (hp : pc + 1 = pc2) (kk : Z k n w lv pc2 (.int (-x) :: st)) : Z k n w lv pc (.int x :: st) := by
  obtain ⟨p, e, s, m, args, below, meth, c, A, Q, ⟨hx, hb, hml, hown, hts⟩, hK, hA, hini, rfl⟩ := h
  subst hp
  intro H locs hP hD hS ls hl
  exact lv_ineg hx hb hd  (kk H locs hP hD hS ls hl)
theorem z_iushr (h : zR l cc nL Ts own R G ini Z) {x y : Int32} (hd : decode cc pc = .ok (.iushr, 1))  (hp : pc + 1 = pc2) (kk : Z k n w lv pc2 (.int (usr x y) :: st)) : Z k n w lv pc (.int y :: .int x :: st) := by
  obtain ⟨p, e, s, m, args, below, meth, c, A, Q, ⟨hx, hb, hml, hown, hts⟩, hK, hA, hini, rfl⟩ := h
  subst hp
  intro H locs hP hD hS ls hl
  exact lv_iushr hx hb hd rfl (kk H locs hP hD hS ls hl)
theorem z_ladd (h : zR l cc nL Ts own R G ini Z) {x y : Int64} (hd : decode cc pc = .ok (.ladd, 1))  (hp : pc + 1 = pc2) (kk : Z k n w lv pc2 (.long (x + y) :: st)) : Z k n w lv pc (.long y :: .long x :: st) := by
  obtain ⟨p, e, s, m, args, below, meth, c, A, Q, ⟨hx, hb, hml, hown, hts⟩, hK, hA, hini, rfl⟩ := h
  subst hp
  intro H locs hP hD hS ls hl
  exact lv_ladd hx hb hd  (kk H locs hP hD hS ls hl)
theorem z_lsub (h : zR l cc nL Ts own R G ini Z) {x y : Int64} (hd : decode cc pc = .ok (.lsub, 1))  (hp : pc + 1 = pc2) (kk : Z k n w lv pc2 (.long (x - y) :: st)) : Z k n w lv pc (.long y :: .long x :: st) := by
  obtain ⟨p, e, s, m, args, below, meth, c, A, Q, ⟨hx, hb, hml, hown, hts⟩, hK, hA, hini, rfl⟩ := h
  subst hp
  intro H locs hP hD hS ls hl
  exact lv_lsub hx hb hd  (kk H locs hP hD hS ls hl)
theorem z_lmul (h : zR l cc nL Ts own R G ini Z) {x y : Int64} (hd : decode cc pc = .ok (.lmul, 1))  (hp : pc + 1 = pc2) (kk : Z k n w lv pc2 (.long (x * y) :: st)) : Z k n w lv pc (.long y :: .long x :: st) := by
  obtain ⟨p, e, s, m, args, below, meth, c, A, Q, ⟨hx, hb, hml, hown, hts⟩, hK, hA, hini, rfl⟩ := h
  subst hp
  intro H locs hP hD hS ls hl
  exact lv_lmul hx hb hd  (kk H locs hP hD hS ls hl)
theorem z_land (h : zR l cc nL Ts own R G ini Z) {x y : Int64} (hd : decode cc pc = .ok (.land, 1))  (hp : pc + 1 = pc2) (kk : Z k n w lv pc2 (.long (x &&& y) :: st)) : Z k n w lv pc (.long y :: .long x :: st) := by
  obtain ⟨p, e, s, m, args, below, meth, c, A, Q, ⟨hx, hb, hml, hown, hts⟩, hK, hA, hini, rfl⟩ := h
  subst hp
  intro H locs hP hD hS ls hl
  exact lv_land hx hb hd  (kk H locs hP hD hS ls hl)
theorem z_lor (h : zR l cc nL Ts own R G ini Z) {x y : Int64} (hd : decode cc pc = .ok (.lor, 1))  (hp : pc + 1 = pc2) (kk : Z k n w lv pc2 (.long (x ||| y) :: st)) : Z k n w lv pc (.long y :: .long x :: st) := by
  obtain ⟨p, e, s, m, args, below, meth, c, A, Q, ⟨hx, hb, hml, hown, hts⟩, hK, hA, hini, rfl⟩ := h
  subst hp
  intro H locs hP hD hS ls hl
  exact lv_lor hx hb hd  (kk H locs hP hD hS ls hl)
theorem z_lxor (h : zR l cc nL Ts own R G ini Z) {x y : Int64} (hd : decode cc pc = .ok (.lxor, 1))  (hp : pc + 1 = pc2) (kk : Z k n w lv pc2 (.long (x ^^^ y) :: st)) : Z k n w lv pc (.long y :: .long x :: st) := by
  obtain ⟨p, e, s, m, args, below, meth, c, A, Q, ⟨hx, hb, hml, hown, hts⟩, hK, hA, hini, rfl⟩ := h
  subst hp
  intro H locs hP hD hS ls hl
  exact lv_lxor hx hb hd  (kk H locs hP hD hS ls hl)
theorem z_ldiv (h : zR l cc nL Ts own R G ini Z) {x y : Int64} (hd : decode cc pc = .ok (.ldiv, 1)) (hne : ¬ y = 0) (hp : pc + 1 = pc2) (kk : Z k n w lv pc2 (.long (x / y) :: st)) : Z k n w lv pc (.long y :: .long x :: st) := by
  obtain ⟨p, e, s, m, args, below, meth, c, A, Q, ⟨hx, hb, hml, hown, hts⟩, hK, hA, hini, rfl⟩ := h
  subst hp
  intro H locs hP hD hS ls hl
  exact lv_ldiv hx hb hd hne (kk H locs hP hD hS ls hl)
theorem z_lrem (h : zR l cc nL Ts own R G ini Z) {x y : Int64} (hd : decode cc pc = .ok (.lrem, 1)) (hne : ¬ y = 0) (hp : pc + 1 = pc2) (kk : Z k n w lv pc2 (.long (lrm x y) :: st)) : Z k n w lv pc (.long y :: .long x :: st) := by
  obtain ⟨p, e, s, m, args, below, meth, c, A, Q, ⟨hx, hb, hml, hown, hts⟩, hK, hA, hini, rfl⟩ := h
  subst hp
  intro H locs hP hD hS ls hl
  exact lv_lrem hx hb hd hne (kk H locs hP hD hS ls hl)
theorem z_lushr (h : zR l cc nL Ts own R G ini Z) {x : Int64} {y : Int32} (hd : decode cc pc = .ok (.lushr, 1))  (hp : pc + 1 = pc2) (kk : Z k n w lv pc2 (.long (lusr x y) :: st)) : Z k n w lv pc (.int y :: .long x :: st) := by
  obtain ⟨p, e, s, m, args, below, meth, c, A, Q, ⟨hx, hb, hml, hown, hts⟩, hK, hA, hini, rfl⟩ := h
  subst hp
  intro H locs hP hD hS ls hl
  exact lv_lushr hx hb hd rfl (kk H locs hP hD hS ls hl)
theorem z_lshl (h : zR l cc nL Ts own R G ini Z) {x : Int64} {y : Int32} (hd : decode cc pc = .ok (.lshl, 1))  (hp : pc + 1 = pc2) (kk : Z k n w lv pc2 (.long (lsl x y) :: st)) : Z k n w lv pc (.int y :: .long x :: st) := by
  obtain ⟨p, e, s, m, args, below, meth, c, A, Q, ⟨hx, hb, hml, hown, hts⟩, hK, hA, hini, rfl⟩ := h
  subst hp
  intro H locs hP hD hS ls hl
  exact lv_lshl hx hb hd rfl (kk H locs hP hD hS ls hl)
theorem z_lshr (h : zR l cc nL Ts own R G ini Z) {x : Int64} {y : Int32} (hd : decode cc pc = .ok (.lshr, 1))  (hp : pc + 1 = pc2) (kk : Z k n w lv pc2 (.long (lsr x y) :: st)) : Z k n w lv pc (.int y :: .long x :: st) := by
  obtain ⟨p, e, s, m, args, below, meth, c, A, Q, ⟨hx, hb, hml, hown, hts⟩, hK, hA, hini, rfl⟩ := h
  subst hp
  intro H locs hP hD hS ls hl
  exact lv_lshr hx hb hd rfl (kk H locs hP hD hS ls hl)
theorem z_i2l (h : zR l cc nL Ts own R G ini Z) {x : Int32} (hd : decode cc pc = .ok (.i2l, 1))  (hp : pc + 1 = pc2) (kk : Z k n w lv pc2 (.long x.toInt64 :: st)) : Z k n w lv pc (.int x :: st) := by
  obtain ⟨p, e, s, m, args, below, meth, c, A, Q, ⟨hx, hb, hml, hown, hts⟩, hK, hA, hini, rfl⟩ := h
  subst hp
  intro H locs hP hD hS ls hl
  exact lv_i2l hx hb hd rfl (kk H locs hP hD hS ls hl)
theorem z_l2i (h : zR l cc nL Ts own R G ini Z) {x : Int64} (hd : decode cc pc = .ok (.l2i, 1))  (hp : pc + 1 = pc2) (kk : Z k n w lv pc2 (.int x.toInt32 :: st)) : Z k n w lv pc (.long x :: st) := by
  obtain ⟨p, e, s, m, args, below, meth, c, A, Q, ⟨hx, hb, hml, hown, hts⟩, hK, hA, hini, rfl⟩ := h
  subst hp
  intro H locs hP hD hS ls hl
  exact lv_l2i hx hb hd rfl (kk H locs hP hD hS ls hl)
theorem z_lcmp (h : zR l cc nL Ts own R G ini Z) {x y : Int64} (hd : decode cc pc = .ok (.lcmp, 1))  (hp : pc + 1 = pc2) (kk : Z k n w lv pc2 (.int (lg_cmp x y) :: st)) : Z k n w lv pc (.long y :: .long x :: st) := by
  obtain ⟨p, e, s, m, args, below, meth, c, A, Q, ⟨hx, hb, hml, hown, hts⟩, hK, hA, hini, rfl⟩ := h
  subst hp
  intro H locs hP hD hS ls hl
  exact W.lcmp hx hb hd  (kk H locs hP hD hS ls hl)
theorem z_dup (h : zR l cc nL Ts own R G ini Z) {va : Value} (hd : decode cc pc = .ok (.dup, 1)) (hva : va.category = 1) (hp : pc + 1 = pc2) (kk : Z k n w lv pc2 (va :: va :: st)) : Z k n w lv pc (va :: st) := by
  obtain ⟨p, e, s, m, args, below, meth, c, A, Q, ⟨hx, hb, hml, hown, hts⟩, hK, hA, hini, rfl⟩ := h
  subst hp
  intro H locs hP hD hS ls hl
  exact lv_dup hx hb hd hva (kk H locs hP hD hS ls hl)
theorem z_pop (h : zR l cc nL Ts own R G ini Z) {va : Value} (hd : decode cc pc = .ok (.pop, 1)) (hva : va.category = 1) (hp : pc + 1 = pc2) (kk : Z k n w lv pc2 (st)) : Z k n w lv pc (va :: st) := by
  obtain ⟨p, e, s, m, args, below, meth, c, A, Q, ⟨hx, hb, hml, hown, hts⟩, hK, hA, hini, rfl⟩ := h
  subst hp
  intro H locs hP hD hS ls hl
  exact lv_pop hx hb hd hva (kk H locs hP hD hS ls hl)
theorem z_dup2 (h : zR l cc nL Ts own R G ini Z) {va vb : Value} (hd : decode cc pc = .ok (.dup2, 1)) (hva : va.category = 1) (hvb : vb.category = 1) (hp : pc + 1 = pc2) (kk : Z k n w lv pc2 (va :: vb :: va :: vb :: st)) : Z k n w lv pc (va :: vb :: st) := by
  obtain ⟨p, e, s, m, args, below, meth, c, A, Q, ⟨hx, hb, hml, hown, hts⟩, hK, hA, hini, rfl⟩ := h
  subst hp
  intro H locs hP hD hS ls hl
  exact lv_dup2_11 hx hb hd hva hvb (kk H locs hP hD hS ls hl)
theorem z_iconst (h : zR l cc nL Ts own R G ini Z) {i : Int} {v : Int32} (hd : decode cc pc = .ok (.iconst i, 1)) (hv : Int32.ofInt i = v) (hp : pc + 1 = pc2) (kk : Z k n w lv pc2 (.int v :: st)) : Z k n w lv pc (st) := by
  obtain ⟨p, e, s, m, args, below, meth, c, A, Q, ⟨hx, hb, hml, hown, hts⟩, hK, hA, hini, rfl⟩ := h
  subst hp
  intro H locs hP hD hS ls hl
  exact lv_iconst hx hb hd hv (kk H locs hP hD hS ls hl)
theorem z_bipush (h : zR l cc nL Ts own R G ini Z) {i : Int} {v : Int32} (hd : decode cc pc = .ok (.bipush i, 2)) (hv : (Int8.ofInt i).toInt32 = v) (hp : pc + 2 = pc2) (kk : Z k n w lv pc2 (.int v :: st)) : Z k n w lv pc (st) := by
  obtain ⟨p, e, s, m, args, below, meth, c, A, Q, ⟨hx, hb, hml, hown, hts⟩, hK, hA, hini, rfl⟩ := h
  subst hp
  intro H locs hP hD hS ls hl
  exact lv_bipush hx hb hd hv (kk H locs hP hD hS ls hl)
theorem z_sipush (h : zR l cc nL Ts own R G ini Z) {i : Int} {v : Int32} (hd : decode cc pc = .ok (.sipush i, 3)) (hv : (Int16.ofInt i).toInt32 = v) (hp : pc + 3 = pc2) (kk : Z k n w lv pc2 (.int v :: st)) : Z k n w lv pc (st) := by
  obtain ⟨p, e, s, m, args, below, meth, c, A, Q, ⟨hx, hb, hml, hown, hts⟩, hK, hA, hini, rfl⟩ := h
  subst hp
  intro H locs hP hD hS ls hl
  exact lv_sipush hx hb hd hv (kk H locs hP hD hS ls hl)
theorem z_lconst (h : zR l cc nL Ts own R G ini Z) {i : Fin 2} {v : Int64} (hd : decode cc pc = .ok (.lconst i, 1)) (hv : Int64.ofNat (i : Nat) = v) (hp : pc + 1 = pc2) (kk : Z k n w lv pc2 (.long v :: st)) : Z k n w lv pc (st) := by
  obtain ⟨p, e, s, m, args, below, meth, c, A, Q, ⟨hx, hb, hml, hown, hts⟩, hK, hA, hini, rfl⟩ := h
  subst hp
  intro H locs hP hD hS ls hl
  exact lv_lconst hx hb hd hv (kk H locs hP hD hS ls hl)
theorem z_ldc (h : zR l cc nL Ts own R G ini Z) {i : Nat} {v : Int32} (hd : decode cc pc = .ok (.ldc i, 2)) (hm : Cond.constant own i v ∈ Ts) (hp : pc + 2 = pc2) (kk : Z k n w lv pc2 (.int v :: st)) : Z k n w lv pc st := by
  obtain ⟨p, e, s, m, args, below, meth, c, A, Q, ⟨hx, hb, hml, hown, hts⟩, hK, hA, hini, rfl⟩ := h
  subst hp
  intro H locs hP hD hS ls hl
  exact lv_ldc hx hb hown (hts _ hm) hd (kk H locs hP hD hS ls hl)
theorem z_ldc_w (h : zR l cc nL Ts own R G ini Z) {i : Nat} {v : Int32} (hd : decode cc pc = .ok (.ldc_w i, 3)) (hm : Cond.constant own i v ∈ Ts) (hp : pc + 3 = pc2) (kk : Z k n w lv pc2 (.int v :: st)) : Z k n w lv pc st := by
  obtain ⟨p, e, s, m, args, below, meth, c, A, Q, ⟨hx, hb, hml, hown, hts⟩, hK, hA, hini, rfl⟩ := h
  subst hp
  intro H locs hP hD hS ls hl
  exact lv_ldcw hx hb hown (hts _ hm) hd (kk H locs hP hD hS ls hl)
theorem z_ldc2_w (h : zR l cc nL Ts own R G ini Z) {i : Nat} {v : Int64} (hd : decode cc pc = .ok (.ldc2_w i, 3)) (hm : Cond.constantLong own i v ∈ Ts) (hp : pc + 3 = pc2) (kk : Z k n w lv pc2 (.long v :: st)) : Z k n w lv pc st := by
  obtain ⟨p, e, s, m, args, below, meth, c, A, Q, ⟨hx, hb, hml, hown, hts⟩, hK, hA, hini, rfl⟩ := h
  subst hp
  intro H locs hP hD hS ls hl
  exact lv_ldc2 hx hb hown (hts _ hm) hd (kk H locs hP hD hS ls hl)
theorem z_iload_n (h : zR l cc nL Ts own R G ini Z) {i : Fin 4} {x : Int32} (hd : decode cc pc = .ok (.iload_n i, 1)) (j : Nat) (hj : lv[j]? = some ((i : Nat), .int x)) (hp : pc + 1 = pc2) (kk : Z k n w lv pc2 (.int x :: st)) : Z k n w lv pc st := by
  obtain ⟨p, e, s, m, args, below, meth, c, A, Q, ⟨hx, hb, hml, hown, hts⟩, hK, hA, hini, rfl⟩ := h
  subst hp
  intro H locs hP hD hS ls hl
  exact lv_iload_n hx hb hd rfl (lv_at hl j hj) (kk H locs hP hD hS ls hl)
theorem z_iload (h : zR l cc nL Ts own R G ini Z) {i : Nat} {x : Int32} (hd : decode cc pc = .ok (.iload i, 2)) (j : Nat) (hj : lv[j]? = some (i, .int x)) (hp : pc + 2 = pc2) (kk : Z k n w lv pc2 (.int x :: st)) : Z k n w lv pc st := by
  obtain ⟨p, e, s, m, args, below, meth, c, A, Q, ⟨hx, hb, hml, hown, hts⟩, hK, hA, hini, rfl⟩ := h
  subst hp
  intro H locs hP hD hS ls hl
  exact lv_iload hx hb hd (lv_at hl j hj) (kk H locs hP hD hS ls hl)
theorem z_istore_n (h : zR l cc nL Ts own R G ini Z) {i : Fin 4} {x : Int32} {lv2 : List (Nat × Value)} (hd : decode cc pc = .ok (.istore_n i, 1)) (hn : (i : Nat) < nL) (hl2 : ((i : Nat), Value.int x) :: lv.filter (fun q => !(q.1 == (i : Nat)) && !(q.1 + 1 == (i : Nat) && q.2.category == 2)) = lv2) (hp : pc + 1 = pc2) (kk : Z k n w lv2 pc2 st) : Z k n w lv pc (.int x :: st) := by
  obtain ⟨p, e, s, m, args, below, meth, c, A, Q, ⟨hx, hb, hml, hown, hts⟩, hK, hA, hini, rfl⟩ := h
  subst hp
  intro H locs hP hD hS ls hl
  exact lv_istore_n hx hb hd rfl hl hn hl2 (fun ls2 h2 => kk H locs hP hD hS ls2 h2)
theorem z_istore (h : zR l cc nL Ts own R G ini Z) {i : Nat} {x : Int32} {lv2 : List (Nat × Value)} (hd : decode cc pc = .ok (.istore i, 2)) (hn : i < nL) (hl2 : (i, Value.int x) :: lv.filter (fun q => !(q.1 == i) && !(q.1 + 1 == i && q.2.category == 2)) = lv2) (hp : pc + 2 = pc2) (kk : Z k n w lv2 pc2 st) : Z k n w lv pc (.int x :: st) := by
  obtain ⟨p, e, s, m, args, below, meth, c, A, Q, ⟨hx, hb, hml, hown, hts⟩, hK, hA, hini, rfl⟩ := h
  subst hp
  intro H locs hP hD hS ls hl
  exact lv_istore hx hb hd hl hn hl2 (fun ls2 h2 => kk H locs hP hD hS ls2 h2)
theorem z_lload_n (h : zR l cc nL Ts own R G ini Z) {i : Fin 4} {x : Int64} (hd : decode cc pc = .ok (.lload_n i, 1)) (j : Nat) (hj : lv[j]? = some ((i : Nat), .long x)) (hp : pc + 1 = pc2) (kk : Z k n w lv pc2 (.long x :: st)) : Z k n w lv pc st := by
  obtain ⟨p, e, s, m, args, below, meth, c, A, Q, ⟨hx, hb, hml, hown, hts⟩, hK, hA, hini, rfl⟩ := h
  subst hp
  intro H locs hP hD hS ls hl
  exact lv_lload_n hx hb hd rfl (lv_at hl j hj) (kk H locs hP hD hS ls hl)
theorem z_lload (h : zR l cc nL Ts own R G ini Z) {i : Nat} {x : Int64} (hd : decode cc pc = .ok (.lload i, 2)) (j : Nat) (hj : lv[j]? = some (i, .long x)) (hp : pc + 2 = pc2) (kk : Z k n w lv pc2 (.long x :: st)) : Z k n w lv pc st := by
  obtain ⟨p, e, s, m, args, below, meth, c, A, Q, ⟨hx, hb, hml, hown, hts⟩, hK, hA, hini, rfl⟩ := h
  subst hp
  intro H locs hP hD hS ls hl
  exact lv_lload hx hb hd (lv_at hl j hj) (kk H locs hP hD hS ls hl)
theorem z_lstore_n (h : zR l cc nL Ts own R G ini Z) {i : Fin 4} {x : Int64} {lv2 : List (Nat × Value)} (hd : decode cc pc = .ok (.lstore_n i, 1)) (hn : (i : Nat) + 1 < nL) (hl2 : ((i : Nat), Value.long x) :: lv.filter (fun q => !(q.1 == (i : Nat)) && (!(q.1 == (i : Nat) + 1) && !(q.1 + 1 == (i : Nat) && q.2.category == 2))) = lv2) (hp : pc + 1 = pc2) (kk : Z k n w lv2 pc2 st) : Z k n w lv pc (.long x :: st) := by
  obtain ⟨p, e, s, m, args, below, meth, c, A, Q, ⟨hx, hb, hml, hown, hts⟩, hK, hA, hini, rfl⟩ := h
  subst hp
  intro H locs hP hD hS ls hl
  exact lv_lstore_n hx hb hd rfl hl hn hl2 (fun ls2 h2 => kk H locs hP hD hS ls2 h2)
theorem z_lstore (h : zR l cc nL Ts own R G ini Z) {i : Nat} {x : Int64} {lv2 : List (Nat × Value)} (hd : decode cc pc = .ok (.lstore i, 2)) (hn : i + 1 < nL) (hl2 : (i, Value.long x) :: lv.filter (fun q => !(q.1 == i) && (!(q.1 == i + 1) && !(q.1 + 1 == i && q.2.category == 2))) = lv2) (hp : pc + 2 = pc2) (kk : Z k n w lv2 pc2 st) : Z k n w lv pc (.long x :: st) := by
  obtain ⟨p, e, s, m, args, below, meth, c, A, Q, ⟨hx, hb, hml, hown, hts⟩, hK, hA, hini, rfl⟩ := h
  subst hp
  intro H locs hP hD hS ls hl
  exact lv_lstore hx hb hd hl hn hl2 (fun ls2 h2 => kk H locs hP hD hS ls2 h2)
theorem z_aload_n (h : zR l cc nL Ts own R G ini Z) {i : Fin 4} {x : Nat} (hd : decode cc pc = .ok (.aload_n i, 1)) (j : Nat) (hj : lv[j]? = some ((i : Nat), .ref x)) (hp : pc + 1 = pc2) (kk : Z k n w lv pc2 (.ref x :: st)) : Z k n w lv pc st := by
  obtain ⟨p, e, s, m, args, below, meth, c, A, Q, ⟨hx, hb, hml, hown, hts⟩, hK, hA, hini, rfl⟩ := h
  subst hp
  intro H locs hP hD hS ls hl
  exact lv_aload_n hx hb hd rfl (lv_at hl j hj) (kk H locs hP hD hS ls hl)
theorem z_aload (h : zR l cc nL Ts own R G ini Z) {i : Nat} {x : Nat} (hd : decode cc pc = .ok (.aload i, 2)) (j : Nat) (hj : lv[j]? = some (i, .ref x)) (hp : pc + 2 = pc2) (kk : Z k n w lv pc2 (.ref x :: st)) : Z k n w lv pc st := by
  obtain ⟨p, e, s, m, args, below, meth, c, A, Q, ⟨hx, hb, hml, hown, hts⟩, hK, hA, hini, rfl⟩ := h
  subst hp
  intro H locs hP hD hS ls hl
  exact lv_aload hx hb hd (lv_at hl j hj) (kk H locs hP hD hS ls hl)
theorem z_astore_n (h : zR l cc nL Ts own R G ini Z) {i : Fin 4} {x : Nat} {lv2 : List (Nat × Value)} (hd : decode cc pc = .ok (.astore_n i, 1)) (hn : (i : Nat) < nL) (hl2 : ((i : Nat), Value.ref x) :: lv.filter (fun q => !(q.1 == (i : Nat)) && !(q.1 + 1 == (i : Nat) && q.2.category == 2)) = lv2) (hp : pc + 1 = pc2) (kk : Z k n w lv2 pc2 st) : Z k n w lv pc (.ref x :: st) := by
  obtain ⟨p, e, s, m, args, below, meth, c, A, Q, ⟨hx, hb, hml, hown, hts⟩, hK, hA, hini, rfl⟩ := h
  subst hp
  intro H locs hP hD hS ls hl
  exact lv_astore_n hx hb hd rfl hl hn hl2 (fun ls2 h2 => kk H locs hP hD hS ls2 h2)
theorem z_astore (h : zR l cc nL Ts own R G ini Z) {i : Nat} {x : Nat} {lv2 : List (Nat × Value)} (hd : decode cc pc = .ok (.astore i, 2)) (hn : i < nL) (hl2 : (i, Value.ref x) :: lv.filter (fun q => !(q.1 == i) && !(q.1 + 1 == i && q.2.category == 2)) = lv2) (hp : pc + 2 = pc2) (kk : Z k n w lv2 pc2 st) : Z k n w lv pc (.ref x :: st) := by
  obtain ⟨p, e, s, m, args, below, meth, c, A, Q, ⟨hx, hb, hml, hown, hts⟩, hK, hA, hini, rfl⟩ := h
  subst hp
  intro H locs hP hD hS ls hl
  exact lv_astore hx hb hd hl hn hl2 (fun ls2 h2 => kk H locs hP hD hS ls2 h2)
theorem z_iinc (h : zR l cc nL Ts own R G ini Z) {i j : Nat} {d : Int} {x v : Int32} {lv2 : List (Nat × Value)} (hd : decode cc pc = .ok (.iinc i d, 3)) (hj : lv[j]? = some (i, .int x)) (hv : x + Int32.ofInt d = v) (hn : i < nL) (hl2 : (i, Value.int v) :: lv.filter (fun q => !(q.1 == i) && !(q.1 + 1 == i && q.2.category == 2)) = lv2) (hp : pc + 3 = pc2) (kk : Z k n w lv2 pc2 st) : Z k n w lv pc st := by
  obtain ⟨p, e, s, m, args, below, meth, c, A, Q, ⟨hx, hb, hml, hown, hts⟩, hK, hA, hini, rfl⟩ := h
  subst hp
  intro H locs hP hD hS ls hl
  exact lv_iinc hx hb hd hl hj hv hn hl2 (fun ls2 h2 => kk H locs hP hD hS ls2 h2)
theorem z_locs (h : zR l cc nL Ts own R G ini Z) {lv2 : List (Nat × Value)} (ks : List Nat) (hs : lv_pick lv ks = lv2) (kk : Z k n w lv2 pc st) : Z k n w lv pc st := by
  obtain ⟨p, e, s, m, args, below, meth, c, A, Q, ⟨hx, hb, hml, hown, hts⟩, hK, hA, hini, rfl⟩ := h
  intro H locs hP hD hS ls hl
  exact kk H locs hP hD hS ls (lv_sub hl ks hs)
theorem z_icmp_eq (h : zR l cc nL Ts own R G ini Z) {x y : Int32} {off : Int} {tgt : Nat} (hd : decode cc pc = .ok (.if_icmp .eq off, 3)) (ht : (pc : Int) + off = (tgt : Int)) (hp : pc + 3 = pc2) (kt : x = y → Z k n w lv tgt st) (kf : ¬ x = y → Z k n w lv pc2 st) : Z k n w lv pc (.int y :: .int x :: st) := by
  obtain ⟨p, e, s, m, args, below, meth, c, A, Q, ⟨hx, hb, hml, hown, hts⟩, hK, hA, hini, rfl⟩ := h
  subst hp
  intro H locs hP hD hS ls hl
  exact lv_icmp_eq hx hb hd ht (fun c => kt c H locs hP hD hS ls hl) (fun c => kf c H locs hP hD hS ls hl)
theorem z_if_eq (h : zR l cc nL Ts own R G ini Z) {x : Int32} {off : Int} {tgt : Nat} (hd : decode cc pc = .ok (.ifCond .eq off, 3)) (ht : (pc : Int) + off = (tgt : Int)) (hp : pc + 3 = pc2) (kt : x = 0 → Z k n w lv tgt st) (kf : ¬ x = 0 → Z k n w lv pc2 st) : Z k n w lv pc (.int x :: st) := by
  obtain ⟨p, e, s, m, args, below, meth, c, A, Q, ⟨hx, hb, hml, hown, hts⟩, hK, hA, hini, rfl⟩ := h
  subst hp
  intro H locs hP hD hS ls hl
  exact lv_if_eq hx hb hd ht (fun c => kt c H locs hP hD hS ls hl) (fun c => kf c H locs hP hD hS ls hl)
theorem z_icmp_ne (h : zR l cc nL Ts own R G ini Z) {x y : Int32} {off : Int} {tgt : Nat} (hd : decode cc pc = .ok (.if_icmp .ne off, 3)) (ht : (pc : Int) + off = (tgt : Int)) (hp : pc + 3 = pc2) (kt : ¬ x = y → Z k n w lv tgt st) (kf : x = y → Z k n w lv pc2 st) : Z k n w lv pc (.int y :: .int x :: st) := by
  obtain ⟨p, e, s, m, args, below, meth, c, A, Q, ⟨hx, hb, hml, hown, hts⟩, hK, hA, hini, rfl⟩ := h
  subst hp
  intro H locs hP hD hS ls hl
  exact lv_icmp_ne hx hb hd ht (fun c => kt c H locs hP hD hS ls hl) (fun c => kf c H locs hP hD hS ls hl)
theorem z_if_ne (h : zR l cc nL Ts own R G ini Z) {x : Int32} {off : Int} {tgt : Nat} (hd : decode cc pc = .ok (.ifCond .ne off, 3)) (ht : (pc : Int) + off = (tgt : Int)) (hp : pc + 3 = pc2) (kt : ¬ x = 0 → Z k n w lv tgt st) (kf : x = 0 → Z k n w lv pc2 st) : Z k n w lv pc (.int x :: st) := by
  obtain ⟨p, e, s, m, args, below, meth, c, A, Q, ⟨hx, hb, hml, hown, hts⟩, hK, hA, hini, rfl⟩ := h
  subst hp
  intro H locs hP hD hS ls hl
  exact lv_if_ne hx hb hd ht (fun c => kt c H locs hP hD hS ls hl) (fun c => kf c H locs hP hD hS ls hl)
theorem z_icmp_lt (h : zR l cc nL Ts own R G ini Z) {x y : Int32} {off : Int} {tgt : Nat} (hd : decode cc pc = .ok (.if_icmp .lt off, 3)) (ht : (pc : Int) + off = (tgt : Int)) (hp : pc + 3 = pc2) (kt : x < y → Z k n w lv tgt st) (kf : ¬ x < y → Z k n w lv pc2 st) : Z k n w lv pc (.int y :: .int x :: st) := by
  obtain ⟨p, e, s, m, args, below, meth, c, A, Q, ⟨hx, hb, hml, hown, hts⟩, hK, hA, hini, rfl⟩ := h
  subst hp
  intro H locs hP hD hS ls hl
  exact lv_icmp_lt hx hb hd ht (fun c => kt c H locs hP hD hS ls hl) (fun c => kf c H locs hP hD hS ls hl)
theorem z_if_lt (h : zR l cc nL Ts own R G ini Z) {x : Int32} {off : Int} {tgt : Nat} (hd : decode cc pc = .ok (.ifCond .lt off, 3)) (ht : (pc : Int) + off = (tgt : Int)) (hp : pc + 3 = pc2) (kt : x < 0 → Z k n w lv tgt st) (kf : ¬ x < 0 → Z k n w lv pc2 st) : Z k n w lv pc (.int x :: st) := by
  obtain ⟨p, e, s, m, args, below, meth, c, A, Q, ⟨hx, hb, hml, hown, hts⟩, hK, hA, hini, rfl⟩ := h
  subst hp
  intro H locs hP hD hS ls hl
  exact lv_if_lt hx hb hd ht (fun c => kt c H locs hP hD hS ls hl) (fun c => kf c H locs hP hD hS ls hl)
theorem z_icmp_ge (h : zR l cc nL Ts own R G ini Z) {x y : Int32} {off : Int} {tgt : Nat} (hd : decode cc pc = .ok (.if_icmp .ge off, 3)) (ht : (pc : Int) + off = (tgt : Int)) (hp : pc + 3 = pc2) (kt : y ≤ x → Z k n w lv tgt st) (kf : ¬ y ≤ x → Z k n w lv pc2 st) : Z k n w lv pc (.int y :: .int x :: st) := by
  obtain ⟨p, e, s, m, args, below, meth, c, A, Q, ⟨hx, hb, hml, hown, hts⟩, hK, hA, hini, rfl⟩ := h
  subst hp
  intro H locs hP hD hS ls hl
  exact lv_icmp_ge hx hb hd ht (fun c => kt c H locs hP hD hS ls hl) (fun c => kf c H locs hP hD hS ls hl)
theorem z_if_ge (h : zR l cc nL Ts own R G ini Z) {x : Int32} {off : Int} {tgt : Nat} (hd : decode cc pc = .ok (.ifCond .ge off, 3)) (ht : (pc : Int) + off = (tgt : Int)) (hp : pc + 3 = pc2) (kt : 0 ≤ x → Z k n w lv tgt st) (kf : ¬ 0 ≤ x → Z k n w lv pc2 st) : Z k n w lv pc (.int x :: st) := by
  obtain ⟨p, e, s, m, args, below, meth, c, A, Q, ⟨hx, hb, hml, hown, hts⟩, hK, hA, hini, rfl⟩ := h
  subst hp
  intro H locs hP hD hS ls hl
  exact lv_if_ge hx hb hd ht (fun c => kt c H locs hP hD hS ls hl) (fun c => kf c H locs hP hD hS ls hl)
theorem z_icmp_gt (h : zR l cc nL Ts own R G ini Z) {x y : Int32} {off : Int} {tgt : Nat} (hd : decode cc pc = .ok (.if_icmp .gt off, 3)) (ht : (pc : Int) + off = (tgt : Int)) (hp : pc + 3 = pc2) (kt : y < x → Z k n w lv tgt st) (kf : ¬ y < x → Z k n w lv pc2 st) : Z k n w lv pc (.int y :: .int x :: st) := by
  obtain ⟨p, e, s, m, args, below, meth, c, A, Q, ⟨hx, hb, hml, hown, hts⟩, hK, hA, hini, rfl⟩ := h
  subst hp
  intro H locs hP hD hS ls hl
  exact lv_icmp_gt hx hb hd ht (fun c => kt c H locs hP hD hS ls hl) (fun c => kf c H locs hP hD hS ls hl)
theorem z_if_gt (h : zR l cc nL Ts own R G ini Z) {x : Int32} {off : Int} {tgt : Nat} (hd : decode cc pc = .ok (.ifCond .gt off, 3)) (ht : (pc : Int) + off = (tgt : Int)) (hp : pc + 3 = pc2) (kt : 0 < x → Z k n w lv tgt st) (kf : ¬ 0 < x → Z k n w lv pc2 st) : Z k n w lv pc (.int x :: st) := by
  obtain ⟨p, e, s, m, args, below, meth, c, A, Q, ⟨hx, hb, hml, hown, hts⟩, hK, hA, hini, rfl⟩ := h
  subst hp
  intro H locs hP hD hS ls hl
  exact lv_if_gt hx hb hd ht (fun c => kt c H locs hP hD hS ls hl) (fun c => kf c H locs hP hD hS ls hl)
theorem z_icmp_le (h : zR l cc nL Ts own R G ini Z) {x y : Int32} {off : Int} {tgt : Nat} (hd : decode cc pc = .ok (.if_icmp .le off, 3)) (ht : (pc : Int) + off = (tgt : Int)) (hp : pc + 3 = pc2) (kt : x ≤ y → Z k n w lv tgt st) (kf : ¬ x ≤ y → Z k n w lv pc2 st) : Z k n w lv pc (.int y :: .int x :: st) := by
  obtain ⟨p, e, s, m, args, below, meth, c, A, Q, ⟨hx, hb, hml, hown, hts⟩, hK, hA, hini, rfl⟩ := h
  subst hp
  intro H locs hP hD hS ls hl
  exact lv_icmp_le hx hb hd ht (fun c => kt c H locs hP hD hS ls hl) (fun c => kf c H locs hP hD hS ls hl)
theorem z_if_le (h : zR l cc nL Ts own R G ini Z) {x : Int32} {off : Int} {tgt : Nat} (hd : decode cc pc = .ok (.ifCond .le off, 3)) (ht : (pc : Int) + off = (tgt : Int)) (hp : pc + 3 = pc2) (kt : x ≤ 0 → Z k n w lv tgt st) (kf : ¬ x ≤ 0 → Z k n w lv pc2 st) : Z k n w lv pc (.int x :: st) := by
  obtain ⟨p, e, s, m, args, below, meth, c, A, Q, ⟨hx, hb, hml, hown, hts⟩, hK, hA, hini, rfl⟩ := h
  subst hp
  intro H locs hP hD hS ls hl
  exact lv_if_le hx hb hd ht (fun c => kt c H locs hP hD hS ls hl) (fun c => kf c H locs hP hD hS ls hl)
theorem z_goto (h : zR l cc nL Ts own R G ini Z) {off : Int} {tgt : Nat} (hd : decode cc pc = .ok (.goto off, 3)) (ht : (pc : Int) + off = (tgt : Int)) (kk : Z k n w lv tgt st) : Z k n w lv pc st := by
  obtain ⟨p, e, s, m, args, below, meth, c, A, Q, ⟨hx, hb, hml, hown, hts⟩, hK, hA, hini, rfl⟩ := h
  intro H locs hP hD hS ls hl
  exact lv_goto hx hb hd ht (kk H locs hP hD hS ls hl)
theorem z_tableIn (h : zR l cc nL Ts own R G ini Z) {dflt lo hi : Int} {offs : Array Int} {len : Nat} {x : Int32} {off : Int} {tgt : Nat} (hd : decode cc pc = .ok (.tableswitch dflt lo hi offs, len)) (v : Int32) (hxv : x = v) (h1 : ¬ v.toInt < lo) (h2 : ¬ hi < v.toInt) (ho : offs[(v.toInt - lo).toNat]? = some off) (ht : (pc : Int) + off = (tgt : Int)) (kk : Z k n w lv tgt st) : Z k n w lv pc (.int x :: st) := by
  obtain ⟨p, e, s, m, args, below, meth, c, A, Q, ⟨hx, hb, hml, hown, hts⟩, hK, hA, hini, rfl⟩ := h
  subst hxv
  intro H locs hP hD hS ls hl
  exact lv_tableIn hx hb hd h1 h2 ho ht (kk H locs hP hD hS ls hl)
theorem z_tableOut (h : zR l cc nL Ts own R G ini Z) {dflt lo hi : Int} {offs : Array Int} {len : Nat} {x : Int32} {tgt : Nat} (hd : decode cc pc = .ok (.tableswitch dflt lo hi offs, len)) (h1 : x.toInt < lo ∨ hi < x.toInt) (ht : (pc : Int) + dflt = (tgt : Int)) (kk : Z k n w lv tgt st) : Z k n w lv pc (.int x :: st) := by
  obtain ⟨p, e, s, m, args, below, meth, c, A, Q, ⟨hx, hb, hml, hown, hts⟩, hK, hA, hini, rfl⟩ := h
  intro H locs hP hD hS ls hl
  exact lv_tableOut hx hb hd h1 ht (kk H locs hP hD hS ls hl)
theorem z_lookup (h : zR l cc nL Ts own R G ini Z) {dflt : Int} {ps : Array (Int × Int)} {len : Nat} {x : Int32} {off : Int} {tgt : Nat} (hd : decode cc pc = .ok (.lookupswitch dflt ps, len)) (hp : (ps.toList.zip (ps.toList.drop 1)).all (fun (a, next) => a.1 < next.1) = true) (ho : Op.lookupswitch.offset ps.toList dflt x.toInt = off) (ht : (pc : Int) + off = (tgt : Int)) (kk : Z k n w lv tgt st) : Z k n w lv pc (.int x :: st) := by
  obtain ⟨p, e, s, m, args, below, meth, c, A, Q, ⟨hx, hb, hml, hown, hts⟩, hK, hA, hini, rfl⟩ := h
  intro H locs hP hD hS ls hl
  exact lv_lookup hx hb hd hp ho ht (kk H locs hP hD hS ls hl)
theorem z_lookIn (h : zR l cc nL Ts own R G ini Z) {dflt : Int} {ps : Array (Int × Int)} {len : Nat} {x : Int32} {off : Int} {tgt : Nat} (hd : decode cc pc = .ok (.lookupswitch dflt ps, len)) (v : Int32) (hxv : x = v) (hp : (ps.toList.zip (ps.toList.drop 1)).all (fun (a, next) => a.1 < next.1) = true) (ho : Op.lookupswitch.offset ps.toList dflt v.toInt = off) (ht : (pc : Int) + off = (tgt : Int)) (kk : Z k n w lv tgt st) : Z k n w lv pc (.int x :: st) := by
  obtain ⟨p, e, s, m, args, below, meth, c, A, Q, ⟨hx, hb, hml, hown, hts⟩, hK, hA, hini, rfl⟩ := h
  subst hxv
  intro H locs hP hD hS ls hl
  exact lv_lookup hx hb hd hp ho ht (kk H locs hP hD hS ls hl)
theorem z_ifnonnull (h : zR l cc nL Ts own R G ini Z) {x : Nat} {off : Int} {tgt : Nat} (hd : decode cc pc = .ok (.ifnonnull off, 3)) (ht : (pc : Int) + off = (tgt : Int)) (kk : Z k n w lv tgt st) : Z k n w lv pc (.ref x :: st) := by
  obtain ⟨p, e, s, m, args, below, meth, c, A, Q, ⟨hx, hb, hml, hown, hts⟩, hK, hA, hini, rfl⟩ := h
  intro H locs hP hD hS ls hl
  exact lv_ifnonnull hx hb hd ht (kk H locs hP hD hS ls hl)
theorem z_ifnonnullN (h : zR l cc nL Ts own R G ini Z) {off : Int} (hd : decode cc pc = .ok (.ifnonnull off, 3)) (hp : pc + 3 = pc2) (kk : Z k n w lv pc2 st) : Z k n w lv pc (.null :: st) := by
  obtain ⟨p, e, s, m, args, below, meth, c, A, Q, ⟨hx, hb, hml, hown, hts⟩, hK, hA, hini, rfl⟩ := h
  subst hp
  intro H locs hP hD hS ls hl
  exact lv_ifnonnullN hx hb hd (kk H locs hP hD hS ls hl)
theorem z_get (h : zR l cc nL Ts own R G ini Z) {C : String} {T : u_T} {N ci idx : Nat} {fs : List Value} {v : Value} {a : Nat} (q0 : Nat) (he : w[q0]? = some (a, .inr (ci, fs))) (hc : vwCl[ci]? = some (C, T, N)) (j : Nat) (hj : j < N) (hin : ∀ x ∈ u_ws C T N, x ∈ Ts) (hlk : Cond.fieldLink own idx (T j).1 (T j).2.1 (T j).2.2.1 ∈ Ts) (hv : fs[j]? = some v) (hd : decode cc pc = .ok (.getfield idx, 3)) (hp : pc + 3 = pc2) (kk : Z k n w lv pc2 (v :: st)) : Z k n w lv pc (.ref a :: st) := by
  obtain ⟨p, e, s, m, args, below, meth, c, A, Q, ⟨hx, hb, hml, hown, hts⟩, hK, hA, hini, rfl⟩ := h
  subst hp
  intro H locs hP hD hS ls hl
  exact va_get hx hb hts hin hown hK.1 hP q0 he hc j hj (hts _ hlk) (fun _ h9 => h9) hv hd (kk H locs hP hD hS ls hl)
theorem z_put (h : zR l cc nL Ts own R G ini Z) {C : String} {T : u_T} {N ci idx : Nat} {fs : List Value} {v : Value} {a : Nat} (q0 : Nat) (he : w[q0]? = some (a, .inr (ci, fs))) (hc : vwCl[ci]? = some (C, T, N)) (j : Nat) (hj : j < N) (hin : ∀ x ∈ u_ws C T N, x ∈ Ts) (hlk : Cond.fieldLink own idx (T j).1 (T j).2.1 (T j).2.2.1 ∈ Ts) (ty0 : Nat → FieldType) (hty : ∀ k, k < N → parseFieldDescriptor (T k).2.2.1 = some (ty0 k)) (hnm : ∀ a, a < N → ∀ b, b < N → a ≠ b → (T a).2.1 ≠ (T b).2.1) {w2 : va_W} (hfin : (T j).2.2.2 = false) (hn : narrow (ty0 j) v = v) (hfit : fits (ty0 j) v = true) (hfl : j < fs.length) (hw : w.set q0 (a, .inr (ci, fs.set j v)) = w2) (hd : decode cc pc = .ok (.putfield idx, 3)) (hp : pc + 3 = pc2) (kk : Z k n w2 lv pc2 st) : Z k n w lv pc (v :: .ref a :: st) := by
  obtain ⟨p, e, s, m, args, below, meth, c, A, Q, ⟨hx, hb, hml, hown, hts⟩, hK, hA, hini, rfl⟩ := h
  subst hp
  subst hw
  intro H locs hP hD hS ls hl
  exact va_put hx hb hts hin ty0 hty hnm hown hK.1 hP hD hS q0 he hc j hj (hts _ hlk) (fun _ h9 => h9) hfin (hty j hj) hn hfit hfl hd (fun H1 locs1 hP1 hD1 hS1 => kk H1 locs1 hP1 hD1 hS1 ls hl)
theorem z_putF (h : zR l cc nL Ts own R G ini Z) {C : String} {T : u_T} {N ci idx : Nat} {fs : List Value} {v : Value} {a : Nat} (q0 : Nat) (he : w[q0]? = some (a, .inr (ci, fs))) (hc : vwCl[ci]? = some (C, T, N)) (j : Nat) (hj : j < N) (hin : ∀ x ∈ u_ws C T N, x ∈ Ts) (hlk : Cond.fieldLink own idx (T j).1 (T j).2.1 (T j).2.2.1 ∈ Ts) (ty0 : Nat → FieldType) (hty : ∀ k, k < N → parseFieldDescriptor (T k).2.2.1 = some (ty0 k)) (hnm : ∀ a, a < N → ∀ b, b < N → a ≠ b → (T a).2.1 ≠ (T b).2.1) {w2 : va_W} (hfin : (T j).2.2.2 = true) (hi2 : ini = true) (hdecl : (T j).1 = own) (hn : narrow (ty0 j) v = v) (hfit : fits (ty0 j) v = true) (hfl : j < fs.length) (hw : w.set q0 (a, .inr (ci, fs.set j v)) = w2) (hd : decode cc pc = .ok (.putfield idx, 3)) (hp : pc + 3 = pc2) (kk : Z k n w2 lv pc2 st) : Z k n w lv pc (v :: .ref a :: st) := by
  obtain ⟨p, e, s, m, args, below, meth, c, A, Q, ⟨hx, hb, hml, hown, hts⟩, hK, hA, hini, rfl⟩ := h
  subst hp
  subst hw
  intro H locs hP hD hS ls hl
  exact va_putF hx hb hts hin ty0 hty hnm hown hK.1 hP hD hS q0 he hc j hj (hts _ hlk) (fun _ h9 => h9) hfin (hini hi2) hdecl (hty j hj) hn hfit hfl hd (fun H1 locs1 hP1 hD1 hS1 => kk H1 locs1 hP1 hD1 hS1 ls hl)
/-- an index within its array -/
def inb (i : Int32) (n : Nat) : Bool := decide (0 ≤ i.toInt ∧ i.toInt < n)
theorem inb_vp {i : Int32} {n : Nat} (h : inb i n = true) : vp_in i n := vp_in_iff.mpr (of_decide_eq_true h)
theorem z_iald (h : zR l cc nL Ts own R G ini Z) {cA : ClassId} {a N : Nat} {f : Nat → Int32} {i : Int32} (q0 : Nat) (ha : w[q0]? = some (a, .inl (cA, N, .inl f))) (ht : cA = G.2.1) (hi : inb i N = true) (hd : decode cc pc = .ok (.iaload, 1)) (hp : pc + 1 = pc2) (kk : Z k n w lv pc2 (.int (f i.toNatClampNeg) :: st)) : Z k n w lv pc (.int i :: .ref a :: st) := by
  obtain ⟨p, e, s, m, args, below, meth, c, A, Q, ⟨hx, hb, hml, hown, hts⟩, hK, hA, hini, rfl⟩ := h
  subst hp
  subst ht
  intro H locs hP hD hS ls hl
  exact va_iald hx hb hK.1 hP q0 0 ha rfl (inb_vp hi) hd (kk H locs hP hD hS ls hl)
theorem z_zald (h : zR l cc nL Ts own R G ini Z) {cA : ClassId} {a N : Nat} {f : Nat → Int32} {i : Int32} (q0 : Nat) (ha : w[q0]? = some (a, .inl (cA, N, .inl f))) (ht : cA = G.2.2.1) (hi : inb i N = true) (hd : decode cc pc = .ok (.baload, 1)) (hp : pc + 1 = pc2) (kk : Z k n w lv pc2 (.int (f i.toNatClampNeg) :: st)) : Z k n w lv pc (.int i :: .ref a :: st) := by
  obtain ⟨p, e, s, m, args, below, meth, c, A, Q, ⟨hx, hb, hml, hown, hts⟩, hK, hA, hini, rfl⟩ := h
  subst hp
  subst ht
  intro H locs hP hD hS ls hl
  exact va_zald hx hb hK.1 hP q0 1 ha rfl (inb_vp hi) hd (kk H locs hP hD hS ls hl)
theorem z_iast (h : zR l cc nL Ts own R G ini Z) {cA : ClassId} {a N : Nat} {f : Nat → Int32} {i x : Int32} {w2 : va_W} (q0 : Nat) (ha : w[q0]? = some (a, .inl (cA, N, .inl f))) (ht : cA = G.2.1) (hi : inb i N = true) (hd : decode cc pc = .ok (.iastore, 1)) (hw : w.set q0 (a, .inl (cA, N, .inl (upd f i.toNatClampNeg x))) = w2) (hp : pc + 1 = pc2) (kk : Z k n w2 lv pc2 st) : Z k n w lv pc (.int x :: .int i :: .ref a :: st) := by
  obtain ⟨p, e, s, m, args, below, meth, c, A, Q, ⟨hx, hb, hml, hown, hts⟩, hK, hA, hini, rfl⟩ := h
  subst hp
  subst hw
  subst ht
  intro H locs hP hD hS ls hl
  exact va_iast hx hb hK.1 hP hD hS q0 0 ha rfl (inb_vp hi) hd (fun H1 locs1 hP1 hD1 hS1 => kk H1 locs1 hP1 hD1 hS1 ls hl)
theorem z_zast (h : zR l cc nL Ts own R G ini Z) {cA : ClassId} {a N : Nat} {f : Nat → Int32} {i x : Int32} {w2 : va_W} (q0 : Nat) (ha : w[q0]? = some (a, .inl (cA, N, .inl f))) (ht : cA = G.2.2.1) (hi : inb i N = true) (hd : decode cc pc = .ok (.bastore, 1)) (hw : w.set q0 (a, .inl (cA, N, .inl (upd f i.toNatClampNeg (vp_nar .boolean x)))) = w2) (hp : pc + 1 = pc2) (kk : Z k n w2 lv pc2 st) : Z k n w lv pc (.int x :: .int i :: .ref a :: st) := by
  obtain ⟨p, e, s, m, args, below, meth, c, A, Q, ⟨hx, hb, hml, hown, hts⟩, hK, hA, hini, rfl⟩ := h
  subst hp
  subst hw
  subst ht
  intro H locs hP hD hS ls hl
  exact va_zast hx hb hK.1 hP hD hS q0 1 ha rfl (inb_vp hi) hd (fun H1 locs1 hP1 hD1 hS1 => kk H1 locs1 hP1 hD1 hS1 ls hl)
theorem z_aald (h : zR l cc nL Ts own R G ini Z) {cA : ClassId} {a N : Nat} {f : Nat → Option Nat} {i : Int32} (q0 : Nat) (ha : w[q0]? = some (a, .inl (cA, N, .inr (.inr (.inr (.inr f)))))) (ht : cA = G.2.2.2) (hi : inb i N = true) (hd : decode cc pc = .ok (.aaload, 1)) (hp : pc + 1 = pc2) (kk : Z k n w lv pc2 (va_rf (f i.toNatClampNeg) :: st)) : Z k n w lv pc (.int i :: .ref a :: st) := by
  obtain ⟨p, e, s, m, args, below, meth, c, A, Q, ⟨hx, hb, hml, hown, hts⟩, hK, hA, hini, rfl⟩ := h
  subst hp
  subst ht
  intro H locs hP hD hS ls hl
  exact va_aldq hx hb hK.1 hP q0 2 ha rfl (inb_vp hi) hd (kk H locs hP hD hS ls hl)
theorem z_aast (h : zR l cc nL Ts own R G ini Z) {cA : ClassId} {a N v : Nat} {vs : List Value} {f : Nat → Option Nat} {i : Int32} {w2 : va_W} (q0 qk : Nat) (ha : w[q0]? = some (a, .inl (cA, N, .inr (.inr (.inr (.inr f)))))) (ht : cA = G.2.2.2) (hv : w[qk]? = some (v, .inr (1, vs))) (hi : inb i N = true) (hd : decode cc pc = .ok (.aastore, 1)) (hw : w.set q0 (a, .inl (cA, N, .inr (.inr (.inr (.inr (va_up f i.toNatClampNeg (some v))))))) = w2) (hp : pc + 1 = pc2) (kk : Z k n w2 lv pc2 st) : Z k n w lv pc (.ref v :: .int i :: .ref a :: st) := by
  obtain ⟨p, e, s, m, args, below, meth, c, A, Q, ⟨hx, hb, hml, hown, hts⟩, hK, hA, hini, rfl⟩ := h
  subst hp
  subst hw
  subst ht
  intro H locs hP hD hS ls hl
  exact va_astq (r := (RX1, TX1, 2)) hx hb hK.1 hP hD hS q0 2 qk 1 ha rfl hv rfl (inb_vp hi) hd (fun H1 locs1 hP1 hD1 hS1 => kk H1 locs1 hP1 hD1 hS1 ls hl)
theorem z_new (h : zR l cc nL Ts own R G ini Z) {C : String} {T : u_T} {N idx : Nat} (ci : Nat) {fs : List Value} (hc : vwCl[ci]? = some (C, T, N)) (hin : ∀ x ∈ u_ws C T N, x ∈ Ts) (ty0 : Nat → FieldType) (hty : ∀ k, k < N → parseFieldDescriptor (T k).2.2.1 = some (ty0 k)) (h1 : Cond.classLink own idx C ∈ Ts) (h2 : Cond.instantiable C N ∈ Ts) (h3 : Cond.initialized C ∈ Ts) (hfs : ∀ j, j < N → defaultValue (ty0 j) = vp_V fs j) (hcells : k + 1 ≤ R.cells) (hslots : n + N ≤ R.slots) (hd : decode cc pc = .ok (.new idx, 3)) (hp : pc + 3 = pc2) (kk : ∀ q : Nat, Z (k + 1) (n + N) (w ++ [(q, .inr (ci, fs))]) lv pc2 (.ref q :: st)) : Z k n w lv pc st := by
  obtain ⟨p, e, s, m, args, below, meth, c, A, Q, ⟨hx, hb, hml, hown, hts⟩, hK, hA, hini, rfl⟩ := h
  subst hp
  intro H locs hP hD hS ls hl
  exact va_new hx hb hts hin ty0 hty hown (hts _ h1) (hts _ h2) (hts _ h3) hK.1 hP hD hS hA hc hfs hcells hslots hd (fun q H1 hP1 hD1 hS1 => kk q H1 locs hP1 hD1 hS1 ls hl)
theorem z_newI (h : zR l cc nL Ts own R G ini Z) {i : Int32} {N : Nat} (harr : Cond.arrayClass .int ∈ Ts) (hn : ¬ i < 0) (hN : i.toNatClampNeg = N) (hbytes : N * componentBytes .int ≤ 536870912) (hcells : k + 1 ≤ R.cells) (hslots : n + N ≤ R.slots) (hd : decode cc pc = .ok (.newarray .int, 2)) (hp : pc + 2 = pc2) (kk : ∀ q : Nat, Z (k + 1) (n + N) (w ++ [(q, .inl (G.2.1, N, .inl (fun _ => 0)))]) lv pc2 (.ref q :: st)) : Z k n w lv pc (.int i :: st) := by
  obtain ⟨p, e, s, m, args, below, meth, c, A, Q, ⟨hx, hb, hml, hown, hts⟩, hK, hA, hini, rfl⟩ := h
  subst hp
  intro H locs hP hD hS ls hl
  refine va_newa (atype := .int) (ty := .int) (a0 := (N, .inl (fun _ => 0))) hx hb (hts _ harr) rfl hK.1 hP hD hS hA (fun cA => rfl) hn hN hbytes hcells hslots hd (fun q cA H1 hK1 hP1 hD1 hS1 => ?_)
  have e1 : cA = G.2.1 := by
    have a1 := (hK1.2 3 (cA, .int) rfl).2
    have a2 := (hK.1.2 0 (G.2.1, .int) rfl).2
    exact Option.some.inj (Eq.trans (Eq.symm a1) a2)
  subst e1
  exact kk q H1 locs hP1 hD1 hS1 ls hl
theorem z_newZ (h : zR l cc nL Ts own R G ini Z) {i : Int32} {N : Nat} (harr : Cond.arrayClass .boolean ∈ Ts) (hn : ¬ i < 0) (hN : i.toNatClampNeg = N) (hbytes : N * componentBytes .boolean ≤ 536870912) (hcells : k + 1 ≤ R.cells) (hslots : n + N ≤ R.slots) (hd : decode cc pc = .ok (.newarray .boolean, 2)) (hp : pc + 2 = pc2) (kk : ∀ q : Nat, Z (k + 1) (n + N) (w ++ [(q, .inl (G.2.2.1, N, .inl (fun _ => 0)))]) lv pc2 (.ref q :: st)) : Z k n w lv pc (.int i :: st) := by
  obtain ⟨p, e, s, m, args, below, meth, c, A, Q, ⟨hx, hb, hml, hown, hts⟩, hK, hA, hini, rfl⟩ := h
  subst hp
  intro H locs hP hD hS ls hl
  refine va_newa (atype := .boolean) (ty := .boolean) (a0 := (N, .inl (fun _ => 0))) hx hb (hts _ harr) rfl hK.1 hP hD hS hA (fun cA => rfl) hn hN hbytes hcells hslots hd (fun q cA H1 hK1 hP1 hD1 hS1 => ?_)
  have e1 : cA = G.2.2.1 := by
    have a1 := (hK1.2 3 (cA, .boolean) rfl).2
    have a2 := (hK.1.2 1 (G.2.2.1, .boolean) rfl).2
    exact Option.some.inj (Eq.trans (Eq.symm a1) a2)
  subst e1
  exact kk q H1 locs hP1 hD1 hS1 ls hl
theorem z_newQ (h : zR l cc nL Ts own R G ini Z) {i : Int32} {idx N : Nat} (hcl : Cond.classLink own idx "ToupeeWind$Image" ∈ Ts) (hn : ¬ i < 0) (hN : i.toNatClampNeg = N) (hbytes : N * 4 ≤ 536870912) (hcells : k + 1 ≤ R.cells) (hslots : n + N ≤ R.slots) (hd : decode cc pc = .ok (.anewarray idx, 3)) (hp : pc + 3 = pc2) (kk : ∀ q : Nat, Z (k + 1) (n + N) (w ++ [(q, .inl (G.2.2.2, N, .inr (.inr (.inr (.inr (fun _ => none))))))]) lv pc2 (.ref q :: st)) : Z k n w lv pc (.int i :: st) := by
  obtain ⟨p, e, s, m, args, below, meth, c, A, Q, ⟨hx, hb, hml, hown, hts⟩, hK, hA, hini, rfl⟩ := h
  subst hp
  intro H locs hP hD hS ls hl
  refine va_newq (C := "ToupeeWind$Image") hx hb hown (hts _ hcl) hK.2.2 hK.1 hP hD hS hA hn hN hbytes hcells hslots hd (fun q cA H1 hK1 hP1 hD1 hS1 => ?_)
  have e1 : cA = G.2.2.2 := by
    obtain ⟨k1, c1, -, -, -, a1⟩ := (hK1.2 3 (cA, .object "ToupeeWind$Image") rfl).2
    obtain ⟨k2, c2, -, -, -, a2⟩ := (hK.1.2 2 (G.2.2.2, .object "ToupeeWind$Image") rfl).2
    exact Option.some.inj (Eq.trans (Eq.symm a1) a2)
  subst e1
  exact kk q H1 locs hP1 hD1 hS1 ls hl
theorem z_objInit (h : zR l cc nL Ts own R G ini Z) {idx a : Nat} (h1 : Cond.methodLink own idx objectInit ∈ Ts) (h2 : Cond.instanceMethod objectInit ∈ Ts) (h3 : Cond.code objectInit ⟨#[0xb1]⟩ 1 none ∈ Ts) (hd : decode cc pc = .ok (.invokespecial idx, 3)) (hf : 1 ≤ R.frames) (hlo : 12 ≤ R.locals) (hst : (st.map fun v => v.category).sum = 0) (hp : pc + 3 = pc2) (kk : Z k n w lv pc2 st) : Z k n w lv pc (.ref a :: st) := by
  obtain ⟨p, e, s, m, args, below, meth, c, A, Q, ⟨hx, hb, hml, hown, hts⟩, hK, hA, hini, rfl⟩ := h
  subst hp
  intro H locs hP hD hS ls hl
  refine W.objInit hx hb hown (hts _ h1) (hts _ h2) (hts _ h3) rfl (by rw [hml]; exact hl.1) rfl hd hf ?_ (kk H locs hP hD hS ls hl)
  have e0 : (F0 m pc ls (.ref a :: st)).monitorRoom = 0 := rfl
  rw [e0, hst]
  simpa using hlo
theorem z_copyi (h : zR l cc nL Ts own R G ini Z) {idx a0 a1 n0 n1 : Nat} {c0 c1 : ClassId} {f g : Nat → Int32} {i : Int32} {w2 : va_W} (N : Nat) (hN : i.toNatClampNeg = N) (h1 : Cond.methodLink own idx arraycopyName ∈ Ts) (h2 : Cond.native arraycopyName ∈ Ts) (h3 : Cond.static arraycopyName ∈ Ts) (h4 : Cond.initialized "java/lang/System" ∈ Ts) (q0 q1 : Nat) (ha0 : w[q0]? = some (a0, .inl (c0, n0, .inl f))) (ha1 : w[q1]? = some (a1, .inl (c1, n1, .inl g))) (e0 : c0 = G.2.1) (e1 : c1 = G.2.1) (hi : ¬ i < 0) (b0 : N ≤ n0) (b1 : N ≤ n1) (hfr : 1 ≤ R.frames) (hlo : (st.map fun v => v.category).sum + (nativeFrameWords "java/lang/System" "arraycopy" 5 + 11) ≤ R.locals) (hd : decode cc pc = .ok (.invokestatic idx, 3)) (hw : w.set q1 (a1, .inl (c1, n1, .inl (va_cpy f g 0 0 N))) = w2) (hp : pc + 3 = pc2) (kk : Z k n w2 lv pc2 st) : Z k n w lv pc (.int i :: .int 0 :: .ref a1 :: .int 0 :: .ref a0 :: st) := by
  obtain ⟨p, e, s, m, args, below, meth, c, A, Q, ⟨hx, hb, hml, hown, hts⟩, hK, hA, hini, rfl⟩ := h
  subst hp
  subst hw
  subst e0
  subst e1
  subst hN
  intro H locs hP hD hS ls hl
  exact va_copyi (ty := .int) hx hb (by rw [hml]; exact hl.1.symm) hown (hts _ h1) (hts _ h2) (hts _ h3) (hts _ h4) hK.1 hP hD hS q0 q1 0 0 ha0 ha1 rfl rfl rfl (by decide) (by decide) hi (by simpa using b0) (by simpa using b1) (fun _ _ => rfl) hfr hlo hd (fun H1 locs1 hP1 hD1 hS1 => kk H1 locs1 hP1 hD1 hS1 ls hl)
theorem z_mmax (h : zR l cc nL Ts own R G ini Z) {x y : Int32} {idx : Nat} (h1 : Cond.methodLink own idx Lib.Math.max.name ∈ Ts) (h2 : Cond.static Lib.Math.max.name ∈ Ts) (h3 : Cond.initialized "java/lang/Math" ∈ Ts) (h4 : Cond.code Lib.Math.max.name Lib.Math.max.code 2 (some .int) ∈ Ts) (hf : 1 ≤ R.frames) (hlo : (st.map fun v => v.category).sum + 13 ≤ R.locals) (hc : k ≤ R.cells) (hs : n ≤ R.slots) (hd : decode cc pc = .ok (.invokestatic idx, 3)) (hp : pc + 3 = pc2) (kk : Z k n w lv pc2 (.int (imax x y) :: st)) : Z k n w lv pc (.int y :: .int x :: st) := by
  obtain ⟨p, e, s, m, args, below, meth, c, A, Q, ⟨hx, hb, hml, hown, hts⟩, hK, hA, hini, rfl⟩ := h
  subst hp
  intro H locs hP hD hS ls hl
  exact va_mmax hx hb (by rw [hml]; exact hl.1.symm) hown (hts _ h1) (hts _ h2) (hts _ h3) (hts _ h4) hf hlo hc hs hd (kk H locs hP hD hS ls hl)
theorem z_mmin (h : zR l cc nL Ts own R G ini Z) {x y : Int32} {idx : Nat} (h1 : Cond.methodLink own idx Lib.Math.min.name ∈ Ts) (h2 : Cond.static Lib.Math.min.name ∈ Ts) (h3 : Cond.initialized "java/lang/Math" ∈ Ts) (h4 : Cond.code Lib.Math.min.name Lib.Math.min.code 2 (some .int) ∈ Ts) (hf : 1 ≤ R.frames) (hlo : (st.map fun v => v.category).sum + 13 ≤ R.locals) (hc : k ≤ R.cells) (hs : n ≤ R.slots) (hd : decode cc pc = .ok (.invokestatic idx, 3)) (hp : pc + 3 = pc2) (kk : Z k n w lv pc2 (.int (imin x y) :: st)) : Z k n w lv pc (.int y :: .int x :: st) := by
  obtain ⟨p, e, s, m, args, below, meth, c, A, Q, ⟨hx, hb, hml, hown, hts⟩, hK, hA, hini, rfl⟩ := h
  subst hp
  intro H locs hP hD hS ls hl
  exact va_mmin hx hb (by rw [hml]; exact hl.1.symm) hown (hts _ h1) (hts _ h2) (hts _ h3) (hts _ h4) hf hlo hc hs hd (kk H locs hP hD hS ls hl)
theorem z_mabs (h : zR l cc nL Ts own R G ini Z) {x : Int32} {idx : Nat} (h1 : Cond.methodLink own idx Lib.Math.abs.name ∈ Ts) (h2 : Cond.static Lib.Math.abs.name ∈ Ts) (h3 : Cond.initialized "java/lang/Math" ∈ Ts) (h4 : Cond.code Lib.Math.abs.name Lib.Math.abs.code 1 (some .int) ∈ Ts) (hf : 1 ≤ R.frames) (hlo : (st.map fun v => v.category).sum + 13 ≤ R.locals) (hc : k ≤ R.cells) (hs : n ≤ R.slots) (hd : decode cc pc = .ok (.invokestatic idx, 3)) (hp : pc + 3 = pc2) (kk : Z k n w lv pc2 (.int (iabs x) :: st)) : Z k n w lv pc (.int x :: st) := by
  obtain ⟨p, e, s, m, args, below, meth, c, A, Q, ⟨hx, hb, hml, hown, hts⟩, hK, hA, hini, rfl⟩ := h
  subst hp
  intro H locs hP hD hS ls hl
  exact va_mabs hx hb (by rw [hml]; exact hl.1.symm) hown (hts _ h1) (hts _ h2) (hts _ h3) (hts _ h4) hf hlo hc hs hd (kk H locs hP hD hS ls hl)
theorem z_fm {w wc : va_W} {is : List Nat} (h : is.map (fun i => w[i]?) = wc.map some) : is.filterMap (fun i => w[i]?) = wc := by
  have : is.filterMap (fun i => w[i]?) = (is.map (fun i => w[i]?)).filterMap id := by rw [List.filterMap_map]; rfl
  rw [this, h, List.filterMap_map]
  simp
theorem z_callV (h : zR l cc nL Ts own R G ini Z) {y : MethodName} {bytes : ByteArray} {maxL np idx : Nat} {ret : Option FieldType} {wd wd' : List Cond} {rm : Room} {wc wr : va_W} {RtC : Option Value → va_W → Prop} {b ci : Nat} {C : String} {T : u_T} {N : Nat} {fs : List Value} (As : List Value) (hM : zCt l y wd rm G wc (.ref b :: As) RtC) (g : GoodIn Ts (wsV own idx C y wd)) (hdy : y.cls = C ∧ y.cls ≠ "java/lang/invoke/MethodHandle" ∧ y.cls ≠ "java/lang/invoke/VarHandle" ∧ (parseMethodDescriptor y.desc).map (fun d => d.parameters.length) = some np) (q0 : Nat) (hq : wc[q0]? = some (b, .inr (ci, fs))) (hci : vwCl[ci]? = some (C, T, N)) {k2 n2 : Nat} (hw : wd = Cond.code y bytes maxL ret :: wd') (hR : rm.frames + 1 ≤ R.frames ∧ 8 + (maxL + 11) + rm.locals ≤ R.locals) (hcs : k + rm.cells ≤ R.cells ∧ n + rm.slots ≤ R.slots) (hk2 : k + rm.cells = k2) (hn3 : n + rm.slots = n2) (hn2 : As.length = np) (isC isR : List Nat) (hC : isC.map (fun i => w[i]?) = wc.map some) (hRr : isR.map (fun i => w[i]?) = wr.map some) (hnc : va_nd isC = true) (hnr : va_nd isR = true) (hdis : ∀ i ∈ isR, i ∉ isC) (hsum : (st.map fun v => v.category).sum ≤ 8) (hd : decode cc pc = .ok (.invokevirtual idx, 3)) {st0 : List Value} (hst0 : st0 = As.reverse ++ .ref b :: st) (hp : pc + 3 = pc2) (kk : ∀ (v : Option Value) (w1 : va_W), RtC v w1 → Z k2 n2 (wr ++ w1) lv pc2 (v.toList ++ st)) : Z k n w lv pc st0 := by
  obtain ⟨p, e, s, m, args, below, meth, c, A, Q, ⟨hx, hb, hml, hown, hts⟩, hK, hA, hini, rfl⟩ := h
  subst hp
  subst hst0
  subst hk2
  subst hn3
  intro H locs hP hD hS ls hl
  have hPc : va_P G.1 vwCl wc H := hP.sub isC (z_fm hC)
  have hDc : va_D A wc := hD.sub isC hnc hC
  have hFc := va_free (wc := wc) hD hS hA isC hC
  have hpre : ∀ U : State, U.heap = H → s.WarmedH U.vm → zPre G wc H.size (.ref b :: As) ((.ref b :: As)).toArray U := fun U hU hW => ⟨rfl, by rw [hU], by rw [hU]; exact hPc, hK.warm hW, hDc.weaken (fun _ _ _ _ => trivial)⟩
  have hrun : va_Run p l e R s m args below meth c H locs k n rm.cells rm.slots (F0 m pc ls (As.reverse ++ .ref b :: st)) st (zQ G RtC (va_A wc H.size) ((.ref b :: As)).toArray) (va_A wc H.size) := va_runV ⟨hx, hb, hml, hown, hts⟩ (hM H.size) (cwV np hts g hw rfl rfl hdy hR) ⟨zPre.blind, va_recv (q := (C, T, N)) hK.1 hPc hci hq, hpre⟩ rfl hn2 hl.1 rfl (lv_room hsum) hd hcs
  intro T hT X
  obtain ⟨v, st₀, t, T', L, h0, X', hL, e1, e2, ⟨⟨v', w1, hv, hRt, hP1, hD1⟩, hz, hk⟩, st2⟩ := hrun T hT X
  cases hv
  rw [h0] at hz hk
  rw [← e1] at hP1
  have hk' : ∀ q : Nat, q < H.size → ¬ va_A wc H.size q → T'.heap[q]? = H[q]? := fun q h1 h2 => by rw [e1]; exact hk q h1 h2
  obtain ⟨hP2, hD2⟩ := va_join (wr := wr) (w1 := w1) hP hD isC isR hC hRr hnr hdis hk' hFc hP1 hD1
  have hS2 : va_S A s.heap T'.heap (locs ++ L) := ⟨Nat.le_trans hS.1 (by rw [e1]; exact hz), fun q h1 h2 => by rw [hk' q (Nat.lt_of_lt_of_le h1 hS.1) (fun z => h2 (hFc q z))]; exact hS.2.1 q h1 h2, fun q hq => by
      rcases List.mem_append.mp hq with h | h
      · exact hS.2.2 q h
      · exact hFc _ (hL q h)⟩
  obtain ⟨t2, a1, b1⟩ := kk v w1 hRt T'.heap (locs ++ L) hP2 hD2 hS2 ls hl T' rfl X'
  exact ⟨t2, st2 t2 a1, b1⟩
theorem z_callS (h : zR l cc nL Ts own R G ini Z) {y : MethodName} {bytes : ByteArray} {maxL np idx : Nat} {ret : Option FieldType} {wd wd' : List Cond} {rm : Room} {wc wr : va_W} {RtC : Option Value → va_W → Prop}  (As : List Value) (hM : zCt l y wd rm G wc As RtC) (g : GoodIn Ts (va_wsS own idx y wd)) (hdy : y.cls ≠ "java/lang/invoke/MethodHandle" ∧ y.cls ≠ "java/lang/invoke/VarHandle" ∧ (parseMethodDescriptor y.desc).map (fun d => d.parameters.length) = some np) {k2 n2 : Nat} (hw : wd = Cond.code y bytes maxL ret :: wd') (hR : rm.frames + 1 ≤ R.frames ∧ 8 + (maxL + 11) + rm.locals ≤ R.locals) (hcs : k + rm.cells ≤ R.cells ∧ n + rm.slots ≤ R.slots) (hk2 : k + rm.cells = k2) (hn3 : n + rm.slots = n2) (hn2 : As.length = np) (isC isR : List Nat) (hC : isC.map (fun i => w[i]?) = wc.map some) (hRr : isR.map (fun i => w[i]?) = wr.map some) (hnc : va_nd isC = true) (hnr : va_nd isR = true) (hdis : ∀ i ∈ isR, i ∉ isC) (hsum : (st.map fun v => v.category).sum ≤ 8) (hd : decode cc pc = .ok (.invokestatic idx, 3)) {st0 : List Value} (hst0 : st0 = As.reverse ++ st) (hp : pc + 3 = pc2) (kk : ∀ (v : Option Value) (w1 : va_W), RtC v w1 → Z k2 n2 (wr ++ w1) lv pc2 (v.toList ++ st)) : Z k n w lv pc st0 := by
  obtain ⟨p, e, s, m, args, below, meth, c, A, Q, ⟨hx, hb, hml, hown, hts⟩, hK, hA, hini, rfl⟩ := h
  subst hp
  subst hst0
  subst hk2
  subst hn3
  intro H locs hP hD hS ls hl
  have hPc : va_P G.1 vwCl wc H := hP.sub isC (z_fm hC)
  have hDc : va_D A wc := hD.sub isC hnc hC
  have hFc := va_free (wc := wc) hD hS hA isC hC
  have hpre : ∀ U : State, U.heap = H → s.WarmedH U.vm → zPre G wc H.size As (As).toArray U := fun U hU hW => ⟨rfl, by rw [hU], by rw [hU]; exact hPc, hK.warm hW, hDc.weaken (fun _ _ _ _ => trivial)⟩
  have hrun : va_Run p l e R s m args below meth c H locs k n rm.cells rm.slots (F0 m pc ls (As.reverse ++ st)) st (zQ G RtC (va_A wc H.size) (As).toArray) (va_A wc H.size) := va_runS ⟨hx, hb, hml, hown, hts⟩ (hM H.size) (va_cwS np hts g hw rfl rfl hdy hR) ⟨zPre.blind, hpre⟩ rfl hn2 hl.1 rfl (lv_room hsum) hd hcs
  intro T hT X
  obtain ⟨v, st₀, t, T', L, h0, X', hL, e1, e2, ⟨⟨v', w1, hv, hRt, hP1, hD1⟩, hz, hk⟩, st2⟩ := hrun T hT X
  cases hv
  rw [h0] at hz hk
  rw [← e1] at hP1
  have hk' : ∀ q : Nat, q < H.size → ¬ va_A wc H.size q → T'.heap[q]? = H[q]? := fun q h1 h2 => by rw [e1]; exact hk q h1 h2
  obtain ⟨hP2, hD2⟩ := va_join (wr := wr) (w1 := w1) hP hD isC isR hC hRr hnr hdis hk' hFc hP1 hD1
  have hS2 : va_S A s.heap T'.heap (locs ++ L) := ⟨Nat.le_trans hS.1 (by rw [e1]; exact hz), fun q h1 h2 => by rw [hk' q (Nat.lt_of_lt_of_le h1 hS.1) (fun z => h2 (hFc q z))]; exact hS.2.1 q h1 h2, fun q hq => by
      rcases List.mem_append.mp hq with h | h
      · exact hS.2.2 q h
      · exact hFc _ (hL q h)⟩
  obtain ⟨t2, a1, b1⟩ := kk v w1 hRt T'.heap (locs ++ L) hP2 hD2 hS2 ls hl T' rfl X'
  exact ⟨t2, st2 t2 a1, b1⟩
theorem z_callSN (h : zR l cc nL Ts own R G ini Z) {y : MethodName} {bytes : ByteArray} {maxL np idx : Nat} {ret : Option FieldType} {wd wd' : List Cond} {rm : Room} {wc wr : va_W} {RtC : Option Value → va_W → Prop}  (As : List Value) (hM : zCt l y wd rm G wc As RtC) (g : GoodIn Ts wd) (hnl : (own, idx, y) ∈ zNest) (hi1 : Cond.initialized y.cls ∈ Ts) (hi2 : Cond.static y ∈ Ts) (hdy : y.cls ≠ "java/lang/invoke/MethodHandle" ∧ y.cls ≠ "java/lang/invoke/VarHandle" ∧ (parseMethodDescriptor y.desc).map (fun d => d.parameters.length) = some np) {k2 n2 : Nat} (hw : wd = Cond.code y bytes maxL ret :: wd') (hR : rm.frames + 1 ≤ R.frames ∧ 8 + (maxL + 11) + rm.locals ≤ R.locals) (hcs : k + rm.cells ≤ R.cells ∧ n + rm.slots ≤ R.slots) (hk2 : k + rm.cells = k2) (hn3 : n + rm.slots = n2) (hn2 : As.length = np) (isC isR : List Nat) (hC : isC.map (fun i => w[i]?) = wc.map some) (hRr : isR.map (fun i => w[i]?) = wr.map some) (hnc : va_nd isC = true) (hnr : va_nd isR = true) (hdis : ∀ i ∈ isR, i ∉ isC) (hsum : (st.map fun v => v.category).sum ≤ 8) (hd : decode cc pc = .ok (.invokestatic idx, 3)) {st0 : List Value} (hst0 : st0 = As.reverse ++ st) (hp : pc + 3 = pc2) (kk : ∀ (v : Option Value) (w1 : va_W), RtC v w1 → Z k2 n2 (wr ++ w1) lv pc2 (v.toList ++ st)) : Z k n w lv pc st0 := by
  obtain ⟨p, e, s, m, args, below, meth, c, A, Q, ⟨hx, hb, hml, hown, hts⟩, hK, hA, hini, rfl⟩ := h
  subst hp
  subst hst0
  subst hk2
  subst hn3
  intro H locs hP hD hS ls hl
  have hPc : va_P G.1 vwCl wc H := hP.sub isC (z_fm hC)
  have hDc : va_D A wc := hD.sub isC hnc hC
  have hFc := va_free (wc := wc) hD hS hA isC hC
  have hpre : ∀ U : State, U.heap = H → s.WarmedH U.vm → zPre G wc H.size As (As).toArray U := fun U hU hW => ⟨rfl, by rw [hU], by rw [hU]; exact hPc, hK.warm hW, hDc.weaken (fun _ _ _ _ => trivial)⟩
  have hrun : va_Run p l e R s m args below meth c H locs k n rm.cells rm.slots (F0 m pc ls (As.reverse ++ st)) st (zQ G RtC (va_A wc H.size) (As).toArray) (va_A wc H.size) := va_runSN ⟨hx, hb, hml, hown, hts⟩ (hM H.size) ⟨va_cnB np hts g hw rfl rfl (hK.2.1 _ hnl) (hts _ hi1) hdy hR, hts _ hi2, trivial⟩ ⟨zPre.blind, hpre⟩ rfl hn2 hl.1 rfl (lv_room hsum) hd hcs
  intro T hT X
  obtain ⟨v, st₀, t, T', L, h0, X', hL, e1, e2, ⟨⟨v', w1, hv, hRt, hP1, hD1⟩, hz, hk⟩, st2⟩ := hrun T hT X
  cases hv
  rw [h0] at hz hk
  rw [← e1] at hP1
  have hk' : ∀ q : Nat, q < H.size → ¬ va_A wc H.size q → T'.heap[q]? = H[q]? := fun q h1 h2 => by rw [e1]; exact hk q h1 h2
  obtain ⟨hP2, hD2⟩ := va_join (wr := wr) (w1 := w1) hP hD isC isR hC hRr hnr hdis hk' hFc hP1 hD1
  have hS2 : va_S A s.heap T'.heap (locs ++ L) := ⟨Nat.le_trans hS.1 (by rw [e1]; exact hz), fun q h1 h2 => by rw [hk' q (Nat.lt_of_lt_of_le h1 hS.1) (fun z => h2 (hFc q z))]; exact hS.2.1 q h1 h2, fun q hq => by
      rcases List.mem_append.mp hq with h | h
      · exact hS.2.2 q h
      · exact hFc _ (hL q h)⟩
  obtain ⟨t2, a1, b1⟩ := kk v w1 hRt T'.heap (locs ++ L) hP2 hD2 hS2 ls hl T' rfl X'
  exact ⟨t2, st2 t2 a1, b1⟩
end ZROWS
section ZINI
variable {l : Launch} {cc : ByteArray} {nL : Nat} {Ts : List Cond} {own : String} {R : Room} {G : zG} {ini : Bool} {Z : zT}
variable {k n : Nat} {w : va_W} {lv : List (Nat × Value)} {pc pc2 : Nat} {st : List Value}
theorem z_callI (h : zR l cc nL Ts own R G ini Z) {y : MethodName} {bytes : ByteArray} {maxL np idx : Nat} {wd wd' : List Cond} {rm : Room} {wc wr : va_W} {RtC : Option Value → va_W → Prop} {b : Nat} (As : List Value) (hM : zCt l y wd rm G wc (.ref b :: As) RtC) (g : GoodIn Ts wd) (hi0 : Cond.initialized y.cls ∈ Ts) (hi1 : Cond.methodLink own idx y ∈ Ts) (hi2 : Cond.instanceMethod y ∈ Ts) (hyi : y.name = "<init>") (hdy : y.cls ≠ "java/lang/invoke/MethodHandle" ∧ y.cls ≠ "java/lang/invoke/VarHandle" ∧ (parseMethodDescriptor y.desc).map (fun d => d.parameters.length) = some np) {k2 n2 : Nat} (hw : wd = Cond.code y bytes maxL none :: wd') (hR : rm.frames + 1 ≤ R.frames ∧ 8 + (maxL + 11) + rm.locals ≤ R.locals) (hcs : k + rm.cells ≤ R.cells ∧ n + rm.slots ≤ R.slots) (hk2 : k + rm.cells = k2) (hn3 : n + rm.slots = n2) (hn2 : As.length = np) (isC isR : List Nat) (hC : isC.map (fun i => w[i]?) = wc.map some) (hRr : isR.map (fun i => w[i]?) = wr.map some) (hnc : va_nd isC = true) (hnr : va_nd isR = true) (hdis : ∀ i ∈ isR, i ∉ isC) (hsum : (st.map fun v => v.category).sum ≤ 8) (hd : decode cc pc = .ok (.invokespecial idx, 3)) {st0 : List Value} (hst0 : st0 = As.reverse ++ .ref b :: st) (hp : pc + 3 = pc2) (kk : ∀ (v : Option Value) (w1 : va_W), RtC v w1 → Z k2 n2 (wr ++ w1) lv pc2 (v.toList ++ st)) : Z k n w lv pc st0 := by
  obtain ⟨p, e, s, m, args, below, meth, c, A, Q, ⟨hx, hb, hml, hown, hts⟩, hK, hA, hini, rfl⟩ := h
  subst hp
  subst hst0
  subst hk2
  subst hn3
  intro H locs hP hD hS ls hl
  have hPc : va_P G.1 vwCl wc H := hP.sub isC (z_fm hC)
  have hDc : va_D A wc := hD.sub isC hnc hC
  have hFc := va_free (wc := wc) hD hS hA isC hC
  have hpre : ∀ U : State, U.heap = H → s.WarmedH U.vm → zPre G wc H.size (.ref b :: As) ((.ref b :: As)).toArray U := fun U hU hW => ⟨rfl, by rw [hU], by rw [hU]; exact hPc, hK.warm hW, hDc.weaken (fun _ _ _ _ => trivial)⟩
  have hrun : va_Run p l e R s m args below meth c H locs k n rm.cells rm.slots (F0 m pc ls (As.reverse ++ .ref b :: st)) st (zQ G RtC (va_A wc H.size) ((.ref b :: As)).toArray) (va_A wc H.size) := va_runI ⟨hx, hb, hml, hown, hts⟩ (hM H.size) (cwI np hts g hw rfl rfl (hts _ hi0) (hts _ hi1) (hts _ hi2) hyi hdy hR) ⟨zPre.blind, hpre⟩ rfl hn2 hl.1 rfl (lv_room hsum) hd hcs
  intro T hT X
  obtain ⟨v, st₀, t, T', L, h0, X', hL, e1, e2, ⟨⟨v', w1, hv, hRt, hP1, hD1⟩, hz, hk⟩, st2⟩ := hrun T hT X
  cases hv
  rw [h0] at hz hk
  rw [← e1] at hP1
  have hk' : ∀ q : Nat, q < H.size → ¬ va_A wc H.size q → T'.heap[q]? = H[q]? := fun q h1 h2 => by rw [e1]; exact hk q h1 h2
  obtain ⟨hP2, hD2⟩ := va_join (wr := wr) (w1 := w1) hP hD isC isR hC hRr hnr hdis hk' hFc hP1 hD1
  have hS2 : va_S A s.heap T'.heap (locs ++ L) := ⟨Nat.le_trans hS.1 (by rw [e1]; exact hz), fun q h1 h2 => by rw [hk' q (Nat.lt_of_lt_of_le h1 hS.1) (fun z => h2 (hFc q z))]; exact hS.2.1 q h1 h2, fun q hq => by
      rcases List.mem_append.mp hq with h | h
      · exact hS.2.2 q h
      · exact hFc _ (hL q h)⟩
  obtain ⟨t2, a1, b1⟩ := kk v w1 hRt T'.heap (locs ++ L) hP2 hD2 hS2 ls hl T' rfl X'
  exact ⟨t2, st2 t2 a1, b1⟩
theorem z_callIN (h : zR l cc nL Ts own R G ini Z) {y : MethodName} {bytes : ByteArray} {maxL np idx : Nat} {wd wd' : List Cond} {rm : Room} {wc wr : va_W} {RtC : Option Value → va_W → Prop} {b : Nat} (As : List Value) (hM : zCt l y wd rm G wc (.ref b :: As) RtC) (g : GoodIn Ts wd) (hnl : (own, idx, y) ∈ zNest) (hi0 : Cond.initialized y.cls ∈ Ts) (hi2 : Cond.instanceMethod y ∈ Ts) (hyi : y.name = "<init>") (hdy : y.cls ≠ "java/lang/invoke/MethodHandle" ∧ y.cls ≠ "java/lang/invoke/VarHandle" ∧ (parseMethodDescriptor y.desc).map (fun d => d.parameters.length) = some np) {k2 n2 : Nat} (hw : wd = Cond.code y bytes maxL none :: wd') (hR : rm.frames + 1 ≤ R.frames ∧ 8 + (maxL + 11) + rm.locals ≤ R.locals) (hcs : k + rm.cells ≤ R.cells ∧ n + rm.slots ≤ R.slots) (hk2 : k + rm.cells = k2) (hn3 : n + rm.slots = n2) (hn2 : As.length = np) (isC isR : List Nat) (hC : isC.map (fun i => w[i]?) = wc.map some) (hRr : isR.map (fun i => w[i]?) = wr.map some) (hnc : va_nd isC = true) (hnr : va_nd isR = true) (hdis : ∀ i ∈ isR, i ∉ isC) (hsum : (st.map fun v => v.category).sum ≤ 8) (hd : decode cc pc = .ok (.invokespecial idx, 3)) {st0 : List Value} (hst0 : st0 = As.reverse ++ .ref b :: st) (hp : pc + 3 = pc2) (kk : ∀ (v : Option Value) (w1 : va_W), RtC v w1 → Z k2 n2 (wr ++ w1) lv pc2 (v.toList ++ st)) : Z k n w lv pc st0 := by
  obtain ⟨p, e, s, m, args, below, meth, c, A, Q, ⟨hx, hb, hml, hown, hts⟩, hK, hA, hini, rfl⟩ := h
  subst hp
  subst hst0
  subst hk2
  subst hn3
  intro H locs hP hD hS ls hl
  have hPc : va_P G.1 vwCl wc H := hP.sub isC (z_fm hC)
  have hDc : va_D A wc := hD.sub isC hnc hC
  have hFc := va_free (wc := wc) hD hS hA isC hC
  have hpre : ∀ U : State, U.heap = H → s.WarmedH U.vm → zPre G wc H.size (.ref b :: As) ((.ref b :: As)).toArray U := fun U hU hW => ⟨rfl, by rw [hU], by rw [hU]; exact hPc, hK.warm hW, hDc.weaken (fun _ _ _ _ => trivial)⟩
  have hrun : va_Run p l e R s m args below meth c H locs k n rm.cells rm.slots (F0 m pc ls (As.reverse ++ .ref b :: st)) st (zQ G RtC (va_A wc H.size) ((.ref b :: As)).toArray) (va_A wc H.size) := va_runIN ⟨hx, hb, hml, hown, hts⟩ (hM H.size) ⟨va_cnB np hts g hw rfl rfl (hK.2.1 _ hnl) (hts _ hi0) hdy hR, hyi, hts _ hi2⟩ ⟨zPre.blind, hpre⟩ rfl hn2 hl.1 rfl (lv_room hsum) hd hcs
  intro T hT X
  obtain ⟨v, st₀, t, T', L, h0, X', hL, e1, e2, ⟨⟨v', w1, hv, hRt, hP1, hD1⟩, hz, hk⟩, st2⟩ := hrun T hT X
  cases hv
  rw [h0] at hz hk
  rw [← e1] at hP1
  have hk' : ∀ q : Nat, q < H.size → ¬ va_A wc H.size q → T'.heap[q]? = H[q]? := fun q h1 h2 => by rw [e1]; exact hk q h1 h2
  obtain ⟨hP2, hD2⟩ := va_join (wr := wr) (w1 := w1) hP hD isC isR hC hRr hnr hdis hk' hFc hP1 hD1
  have hS2 : va_S A s.heap T'.heap (locs ++ L) := ⟨Nat.le_trans hS.1 (by rw [e1]; exact hz), fun q h1 h2 => by rw [hk' q (Nat.lt_of_lt_of_le h1 hS.1) (fun z => h2 (hFc q z))]; exact hS.2.1 q h1 h2, fun q hq => by
      rcases List.mem_append.mp hq with h | h
      · exact hS.2.2 q h
      · exact hFc _ (hL q h)⟩
  obtain ⟨t2, a1, b1⟩ := kk v w1 hRt T'.heap (locs ++ L) hP2 hD2 hS2 ls hl T' rfl X'
  exact ⟨t2, st2 t2 a1, b1⟩
theorem z_perm (h : zR l cc nL Ts own R G ini Z) {w2 : va_W} (is : List Nat) (hs : is.map (fun i => w[i]?) = w2.map some) (hnd : va_nd is = true) (kk : Z k n w2 lv pc st) : Z k n w lv pc st := by
  obtain ⟨p, e, s, m, args, below, meth, c, A, Q, ⟨hx, hb, hml, hown, hts⟩, hK, hA, hini, rfl⟩ := h
  intro H locs hP hD hS ls hl
  exact kk H locs (hP.sub is (z_fm hs)) (hD.sub is hnd hs) hS ls hl
theorem z_widen (h : zR l cc nL Ts own R G ini Z) {k2 n2 : Nat} (h1 : k ≤ k2) (h2 : n ≤ n2) (kk : Z k2 n2 w lv pc st) : Z k n w lv pc st := by
  obtain ⟨p, e, s, m, args, below, meth, c, A, Q, ⟨hx, hb, hml, hown, hts⟩, hK, hA, hini, rfl⟩ := h
  intro H locs hP hD hS ls hl
  exact W.widen h1 h2 (kk H locs hP hD hS ls hl)
end ZINI
/-- a guard: what must hold where the machine would throw -/
def gd {α : Type} (b : Bool) (x : Option α) : Option α := match b with
  | true => x
  | false => none
theorem gd_some {α : Type} {b : Bool} {x : Option α} {r : α} (h : gd b x = some r) : b = true ∧ x = some r := by
  cases b
  · cases h
  · exact ⟨rfl, h⟩
theorem gd_t {α : Type} {b : Bool} {x : Option α} (h : b = true) : gd b x = x := by subst h; rfl
theorem bd_some {α β : Type} {x : Option α} {f : α → Option β} {r : β} (h : x.bind f = some r) : ∃ v, x = some v ∧ f v = some r := by
  cases x with
  | none => cases h
  | some v => exact ⟨v, rfl, h⟩
theorem ite_t {α : Type} {c : Prop} {inst : Decidable c} {a b : Option α} {r : α} (h : (@ite _ c inst a b) = some r) (hc : c) : a = some r := by rw [if_pos hc] at h; exact h
theorem ite_f {α : Type} {c : Prop} {inst : Decidable c} {a b : Option α} {r : α} (h : (@ite _ c inst a b) = some r) (hc : ¬ c) : b = some r := by rw [if_neg hc] at h; exact h
theorem z_ti {x v : Int32} {a : Int} (ha : v.toInt = a) (h : ¬ x = v) : ¬ a = x.toInt := fun e => h (Int32.toInt_inj.mp (e.symm.trans ha.symm))
theorem z_tout {x : Int32} {lo hi : Int} (c : Nat) (hlo : -2147483648 ≤ lo) (hhi : hi < 2147483648) (hc : hi < lo + c) (h : ∀ j : Nat, j < c → ¬ x = Int32.ofInt (lo + j)) : x.toInt < lo ∨ hi < x.toInt := by
  rcases Int.lt_or_le x.toInt lo with h1 | h1
  · exact Or.inl h1
  · rcases Int.lt_or_le hi x.toInt with h2 | h2
    · exact Or.inr h2
    · refine absurd ?_ (h (x.toInt - lo).toNat (by omega))
      have e : lo + ((x.toInt - lo).toNat : Int) = x.toInt := by omega
      rw [e, Int32.ofInt_toInt]
/-- a fuel that no loop here needs -/
def zF : Nat := 100000
theorem nz_ne {y : Int32} (h : (y != 0) = true) : ¬ y = 0 := by simpa using h
theorem nz_neL {y : Int64} (h : (y != 0) = true) : ¬ y = 0 := by simpa using h
