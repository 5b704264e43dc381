/-! the abstract machine: values, heaps, their meaning -/
abbrev aV : Type := Int32 ⊕ (Nat ⊕ (Option Nat ⊕ Int64))
abbrev vI (x : Int32) : aV := .inl x
abbrev vS (i : Nat) : aV := .inr (.inl i)
abbrev vD (r : Option Nat) : aV := .inr (.inr (.inl r))
abbrev vJ (x : Int64) : aV := .inr (.inr (.inr x))
def cv (ad : Nat → Nat) (v : aV) : Value := match v with
  | .inl x => .int x
  | .inr (.inl i) => .ref (ad i)
  | .inr (.inr (.inl r)) => va_rf (r.map ad)
  | .inr (.inr (.inr x)) => .long x
abbrev aI : Type := Nat → Nat → Int32
abbrev aL : Type := Nat → Int64
abbrev aSh : Type := Nat ⊕ (FieldType × Nat)
abbrev aG : Type := Nat × (Nat → Option aSh) × (Nat → Nat → Option Nat)
abbrev aO : Type := Option aV ⊕ String
abbrev aQ : Type := aO → aG → aI → aL → Prop
/-- where an id lies: the script at b, the others from b0 on, in the order of their making -/
def qa (b b0 : Nat) (i : Nat) : Nat := match i with
  | 0 => b
  | i + 1 => b0 + i
def qA (b0 : Nat) : Nat → Prop := fun q => b0 ≤ q
def up2 {α : Type} (I : Nat → Nat → α) (i k : Nat) (v : α) : Nat → Nat → α := fun j m => if j = i ∧ m = k then v else I j m
def up1 {α : Type} (f : Nat → α) (i : Nat) (v : α) : Nat → α := fun j => if j = i then v else f j
abbrev qC : List vw_C := [(RX1, TX1, 8), (RX1, TX1, 8), (RX2, TX2, 4), (RX3, TX3, 9), (RX4, TX4, 3), (RX5, TX5, 5), (RX6, TX6, 1), (RX7, TX7, 8), (RX8, TX8, 7), (RX9, TX9, 54)]
def qt (ci : Nat) : Nat → FieldType := match ci with
  | 0 => tyX1
  | 1 => tyX1
  | 2 => tyX2
  | 3 => tyX3
  | 4 => tyX4
  | 5 => tyX5
  | 6 => tyX6
  | 7 => tyX7
  | 8 => tyX8
  | _ => tyX9
def isI (ty : FieldType) : Bool := match ty with
  | .int => true
  | .boolean => true
  | _ => false
def qF (ad : Nat → Nat) (I : aI) (R : Nat → Nat → Option Nat) (ci i k : Nat) : Value := if isI (qt ci k) = true then .int (I i k) else va_rf ((R i k).map ad)
def qE (ad : Nat → Nat) (I : aI) (R : Nat → Nat → Option Nat) (L : aL) (ty : FieldType) (i k : Nat) : Value := match ty with
  | .int => .int (I i k)
  | .boolean => .int (I i k)
  | .long => .long (L i)
  | _ => va_rf ((R i k).map ad)
/-- the script's cell: its numbers -/
def scr (a n : Nat) (f : Nat → Int32) (H : Heap) : Prop := ∃ cell : Cell, H[a]? = some cell ∧ cell.slots.size = n ∧ ∀ j, j < n → cell.slots[j]? = some (.int (f j))
/-- what a cell of the heap is, by its shape -/
def qc (D : va_G) (K : FieldType → ClassId) (ad : Nat → Nat) (R : Nat → Nat → Option Nat) (I : aI) (L : aL) (H : Heap) (i : Nat) (c : aSh) : Prop := match c with
  | .inl ci => ∃ r : vw_C, qC[ci]? = some r ∧ t_OB (ad i) (D.1 ci) r.2.2 (D.2 ci) H (qF ad I R ci i)
  | .inr (ty, n) => if i = 0 then ty = .int ∧ scr (ad i) n (I i) H else H[ad i]? = some (arrV (K ty) n (qE ad I R L ty i))
def qz (D : va_G) (K : FieldType → ClassId) (b b0 : Nat) (g : aG) (I : aI) (L : aL) (H : Heap) : Prop :=
  (qa b b0 g.1 = H.size ∧ 0 < g.1 ∧ ∀ i, g.1 ≤ i → g.2.1 i = none) ∧ ∀ (i : Nat) (c : aSh), g.2.1 i = some c → qc D K (qa b b0) g.2.2 I L H i c
def qTy : List FieldType := [.int, .boolean, .long, .object RX7, .object RX6]
def qStr : List (Nat × String) := [(148, "no such NAME"), (143, "too many TERMS, or too high a one"), (56, "no such op"), (146, "no such TERM"), (80, "no such kind"), (155, "no such LAYER, or twice"), (150, "steps is not 1 .. 2000"), (153, "a LAYER that is needed is not in the ORDER"), (115, "no such RESULT"), (163, "nothing of that number is told"), (124, "no RUN, or one that was OUT")]
def qNest : List (String × Nat × MethodName) := [(RX8, 17, yX3_init), (RX3, 11, yX5_init), (RX3, 20, yX2_init), (RX4, 17, yX6_init)]
def qExc : List String := ["java/lang/IndexOutOfBoundsException", "java/lang/UnsupportedOperationException", "java/lang/IllegalArgumentException", "java/lang/IllegalStateException"]
def qDecl : List MethodName := [⟨"java/lang/RuntimeException", "<init>", "()V"⟩, ⟨"java/lang/RuntimeException", "<init>", "(Ljava/lang/String;)V"⟩, ⟨"java/lang/Exception", "<init>", "()V"⟩, ⟨"java/lang/Exception", "<init>", "(Ljava/lang/String;)V"⟩, ⟨"java/lang/Throwable", "<init>", "()V"⟩, ⟨"java/lang/Throwable", "<init>", "(Ljava/lang/String;)V"⟩]
/-- what the tables say, of a state -/
def Kv (D : va_G) (K : FieldType → ClassId) (SA : Nat → Nat) (U : State) : Prop :=
  (∀ (c : Nat) (q : vw_C), qC[c]? = some q → u_Kn U q.1 q.2.1 q.2.2 (D.1 c) (D.2 c)) ∧ (∀ ty ∈ qTy, ArrOfT U (K ty) ty ∧ va_RA U (K ty) ty) ∧
  (∀ q ∈ qStr, vk_R RX8 q.1 q.2 (SA q.1) U) ∧ (∀ q ∈ qNest, va_Nw (.methodLinkNest q.1 q.2.1 q.2.2 RX8) U) ∧ (∀ E ∈ qExc, va_Nw (.castable E E) U) ∧ (∀ y ∈ qDecl, va_Nw (.declares y) U) ∧
  (∀ E ∈ qExc, ∀ F ∈ qExc, E ≠ F → va_Nc E F U) ∧ va_AO RX7 U ∧ va_AO RX6 U
def Kh (b b0 : Nat) (U : State) (H : Heap) : Prop := vx_Zq Bundle.tN "UNASSIGNED_STACK" Bundle.steD (qA b0) U H ∧ vx_Zq Bundle.tN "SUPPRESSED_SENTINEL" Bundle.listD (qA b0) U H ∧ b < b0 ∧ ∃ cell : Cell, H[b]? = some cell ∧ U.isArrayOf cell .int ∧ cell.vm ≠ .unknown
theorem Kv.warm {D : va_G} {K : FieldType → ClassId} {SA : Nat → Nat} {s U : State} (hW : s.WarmedH U.vm) (h : Kv D K SA s) : Kv D K SA U := by
  obtain ⟨h1, h2, h3, h4, h5, h6, h7, h8, h9⟩ := h
  have hA := hW.alike
  exact ⟨fun c q hq => u_Kn_moved hA (h1 c q hq), fun ty ht => ⟨arrOfT_moved hA (h2 ty ht).1, (h2 ty ht).2.moved hA⟩, fun q hq => (h3 q hq).warm hW, fun q hq => va_Nw.warmM hW (h4 q hq), fun E hE => va_Nw.warmC hW (h5 E hE), fun y hy => va_Nw.warmD hW (h6 y hy), fun E hE F hF n => (h7 E hE F hF n).moved hA, h8.moved hA, h9.moved hA⟩
theorem Kh.moved {b b0 : Nat} {s U : State} {H : Heap} (hA : s.vm.Alike U.vm) (h : Kh b b0 s H) : Kh b b0 U H := by
  obtain ⟨h1, h2, h3, cell, h4, h5, h6⟩ := h
  exact ⟨vx_Zq.moved hA h1, vx_Zq.moved hA h2, h3, cell, h4, State.isArrayOf_alike hA h5, h6⟩
theorem Kh.kept {b b0 : Nat} {s : State} {H H1 : Heap} (h : Kh b b0 s H) (hq : ∀ a : Nat, a < H.size → ¬ qA b0 a → H1[a]? = H[a]?) : Kh b b0 s H1 := by
  obtain ⟨h1, h2, h3, cell, h4, h5, h6⟩ := h
  exact ⟨h1.kept hq, h2.kept hq, h3, cell, by rw [hq b (Array.getElem?_eq_some_iff.mp h4).1 (Nat.not_le.mpr h3)]; exact h4, h5, h6⟩
/-- a row of code: where, what, how long, its number, its two places -/
abbrev aR : Type := Nat × Instr × Nat × Int32 × Nat × Nat
/-- a method: name, own class, bytes, locals, answer, handlers, rows -/
abbrev aM : Type := MethodName × ByteArray × Nat × Option FieldType × List (Nat × Nat × Nat × Nat) × List aR
abbrev aM.y (M : aM) : MethodName := M.1
abbrev aM.cc (M : aM) : ByteArray := M.2.1
abbrev aM.nL (M : aM) : Nat := M.2.2.1
abbrev aM.ret (M : aM) : Option FieldType := M.2.2.2.1
abbrev aM.hh (M : aM) : List (Nat × Nat × Nat × Nat) := M.2.2.2.2.1
abbrev aM.code (M : aM) : List aR := M.2.2.2.2.2
def Cx (D : va_G) (K : FieldType → ClassId) (b b0 : Nat) (SA : Nat → Nat) (M : aM) (d : Nat) (p : Program) (l : Launch) (R : Room) (s : State) (m : MethodId) (args : Array Value) (meth : Method) (c : Code) (mc ms : Nat) : Prop :=
  (p.tables.exec = Jvm.exec ∧ c.code = M.cc ∧ c.maxLocals = M.nL ∧ meth.sig.returnType = M.ret ∧ meth.locks = false ∧ s.vm.findClass M.y.cls = some m.cls ∧ meth.name = M.y.name) ∧
  (∀ w ∈ gT, w.before args s = true) ∧ l.stackTraces = false ∧ (d ≤ R.frames ∧ 40 * d ≤ R.locals ∧ mc ≤ R.cells ∧ ms ≤ R.slots) ∧ c.exceptionTable.toList = tableOf M.hh ∧ (b < b0 ∧ b0 ≤ s.heap.size) ∧ Kv D K SA s ∧ Kh b b0 s s.heap
def lH (ad : Nat → Nat) (ls : Array Slot) (nL : Nat) (lo : List (Option aV)) : Prop :=
  ls.size = nL ∧ lv_wf ls ∧ ∀ (k : Nat) (v : aV), lo[k]? = some (some v) → (cv ad v).category = 1 ∧ ls[k]? = some (.val (cv ad v))
def qQ (D : va_G) (K : FieldType → ClassId) (b b0 : Nat) (Q : aQ) : Array Value → State → Outcome → State → Prop := fun _ st o t =>
  (∃ (v : Option aV) (g : aG) (I : aI) (L : aL), o = .returned (v.map (cv (qa b b0))) ∧ Q (.inl v) g I L ∧ qz D K b b0 g I L t.heap) ∧ va_F (qA b0) st t
def qX (D : va_G) (K : FieldType → ClassId) (b b0 : Nat) (Q : aQ) : String → State → State → Prop := fun E st t =>
  ∃ (g : aG) (I : aI) (L : aL), Q (.inr E) g I L ∧ qz D K b b0 g I L t.heap ∧ va_F (qA b0) st t
/-- from every state that looks so the method comes to its end, with Q -/
def Ex (M : aM) (d kc ks : Nat) (Q : aQ) (pc : Nat) (lo : List (Option aV)) (st : List aV) (g : aG) (I : aI) (L : aL) : Prop :=
  ∀ (D : va_G) (K : FieldType → ClassId) (b b0 : Nat) (SA : Nat → Nat) (p : Program) (l : Launch) (e : Env) (R : Room) (s : State) (m : MethodId) (args : Array Value) (below : List Frame) (meth : Method) (c : Code) (H : Heap) (locs : List Loc) (cells slots mc ms : Nat) (ls : Array Slot),
    Cx D K b b0 SA M d p l R s m args meth c mc ms → cells + kc ≤ mc → slots + ks ≤ ms → qz D K b b0 g I L H → va_S (qA b0) s.heap H locs → lH (qa b b0) ls M.nL lo →
    W p l e R s m args below meth c H locs cells slots (vx_MQ below (qQ D K b b0 Q) (qX D K b b0 Q) args s mc ms (qA b0)) (F0 m pc ls (st.map (cv (qa b b0))))
/-- the words of a method: its code first -/
def aM.ws (M : aM) : List Cond := (if M.hh = [] then .code M.y M.cc M.nL M.ret else .codeWith M.y M.cc M.nL M.ret M.hh) :: gT
def rm (d kc ks : Nat) : Room := { frames := d, cells := kc, slots := ks, locals := 40 * d }
def mP (D : va_G) (K : FieldType → ClassId) (b b0 : Nat) (SA : Nat → Nat) (av : List aV) (g : aG) (I : aI) (L : aL) : Array Value → State → Prop := fun v U =>
  v = (av.map (cv (qa b b0))).toArray ∧ qz D K b b0 g I L U.heap ∧ (b < b0 ∧ b0 ≤ U.heap.size) ∧ Kv D K SA U ∧ Kh b b0 U U.heap
/-- a whole method -/
def Mx (M : aM) (d kc ks : Nat) (av : List aV) (g : aG) (I : aI) (L : aL) (Q : aQ) : Prop :=
  ∀ (D : va_G) (K : FieldType → ClassId) (b b0 : Nat) (SA : Nat → Nat) (l : Launch), l.stackTraces = false →
    vx_Met l M.y M.ws (rm d kc ks) (mP D K b b0 SA av g I L) (qQ D K b b0 Q) (qX D K b b0 Q) kc ks (qA b0)
