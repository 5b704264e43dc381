section
/-! ===== BEGIN words of one list among another's, by their places ===== -/
theorem goodIn_r {big : List Cond} (ws : List Cond) (ps : List Nat) (hp : ws = ps.filterMap (fun i => big[i]?)) (h : ws.all goodWord = true) : GoodIn big ws := by
  intro w hw
  have h1 := List.all_eq_true.mp h w hw
  rw [hp] at hw
  obtain ⟨i, -, hi⟩ := List.mem_filterMap.mp hw
  have hm : w ∈ big := by first | exact List.mem_of_getElem? hi | exact List.getElem?_mem hi
  exact ⟨hm, good_of_word h1⟩
theorem goodIn_app {big a b : List Cond} (ha : GoodIn big a) (hb : GoodIn big b) : GoodIn big (a ++ b) := fun w h => (List.mem_append.mp h).elim (ha w) (hb w)
theorem goodIn_ca {big a b : List Cond} {c : Cond} (ha : GoodIn big (c :: a)) (hb : GoodIn big b) : GoodIn big (c :: (a ++ b)) := fun w h => (List.mem_cons.mp h).elim (fun e => ha w (List.mem_cons.mpr (Or.inl e))) (fun h => (List.mem_append.mp h).elim (fun h => ha w (List.mem_cons.mpr (Or.inr h))) (hb w))
theorem goodIn_sub {big ws : List Cond} (hm : ∀ w ∈ ws, w ∈ big) (h : ws.all goodWord = true) : GoodIn big ws := fun w hw => ⟨hm w hw, good_of_word (List.all_eq_true.mp h w hw)⟩
/-! ===== END ===== -/

/-! ===== BEGIN exceptions that leave a method, and their catching by the caller (launches without stack traces) ===== -/
section VXA
/-! The laws vx_back, vx_callV, vx_callS, vx_callSW, vx_throw0, vx_throwS follow proofs of the library, with one case more: JvmDerived/Free/Laws.lean (Back.of_free), Shelf42/LK1.lean (callV, callS), Shelf/KitTraced.lean (throwNew0V, throwNewS). -/
/-- where a method has thrown q: the class by its name, the cell, what was written, the world -/
def vx_T (XC : String → State → State → Prop) (st : State) (q : Addr) (t : State) (mc ms : Nat) (free : Addr → Prop) : Prop :=
  ∃ (E : String) (ce : Cell) (L : List Loc), XC E st t ∧ t.heap[q]? = some ce ∧ ce.vm = .none ∧ st.vm.findClass E = some ce.cls ∧ st.WarmedH t.vm ∧ st.sameButNew ({ t with vm := st.vm } : State) L mc ms ∧ ∀ z ∈ L, free z.base
def vx_Q (Qc : Array Value → State → Outcome → State → Prop) (XC : String → State → State → Prop) (mc ms : Nat) (free : Addr → Prop) : Array Value → State → Outcome → State → Prop := fun a st o t =>
  (Qc a st o t ∧ ∃ L, FrameEnd st o t L mc ms ∧ ∀ q ∈ L, free q.base) ∨ ∃ q, o = .threw q ∧ vx_T XC st q t mc ms free
/-- a callee that returns or throws -/
def vx_Met (l : Launch) (y : MethodName) (ws : List Cond) (rm : Room) (Pc : Array Value → State → Prop) (Qc : Array Value → State → Outcome → State → Prop) (XC : String → State → State → Prop) (mc ms : Nat) (free : Addr → Prop) : Prop :=
  MetFree l y (headSpec ws rm) Pc (fun _ _ _ _ _ => True) (vx_Q Qc XC mc ms free)
def vx_Post (XC : String → State → State → Prop) (mc ms : Nat) (free : Addr → Prop) : Pt → Array Value → Addr → Pt → Prop := fun A a q B =>
  ∃ (g : JFrame) (mk : MethodId) (t : State) (L : List Loc) (E : String) (ce : Cell), B.U.heap = t.heap ∧ B.U.vm = t.vm ∧ XC E (A.U.calling g mk a) t ∧ t.heap[q]? = some ce ∧ ce.vm = .none ∧ A.U.vm.findClass E = some ce.cls ∧ B.locs = A.locs ++ L ∧ (∀ z ∈ L, free z.base) ∧ B.cells = A.cells + mc ∧ B.slots = A.slots + ms
def vx_Back (l : Launch) (R : Room) (p : Program) (e : Env) (below : List Frame) (s : State) (sargs : Array Value) (y : MethodName) (len W9 : Nat)
    (Pre : Pt → Array Value → Prop) (Post : Pt → Array Value → Option Value → Pt → Prop) (PostX : Pt → Array Value → Addr → Pt → Prop) : Prop :=
  ∀ (m : MethodId) (meth : Method) (c : Code) (A : Pt) (g : JFrame) (ig : Instr) (mk : MethodId) (a : Array Value),
    Stand p l e R s m sargs below meth c A.U A.locs A.cells A.slots → g.method = m → g.locals.size = c.maxLocals → decode c.code g.pc = .ok (ig, len) →
    2 * g.monitorRoom + (g.stack.map fun v => v.category).sum ≤ W9 → A.U.methodNamed? y = some mk → Pre A a →
    (∃ (v : Option Value) (B : Pt), Stand p l e R s m sargs below meth c B.U B.locs B.cells B.slots ∧ Post A a v B ∧
      Steps p.tables e below (doInvoke e (A.U.setTop g) [] mk a).1 (B.U.setTop { g with pc := g.pc + len, stack := v.toList ++ g.stack })) ∨
    (∃ (q : Addr) (B : Pt), Stand p l e R s m sargs below meth c B.U B.locs B.cells B.slots ∧ PostX A a q B ∧
      Steps p.tables e below (doInvoke e (A.U.setTop g) [] mk a).1 ((B.U.setTop g).pushFrame (.throwing q)))
section Payer
variable {l : Launch} {R : Room} {p : Program} {e : Env} {below : List Frame} {s : State} {sargs : Array Value} {y : MethodName} {len W9 : Nat}
theorem vx_back {ws : List Cond} {rm : Room} {Pc : Array Value → State → Prop} {Qc : Array Value → State → Outcome → State → Prop} {XC : String → State → State → Prop} {mc ms : Nat} {free : Addr → Prop} {bytes : ByteArray} {maxL : Nat} {ret : Option FieldType}
    (hM : vx_Met l y ws rm Pc Qc XC mc ms free) (hblind : FrameBlind Pc) (hrc : rm.cells = mc) (hrs : rm.slots = ms)
    (hframes : rm.frames + 1 ≤ R.frames) (hlocals : W9 + (maxL + 11) + rm.locals ≤ R.locals)
    (hws : ∀ w ∈ ws, ∀ a' U, s.WarmedH U.vm → w.before a' U = true) (hcode : Cond.code y bytes maxL ret ∈ ws) (hinit : ∀ a' U, s.WarmedH U.vm → (Cond.initialized y.cls).before a' U = true) :
    vx_Back l R p e below s sargs y len W9 (PreOf R mc ms Pc) (PostOf Qc mc ms free) (vx_Post XC mc ms free) := by
  intro m meth c A g ig mk a X hg hsize hdg hW hn hp
  have h1 : (headSpec ws rm).pre.before a A.U = true := atoms_intro fun w hw => hws w hw _ _ X.warmed
  have h2 : (Cond.code y bytes maxL ret).before a A.U = true := hws _ hcode _ _ X.warmed
  have h3 : (Cond.initialized y.cls).before a A.U = true := hinit _ _ X.warmed
  have h4 : A.cells + (headSpec ws rm).room.cells ≤ R.cells := by rw [show (headSpec ws rm).room.cells = mc from hrc]; exact hp.1
  have h5 : A.slots + (headSpec ws rm).room.slots ≤ R.slots := by rw [show (headSpec ws rm).room.slots = ms from hrs]; exact hp.2.1
  have hPc : Pc a (A.U.calling g mk a) := hblind _ _ _ _ hp.2.2
  obtain ⟨U, Ls, c0, s0⟩ := A
  dsimp only [Pt.U, Pt.locs, Pt.cells, Pt.slots] at h1 h2 h3 h4 h5 X hn hPc ⊢
  obtain ⟨methY, cY, hmY, hcY, -, hlY, -, -, -, -⟩ := Cond.code_spec hn h2
  obtain ⟨kY, hkY, -⟩ := className_of_methodNamed hn
  have hinitY : kY.init = .initialized := Cond.initialized_spec (findClass_of_methodNamed hn) hkY h3
  have h : At U g.method c below := by rw [hg]; exact X.here
  have hlocals9 : W9 + (maxL + 11) + (headSpec ws rm).room.locals ≤ R.locals := hlocals
  have happ : (headSpec ws rm).appliesLoose y e.platform (U.calling g mk a) = true :=
    Spec.appliesLoose_calling (g := g) h hdg hn hkY hinitY
      (X.room_calling (g := g) (R' := (headSpec ws rm).room) hsize hmY hcY hframes (by rw [hlY]; omega) h4 h5) h1
  obtain ⟨mid, hmid⟩ := h.above
  have hfr : (U.setTop g).frames = (.java g :: mid) ++ below := by rw [State.frames_setTop' g h.top, hmid]; rfl
  obtain ⟨o, s₂, hsteps, -, hend, hq⟩ := Steps.callFree hM p X.admits X.cas X.clock (acts := []) hfr happ hPc trivial
  have hq' : vx_Q Qc XC mc ms free a (U.calling g mk a) o s₂ := hq
  rw [State.frames_setTop' g h.top] at hend
  obtain ⟨g₀, hg0⟩ := Option.isSome_iff_exists.mp h.top
  obtain ⟨r, hr⟩ := State.topJava?_eq_some.mp hg0
  have hr' : (({ U with heap := s₂.heap, slotsUsed := s₂.slotsUsed } : State).setVm s₂.vm).frames = .java g₀ :: r := hr
  rcases hq' with ⟨hqc, L, hfe, hL⟩ | ⟨q, rfl, E, ce, L, hx, hce, hcv, hcl, hW₂, hsm, hL⟩
  · obtain ⟨⟨v, rfl⟩, hW₂, e2, q2, q3, q4, q5, q6⟩ := id hfe
    have e3 : s₂ = ({ (U.calling g mk a).setFrames s₂.frames with heap := s₂.heap, slotsUsed := s₂.slotsUsed } : State).setVm s₂.vm := by
      have : s₂ = ({ s₂ with vm := (U.calling g mk a).vm } : State).setVm s₂.vm := rfl
      rw [e2] at this
      exact this
    obtain ⟨c₂, i₂, len₂, hc₂, hd₂, hf₂⟩ := hend
    have hW' : U.WarmedH s₂.vm := hW₂
    have hcc : c₂ = c := by
      have h1 : s₂.code? g.method = U.code? g.method := by
        rw [State.code?_eq, State.code?_eq, hW'.alike.method?]
      exact Option.some.inj (hc₂.symm.trans (h1.trans h.code))
    subst hcc
    have hlen : len₂ = len := by rw [hdg] at hd₂; cases hd₂; rfl
    subst hlen
    have hs₂ : s₂ = (({ U with heap := s₂.heap, slotsUsed := s₂.slotsUsed } : State).setVm s₂.vm).setTop { g with pc := g.pc + len₂, stack := v.toList ++ g.stack } := by
      refine e3.trans ?_
      rw [hf₂, State.calling_eq h.top, State.setFrames_setFrames, State.setTop_of_frames _ hr', hr]
      rfl
    have hsame : U.sameButNew ({ U with heap := s₂.heap, slotsUsed := s₂.slotsUsed } : State) L mc ms := by
      refine ⟨?_, q2, q3, q4, q5, q6⟩
      obtain ⟨t, ht, -⟩ := State.frames_cons hr
      show ({ U with heap := s₂.heap, slotsUsed := s₂.slotsUsed } : State) = { U.setFrames U.frames with heap := s₂.heap, slotsUsed := s₂.slotsUsed }
      rw [State.setFrames_self ht]
    subst hg
    refine Or.inl ⟨v, ⟨(({ U with heap := s₂.heap, slotsUsed := s₂.slotsUsed } : State).setVm s₂.vm), Ls ++ L, c0 + mc, s0 + ms⟩,
      ⟨X.admits, X.cas, X.clock, X.frames, X.room, X.hears, X.method, X.code, (X.here.setHeapUsed s₂.heap s₂.slotsUsed).setVm hW'.alike, X.tail, State.WarmedH.trans X.warmed hW', X.limits, X.bytes, X.same.trans (hsame.setVm s.vm)⟩,
      ⟨g, mk, s₂, L, rfl, rfl, hqc, rfl, hL, rfl, rfl⟩, ?_⟩
    show Steps p.tables e below _ ((({ U with heap := s₂.heap, slotsUsed := s₂.slotsUsed } : State).setVm s₂.vm).setTop { g with pc := g.pc + len₂, stack := v.toList ++ g.stack })
    rw [← hs₂]
    exact hsteps
  · obtain ⟨e2, q2, q3, q4, q5, q6⟩ := id hsm
    have e3 : s₂ = ({ (U.calling g mk a).setFrames s₂.frames with heap := s₂.heap, slotsUsed := s₂.slotsUsed } : State).setVm s₂.vm := by
      have : s₂ = ({ s₂ with vm := (U.calling g mk a).vm } : State).setVm s₂.vm := rfl
      rw [e2] at this
      exact this
    have hf₂ : s₂.frames = .throwing q :: .java g :: U.frames.tail := hend
    have hW' : U.WarmedH s₂.vm := hW₂
    have hs₂ : s₂ = ((({ U with heap := s₂.heap, slotsUsed := s₂.slotsUsed } : State).setVm s₂.vm).setTop g).pushFrame (.throwing q) := by
      refine e3.trans ?_
      rw [hf₂, State.calling_eq h.top, State.setFrames_setFrames, State.pushFrame, State.frames_setTop _ hr', State.setTop_of_frames _ hr', State.setFrames_setFrames, hr]
      rfl
    have hsame : U.sameButNew ({ U with heap := s₂.heap, slotsUsed := s₂.slotsUsed } : State) L mc ms := by
      refine ⟨?_, q2, q3, q4, q5, q6⟩
      obtain ⟨t, ht, -⟩ := State.frames_cons hr
      show ({ U with heap := s₂.heap, slotsUsed := s₂.slotsUsed } : State) = { U.setFrames U.frames with heap := s₂.heap, slotsUsed := s₂.slotsUsed }
      rw [State.setFrames_self ht]
    subst hg
    refine Or.inr ⟨q, ⟨(({ U with heap := s₂.heap, slotsUsed := s₂.slotsUsed } : State).setVm s₂.vm), Ls ++ L, c0 + mc, s0 + ms⟩,
      ⟨X.admits, X.cas, X.clock, X.frames, X.room, X.hears, X.method, X.code, (X.here.setHeapUsed s₂.heap s₂.slotsUsed).setVm hW'.alike, X.tail, State.WarmedH.trans X.warmed hW', X.limits, X.bytes, X.same.trans (hsame.setVm s.vm)⟩,
      ⟨g, mk, s₂, L, E, ce, rfl, rfl, hx, hce, hcv, hcl, rfl, hL, rfl, rfl⟩, ?_⟩
    show Steps p.tables e below _ (((({ U with heap := s₂.heap, slotsUsed := s₂.slotsUsed } : State).setVm s₂.vm).setTop g).pushFrame (.throwing q))
    rw [← hs₂]
    exact hsteps
end Payer
section Calls
variable {p : Program} {l : Launch} {e : Env} {R : Room} {s : State} {m : MethodId} {args : Array Value} {below : List Frame} {meth : Method} {c : Code} {T : State} {locs : List Loc} {cells slots : Nat}
theorem vx_callV (X : Stand p l e R s m args below meth c T locs cells slots) (hexec : p.tables.exec = Jvm.exec) {own C : String} {index : Nat} {y : MethodName} {bytes : ByteArray} {maxL : Nat} {ret : Option FieldType}
    (hown : s.vm.findClass own = some m.cls) (hlink : (Cond.methodLink own index y).before args s = true) (hinst : (Cond.instanceMethod y).before args s = true) (hsel : (Cond.selects C y y).before args s = true)
    (hcode : (Cond.code y bytes maxL ret).before args s = true) (hy : y.cls ≠ "java/lang/invoke/MethodHandle" ∧ y.cls ≠ "java/lang/invoke/VarHandle")
    {W9 : Nat} {Pre : Pt → Array Value → Prop} {Post : Pt → Array Value → Option Value → Pt → Prop} {PostX : Pt → Array Value → Addr → Pt → Prop} (hK : vx_Back l R p e below s args y 3 W9 Pre Post PostX)
    {b : Addr} {cellB : Cell} (hcell : T.heap[b]? = some cellB) (hobj : cellB.vm.isStatics = false) (hcls : s.vm.findClass C = some cellB.cls)
    {g : JFrame} (hg : g.method = m) (hsize : g.locals.size = c.maxLocals) {argsL rest : List Value} (hlen : ∀ sig, parseMethodDescriptor y.desc = some sig → argsL.length = sig.parameters.length)
    (hstack : g.stack = argsL.reverse ++ .ref b :: rest) (hW : 2 * g.monitorRoom + (rest.map fun v => v.category).sum ≤ W9) (hdg : decode c.code g.pc = .ok (.invokevirtual index, 3))
    (hpre : ∀ vm₁, s.WarmedH vm₁ → Pre ⟨T.setVm vm₁, locs, cells, slots⟩ (Value.ref b :: argsL).toArray) :
    (∃ (v : Option Value) (vm₁ : Vm) (B : Pt), s.WarmedH vm₁ ∧ Stand p l e R s m args below meth c B.U B.locs B.cells B.slots ∧ Post ⟨T.setVm vm₁, locs, cells, slots⟩ (Value.ref b :: argsL).toArray v B ∧
      ∀ target, Steps p.tables e below (B.U.setTop { g with pc := g.pc + 3, stack := v.toList ++ rest }) target → Steps p.tables e below (T.setTop g) target) ∨
    (∃ (q : Addr) (vm₁ : Vm) (B : Pt), s.WarmedH vm₁ ∧ Stand p l e R s m args below meth c B.U B.locs B.cells B.slots ∧ PostX ⟨T.setVm vm₁, locs, cells, slots⟩ (Value.ref b :: argsL).toArray q B ∧
      Steps p.tables e below (T.setTop g) ((B.U.setTop { g with stack := rest }).pushFrame (.throwing q))) := by
  obtain ⟨mk, methM, hnamed, hmethM, hstM, habM⟩ := Cond.instanceMethod_spec hinst
  obtain ⟨methM', cM, hmethM', -, -, -, -, -, -, hsigM⟩ := Cond.code_spec hnamed hcode
  cases hmethM.symm.trans hmethM'
  obtain ⟨c2, r2, m2, q1, q2, q3, q4, kP, hkP, hkPi⟩ := Cond.selects_spec hsel
  cases hcls.symm.trans q1
  cases (State.methodFound?_of_named hnamed hy).symm.trans q2
  cases hnamed.symm.trans q3
  have hselP : selectMethod e.platform s.vm cellB.cls mk = .method mk := by rw [Launch.admits_selectMethod X.admits]; exact q4
  obtain ⟨vm₁, X₁, hstep₁⟩ := X.invokevirtual hexec hown hlink hnamed hmethM hstM hkP hkPi hy (a := b) (cell := cellB) hcell
    (fun z h => by rw [h] at hobj; cases hobj) hselP hmethM habM hkP hkPi (g := g) hg (argsL := argsL) (rest := rest) (hlen _ hsigM) hstack hdg
  rcases hK m meth c ⟨T.setVm vm₁, locs, cells, slots⟩ { g with stack := rest } (.invokevirtual index) mk (Value.ref b :: argsL).toArray X₁ hg hsize hdg hW (X₁.named hnamed) (hpre vm₁ X₁.warmed) with ⟨v, B, X', hpost, hsteps⟩ | ⟨q, B, X', hpost, hsteps⟩
  · exact Or.inl ⟨v, vm₁, B, X₁.warmed, X', hpost, fun target h => hstep₁ _ fun acts => by rw [doInvoke_state]; exact hsteps.trans h⟩
  · exact Or.inr ⟨q, vm₁, B, X₁.warmed, X', hpost, hstep₁ _ fun acts => by rw [doInvoke_state]; exact hsteps⟩
theorem vx_callS (X : Stand p l e R s m args below meth c T locs cells slots) (hexec : p.tables.exec = Jvm.exec) {own : String} {index : Nat} {y : MethodName} {bytes : ByteArray} {maxL : Nat} {ret : Option FieldType}
    (hown : s.vm.findClass own = some m.cls) (hlink : (Cond.methodLink own index y).before args s = true) (hstat : (Cond.static y).before args s = true) (hinit : (Cond.initialized y.cls).before args s = true)
    (hcode : (Cond.code y bytes maxL ret).before args s = true) (hy : y.cls ≠ "java/lang/invoke/MethodHandle" ∧ y.cls ≠ "java/lang/invoke/VarHandle")
    {W9 : Nat} {Pre : Pt → Array Value → Prop} {Post : Pt → Array Value → Option Value → Pt → Prop} {PostX : Pt → Array Value → Addr → Pt → Prop} (hK : vx_Back l R p e below s args y 3 W9 Pre Post PostX)
    {g : JFrame} (hg : g.method = m) (hsize : g.locals.size = c.maxLocals) {argsL rest : List Value} (hlen : ∀ sig, parseMethodDescriptor y.desc = some sig → argsL.length = sig.parameters.length)
    (hstack : g.stack = argsL.reverse ++ rest) (hW : 2 * g.monitorRoom + (rest.map fun v => v.category).sum ≤ W9) (hdg : decode c.code g.pc = .ok (.invokestatic index, 3))
    (hpre : ∀ vm₁, s.WarmedH vm₁ → Pre ⟨T.setVm vm₁, locs, cells, slots⟩ argsL.toArray) :
    (∃ (v : Option Value) (vm₁ : Vm) (B : Pt), s.WarmedH vm₁ ∧ Stand p l e R s m args below meth c B.U B.locs B.cells B.slots ∧ Post ⟨T.setVm vm₁, locs, cells, slots⟩ argsL.toArray v B ∧
      ∀ target, Steps p.tables e below (B.U.setTop { g with pc := g.pc + 3, stack := v.toList ++ rest }) target → Steps p.tables e below (T.setTop g) target) ∨
    (∃ (q : Addr) (vm₁ : Vm) (B : Pt), s.WarmedH vm₁ ∧ Stand p l e R s m args below meth c B.U B.locs B.cells B.slots ∧ PostX ⟨T.setVm vm₁, locs, cells, slots⟩ argsL.toArray q B ∧
      Steps p.tables e below (T.setTop g) ((B.U.setTop { g with stack := rest }).pushFrame (.throwing q))) := by
  obtain ⟨mk, hnamed⟩ := Cond.code_named hcode
  obtain ⟨methM, cM, hmethM, -, -, -, -, -, -, hsigM⟩ := Cond.code_spec hnamed hcode
  have hstatic : methM.isStatic = true := Cond.static_spec hnamed hmethM hstat
  obtain ⟨kP, hkP, -⟩ := className_of_methodNamed hnamed
  have hinitP : kP.init = .initialized := Cond.initialized_spec (findClass_of_methodNamed hnamed) hkP hinit
  obtain ⟨vm₁, X₁, hstep₁⟩ := X.invokestatic hexec hown hlink hnamed hmethM hstatic hkP hinitP hy (g := g) hg (argsL := argsL) (rest := rest) (hlen _ hsigM) hstack hdg
  rcases hK m meth c ⟨T.setVm vm₁, locs, cells, slots⟩ { g with stack := rest } (.invokestatic index) mk argsL.toArray X₁ hg hsize hdg hW (X₁.named hnamed) (hpre vm₁ X₁.warmed) with ⟨v, B, X', hpost, hsteps⟩ | ⟨q, B, X', hpost, hsteps⟩
  · exact Or.inl ⟨v, vm₁, B, X₁.warmed, X', hpost, fun target h => hstep₁ _ fun acts => by rw [doInvoke_state]; exact hsteps.trans h⟩
  · exact Or.inr ⟨q, vm₁, B, X₁.warmed, X', hpost, hstep₁ _ fun acts => by rw [doInvoke_state]; exact hsteps⟩
end Calls
theorem vx_cls {s : State} {T : State} {vm₁ : Vm} {E : String} {k : ClassId} (hW : s.WarmedH vm₁) (h : (T.setVm vm₁).vm.findClass E = some k) : s.vm.findClass E = some k := by
  have h1 : vm₁.findClass E = some k := h
  rw [hW.alike.findClass] at h1
  exact h1
/-- the method's frame g, with q thrown over it -/
def vx_W (p : Program) (l : Launch) (e : Env) (R : Room) (s : State) (m : MethodId) (args : Array Value) (below : List Frame) (meth : Method) (c : Code) (H : Heap) (locs : List Loc) (cells slots : Nat) (Q : State → Prop) (g : JFrame) (q : Addr) : Prop :=
  ∀ T : State, T.heap = H → Stand p l e R s m args below meth c T locs cells slots → ∃ t, Steps p.tables e below ((T.setTop g).pushFrame (.throwing q)) t ∧ Q t
def vx_Run (p : Program) (l : Launch) (e : Env) (R : Room) (s : State) (m : MethodId) (args : Array Value) (below : List Frame) (meth : Method) (c : Code) (H : Heap) (locs : List Loc) (cells slots mc ms : Nat) (g : JFrame) (rest : List Value) (Qa : State → Outcome → State → Prop) (XC : String → State → State → Prop) (free : Addr → Prop) : Prop :=
  ∀ T : State, T.heap = H → Stand p l e R s m args below meth c T locs cells slots →
    (∃ (v : Option Value) (st₀ t T' : State) (L : List Loc), st₀.heap = H ∧ Stand p l e R s m args below meth c T' (locs ++ L) (cells + mc) (slots + ms) ∧ (∀ q ∈ L, free q.base) ∧ T'.heap = t.heap ∧ T'.vm = t.vm ∧ Qa st₀ (.returned v) t ∧
      Goes p e below T g T' { g with pc := g.pc + 3, stack := v.toList ++ rest }) ∨
    (∃ (q : Addr) (st₀ t T' : State) (L : List Loc) (E : String) (ce : Cell), st₀.heap = H ∧ Stand p l e R s m args below meth c T' (locs ++ L) (cells + mc) (slots + ms) ∧ (∀ z ∈ L, free z.base) ∧ T'.heap = t.heap ∧ T'.vm = t.vm ∧ XC E st₀ t ∧ t.heap[q]? = some ce ∧ ce.vm = .none ∧ s.vm.findClass E = some ce.cls ∧
      Steps p.tables e below (T.setTop g) ((T'.setTop { g with stack := rest }).pushFrame (.throwing q)))
def vx_X {S : Type} (px : S → Prop) (B : String → S → State → Prop) (A : Nat → Prop) : String → State → State → Prop := fun E st t => ∃ u : S, px u ∧ B E u t ∧ va_F A st t
section Runs
variable {p : Program} {l : Launch} {e : Env} {R : Room} {s : State} {m : MethodId} {args : Array Value} {below : List Frame} {meth : Method} {c : Code} {H : Heap} {locs : List Loc} {cells slots : Nat}
variable {y : MethodName} {bytes cc : ByteArray} {maxL nL mc ms n index : Nat} {ret : Option FieldType} {ws : List Cond} {rm : Room} {Pc : Array Value → State → Prop} {Qc : Array Value → State → Outcome → State → Prop} {XC : String → State → State → Prop} {free : Addr → Prop} {Ts : List Cond} {own C : String} {b : Addr} {As rest : List Value} {g : JFrame}
theorem vx_callBack (cb : CallB R s args own index y bytes maxL ret ws rm mc ms n) (hM : vx_Met l y ws rm Pc Qc XC mc ms free) (hbl : FrameBlind Pc) : vx_Back l R p e below s args y 3 8 (PreOf R mc ms Pc) (PostOf Qc mc ms free) (vx_Post XC mc ms free) := by
  obtain ⟨hrc, hrs, hfr, hlo, hws, hcw, -, hini, -⟩ := cb
  exact vx_back (bytes := bytes) (maxL := maxL) (ret := ret) hM hbl hrc hrs hfr hlo hws hcw (fun a' U hW => word_at hW (Or.inl (by first | rfl | simp [Cond.onTables, Cond.keeps, Cond.steady])) hini)
theorem vx_runV (S : CallFix p m c cc nL s args Ts own) (hM : vx_Met l y ws rm Pc Qc XC mc ms free) (cw : CallW R s args own C index y bytes maxL ret ws rm mc ms n) (hp : PreV s H C b Pc As)
    (hg : g.method = m) (hn : As.length = n) (hsize : g.locals.size = nL) (hstack : g.stack = As.reverse ++ .ref b :: rest) (hW : 2 * g.monitorRoom + (rest.map fun v => v.category).sum ≤ 8) (hdg : decode cc g.pc = .ok (.invokevirtual index, 3)) (hf : cells + mc ≤ R.cells ∧ slots + ms ≤ R.slots) :
    vx_Run p l e R s m args below meth c H locs cells slots mc ms g rest (Qc (Value.ref b :: As).toArray) XC free := by
  have hK : vx_Back l R p e below s args y 3 8 (PreOf R mc ms Pc) (PostOf Qc mc ms free) (vx_Post XC mc ms free) := vx_callBack cw.1 hM hp.1
  obtain ⟨⟨-, -, -, -, -, -, hcode, -, hy, hlen, hl⟩, hin, hse⟩ := cw
  obtain ⟨hx, hb, hml, ho, -⟩ := S
  obtain ⟨-, ⟨cellB, hcB, hoB, hclB⟩, hPc⟩ := hp
  intro T hT X
  rcases vx_callV X hx (C := C) (bytes := bytes) (maxL := maxL) (ret := ret) ho hl hin hse hcode hy hK (by rw [hT]; exact hcB) hoB hclB hg (hsize.trans hml.symm) (argsL := As) (rest := rest) (fun sig h => hn.trans (hlen sig h)) hstack hW (by rw [hb]; exact hdg)
    (fun vm₁ hW₁ => ⟨hf.1, hf.2, hPc (T.setVm vm₁) hT hW₁⟩) with ⟨v, vm₁, ⟨U', l2, c2, s2⟩, hW₁, X', ⟨g', mk, t, L, e1, e2, hq, h1, hL, h2, h3⟩, st⟩ | ⟨q, vm₁, ⟨U', l2, c2, s2⟩, hW₁, X', ⟨g', mk, t, L, E, ce, e1, e2, hq, hce, hcv, hcl, h1, hL, h2, h3⟩, st⟩
  · dsimp only [Pt.U, Pt.locs, Pt.cells, Pt.slots] at X' e1 e2 h1 h2 h3 st
    subst h1; subst h2; subst h3
    exact Or.inl ⟨v, (T.setVm vm₁).calling g' mk (Value.ref b :: As).toArray, t, U', L, hT, X', hL, e1, e2, hq, st⟩
  · dsimp only [Pt.U, Pt.locs, Pt.cells, Pt.slots] at X' e1 e2 h1 h2 h3 st hcl
    subst h1; subst h2; subst h3
    exact Or.inr ⟨q, (T.setVm vm₁).calling g' mk (Value.ref b :: As).toArray, t, U', L, E, ce, hT, X', hL, e1, e2, hq, hce, hcv, vx_cls hW₁ hcl, st⟩
theorem vx_runS (S : CallFix p m c cc nL s args Ts own) (hM : vx_Met l y ws rm Pc Qc XC mc ms free) (cw : CallB R s args own index y bytes maxL ret ws rm mc ms n ∧ (Cond.static y).before args s = true) (hp : PreS s H Pc As)
    (hg : g.method = m) (hn : As.length = n) (hsize : g.locals.size = nL) (hstack : g.stack = As.reverse ++ rest) (hW : 2 * g.monitorRoom + (rest.map fun v => v.category).sum ≤ 8) (hdg : decode cc g.pc = .ok (.invokestatic index, 3)) (hf : cells + mc ≤ R.cells ∧ slots + ms ≤ R.slots) :
    vx_Run p l e R s m args below meth c H locs cells slots mc ms g rest (Qc As.toArray) XC free := by
  have hK : vx_Back l R p e below s args y 3 8 (PreOf R mc ms Pc) (PostOf Qc mc ms free) (vx_Post XC mc ms free) := vx_callBack cw.1 hM hp.1
  obtain ⟨⟨-, -, -, -, -, -, hcode, hini, hy, hlen, hl⟩, hstt⟩ := cw
  obtain ⟨hx, hb, hml, ho, -⟩ := S
  intro T hT X
  rcases vx_callS X hx (bytes := bytes) (maxL := maxL) (ret := ret) ho hl hstt hini hcode hy hK hg (hsize.trans hml.symm) (argsL := As) (rest := rest) (fun sig h => hn.trans (hlen sig h)) hstack hW (by rw [hb]; exact hdg)
    (fun vm₁ hW₁ => ⟨hf.1, hf.2, hp.2 (T.setVm vm₁) hT hW₁⟩) with ⟨v, vm₁, ⟨U', l2, c2, s2⟩, hW₁, X', ⟨g', mk, t, L, e1, e2, hq, h1, hL, h2, h3⟩, st⟩ | ⟨q, vm₁, ⟨U', l2, c2, s2⟩, hW₁, X', ⟨g', mk, t, L, E, ce, e1, e2, hq, hce, hcv, hcl, h1, hL, h2, h3⟩, st⟩
  · dsimp only [Pt.U, Pt.locs, Pt.cells, Pt.slots] at X' e1 e2 h1 h2 h3 st
    subst h1; subst h2; subst h3
    exact Or.inl ⟨v, (T.setVm vm₁).calling g' mk As.toArray, t, U', L, hT, X', hL, e1, e2, hq, st⟩
  · dsimp only [Pt.U, Pt.locs, Pt.cells, Pt.slots] at X' e1 e2 h1 h2 h3 st hcl
    subst h1; subst h2; subst h3
    exact Or.inr ⟨q, (T.setVm vm₁).calling g' mk As.toArray, t, U', L, E, ce, hT, X', hL, e1, e2, hq, hce, hcv, vx_cls hW₁ hcl, st⟩
end Runs
section Rows
variable {p : Program} {l : Launch} {e : Env} {R : Room} {s : State} {m : MethodId} {args : Array Value} {below : List Frame} {meth : Method} {c : Code} {H : Heap} {locs : List Loc} {cells slots : Nat} {Q : State → Prop}
variable {mc ms : Nat} {free : Addr → Prop} {A0 A1 : Nat → Prop} {H0 : Heap} {a : Array Value} {pc : Nat} {ls : Array Slot} {st0 rest : List Value}
theorem vx_keep {st₀ t T' : State} {L : List Loc} (h0 : st₀.heap = H) (e1 : T'.heap = t.heap) (hS : va_S A0 H0 H locs) (hA : ∀ q, q < H.size → A1 q → A0 q) (hf : ∀ q, free q → A0 q) (hL : ∀ q ∈ L, free q.base) (hF : va_F A1 st₀ t) :
    H.size ≤ T'.heap.size ∧ (∀ q : Nat, q < H.size → ¬ A1 q → T'.heap[q]? = H[q]?) ∧ va_S A0 H0 T'.heap (locs ++ L) := by
  obtain ⟨hz, hk⟩ := hF
  rw [h0] at hz hk
  exact ⟨by rw [e1]; exact hz, fun q h1 h2 => by rw [e1]; exact hk q h1 h2,
    ⟨Nat.le_trans hS.1 (by rw [e1]; exact hz), fun q h1 h2 => by rw [e1, hk q (Nat.lt_of_lt_of_le h1 hS.1) (fun z => h2 (hA q (Nat.lt_of_lt_of_le h1 hS.1) z))]; exact hS.2.1 q h1 h2, fun q hq => by
      rcases List.mem_append.mp hq with h | h
      · exact hS.2.2 q h
      · exact hf _ (hL q h)⟩⟩
theorem vx_calli {S SX : Type} {post : Int32 → S → Prop} {px : SX → Prop} {B : S → State → Prop} {BX : String → SX → State → Prop} {AX : Nat → Prop} (hr : vx_Run p l e R s m args below meth c H locs cells slots mc ms (F0 m pc ls st0) rest (va_Qi post B A1 a) (vx_X px BX AX) free) (hS : va_S A0 H0 H locs) (hA : ∀ q, q < H.size → A1 q → A0 q) (hf : ∀ q, free q → A0 q) (hAX : ∀ q, q < H.size → AX q → A0 q)
    (kx : ∀ (E : String) (ce : Cell) (q9 : Addr) (u : SX) (t : State) (H1 : Heap) (locs1 : List Loc), t.heap = H1 → s.vm.Alike t.vm → px u → BX E u t → H.size ≤ H1.size → (∀ q : Nat, q < H.size → ¬ AX q → H1[q]? = H[q]?) → va_S A0 H0 H1 locs1 → H1[q9]? = some ce → ce.vm = .none → s.vm.findClass E = some ce.cls → vx_W p l e R s m args below meth c H1 locs1 (cells + mc) (slots + ms) Q (F0 m pc ls rest) q9)
    (kk : ∀ (r : Int32) (u : S) (t : State) (H1 : Heap) (locs1 : List Loc), t.heap = H1 → s.vm.Alike t.vm → post r u → B u t → H.size ≤ H1.size → (∀ q : Nat, q < H.size → ¬ A1 q → H1[q]? = H[q]?) → va_S A0 H0 H1 locs1 → W p l e R s m args below meth c H1 locs1 (cells + mc) (slots + ms) Q (F0 m (pc + 3) ls (.int r :: rest))) : W p l e R s m args below meth c H locs cells slots Q (F0 m pc ls st0) := by
  intro T hT X
  rcases hr T hT X with ⟨v, st₀, t, T', L, h0, X', hL, e1, e2, ⟨⟨r, u, hv, hp, hb⟩, hF⟩, st⟩ | ⟨q, st₀, t, T', L, E, ce, h0, X', hL, e1, e2, ⟨u, hp, hb, hF⟩, hce, hcv, hcl, st⟩
  · cases hv
    obtain ⟨k1, k2, k3⟩ := vx_keep h0 e1 hS hA hf hL hF
    obtain ⟨t2, a1, b1⟩ := kk r u t T'.heap (locs ++ L) e1.symm (by rw [← e2]; exact X'.warmed.alike) hp hb k1 k2 k3 T' rfl X'
    exact ⟨t2, st t2 a1, b1⟩
  · obtain ⟨k1, k2, k3⟩ := vx_keep h0 e1 hS hAX hf hL hF
    obtain ⟨t2, a1, b1⟩ := kx E ce q u t T'.heap (locs ++ L) e1.symm (by rw [← e2]; exact X'.warmed.alike) hp hb k1 k2 k3 (by rw [e1]; exact hce) hcv hcl T' rfl X'
    exact ⟨t2, st.trans a1, b1⟩
theorem vx_calll {S SX : Type} {post : Int64 → S → Prop} {px : SX → Prop} {B : S → State → Prop} {BX : String → SX → State → Prop} {AX : Nat → Prop} (hr : vx_Run p l e R s m args below meth c H locs cells slots mc ms (F0 m pc ls st0) rest (va_Ql post B A1 a) (vx_X px BX AX) free) (hS : va_S A0 H0 H locs) (hA : ∀ q, q < H.size → A1 q → A0 q) (hf : ∀ q, free q → A0 q) (hAX : ∀ q, q < H.size → AX q → A0 q)
    (kx : ∀ (E : String) (ce : Cell) (q9 : Addr) (u : SX) (t : State) (H1 : Heap) (locs1 : List Loc), t.heap = H1 → s.vm.Alike t.vm → px u → BX E u t → H.size ≤ H1.size → (∀ q : Nat, q < H.size → ¬ AX q → H1[q]? = H[q]?) → va_S A0 H0 H1 locs1 → H1[q9]? = some ce → ce.vm = .none → s.vm.findClass E = some ce.cls → vx_W p l e R s m args below meth c H1 locs1 (cells + mc) (slots + ms) Q (F0 m pc ls rest) q9)
    (kk : ∀ (r : Int64) (u : S) (t : State) (H1 : Heap) (locs1 : List Loc), t.heap = H1 → s.vm.Alike t.vm → post r u → B u t → H.size ≤ H1.size → (∀ q : Nat, q < H.size → ¬ A1 q → H1[q]? = H[q]?) → va_S A0 H0 H1 locs1 → W p l e R s m args below meth c H1 locs1 (cells + mc) (slots + ms) Q (F0 m (pc + 3) ls (.long r :: rest))) : W p l e R s m args below meth c H locs cells slots Q (F0 m pc ls st0) := by
  intro T hT X
  rcases hr T hT X with ⟨v, st₀, t, T', L, h0, X', hL, e1, e2, ⟨⟨r, u, hv, hp, hb⟩, hF⟩, st⟩ | ⟨q, st₀, t, T', L, E, ce, h0, X', hL, e1, e2, ⟨u, hp, hb, hF⟩, hce, hcv, hcl, st⟩
  · cases hv
    obtain ⟨k1, k2, k3⟩ := vx_keep h0 e1 hS hA hf hL hF
    obtain ⟨t2, a1, b1⟩ := kk r u t T'.heap (locs ++ L) e1.symm (by rw [← e2]; exact X'.warmed.alike) hp hb k1 k2 k3 T' rfl X'
    exact ⟨t2, st t2 a1, b1⟩
  · obtain ⟨k1, k2, k3⟩ := vx_keep h0 e1 hS hAX hf hL hF
    obtain ⟨t2, a1, b1⟩ := kx E ce q u t T'.heap (locs ++ L) e1.symm (by rw [← e2]; exact X'.warmed.alike) hp hb k1 k2 k3 (by rw [e1]; exact hce) hcv hcl T' rfl X'
    exact ⟨t2, st.trans a1, b1⟩
theorem vx_callf {S SX : Type} {post : UInt32 → S → Prop} {px : SX → Prop} {B : S → State → Prop} {BX : String → SX → State → Prop} {AX : Nat → Prop} (hr : vx_Run p l e R s m args below meth c H locs cells slots mc ms (F0 m pc ls st0) rest (va_Qf post B A1 a) (vx_X px BX AX) free) (hS : va_S A0 H0 H locs) (hA : ∀ q, q < H.size → A1 q → A0 q) (hf : ∀ q, free q → A0 q) (hAX : ∀ q, q < H.size → AX q → A0 q)
    (kx : ∀ (E : String) (ce : Cell) (q9 : Addr) (u : SX) (t : State) (H1 : Heap) (locs1 : List Loc), t.heap = H1 → s.vm.Alike t.vm → px u → BX E u t → H.size ≤ H1.size → (∀ q : Nat, q < H.size → ¬ AX q → H1[q]? = H[q]?) → va_S A0 H0 H1 locs1 → H1[q9]? = some ce → ce.vm = .none → s.vm.findClass E = some ce.cls → vx_W p l e R s m args below meth c H1 locs1 (cells + mc) (slots + ms) Q (F0 m pc ls rest) q9)
    (kk : ∀ (r : UInt32) (u : S) (t : State) (H1 : Heap) (locs1 : List Loc), t.heap = H1 → s.vm.Alike t.vm → post r u → B u t → H.size ≤ H1.size → (∀ q : Nat, q < H.size → ¬ A1 q → H1[q]? = H[q]?) → va_S A0 H0 H1 locs1 → W p l e R s m args below meth c H1 locs1 (cells + mc) (slots + ms) Q (F0 m (pc + 3) ls (.float r :: rest))) : W p l e R s m args below meth c H locs cells slots Q (F0 m pc ls st0) := by
  intro T hT X
  rcases hr T hT X with ⟨v, st₀, t, T', L, h0, X', hL, e1, e2, ⟨⟨r, u, hv, hp, hb⟩, hF⟩, st⟩ | ⟨q, st₀, t, T', L, E, ce, h0, X', hL, e1, e2, ⟨u, hp, hb, hF⟩, hce, hcv, hcl, st⟩
  · cases hv
    obtain ⟨k1, k2, k3⟩ := vx_keep h0 e1 hS hA hf hL hF
    obtain ⟨t2, a1, b1⟩ := kk r u t T'.heap (locs ++ L) e1.symm (by rw [← e2]; exact X'.warmed.alike) hp hb k1 k2 k3 T' rfl X'
    exact ⟨t2, st t2 a1, b1⟩
  · obtain ⟨k1, k2, k3⟩ := vx_keep h0 e1 hS hAX hf hL hF
    obtain ⟨t2, a1, b1⟩ := kx E ce q u t T'.heap (locs ++ L) e1.symm (by rw [← e2]; exact X'.warmed.alike) hp hb k1 k2 k3 (by rw [e1]; exact hce) hcv hcl T' rfl X'
    exact ⟨t2, st.trans a1, b1⟩
theorem vx_calld {S SX : Type} {post : UInt64 → S → Prop} {px : SX → Prop} {B : S → State → Prop} {BX : String → SX → State → Prop} {AX : Nat → Prop} (hr : vx_Run p l e R s m args below meth c H locs cells slots mc ms (F0 m pc ls st0) rest (va_Qd post B A1 a) (vx_X px BX AX) free) (hS : va_S A0 H0 H locs) (hA : ∀ q, q < H.size → A1 q → A0 q) (hf : ∀ q, free q → A0 q) (hAX : ∀ q, q < H.size → AX q → A0 q)
    (kx : ∀ (E : String) (ce : Cell) (q9 : Addr) (u : SX) (t : State) (H1 : Heap) (locs1 : List Loc), t.heap = H1 → s.vm.Alike t.vm → px u → BX E u t → H.size ≤ H1.size → (∀ q : Nat, q < H.size → ¬ AX q → H1[q]? = H[q]?) → va_S A0 H0 H1 locs1 → H1[q9]? = some ce → ce.vm = .none → s.vm.findClass E = some ce.cls → vx_W p l e R s m args below meth c H1 locs1 (cells + mc) (slots + ms) Q (F0 m pc ls rest) q9)
    (kk : ∀ (r : UInt64) (u : S) (t : State) (H1 : Heap) (locs1 : List Loc), t.heap = H1 → s.vm.Alike t.vm → post r u → B u t → H.size ≤ H1.size → (∀ q : Nat, q < H.size → ¬ A1 q → H1[q]? = H[q]?) → va_S A0 H0 H1 locs1 → W p l e R s m args below meth c H1 locs1 (cells + mc) (slots + ms) Q (F0 m (pc + 3) ls (.double r :: rest))) : W p l e R s m args below meth c H locs cells slots Q (F0 m pc ls st0) := by
  intro T hT X
  rcases hr T hT X with ⟨v, st₀, t, T', L, h0, X', hL, e1, e2, ⟨⟨r, u, hv, hp, hb⟩, hF⟩, st⟩ | ⟨q, st₀, t, T', L, E, ce, h0, X', hL, e1, e2, ⟨u, hp, hb, hF⟩, hce, hcv, hcl, st⟩
  · cases hv
    obtain ⟨k1, k2, k3⟩ := vx_keep h0 e1 hS hA hf hL hF
    obtain ⟨t2, a1, b1⟩ := kk r u t T'.heap (locs ++ L) e1.symm (by rw [← e2]; exact X'.warmed.alike) hp hb k1 k2 k3 T' rfl X'
    exact ⟨t2, st t2 a1, b1⟩
  · obtain ⟨k1, k2, k3⟩ := vx_keep h0 e1 hS hAX hf hL hF
    obtain ⟨t2, a1, b1⟩ := kx E ce q u t T'.heap (locs ++ L) e1.symm (by rw [← e2]; exact X'.warmed.alike) hp hb k1 k2 k3 (by rw [e1]; exact hce) hcv hcl T' rfl X'
    exact ⟨t2, st.trans a1, b1⟩
theorem vx_callv {S SX : Type} {post : S → Prop} {px : SX → Prop} {B : S → State → Prop} {BX : String → SX → State → Prop} {AX : Nat → Prop} (hr : vx_Run p l e R s m args below meth c H locs cells slots mc ms (F0 m pc ls st0) rest (va_Qv post B A1 a) (vx_X px BX AX) free) (hS : va_S A0 H0 H locs) (hA : ∀ q, q < H.size → A1 q → A0 q) (hf : ∀ q, free q → A0 q) (hAX : ∀ q, q < H.size → AX q → A0 q)
    (kx : ∀ (E : String) (ce : Cell) (q9 : Addr) (u : SX) (t : State) (H1 : Heap) (locs1 : List Loc), t.heap = H1 → s.vm.Alike t.vm → px u → BX E u t → H.size ≤ H1.size → (∀ q : Nat, q < H.size → ¬ AX q → H1[q]? = H[q]?) → va_S A0 H0 H1 locs1 → H1[q9]? = some ce → ce.vm = .none → s.vm.findClass E = some ce.cls → vx_W p l e R s m args below meth c H1 locs1 (cells + mc) (slots + ms) Q (F0 m pc ls rest) q9)
    (kk : ∀ (u : S) (t : State) (H1 : Heap) (locs1 : List Loc), t.heap = H1 → s.vm.Alike t.vm → post u → B u t → H.size ≤ H1.size → (∀ q : Nat, q < H.size → ¬ A1 q → H1[q]? = H[q]?) → va_S A0 H0 H1 locs1 → W p l e R s m args below meth c H1 locs1 (cells + mc) (slots + ms) Q (F0 m (pc + 3) ls (rest))) : W p l e R s m args below meth c H locs cells slots Q (F0 m pc ls st0) := by
  intro T hT X
  rcases hr T hT X with ⟨v, st₀, t, T', L, h0, X', hL, e1, e2, ⟨⟨u, hv, hp, hb⟩, hF⟩, st⟩ | ⟨q, st₀, t, T', L, E, ce, h0, X', hL, e1, e2, ⟨u, hp, hb, hF⟩, hce, hcv, hcl, st⟩
  · cases hv
    obtain ⟨k1, k2, k3⟩ := vx_keep h0 e1 hS hA hf hL hF
    obtain ⟨t2, a1, b1⟩ := kk u t T'.heap (locs ++ L) e1.symm (by rw [← e2]; exact X'.warmed.alike) hp hb k1 k2 k3 T' rfl X'
    exact ⟨t2, st t2 a1, b1⟩
  · obtain ⟨k1, k2, k3⟩ := vx_keep h0 e1 hS hAX hf hL hF
    obtain ⟨t2, a1, b1⟩ := kx E ce q u t T'.heap (locs ++ L) e1.symm (by rw [← e2]; exact X'.warmed.alike) hp hb k1 k2 k3 (by rw [e1]; exact hce) hcv hcl T' rfl X'
    exact ⟨t2, st.trans a1, b1⟩
/-- caught by the row x of this method's table; the rows ahead don't take it -/
theorem vx_catch {own name : String} {E : String} {ce : Cell} {q : Addr} (hown : s.vm.findClass own = some m.cls) (pre : List ExceptionTableEntry) (x : ExceptionTableEntry) (suf : List ExceptionTableEntry) (hsplit : c.exceptionTable.toList = pre ++ x :: suf)
    (hpass : ∀ z ∈ pre, covers z pc = false ∨ (z.catchType ≠ 0 ∧ ∃ nm : String, (Cond.classLink own z.catchType nm).before args s = true ∧ va_Nc E nm s)) (hx : covers x pc = true) (h0 : x.catchType ≠ 0)
    (hlink : (Cond.classLink own x.catchType name).before args s = true) (hcast : (Cond.castable E name).before args s = true) (hcell : H[q]? = some ce) (hv : ce.vm = .none) (hcl : s.vm.findClass E = some ce.cls)
    (kk : W p l e R s m args below meth c H locs cells slots Q (F0 m x.handlerPc ls [.ref q])) : vx_W p l e R s m args below meth c H locs cells slots Q (F0 m pc ls rest) q := by
  intro T hT X
  have hpl : e.platform.magicAccessors = ({} : Platform).magicAccessors := by rw [X.admits.platform]
  obtain ⟨c3, c4, hc3, hc4, hasg⟩ := Cond.castable_spec hcast
  cases Option.some.inj (hc3.symm.trans hcl)
  obtain ⟨c5, hc5, hcl5⟩ := Cond.classLink_spec hown hlink e.platform hpl
  cases Option.some.inj (hc4.symm.trans hc5)
  obtain ⟨vm', X', st⟩ := Stand.thenCaughtThrough X q (g := F0 m pc ls rest) rfl (Steps.refl _) (by rw [hT]; exact hcell) (by rw [hv]; rfl) (by obtain ⟨k9, h9, -⟩ := Vm.findClass_spec hcl; exact ⟨k9, h9⟩) pre x suf hsplit
    (fun z hz => by
      rcases hpass z hz with h | ⟨hz0, nm, hl1, hn1⟩
      · exact Or.inl h
      · obtain ⟨c6, hc6, hcl6⟩ := Cond.classLink_spec hown hl1 e.platform hpl
        obtain ⟨a8, b8, h1, h2, h3⟩ := hn1
        cases Option.some.inj (h1.symm.trans hcl)
        cases Option.some.inj (h2.symm.trans hc6)
        exact Or.inr ⟨hz0, _, hcl6, h3⟩) hx (Or.inr ⟨h0, c4, hcl5, hasg⟩)
  obtain ⟨t, a1, b1⟩ := kk (T.setVm vm') hT X'
  exact ⟨t, st.trans a1, b1⟩
end Rows
section Ends
variable {p : Program} {l : Launch} {e : Env} {R : Room} {s : State} {m : MethodId} {args : Array Value} {below : List Frame} {meth : Method} {c : Code} {H : Heap} {locs : List Loc} {cells slots : Nat} {Q : State → Prop}
variable {mc ms : Nat} {free : Addr → Prop} {A0 A1 : Nat → Prop} {H0 : Heap} {a : Array Value} {ls : Array Slot} {st0 rest : List Value}
variable {Qc : Array Value → State → Outcome → State → Prop} {XC : String → State → State → Prop}
/-- what a body that may throw owes at its end -/
def vx_MQ (below : List Frame) (Qc : Array Value → State → Outcome → State → Prop) (XC : String → State → State → Prop) (a : Array Value) (s : State) (mc ms : Nat) (free : Addr → Prop) : State → Prop := fun t =>
  ∃ o, t.status = .running ∧ Ended t below o ∧ vx_Q Qc XC mc ms free a s o t
theorem vx_ret {g : JFrame} {mc ms : Nat} (k : W p l e R s m args below meth c H locs cells slots (MQ below Qc args s mc ms free) g) : W p l e R s m args below meth c H locs cells slots (vx_MQ below Qc XC args s mc ms free) g := by
  intro T hT X
  obtain ⟨t, a1, o, b1, b2, b3, b4⟩ := k T hT X
  exact ⟨t, a1, o, b1, b2, Or.inl ⟨b3, b4⟩⟩
/-- not caught here: it goes on to the caller -/
theorem vx_widen {g : JFrame} {q : Addr} {k n : Nat} (h1 : cells ≤ k) (h2 : slots ≤ n) (kk : vx_W p l e R s m args below meth c H locs k n Q g q) : vx_W p l e R s m args below meth c H locs cells slots Q g q := fun T hT X => kk T hT (stand_widen X h1 h2)
theorem vx_out {pc : Nat} {E : String} {ce : Cell} {q : Addr} {mc ms : Nat} (hout : ∀ x ∈ c.exceptionTable.toList, covers x pc = false) (hlocks : meth.locks = false) (hcell : H[q]? = some ce) (hv : ce.vm = .none) (hcl : s.vm.findClass E = some ce.cls)
    (hx : ∀ t : State, t.heap = H → s.vm.Alike t.vm → XC E s t) (hf : ∀ z ∈ locs, free z.base) (hc : cells ≤ mc) (hs : slots ≤ ms) :
    vx_W p l e R s m args below meth c H locs cells slots (vx_MQ below Qc XC args s mc ms free) (F0 m pc ls rest) q := by
  intro T hT X
  obtain ⟨st1, hrun, hend, hW, hsm⟩ := X.leaveThrown q (g := F0 m pc ls rest) rfl rfl rfl hout hlocks
  have hcell9 : (T.setFrames (.throwing q :: below)).heap[q]? = some ce := by
    show T.heap[q]? = some ce
    rw [hT]; exact hcell
  exact ⟨_, st1, .threw q, hrun, hend, Or.inr ⟨q, rfl, E, ce, locs, hx _ hT hW.alike, hcell9, hv, hcl, hW, hsm.mono hc hs, hf⟩⟩
theorem vx_frame {U : State} {k n : Nat} (h : s.sameButNew ({ U with vm := s.vm } : State) locs k n) : s.heap.size ≤ U.heap.size ∧ ∀ q : Nat, q < s.heap.size → (∀ z ∈ locs, z.base ≠ q) → U.heap[q]? = s.heap[q]? := by
  obtain ⟨-, h2, -, -, -, h6⟩ := h
  refine ⟨h2, fun q hq hz => ?_⟩
  obtain ⟨c9, e1, e2, e3, e4⟩ := h6 q _ (Array.getElem?_eq_getElem hq)
  have hs : c9.slots = (s.heap[q]).slots := Array.ext_getElem? fun i => e4 i fun hm => hz _ hm rfl
  have h9 : c9 = s.heap[q] := by
    rw [hs] at e2
    exact e2
  have e5 : U.heap[q]? = some c9 := e1
  rw [e5, h9, Array.getElem?_eq_getElem hq]
/-- the words of a throw but the four that speak of the heap -/
def vx_no (w : Cond) : Bool := decide (w ≠ .isRef (.static Bundle.tN "UNASSIGNED_STACK" Bundle.steD)) && decide (w ≠ .isRef (.static Bundle.tN "SUPPRESSED_SENTINEL" Bundle.listD)) && decide (w ≠ .laysStatic Bundle.tN "UNASSIGNED_STACK" Bundle.steD) && decide (w ≠ .laysStatic Bundle.tN "SUPPRESSED_SENTINEL" Bundle.listD)
def vx_at0 (own : String) (ic : Nat) (X : String) (names : List String) : List Cond := (Bundle.ownAtoms0 own ic X names).filter vx_no
def vx_atS (own : String) (ic : Nat) (X : String) (names : List String) : List Cond := (Bundle.ownAtoms own ic X names).filter vx_no
/-- a word that the tables alone decide, or a good one -/
def vx_ot (w : Cond) : Bool := w.onTables || goodWord w
theorem vx_ot_at {args a' : Array Value} {s U : State} {w : Cond} (hW : s.WarmedH U.vm) (hvm : s.vm = U.vm) (hg : vx_ot w = true) (h : w.before args s = true) : w.before a' U = true := by
  simp only [vx_ot, Bool.or_eq_true] at hg
  rcases hg with hg | hg
  · exact va_tabs hg hvm h
  · exact word_at hW (good_of_word hg) h
/-- a list's words: the good ones out of the method's own list, the others by premises of their own -/
theorem vx_hat {args : Array Value} {s : State} {L B : List Cond} (h1 : ∀ w ∈ L.filter goodWord, w.before args s = true) (h2 : ∀ w ∈ L.filter (fun w => !goodWord w), w ∈ B) (h3 : ∀ w ∈ B, w.before args s = true) : ∀ w ∈ L, w.before args s = true := by
  intro w hw
  by_cases g : goodWord w = true
  · exact h1 w (List.mem_filter.mpr ⟨hw, g⟩)
  · refine h3 w (h2 w (List.mem_filter.mpr ⟨hw, ?_⟩))
    show (!goodWord w) = true
    cases hgw : goodWord w
    · rfl
    · exact absurd hgw g
theorem vx_c {args : Array Value} {s : State} {w : Cond} {B : List Cond} (h : w.before args s = true) (t : ∀ w ∈ B, w.before args s = true) : ∀ w' ∈ w :: B, w'.before args s = true := fun w' h' => (List.mem_cons.mp h').elim (fun e => by rw [e]; exact h) (t w')
theorem vx_n {args : Array Value} {s : State} : ∀ w ∈ ([] : List Cond), w.before args s = true := fun _ h => nomatch h
theorem vx_own {args : Array Value} {s : State} {L : List Cond} (h1 : ∀ w ∈ L.filter vx_no, w.before args s = true)
    (hU : (Cond.isRef (.static Bundle.tN "UNASSIGNED_STACK" Bundle.steD)).before args s = true) (hN : (Cond.isRef (.static Bundle.tN "SUPPRESSED_SENTINEL" Bundle.listD)).before args s = true)
    (lU : (Cond.laysStatic Bundle.tN "UNASSIGNED_STACK" Bundle.steD).before args s = true) (lN : (Cond.laysStatic Bundle.tN "SUPPRESSED_SENTINEL" Bundle.listD).before args s = true) : ∀ w ∈ L, w.before args s = true := by
  intro w hw
  by_cases e1 : w = .isRef (.static Bundle.tN "UNASSIGNED_STACK" Bundle.steD)
  · rw [e1]; exact hU
  · by_cases e2 : w = .isRef (.static Bundle.tN "SUPPRESSED_SENTINEL" Bundle.listD)
    · rw [e2]; exact hN
    · by_cases e3 : w = .laysStatic Bundle.tN "UNASSIGNED_STACK" Bundle.steD
      · rw [e3]; exact lU
      · by_cases e4 : w = .laysStatic Bundle.tN "SUPPRESSED_SENTINEL" Bundle.listD
        · rw [e4]; exact lN
        · exact h1 w (List.mem_filter.mpr ⟨hw, by unfold vx_no; rw [decide_eq_true e1, decide_eq_true e2, decide_eq_true e3, decide_eq_true e4]; rfl⟩)
/-- where a static field lies, its class's statics cell in H -/
def vx_L (C n d : String) (A : Nat → Prop) (U : State) (H : Heap) : Prop := ∃ (c : ClassId) (k : Class) (i : Nat) (f : Field) (a : Nat) (cell : Cell), U.vm.findClass C = some c ∧ U.fieldFound? C n d = some (c, k, i, f) ∧ f.isStatic = true ∧ k.statics = some a ∧ H[a]? = some cell ∧ cell.vm.isStatics = true ∧ cell.cls = c ∧ f.slot < cell.slots.size ∧ k.staticTypes[f.slot]? = some f.type ∧ ¬ A a
theorem vx_L.moved {C n d : String} {A : Nat → Prop} {u U : State} {H : Heap} (hvm : u.vm.Alike U.vm) (h : vx_L C n d A u H) : vx_L C n d A U H := by
  obtain ⟨c, k, i, f, a, cell, h1, h2, h3, h4, h5, h6, h7, h8, h9, h10⟩ := h
  obtain ⟨k', hi', he⟩ := State.fieldFound?_setVm hvm h2
  exact ⟨c, k', i, f, a, cell, by rw [hvm.findClass]; exact h1, hi', h3, by rw [he]; exact h4, h5, h6, h7, h8, by rw [he]; exact h9, h10⟩
theorem vx_L.kept {C n d : String} {A : Nat → Prop} {U : State} {H H1 : Heap} (h : vx_L C n d A U H) (hq : ∀ a : Nat, a < H.size → ¬ A a → H1[a]? = H[a]?) : vx_L C n d A U H1 := by
  obtain ⟨c, k, i, f, a, cell, h1, h2, h3, h4, h5, h6, h7, h8, h9, h10⟩ := h
  exact ⟨c, k, i, f, a, cell, h1, h2, h3, h4, by rw [hq a (Array.getElem?_eq_some_iff.mp h5).1 h10]; exact h5, h6, h7, h8, h9, h10⟩
theorem vx_L.narrow {C n d : String} {A B : Nat → Prop} {U : State} {H : Heap} (h : vx_L C n d A U H) (hAB : ∀ q, B q → A q) : vx_L C n d B U H := by
  obtain ⟨c, k, i, f, a, cell, h1, h2, h3, h4, h5, h6, h7, h8, h9, h10⟩ := h
  exact ⟨c, k, i, f, a, cell, h1, h2, h3, h4, h5, h6, h7, h8, h9, fun z => h10 (hAB _ z)⟩
theorem vx_L.word {C n d : String} {A : Nat → Prop} {s : State} {args : Array Value} (h : vx_L C n d A s s.heap) : (Cond.laysStatic C n d).before args s = true := by
  obtain ⟨c, k, i, f, a, cell, h1, h2, h3, h4, h5, h6, h7, h8, h9, -⟩ := h
  show (Cond.laysStatic C n d).holds args s none s [] = true
  exact Cond.laysStatic_of h1 h2 h3 h4 h5 h6 h7 h8 h9
/-- .. and what it holds: null or some reference -/
def vx_Zq (C n d : String) (A : Nat → Prop) (U : State) (H : Heap) : Prop := va_Zq C n d A U H ∧ vx_L C n d A U H
theorem vx_Zq.moved {C n d : String} {A : Nat → Prop} {u U : State} {H : Heap} (hvm : u.vm.Alike U.vm) (h : vx_Zq C n d A u H) : vx_Zq C n d A U H := ⟨va_Zq.moved hvm h.1, vx_L.moved hvm h.2⟩
theorem vx_Zq.kept {C n d : String} {A : Nat → Prop} {U : State} {H H1 : Heap} (h : vx_Zq C n d A U H) (hq : ∀ a : Nat, a < H.size → ¬ A a → H1[a]? = H[a]?) : vx_Zq C n d A U H1 := ⟨va_Zq.kept h.1 hq, vx_L.kept h.2 hq⟩
theorem vx_Zq.narrow {C n d : String} {A B : Nat → Prop} {U : State} {H : Heap} (h : vx_Zq C n d A U H) (hAB : ∀ q, B q → A q) : vx_Zq C n d B U H := ⟨va_Zq.narrow h.1 hAB, vx_L.narrow h.2 hAB⟩
theorem vx_Zqof {args : Array Value} {s : State} {C n d : String} {A : Nat → Prop} (hl : (Cond.laysStatic C n d).before args s = true) (hini : (Cond.initialized C).before args s = true) (h : (Cond.isRef (.static C n d)).before args s = true) (hA : ∀ a : Nat, a < s.heap.size → ¬ A a) : vx_Zq C n d A s s.heap := by
  refine ⟨va_Zqof hl hini h hA, ?_⟩
  obtain ⟨c, k, i, f, a, cell, h1, h2, h3, h4, h5, h6, h7, h8, h9⟩ := Cond.laysStatic_spec hl
  exact ⟨c, k, i, f, a, cell, h1, h2, h3, h4, h5, h6, h7, h8, h9, hA a (Array.getElem?_eq_some_iff.mp h5).1⟩
theorem vx_isRef {C n d : String} {v : Value} {A : Nat → Prop} {s : State} {args : Array Value} (h : va_Z C n d v A s s.heap) (hv : v.isRef = true) : (Cond.isRef (.static C n d)).before args s = true := by
  obtain ⟨cf, kf, fi, f, a, cell, h1, h2, h3, h4, h5, h6, h7, -⟩ := h
  have he : (Term.static C n d).eval args s none [] s = some v := by
    simp [Term.eval, State.fieldNamed?, h1, h2, h4, h5, h6, h7]
  simp only [Cond.before, Cond.holds, Cond.value, he]
  cases v <;> simp_all [Value.isRef]
theorem vx_isRefq {C n d : String} {A : Nat → Prop} {s : State} {args : Array Value} (h : va_Zq C n d A s s.heap) : (Cond.isRef (.static C n d)).before args s = true := by
  rcases h with h | ⟨t, h⟩
  · exact vx_isRef h rfl
  · exact vx_isRef h rfl
/-- the same frame, seen from here: as if the method were called anew in this heap -/
theorem vx_rebase {T : State} (X : Stand p l e R s m args below meth c T locs cells slots) {R' : Room} (hf : R'.frames ≤ R.frames) (hl : R'.locals ≤ R.locals) (hc : cells + R'.cells ≤ R.cells) (hs : slots + R'.slots ≤ R.slots) :
    Stand p l e R' ((T.setVm s.vm).setFrames (.invoking m args :: below)) m args below meth c T [] 0 0 := by
  have htop : (T.setVm s.vm).topJava?.isSome := X.here.top
  have hF : ((T.setVm s.vm).setFrames (.invoking m args :: below)).frames = .invoking m args :: below := State.frames_setFrames _ (State.cur_lt_of_top htop)
  obtain ⟨g₀, hg0⟩ := Option.isSome_iff_exists.mp htop
  obtain ⟨r, hr⟩ := State.topJava?_eq_some.mp hg0
  have hl9 : e.platform.stackLimits (T.setVm s.vm).me = e.platform.stackLimits s.me := X.limits
  have hb9 : (T.setVm s.vm).me.stackBytes = s.me.stackBytes := X.bytes
  refine ⟨X.admits, X.cas, X.clock, hF, ?_, X.hears, X.method, X.code, X.here, X.tail, X.warmed, ?_, ?_, ?_⟩
  · have h := X.room
    have hU : ((T.setVm s.vm).setFrames (.invoking m args :: below)).localsInUse = s.localsInUse := by
      rw [State.localsInUse_invoking hF (meth := meth) (c := c) X.method X.code, State.localsInUse_invoking X.frames X.method X.code]
    simp only [State.hasRoom, Bool.and_eq_true, decide_eq_true_eq] at h ⊢
    obtain ⟨⟨⟨⟨h1, h2, h3, h4, h5, h6⟩, h7⟩, h8⟩, h9⟩ := h
    rw [X.frames, List.length_cons] at h2 h3
    have q1 := X.heapSize
    have q2 := X.used
    simp only [hF, hU, List.length_cons, State.stackLimits_setFrames, State.stackBytes_setFrames, hl9, hb9]
    refine ⟨⟨⟨⟨by omega, by omega, by omega, by omega, by omega, h6⟩, ?_⟩, ?_⟩, X.book⟩
    · show T.heap.size + R'.cells ≤ e.platform.maxCells
      omega
    · show T.slotsUsed + R'.slots ≤ e.platform.maxSlots
      omega
  · rw [State.stackLimits_setFrames]; rfl
  · rw [State.stackBytes_setFrames]; rfl
  · refine ⟨?_, Nat.le_refl _, Nat.le_refl _, ?_, ?_, fun a c9 h9 => ⟨c9, h9, rfl, rfl, fun _ _ => rfl⟩⟩
    · obtain ⟨t, ht, -⟩ := State.frames_cons hr
      show T.setVm s.vm = { ((T.setVm s.vm).setFrames (.invoking m args :: below)).setFrames (T.setVm s.vm).frames with heap := T.heap, slotsUsed := T.slotsUsed }
      rw [State.setFrames_setFrames, State.setFrames_self ht]
      rfl
    · show T.slotsUsed = T.slotsUsed + ((T.heap.toList.drop T.heap.size).map (·.slots.size)).sum
      rw [List.drop_eq_nil_of_le (Nat.le_of_eq Array.length_toList)]
      rfl
    · show ((T.heap.toList.drop T.heap.size).map (·.slots.size)).sum ≤ 0
      rw [List.drop_eq_nil_of_le (Nat.le_of_eq Array.length_toList)]
      exact Nat.le_refl _
/-- 'throw new E()': new; dup; invokespecial; athrow -/
theorem vx_throw0 {cc : ByteArray} {pc : Nat} (hexec : p.tables.exec = Jvm.exec) (hb : c.code = cc) (hl : l.stackTraces = false) {own cls : String} {names : List String} {ik ic mc ms : Nat} {A : Nat → Prop}
    (hown : s.vm.findClass own = some m.cls) (hcls : Bundle.fit cls = true) (hnames : ∀ n ∈ names, Bundle.fit n = true)
    (hk : (Cond.classLink own ik cls).before args s = true) (hini : (Cond.initialized cls).before args s = true) (hat : ∀ w ∈ vx_at0 own ic cls names, w.before args s = true)
    (hgood : ∀ w ∈ Cond.classLink own ik cls :: Cond.initialized cls :: vx_at0 own ic cls names, vx_ot w = true)
    (hU : vx_Zq Bundle.tN "UNASSIGNED_STACK" Bundle.steD A s s.heap) (hN : vx_Zq Bundle.tN "SUPPRESSED_SENTINEL" Bundle.listD A s s.heap) (hS : va_S A s.heap H locs) (hsize : ls.size = c.maxLocals)
    (d0 : decode cc pc = .ok (.new ik, 3)) (d3 : decode cc (pc + 3) = .ok (.dup, 1)) (d4 : decode cc (pc + 4) = .ok (.invokespecial ic, 3)) (d7 : decode cc (pc + 7) = .ok (.athrow, 1))
    (hout : ∀ x ∈ c.exceptionTable.toList, covers x (pc + 7) = false)
    (hRframes : names.length + 3 < R.frames) (hRlocals : (rest.map fun v => v.category).sum + (13 * (names.length + 1) + 42) ≤ R.locals) (hRcells : cells + 1 ≤ R.cells) (hRslots : slots + 6 ≤ R.slots) (hlocks : meth.locks = false)
    (hx : ∀ t : State, s.vm.Alike t.vm → H.size ≤ t.heap.size → (∀ q : Nat, q < H.size → t.heap[q]? = H[q]?) → XC cls s t)
    (hf : ∀ z ∈ locs, free z.base) (hc : cells + 1 ≤ mc) (hs : slots + 6 ≤ ms) :
    W p l e R s m args below meth c H locs cells slots (vx_MQ below Qc XC args s mc ms free) (F0 m pc ls rest) := by
  intro T hT X
  have htr : e.platform.stackTraces = false := (show e.platform.stackTraces = l.stackTraces by rw [X.admits.platform]).trans hl
  have Y := vx_rebase X (R' := { frames := R.frames, locals := R.locals, cells := 1, slots := 6 }) (Nat.le_refl _) (Nat.le_refl _) hRcells hRslots
  obtain ⟨s', hA⟩ : ∃ z, z = (T.setVm s.vm).setFrames (.invoking m args :: below) := ⟨_, rfl⟩
  rw [← hA] at Y
  have hvm : s'.vm = s.vm := by rw [hA]; rfl
  have hhp : s'.heap = H := by rw [hA]; exact hT
  have hW0 : s.WarmedH s'.vm := by rw [hvm]; exact State.WarmedH.refl s
  have hat' : ∀ w ∈ vx_at0 own ic cls names, w.before args s' = true := fun w hw => vx_ot_at hW0 hvm.symm (hgood w (List.mem_cons_of_mem _ (List.mem_cons_of_mem _ hw))) (hat w hw)
  have hk' : (Cond.classLink own ik cls).before args s' = true := vx_ot_at hW0 hvm.symm (hgood _ List.mem_cons_self) hk
  have hini' : (Cond.initialized cls).before args s' = true := vx_ot_at hW0 hvm.symm (hgood _ (List.mem_cons_of_mem _ List.mem_cons_self)) hini
  have hU' : vx_Zq Bundle.tN "UNASSIGNED_STACK" Bundle.steD A s' s'.heap := by rw [hhp]; exact vx_Zq.moved hW0.alike (hU.kept hS.2.1)
  have hN' : vx_Zq Bundle.tN "SUPPRESSED_SENTINEL" Bundle.listD A s' s'.heap := by rw [hhp]; exact vx_Zq.moved hW0.alike (hN.kept hS.2.1)
  have h : ∀ w ∈ Bundle.ownAtoms0 own ic cls names, w.before args s' = true := vx_own hat' (vx_isRefq hU'.1) (vx_isRefq hN'.1) hU'.2.word hN'.2.word
  have hown' : s'.vm.findClass own = some m.cls := by rw [hvm]; exact hown
  have hins : (Cond.instantiable cls 6).before args s' = true := h _ (by simp [Bundle.ownAtoms0])
  obtain ⟨vm₁, cX, kX, hfX, hkX, -, -, X₁, st1⟩ := Y.newCold hexec (own := own) (C := cls) (index := ik) (n := 6) hown' hk' hins hini'
    (g := F0 m pc ls rest) rfl (by rw [hb]; exact d0) (Nat.le_refl _) (Nat.le_refl _)
  generalize hT1 : (T.setVm vm₁).pushCell { cls := cX, slots := kX.instanceTypes.map defaultValue, vm := .none } = T1 at X₁ st1
  have hcat : (Value.ref T.heap.size).category = 1 := rfl
  have hcellA : T1.heap[T.heap.size]? = some (freshCell cX kX) := by rw [← hT1]; exact State.heap_pushCell_size _ _
  have d3' : decode c.code (pc + 3) = .ok (.dup, 1) := by rw [hb]; exact d3
  obtain ⟨U, hsteps, hrun, hend, hW, hsame, ce, hce, hO⟩ := X₁.ctorThrow0 hexec htr (own := own) (cls := cls) (names := names) (ic := ic) hown' hcls hnames h (fun x hx => nomatch hx) hfX hkX hcellA (by rw [hhp, hT]; exact Nat.le_refl _)
    (g := { method := m, pc := pc + 4, locals := ls, stack := .ref T.heap.size :: .ref T.heap.size :: rest, locked := none }) rfl hsize rfl rfl (rest := rest) rfl
    (by rw [hb]; exact d4) (by rw [hb]; exact d7) hout hRframes (by simp only [List.map_cons, List.sum_cons, hcat]; omega) hlocks
  obtain ⟨f1, f2⟩ := vx_frame hsame
  rw [hhp] at f1 f2
  have hWs : s.WarmedH U.vm := State.WarmedH.trans hW0 hW
  have hcl : s.vm.findClass cls = some ce.cls := by
    have h9 := hO.cls
    rw [hvm] at h9
    exact h9
  have hall : s.sameButNew ({ U with vm := s.vm } : State) locs mc ms := by
    subst hA
    obtain ⟨e1, e2⟩ := hsame
    rw [State.setFrames_setFrames] at e1
    have h2 : (T.setVm s.vm).sameButNew ({ U with vm := s.vm } : State) [] (0 + 1) (0 + 6) := ⟨e1, e2⟩
    have h3 := X.same.trans h2
    rw [List.append_nil] at h3
    exact h3.mono hc hs
  refine ⟨U, ?_, .threw T.heap.size, hrun, hend, Or.inr ⟨T.heap.size, rfl, cls, ce, locs, hx U hWs.alike f1 (fun q hq => f2 q hq (fun z hz => nomatch hz)), hce, hO.vm, hcl, hWs, hall, hf⟩⟩
  refine st1 _ ?_
  show Steps p.tables e below (T1.setTop { method := m, pc := pc + 3, locals := ls, stack := .ref T.heap.size :: rest, locked := none }) _
  jvm_step X₁.here [X₁.here.top, hexec, d3', Value.category]
  exact hsteps
/-- 'throw new E("text")': new; dup; ldc; invokespecial; athrow -/
theorem vx_throwS {cc : ByteArray} {pc : Nat} (hexec : p.tables.exec = Jvm.exec) (hb : c.code = cc) (hl : l.stackTraces = false) {own cls text : String} {names : List String} {ik is ic mc ms sa : Nat} {A : Nat → Prop}
    (hown : s.vm.findClass own = some m.cls) (hcls : Bundle.fit cls = true) (hnames : ∀ n ∈ names, Bundle.fit n = true)
    (hk : (Cond.classLink own ik cls).before args s = true) (hini : (Cond.initialized cls).before args s = true) (hstr : vk_R own is text sa s) (hat : ∀ w ∈ vx_atS own ic cls names, w.before args s = true)
    (hgood : ∀ w ∈ Cond.classLink own ik cls :: Cond.initialized cls :: vx_atS own ic cls names, vx_ot w = true)
    (hU : vx_Zq Bundle.tN "UNASSIGNED_STACK" Bundle.steD A s s.heap) (hN : vx_Zq Bundle.tN "SUPPRESSED_SENTINEL" Bundle.listD A s s.heap) (hS : va_S A s.heap H locs) (hsize : ls.size = c.maxLocals)
    (d0 : decode cc pc = .ok (.new ik, 3)) (d3 : decode cc (pc + 3) = .ok (.dup, 1)) (d4 : decode cc (pc + 4) = .ok (.ldc is, 2)) (d6 : decode cc (pc + 6) = .ok (.invokespecial ic, 3)) (d9 : decode cc (pc + 9) = .ok (.athrow, 1))
    (hout : ∀ x ∈ c.exceptionTable.toList, covers x (pc + 9) = false)
    (hRframes : names.length + 3 < R.frames) (hRlocals : (rest.map fun v => v.category).sum + (13 * (names.length + 1) + 43) ≤ R.locals) (hRcells : cells + 1 ≤ R.cells) (hRslots : slots + 6 ≤ R.slots) (hlocks : meth.locks = false)
    (hx : ∀ t : State, s.vm.Alike t.vm → H.size ≤ t.heap.size → (∀ q : Nat, q < H.size → t.heap[q]? = H[q]?) → XC cls s t)
    (hf : ∀ z ∈ locs, free z.base) (hc : cells + 1 ≤ mc) (hs : slots + 6 ≤ ms) :
    W p l e R s m args below meth c H locs cells slots (vx_MQ below Qc XC args s mc ms free) (F0 m pc ls rest) := by
  intro T hT X
  have htr : e.platform.stackTraces = false := (show e.platform.stackTraces = l.stackTraces by rw [X.admits.platform]).trans hl
  have Y := vx_rebase X (R' := { frames := R.frames, locals := R.locals, cells := 1, slots := 6 }) (Nat.le_refl _) (Nat.le_refl _) hRcells hRslots
  obtain ⟨s', hA⟩ : ∃ z, z = (T.setVm s.vm).setFrames (.invoking m args :: below) := ⟨_, rfl⟩
  rw [← hA] at Y
  have hvm : s'.vm = s.vm := by rw [hA]; rfl
  have hhp : s'.heap = H := by rw [hA]; exact hT
  have hW0 : s.WarmedH s'.vm := by rw [hvm]; exact State.WarmedH.refl s
  have hat' : ∀ w ∈ vx_atS own ic cls names, w.before args s' = true := fun w hw => vx_ot_at hW0 hvm.symm (hgood w (List.mem_cons_of_mem _ (List.mem_cons_of_mem _ hw))) (hat w hw)
  have hk' : (Cond.classLink own ik cls).before args s' = true := vx_ot_at hW0 hvm.symm (hgood _ List.mem_cons_self) hk
  have hini' : (Cond.initialized cls).before args s' = true := vx_ot_at hW0 hvm.symm (hgood _ (List.mem_cons_of_mem _ List.mem_cons_self)) hini
  have hU' : vx_Zq Bundle.tN "UNASSIGNED_STACK" Bundle.steD A s' s'.heap := by rw [hhp]; exact vx_Zq.moved hW0.alike (hU.kept hS.2.1)
  have hN' : vx_Zq Bundle.tN "SUPPRESSED_SENTINEL" Bundle.listD A s' s'.heap := by rw [hhp]; exact vx_Zq.moved hW0.alike (hN.kept hS.2.1)
  have h : ∀ w ∈ Bundle.ownAtoms own ic cls names, w.before args s' = true := vx_own hat' (vx_isRefq hU'.1) (vx_isRefq hN'.1) hU'.2.word hN'.2.word
  have hown' : s'.vm.findClass own = some m.cls := by rw [hvm]; exact hown
  have hins : (Cond.instantiable cls 6).before args s' = true := h _ (by simp [Bundle.ownAtoms])
  obtain ⟨vm₁, cX, kX, hfX, hkX, -, -, X₁, st1⟩ := Y.newCold hexec (own := own) (C := cls) (index := ik) (n := 6) hown' hk' hins hini'
    (g := F0 m pc ls rest) rfl (by rw [hb]; exact d0) (Nat.le_refl _) (Nat.le_refl _)
  generalize hT1 : (T.setVm vm₁).pushCell { cls := cX, slots := kX.instanceTypes.map defaultValue, vm := .none } = T1 at X₁ st1
  have hcat : (Value.ref T.heap.size).category = 1 := rfl
  have hcellA : T1.heap[T.heap.size]? = some (freshCell cX kX) := by rw [← hT1]; exact State.heap_pushCell_size _ _
  have d3' : decode c.code (pc + 3) = .ok (.dup, 1) := by rw [hb]; exact d3
  have d4' : decode c.code (pc + 4) = .ok (.ldc is, 2) := by rw [hb]; exact d4
  have hstr' : vk_R own is text sa s' := vk_R.warm hW0 hstr
  obtain ⟨U, hsteps, hrun, hend, hW, hsame, ce, hce, hO⟩ := X₁.ctorThrowS hexec htr (own := own) (cls := cls) (names := names) (ic := ic) hown' hcls hnames h (fun x hx => nomatch hx) hfX hkX hcellA (by rw [hhp, hT]; exact Nat.le_refl _) (msg := .ref sa) rfl
    (g := { method := m, pc := pc + 6, locals := ls, stack := .ref sa :: .ref T.heap.size :: .ref T.heap.size :: rest, locked := none }) rfl hsize rfl rfl (rest := rest) rfl
    (by rw [hb]; exact d6) (by rw [hb]; exact d9) hout hRframes (by simp only [List.map_cons, List.sum_cons, hcat]; omega) hlocks
  obtain ⟨f1, f2⟩ := vx_frame hsame
  rw [hhp] at f1 f2
  have hWs : s.WarmedH U.vm := State.WarmedH.trans hW0 hW
  have hcl : s.vm.findClass cls = some ce.cls := by
    have h9 := hO.cls
    rw [hvm] at h9
    exact h9
  have hall : s.sameButNew ({ U with vm := s.vm } : State) locs mc ms := by
    subst hA
    obtain ⟨e1, e2⟩ := hsame
    rw [State.setFrames_setFrames] at e1
    have h2 : (T.setVm s.vm).sameButNew ({ U with vm := s.vm } : State) [] (0 + 1) (0 + 6) := ⟨e1, e2⟩
    have h3 := X.same.trans h2
    rw [List.append_nil] at h3
    exact h3.mono hc hs
  refine ⟨U, ?_, .threw T.heap.size, hrun, hend, Or.inr ⟨T.heap.size, rfl, cls, ce, locs, hx U hWs.alike f1 (fun q hq => f2 q hq (fun z hz => nomatch hz)), hce, hO.vm, hcl, hWs, hall, hf⟩⟩
  refine st1 _ ?_
  show Steps p.tables e below (T1.setTop { method := m, pc := pc + 3, locals := ls, stack := .ref T.heap.size :: rest, locked := none }) _
  jvm_step X₁.here [X₁.here.top, hexec, d3', Value.category]
  exact X₁.ldcString hexec (own := own) (text := text) (index := is) (a := sa) hown' hstr'.1 hstr'.2
    (g := { method := m, pc := pc + 4, locals := ls, stack := .ref T.heap.size :: .ref T.heap.size :: rest, locked := none }) rfl d4' _ hsteps
/-- 'throw new E("text")', the text by a wide index -/
theorem vx_throwSW {cc : ByteArray} {pc : Nat} (hexec : p.tables.exec = Jvm.exec) (hb : c.code = cc) (hl : l.stackTraces = false) {own cls text : String} {names : List String} {ik is ic mc ms sa : Nat} {A : Nat → Prop}
    (hown : s.vm.findClass own = some m.cls) (hcls : Bundle.fit cls = true) (hnames : ∀ n ∈ names, Bundle.fit n = true)
    (hk : (Cond.classLink own ik cls).before args s = true) (hini : (Cond.initialized cls).before args s = true) (hstr : vk_R own is text sa s) (hat : ∀ w ∈ vx_atS own ic cls names, w.before args s = true)
    (hgood : ∀ w ∈ Cond.classLink own ik cls :: Cond.initialized cls :: vx_atS own ic cls names, vx_ot w = true)
    (hU : vx_Zq Bundle.tN "UNASSIGNED_STACK" Bundle.steD A s s.heap) (hN : vx_Zq Bundle.tN "SUPPRESSED_SENTINEL" Bundle.listD A s s.heap) (hS : va_S A s.heap H locs) (hsize : ls.size = c.maxLocals)
    (d0 : decode cc pc = .ok (.new ik, 3)) (d3 : decode cc (pc + 3) = .ok (.dup, 1)) (d4 : decode cc (pc + 4) = .ok (.ldc_w is, 3)) (d7 : decode cc (pc + 7) = .ok (.invokespecial ic, 3)) (d10 : decode cc (pc + 10) = .ok (.athrow, 1))
    (hout : ∀ x ∈ c.exceptionTable.toList, covers x (pc + 10) = false)
    (hRframes : names.length + 3 < R.frames) (hRlocals : (rest.map fun v => v.category).sum + (13 * (names.length + 1) + 43) ≤ R.locals) (hRcells : cells + 1 ≤ R.cells) (hRslots : slots + 6 ≤ R.slots) (hlocks : meth.locks = false)
    (hx : ∀ t : State, s.vm.Alike t.vm → H.size ≤ t.heap.size → (∀ q : Nat, q < H.size → t.heap[q]? = H[q]?) → XC cls s t)
    (hf : ∀ z ∈ locs, free z.base) (hc : cells + 1 ≤ mc) (hs : slots + 6 ≤ ms) :
    W p l e R s m args below meth c H locs cells slots (vx_MQ below Qc XC args s mc ms free) (F0 m pc ls rest) := by
  intro T hT X
  have htr : e.platform.stackTraces = false := (show e.platform.stackTraces = l.stackTraces by rw [X.admits.platform]).trans hl
  have Y := vx_rebase X (R' := { frames := R.frames, locals := R.locals, cells := 1, slots := 6 }) (Nat.le_refl _) (Nat.le_refl _) hRcells hRslots
  obtain ⟨s', hA⟩ : ∃ z, z = (T.setVm s.vm).setFrames (.invoking m args :: below) := ⟨_, rfl⟩
  rw [← hA] at Y
  have hvm : s'.vm = s.vm := by rw [hA]; rfl
  have hhp : s'.heap = H := by rw [hA]; exact hT
  have hW0 : s.WarmedH s'.vm := by rw [hvm]; exact State.WarmedH.refl s
  have hat' : ∀ w ∈ vx_atS own ic cls names, w.before args s' = true := fun w hw => vx_ot_at hW0 hvm.symm (hgood w (List.mem_cons_of_mem _ (List.mem_cons_of_mem _ hw))) (hat w hw)
  have hk' : (Cond.classLink own ik cls).before args s' = true := vx_ot_at hW0 hvm.symm (hgood _ List.mem_cons_self) hk
  have hini' : (Cond.initialized cls).before args s' = true := vx_ot_at hW0 hvm.symm (hgood _ (List.mem_cons_of_mem _ List.mem_cons_self)) hini
  have hU' : vx_Zq Bundle.tN "UNASSIGNED_STACK" Bundle.steD A s' s'.heap := by rw [hhp]; exact vx_Zq.moved hW0.alike (hU.kept hS.2.1)
  have hN' : vx_Zq Bundle.tN "SUPPRESSED_SENTINEL" Bundle.listD A s' s'.heap := by rw [hhp]; exact vx_Zq.moved hW0.alike (hN.kept hS.2.1)
  have h : ∀ w ∈ Bundle.ownAtoms own ic cls names, w.before args s' = true := vx_own hat' (vx_isRefq hU'.1) (vx_isRefq hN'.1) hU'.2.word hN'.2.word
  have hown' : s'.vm.findClass own = some m.cls := by rw [hvm]; exact hown
  have hins : (Cond.instantiable cls 6).before args s' = true := h _ (by simp [Bundle.ownAtoms])
  obtain ⟨vm₁, cX, kX, hfX, hkX, -, -, X₁, st1⟩ := Y.newCold hexec (own := own) (C := cls) (index := ik) (n := 6) hown' hk' hins hini'
    (g := F0 m pc ls rest) rfl (by rw [hb]; exact d0) (Nat.le_refl _) (Nat.le_refl _)
  generalize hT1 : (T.setVm vm₁).pushCell { cls := cX, slots := kX.instanceTypes.map defaultValue, vm := .none } = T1 at X₁ st1
  have hcat : (Value.ref T.heap.size).category = 1 := rfl
  have hcellA : T1.heap[T.heap.size]? = some (freshCell cX kX) := by rw [← hT1]; exact State.heap_pushCell_size _ _
  have d3' : decode c.code (pc + 3) = .ok (.dup, 1) := by rw [hb]; exact d3
  have d4' : decode c.code (pc + 4) = .ok (.ldc_w is, 3) := by rw [hb]; exact d4
  have hstr' : vk_R own is text sa s' := vk_R.warm hW0 hstr
  obtain ⟨U, hsteps, hrun, hend, hW, hsame, ce, hce, hO⟩ := X₁.ctorThrowS hexec htr (own := own) (cls := cls) (names := names) (ic := ic) hown' hcls hnames h (fun x hx => nomatch hx) hfX hkX hcellA (by rw [hhp, hT]; exact Nat.le_refl _) (msg := .ref sa) rfl
    (g := { method := m, pc := pc + 7, locals := ls, stack := .ref sa :: .ref T.heap.size :: .ref T.heap.size :: rest, locked := none }) rfl hsize rfl rfl (rest := rest) rfl
    (by rw [hb]; exact d7) (by rw [hb]; exact d10) hout hRframes (by simp only [List.map_cons, List.sum_cons, hcat]; omega) hlocks
  obtain ⟨f1, f2⟩ := vx_frame hsame
  rw [hhp] at f1 f2
  have hWs : s.WarmedH U.vm := State.WarmedH.trans hW0 hW
  have hcl : s.vm.findClass cls = some ce.cls := by
    have h9 := hO.cls
    rw [hvm] at h9
    exact h9
  have hall : s.sameButNew ({ U with vm := s.vm } : State) locs mc ms := by
    subst hA
    obtain ⟨e1, e2⟩ := hsame
    rw [State.setFrames_setFrames] at e1
    have h2 : (T.setVm s.vm).sameButNew ({ U with vm := s.vm } : State) [] (0 + 1) (0 + 6) := ⟨e1, e2⟩
    have h3 := X.same.trans h2
    rw [List.append_nil] at h3
    exact h3.mono hc hs
  refine ⟨U, ?_, .threw T.heap.size, hrun, hend, Or.inr ⟨T.heap.size, rfl, cls, ce, locs, hx U hWs.alike f1 (fun q hq => f2 q hq (fun z hz => nomatch hz)), hce, hO.vm, hcl, hWs, hall, hf⟩⟩
  refine st1 _ ?_
  show Steps p.tables e below (T1.setTop { method := m, pc := pc + 3, locals := ls, stack := .ref T.heap.size :: rest, locked := none }) _
  jvm_step X₁.here [X₁.here.top, hexec, d3', Value.category]
  exact X₁.ldcStringW hexec (own := own) (text := text) (index := is) (a := sa) hown' hstr'.1 hstr'.2
    (g := { method := m, pc := pc + 4, locals := ls, stack := .ref T.heap.size :: .ref T.heap.size :: rest, locked := none }) rfl d4' _ hsteps
end Ends
section Bodies
variable {l : Launch}
theorem vx_ofW {y : MethodName} {ws ws' : List Cond} {rm : Room} {Pc : Array Value → State → Prop} {Qc : Array Value → State → Outcome → State → Prop} {XC : String → State → State → Prop} {mc ms : Nat} {free : Addr → Prop} {cc : ByteArray} {maxL : Nat} {ret : Option FieldType}
    (hy : plainName y.cls = true) (hw : ws = Cond.code y cc maxL ret :: ws')
    (body : ∀ p e s m args below meth c s₁, BodyLoose p l y (headSpec ws rm) cc maxL ret e s m args below meth c s₁ → c.maxLocals = maxL → (∀ x ∈ c.exceptionTable.toList, False) → Pc args s →
      W p l e (headSpec ws rm).room s m args below meth c s.heap [] 0 0 (vx_MQ below Qc XC args s mc ms free) (entryFrame m args maxL)) : vx_Met l y ws rm Pc Qc XC mc ms free := by
  refine MetFree.of_bodyS (code := cc) (maxLocals := maxL) (ret := ret) hy ?_ ?_
  · intro args s m h hn
    obtain ⟨meth, c, h1, h2, h3, h4, h5, h6, -, -⟩ := Cond.code_spec hn (atoms_spec (ws := ws) h _ (by rw [hw]; exact List.mem_cons_self))
    exact ⟨meth, c, h1, h2, h3, h4, h5, h6⟩
  · intro p e s m args below meth c s₁ B hml hP _
    have hh0 : s₁.heap = s.heap := by rw [B.state]; rfl
    have ht : ∀ x ∈ c.exceptionTable.toList, False := by
      obtain ⟨meth9, c9, h1, h2, -, -, -, -, h7, -⟩ := Cond.code_spec B.named (atoms_spec (ws := ws) B.pre _ (by rw [hw]; exact List.mem_cons_self))
      cases Option.some.inj (h1.symm.trans B.method)
      cases Option.some.inj (h2.symm.trans (Stand.of_body B).code)
      intro x hx
      rw [Array.isEmpty_iff.mp h7] at hx
      cases hx
    obtain ⟨t, a1, o, b1, b2, b3⟩ := body p e s m args below meth c s₁ B hml ht hP s₁ hh0 (Stand.of_body B)
    exact ⟨t, o, a1, b1, b2, b3⟩
/-- the table of a body with handlers -/
theorem vx_table {p : Program} {x y : MethodName} {S : Spec} {cc bytes : ByteArray} {maxL maxL' : Nat} {ret ret' : Option FieldType} {e : Env} {s s₁ : State} {m : MethodId} {args : Array Value} {below : List Frame} {meth : Method} {c : Code} {hh : List (Nat × Nat × Nat × Nat)}
    (B : BodyLoose p l y S cc maxL ret e s m args below meth c s₁) (h : (Cond.codeWith y bytes maxL' ret' hh).before args s = true) : c.exceptionTable.toList = tableOf hh := by
  obtain ⟨m9, meth9, c9, hn9, h1, h2, -, -, h6, -⟩ := Cond.codeWith_spec h
  cases Option.some.inj (hn9.symm.trans B.named)
  cases Option.some.inj (h1.symm.trans B.method)
  cases Option.some.inj (h2.symm.trans (Stand.of_body B).code)
  rw [← h6, table_eq]
end Bodies
end VXA
/-! ===== END ===== -/
/-! ===== BEGIN a static call of a method with an exception table ===== -/
section VXS
variable {p : Program} {l : Launch} {e : Env} {R : Room} {s : State} {m : MethodId} {args : Array Value} {below : List Frame} {meth : Method} {c : Code} {T : State} {H : Heap} {locs : List Loc} {cells slots : Nat}
abbrev vx_CSW (R : Room) (s : State) (args : Array Value) (own : String) (index : Nat) (y : MethodName) (bytes : ByteArray) (maxL : Nat) (ret : Option FieldType) (hh : List (Nat × Nat × Nat × Nat)) (ws : List Cond) (rm : Room) (mc ms n : Nat) : Prop :=
  (rm.cells = mc ∧ rm.slots = ms ∧ rm.frames + 1 ≤ R.frames ∧ 8 + (maxL + 11) + rm.locals ≤ R.locals ∧ (∀ w ∈ ws, ∀ (a' : Array Value) (U : State), s.WarmedH U.vm → w.before a' U = true) ∧ Cond.codeWith y bytes maxL ret hh ∈ ws) ∧
  (Cond.codeWith y bytes maxL ret hh).before args s = true ∧ (Cond.initialized y.cls).before args s = true ∧ (y.cls ≠ "java/lang/invoke/MethodHandle" ∧ y.cls ≠ "java/lang/invoke/VarHandle") ∧
  (∀ sig, parseMethodDescriptor y.desc = some sig → n = sig.parameters.length) ∧ (Cond.methodLink own index y).before args s = true ∧ (Cond.static y).before args s = true
theorem vx_cwSW {own : String} {index maxL mc ms : Nat} {y : MethodName} {bytes : ByteArray} {ret : Option FieldType} {hh : List (Nat × Nat × Nat × Nat)} {Ts ws ws' : List Cond} {rm : Room} (n : Nat) (ht : ∀ w ∈ Ts, w.before args s = true) (hT : GoodIn Ts (va_wsS own index y ws)) (hw : ws = Cond.codeWith y bytes maxL ret hh :: ws') (hrc : rm.cells = mc) (hrs : rm.slots = ms)
    (hd : y.cls ≠ "java/lang/invoke/MethodHandle" ∧ y.cls ≠ "java/lang/invoke/VarHandle" ∧ (parseMethodDescriptor y.desc).map (fun d => d.parameters.length) = some n) (hR : rm.frames + 1 ≤ R.frames ∧ 8 + (maxL + 11) + rm.locals ≤ R.locals) :
    vx_CSW R s args own index y bytes maxL ret hh ws rm mc ms n := by
  have ok : ∀ w ∈ va_wsS own index y ws, w.before args s = true := fun w h => ht w (hT w h).1
  have hG : GoodIn Ts ws := fun w h => hT w (by unfold va_wsS; exact List.mem_append_right _ h)
  have hc : Cond.codeWith y bytes maxL ret hh ∈ ws := by rw [hw]; exact List.mem_cons_self
  refine ⟨⟨hrc, hrs, hR.1, hR.2, pay_in ht hG, hc⟩, ht _ (hG _ hc).1, ok _ (by simp [va_wsS]), ⟨hd.1, hd.2.1⟩, fun sig h => ?_, ok _ (by simp [va_wsS]), ok _ (by simp [va_wsS])⟩
  have h2 := hd.2.2
  rw [h] at h2
  exact (Option.some.inj h2).symm
theorem vx_callSW (X : Stand p l e R s m args below meth c T locs cells slots) (hexec : p.tables.exec = Jvm.exec) {own : String} {index : Nat} {y : MethodName} {bytes : ByteArray} {maxL : Nat} {ret : Option FieldType} {hh : List (Nat × Nat × Nat × Nat)}
    (hown : s.vm.findClass own = some m.cls) (hlink : (Cond.methodLink own index y).before args s = true) (hstat : (Cond.static y).before args s = true) (hinit : (Cond.initialized y.cls).before args s = true)
    (hcode : (Cond.codeWith y bytes maxL ret hh).before args s = true) (hy : y.cls ≠ "java/lang/invoke/MethodHandle" ∧ y.cls ≠ "java/lang/invoke/VarHandle")
    {W9 : Nat} {Pre : Pt → Array Value → Prop} {Post : Pt → Array Value → Option Value → Pt → Prop} (hK : Back l R p e below s args y 3 W9 Pre Post)
    {g : JFrame} (hg : g.method = m) (hsize : g.locals.size = c.maxLocals) {argsL rest : List Value} (hlen : ∀ sig, parseMethodDescriptor y.desc = some sig → argsL.length = sig.parameters.length)
    (hstack : g.stack = argsL.reverse ++ rest) (hW : 2 * g.monitorRoom + (rest.map fun v => v.category).sum ≤ W9) (hdg : decode c.code g.pc = .ok (.invokestatic index, 3))
    (hpre : ∀ vm₁, s.WarmedH vm₁ → Pre ⟨T.setVm vm₁, locs, cells, slots⟩ argsL.toArray) :
    ∃ (v : Option Value) (vm₁ : Vm) (B : Pt), s.WarmedH vm₁ ∧ Stand p l e R s m args below meth c B.U B.locs B.cells B.slots ∧ Post ⟨T.setVm vm₁, locs, cells, slots⟩ argsL.toArray v B ∧
      ∀ target, Steps p.tables e below (B.U.setTop { g with pc := g.pc + 3, stack := v.toList ++ rest }) target → Steps p.tables e below (T.setTop g) target := by
  obtain ⟨mk, methM, cM, hnamed, hmethM, -, -, -, -, -, -, hsigM⟩ := Cond.codeWith_spec hcode
  have hstatic : methM.isStatic = true := Cond.static_spec hnamed hmethM hstat
  obtain ⟨kP, hkP, -⟩ := className_of_methodNamed hnamed
  have hinitP : kP.init = .initialized := Cond.initialized_spec (findClass_of_methodNamed hnamed) hkP hinit
  obtain ⟨vm₁, X₁, hstep₁⟩ := X.invokestatic hexec hown hlink hnamed hmethM hstatic hkP hinitP hy (g := g) hg (argsL := argsL) (rest := rest) (hlen _ hsigM) hstack hdg
  obtain ⟨v, B, X', hpost, hsteps⟩ := hK m meth c ⟨T.setVm vm₁, locs, cells, slots⟩ { g with stack := rest } (.invokestatic index) mk argsL.toArray X₁ hg hsize hdg hW (X₁.named hnamed) (hpre vm₁ X₁.warmed)
  exact ⟨v, vm₁, B, X₁.warmed, X', hpost, fun target h => hstep₁ _ fun acts => by rw [doInvoke_state]; exact hsteps.trans h⟩
theorem vx_runSW {y : MethodName} {bytes cc : ByteArray} {maxL nL mc ms n index : Nat} {ret : Option FieldType} {hh : List (Nat × Nat × Nat × Nat)} {ws : List Cond} {rm : Room} {Pc : Array Value → State → Prop} {Qc : Array Value → State → Outcome → State → Prop} {free : Addr → Prop} {Ts : List Cond} {own : String} {As rest : List Value} {g : JFrame}
    (S : CallFix p m c cc nL s args Ts own) (hM : Met l y ws rm Pc Qc mc ms free) (cw : vx_CSW R s args own index y bytes maxL ret hh ws rm mc ms n) (hp : PreS s H Pc As)
    (hg : g.method = m) (hn : As.length = n) (hsize : g.locals.size = nL) (hstack : g.stack = As.reverse ++ rest) (hW : 2 * g.monitorRoom + (rest.map fun v => v.category).sum ≤ 8) (hdg : decode cc g.pc = .ok (.invokestatic index, 3)) (hf : cells + mc ≤ R.cells ∧ slots + ms ≤ R.slots) :
    va_Run p l e R s m args below meth c H locs cells slots mc ms g rest (Qc As.toArray) (free) := by
  obtain ⟨⟨hrc, hrs, hfr, hlo, hws, hcw⟩, hcode, hini, hy, hlen, hl, hstt⟩ := cw
  have hK : Back l R p e below s args y 3 8 (PreOf R mc ms Pc) (PostOf Qc mc ms free) := va_backW (hh := hh) (bytes := bytes) (maxL := maxL) (ret := ret) hM hp.1 hrc hrs hfr hlo hws hcw (fun a' U hW => word_at hW (Or.inl (by first | rfl | simp [Cond.onTables, Cond.keeps, Cond.steady])) hini)
  obtain ⟨hx, hb, hml, ho, -⟩ := S
  intro T hT X
  obtain ⟨v, vm₁, ⟨U', l2, c2, s2⟩, hW₁, X', ⟨g', mk, t, L, e1, e2, hq, h1, hL, h2, h3⟩, st⟩ := vx_callSW X hx (hh := hh) (bytes := bytes) (maxL := maxL) (ret := ret) ho hl hstt hini hcode hy hK hg (hsize.trans hml.symm) (argsL := As) (rest := rest) (fun sig h => hn.trans (hlen sig h)) hstack hW (by rw [hb]; exact hdg)
    (fun vm₁ hW₁ => ⟨hf.1, hf.2, hp.2 (T.setVm vm₁) hT hW₁⟩)
  dsimp only [Pt.U, Pt.locs, Pt.cells, Pt.slots] at X' e1 e2 h1 h2 h3 st
  subst h1; subst h2; subst h3
  exact ⟨v, (T.setVm vm₁).calling g' mk As.toArray, t, U', L, hT, X', hL, e1, e2, hq, st⟩
/-- not caught here, past rows that name other classes: it goes on to the caller -/
theorem vx_outP {p : Program} {l : Launch} {e : Env} {R : Room} {s : State} {m : MethodId} {args : Array Value} {below : List Frame} {meth : Method} {c : Code} {H : Heap} {locs : List Loc} {cells slots : Nat} {free : Addr → Prop} {ls : Array Slot} {rest : List Value} {Qc : Array Value → State → Outcome → State → Prop} {XC : String → State → State → Prop}
    {pc : Nat} {own E : String} {ce : Cell} {q : Addr} {mc ms : Nat} (hown : s.vm.findClass own = some m.cls) (hlocks : meth.locks = false)
    (hpass : ∀ z ∈ c.exceptionTable.toList, covers z pc = false ∨ (z.catchType ≠ 0 ∧ ∃ nm : String, (Cond.classLink own z.catchType nm).before args s = true ∧ va_Nc E nm s)) (hcell : H[q]? = some ce) (hv : ce.vm = .none) (hcl : s.vm.findClass E = some ce.cls)
    (hx : ∀ t : State, t.heap = H → s.vm.Alike t.vm → XC E s t) (hf : ∀ z ∈ locs, free z.base) (hc : cells ≤ mc) (hs : slots ≤ ms) :
    vx_W p l e R s m args below meth c H locs cells slots (vx_MQ below Qc XC args s mc ms free) (F0 m pc ls rest) q := by
  intro T hT X
  have hpl : e.platform.magicAccessors = ({} : Platform).magicAccessors := by rw [X.admits.platform]
  obtain ⟨vm', hW', X', st⟩ := Stand.outThrough X hlocks q (g := F0 m pc ls rest) rfl rfl rfl (cell := ce) (by rw [hT]; exact hcell) (by rw [hv]; rfl)
    (by obtain ⟨k9, h9, -⟩ := Vm.findClass_spec hcl; exact ⟨k9, h9⟩) (fun z hz => by
      rcases hpass z hz with h | ⟨hz0, nm, hl1, hn1⟩
      · exact Or.inl h
      · obtain ⟨c6, hc6, hcl6⟩ := Cond.classLink_spec hown hl1 e.platform hpl
        obtain ⟨a8, b8, h1, h2, h3⟩ := hn1
        cases Option.some.inj (h1.symm.trans hcl)
        cases Option.some.inj (h2.symm.trans hc6)
        exact Or.inr ⟨hz0, _, hcl6, h3⟩)
  obtain ⟨g₀, hfr⟩ := X'.frames_eq
  have hcell9 : ((T.setVm vm').setFrames (.throwing q :: below)).heap[q]? = some ce := by
    show T.heap[q]? = some ce
    rw [hT]; exact hcell
  have hend : Ended ((T.setVm vm').setFrames (.throwing q :: below)) below (.threw q) := State.frames_setFrames _ (State.cur_lt_of_frames hfr)
  refine ⟨(T.setVm vm').setFrames (.throwing q :: below), ?_, .threw q, X'.here.running, hend, Or.inr ⟨q, rfl, E, ce, locs, hx _ hT (X'.ends _).1.alike, hcell9, hv, hcl, (X'.ends _).1, (X'.ends _).2.mono hc hs, hf⟩⟩
  rw [X.pushThrowing_eq]
  exact st
/-- a thing of a world lies in the heap -/
theorem vx_lt {D : va_G} {cl : List vw_C} {ws : va_W} {H1 : Heap} (h : va_P D cl ws H1) {k : Nat} {q : Nat × va_E} (hk : ws[k]? = some q) : q.1 < H1.size := (h k q hk).lt
end VXS
/-! ===== END ===== -/
/-! ===== BEGIN methods with a table of their own: called by a name, returning or throwing ===== -/
section VXH
/-! vx_backW, vx_callVX, vx_callSX, vx_callVW, vx_runVW, vx_runVX, vx_runSX, vx_ofWH follow the same proofs as their sisters above (Free/Laws.lean, Shelf42/LK1.lean); vx_outP calls Shelf42/NT130.lean (outThrough). -/
section
variable {l : Launch} {R : Room} {p : Program} {e : Env} {below : List Frame} {s : State} {sargs : Array Value} {y : MethodName} {len W9 : Nat}
theorem vx_backW {ws : List Cond} {rm : Room} {Pc : Array Value → State → Prop} {Qc : Array Value → State → Outcome → State → Prop} {XC : String → State → State → Prop} {mc ms : Nat} {free : Addr → Prop} {bytes : ByteArray} {maxL : Nat} {ret : Option FieldType} {hh : List (Nat × Nat × Nat × Nat)}
    (hM : vx_Met l y ws rm Pc Qc XC mc ms free) (hblind : FrameBlind Pc) (hrc : rm.cells = mc) (hrs : rm.slots = ms)
    (hframes : rm.frames + 1 ≤ R.frames) (hlocals : W9 + (maxL + 11) + rm.locals ≤ R.locals)
    (hws : ∀ w ∈ ws, ∀ a' U, s.WarmedH U.vm → w.before a' U = true) (hcode : Cond.codeWith y bytes maxL ret hh ∈ ws) (hinit : ∀ a' U, s.WarmedH U.vm → (Cond.initialized y.cls).before a' U = true) :
    vx_Back l R p e below s sargs y len W9 (PreOf R mc ms Pc) (PostOf Qc mc ms free) (vx_Post XC mc ms free) := by
  intro m meth c A g ig mk a X hg hsize hdg hW hn hp
  have h1 : (headSpec ws rm).pre.before a A.U = true := atoms_intro fun w hw => hws w hw _ _ X.warmed
  have h2 : (Cond.codeWith y bytes maxL ret hh).before a A.U = true := hws _ hcode _ _ X.warmed
  have h3 : (Cond.initialized y.cls).before a A.U = true := hinit _ _ X.warmed
  have h4 : A.cells + (headSpec ws rm).room.cells ≤ R.cells := by rw [show (headSpec ws rm).room.cells = mc from hrc]; exact hp.1
  have h5 : A.slots + (headSpec ws rm).room.slots ≤ R.slots := by rw [show (headSpec ws rm).room.slots = ms from hrs]; exact hp.2.1
  have hPc : Pc a (A.U.calling g mk a) := hblind _ _ _ _ hp.2.2
  obtain ⟨U, Ls, c0, s0⟩ := A
  dsimp only [Pt.U, Pt.locs, Pt.cells, Pt.slots] at h1 h2 h3 h4 h5 X hn hPc ⊢
  obtain ⟨m9, methY, cY, hn9, hmY, hcY, -, hlY, -⟩ := Cond.codeWith_spec h2
  cases Option.some.inj (hn9.symm.trans hn)
  obtain ⟨kY, hkY, -⟩ := className_of_methodNamed hn
  have hinitY : kY.init = .initialized := Cond.initialized_spec (findClass_of_methodNamed hn) hkY h3
  have h : At U g.method c below := by rw [hg]; exact X.here
  have hlocals9 : W9 + (maxL + 11) + (headSpec ws rm).room.locals ≤ R.locals := hlocals
  have happ : (headSpec ws rm).appliesLoose y e.platform (U.calling g mk a) = true :=
    Spec.appliesLoose_calling (g := g) h hdg hn hkY hinitY
      (X.room_calling (g := g) (R' := (headSpec ws rm).room) hsize hmY hcY hframes (by rw [hlY]; omega) h4 h5) h1
  obtain ⟨mid, hmid⟩ := h.above
  have hfr : (U.setTop g).frames = (.java g :: mid) ++ below := by rw [State.frames_setTop' g h.top, hmid]; rfl
  obtain ⟨o, s₂, hsteps, -, hend, hq⟩ := Steps.callFree hM p X.admits X.cas X.clock (acts := []) hfr happ hPc trivial
  have hq' : vx_Q Qc XC mc ms free a (U.calling g mk a) o s₂ := hq
  rw [State.frames_setTop' g h.top] at hend
  obtain ⟨g₀, hg0⟩ := Option.isSome_iff_exists.mp h.top
  obtain ⟨r, hr⟩ := State.topJava?_eq_some.mp hg0
  have hr' : (({ U with heap := s₂.heap, slotsUsed := s₂.slotsUsed } : State).setVm s₂.vm).frames = .java g₀ :: r := hr
  rcases hq' with ⟨hqc, L, hfe, hL⟩ | ⟨q, rfl, E, ce, L, hx, hce, hcv, hcl, hW₂, hsm, hL⟩
  · obtain ⟨⟨v, rfl⟩, hW₂, e2, q2, q3, q4, q5, q6⟩ := id hfe
    have e3 : s₂ = ({ (U.calling g mk a).setFrames s₂.frames with heap := s₂.heap, slotsUsed := s₂.slotsUsed } : State).setVm s₂.vm := by
      have : s₂ = ({ s₂ with vm := (U.calling g mk a).vm } : State).setVm s₂.vm := rfl
      rw [e2] at this
      exact this
    obtain ⟨c₂, i₂, len₂, hc₂, hd₂, hf₂⟩ := hend
    have hW' : U.WarmedH s₂.vm := hW₂
    have hcc : c₂ = c := by
      have h1 : s₂.code? g.method = U.code? g.method := by
        rw [State.code?_eq, State.code?_eq, hW'.alike.method?]
      exact Option.some.inj (hc₂.symm.trans (h1.trans h.code))
    subst hcc
    have hlen : len₂ = len := by rw [hdg] at hd₂; cases hd₂; rfl
    subst hlen
    have hs₂ : s₂ = (({ U with heap := s₂.heap, slotsUsed := s₂.slotsUsed } : State).setVm s₂.vm).setTop { g with pc := g.pc + len₂, stack := v.toList ++ g.stack } := by
      refine e3.trans ?_
      rw [hf₂, State.calling_eq h.top, State.setFrames_setFrames, State.setTop_of_frames _ hr', hr]
      rfl
    have hsame : U.sameButNew ({ U with heap := s₂.heap, slotsUsed := s₂.slotsUsed } : State) L mc ms := by
      refine ⟨?_, q2, q3, q4, q5, q6⟩
      obtain ⟨t, ht, -⟩ := State.frames_cons hr
      show ({ U with heap := s₂.heap, slotsUsed := s₂.slotsUsed } : State) = { U.setFrames U.frames with heap := s₂.heap, slotsUsed := s₂.slotsUsed }
      rw [State.setFrames_self ht]
    subst hg
    refine Or.inl ⟨v, ⟨(({ U with heap := s₂.heap, slotsUsed := s₂.slotsUsed } : State).setVm s₂.vm), Ls ++ L, c0 + mc, s0 + ms⟩,
      ⟨X.admits, X.cas, X.clock, X.frames, X.room, X.hears, X.method, X.code, (X.here.setHeapUsed s₂.heap s₂.slotsUsed).setVm hW'.alike, X.tail, State.WarmedH.trans X.warmed hW', X.limits, X.bytes, X.same.trans (hsame.setVm s.vm)⟩,
      ⟨g, mk, s₂, L, rfl, rfl, hqc, rfl, hL, rfl, rfl⟩, ?_⟩
    show Steps p.tables e below _ ((({ U with heap := s₂.heap, slotsUsed := s₂.slotsUsed } : State).setVm s₂.vm).setTop { g with pc := g.pc + len₂, stack := v.toList ++ g.stack })
    rw [← hs₂]
    exact hsteps
  · obtain ⟨e2, q2, q3, q4, q5, q6⟩ := id hsm
    have e3 : s₂ = ({ (U.calling g mk a).setFrames s₂.frames with heap := s₂.heap, slotsUsed := s₂.slotsUsed } : State).setVm s₂.vm := by
      have : s₂ = ({ s₂ with vm := (U.calling g mk a).vm } : State).setVm s₂.vm := rfl
      rw [e2] at this
      exact this
    have hf₂ : s₂.frames = .throwing q :: .java g :: U.frames.tail := hend
    have hW' : U.WarmedH s₂.vm := hW₂
    have hs₂ : s₂ = ((({ U with heap := s₂.heap, slotsUsed := s₂.slotsUsed } : State).setVm s₂.vm).setTop g).pushFrame (.throwing q) := by
      refine e3.trans ?_
      rw [hf₂, State.calling_eq h.top, State.setFrames_setFrames, State.pushFrame, State.frames_setTop _ hr', State.setTop_of_frames _ hr', State.setFrames_setFrames, hr]
      rfl
    have hsame : U.sameButNew ({ U with heap := s₂.heap, slotsUsed := s₂.slotsUsed } : State) L mc ms := by
      refine ⟨?_, q2, q3, q4, q5, q6⟩
      obtain ⟨t, ht, -⟩ := State.frames_cons hr
      show ({ U with heap := s₂.heap, slotsUsed := s₂.slotsUsed } : State) = { U.setFrames U.frames with heap := s₂.heap, slotsUsed := s₂.slotsUsed }
      rw [State.setFrames_self ht]
    subst hg
    refine Or.inr ⟨q, ⟨(({ U with heap := s₂.heap, slotsUsed := s₂.slotsUsed } : State).setVm s₂.vm), Ls ++ L, c0 + mc, s0 + ms⟩,
      ⟨X.admits, X.cas, X.clock, X.frames, X.room, X.hears, X.method, X.code, (X.here.setHeapUsed s₂.heap s₂.slotsUsed).setVm hW'.alike, X.tail, State.WarmedH.trans X.warmed hW', X.limits, X.bytes, X.same.trans (hsame.setVm s.vm)⟩,
      ⟨g, mk, s₂, L, E, ce, rfl, rfl, hx, hce, hcv, hcl, rfl, hL, rfl, rfl⟩, ?_⟩
    show Steps p.tables e below _ (((({ U with heap := s₂.heap, slotsUsed := s₂.slotsUsed } : State).setVm s₂.vm).setTop g).pushFrame (.throwing q))
    rw [← hs₂]
    exact hsteps
end
variable {p : Program} {l : Launch} {e : Env} {R : Room} {s : State} {m : MethodId} {args : Array Value} {below : List Frame} {meth : Method} {c : Code} {T : State} {H : Heap} {locs : List Loc} {cells slots : Nat}
theorem vx_callVX (X : Stand p l e R s m args below meth c T locs cells slots) (hexec : p.tables.exec = Jvm.exec) {own C : String} {index : Nat} {y : MethodName} {bytes : ByteArray} {maxL : Nat} {ret : Option FieldType} {hh : List (Nat × Nat × Nat × Nat)}
    (hown : s.vm.findClass own = some m.cls) (hlink : (Cond.methodLink own index y).before args s = true) (hinst : (Cond.instanceMethod y).before args s = true) (hsel : (Cond.selects C y y).before args s = true)
    (hcode : (Cond.codeWith y bytes maxL ret hh).before args s = true) (hy : y.cls ≠ "java/lang/invoke/MethodHandle" ∧ y.cls ≠ "java/lang/invoke/VarHandle")
    {W9 : Nat} {Pre : Pt → Array Value → Prop} {Post : Pt → Array Value → Option Value → Pt → Prop} {PostX : Pt → Array Value → Addr → Pt → Prop} (hK : vx_Back l R p e below s args y 3 W9 Pre Post PostX)
    {b : Addr} {cellB : Cell} (hcell : T.heap[b]? = some cellB) (hobj : cellB.vm.isStatics = false) (hcls : s.vm.findClass C = some cellB.cls)
    {g : JFrame} (hg : g.method = m) (hsize : g.locals.size = c.maxLocals) {argsL rest : List Value} (hlen : ∀ sig, parseMethodDescriptor y.desc = some sig → argsL.length = sig.parameters.length)
    (hstack : g.stack = argsL.reverse ++ .ref b :: rest) (hW : 2 * g.monitorRoom + (rest.map fun v => v.category).sum ≤ W9) (hdg : decode c.code g.pc = .ok (.invokevirtual index, 3))
    (hpre : ∀ vm₁, s.WarmedH vm₁ → Pre ⟨T.setVm vm₁, locs, cells, slots⟩ (Value.ref b :: argsL).toArray) :
    (∃ (v : Option Value) (vm₁ : Vm) (B : Pt), s.WarmedH vm₁ ∧ Stand p l e R s m args below meth c B.U B.locs B.cells B.slots ∧ Post ⟨T.setVm vm₁, locs, cells, slots⟩ (Value.ref b :: argsL).toArray v B ∧
      ∀ target, Steps p.tables e below (B.U.setTop { g with pc := g.pc + 3, stack := v.toList ++ rest }) target → Steps p.tables e below (T.setTop g) target) ∨
    (∃ (q : Addr) (vm₁ : Vm) (B : Pt), s.WarmedH vm₁ ∧ Stand p l e R s m args below meth c B.U B.locs B.cells B.slots ∧ PostX ⟨T.setVm vm₁, locs, cells, slots⟩ (Value.ref b :: argsL).toArray q B ∧
      Steps p.tables e below (T.setTop g) ((B.U.setTop { g with stack := rest }).pushFrame (.throwing q))) := by
  obtain ⟨mk, methM, hnamed, hmethM, hstM, habM⟩ := Cond.instanceMethod_spec hinst
  obtain ⟨m8, methM', cM, hn8, hmethM', -, -, -, -, -, -, hsigM⟩ := Cond.codeWith_spec hcode
  cases Option.some.inj (hn8.symm.trans hnamed)
  cases hmethM.symm.trans hmethM'
  obtain ⟨c2, r2, m2, q1, q2, q3, q4, kP, hkP, hkPi⟩ := Cond.selects_spec hsel
  cases hcls.symm.trans q1
  cases (State.methodFound?_of_named hnamed hy).symm.trans q2
  cases hnamed.symm.trans q3
  have hselP : selectMethod e.platform s.vm cellB.cls mk = .method mk := by rw [Launch.admits_selectMethod X.admits]; exact q4
  obtain ⟨vm₁, X₁, hstep₁⟩ := X.invokevirtual hexec hown hlink hnamed hmethM hstM hkP hkPi hy (a := b) (cell := cellB) hcell
    (fun z h => by rw [h] at hobj; cases hobj) hselP hmethM habM hkP hkPi (g := g) hg (argsL := argsL) (rest := rest) (hlen _ hsigM) hstack hdg
  rcases hK m meth c ⟨T.setVm vm₁, locs, cells, slots⟩ { g with stack := rest } (.invokevirtual index) mk (Value.ref b :: argsL).toArray X₁ hg hsize hdg hW (X₁.named hnamed) (hpre vm₁ X₁.warmed) with ⟨v, B, X', hpost, hsteps⟩ | ⟨q, B, X', hpost, hsteps⟩
  · exact Or.inl ⟨v, vm₁, B, X₁.warmed, X', hpost, fun target h => hstep₁ _ fun acts => by rw [doInvoke_state]; exact hsteps.trans h⟩
  · exact Or.inr ⟨q, vm₁, B, X₁.warmed, X', hpost, hstep₁ _ fun acts => by rw [doInvoke_state]; exact hsteps⟩
theorem vx_callSX (X : Stand p l e R s m args below meth c T locs cells slots) (hexec : p.tables.exec = Jvm.exec) {own : String} {index : Nat} {y : MethodName} {bytes : ByteArray} {maxL : Nat} {ret : Option FieldType} {hh : List (Nat × Nat × Nat × Nat)}
    (hown : s.vm.findClass own = some m.cls) (hlink : (Cond.methodLink own index y).before args s = true) (hstat : (Cond.static y).before args s = true) (hinit : (Cond.initialized y.cls).before args s = true)
    (hcode : (Cond.codeWith y bytes maxL ret hh).before args s = true) (hy : y.cls ≠ "java/lang/invoke/MethodHandle" ∧ y.cls ≠ "java/lang/invoke/VarHandle")
    {W9 : Nat} {Pre : Pt → Array Value → Prop} {Post : Pt → Array Value → Option Value → Pt → Prop} {PostX : Pt → Array Value → Addr → Pt → Prop} (hK : vx_Back l R p e below s args y 3 W9 Pre Post PostX)
    {g : JFrame} (hg : g.method = m) (hsize : g.locals.size = c.maxLocals) {argsL rest : List Value} (hlen : ∀ sig, parseMethodDescriptor y.desc = some sig → argsL.length = sig.parameters.length)
    (hstack : g.stack = argsL.reverse ++ rest) (hW : 2 * g.monitorRoom + (rest.map fun v => v.category).sum ≤ W9) (hdg : decode c.code g.pc = .ok (.invokestatic index, 3))
    (hpre : ∀ vm₁, s.WarmedH vm₁ → Pre ⟨T.setVm vm₁, locs, cells, slots⟩ argsL.toArray) :
    (∃ (v : Option Value) (vm₁ : Vm) (B : Pt), s.WarmedH vm₁ ∧ Stand p l e R s m args below meth c B.U B.locs B.cells B.slots ∧ Post ⟨T.setVm vm₁, locs, cells, slots⟩ argsL.toArray v B ∧
      ∀ target, Steps p.tables e below (B.U.setTop { g with pc := g.pc + 3, stack := v.toList ++ rest }) target → Steps p.tables e below (T.setTop g) target) ∨
    (∃ (q : Addr) (vm₁ : Vm) (B : Pt), s.WarmedH vm₁ ∧ Stand p l e R s m args below meth c B.U B.locs B.cells B.slots ∧ PostX ⟨T.setVm vm₁, locs, cells, slots⟩ argsL.toArray q B ∧
      Steps p.tables e below (T.setTop g) ((B.U.setTop { g with stack := rest }).pushFrame (.throwing q))) := by
  obtain ⟨mk, methM, cM, hnamed, hmethM, -, -, -, -, -, -, hsigM⟩ := Cond.codeWith_spec hcode
  have hstatic : methM.isStatic = true := Cond.static_spec hnamed hmethM hstat
  obtain ⟨kP, hkP, -⟩ := className_of_methodNamed hnamed
  have hinitP : kP.init = .initialized := Cond.initialized_spec (findClass_of_methodNamed hnamed) hkP hinit
  obtain ⟨vm₁, X₁, hstep₁⟩ := X.invokestatic hexec hown hlink hnamed hmethM hstatic hkP hinitP hy (g := g) hg (argsL := argsL) (rest := rest) (hlen _ hsigM) hstack hdg
  rcases hK m meth c ⟨T.setVm vm₁, locs, cells, slots⟩ { g with stack := rest } (.invokestatic index) mk argsL.toArray X₁ hg hsize hdg hW (X₁.named hnamed) (hpre vm₁ X₁.warmed) with ⟨v, B, X', hpost, hsteps⟩ | ⟨q, B, X', hpost, hsteps⟩
  · exact Or.inl ⟨v, vm₁, B, X₁.warmed, X', hpost, fun target h => hstep₁ _ fun acts => by rw [doInvoke_state]; exact hsteps.trans h⟩
  · exact Or.inr ⟨q, vm₁, B, X₁.warmed, X', hpost, hstep₁ _ fun acts => by rw [doInvoke_state]; exact hsteps⟩
theorem vx_callVW (X : Stand p l e R s m args below meth c T locs cells slots) (hexec : p.tables.exec = Jvm.exec) {own C : String} {index : Nat} {y : MethodName} {bytes : ByteArray} {maxL : Nat} {ret : Option FieldType} {hh : List (Nat × Nat × Nat × Nat)}
    (hown : s.vm.findClass own = some m.cls) (hlink : (Cond.methodLink own index y).before args s = true) (hinst : (Cond.instanceMethod y).before args s = true) (hsel : (Cond.selects C y y).before args s = true)
    (hcode : (Cond.codeWith y bytes maxL ret hh).before args s = true) (hy : y.cls ≠ "java/lang/invoke/MethodHandle" ∧ y.cls ≠ "java/lang/invoke/VarHandle")
    {W9 : Nat} {Pre : Pt → Array Value → Prop} {Post : Pt → Array Value → Option Value → Pt → Prop} (hK : Back l R p e below s args y 3 W9 Pre Post)
    {b : Addr} {cellB : Cell} (hcell : T.heap[b]? = some cellB) (hobj : cellB.vm.isStatics = false) (hcls : s.vm.findClass C = some cellB.cls)
    {g : JFrame} (hg : g.method = m) (hsize : g.locals.size = c.maxLocals) {argsL rest : List Value} (hlen : ∀ sig, parseMethodDescriptor y.desc = some sig → argsL.length = sig.parameters.length)
    (hstack : g.stack = argsL.reverse ++ .ref b :: rest) (hW : 2 * g.monitorRoom + (rest.map fun v => v.category).sum ≤ W9) (hdg : decode c.code g.pc = .ok (.invokevirtual index, 3))
    (hpre : ∀ vm₁, s.WarmedH vm₁ → Pre ⟨T.setVm vm₁, locs, cells, slots⟩ (Value.ref b :: argsL).toArray) :
    ∃ (v : Option Value) (vm₁ : Vm) (B : Pt), s.WarmedH vm₁ ∧ Stand p l e R s m args below meth c B.U B.locs B.cells B.slots ∧ Post ⟨T.setVm vm₁, locs, cells, slots⟩ (Value.ref b :: argsL).toArray v B ∧
      ∀ target, Steps p.tables e below (B.U.setTop { g with pc := g.pc + 3, stack := v.toList ++ rest }) target → Steps p.tables e below (T.setTop g) target := by
  obtain ⟨mk, methM, hnamed, hmethM, hstM, habM⟩ := Cond.instanceMethod_spec hinst
  obtain ⟨m8, methM', cM, hn8, hmethM', -, -, -, -, -, -, hsigM⟩ := Cond.codeWith_spec hcode
  cases Option.some.inj (hn8.symm.trans hnamed)
  cases hmethM.symm.trans hmethM'
  obtain ⟨c2, r2, m2, q1, q2, q3, q4, kP, hkP, hkPi⟩ := Cond.selects_spec hsel
  cases hcls.symm.trans q1
  cases (State.methodFound?_of_named hnamed hy).symm.trans q2
  cases hnamed.symm.trans q3
  have hselP : selectMethod e.platform s.vm cellB.cls mk = .method mk := by rw [Launch.admits_selectMethod X.admits]; exact q4
  obtain ⟨vm₁, X₁, hstep₁⟩ := X.invokevirtual hexec hown hlink hnamed hmethM hstM hkP hkPi hy (a := b) (cell := cellB) hcell
    (fun z h => by rw [h] at hobj; cases hobj) hselP hmethM habM hkP hkPi (g := g) hg (argsL := argsL) (rest := rest) (hlen _ hsigM) hstack hdg
  obtain ⟨v, B, X', hpost, hsteps⟩ := hK m meth c ⟨T.setVm vm₁, locs, cells, slots⟩ { g with stack := rest } (.invokevirtual index) mk (Value.ref b :: argsL).toArray X₁ hg hsize hdg hW (X₁.named hnamed) (hpre vm₁ X₁.warmed)
  exact ⟨v, vm₁, B, X₁.warmed, X', hpost, fun target h => hstep₁ _ fun acts => by rw [doInvoke_state]; exact hsteps.trans h⟩
abbrev vx_CVW (R : Room) (s : State) (args : Array Value) (own C : String) (index : Nat) (y : MethodName) (bytes : ByteArray) (maxL : Nat) (ret : Option FieldType) (hh : List (Nat × Nat × Nat × Nat)) (ws : List Cond) (rm : Room) (mc ms n : Nat) : Prop :=
  (rm.cells = mc ∧ rm.slots = ms ∧ rm.frames + 1 ≤ R.frames ∧ 8 + (maxL + 11) + rm.locals ≤ R.locals ∧ (∀ w ∈ ws, ∀ (a' : Array Value) (U : State), s.WarmedH U.vm → w.before a' U = true) ∧ Cond.codeWith y bytes maxL ret hh ∈ ws) ∧
  (Cond.codeWith y bytes maxL ret hh).before args s = true ∧ (Cond.initialized y.cls).before args s = true ∧ (y.cls ≠ "java/lang/invoke/MethodHandle" ∧ y.cls ≠ "java/lang/invoke/VarHandle") ∧
  (∀ sig, parseMethodDescriptor y.desc = some sig → n = sig.parameters.length) ∧ (Cond.methodLink own index y).before args s = true ∧ (Cond.instanceMethod y).before args s = true ∧ (Cond.selects C y y).before args s = true
theorem vx_cwVW {own C : String} {index maxL mc ms : Nat} {y : MethodName} {bytes : ByteArray} {ret : Option FieldType} {hh : List (Nat × Nat × Nat × Nat)} {Ts ws ws' : List Cond} {rm : Room} (n : Nat) (ht : ∀ w ∈ Ts, w.before args s = true) (hT : GoodIn Ts (wsV own index C y ws)) (hw : ws = Cond.codeWith y bytes maxL ret hh :: ws') (hrc : rm.cells = mc) (hrs : rm.slots = ms)
    (hd : y.cls = C ∧ y.cls ≠ "java/lang/invoke/MethodHandle" ∧ y.cls ≠ "java/lang/invoke/VarHandle" ∧ (parseMethodDescriptor y.desc).map (fun d => d.parameters.length) = some n) (hR : rm.frames + 1 ≤ R.frames ∧ 8 + (maxL + 11) + rm.locals ≤ R.locals) :
    vx_CVW R s args own C index y bytes maxL ret hh ws rm mc ms n := by
  obtain ⟨hC, hd⟩ := hd
  subst hC
  have ok : ∀ w ∈ wsV own index y.cls y ws, w.before args s = true := fun w h => ht w (hT w h).1
  have hG : GoodIn Ts ws := fun w h => hT w (by unfold wsV; exact List.mem_append_right _ h)
  have hc : Cond.codeWith y bytes maxL ret hh ∈ ws := by rw [hw]; exact List.mem_cons_self
  refine ⟨⟨hrc, hrs, hR.1, hR.2, pay_in ht hG, hc⟩, ht _ (hG _ hc).1, ok _ (by simp [wsV]), ⟨hd.1, hd.2.1⟩, fun sig h => ?_, ok _ (by simp [wsV]), ok _ (by simp [wsV]), ok _ (by simp [wsV])⟩
  have h2 := hd.2.2
  rw [h] at h2
  exact (Option.some.inj h2).symm
theorem vx_runVW {y : MethodName} {bytes cc : ByteArray} {maxL nL mc ms n index : Nat} {ret : Option FieldType} {hh : List (Nat × Nat × Nat × Nat)} {ws : List Cond} {rm : Room} {Pc : Array Value → State → Prop} {Qc : Array Value → State → Outcome → State → Prop} {free : Addr → Prop} {Ts : List Cond} {own C : String} {b : Addr} {As rest : List Value} {g : JFrame}
    (S : CallFix p m c cc nL s args Ts own) (hM : Met l y ws rm Pc Qc mc ms free) (cw : vx_CVW R s args own C index y bytes maxL ret hh ws rm mc ms n) (hp : PreV s H C b Pc As)
    (hg : g.method = m) (hn : As.length = n) (hsize : g.locals.size = nL) (hstack : g.stack = As.reverse ++ .ref b :: rest) (hW : 2 * g.monitorRoom + (rest.map fun v => v.category).sum ≤ 8) (hdg : decode cc g.pc = .ok (.invokevirtual index, 3)) (hf : cells + mc ≤ R.cells ∧ slots + ms ≤ R.slots) :
    va_Run p l e R s m args below meth c H locs cells slots mc ms g rest (Qc (Value.ref b :: As).toArray) free := by
  obtain ⟨⟨hrc, hrs, hfr, hlo, hws, hcw⟩, hcode, hini, hy, hlen, hl, hin, hse⟩ := cw
  have hK : Back l R p e below s args y 3 8 (PreOf R mc ms Pc) (PostOf Qc mc ms free) := va_backW (hh := hh) (bytes := bytes) (maxL := maxL) (ret := ret) hM hp.1 hrc hrs hfr hlo hws hcw (fun a' U hW => word_at hW (Or.inl (by first | rfl | simp [Cond.onTables, Cond.keeps, Cond.steady])) hini)
  obtain ⟨hx, hb, hml, ho, -⟩ := S
  obtain ⟨-, ⟨cellB, hcB, hoB, hclB⟩, hPc⟩ := hp
  intro T hT X
  obtain ⟨v, vm₁, ⟨U', l2, c2, s2⟩, hW₁, X', ⟨g', mk, t, L, e1, e2, hq, h1, hL, h2, h3⟩, st⟩ := vx_callVW X hx (C := C) (hh := hh) (bytes := bytes) (maxL := maxL) (ret := ret) ho hl hin hse hcode hy hK (by rw [hT]; exact hcB) hoB hclB hg (hsize.trans hml.symm) (argsL := As) (rest := rest) (fun sig h => hn.trans (hlen sig h)) hstack hW (by rw [hb]; exact hdg)
    (fun vm₁ hW₁ => ⟨hf.1, hf.2, hPc (T.setVm vm₁) hT hW₁⟩)
  dsimp only [Pt.U, Pt.locs, Pt.cells, Pt.slots] at X' e1 e2 h1 h2 h3 st
  subst h1; subst h2; subst h3
  exact ⟨v, (T.setVm vm₁).calling g' mk (Value.ref b :: As).toArray, t, U', L, hT, X', hL, e1, e2, hq, st⟩
section
variable {y : MethodName} {bytes cc : ByteArray} {maxL nL mc ms n index : Nat} {ret : Option FieldType} {ws : List Cond} {rm : Room} {Pc : Array Value → State → Prop} {Qc : Array Value → State → Outcome → State → Prop} {XC : String → State → State → Prop} {free : Addr → Prop} {Ts : List Cond} {own C : String} {b : Addr} {As rest : List Value} {g : JFrame}
theorem vx_runVX {hh : List (Nat × Nat × Nat × Nat)} (S : CallFix p m c cc nL s args Ts own) (hM : vx_Met l y ws rm Pc Qc XC mc ms free) (cw : vx_CVW R s args own C index y bytes maxL ret hh ws rm mc ms n) (hp : PreV s H C b Pc As)
    (hg : g.method = m) (hn : As.length = n) (hsize : g.locals.size = nL) (hstack : g.stack = As.reverse ++ .ref b :: rest) (hW : 2 * g.monitorRoom + (rest.map fun v => v.category).sum ≤ 8) (hdg : decode cc g.pc = .ok (.invokevirtual index, 3)) (hf : cells + mc ≤ R.cells ∧ slots + ms ≤ R.slots) :
    vx_Run p l e R s m args below meth c H locs cells slots mc ms g rest (Qc (Value.ref b :: As).toArray) XC free := by
  obtain ⟨⟨hrc, hrs, hfr, hlo, hws, hcw⟩, hcode, hini, hy, hlen, hl, hin, hse⟩ := cw
  have hK : vx_Back l R p e below s args y 3 8 (PreOf R mc ms Pc) (PostOf Qc mc ms free) (vx_Post XC mc ms free) := vx_backW (hh := hh) (bytes := bytes) (maxL := maxL) (ret := ret) hM hp.1 hrc hrs hfr hlo hws hcw (fun a' U hW => word_at hW (Or.inl (by first | rfl | simp [Cond.onTables, Cond.keeps, Cond.steady])) hini)
  obtain ⟨hx, hb, hml, ho, -⟩ := S
  obtain ⟨-, ⟨cellB, hcB, hoB, hclB⟩, hPc⟩ := hp
  intro T hT X
  rcases vx_callVX X hx (C := C) (hh := hh) (bytes := bytes) (maxL := maxL) (ret := ret) ho hl hin hse hcode hy hK (by rw [hT]; exact hcB) hoB hclB hg (hsize.trans hml.symm) (argsL := As) (rest := rest) (fun sig h => hn.trans (hlen sig h)) hstack hW (by rw [hb]; exact hdg)
    (fun vm₁ hW₁ => ⟨hf.1, hf.2, hPc (T.setVm vm₁) hT hW₁⟩) with ⟨v, vm₁, ⟨U', l2, c2, s2⟩, hW₁, X', ⟨g', mk, t, L, e1, e2, hq, h1, hL, h2, h3⟩, st⟩ | ⟨q, vm₁, ⟨U', l2, c2, s2⟩, hW₁, X', ⟨g', mk, t, L, E, ce, e1, e2, hq, hce, hcv, hcl, h1, hL, h2, h3⟩, st⟩
  · dsimp only [Pt.U, Pt.locs, Pt.cells, Pt.slots] at X' e1 e2 h1 h2 h3 st
    subst h1; subst h2; subst h3
    exact Or.inl ⟨v, (T.setVm vm₁).calling g' mk (Value.ref b :: As).toArray, t, U', L, hT, X', hL, e1, e2, hq, st⟩
  · dsimp only [Pt.U, Pt.locs, Pt.cells, Pt.slots] at X' e1 e2 h1 h2 h3 st hcl
    subst h1; subst h2; subst h3
    exact Or.inr ⟨q, (T.setVm vm₁).calling g' mk (Value.ref b :: As).toArray, t, U', L, E, ce, hT, X', hL, e1, e2, hq, hce, hcv, vx_cls hW₁ hcl, st⟩
theorem vx_runSX {hh : List (Nat × Nat × Nat × Nat)} (S : CallFix p m c cc nL s args Ts own) (hM : vx_Met l y ws rm Pc Qc XC mc ms free) (cw : vx_CSW R s args own index y bytes maxL ret hh ws rm mc ms n) (hp : PreS s H Pc As)
    (hg : g.method = m) (hn : As.length = n) (hsize : g.locals.size = nL) (hstack : g.stack = As.reverse ++ rest) (hW : 2 * g.monitorRoom + (rest.map fun v => v.category).sum ≤ 8) (hdg : decode cc g.pc = .ok (.invokestatic index, 3)) (hf : cells + mc ≤ R.cells ∧ slots + ms ≤ R.slots) :
    vx_Run p l e R s m args below meth c H locs cells slots mc ms g rest (Qc As.toArray) XC free := by
  obtain ⟨⟨hrc, hrs, hfr, hlo, hws, hcw⟩, hcode, hini, hy, hlen, hl, hstt⟩ := cw
  have hK : vx_Back l R p e below s args y 3 8 (PreOf R mc ms Pc) (PostOf Qc mc ms free) (vx_Post XC mc ms free) := vx_backW (hh := hh) (bytes := bytes) (maxL := maxL) (ret := ret) hM hp.1 hrc hrs hfr hlo hws hcw (fun a' U hW => word_at hW (Or.inl (by first | rfl | simp [Cond.onTables, Cond.keeps, Cond.steady])) hini)
  obtain ⟨hx, hb, hml, ho, -⟩ := S
  intro T hT X
  rcases vx_callSX X hx (hh := hh) (bytes := bytes) (maxL := maxL) (ret := ret) ho hl hstt hini hcode hy hK hg (hsize.trans hml.symm) (argsL := As) (rest := rest) (fun sig h => hn.trans (hlen sig h)) hstack hW (by rw [hb]; exact hdg)
    (fun vm₁ hW₁ => ⟨hf.1, hf.2, hp.2 (T.setVm vm₁) hT hW₁⟩) with ⟨v, vm₁, ⟨U', l2, c2, s2⟩, hW₁, X', ⟨g', mk, t, L, e1, e2, hq, h1, hL, h2, h3⟩, st⟩ | ⟨q, vm₁, ⟨U', l2, c2, s2⟩, hW₁, X', ⟨g', mk, t, L, E, ce, e1, e2, hq, hce, hcv, hcl, h1, hL, h2, h3⟩, st⟩
  · dsimp only [Pt.U, Pt.locs, Pt.cells, Pt.slots] at X' e1 e2 h1 h2 h3 st
    subst h1; subst h2; subst h3
    exact Or.inl ⟨v, (T.setVm vm₁).calling g' mk As.toArray, t, U', L, hT, X', hL, e1, e2, hq, st⟩
  · dsimp only [Pt.U, Pt.locs, Pt.cells, Pt.slots] at X' e1 e2 h1 h2 h3 st hcl
    subst h1; subst h2; subst h3
    exact Or.inr ⟨q, (T.setVm vm₁).calling g' mk As.toArray, t, U', L, E, ce, hT, X', hL, e1, e2, hq, hce, hcv, vx_cls hW₁ hcl, st⟩
end
end VXH
theorem vx_ofWH {l : Launch} {y : MethodName} {ws ws' : List Cond} {rm : Room} {Pc : Array Value → State → Prop} {Qc : Array Value → State → Outcome → State → Prop} {XC : String → State → State → Prop} {mc ms : Nat} {free : Addr → Prop} {cc : ByteArray} {maxL : Nat} {ret : Option FieldType} {hh : List (Nat × Nat × Nat × Nat)}
    (hy : plainName y.cls = true) (hw : ws = Cond.codeWith y cc maxL ret hh :: ws')
    (body : ∀ p e s m args below meth c s₁, BodyLoose p l y (headSpec ws rm) cc maxL ret e s m args below meth c s₁ → c.maxLocals = maxL → Pc args s →
      W p l e (headSpec ws rm).room s m args below meth c s.heap [] 0 0 (vx_MQ below Qc XC args s mc ms free) (entryFrame m args maxL)) : vx_Met l y ws rm Pc Qc XC mc ms free := by
  refine MetFree.of_bodyS (code := cc) (maxLocals := maxL) (ret := ret) hy ?_ ?_
  · intro args s m h hn
    obtain ⟨m9, meth, c, hn9, h1, h2, h3, h4, -, h5, h6, -⟩ := Cond.codeWith_spec (atoms_spec (ws := ws) h _ (by rw [hw]; exact List.mem_cons_self))
    cases hn.symm.trans hn9
    exact ⟨meth, c, h1, h2, h3, h4, h5, h6⟩
  · intro p e s m args below meth c s₁ B hml hP _
    have hh0 : s₁.heap = s.heap := by rw [B.state]; rfl
    obtain ⟨t, a1, o, b1, b2, b3⟩ := body p e s m args below meth c s₁ B hml hP s₁ hh0 (Stand.of_body B)
    exact ⟨t, o, a1, b1, b2, b3⟩
/-! ===== END ===== -/
end
section
-- ===== PART A: goes FIRST, ahead of the names: the tables' words, and 'selects' of the private methods out of them =====
/-- a private method of a class that the tables say can be made, by its rows of tables_1 -/
def lw_okq (q : MethodName × Nat) : Prop := (q.1.cls ≠ "java/lang/invoke/MethodHandle" ∧ q.1.cls ≠ "java/lang/invoke/VarHandle") ∧ Cond.instantiable q.1.cls q.2 ∈ tables_1 ∧ Cond.privateMethod q.1 ∈ tables_1 ∧ Cond.instanceMethod q.1 ∈ tables_1
theorem lw_p0 : lw_okq (⟨"LayeredActs", "keepAct", "(IZI)I"⟩, 7) := ⟨⟨by decide +kernel, by decide +kernel⟩, List.mem_of_getElem? (i := 21) (by decide +kernel), List.mem_of_getElem? (i := 222) (by decide +kernel), List.mem_of_getElem? (i := 223) (by decide +kernel)⟩
theorem lw_p1 : lw_okq (⟨"LayeredActs", "requireOperand", "(ZI)V"⟩, 7) := ⟨⟨by decide +kernel, by decide +kernel⟩, List.mem_of_getElem? (i := 21) (by decide +kernel), List.mem_of_getElem? (i := 226) (by decide +kernel), List.mem_of_getElem? (i := 227) (by decide +kernel)⟩
theorem lw_p2 : lw_okq (⟨"java/lang/Throwable", "fillInStackTrace", "(I)Ljava/lang/Throwable;"⟩, 6) := ⟨⟨by decide +kernel, by decide +kernel⟩, List.mem_of_getElem? (i := 272) (by decide +kernel), List.mem_of_getElem? (i := 270) (by decide +kernel), List.mem_of_getElem? (i := 271) (by decide +kernel)⟩
theorem lw_p3 : lw_okq (⟨"LayeredActs", "keep", "(LLayeredActs$Term;)I"⟩, 7) := ⟨⟨by decide +kernel, by decide +kernel⟩, List.mem_of_getElem? (i := 21) (by decide +kernel), List.mem_of_getElem? (i := 352) (by decide +kernel), List.mem_of_getElem? (i := 353) (by decide +kernel)⟩
theorem lw_p4 : lw_okq (⟨"LayeredActs", "termAt", "(I)LLayeredActs$Term;"⟩, 7) := ⟨⟨by decide +kernel, by decide +kernel⟩, List.mem_of_getElem? (i := 21) (by decide +kernel), List.mem_of_getElem? (i := 438) (by decide +kernel), List.mem_of_getElem? (i := 439) (by decide +kernel)⟩
theorem lw_p5 : lw_okq (⟨"LayeredActs", "keepNaming", "(IIII)I"⟩, 7) := ⟨⟨by decide +kernel, by decide +kernel⟩, List.mem_of_getElem? (i := 21) (by decide +kernel), List.mem_of_getElem? (i := 450) (by decide +kernel), List.mem_of_getElem? (i := 451) (by decide +kernel)⟩
theorem lw_p6 : lw_okq (⟨"LayeredActs", "requireLayers", "(I)V"⟩, 7) := ⟨⟨by decide +kernel, by decide +kernel⟩, List.mem_of_getElem? (i := 21) (by decide +kernel), List.mem_of_getElem? (i := 519) (by decide +kernel), List.mem_of_getElem? (i := 520) (by decide +kernel)⟩
theorem lw_p7 : lw_okq (⟨"LayeredActs$Machine", "clear", "()V"⟩, 9) := ⟨⟨by decide +kernel, by decide +kernel⟩, List.mem_of_getElem? (i := 31) (by decide +kernel), List.mem_of_getElem? (i := 543) (by decide +kernel), List.mem_of_getElem? (i := 544) (by decide +kernel)⟩
theorem lw_p8 : lw_okq (⟨"LayeredActs$Machine", "perform", "(LLayeredActs$Term;)I"⟩, 9) := ⟨⟨by decide +kernel, by decide +kernel⟩, List.mem_of_getElem? (i := 31) (by decide +kernel), List.mem_of_getElem? (i := 555) (by decide +kernel), List.mem_of_getElem? (i := 556) (by decide +kernel)⟩
theorem lw_p9 : lw_okq (⟨"LayeredActs$Machine", "operandOf", "(LLayeredActs$Term;)I"⟩, 9) := ⟨⟨by decide +kernel, by decide +kernel⟩, List.mem_of_getElem? (i := 31) (by decide +kernel), List.mem_of_getElem? (i := 559) (by decide +kernel), List.mem_of_getElem? (i := 560) (by decide +kernel)⟩
theorem lw_p10 : lw_okq (⟨"LayeredActs$Machine", "numberOf", "(I)I"⟩, 9) := ⟨⟨by decide +kernel, by decide +kernel⟩, List.mem_of_getElem? (i := 31) (by decide +kernel), List.mem_of_getElem? (i := 563) (by decide +kernel), List.mem_of_getElem? (i := 564) (by decide +kernel)⟩
theorem lw_p11 : lw_okq (⟨"LayeredActs$Machine", "answer", "(I)I"⟩, 9) := ⟨⟨by decide +kernel, by decide +kernel⟩, List.mem_of_getElem? (i := 31) (by decide +kernel), List.mem_of_getElem? (i := 567) (by decide +kernel), List.mem_of_getElem? (i := 568) (by decide +kernel)⟩
theorem lw_p12 : lw_okq (⟨"LayeredActs$Machine", "performWrite", "(I)I"⟩, 9) := ⟨⟨by decide +kernel, by decide +kernel⟩, List.mem_of_getElem? (i := 31) (by decide +kernel), List.mem_of_getElem? (i := 575) (by decide +kernel), List.mem_of_getElem? (i := 576) (by decide +kernel)⟩
theorem lw_p13 : lw_okq (⟨"LayeredActs$Machine", "performSay", "(I)I"⟩, 9) := ⟨⟨by decide +kernel, by decide +kernel⟩, List.mem_of_getElem? (i := 31) (by decide +kernel), List.mem_of_getElem? (i := 579) (by decide +kernel), List.mem_of_getElem? (i := 580) (by decide +kernel)⟩
theorem lw_p14 : lw_okq (⟨"LayeredActs$Logs", "has", "(I)Z"⟩, 4) := ⟨⟨by decide +kernel, by decide +kernel⟩, List.mem_of_getElem? (i := 61) (by decide +kernel), List.mem_of_getElem? (i := 591) (by decide +kernel), List.mem_of_getElem? (i := 592) (by decide +kernel)⟩
theorem lw_p15 : lw_okq (⟨"LayeredActs$Machine", "performFail", "(I)I"⟩, 9) := ⟨⟨by decide +kernel, by decide +kernel⟩, List.mem_of_getElem? (i := 31) (by decide +kernel), List.mem_of_getElem? (i := 595) (by decide +kernel), List.mem_of_getElem? (i := 596) (by decide +kernel)⟩
def lw_privs_1 : List (MethodName × Nat) := [(⟨"LayeredActs", "keepAct", "(IZI)I"⟩, 7), (⟨"LayeredActs", "requireOperand", "(ZI)V"⟩, 7), (⟨"java/lang/Throwable", "fillInStackTrace", "(I)Ljava/lang/Throwable;"⟩, 6), (⟨"LayeredActs", "keep", "(LLayeredActs$Term;)I"⟩, 7), (⟨"LayeredActs", "termAt", "(I)LLayeredActs$Term;"⟩, 7), (⟨"LayeredActs", "keepNaming", "(IIII)I"⟩, 7), (⟨"LayeredActs", "requireLayers", "(I)V"⟩, 7), (⟨"LayeredActs$Machine", "clear", "()V"⟩, 9), (⟨"LayeredActs$Machine", "perform", "(LLayeredActs$Term;)I"⟩, 9), (⟨"LayeredActs$Machine", "operandOf", "(LLayeredActs$Term;)I"⟩, 9), (⟨"LayeredActs$Machine", "numberOf", "(I)I"⟩, 9), (⟨"LayeredActs$Machine", "answer", "(I)I"⟩, 9), (⟨"LayeredActs$Machine", "performWrite", "(I)I"⟩, 9), (⟨"LayeredActs$Machine", "performSay", "(I)I"⟩, 9), (⟨"LayeredActs$Logs", "has", "(I)Z"⟩, 4), (⟨"LayeredActs$Machine", "performFail", "(I)I"⟩, 9)]
theorem lw_r1 : ∀ q ∈ lw_privs_1, lw_okq q := List.forall_mem_cons.mpr ⟨lw_p0, List.forall_mem_cons.mpr ⟨lw_p1, List.forall_mem_cons.mpr ⟨lw_p2, List.forall_mem_cons.mpr ⟨lw_p3, List.forall_mem_cons.mpr ⟨lw_p4, List.forall_mem_cons.mpr ⟨lw_p5, List.forall_mem_cons.mpr ⟨lw_p6, List.forall_mem_cons.mpr ⟨lw_p7, List.forall_mem_cons.mpr ⟨lw_p8, List.forall_mem_cons.mpr ⟨lw_p9, List.forall_mem_cons.mpr ⟨lw_p10, List.forall_mem_cons.mpr ⟨lw_p11, List.forall_mem_cons.mpr ⟨lw_p12, List.forall_mem_cons.mpr ⟨lw_p13, List.forall_mem_cons.mpr ⟨lw_p14, List.forall_mem_cons.mpr ⟨lw_p15, fun _ h => absurd h List.not_mem_nil⟩⟩⟩⟩⟩⟩⟩⟩⟩⟩⟩⟩⟩⟩⟩⟩
theorem lw_p16 : lw_okq (⟨"LayeredActs$Machine", "performEither", "(LLayeredActs$Term;)I"⟩, 9) := ⟨⟨by decide +kernel, by decide +kernel⟩, List.mem_of_getElem? (i := 31) (by decide +kernel), List.mem_of_getElem? (i := 599) (by decide +kernel), List.mem_of_getElem? (i := 600) (by decide +kernel)⟩
theorem lw_p17 : lw_okq (⟨"LayeredActs$Machine", "takeOwn", "(II)V"⟩, 9) := ⟨⟨by decide +kernel, by decide +kernel⟩, List.mem_of_getElem? (i := 31) (by decide +kernel), List.mem_of_getElem? (i := 607) (by decide +kernel), List.mem_of_getElem? (i := 608) (by decide +kernel)⟩
theorem lw_p18 : lw_okq (⟨"LayeredActs$Machine", "isTooMany", "(I)Z"⟩, 9) := ⟨⟨by decide +kernel, by decide +kernel⟩, List.mem_of_getElem? (i := 31) (by decide +kernel), List.mem_of_getElem? (i := 611) (by decide +kernel), List.mem_of_getElem? (i := 612) (by decide +kernel)⟩
theorem lw_p19 : lw_okq (⟨"LayeredActs$Machine", "performThen", "(LLayeredActs$Term;)I"⟩, 9) := ⟨⟨by decide +kernel, by decide +kernel⟩, List.mem_of_getElem? (i := 31) (by decide +kernel), List.mem_of_getElem? (i := 615) (by decide +kernel), List.mem_of_getElem? (i := 616) (by decide +kernel)⟩
theorem lw_p20 : lw_okq (⟨"LayeredActs$Machine", "performEach", "(IZILLayeredActs$Term;)I"⟩, 9) := ⟨⟨by decide +kernel, by decide +kernel⟩, List.mem_of_getElem? (i := 31) (by decide +kernel), List.mem_of_getElem? (i := 619) (by decide +kernel), List.mem_of_getElem? (i := 620) (by decide +kernel)⟩
theorem lw_p21 : lw_okq (⟨"LayeredActs$Results", "has", "(I)Z"⟩, 5) := ⟨⟨by decide +kernel, by decide +kernel⟩, List.mem_of_getElem? (i := 37) (by decide +kernel), List.mem_of_getElem? (i := 627) (by decide +kernel), List.mem_of_getElem? (i := 628) (by decide +kernel)⟩
theorem lw_p22 : lw_okq (⟨"LayeredActs$Machine", "performNaming", "(IILLayeredActs$Term;)I"⟩, 9) := ⟨⟨by decide +kernel, by decide +kernel⟩, List.mem_of_getElem? (i := 31) (by decide +kernel), List.mem_of_getElem? (i := 643) (by decide +kernel), List.mem_of_getElem? (i := 644) (by decide +kernel)⟩
theorem lw_p23 : lw_okq (⟨"LayeredActs$Machine", "performSaved", "(LLayeredActs$Term;)I"⟩, 9) := ⟨⟨by decide +kernel, by decide +kernel⟩, List.mem_of_getElem? (i := 31) (by decide +kernel), List.mem_of_getElem? (i := 665) (by decide +kernel), List.mem_of_getElem? (i := 666) (by decide +kernel)⟩
theorem lw_p24 : lw_okq (⟨"LayeredActs$Machine", "performTimes", "(LLayeredActs$Term;)I"⟩, 9) := ⟨⟨by decide +kernel, by decide +kernel⟩, List.mem_of_getElem? (i := 31) (by decide +kernel), List.mem_of_getElem? (i := 677) (by decide +kernel), List.mem_of_getElem? (i := 678) (by decide +kernel)⟩
theorem lw_p25 : lw_okq (⟨"LayeredActs$Machine", "performOnce", "(LLayeredActs$Term;)I"⟩, 9) := ⟨⟨by decide +kernel, by decide +kernel⟩, List.mem_of_getElem? (i := 31) (by decide +kernel), List.mem_of_getElem? (i := 683) (by decide +kernel), List.mem_of_getElem? (i := 684) (by decide +kernel)⟩
theorem lw_p26 : lw_okq (⟨"LayeredActs$Machine", "performHeard", "(LLayeredActs$Term;)I"⟩, 9) := ⟨⟨by decide +kernel, by decide +kernel⟩, List.mem_of_getElem? (i := 31) (by decide +kernel), List.mem_of_getElem? (i := 687) (by decide +kernel), List.mem_of_getElem? (i := 688) (by decide +kernel)⟩
theorem lw_p27 : lw_okq (⟨"LayeredActs$Machine", "performHidden", "(LLayeredActs$Term;)I"⟩, 9) := ⟨⟨by decide +kernel, by decide +kernel⟩, List.mem_of_getElem? (i := 31) (by decide +kernel), List.mem_of_getElem? (i := 696) (by decide +kernel), List.mem_of_getElem? (i := 697) (by decide +kernel)⟩
theorem lw_p28 : lw_okq (⟨"LayeredActs$Machine", "tell", "(LLayeredActs$Outcome;)V"⟩, 9) := ⟨⟨by decide +kernel, by decide +kernel⟩, List.mem_of_getElem? (i := 31) (by decide +kernel), List.mem_of_getElem? (i := 703) (by decide +kernel), List.mem_of_getElem? (i := 704) (by decide +kernel)⟩
theorem lw_p29 : lw_okq (⟨"LayeredActs$Machine", "tellCommon", "(LLayeredActs$Row;Z)V"⟩, 9) := ⟨⟨by decide +kernel, by decide +kernel⟩, List.mem_of_getElem? (i := 31) (by decide +kernel), List.mem_of_getElem? (i := 707) (by decide +kernel), List.mem_of_getElem? (i := 708) (by decide +kernel)⟩
theorem lw_p30 : lw_okq (⟨"LayeredActs$Machine", "tellResult", "(LLayeredActs$Row;I)V"⟩, 9) := ⟨⟨by decide +kernel, by decide +kernel⟩, List.mem_of_getElem? (i := 31) (by decide +kernel), List.mem_of_getElem? (i := 733) (by decide +kernel), List.mem_of_getElem? (i := 734) (by decide +kernel)⟩
theorem lw_p31 : lw_okq (⟨"LayeredActsModel", "operand", "(IZII)I"⟩, 54) := ⟨⟨by decide +kernel, by decide +kernel⟩, List.mem_of_getElem? (i := 791) (by decide +kernel), List.mem_of_getElem? (i := 964) (by decide +kernel), List.mem_of_getElem? (i := 965) (by decide +kernel)⟩
def lw_privs_2 : List (MethodName × Nat) := [(⟨"LayeredActs$Machine", "performEither", "(LLayeredActs$Term;)I"⟩, 9), (⟨"LayeredActs$Machine", "takeOwn", "(II)V"⟩, 9), (⟨"LayeredActs$Machine", "isTooMany", "(I)Z"⟩, 9), (⟨"LayeredActs$Machine", "performThen", "(LLayeredActs$Term;)I"⟩, 9), (⟨"LayeredActs$Machine", "performEach", "(IZILLayeredActs$Term;)I"⟩, 9), (⟨"LayeredActs$Results", "has", "(I)Z"⟩, 5), (⟨"LayeredActs$Machine", "performNaming", "(IILLayeredActs$Term;)I"⟩, 9), (⟨"LayeredActs$Machine", "performSaved", "(LLayeredActs$Term;)I"⟩, 9), (⟨"LayeredActs$Machine", "performTimes", "(LLayeredActs$Term;)I"⟩, 9), (⟨"LayeredActs$Machine", "performOnce", "(LLayeredActs$Term;)I"⟩, 9), (⟨"LayeredActs$Machine", "performHeard", "(LLayeredActs$Term;)I"⟩, 9), (⟨"LayeredActs$Machine", "performHidden", "(LLayeredActs$Term;)I"⟩, 9), (⟨"LayeredActs$Machine", "tell", "(LLayeredActs$Outcome;)V"⟩, 9), (⟨"LayeredActs$Machine", "tellCommon", "(LLayeredActs$Row;Z)V"⟩, 9), (⟨"LayeredActs$Machine", "tellResult", "(LLayeredActs$Row;I)V"⟩, 9), (⟨"LayeredActsModel", "operand", "(IZII)I"⟩, 54)]
theorem lw_r2 : ∀ q ∈ lw_privs_2, lw_okq q := List.forall_mem_cons.mpr ⟨lw_p16, List.forall_mem_cons.mpr ⟨lw_p17, List.forall_mem_cons.mpr ⟨lw_p18, List.forall_mem_cons.mpr ⟨lw_p19, List.forall_mem_cons.mpr ⟨lw_p20, List.forall_mem_cons.mpr ⟨lw_p21, List.forall_mem_cons.mpr ⟨lw_p22, List.forall_mem_cons.mpr ⟨lw_p23, List.forall_mem_cons.mpr ⟨lw_p24, List.forall_mem_cons.mpr ⟨lw_p25, List.forall_mem_cons.mpr ⟨lw_p26, List.forall_mem_cons.mpr ⟨lw_p27, List.forall_mem_cons.mpr ⟨lw_p28, List.forall_mem_cons.mpr ⟨lw_p29, List.forall_mem_cons.mpr ⟨lw_p30, List.forall_mem_cons.mpr ⟨lw_p31, fun _ h => absurd h List.not_mem_nil⟩⟩⟩⟩⟩⟩⟩⟩⟩⟩⟩⟩⟩⟩⟩⟩
theorem lw_p32 : lw_okq (⟨"LayeredActsModel", "refuse", "(I)I"⟩, 54) := ⟨⟨by decide +kernel, by decide +kernel⟩, List.mem_of_getElem? (i := 791) (by decide +kernel), List.mem_of_getElem? (i := 971) (by decide +kernel), List.mem_of_getElem? (i := 972) (by decide +kernel)⟩
theorem lw_p33 : lw_okq (⟨"LayeredActsModel", "made", "(IIIIZI)I"⟩, 54) := ⟨⟨by decide +kernel, by decide +kernel⟩, List.mem_of_getElem? (i := 791) (by decide +kernel), List.mem_of_getElem? (i := 975) (by decide +kernel), List.mem_of_getElem? (i := 976) (by decide +kernel)⟩
theorem lw_p34 : lw_okq (⟨"LayeredActsModel", "above", "(II)I"⟩, 54) := ⟨⟨by decide +kernel, by decide +kernel⟩, List.mem_of_getElem? (i := 791) (by decide +kernel), List.mem_of_getElem? (i := 979) (by decide +kernel), List.mem_of_getElem? (i := 980) (by decide +kernel)⟩
theorem lw_p35 : lw_okq (⟨"LayeredActsModel", "isTerm", "(I)Z"⟩, 54) := ⟨⟨by decide +kernel, by decide +kernel⟩, List.mem_of_getElem? (i := 791) (by decide +kernel), List.mem_of_getElem? (i := 1011) (by decide +kernel), List.mem_of_getElem? (i := 1012) (by decide +kernel)⟩
theorem lw_p36 : lw_okq (⟨"LayeredActsModel", "isFull", "(II)Z"⟩, 54) := ⟨⟨by decide +kernel, by decide +kernel⟩, List.mem_of_getElem? (i := 791) (by decide +kernel), List.mem_of_getElem? (i := 1015) (by decide +kernel), List.mem_of_getElem? (i := 1016) (by decide +kernel)⟩
theorem lw_p37 : lw_okq (⟨"LayeredActsModel", "three", "(IIIII)I"⟩, 54) := ⟨⟨by decide +kernel, by decide +kernel⟩, List.mem_of_getElem? (i := 791) (by decide +kernel), List.mem_of_getElem? (i := 1023) (by decide +kernel), List.mem_of_getElem? (i := 1024) (by decide +kernel)⟩
theorem lw_p38 : lw_okq (⟨"LayeredActsModel", "lacks", "(I)Z"⟩, 54) := ⟨⟨by decide +kernel, by decide +kernel⟩, List.mem_of_getElem? (i := 791) (by decide +kernel), List.mem_of_getElem? (i := 1059) (by decide +kernel), List.mem_of_getElem? (i := 1060) (by decide +kernel)⟩
theorem lw_p39 : lw_okq (⟨"LayeredActsModel", "has", "(I)Z"⟩, 54) := ⟨⟨by decide +kernel, by decide +kernel⟩, List.mem_of_getElem? (i := 791) (by decide +kernel), List.mem_of_getElem? (i := 1063) (by decide +kernel), List.mem_of_getElem? (i := 1064) (by decide +kernel)⟩
theorem lw_p40 : lw_okq (⟨"LayeredActsModel", "doIt", "(III)V"⟩, 54) := ⟨⟨by decide +kernel, by decide +kernel⟩, List.mem_of_getElem? (i := 791) (by decide +kernel), List.mem_of_getElem? (i := 1067) (by decide +kernel), List.mem_of_getElem? (i := 1068) (by decide +kernel)⟩
theorem lw_p41 : lw_okq (⟨"LayeredActsModel", "push", "(IIIIII)V"⟩, 54) := ⟨⟨by decide +kernel, by decide +kernel⟩, List.mem_of_getElem? (i := 791) (by decide +kernel), List.mem_of_getElem? (i := 1071) (by decide +kernel), List.mem_of_getElem? (i := 1072) (by decide +kernel)⟩
theorem lw_p42 : lw_okq (⟨"LayeredActsModel", "go", "()V"⟩, 54) := ⟨⟨by decide +kernel, by decide +kernel⟩, List.mem_of_getElem? (i := 791) (by decide +kernel), List.mem_of_getElem? (i := 1075) (by decide +kernel), List.mem_of_getElem? (i := 1076) (by decide +kernel)⟩
theorem lw_p43 : lw_okq (⟨"LayeredActsModel", "leaf", "(I)V"⟩, 54) := ⟨⟨by decide +kernel, by decide +kernel⟩, List.mem_of_getElem? (i := 791) (by decide +kernel), List.mem_of_getElem? (i := 1079) (by decide +kernel), List.mem_of_getElem? (i := 1080) (by decide +kernel)⟩
theorem lw_p44 : lw_okq (⟨"LayeredActsModel", "value", "(IIZ)I"⟩, 54) := ⟨⟨by decide +kernel, by decide +kernel⟩, List.mem_of_getElem? (i := 791) (by decide +kernel), List.mem_of_getElem? (i := 1083) (by decide +kernel), List.mem_of_getElem? (i := 1084) (by decide +kernel)⟩
theorem lw_p45 : lw_okq (⟨"LayeredActsModel", "isOwn", "(I)Z"⟩, 54) := ⟨⟨by decide +kernel, by decide +kernel⟩, List.mem_of_getElem? (i := 791) (by decide +kernel), List.mem_of_getElem? (i := 1090) (by decide +kernel), List.mem_of_getElem? (i := 1091) (by decide +kernel)⟩
theorem lw_p46 : lw_okq (⟨"LayeredActsModel", "longer", "(II)I"⟩, 54) := ⟨⟨by decide +kernel, by decide +kernel⟩, List.mem_of_getElem? (i := 791) (by decide +kernel), List.mem_of_getElem? (i := 1094) (by decide +kernel), List.mem_of_getElem? (i := 1095) (by decide +kernel)⟩
theorem lw_p47 : lw_okq (⟨"LayeredActsModel", "isShared", "(I)Z"⟩, 54) := ⟨⟨by decide +kernel, by decide +kernel⟩, List.mem_of_getElem? (i := 791) (by decide +kernel), List.mem_of_getElem? (i := 1098) (by decide +kernel), List.mem_of_getElem? (i := 1099) (by decide +kernel)⟩
def lw_privs_3 : List (MethodName × Nat) := [(⟨"LayeredActsModel", "refuse", "(I)I"⟩, 54), (⟨"LayeredActsModel", "made", "(IIIIZI)I"⟩, 54), (⟨"LayeredActsModel", "above", "(II)I"⟩, 54), (⟨"LayeredActsModel", "isTerm", "(I)Z"⟩, 54), (⟨"LayeredActsModel", "isFull", "(II)Z"⟩, 54), (⟨"LayeredActsModel", "three", "(IIIII)I"⟩, 54), (⟨"LayeredActsModel", "lacks", "(I)Z"⟩, 54), (⟨"LayeredActsModel", "has", "(I)Z"⟩, 54), (⟨"LayeredActsModel", "doIt", "(III)V"⟩, 54), (⟨"LayeredActsModel", "push", "(IIIIII)V"⟩, 54), (⟨"LayeredActsModel", "go", "()V"⟩, 54), (⟨"LayeredActsModel", "leaf", "(I)V"⟩, 54), (⟨"LayeredActsModel", "value", "(IIZ)I"⟩, 54), (⟨"LayeredActsModel", "isOwn", "(I)Z"⟩, 54), (⟨"LayeredActsModel", "longer", "(II)I"⟩, 54), (⟨"LayeredActsModel", "isShared", "(I)Z"⟩, 54)]
theorem lw_r3 : ∀ q ∈ lw_privs_3, lw_okq q := List.forall_mem_cons.mpr ⟨lw_p32, List.forall_mem_cons.mpr ⟨lw_p33, List.forall_mem_cons.mpr ⟨lw_p34, List.forall_mem_cons.mpr ⟨lw_p35, List.forall_mem_cons.mpr ⟨lw_p36, List.forall_mem_cons.mpr ⟨lw_p37, List.forall_mem_cons.mpr ⟨lw_p38, List.forall_mem_cons.mpr ⟨lw_p39, List.forall_mem_cons.mpr ⟨lw_p40, List.forall_mem_cons.mpr ⟨lw_p41, List.forall_mem_cons.mpr ⟨lw_p42, List.forall_mem_cons.mpr ⟨lw_p43, List.forall_mem_cons.mpr ⟨lw_p44, List.forall_mem_cons.mpr ⟨lw_p45, List.forall_mem_cons.mpr ⟨lw_p46, List.forall_mem_cons.mpr ⟨lw_p47, fun _ h => absurd h List.not_mem_nil⟩⟩⟩⟩⟩⟩⟩⟩⟩⟩⟩⟩⟩⟩⟩⟩
theorem lw_p48 : lw_okq (⟨"LayeredActsModel", "unwind", "(I)V"⟩, 54) := ⟨⟨by decide +kernel, by decide +kernel⟩, List.mem_of_getElem? (i := 791) (by decide +kernel), List.mem_of_getElem? (i := 1102) (by decide +kernel), List.mem_of_getElem? (i := 1103) (by decide +kernel)⟩
theorem lw_p49 : lw_okq (⟨"LayeredActsModel", "isOutside", "(I)Z"⟩, 54) := ⟨⟨by decide +kernel, by decide +kernel⟩, List.mem_of_getElem? (i := 791) (by decide +kernel), List.mem_of_getElem? (i := 1106) (by decide +kernel), List.mem_of_getElem? (i := 1107) (by decide +kernel)⟩
theorem lw_p50 : lw_okq (⟨"LayeredActsModel", "tell", "(IZIII)V"⟩, 54) := ⟨⟨by decide +kernel, by decide +kernel⟩, List.mem_of_getElem? (i := 791) (by decide +kernel), List.mem_of_getElem? (i := 1110) (by decide +kernel), List.mem_of_getElem? (i := 1111) (by decide +kernel)⟩
theorem lw_p51 : lw_okq (⟨"LayeredActsModel", "row", "(II)I"⟩, 54) := ⟨⟨by decide +kernel, by decide +kernel⟩, List.mem_of_getElem? (i := 791) (by decide +kernel), List.mem_of_getElem? (i := 1114) (by decide +kernel), List.mem_of_getElem? (i := 1115) (by decide +kernel)⟩
theorem lw_p52 : lw_okq (⟨"LayeredActsModel", "either", "(I)V"⟩, 54) := ⟨⟨by decide +kernel, by decide +kernel⟩, List.mem_of_getElem? (i := 791) (by decide +kernel), List.mem_of_getElem? (i := 1118) (by decide +kernel), List.mem_of_getElem? (i := 1119) (by decide +kernel)⟩
theorem lw_p53 : lw_okq (⟨"LayeredActsModel", "gather", "(I)V"⟩, 54) := ⟨⟨by decide +kernel, by decide +kernel⟩, List.mem_of_getElem? (i := 791) (by decide +kernel), List.mem_of_getElem? (i := 1122) (by decide +kernel), List.mem_of_getElem? (i := 1123) (by decide +kernel)⟩
theorem lw_p54 : lw_okq (⟨"LayeredActsModel", "finish", "()V"⟩, 54) := ⟨⟨by decide +kernel, by decide +kernel⟩, List.mem_of_getElem? (i := 791) (by decide +kernel), List.mem_of_getElem? (i := 1126) (by decide +kernel), List.mem_of_getElem? (i := 1127) (by decide +kernel)⟩
theorem lw_p55 : lw_okq (⟨"LayeredActsModel", "along", "(I)V"⟩, 54) := ⟨⟨by decide +kernel, by decide +kernel⟩, List.mem_of_getElem? (i := 791) (by decide +kernel), List.mem_of_getElem? (i := 1130) (by decide +kernel), List.mem_of_getElem? (i := 1131) (by decide +kernel)⟩
theorem lw_p56 : lw_okq (⟨"LayeredActsModel", "gatherNext", "(I)V"⟩, 54) := ⟨⟨by decide +kernel, by decide +kernel⟩, List.mem_of_getElem? (i := 791) (by decide +kernel), List.mem_of_getElem? (i := 1134) (by decide +kernel), List.mem_of_getElem? (i := 1135) (by decide +kernel)⟩
theorem lw_p57 : lw_okq (⟨"LayeredActsModel", "turn", "(I)V"⟩, 54) := ⟨⟨by decide +kernel, by decide +kernel⟩, List.mem_of_getElem? (i := 791) (by decide +kernel), List.mem_of_getElem? (i := 1138) (by decide +kernel), List.mem_of_getElem? (i := 1139) (by decide +kernel)⟩
theorem lw_p58 : lw_okq (⟨"LayeredActsModel", "choose", "(I)V"⟩, 54) := ⟨⟨by decide +kernel, by decide +kernel⟩, List.mem_of_getElem? (i := 791) (by decide +kernel), List.mem_of_getElem? (i := 1142) (by decide +kernel), List.mem_of_getElem? (i := 1143) (by decide +kernel)⟩
theorem lw_p59 : lw_okq (⟨"LayeredActsModel", "again", "(I)V"⟩, 54) := ⟨⟨by decide +kernel, by decide +kernel⟩, List.mem_of_getElem? (i := 791) (by decide +kernel), List.mem_of_getElem? (i := 1146) (by decide +kernel), List.mem_of_getElem? (i := 1147) (by decide +kernel)⟩
theorem lw_p60 : lw_okq (⟨"LayeredActsModel", "within", "(I)V"⟩, 54) := ⟨⟨by decide +kernel, by decide +kernel⟩, List.mem_of_getElem? (i := 791) (by decide +kernel), List.mem_of_getElem? (i := 1150) (by decide +kernel), List.mem_of_getElem? (i := 1151) (by decide +kernel)⟩
theorem lw_p61 : lw_okq (⟨"LayeredActsModel", "keep", "(I)V"⟩, 54) := ⟨⟨by decide +kernel, by decide +kernel⟩, List.mem_of_getElem? (i := 791) (by decide +kernel), List.mem_of_getElem? (i := 1154) (by decide +kernel), List.mem_of_getElem? (i := 1155) (by decide +kernel)⟩
theorem lw_p62 : lw_okq (⟨"LayeredActsModel", "writeLog", "(I[II)V"⟩, 54) := ⟨⟨by decide +kernel, by decide +kernel⟩, List.mem_of_getElem? (i := 791) (by decide +kernel), List.mem_of_getElem? (i := 1158) (by decide +kernel), List.mem_of_getElem? (i := 1159) (by decide +kernel)⟩
theorem lw_p63 : lw_okq (⟨"LayeredActsModel", "lay", "()V"⟩, 54) := ⟨⟨by decide +kernel, by decide +kernel⟩, List.mem_of_getElem? (i := 791) (by decide +kernel), List.mem_of_getElem? (i := 1174) (by decide +kernel), List.mem_of_getElem? (i := 1175) (by decide +kernel)⟩
def lw_privs_4 : List (MethodName × Nat) := [(⟨"LayeredActsModel", "unwind", "(I)V"⟩, 54), (⟨"LayeredActsModel", "isOutside", "(I)Z"⟩, 54), (⟨"LayeredActsModel", "tell", "(IZIII)V"⟩, 54), (⟨"LayeredActsModel", "row", "(II)I"⟩, 54), (⟨"LayeredActsModel", "either", "(I)V"⟩, 54), (⟨"LayeredActsModel", "gather", "(I)V"⟩, 54), (⟨"LayeredActsModel", "finish", "()V"⟩, 54), (⟨"LayeredActsModel", "along", "(I)V"⟩, 54), (⟨"LayeredActsModel", "gatherNext", "(I)V"⟩, 54), (⟨"LayeredActsModel", "turn", "(I)V"⟩, 54), (⟨"LayeredActsModel", "choose", "(I)V"⟩, 54), (⟨"LayeredActsModel", "again", "(I)V"⟩, 54), (⟨"LayeredActsModel", "within", "(I)V"⟩, 54), (⟨"LayeredActsModel", "keep", "(I)V"⟩, 54), (⟨"LayeredActsModel", "writeLog", "(I[II)V"⟩, 54), (⟨"LayeredActsModel", "lay", "()V"⟩, 54)]
theorem lw_r4 : ∀ q ∈ lw_privs_4, lw_okq q := List.forall_mem_cons.mpr ⟨lw_p48, List.forall_mem_cons.mpr ⟨lw_p49, List.forall_mem_cons.mpr ⟨lw_p50, List.forall_mem_cons.mpr ⟨lw_p51, List.forall_mem_cons.mpr ⟨lw_p52, List.forall_mem_cons.mpr ⟨lw_p53, List.forall_mem_cons.mpr ⟨lw_p54, List.forall_mem_cons.mpr ⟨lw_p55, List.forall_mem_cons.mpr ⟨lw_p56, List.forall_mem_cons.mpr ⟨lw_p57, List.forall_mem_cons.mpr ⟨lw_p58, List.forall_mem_cons.mpr ⟨lw_p59, List.forall_mem_cons.mpr ⟨lw_p60, List.forall_mem_cons.mpr ⟨lw_p61, List.forall_mem_cons.mpr ⟨lw_p62, List.forall_mem_cons.mpr ⟨lw_p63, fun _ h => absurd h List.not_mem_nil⟩⟩⟩⟩⟩⟩⟩⟩⟩⟩⟩⟩⟩⟩⟩⟩
theorem lw_p64 : lw_okq (⟨"LayeredActsModel", "isAsLaid", "()Z"⟩, 54) := ⟨⟨by decide +kernel, by decide +kernel⟩, List.mem_of_getElem? (i := 791) (by decide +kernel), List.mem_of_getElem? (i := 1178) (by decide +kernel), List.mem_of_getElem? (i := 1179) (by decide +kernel)⟩
def lw_privs_5 : List (MethodName × Nat) := [(⟨"LayeredActsModel", "isAsLaid", "()Z"⟩, 54)]
theorem lw_r5 : ∀ q ∈ lw_privs_5, lw_okq q := List.forall_mem_cons.mpr ⟨lw_p64, fun _ h => absurd h List.not_mem_nil⟩
def lw_privs : List (MethodName × Nat) := lw_privs_1 ++ (lw_privs_2 ++ (lw_privs_3 ++ (lw_privs_4 ++ (lw_privs_5))))
def lw_tbl : List Cond := k2_sels lw_privs ++ tables_1
theorem lw_privs_ok : ∀ q ∈ lw_privs, lw_okq q := by
  show ∀ q ∈ lw_privs_1 ++ (lw_privs_2 ++ (lw_privs_3 ++ (lw_privs_4 ++ (lw_privs_5)))), lw_okq q
  exact List.forall_mem_append.mpr ⟨lw_r1, List.forall_mem_append.mpr ⟨lw_r2, List.forall_mem_append.mpr ⟨lw_r3, List.forall_mem_append.mpr ⟨lw_r4, lw_r5⟩⟩⟩⟩
end
section
def RX0 : String := "LayeredActs$Kind"
def TX0 : u_T := fun k => match k with
  | _ => ("", "", "", false)
def tyX0 : Nat → FieldType := fun k => match k with
  | _ => .int
abbrev wsX00 : List Cond := u_ws RX0 TX0 0
theorem nmX0 : ∀ a, a < 0 → ∀ b, b < 0 → a ≠ b → (TX0 a).2.1 ≠ (TX0 b).2.1 := by decide +kernel
theorem tyX0_ok : ∀ k, k < 0 → parseFieldDescriptor (TX0 k).2.2.1 = some (tyX0 k) := by decide +kernel
abbrev cX0_layersOf : ByteArray := prog_2_method_2_code
def yX0_layersOf : MethodName := ⟨RX0, "layersOf", "(I)I"⟩
def RX1 : String := "LayeredActs$Layering"
def TX1 : u_T := fun k => match k with
  | 0 => ("LayeredActs$Layering", "layers", "I", true)
  | 1 => ("LayeredActs$Layering", "ownState", "Z", true)
  | 2 => ("LayeredActs$Layering", "ownLog", "Z", true)
  | 3 => ("LayeredActs$Layering", "ownError", "Z", true)
  | 4 => ("LayeredActs$Layering", "sharedState", "Z", true)
  | 5 => ("LayeredActs$Layering", "sharedLog", "Z", true)
  | 6 => ("LayeredActs$Layering", "errorLosesState", "Z", true)
  | _ => ("LayeredActs$Layering", "errorLosesLog", "Z", true)
def tyX1 : Nat → FieldType := fun k => match k with
  | 0 => .int
  | 1 => .boolean
  | 2 => .boolean
  | 3 => .boolean
  | 4 => .boolean
  | 5 => .boolean
  | 6 => .boolean
  | _ => .boolean
abbrev wsX10 : List Cond := u_ws RX1 TX1 8
theorem nmX1 : ∀ a, a < 8 → ∀ b, b < 8 → a ≠ b → (TX1 a).2.1 ≠ (TX1 b).2.1 := by decide +kernel
theorem tyX1_ok : ∀ k, k < 8 → parseFieldDescriptor (TX1 k).2.2.1 = some (tyX1 k) := by decide +kernel
abbrev cX1_init : ByteArray := prog_3_method_1_code
def yX1_init : MethodName := ⟨RX1, "<init>", "(IIII)V"⟩
abbrev cX1_placeOf : ByteArray := prog_3_method_2_code
def yX1_placeOf : MethodName := ⟨RX1, "placeOf", "(IIIII)I"⟩
abbrev cX1_bitAt : ByteArray := prog_3_method_3_code
def yX1_bitAt : MethodName := ⟨RX1, "bitAt", "(II)I"⟩
def RX2 : String := "LayeredActs$Logs"
def TX2 : u_T := fun k => match k with
  | 0 => ("LayeredActs$Logs", "number", "[I", true)
  | 1 => ("LayeredActs$Logs", "before", "[I", true)
  | 2 => ("LayeredActs$Logs", "length", "[I", true)
  | _ => ("LayeredActs$Logs", "used", "I", false)
def tyX2 : Nat → FieldType := fun k => match k with
  | 0 => .array .int
  | 1 => .array .int
  | 2 => .array .int
  | _ => .int
abbrev wsX20 : List Cond := u_ws RX2 TX2 4
theorem nmX2 : ∀ a, a < 4 → ∀ b, b < 4 → a ≠ b → (TX2 a).2.1 ≠ (TX2 b).2.1 := by decide +kernel
theorem tyX2_ok : ∀ k, k < 4 → parseFieldDescriptor (TX2 k).2.2.1 = some (tyX2 k) := by decide +kernel
abbrev cX2_init : ByteArray := prog_4_method_1_code
def yX2_init : MethodName := ⟨RX2, "<init>", "()V"⟩
abbrev cX2_clear : ByteArray := prog_4_method_2_code
def yX2_clear : MethodName := ⟨RX2, "clear", "()V"⟩
abbrev cX2_has : ByteArray := prog_4_method_3_code
def yX2_has : MethodName := ⟨RX2, "has", "(I)Z"⟩
abbrev cX2_lengthOf : ByteArray := prog_4_method_4_code
def yX2_lengthOf : MethodName := ⟨RX2, "lengthOf", "(I)I"⟩
abbrev cX2_lastOf : ByteArray := prog_4_method_5_code
def yX2_lastOf : MethodName := ⟨RX2, "lastOf", "(I)I"⟩
abbrev cX2_withoutLast : ByteArray := prog_4_method_6_code
def yX2_withoutLast : MethodName := ⟨RX2, "withoutLast", "(I)I"⟩
abbrev cX2_with : ByteArray := prog_4_method_7_code
def yX2_with : MethodName := ⟨RX2, "with", "(II)I"⟩
def RX3 : String := "LayeredActs$Machine"
def TX3 : u_T := fun k => match k with
  | 0 => ("LayeredActs$Machine", "results", "LLayeredActs$Results;", true)
  | 1 => ("LayeredActs$Machine", "logs", "LLayeredActs$Logs;", true)
  | 2 => ("LayeredActs$Machine", "names", "[I", true)
  | 3 => ("LayeredActs$Machine", "layering", "LLayeredActs$Layering;", false)
  | 4 => ("LayeredActs$Machine", "state", "I", false)
  | 5 => ("LayeredActs$Machine", "log", "I", false)
  | 6 => ("LayeredActs$Machine", "limit", "I", false)
  | 7 => ("LayeredActs$Machine", "spent", "I", false)
  | _ => ("LayeredActs$Machine", "errorNumber", "I", false)
def tyX3 : Nat → FieldType := fun k => match k with
  | 0 => .object "LayeredActs$Results"
  | 1 => .object "LayeredActs$Logs"
  | 2 => .array .int
  | 3 => .object "LayeredActs$Layering"
  | 4 => .int
  | 5 => .int
  | 6 => .int
  | 7 => .int
  | _ => .int
abbrev wsX30 : List Cond := u_ws RX3 TX3 9
theorem nmX3 : ∀ a, a < 9 → ∀ b, b < 9 → a ≠ b → (TX3 a).2.1 ≠ (TX3 b).2.1 := by decide +kernel
theorem tyX3_ok : ∀ k, k < 9 → parseFieldDescriptor (TX3 k).2.2.1 = some (tyX3 k) := by decide +kernel
abbrev cX3_init : ByteArray := prog_5_method_1_code
def yX3_init : MethodName := ⟨RX3, "<init>", "()V"⟩
abbrev cX3_carryOut : ByteArray := prog_5_method_2_code
def yX3_carryOut : MethodName := ⟨RX3, "carryOut", "(LLayeredActs$Term;LLayeredActs$Layering;IILLayeredActs$Outcome;)V"⟩
abbrev cX3_clear : ByteArray := prog_5_method_3_code
def yX3_clear : MethodName := ⟨RX3, "clear", "()V"⟩
abbrev cX3_tell : ByteArray := prog_5_method_4_code
def yX3_tell : MethodName := ⟨RX3, "tell", "(LLayeredActs$Outcome;)V"⟩
abbrev cX3_tellCommon : ByteArray := prog_5_method_5_code
def yX3_tellCommon : MethodName := ⟨RX3, "tellCommon", "(LLayeredActs$Row;Z)V"⟩
abbrev cX3_tellResult : ByteArray := prog_5_method_6_code
def yX3_tellResult : MethodName := ⟨RX3, "tellResult", "(LLayeredActs$Row;I)V"⟩
abbrev cX3_perform : ByteArray := prog_5_method_7_code
def yX3_perform : MethodName := ⟨RX3, "perform", "(LLayeredActs$Term;)I"⟩
abbrev cX3_numberOf : ByteArray := prog_5_method_8_code
def yX3_numberOf : MethodName := ⟨RX3, "numberOf", "(I)I"⟩
abbrev cX3_operandOf : ByteArray := prog_5_method_9_code
def yX3_operandOf : MethodName := ⟨RX3, "operandOf", "(LLayeredActs$Term;)I"⟩
abbrev cX3_reckon : ByteArray := prog_5_method_10_code
def yX3_reckon : MethodName := ⟨RX3, "reckon", "(III)I"⟩
abbrev cX3_answer : ByteArray := prog_5_method_11_code
def yX3_answer : MethodName := ⟨RX3, "answer", "(I)I"⟩
abbrev cX3_performWrite : ByteArray := prog_5_method_12_code
def yX3_performWrite : MethodName := ⟨RX3, "performWrite", "(I)I"⟩
abbrev cX3_performSay : ByteArray := prog_5_method_13_code
def yX3_performSay : MethodName := ⟨RX3, "performSay", "(I)I"⟩
abbrev cX3_performFail : ByteArray := prog_5_method_14_code
def yX3_performFail : MethodName := ⟨RX3, "performFail", "(I)I"⟩
abbrev cX3_performEither : ByteArray := prog_5_method_15_code
def yX3_performEither : MethodName := ⟨RX3, "performEither", "(LLayeredActs$Term;)I"⟩
abbrev cX3_performThen : ByteArray := prog_5_method_16_code
def yX3_performThen : MethodName := ⟨RX3, "performThen", "(LLayeredActs$Term;)I"⟩
abbrev cX3_performSaved : ByteArray := prog_5_method_17_code
def yX3_performSaved : MethodName := ⟨RX3, "performSaved", "(LLayeredActs$Term;)I"⟩
abbrev cX3_performTimes : ByteArray := prog_5_method_18_code
def yX3_performTimes : MethodName := ⟨RX3, "performTimes", "(LLayeredActs$Term;)I"⟩
abbrev cX3_performOnce : ByteArray := prog_5_method_19_code
def yX3_performOnce : MethodName := ⟨RX3, "performOnce", "(LLayeredActs$Term;)I"⟩
abbrev cX3_performHeard : ByteArray := prog_5_method_20_code
def yX3_performHeard : MethodName := ⟨RX3, "performHeard", "(LLayeredActs$Term;)I"⟩
abbrev cX3_performHidden : ByteArray := prog_5_method_21_code
def yX3_performHidden : MethodName := ⟨RX3, "performHidden", "(LLayeredActs$Term;)I"⟩
abbrev cX3_performEach : ByteArray := prog_5_method_22_code
def yX3_performEach : MethodName := ⟨RX3, "performEach", "(IZILLayeredActs$Term;)I"⟩
abbrev cX3_performNaming : ByteArray := prog_5_method_23_code
def yX3_performNaming : MethodName := ⟨RX3, "performNaming", "(IILLayeredActs$Term;)I"⟩
abbrev cX3_takeOwn : ByteArray := prog_5_method_24_code
def yX3_takeOwn : MethodName := ⟨RX3, "takeOwn", "(II)V"⟩
abbrev cX3_isTooMany : ByteArray := prog_5_method_25_code
def yX3_isTooMany : MethodName := ⟨RX3, "isTooMany", "(I)Z"⟩
def RX4 : String := "LayeredActs$Outcome"
def TX4 : u_T := fun k => match k with
  | 0 => ("LayeredActs$Outcome", "answer", "I", false)
  | 1 => ("LayeredActs$Outcome", "common", "LLayeredActs$Row;", true)
  | _ => ("LayeredActs$Outcome", "rows", "[LLayeredActs$Row;", true)
def tyX4 : Nat → FieldType := fun k => match k with
  | 0 => .int
  | 1 => .object "LayeredActs$Row"
  | _ => .array (.object "LayeredActs$Row")
abbrev wsX40 : List Cond := u_ws RX4 TX4 3
theorem nmX4 : ∀ a, a < 3 → ∀ b, b < 3 → a ≠ b → (TX4 a).2.1 ≠ (TX4 b).2.1 := by decide +kernel
theorem tyX4_ok : ∀ k, k < 3 → parseFieldDescriptor (TX4 k).2.2.1 = some (tyX4 k) := by decide +kernel
abbrev cX4_init : ByteArray := prog_6_method_1_code
def yX4_init : MethodName := ⟨RX4, "<init>", "()V"⟩
abbrev cX4_rowOf : ByteArray := prog_6_method_2_code
def yX4_rowOf : MethodName := ⟨RX4, "rowOf", "(I)LLayeredActs$Row;"⟩
abbrev cX4_isLike : ByteArray := prog_6_method_3_code
def yX4_isLike : MethodName := ⟨RX4, "isLike", "(LLayeredActs$Outcome;)Z"⟩
def RX5 : String := "LayeredActs$Results"
def TX5 : u_T := fun k => match k with
  | 0 => ("LayeredActs$Results", "number", "[I", true)
  | 1 => ("LayeredActs$Results", "error", "[Z", true)
  | 2 => ("LayeredActs$Results", "state", "[I", true)
  | 3 => ("LayeredActs$Results", "log", "[I", true)
  | _ => ("LayeredActs$Results", "top", "I", false)
def tyX5 : Nat → FieldType := fun k => match k with
  | 0 => .array .int
  | 1 => .array .boolean
  | 2 => .array .int
  | 3 => .array .int
  | _ => .int
abbrev wsX50 : List Cond := u_ws RX5 TX5 5
theorem nmX5 : ∀ a, a < 5 → ∀ b, b < 5 → a ≠ b → (TX5 a).2.1 ≠ (TX5 b).2.1 := by decide +kernel
theorem tyX5_ok : ∀ k, k < 5 → parseFieldDescriptor (TX5 k).2.2.1 = some (tyX5 k) := by decide +kernel
abbrev cX5_init : ByteArray := prog_7_method_1_code
def yX5_init : MethodName := ⟨RX5, "<init>", "()V"⟩
abbrev cX5_size : ByteArray := prog_7_method_2_code
def yX5_size : MethodName := ⟨RX5, "size", "()I"⟩
abbrev cX5_has : ByteArray := prog_7_method_3_code
def yX5_has : MethodName := ⟨RX5, "has", "(I)Z"⟩
abbrev cX5_numberOf : ByteArray := prog_7_method_4_code
def yX5_numberOf : MethodName := ⟨RX5, "numberOf", "(I)I"⟩
abbrev cX5_isError : ByteArray := prog_7_method_5_code
def yX5_isError : MethodName := ⟨RX5, "isError", "(I)Z"⟩
abbrev cX5_stateOf : ByteArray := prog_7_method_6_code
def yX5_stateOf : MethodName := ⟨RX5, "stateOf", "(I)I"⟩
abbrev cX5_logOf : ByteArray := prog_7_method_7_code
def yX5_logOf : MethodName := ⟨RX5, "logOf", "(I)I"⟩
abbrev cX5_setNumber : ByteArray := prog_7_method_8_code
def yX5_setNumber : MethodName := ⟨RX5, "setNumber", "(II)V"⟩
abbrev cX5_setState : ByteArray := prog_7_method_9_code
def yX5_setState : MethodName := ⟨RX5, "setState", "(II)V"⟩
abbrev cX5_setLog : ByteArray := prog_7_method_10_code
def yX5_setLog : MethodName := ⟨RX5, "setLog", "(II)V"⟩
abbrev cX5_push : ByteArray := prog_7_method_11_code
def yX5_push : MethodName := ⟨RX5, "push", "(IZII)Z"⟩
abbrev cX5_pushAgain : ByteArray := prog_7_method_12_code
def yX5_pushAgain : MethodName := ⟨RX5, "pushAgain", "(I)Z"⟩
abbrev cX5_cutTo : ByteArray := prog_7_method_13_code
def yX5_cutTo : MethodName := ⟨RX5, "cutTo", "(I)V"⟩
abbrev cX5_closeGap : ByteArray := prog_7_method_14_code
def yX5_closeGap : MethodName := ⟨RX5, "closeGap", "(II)V"⟩
def RX6 : String := "LayeredActs$Row"
def TX6 : u_T := fun k => match k with
  | _ => ("LayeredActs$Row", "told", "[I", true)
def tyX6 : Nat → FieldType := fun k => match k with
  | _ => .array .int
abbrev wsX60 : List Cond := u_ws RX6 TX6 1
theorem nmX6 : ∀ a, a < 1 → ∀ b, b < 1 → a ≠ b → (TX6 a).2.1 ≠ (TX6 b).2.1 := by decide +kernel
theorem tyX6_ok : ∀ k, k < 1 → parseFieldDescriptor (TX6 k).2.2.1 = some (tyX6 k) := by decide +kernel
abbrev cX6_init : ByteArray := prog_8_method_1_code
def yX6_init : MethodName := ⟨RX6, "<init>", "()V"⟩
abbrev cX6_tells : ByteArray := prog_8_method_2_code
def yX6_tells : MethodName := ⟨RX6, "tells", "(I)Z"⟩
abbrev cX6_at : ByteArray := prog_8_method_3_code
def yX6_at : MethodName := ⟨RX6, "at", "(I)I"⟩
abbrev cX6_setHead : ByteArray := prog_8_method_4_code
def yX6_setHead : MethodName := ⟨RX6, "setHead", "(II)V"⟩
abbrev cX6_setState : ByteArray := prog_8_method_5_code
def yX6_setState : MethodName := ⟨RX6, "setState", "(ZI)V"⟩
abbrev cX6_setLog : ByteArray := prog_8_method_6_code
def yX6_setLog : MethodName := ⟨RX6, "setLog", "(ZLLayeredActs$Logs;I)V"⟩
abbrev cX6_isLike : ByteArray := prog_8_method_7_code
def yX6_isLike : MethodName := ⟨RX6, "isLike", "(LLayeredActs$Row;I)Z"⟩
def RX7 : String := "LayeredActs$Term"
def TX7 : u_T := fun k => match k with
  | 0 => ("LayeredActs$Term", "kind", "I", true)
  | 1 => ("LayeredActs$Term", "named", "Z", true)
  | 2 => ("LayeredActs$Term", "operand", "I", true)
  | 3 => ("LayeredActs$Term", "name", "I", true)
  | 4 => ("LayeredActs$Term", "first", "LLayeredActs$Term;", true)
  | 5 => ("LayeredActs$Term", "second", "LLayeredActs$Term;", true)
  | 6 => ("LayeredActs$Term", "height", "I", true)
  | _ => ("LayeredActs$Term", "layers", "I", true)
def tyX7 : Nat → FieldType := fun k => match k with
  | 0 => .int
  | 1 => .boolean
  | 2 => .int
  | 3 => .int
  | 4 => .object "LayeredActs$Term"
  | 5 => .object "LayeredActs$Term"
  | 6 => .int
  | _ => .int
abbrev wsX70 : List Cond := u_ws RX7 TX7 8
theorem nmX7 : ∀ a, a < 8 → ∀ b, b < 8 → a ≠ b → (TX7 a).2.1 ≠ (TX7 b).2.1 := by decide +kernel
theorem tyX7_ok : ∀ k, k < 8 → parseFieldDescriptor (TX7 k).2.2.1 = some (tyX7 k) := by decide +kernel
abbrev cX7_init : ByteArray := prog_9_method_1_code
def yX7_init : MethodName := ⟨RX7, "<init>", "(IZIILLayeredActs$Term;LLayeredActs$Term;)V"⟩
abbrev cX7_heightOf : ByteArray := prog_9_method_2_code
def yX7_heightOf : MethodName := ⟨RX7, "heightOf", "(LLayeredActs$Term;)I"⟩
abbrev cX7_layersOf : ByteArray := prog_9_method_3_code
def yX7_layersOf : MethodName := ⟨RX7, "layersOf", "(LLayeredActs$Term;)I"⟩
def RX8 : String := "LayeredActs"
def TX8 : u_T := fun k => match k with
  | 0 => ("LayeredActs", "made", "[LLayeredActs$Term;", true)
  | 1 => ("LayeredActs", "machine", "LLayeredActs$Machine;", true)
  | 2 => ("LayeredActs", "latest", "LLayeredActs$Outcome;", true)
  | 3 => ("LayeredActs", "oneSide", "LLayeredActs$Outcome;", true)
  | 4 => ("LayeredActs", "otherSide", "LLayeredActs$Outcome;", true)
  | 5 => ("LayeredActs", "count", "I", false)
  | _ => ("LayeredActs", "layering", "LLayeredActs$Layering;", false)
def tyX8 : Nat → FieldType := fun k => match k with
  | 0 => .array (.object "LayeredActs$Term")
  | 1 => .object "LayeredActs$Machine"
  | 2 => .object "LayeredActs$Outcome"
  | 3 => .object "LayeredActs$Outcome"
  | 4 => .object "LayeredActs$Outcome"
  | 5 => .int
  | _ => .object "LayeredActs$Layering"
abbrev wsX80 : List Cond := u_ws RX8 TX8 7
theorem nmX8 : ∀ a, a < 7 → ∀ b, b < 7 → a ≠ b → (TX8 a).2.1 ≠ (TX8 b).2.1 := by decide +kernel
theorem tyX8_ok : ∀ k, k < 7 → parseFieldDescriptor (TX8 k).2.2.1 = some (tyX8 k) := by decide +kernel
abbrev cX8_init : ByteArray := prog_1_method_1_code
def yX8_init : MethodName := ⟨RX8, "<init>", "()V"⟩
abbrev cX8_give : ByteArray := prog_1_method_2_code
def yX8_give : MethodName := ⟨RX8, "give", "(ZI)I"⟩
abbrev cX8_of : ByteArray := prog_1_method_3_code
def yX8_of : MethodName := ⟨RX8, "of", "(III)I"⟩
abbrev cX8_read : ByteArray := prog_1_method_4_code
def yX8_read : MethodName := ⟨RX8, "read", "()I"⟩
abbrev cX8_write : ByteArray := prog_1_method_5_code
def yX8_write : MethodName := ⟨RX8, "write", "(ZI)I"⟩
abbrev cX8_say : ByteArray := prog_1_method_6_code
def yX8_say : MethodName := ⟨RX8, "say", "(ZI)I"⟩
abbrev cX8_fail : ByteArray := prog_1_method_7_code
def yX8_fail : MethodName := ⟨RX8, "fail", "(ZI)I"⟩
abbrev cX8_none : ByteArray := prog_1_method_8_code
def yX8_none : MethodName := ⟨RX8, "none", "()I"⟩
abbrev cX8_either : ByteArray := prog_1_method_9_code
def yX8_either : MethodName := ⟨RX8, "either", "(II)I"⟩
abbrev cX8_then : ByteArray := prog_1_method_10_code
def yX8_then : MethodName := ⟨RX8, "then", "(III)I"⟩
abbrev cX8_saved : ByteArray := prog_1_method_11_code
def yX8_saved : MethodName := ⟨RX8, "saved", "(III)I"⟩
abbrev cX8_when : ByteArray := prog_1_method_12_code
def yX8_when : MethodName := ⟨RX8, "when", "(III)I"⟩
abbrev cX8_times : ByteArray := prog_1_method_13_code
def yX8_times : MethodName := ⟨RX8, "times", "(ZII)I"⟩
abbrev cX8_as : ByteArray := prog_1_method_14_code
def yX8_as : MethodName := ⟨RX8, "as", "(II)I"⟩
abbrev cX8_order : ByteArray := prog_1_method_15_code
def yX8_order : MethodName := ⟨RX8, "order", "(IIII)I"⟩
abbrev cX8_needs : ByteArray := prog_1_method_16_code
def yX8_needs : MethodName := ⟨RX8, "needs", "(I)I"⟩
abbrev cX8_run : ByteArray := prog_1_method_17_code
def yX8_run : MethodName := ⟨RX8, "run", "(III)I"⟩
abbrev cX8_result : ByteArray := prog_1_method_18_code
def yX8_result : MethodName := ⟨RX8, "result", "(II)I"⟩
abbrev cX8_shared : ByteArray := prog_1_method_19_code
def yX8_shared : MethodName := ⟨RX8, "shared", "(I)I"⟩
abbrev cX8_alike : ByteArray := prog_1_method_20_code
def yX8_alike : MethodName := ⟨RX8, "alike", "(IIII)Z"⟩
abbrev cX8_terms : ByteArray := prog_1_method_21_code
def yX8_terms : MethodName := ⟨RX8, "terms", "()I"⟩
abbrev cX8_keepAct : ByteArray := prog_1_method_22_code
def yX8_keepAct : MethodName := ⟨RX8, "keepAct", "(IZI)I"⟩
abbrev cX8_keepNaming : ByteArray := prog_1_method_23_code
def yX8_keepNaming : MethodName := ⟨RX8, "keepNaming", "(IIII)I"⟩
abbrev cX8_keep : ByteArray := prog_1_method_24_code
def yX8_keep : MethodName := ⟨RX8, "keep", "(LLayeredActs$Term;)I"⟩
abbrev cX8_termAt : ByteArray := prog_1_method_25_code
def yX8_termAt : MethodName := ⟨RX8, "termAt", "(I)LLayeredActs$Term;"⟩
abbrev cX8_requireOperand : ByteArray := prog_1_method_26_code
def yX8_requireOperand : MethodName := ⟨RX8, "requireOperand", "(ZI)V"⟩
abbrev cX8_requireName : ByteArray := prog_1_method_27_code
def yX8_requireName : MethodName := ⟨RX8, "requireName", "(I)V"⟩
abbrev cX8_requireSteps : ByteArray := prog_1_method_28_code
def yX8_requireSteps : MethodName := ⟨RX8, "requireSteps", "(I)V"⟩
abbrev cX8_requireLayers : ByteArray := prog_1_method_29_code
def yX8_requireLayers : MethodName := ⟨RX8, "requireLayers", "(I)V"⟩
abbrev cX8_withLayer : ByteArray := prog_1_method_30_code
def yX8_withLayer : MethodName := ⟨RX8, "withLayer", "(II)I"⟩
abbrev cX8_tellOf : ByteArray := prog_1_method_31_code
def yX8_tellOf : MethodName := ⟨RX8, "tellOf", "(LLayeredActs$Row;I)I"⟩
def RX9 : String := "LayeredActsModel"
def TX9 : u_T := fun k => match k with
  | 0 => ("LayeredActsModel", "thrown", "I", false)
  | 1 => ("LayeredActsModel", "terms", "I", false)
  | 2 => ("LayeredActsModel", "kind", "[I", true)
  | 3 => ("LayeredActsModel", "one", "[I", true)
  | 4 => ("LayeredActsModel", "two", "[I", true)
  | 5 => ("LayeredActsModel", "name", "[I", true)
  | 6 => ("LayeredActsModel", "isNamed", "[Z", true)
  | 7 => ("LayeredActsModel", "needed", "[I", true)
  | 8 => ("LayeredActsModel", "height", "[I", true)
  | 9 => ("LayeredActsModel", "place", "[I", true)
  | 10 => ("LayeredActsModel", "logs", "I", false)
  | 11 => ("LayeredActsModel", "before", "[I", true)
  | 12 => ("LayeredActsModel", "said", "[I", true)
  | 13 => ("LayeredActsModel", "logLength", "[I", true)
  | 14 => ("LayeredActsModel", "high", "I", false)
  | 15 => ("LayeredActsModel", "term", "[I", true)
  | 16 => ("LayeredActsModel", "phase", "[I", true)
  | 17 => ("LayeredActsModel", "at", "[I", true)
  | 18 => ("LayeredActsModel", "round", "[I", true)
  | 19 => ("LayeredActsModel", "state0", "[I", true)
  | 20 => ("LayeredActsModel", "log0", "[I", true)
  | 21 => ("LayeredActsModel", "shared0", "[I", true)
  | 22 => ("LayeredActsModel", "sharedLog0", "[I", true)
  | 23 => ("LayeredActsModel", "env", "[I", true)
  | 24 => ("LayeredActsModel", "many", "[I", true)
  | 25 => ("LayeredActsModel", "isError", "[Z", true)
  | 26 => ("LayeredActsModel", "number", "[I", true)
  | 27 => ("LayeredActsModel", "state", "[I", true)
  | 28 => ("LayeredActsModel", "log", "[I", true)
  | 29 => ("LayeredActsModel", "sharedState", "I", false)
  | 30 => ("LayeredActsModel", "sharedLog", "I", false)
  | 31 => ("LayeredActsModel", "spent", "I", false)
  | 32 => ("LayeredActsModel", "steps", "I", false)
  | 33 => ("LayeredActsModel", "out", "Z", false)
  | 34 => ("LayeredActsModel", "ended", "Z", false)
  | 35 => ("LayeredActsModel", "endedBy", "I", false)
  | 36 => ("LayeredActsModel", "keptMany", "[I", true)
  | 37 => ("LayeredActsModel", "keptError", "[Z", true)
  | 38 => ("LayeredActsModel", "keptNumber", "[I", true)
  | 39 => ("LayeredActsModel", "keptHas", "[Z", true)
  | 40 => ("LayeredActsModel", "keptState", "[I", true)
  | 41 => ("LayeredActsModel", "keptLog", "[I", true)
  | 42 => ("LayeredActsModel", "keptRow", "[I", true)
  | 43 => ("LayeredActsModel", "told", "[I", true)
  | 44 => ("LayeredActsModel", "toldLog", "[I", true)
  | 45 => ("LayeredActsModel", "ran", "Z", false)
  | 46 => ("LayeredActsModel", "spareTold", "[I", true)
  | 47 => ("LayeredActsModel", "spareLog", "[I", true)
  | 48 => ("LayeredActsModel", "spareError", "[Z", true)
  | 49 => ("LayeredActsModel", "spareNumber", "[I", true)
  | 50 => ("LayeredActsModel", "spareHas", "[Z", true)
  | 51 => ("LayeredActsModel", "spareState", "[I", true)
  | 52 => ("LayeredActsModel", "spareLength", "[I", true)
  | _ => ("LayeredActsModel", "spareRow", "[I", true)
def tyX9 : Nat → FieldType := fun k => match k with
  | 0 => .int
  | 1 => .int
  | 2 => .array .int
  | 3 => .array .int
  | 4 => .array .int
  | 5 => .array .int
  | 6 => .array .boolean
  | 7 => .array .int
  | 8 => .array .int
  | 9 => .array .int
  | 10 => .int
  | 11 => .array .int
  | 12 => .array .int
  | 13 => .array .int
  | 14 => .int
  | 15 => .array .int
  | 16 => .array .int
  | 17 => .array .int
  | 18 => .array .int
  | 19 => .array .int
  | 20 => .array .int
  | 21 => .array .int
  | 22 => .array .int
  | 23 => .array .int
  | 24 => .array .int
  | 25 => .array .boolean
  | 26 => .array .int
  | 27 => .array .int
  | 28 => .array .int
  | 29 => .int
  | 30 => .int
  | 31 => .int
  | 32 => .int
  | 33 => .boolean
  | 34 => .boolean
  | 35 => .int
  | 36 => .array .int
  | 37 => .array .boolean
  | 38 => .array .int
  | 39 => .array .boolean
  | 40 => .array .int
  | 41 => .array .int
  | 42 => .array .int
  | 43 => .array .int
  | 44 => .array .int
  | 45 => .boolean
  | 46 => .array .int
  | 47 => .array .int
  | 48 => .array .boolean
  | 49 => .array .int
  | 50 => .array .boolean
  | 51 => .array .int
  | 52 => .array .int
  | _ => .array .int
abbrev wsX90 : List Cond := u_ws RX9 TX9 54
theorem nmX9 : ∀ a, a < 54 → ∀ b, b < 54 → a ≠ b → (TX9 a).2.1 ≠ (TX9 b).2.1 := by decide +kernel
theorem tyX9_ok : ∀ k, k < 54 → parseFieldDescriptor (TX9 k).2.2.1 = some (tyX9 k) := by decide +kernel
abbrev cX9_thrown : ByteArray := prog_11_method_1_code
def yX9_thrown : MethodName := ⟨RX9, "thrown", "()I"⟩
abbrev cX9_refuse : ByteArray := prog_11_method_2_code
def yX9_refuse : MethodName := ⟨RX9, "refuse", "(I)I"⟩
abbrev cX9_init : ByteArray := prog_11_method_3_code
def yX9_init : MethodName := ⟨RX9, "<init>", "()V"⟩
abbrev cX9_above : ByteArray := prog_11_method_4_code
def yX9_above : MethodName := ⟨RX9, "above", "(II)I"⟩
abbrev cX9_isFull : ByteArray := prog_11_method_5_code
def yX9_isFull : MethodName := ⟨RX9, "isFull", "(II)Z"⟩
abbrev cX9_isTerm : ByteArray := prog_11_method_6_code
def yX9_isTerm : MethodName := ⟨RX9, "isTerm", "(I)Z"⟩
abbrev cX9_isName : ByteArray := prog_11_method_7_code
def yX9_isName : MethodName := ⟨RX9, "isName", "(I)Z"⟩
abbrev cX9_made : ByteArray := prog_11_method_8_code
def yX9_made : MethodName := ⟨RX9, "made", "(IIIIZI)I"⟩
abbrev cX9_operand : ByteArray := prog_11_method_9_code
def yX9_operand : MethodName := ⟨RX9, "operand", "(IZII)I"⟩
abbrev cX9_give : ByteArray := prog_11_method_10_code
def yX9_give : MethodName := ⟨RX9, "give", "(ZI)I"⟩
abbrev cX9_of : ByteArray := prog_11_method_11_code
def yX9_of : MethodName := ⟨RX9, "of", "(III)I"⟩
abbrev cX9_read : ByteArray := prog_11_method_12_code
def yX9_read : MethodName := ⟨RX9, "read", "()I"⟩
abbrev cX9_write : ByteArray := prog_11_method_13_code
def yX9_write : MethodName := ⟨RX9, "write", "(ZI)I"⟩
abbrev cX9_say : ByteArray := prog_11_method_14_code
def yX9_say : MethodName := ⟨RX9, "say", "(ZI)I"⟩
abbrev cX9_fail : ByteArray := prog_11_method_15_code
def yX9_fail : MethodName := ⟨RX9, "fail", "(ZI)I"⟩
abbrev cX9_none : ByteArray := prog_11_method_16_code
def yX9_none : MethodName := ⟨RX9, "none", "()I"⟩
abbrev cX9_either : ByteArray := prog_11_method_17_code
def yX9_either : MethodName := ⟨RX9, "either", "(II)I"⟩
abbrev cX9_three : ByteArray := prog_11_method_18_code
def yX9_three : MethodName := ⟨RX9, "three", "(IIIII)I"⟩
abbrev cX9_then : ByteArray := prog_11_method_19_code
def yX9_then : MethodName := ⟨RX9, "then", "(III)I"⟩
abbrev cX9_saved : ByteArray := prog_11_method_20_code
def yX9_saved : MethodName := ⟨RX9, "saved", "(III)I"⟩
abbrev cX9_when : ByteArray := prog_11_method_21_code
def yX9_when : MethodName := ⟨RX9, "when", "(III)I"⟩
abbrev cX9_times : ByteArray := prog_11_method_22_code
def yX9_times : MethodName := ⟨RX9, "times", "(ZII)I"⟩
abbrev cX9_as : ByteArray := prog_11_method_23_code
def yX9_as : MethodName := ⟨RX9, "as", "(II)I"⟩
abbrev cX9_terms : ByteArray := prog_11_method_24_code
def yX9_terms : MethodName := ⟨RX9, "terms", "()I"⟩
abbrev cX9_needs : ByteArray := prog_11_method_25_code
def yX9_needs : MethodName := ⟨RX9, "needs", "(I)I"⟩
abbrev cX9_order : ByteArray := prog_11_method_26_code
def yX9_order : MethodName := ⟨RX9, "order", "(IIII)I"⟩
abbrev cX9_has : ByteArray := prog_11_method_27_code
def yX9_has : MethodName := ⟨RX9, "has", "(I)Z"⟩
abbrev cX9_isOwn : ByteArray := prog_11_method_28_code
def yX9_isOwn : MethodName := ⟨RX9, "isOwn", "(I)Z"⟩
abbrev cX9_isShared : ByteArray := prog_11_method_29_code
def yX9_isShared : MethodName := ⟨RX9, "isShared", "(I)Z"⟩
abbrev cX9_isOutside : ByteArray := prog_11_method_30_code
def yX9_isOutside : MethodName := ⟨RX9, "isOutside", "(I)Z"⟩
abbrev cX9_lacks : ByteArray := prog_11_method_31_code
def yX9_lacks : MethodName := ⟨RX9, "lacks", "(I)Z"⟩
abbrev cX9_row : ByteArray := prog_11_method_32_code
def yX9_row : MethodName := ⟨RX9, "row", "(II)I"⟩
abbrev cX9_push : ByteArray := prog_11_method_33_code
def yX9_push : MethodName := ⟨RX9, "push", "(IIIIII)V"⟩
abbrev cX9_tell : ByteArray := prog_11_method_34_code
def yX9_tell : MethodName := ⟨RX9, "tell", "(IZIII)V"⟩
abbrev cX9_gather : ByteArray := prog_11_method_35_code
def yX9_gather : MethodName := ⟨RX9, "gather", "(I)V"⟩
abbrev cX9_turn : ByteArray := prog_11_method_36_code
def yX9_turn : MethodName := ⟨RX9, "turn", "(I)V"⟩
abbrev cX9_value : ByteArray := prog_11_method_37_code
def yX9_value : MethodName := ⟨RX9, "value", "(IIZ)I"⟩
abbrev cX9_longer : ByteArray := prog_11_method_38_code
def yX9_longer : MethodName := ⟨RX9, "longer", "(II)I"⟩
abbrev cX9_leaf : ByteArray := prog_11_method_39_code
def yX9_leaf : MethodName := ⟨RX9, "leaf", "(I)V"⟩
abbrev cX9_op : ByteArray := prog_11_method_40_code
def yX9_op : MethodName := ⟨RX9, "op", "(III)I"⟩
abbrev cX9_unwind : ByteArray := prog_11_method_41_code
def yX9_unwind : MethodName := ⟨RX9, "unwind", "(I)V"⟩
abbrev cX9_finish : ByteArray := prog_11_method_42_code
def yX9_finish : MethodName := ⟨RX9, "finish", "()V"⟩
abbrev cX9_go : ByteArray := prog_11_method_43_code
def yX9_go : MethodName := ⟨RX9, "go", "()V"⟩
abbrev cX9_either_ : ByteArray := prog_11_method_44_code
def yX9_either_ : MethodName := ⟨RX9, "either", "(I)V"⟩
abbrev cX9_choose : ByteArray := prog_11_method_45_code
def yX9_choose : MethodName := ⟨RX9, "choose", "(I)V"⟩
abbrev cX9_along : ByteArray := prog_11_method_46_code
def yX9_along : MethodName := ⟨RX9, "along", "(I)V"⟩
abbrev cX9_gatherNext : ByteArray := prog_11_method_47_code
def yX9_gatherNext : MethodName := ⟨RX9, "gatherNext", "(I)V"⟩
abbrev cX9_again : ByteArray := prog_11_method_48_code
def yX9_again : MethodName := ⟨RX9, "again", "(I)V"⟩
abbrev cX9_within : ByteArray := prog_11_method_49_code
def yX9_within : MethodName := ⟨RX9, "within", "(I)V"⟩
abbrev cX9_doIt : ByteArray := prog_11_method_50_code
def yX9_doIt : MethodName := ⟨RX9, "doIt", "(III)V"⟩
abbrev cX9_writeLog : ByteArray := prog_11_method_51_code
def yX9_writeLog : MethodName := ⟨RX9, "writeLog", "(I[II)V"⟩
abbrev cX9_keep : ByteArray := prog_11_method_52_code
def yX9_keep : MethodName := ⟨RX9, "keep", "(I)V"⟩
abbrev cX9_run : ByteArray := prog_11_method_53_code
def yX9_run : MethodName := ⟨RX9, "run", "(III)I"⟩
abbrev cX9_result : ByteArray := prog_11_method_54_code
def yX9_result : MethodName := ⟨RX9, "result", "(II)I"⟩
abbrev cX9_shared : ByteArray := prog_11_method_55_code
def yX9_shared : MethodName := ⟨RX9, "shared", "(I)I"⟩
abbrev cX9_alike : ByteArray := prog_11_method_56_code
def yX9_alike : MethodName := ⟨RX9, "alike", "(IIII)Z"⟩
abbrev cX9_lay : ByteArray := prog_11_method_57_code
def yX9_lay : MethodName := ⟨RX9, "lay", "()V"⟩
abbrev cX9_isAsLaid : ByteArray := prog_11_method_58_code
def yX9_isAsLaid : MethodName := ⟨RX9, "isAsLaid", "()Z"⟩
def RJ6 : String := "java/lang/Integer"
def TJ6 : u_T := fun k => match k with
  | _ => ("", "", "", false)
def tyJ6 : Nat → FieldType := fun k => match k with
  | _ => .int
abbrev wsJ60 : List Cond := u_ws RJ6 TJ6 0
theorem nmJ6 : ∀ a, a < 0 → ∀ b, b < 0 → a ≠ b → (TJ6 a).2.1 ≠ (TJ6 b).2.1 := by decide +kernel
theorem tyJ6_ok : ∀ k, k < 0 → parseFieldDescriptor (TJ6 k).2.2.1 = some (tyJ6 k) := by decide +kernel
abbrev cJ6_bitCount_0f7a4 : ByteArray := prog_16_method_49_code
def yJ6_bitCount_0f7a4 : MethodName := ⟨RJ6, "bitCount", "(I)I"⟩
def RJ9 : String := "java/lang/Math"
def TJ9 : u_T := fun k => match k with
  | _ => ("", "", "", false)
def tyJ9 : Nat → FieldType := fun k => match k with
  | _ => .int
abbrev wsJ90 : List Cond := u_ws RJ9 TJ9 0
theorem nmJ9 : ∀ a, a < 0 → ∀ b, b < 0 → a ≠ b → (TJ9 a).2.1 ≠ (TJ9 b).2.1 := by decide +kernel
theorem tyJ9_ok : ∀ k, k < 0 → parseFieldDescriptor (TJ9 k).2.2.1 = some (tyJ9 k) := by decide +kernel
abbrev cJ9_max_7cf53 : ByteArray := prog_17_method_65_code
def yJ9_max_7cf53 : MethodName := ⟨RJ9, "max", "(II)I"⟩
abbrev cJ9_min_7cf53 : ByteArray := prog_17_method_69_code
def yJ9_min_7cf53 : MethodName := ⟨RJ9, "min", "(II)I"⟩
def RJ0 : String := "java/lang/String"
def TJ0 : u_T := fun k => match k with
  | _ => ("", "", "", false)
def tyJ0 : Nat → FieldType := fun k => match k with
  | _ => .int
abbrev wsJ00 : List Cond := u_ws RJ0 TJ0 0
theorem nmJ0 : ∀ a, a < 0 → ∀ b, b < 0 → a ≠ b → (TJ0 a).2.1 ≠ (TJ0 b).2.1 := by decide +kernel
theorem tyJ0_ok : ∀ k, k < 0 → parseFieldDescriptor (TJ0 k).2.2.1 = some (tyJ0 k) := by decide +kernel
def RL : String := "LayeredActsLaw"
abbrev cL_give : ByteArray := method_3_code
def yL_give : MethodName := ⟨RL, "give", "(LLayeredActs;ZI[J)I"⟩
abbrev cL_of : ByteArray := method_4_code
def yL_of : MethodName := ⟨RL, "of", "(LLayeredActs;III[J)I"⟩
abbrev cL_read : ByteArray := method_5_code
def yL_read : MethodName := ⟨RL, "read", "(LLayeredActs;[J)I"⟩
abbrev cL_write : ByteArray := method_6_code
def yL_write : MethodName := ⟨RL, "write", "(LLayeredActs;ZI[J)I"⟩
abbrev cL_say : ByteArray := method_7_code
def yL_say : MethodName := ⟨RL, "say", "(LLayeredActs;ZI[J)I"⟩
abbrev cL_fail : ByteArray := method_8_code
def yL_fail : MethodName := ⟨RL, "fail", "(LLayeredActs;ZI[J)I"⟩
abbrev cL_none : ByteArray := method_9_code
def yL_none : MethodName := ⟨RL, "none", "(LLayeredActs;[J)I"⟩
abbrev cL_either : ByteArray := method_10_code
def yL_either : MethodName := ⟨RL, "either", "(LLayeredActs;II[J)I"⟩
abbrev cL_then : ByteArray := method_11_code
def yL_then : MethodName := ⟨RL, "then", "(LLayeredActs;III[J)I"⟩
abbrev cL_saved : ByteArray := method_12_code
def yL_saved : MethodName := ⟨RL, "saved", "(LLayeredActs;III[J)I"⟩
abbrev cL_when : ByteArray := method_13_code
def yL_when : MethodName := ⟨RL, "when", "(LLayeredActs;III[J)I"⟩
abbrev cL_times : ByteArray := method_14_code
def yL_times : MethodName := ⟨RL, "times", "(LLayeredActs;ZII[J)I"⟩
abbrev cL_as : ByteArray := method_15_code
def yL_as : MethodName := ⟨RL, "as", "(LLayeredActs;II[J)I"⟩
abbrev cL_order : ByteArray := method_16_code
def yL_order : MethodName := ⟨RL, "order", "(LLayeredActs;IIII[J)I"⟩
abbrev cL_needs : ByteArray := method_17_code
def yL_needs : MethodName := ⟨RL, "needs", "(LLayeredActs;I[J)I"⟩
abbrev cL_run : ByteArray := method_18_code
def yL_run : MethodName := ⟨RL, "run", "(LLayeredActs;III[J)I"⟩
abbrev cL_result : ByteArray := method_19_code
def yL_result : MethodName := ⟨RL, "result", "(LLayeredActs;II[J)I"⟩
abbrev cL_shared : ByteArray := method_20_code
def yL_shared : MethodName := ⟨RL, "shared", "(LLayeredActs;I[J)I"⟩
abbrev cL_alike : ByteArray := method_21_code
def yL_alike : MethodName := ⟨RL, "alike", "(LLayeredActs;IIII[J)I"⟩
abbrev cL_law : ByteArray := code
def yL_law : MethodName := ⟨RL, "law", "([I)Z"⟩
end
section
/-! the abstract machine: values, heaps, their meaning -/
def gT : List Cond := lw_tbl.filter goodWord
theorem gT_in {w : Cond} (h : w ∈ lw_tbl) (hg : goodWord w = true) : w ∈ gT := List.mem_filter.mpr ⟨h, hg⟩
theorem gT_good : GoodIn gT gT := fun _ h => ⟨h, good_of_word (List.mem_filter.mp h).2⟩
def gIn (ws : List Cond) : Bool := ws.all (fun w => goodWord w && decide (w ∈ lw_tbl))
theorem gT_of {ws : List Cond} (h : gIn ws = true) : ∀ w ∈ ws, w ∈ gT := by
  intro w hw
  have h1 := List.all_eq_true.mp h w hw
  simp only [Bool.and_eq_true, decide_eq_true_eq] at h1
  exact gT_in h1.2 h1.1
theorem gX1 : gIn wsX10 = true := by decide +kernel
theorem gX2 : gIn wsX20 = true := by decide +kernel
theorem gX3 : gIn wsX30 = true := by decide +kernel
theorem gX4 : gIn wsX40 = true := by decide +kernel
theorem gX5 : gIn wsX50 = true := by decide +kernel
theorem gX6 : gIn wsX60 = true := by decide +kernel
theorem gX7 : gIn wsX70 = true := by decide +kernel
theorem gX8 : gIn wsX80 = true := by decide +kernel
theorem gX9 : gIn wsX90 = true := by decide +kernel
end
section
/-! the abstract machine: values, heaps, their meaning -/
abbrev aV : Type := Int32 ⊕ (Nat ⊕ (Option Nat ⊕ Int64))
abbrev vI (x : Int32) : aV := .inl x
abbrev vS (i : Nat) : aV := .inr (.inl i)
abbrev vD (r : Option Nat) : aV := .inr (.inr (.inl r))
abbrev vJ (x : Int64) : aV := .inr (.inr (.inr x))
def cv (ad : Nat → Nat) (v : aV) : Value := match v with
  | .inl x => .int x
  | .inr (.inl i) => .ref (ad i)
  | .inr (.inr (.inl r)) => va_rf (r.map ad)
  | .inr (.inr (.inr x)) => .long x
abbrev aI : Type := Nat → Nat → Int32
abbrev aL : Type := Nat → Int64
abbrev aSh : Type := Nat ⊕ (FieldType × Nat)
abbrev aG : Type := Nat × (Nat → Option aSh) × (Nat → Nat → Option Nat)
abbrev aO : Type := Option aV ⊕ String
abbrev aQ : Type := aO → aG → aI → aL → Prop
/-- where an id lies: the script at b, the others from b0 on, in the order of their making -/
def qa (b b0 : Nat) (i : Nat) : Nat := match i with
  | 0 => b
  | i + 1 => b0 + i
def qA (b0 : Nat) : Nat → Prop := fun q => b0 ≤ q
def up2 {α : Type} (I : Nat → Nat → α) (i k : Nat) (v : α) : Nat → Nat → α := fun j m => if j = i ∧ m = k then v else I j m
def up1 {α : Type} (f : Nat → α) (i : Nat) (v : α) : Nat → α := fun j => if j = i then v else f j
abbrev qC : List vw_C := [(RX1, TX1, 8), (RX1, TX1, 8), (RX2, TX2, 4), (RX3, TX3, 9), (RX4, TX4, 3), (RX5, TX5, 5), (RX6, TX6, 1), (RX7, TX7, 8), (RX8, TX8, 7), (RX9, TX9, 54)]
def qt (ci : Nat) : Nat → FieldType := match ci with
  | 0 => tyX1
  | 1 => tyX1
  | 2 => tyX2
  | 3 => tyX3
  | 4 => tyX4
  | 5 => tyX5
  | 6 => tyX6
  | 7 => tyX7
  | 8 => tyX8
  | _ => tyX9
def isI (ty : FieldType) : Bool := match ty with
  | .int => true
  | .boolean => true
  | _ => false
def qF (ad : Nat → Nat) (I : aI) (R : Nat → Nat → Option Nat) (ci i k : Nat) : Value := if isI (qt ci k) = true then .int (I i k) else va_rf ((R i k).map ad)
def qE (ad : Nat → Nat) (I : aI) (R : Nat → Nat → Option Nat) (L : aL) (ty : FieldType) (i k : Nat) : Value := match ty with
  | .int => .int (I i k)
  | .boolean => .int (I i k)
  | .long => .long (L i)
  | _ => va_rf ((R i k).map ad)
/-- what a cell of the heap is, by its shape -/
def qc (D : va_G) (K : FieldType → ClassId) (ad : Nat → Nat) (R : Nat → Nat → Option Nat) (I : aI) (L : aL) (H : Heap) (i : Nat) (c : aSh) : Prop := match c with
  | .inl ci => ∃ r : vw_C, qC[ci]? = some r ∧ t_OB (ad i) (D.1 ci) r.2.2 (D.2 ci) H (qF ad I R ci i)
  | .inr (ty, n) => H[ad i]? = some (arrV (K ty) n (qE ad I R L ty i))
def qz (D : va_G) (K : FieldType → ClassId) (b b0 : Nat) (g : aG) (I : aI) (L : aL) (H : Heap) : Prop :=
  (qa b b0 g.1 = H.size ∧ 0 < g.1 ∧ ∀ i, g.1 ≤ i → g.2.1 i = none) ∧ ∀ (i : Nat) (c : aSh), g.2.1 i = some c → qc D K (qa b b0) g.2.2 I L H i c
def qTy : List FieldType := [.int, .boolean, .long, .object RX7, .object RX6]
def qStr : List (Nat × String) := [(148, "no such NAME"), (143, "too many TERMS, or too high a one"), (56, "no such op"), (146, "no such TERM"), (80, "no such kind"), (155, "no such LAYER, or twice"), (150, "steps is not 1 .. 2000"), (153, "a LAYER that is needed is not in the ORDER"), (115, "no such RESULT"), (163, "nothing of that number is told"), (124, "no RUN, or one that was OUT")]
def qNest : List (String × Nat × MethodName) := [(RX8, 17, yX3_init), (RX3, 11, yX5_init), (RX3, 20, yX2_init), (RX4, 17, yX6_init)]
def qExc : List String := ["java/lang/IndexOutOfBoundsException", "java/lang/UnsupportedOperationException", "java/lang/IllegalArgumentException", "java/lang/IllegalStateException"]
def qDecl : List MethodName := [⟨"java/lang/RuntimeException", "<init>", "()V"⟩, ⟨"java/lang/RuntimeException", "<init>", "(Ljava/lang/String;)V"⟩, ⟨"java/lang/Exception", "<init>", "()V"⟩, ⟨"java/lang/Exception", "<init>", "(Ljava/lang/String;)V"⟩, ⟨"java/lang/Throwable", "<init>", "()V"⟩, ⟨"java/lang/Throwable", "<init>", "(Ljava/lang/String;)V"⟩]
/-- what the tables say, of a state -/
def Kv (D : va_G) (K : FieldType → ClassId) (SA : Nat → Nat) (U : State) : Prop :=
  (∀ (c : Nat) (q : vw_C), qC[c]? = some q → u_Kn U q.1 q.2.1 q.2.2 (D.1 c) (D.2 c)) ∧ (∀ ty ∈ qTy, ArrOfT U (K ty) ty ∧ va_RA U (K ty) ty) ∧
  (∀ q ∈ qStr, vk_R RX8 q.1 q.2 (SA q.1) U) ∧ (∀ q ∈ qNest, va_Nw (.methodLinkNest q.1 q.2.1 q.2.2 RX8) U) ∧ (∀ E ∈ qExc, va_Nw (.castable E E) U) ∧ (∀ y ∈ qDecl, va_Nw (.declares y) U) ∧
  (∀ E ∈ qExc, ∀ F ∈ qExc, E ≠ F → va_Nc E F U) ∧ va_AO RX7 U ∧ va_AO RX6 U
def Kh (b0 : Nat) (U : State) (H : Heap) : Prop := vx_Zq Bundle.tN "UNASSIGNED_STACK" Bundle.steD (qA b0) U H ∧ vx_Zq Bundle.tN "SUPPRESSED_SENTINEL" Bundle.listD (qA b0) U H
theorem Kv.warm {D : va_G} {K : FieldType → ClassId} {SA : Nat → Nat} {s U : State} (hW : s.WarmedH U.vm) (h : Kv D K SA s) : Kv D K SA U := by
  obtain ⟨h1, h2, h3, h4, h5, h6, h7, h8, h9⟩ := h
  have hA := hW.alike
  exact ⟨fun c q hq => u_Kn_moved hA (h1 c q hq), fun ty ht => ⟨arrOfT_moved hA (h2 ty ht).1, (h2 ty ht).2.moved hA⟩, fun q hq => (h3 q hq).warm hW, fun q hq => va_Nw.warmM hW (h4 q hq), fun E hE => va_Nw.warmC hW (h5 E hE), fun y hy => va_Nw.warmD hW (h6 y hy), fun E hE F hF n => (h7 E hE F hF n).moved hA, h8.moved hA, h9.moved hA⟩
theorem Kh.moved {b0 : Nat} {s U : State} {H : Heap} (hA : s.vm.Alike U.vm) (h : Kh b0 s H) : Kh b0 U H := ⟨vx_Zq.moved hA h.1, vx_Zq.moved hA h.2⟩
theorem Kh.kept {b0 : Nat} {s : State} {H H1 : Heap} (h : Kh b0 s H) (hq : ∀ a : Nat, a < H.size → ¬ qA b0 a → H1[a]? = H[a]?) : Kh b0 s H1 := ⟨h.1.kept hq, h.2.kept hq⟩
/-- a row of code: where, what, how long, its number, its two places -/
abbrev aR : Type := Nat × Instr × Nat × Int32 × Nat × Nat
/-- a method: name, own class, bytes, locals, answer, handlers, rows -/
abbrev aM : Type := MethodName × ByteArray × Nat × Option FieldType × List (Nat × Nat × Nat × Nat) × List aR
abbrev aM.y (M : aM) : MethodName := M.1
abbrev aM.cc (M : aM) : ByteArray := M.2.1
abbrev aM.nL (M : aM) : Nat := M.2.2.1
abbrev aM.ret (M : aM) : Option FieldType := M.2.2.2.1
abbrev aM.hh (M : aM) : List (Nat × Nat × Nat × Nat) := M.2.2.2.2.1
abbrev aM.code (M : aM) : List aR := M.2.2.2.2.2
def Cx (D : va_G) (K : FieldType → ClassId) (b b0 : Nat) (SA : Nat → Nat) (M : aM) (d : Nat) (p : Program) (l : Launch) (R : Room) (s : State) (m : MethodId) (args : Array Value) (meth : Method) (c : Code) (mc ms : Nat) : Prop :=
  (p.tables.exec = Jvm.exec ∧ c.code = M.cc ∧ c.maxLocals = M.nL ∧ meth.sig.returnType = M.ret ∧ meth.locks = false ∧ s.vm.findClass M.y.cls = some m.cls ∧ meth.name = M.y.name) ∧
  (∀ w ∈ gT, w.before args s = true) ∧ l.stackTraces = false ∧ (d ≤ R.frames ∧ 40 * d ≤ R.locals ∧ mc ≤ R.cells ∧ ms ≤ R.slots) ∧ c.exceptionTable.toList = tableOf M.hh ∧ (b < b0 ∧ b0 ≤ s.heap.size) ∧ Kv D K SA s ∧ Kh b0 s s.heap
def lH (ad : Nat → Nat) (ls : Array Slot) (nL : Nat) (lo : List (Option aV)) : Prop :=
  ls.size = nL ∧ lv_wf ls ∧ ∀ (k : Nat) (v : aV), lo[k]? = some (some v) → (cv ad v).category = 1 ∧ ls[k]? = some (.val (cv ad v))
def qQ (D : va_G) (K : FieldType → ClassId) (b b0 : Nat) (Q : aQ) : Array Value → State → Outcome → State → Prop := fun _ st o t =>
  (∃ (v : Option aV) (g : aG) (I : aI) (L : aL), o = .returned (v.map (cv (qa b b0))) ∧ Q (.inl v) g I L ∧ qz D K b b0 g I L t.heap) ∧ va_F (qA b0) st t
def qX (D : va_G) (K : FieldType → ClassId) (b b0 : Nat) (Q : aQ) : String → State → State → Prop := fun E st t =>
  ∃ (g : aG) (I : aI) (L : aL), Q (.inr E) g I L ∧ qz D K b b0 g I L t.heap ∧ va_F (qA b0) st t
/-- from every state that looks so the method comes to its end, with Q -/
def Ex (M : aM) (d kc ks : Nat) (Q : aQ) (pc : Nat) (lo : List (Option aV)) (st : List aV) (g : aG) (I : aI) (L : aL) : Prop :=
  ∀ (D : va_G) (K : FieldType → ClassId) (b b0 : Nat) (SA : Nat → Nat) (p : Program) (l : Launch) (e : Env) (R : Room) (s : State) (m : MethodId) (args : Array Value) (below : List Frame) (meth : Method) (c : Code) (H : Heap) (locs : List Loc) (cells slots mc ms : Nat) (ls : Array Slot),
    Cx D K b b0 SA M d p l R s m args meth c mc ms → cells + kc ≤ mc → slots + ks ≤ ms → qz D K b b0 g I L H → va_S (qA b0) s.heap H locs → lH (qa b b0) ls M.nL lo →
    W p l e R s m args below meth c H locs cells slots (vx_MQ below (qQ D K b b0 Q) (qX D K b b0 Q) args s mc ms (qA b0)) (F0 m pc ls (st.map (cv (qa b b0))))
/-- the words of a method: its code first -/
def aM.ws (M : aM) : List Cond := (if M.hh = [] then .code M.y M.cc M.nL M.ret else .codeWith M.y M.cc M.nL M.ret M.hh) :: gT
def rm (d kc ks : Nat) : Room := { frames := d, cells := kc, slots := ks, locals := 40 * d }
def mP (D : va_G) (K : FieldType → ClassId) (b b0 : Nat) (SA : Nat → Nat) (av : List aV) (g : aG) (I : aI) (L : aL) : Array Value → State → Prop := fun v U =>
  v = (av.map (cv (qa b b0))).toArray ∧ qz D K b b0 g I L U.heap ∧ (b < b0 ∧ b0 ≤ U.heap.size) ∧ Kv D K SA U ∧ Kh b0 U U.heap
/-- a whole method -/
def Mx (M : aM) (d kc ks : Nat) (av : List aV) (g : aG) (I : aI) (L : aL) (Q : aQ) : Prop :=
  ∀ (D : va_G) (K : FieldType → ClassId) (b b0 : Nat) (SA : Nat → Nat) (l : Launch), l.stackTraces = false →
    vx_Met l M.y M.ws (rm d kc ks) (mP D K b b0 SA av g I L) (qQ D K b b0 Q) (qX D K b b0 Q) kc ks (qA b0)
end
section
/-! locals -/
def qL (ad : Nat → Nat) : Nat → List (Option aV) → List (Nat × Value)
  | _, [] => []
  | k, none :: r => qL ad (k + 1) r
  | k, some v :: r => (k, cv ad v) :: qL ad (k + 1) r
theorem qL_mem {ad : Nat → Nat} : ∀ (lo : List (Option aV)) (k : Nat) (q : Nat × Value), q ∈ qL ad k lo ↔ ∃ (j : Nat) (v : aV), lo[j]? = some (some v) ∧ q = (k + j, cv ad v) := by
  intro lo
  induction lo with
  | nil => intro k q; simp [qL]
  | cons a r ih =>
    intro k q
    have key : (∃ (j : Nat) (v : aV), (a :: r)[j]? = some (some v) ∧ q = (k + j, cv ad v)) ↔ ((∃ v, a = some v ∧ q = (k, cv ad v)) ∨ ∃ (j : Nat) (v : aV), r[j]? = some (some v) ∧ q = (k + 1 + j, cv ad v)) := by
      constructor
      · rintro ⟨j, v, h1, h2⟩
        cases j with
        | zero => left; rw [List.getElem?_cons_zero] at h1; exact ⟨v, Option.some.inj h1, h2⟩
        | succ j => right; rw [List.getElem?_cons_succ] at h1; exact ⟨j, v, h1, by rw [h2]; congr 1; omega⟩
      · rintro (⟨v, h1, h2⟩ | ⟨j, v, h1, h2⟩)
        · exact ⟨0, v, by rw [List.getElem?_cons_zero, h1], h2⟩
        · exact ⟨j + 1, v, by rw [List.getElem?_cons_succ]; exact h1, by rw [h2]; congr 1; omega⟩
    rw [key]
    cases a with
    | none => simp only [qL]; rw [ih]; simp
    | some v =>
      simp only [qL, List.mem_cons]
      rw [ih]
      constructor
      · rintro (h | h)
        · exact Or.inl ⟨v, rfl, h⟩
        · exact Or.inr h
      · rintro (⟨w, h1, h2⟩ | h)
        · cases h1; exact Or.inl h2
        · exact Or.inr h
theorem lH.has {ad : Nat → Nat} {ls : Array Slot} {nL : Nat} {lo : List (Option aV)} (h : lH ad ls nL lo) : lv_has ls nL (qL ad 0 lo) := by
  refine ⟨h.1, h.2.1, fun q hq => ?_⟩
  obtain ⟨j, v, h1, rfl⟩ := (qL_mem lo 0 q).mp hq
  rw [Nat.zero_add]
  exact (h.2.2 j v h1).2
theorem lH.at {ad : Nat → Nat} {ls : Array Slot} {nL : Nat} {lo : List (Option aV)} (h : lH ad ls nL lo) {k : Nat} {v : aV} (hk : lo[k]? = some (some v)) : ls[k]? = some (.val (cv ad v)) := (h.2.2 k v hk).2
theorem lH.set {ad : Nat → Nat} {ls ls' : Array Slot} {nL i : Nat} {lo : List (Option aV)} {v : aV} (h : lH ad ls nL lo) (hc : (cv ad v).category = 1)
    (h' : lv_has ls' nL ((i, cv ad v) :: (qL ad 0 lo).filter (fun q => !(q.1 == i) && !(q.1 + 1 == i && q.2.category == 2)))) : lH ad ls' nL (lo.set i (some v)) := by
  refine ⟨h'.1, h'.2.1, fun k w hk => ?_⟩
  by_cases hki : k = i
  · subst hki
    have hlt : k < lo.length := by
      rcases Nat.lt_or_ge k lo.length with q | q
      · exact q
      · rw [List.getElem?_eq_none (by rw [List.length_set]; exact q)] at hk; cases hk
    rw [List.getElem?_set_self hlt] at hk
    cases hk
    exact ⟨hc, h'.2.2 _ List.mem_cons_self⟩
  · rw [List.getElem?_set_ne (Ne.symm hki)] at hk
    have h1 := h.2.2 k w hk
    refine ⟨h1.1, h'.2.2 (k, cv ad w) (List.mem_cons_of_mem _ (List.mem_filter.mpr ⟨(qL_mem lo 0 _).mpr ⟨k, w, hk, by rw [Nat.zero_add]⟩, ?_⟩))⟩
    have e1 : (k == i) = false := by simpa using hki
    have e2 : ((cv ad w).category == 2) = false := by rw [h1.1]; rfl
    simp only [e1, e2, Bool.and_false, Bool.not_false, Bool.and_true]
section Rules
variable {M : aM} {d kc ks : Nat} {Q : aQ} {pc : Nat} {lo : List (Option aV)} {st : List aV} {g : aG} {I : aI} {L : aL}
theorem Ex_iadd {x y : Int32} (hd : decode M.cc pc = .ok (.iadd, 1)) (k : Ex M d kc ks Q (pc + 1) lo (vI (x + y) :: st) g I L) : Ex M d kc ks Q pc lo (vI y :: vI x :: st) g I L := by
  intro D K b b0 SA p l e R s m args below meth c H locs cells slots mc ms ls C hc hs hz hS hl
  exact lv_iadd C.1.1 C.1.2.1 hd (k D K b b0 SA p l e R s m args below meth c H locs cells slots mc ms ls C hc hs hz hS hl)
theorem Ex_isub {x y : Int32} (hd : decode M.cc pc = .ok (.isub, 1)) (k : Ex M d kc ks Q (pc + 1) lo (vI (x - y) :: st) g I L) : Ex M d kc ks Q pc lo (vI y :: vI x :: st) g I L := by
  intro D K b b0 SA p l e R s m args below meth c H locs cells slots mc ms ls C hc hs hz hS hl
  exact lv_isub C.1.1 C.1.2.1 hd (k D K b b0 SA p l e R s m args below meth c H locs cells slots mc ms ls C hc hs hz hS hl)
theorem Ex_imul {x y : Int32} (hd : decode M.cc pc = .ok (.imul, 1)) (k : Ex M d kc ks Q (pc + 1) lo (vI (x * y) :: st) g I L) : Ex M d kc ks Q pc lo (vI y :: vI x :: st) g I L := by
  intro D K b b0 SA p l e R s m args below meth c H locs cells slots mc ms ls C hc hs hz hS hl
  exact lv_imul C.1.1 C.1.2.1 hd (k D K b b0 SA p l e R s m args below meth c H locs cells slots mc ms ls C hc hs hz hS hl)
theorem Ex_iand {x y : Int32} (hd : decode M.cc pc = .ok (.iand, 1)) (k : Ex M d kc ks Q (pc + 1) lo (vI (x &&& y) :: st) g I L) : Ex M d kc ks Q pc lo (vI y :: vI x :: st) g I L := by
  intro D K b b0 SA p l e R s m args below meth c H locs cells slots mc ms ls C hc hs hz hS hl
  exact lv_iand C.1.1 C.1.2.1 hd (k D K b b0 SA p l e R s m args below meth c H locs cells slots mc ms ls C hc hs hz hS hl)
theorem Ex_ior {x y : Int32} (hd : decode M.cc pc = .ok (.ior, 1)) (k : Ex M d kc ks Q (pc + 1) lo (vI (x ||| y) :: st) g I L) : Ex M d kc ks Q pc lo (vI y :: vI x :: st) g I L := by
  intro D K b b0 SA p l e R s m args below meth c H locs cells slots mc ms ls C hc hs hz hS hl
  exact lv_ior C.1.1 C.1.2.1 hd (k D K b b0 SA p l e R s m args below meth c H locs cells slots mc ms ls C hc hs hz hS hl)
theorem Ex_ixor {x y : Int32} (hd : decode M.cc pc = .ok (.ixor, 1)) (k : Ex M d kc ks Q (pc + 1) lo (vI (x ^^^ y) :: st) g I L) : Ex M d kc ks Q pc lo (vI y :: vI x :: st) g I L := by
  intro D K b b0 SA p l e R s m args below meth c H locs cells slots mc ms ls C hc hs hz hS hl
  exact lv_ixor C.1.1 C.1.2.1 hd (k D K b b0 SA p l e R s m args below meth c H locs cells slots mc ms ls C hc hs hz hS hl)
theorem Ex_ishl {x y : Int32} (hd : decode M.cc pc = .ok (.ishl, 1)) (k : Ex M d kc ks Q (pc + 1) lo (vI (x <<< (y &&& 31)) :: st) g I L) : Ex M d kc ks Q pc lo (vI y :: vI x :: st) g I L := by
  intro D K b b0 SA p l e R s m args below meth c H locs cells slots mc ms ls C hc hs hz hS hl
  exact lv_ishl C.1.1 C.1.2.1 hd (k D K b b0 SA p l e R s m args below meth c H locs cells slots mc ms ls C hc hs hz hS hl)
theorem Ex_ishr {x y : Int32} (hd : decode M.cc pc = .ok (.ishr, 1)) (k : Ex M d kc ks Q (pc + 1) lo (vI (x >>> (y &&& 31)) :: st) g I L) : Ex M d kc ks Q pc lo (vI y :: vI x :: st) g I L := by
  intro D K b b0 SA p l e R s m args below meth c H locs cells slots mc ms ls C hc hs hz hS hl
  exact lv_ishr C.1.1 C.1.2.1 hd (k D K b b0 SA p l e R s m args below meth c H locs cells slots mc ms ls C hc hs hz hS hl)
theorem Ex_iushr {x y : Int32} (hd : decode M.cc pc = .ok (.iushr, 1)) (k : Ex M d kc ks Q (pc + 1) lo (vI (x.toUInt32 >>> (y.toUInt32 &&& Int32.toUInt32 31)).toInt32 :: st) g I L) : Ex M d kc ks Q pc lo (vI y :: vI x :: st) g I L := by
  intro D K b b0 SA p l e R s m args below meth c H locs cells slots mc ms ls C hc hs hz hS hl
  exact lv_iushr C.1.1 C.1.2.1 hd rfl (k D K b b0 SA p l e R s m args below meth c H locs cells slots mc ms ls C hc hs hz hS hl)
theorem Ex_iconst {n : Int} {v : Int32} (hd : decode M.cc pc = .ok (.iconst n, 1)) (hv : Int32.ofInt n = v) (k : Ex M d kc ks Q (pc + 1) lo (vI v :: st) g I L) : Ex M d kc ks Q pc lo st g I L := by
  intro D K b b0 SA p l e R s m args below meth c H locs cells slots mc ms ls C hc hs hz hS hl
  exact lv_iconst C.1.1 C.1.2.1 hd hv (k D K b b0 SA p l e R s m args below meth c H locs cells slots mc ms ls C hc hs hz hS hl)
theorem Ex_bipush {n : Int} {v : Int32} (hd : decode M.cc pc = .ok (.bipush n, 2)) (hv : (Int8.ofInt n).toInt32 = v) (k : Ex M d kc ks Q (pc + 2) lo (vI v :: st) g I L) : Ex M d kc ks Q pc lo st g I L := by
  intro D K b b0 SA p l e R s m args below meth c H locs cells slots mc ms ls C hc hs hz hS hl
  exact lv_bipush C.1.1 C.1.2.1 hd hv (k D K b b0 SA p l e R s m args below meth c H locs cells slots mc ms ls C hc hs hz hS hl)
theorem Ex_sipush {n : Int} {v : Int32} (hd : decode M.cc pc = .ok (.sipush n, 3)) (hv : (Int16.ofInt n).toInt32 = v) (k : Ex M d kc ks Q (pc + 3) lo (vI v :: st) g I L) : Ex M d kc ks Q pc lo st g I L := by
  intro D K b b0 SA p l e R s m args below meth c H locs cells slots mc ms ls C hc hs hz hS hl
  exact lv_sipush C.1.1 C.1.2.1 hd hv (k D K b b0 SA p l e R s m args below meth c H locs cells slots mc ms ls C hc hs hz hS hl)
theorem Ex_lconst {n : Fin 2} {v : Int64} (hd : decode M.cc pc = .ok (.lconst n, 1)) (hv : Int64.ofNat (n : Nat) = v) (k : Ex M d kc ks Q (pc + 1) lo (vJ v :: st) g I L) : Ex M d kc ks Q pc lo st g I L := by
  intro D K b b0 SA p l e R s m args below meth c H locs cells slots mc ms ls C hc hs hz hS hl
  exact lv_lconst C.1.1 C.1.2.1 hd hv (k D K b b0 SA p l e R s m args below meth c H locs cells slots mc ms ls C hc hs hz hS hl)
theorem Ex_i2l {x : Int32} (hd : decode M.cc pc = .ok (.i2l, 1)) (k : Ex M d kc ks Q (pc + 1) lo (vJ x.toInt64 :: st) g I L) : Ex M d kc ks Q pc lo (vI x :: st) g I L := by
  intro D K b b0 SA p l e R s m args below meth c H locs cells slots mc ms ls C hc hs hz hS hl
  exact lv_i2l C.1.1 C.1.2.1 hd rfl (k D K b b0 SA p l e R s m args below meth c H locs cells slots mc ms ls C hc hs hz hS hl)
theorem Ex_lcmp {x y : Int64} (hd : decode M.cc pc = .ok (.lcmp, 1)) (k : Ex M d kc ks Q (pc + 1) lo (vI (lg_cmp x y) :: st) g I L) : Ex M d kc ks Q pc lo (vJ y :: vJ x :: st) g I L := by
  intro D K b b0 SA p l e R s m args below meth c H locs cells slots mc ms ls C hc hs hz hS hl
  exact W.lcmp C.1.1 C.1.2.1 hd (k D K b b0 SA p l e R s m args below meth c H locs cells slots mc ms ls C hc hs hz hS hl)
theorem Ex_null (hd : decode M.cc pc = .ok (.aconst_null, 1)) (k : Ex M d kc ks Q (pc + 1) lo (vD none :: st) g I L) : Ex M d kc ks Q pc lo st g I L := by
  intro D K b b0 SA p l e R s m args below meth c H locs cells slots mc ms ls C hc hs hz hS hl
  exact lv_null C.1.1 C.1.2.1 hd (k D K b b0 SA p l e R s m args below meth c H locs cells slots mc ms ls C hc hs hz hS hl)
theorem Ex_ldc {n : Nat} {v : Int32} (hd : decode M.cc pc = .ok (.ldc n, 2)) (hv : (.constant M.y.cls n v : Cond) ∈ gT) (k : Ex M d kc ks Q (pc + 2) lo (vI v :: st) g I L) : Ex M d kc ks Q pc lo st g I L := by
  intro D K b b0 SA p l e R s m args below meth c H locs cells slots mc ms ls C hc hs hz hS hl
  exact lv_ldc C.1.1 C.1.2.1 C.1.2.2.2.2.2.1 (C.2.1 _ hv) hd (k D K b b0 SA p l e R s m args below meth c H locs cells slots mc ms ls C hc hs hz hS hl)
theorem Ex_ldc_w {n : Nat} {v : Int32} (hd : decode M.cc pc = .ok (.ldc_w n, 3)) (hv : (.constant M.y.cls n v : Cond) ∈ gT) (k : Ex M d kc ks Q (pc + 3) lo (vI v :: st) g I L) : Ex M d kc ks Q pc lo st g I L := by
  intro D K b b0 SA p l e R s m args below meth c H locs cells slots mc ms ls C hc hs hz hS hl
  intro T hT X
  obtain ⟨t, a1, b1⟩ := k D K b b0 SA p l e R s m args below meth c H locs cells slots mc ms ls C hc hs hz hS hl T hT X
  exact ⟨t, va_ldcwI X C.1.1 C.1.2.2.2.2.2.1 (C.2.1 _ hv) rfl (by rw [C.1.2.1]; exact hd) t a1, b1⟩
theorem cv_cat {ad : Nat → Nat} {v : aV} (h : ∀ x, v ≠ vJ x) : (cv ad v).category = 1 := by
  rcases v with x | i | r | x
  · rfl
  · rfl
  · cases r <;> rfl
  · exact absurd rfl (h x)
theorem Ex_dup {v : aV} (hn : ∀ x, v ≠ vJ x) (hd : decode M.cc pc = .ok (.dup, 1)) (k : Ex M d kc ks Q (pc + 1) lo (v :: v :: st) g I L) : Ex M d kc ks Q pc lo (v :: st) g I L := by
  intro D K b b0 SA p l e R s m args below meth c H locs cells slots mc ms ls C hc hs hz hS hl
  exact lv_dup C.1.1 C.1.2.1 hd (cv_cat hn) (k D K b b0 SA p l e R s m args below meth c H locs cells slots mc ms ls C hc hs hz hS hl)
theorem Ex_pop {v : aV} (hn : ∀ x, v ≠ vJ x) (hd : decode M.cc pc = .ok (.pop, 1)) (k : Ex M d kc ks Q (pc + 1) lo st g I L) : Ex M d kc ks Q pc lo (v :: st) g I L := by
  intro D K b b0 SA p l e R s m args below meth c H locs cells slots mc ms ls C hc hs hz hS hl
  exact lv_pop C.1.1 C.1.2.1 hd (cv_cat hn) (k D K b b0 SA p l e R s m args below meth c H locs cells slots mc ms ls C hc hs hz hS hl)
theorem Ex_dup2 {v w : aV} (hn : ∀ x, v ≠ vJ x) (hn2 : ∀ x, w ≠ vJ x) (hd : decode M.cc pc = .ok (.dup2, 1)) (k : Ex M d kc ks Q (pc + 1) lo (v :: w :: v :: w :: st) g I L) : Ex M d kc ks Q pc lo (v :: w :: st) g I L := by
  intro D K b b0 SA p l e R s m args below meth c H locs cells slots mc ms ls C hc hs hz hS hl
  exact lv_dup2_11 C.1.1 C.1.2.1 hd (cv_cat hn) (cv_cat hn2) (k D K b b0 SA p l e R s m args below meth c H locs cells slots mc ms ls C hc hs hz hS hl)
theorem Ex_goto {off : Int} {tgt : Nat} (hd : decode M.cc pc = .ok (.goto off, 3)) (ht : (pc : Int) + off = (tgt : Int)) (k : Ex M d kc ks Q tgt lo st g I L) : Ex M d kc ks Q pc lo st g I L := by
  intro D K b b0 SA p l e R s m args below meth c H locs cells slots mc ms ls C hc hs hz hS hl
  exact lv_goto C.1.1 C.1.2.1 hd ht (k D K b b0 SA p l e R s m args below meth c H locs cells slots mc ms ls C hc hs hz hS hl)
theorem Ex_iload_n {a : Fin 4} {x : Int32} (hd : decode M.cc pc = .ok (.iload_n a, 1)) (h : lo[(a : Nat)]? = some (some (vI x))) (k : Ex M d kc ks Q (pc + 1) lo (vI x :: st) g I L) : Ex M d kc ks Q pc lo st g I L := by
  intro D K b b0 SA p l e R s m args below meth c H locs cells slots mc ms ls C hc hs hz hS hl
  exact lv_iload_n C.1.1 C.1.2.1 hd rfl (hl.at h) (k D K b b0 SA p l e R s m args below meth c H locs cells slots mc ms ls C hc hs hz hS hl)
theorem Ex_iload {a : Nat} {x : Int32} (hd : decode M.cc pc = .ok (.iload a, 2)) (h : lo[a]? = some (some (vI x))) (k : Ex M d kc ks Q (pc + 2) lo (vI x :: st) g I L) : Ex M d kc ks Q pc lo st g I L := by
  intro D K b b0 SA p l e R s m args below meth c H locs cells slots mc ms ls C hc hs hz hS hl
  exact lv_iload C.1.1 C.1.2.1 hd (hl.at h) (k D K b b0 SA p l e R s m args below meth c H locs cells slots mc ms ls C hc hs hz hS hl)
theorem Ex_aload_nS {a : Fin 4} {i : Nat} (hd : decode M.cc pc = .ok (.aload_n a, 1)) (h : lo[(a : Nat)]? = some (some (vS i))) (k : Ex M d kc ks Q (pc + 1) lo (vS i :: st) g I L) : Ex M d kc ks Q pc lo st g I L := by
  intro D K b b0 SA p l e R s m args below meth c H locs cells slots mc ms ls C hc hs hz hS hl
  exact lv_aload_n C.1.1 C.1.2.1 hd rfl (hl.at h) (k D K b b0 SA p l e R s m args below meth c H locs cells slots mc ms ls C hc hs hz hS hl)
theorem Ex_aload_nD {a : Fin 4} {r : Option Nat} (hd : decode M.cc pc = .ok (.aload_n a, 1)) (h : lo[(a : Nat)]? = some (some (vD r))) (k : Ex M d kc ks Q (pc + 1) lo (vD r :: st) g I L) : Ex M d kc ks Q pc lo st g I L := by
  cases r with
  | none =>
    intro D K b b0 SA p l e R s m args below meth c H locs cells slots mc ms ls C hc hs hz hS hl
    exact lv_aload_nN C.1.1 C.1.2.1 hd rfl (hl.at h) (k D K b b0 SA p l e R s m args below meth c H locs cells slots mc ms ls C hc hs hz hS hl)
  | some i =>
    intro D K b b0 SA p l e R s m args below meth c H locs cells slots mc ms ls C hc hs hz hS hl
    exact lv_aload_n C.1.1 C.1.2.1 hd rfl (hl.at h) (k D K b b0 SA p l e R s m args below meth c H locs cells slots mc ms ls C hc hs hz hS hl)
theorem Ex_aloadS {a : Nat} {i : Nat} (hd : decode M.cc pc = .ok (.aload a, 2)) (h : lo[a]? = some (some (vS i))) (k : Ex M d kc ks Q (pc + 2) lo (vS i :: st) g I L) : Ex M d kc ks Q pc lo st g I L := by
  intro D K b b0 SA p l e R s m args below meth c H locs cells slots mc ms ls C hc hs hz hS hl
  exact lv_aload C.1.1 C.1.2.1 hd (hl.at h) (k D K b b0 SA p l e R s m args below meth c H locs cells slots mc ms ls C hc hs hz hS hl)
theorem Ex_aloadD {a : Nat} {r : Option Nat} (hd : decode M.cc pc = .ok (.aload a, 2)) (h : lo[a]? = some (some (vD r))) (k : Ex M d kc ks Q (pc + 2) lo (vD r :: st) g I L) : Ex M d kc ks Q pc lo st g I L := by
  cases r with
  | none =>
    intro D K b b0 SA p l e R s m args below meth c H locs cells slots mc ms ls C hc hs hz hS hl
    exact lv_aloadN C.1.1 C.1.2.1 hd (hl.at h) (k D K b b0 SA p l e R s m args below meth c H locs cells slots mc ms ls C hc hs hz hS hl)
  | some i =>
    intro D K b b0 SA p l e R s m args below meth c H locs cells slots mc ms ls C hc hs hz hS hl
    exact lv_aload C.1.1 C.1.2.1 hd (hl.at h) (k D K b b0 SA p l e R s m args below meth c H locs cells slots mc ms ls C hc hs hz hS hl)
theorem Ex_istore_n {a : Fin 4} {x : Int32} (hd : decode M.cc pc = .ok (.istore_n a, 1)) (hn : (a : Nat) < M.nL) (k : Ex M d kc ks Q (pc + 1) (lo.set (a : Nat) (some (vI x))) st g I L) : Ex M d kc ks Q pc lo (vI x :: st) g I L := by
  intro D K b b0 SA p l e R s m args below meth c H locs cells slots mc ms ls C hc hs hz hS hl
  exact lv_istore_n C.1.1 C.1.2.1 hd rfl hl.has hn rfl (fun ls' h' => k D K b b0 SA p l e R s m args below meth c H locs cells slots mc ms ls' C hc hs hz hS (hl.set (v := vI x) rfl h'))
theorem Ex_istore {a : Nat} {x : Int32} (hd : decode M.cc pc = .ok (.istore a, 2)) (hn : a < M.nL) (k : Ex M d kc ks Q (pc + 2) (lo.set a (some (vI x))) st g I L) : Ex M d kc ks Q pc lo (vI x :: st) g I L := by
  intro D K b b0 SA p l e R s m args below meth c H locs cells slots mc ms ls C hc hs hz hS hl
  exact lv_istore C.1.1 C.1.2.1 hd hl.has hn rfl (fun ls' h' => k D K b b0 SA p l e R s m args below meth c H locs cells slots mc ms ls' C hc hs hz hS (hl.set (v := vI x) rfl h'))
theorem Ex_astore_nS {a : Fin 4} {i : Nat} (hd : decode M.cc pc = .ok (.astore_n a, 1)) (hn : (a : Nat) < M.nL) (k : Ex M d kc ks Q (pc + 1) (lo.set (a : Nat) (some (vS i))) st g I L) : Ex M d kc ks Q pc lo (vS i :: st) g I L := by
  intro D K b b0 SA p l e R s m args below meth c H locs cells slots mc ms ls C hc hs hz hS hl
  exact lv_astore_n C.1.1 C.1.2.1 hd rfl hl.has hn rfl (fun ls' h' => k D K b b0 SA p l e R s m args below meth c H locs cells slots mc ms ls' C hc hs hz hS (hl.set (v := vS i) rfl h'))
theorem Ex_astore_nD {a : Fin 4} {r : Option Nat} (hd : decode M.cc pc = .ok (.astore_n a, 1)) (hn : (a : Nat) < M.nL) (k : Ex M d kc ks Q (pc + 1) (lo.set (a : Nat) (some (vD r))) st g I L) : Ex M d kc ks Q pc lo (vD r :: st) g I L := by
  cases r with
  | none =>
    intro D K b b0 SA p l e R s m args below meth c H locs cells slots mc ms ls C hc hs hz hS hl
    exact lv_astore_nN C.1.1 C.1.2.1 hd rfl hl.has hn rfl (fun ls' h' => k D K b b0 SA p l e R s m args below meth c H locs cells slots mc ms ls' C hc hs hz hS (hl.set (v := vD none) rfl h'))
  | some i =>
    intro D K b b0 SA p l e R s m args below meth c H locs cells slots mc ms ls C hc hs hz hS hl
    exact lv_astore_n C.1.1 C.1.2.1 hd rfl hl.has hn rfl (fun ls' h' => k D K b b0 SA p l e R s m args below meth c H locs cells slots mc ms ls' C hc hs hz hS (hl.set (v := vD (some i)) rfl h'))
theorem Ex_astoreS {a : Nat} {i : Nat} (hd : decode M.cc pc = .ok (.astore a, 2)) (hn : a < M.nL) (k : Ex M d kc ks Q (pc + 2) (lo.set a (some (vS i))) st g I L) : Ex M d kc ks Q pc lo (vS i :: st) g I L := by
  intro D K b b0 SA p l e R s m args below meth c H locs cells slots mc ms ls C hc hs hz hS hl
  exact lv_astore C.1.1 C.1.2.1 hd hl.has hn rfl (fun ls' h' => k D K b b0 SA p l e R s m args below meth c H locs cells slots mc ms ls' C hc hs hz hS (hl.set (v := vS i) rfl h'))
theorem Ex_astoreD {a : Nat} {r : Option Nat} (hd : decode M.cc pc = .ok (.astore a, 2)) (hn : a < M.nL) (k : Ex M d kc ks Q (pc + 2) (lo.set a (some (vD r))) st g I L) : Ex M d kc ks Q pc lo (vD r :: st) g I L := by
  cases r with
  | none =>
    intro D K b b0 SA p l e R s m args below meth c H locs cells slots mc ms ls C hc hs hz hS hl
    exact lv_astoreN C.1.1 C.1.2.1 hd hl.has hn rfl (fun ls' h' => k D K b b0 SA p l e R s m args below meth c H locs cells slots mc ms ls' C hc hs hz hS (hl.set (v := vD none) rfl h'))
  | some i =>
    intro D K b b0 SA p l e R s m args below meth c H locs cells slots mc ms ls C hc hs hz hS hl
    exact lv_astore C.1.1 C.1.2.1 hd hl.has hn rfl (fun ls' h' => k D K b b0 SA p l e R s m args below meth c H locs cells slots mc ms ls' C hc hs hz hS (hl.set (v := vD (some i)) rfl h'))
theorem Ex_iinc {a : Nat} {n : Int} {x v : Int32} (hd : decode M.cc pc = .ok (.iinc a n, 3)) (hv : Int32.ofInt n = v) (hn : a < M.nL) (h : lo[a]? = some (some (vI x))) (k : Ex M d kc ks Q (pc + 3) (lo.set a (some (vI (x + v)))) st g I L) : Ex M d kc ks Q pc lo st g I L := by
  intro D K b b0 SA p l e R s m args below meth c H locs cells slots mc ms ls C hc hs hz hS hl
  subst hv
  have hm : (a, Value.int x) ∈ qL (qa b b0) 0 lo := (qL_mem lo 0 _).mpr ⟨a, vI x, h, by rw [Nat.zero_add]; rfl⟩
  obtain ⟨j, hj⟩ := List.getElem?_of_mem hm
  exact lv_iinc C.1.1 C.1.2.1 hd hl.has hj rfl hn rfl (fun ls' h' => k D K b b0 SA p l e R s m args below meth c H locs cells slots mc ms ls' C hc hs hz hS (hl.set (v := vI (x + Int32.ofInt n)) rfl h'))
theorem Ex_if_eq {x : Int32} {off : Int} {tgt : Nat} (hd : decode M.cc pc = .ok (.ifCond .eq off, 3)) (ht : (pc : Int) + off = (tgt : Int)) (kt : x = 0 → Ex M d kc ks Q tgt lo st g I L) (kf : ¬ x = 0 → Ex M d kc ks Q (pc + 3) lo st g I L) : Ex M d kc ks Q pc lo (vI x :: st) g I L := by
  intro D K b b0 SA p l e R s m args below meth c H locs cells slots mc ms ls C hc hs hz hS hl
  exact lv_if_eq C.1.1 C.1.2.1 hd ht (fun q => kt q D K b b0 SA p l e R s m args below meth c H locs cells slots mc ms ls C hc hs hz hS hl) (fun q => kf q D K b b0 SA p l e R s m args below meth c H locs cells slots mc ms ls C hc hs hz hS hl)
theorem Ex_if_ne {x : Int32} {off : Int} {tgt : Nat} (hd : decode M.cc pc = .ok (.ifCond .ne off, 3)) (ht : (pc : Int) + off = (tgt : Int)) (kt : ¬ x = 0 → Ex M d kc ks Q tgt lo st g I L) (kf : x = 0 → Ex M d kc ks Q (pc + 3) lo st g I L) : Ex M d kc ks Q pc lo (vI x :: st) g I L := by
  intro D K b b0 SA p l e R s m args below meth c H locs cells slots mc ms ls C hc hs hz hS hl
  exact lv_if_ne C.1.1 C.1.2.1 hd ht (fun q => kt q D K b b0 SA p l e R s m args below meth c H locs cells slots mc ms ls C hc hs hz hS hl) (fun q => kf q D K b b0 SA p l e R s m args below meth c H locs cells slots mc ms ls C hc hs hz hS hl)
theorem Ex_if_lt {x : Int32} {off : Int} {tgt : Nat} (hd : decode M.cc pc = .ok (.ifCond .lt off, 3)) (ht : (pc : Int) + off = (tgt : Int)) (kt : x < 0 → Ex M d kc ks Q tgt lo st g I L) (kf : ¬ x < 0 → Ex M d kc ks Q (pc + 3) lo st g I L) : Ex M d kc ks Q pc lo (vI x :: st) g I L := by
  intro D K b b0 SA p l e R s m args below meth c H locs cells slots mc ms ls C hc hs hz hS hl
  exact lv_if_lt C.1.1 C.1.2.1 hd ht (fun q => kt q D K b b0 SA p l e R s m args below meth c H locs cells slots mc ms ls C hc hs hz hS hl) (fun q => kf q D K b b0 SA p l e R s m args below meth c H locs cells slots mc ms ls C hc hs hz hS hl)
theorem Ex_if_ge {x : Int32} {off : Int} {tgt : Nat} (hd : decode M.cc pc = .ok (.ifCond .ge off, 3)) (ht : (pc : Int) + off = (tgt : Int)) (kt : 0 ≤ x → Ex M d kc ks Q tgt lo st g I L) (kf : ¬ 0 ≤ x → Ex M d kc ks Q (pc + 3) lo st g I L) : Ex M d kc ks Q pc lo (vI x :: st) g I L := by
  intro D K b b0 SA p l e R s m args below meth c H locs cells slots mc ms ls C hc hs hz hS hl
  exact lv_if_ge C.1.1 C.1.2.1 hd ht (fun q => kt q D K b b0 SA p l e R s m args below meth c H locs cells slots mc ms ls C hc hs hz hS hl) (fun q => kf q D K b b0 SA p l e R s m args below meth c H locs cells slots mc ms ls C hc hs hz hS hl)
theorem Ex_if_gt {x : Int32} {off : Int} {tgt : Nat} (hd : decode M.cc pc = .ok (.ifCond .gt off, 3)) (ht : (pc : Int) + off = (tgt : Int)) (kt : 0 < x → Ex M d kc ks Q tgt lo st g I L) (kf : ¬ 0 < x → Ex M d kc ks Q (pc + 3) lo st g I L) : Ex M d kc ks Q pc lo (vI x :: st) g I L := by
  intro D K b b0 SA p l e R s m args below meth c H locs cells slots mc ms ls C hc hs hz hS hl
  exact lv_if_gt C.1.1 C.1.2.1 hd ht (fun q => kt q D K b b0 SA p l e R s m args below meth c H locs cells slots mc ms ls C hc hs hz hS hl) (fun q => kf q D K b b0 SA p l e R s m args below meth c H locs cells slots mc ms ls C hc hs hz hS hl)
theorem Ex_if_le {x : Int32} {off : Int} {tgt : Nat} (hd : decode M.cc pc = .ok (.ifCond .le off, 3)) (ht : (pc : Int) + off = (tgt : Int)) (kt : x ≤ 0 → Ex M d kc ks Q tgt lo st g I L) (kf : ¬ x ≤ 0 → Ex M d kc ks Q (pc + 3) lo st g I L) : Ex M d kc ks Q pc lo (vI x :: st) g I L := by
  intro D K b b0 SA p l e R s m args below meth c H locs cells slots mc ms ls C hc hs hz hS hl
  exact lv_if_le C.1.1 C.1.2.1 hd ht (fun q => kt q D K b b0 SA p l e R s m args below meth c H locs cells slots mc ms ls C hc hs hz hS hl) (fun q => kf q D K b b0 SA p l e R s m args below meth c H locs cells slots mc ms ls C hc hs hz hS hl)
theorem Ex_icmp_eq {x y : Int32} {off : Int} {tgt : Nat} (hd : decode M.cc pc = .ok (.if_icmp .eq off, 3)) (ht : (pc : Int) + off = (tgt : Int)) (kt : x = y → Ex M d kc ks Q tgt lo st g I L) (kf : ¬ x = y → Ex M d kc ks Q (pc + 3) lo st g I L) : Ex M d kc ks Q pc lo (vI y :: vI x :: st) g I L := by
  intro D K b b0 SA p l e R s m args below meth c H locs cells slots mc ms ls C hc hs hz hS hl
  exact lv_icmp_eq C.1.1 C.1.2.1 hd ht (fun q => kt q D K b b0 SA p l e R s m args below meth c H locs cells slots mc ms ls C hc hs hz hS hl) (fun q => kf q D K b b0 SA p l e R s m args below meth c H locs cells slots mc ms ls C hc hs hz hS hl)
theorem Ex_icmp_ne {x y : Int32} {off : Int} {tgt : Nat} (hd : decode M.cc pc = .ok (.if_icmp .ne off, 3)) (ht : (pc : Int) + off = (tgt : Int)) (kt : ¬ x = y → Ex M d kc ks Q tgt lo st g I L) (kf : x = y → Ex M d kc ks Q (pc + 3) lo st g I L) : Ex M d kc ks Q pc lo (vI y :: vI x :: st) g I L := by
  intro D K b b0 SA p l e R s m args below meth c H locs cells slots mc ms ls C hc hs hz hS hl
  exact lv_icmp_ne C.1.1 C.1.2.1 hd ht (fun q => kt q D K b b0 SA p l e R s m args below meth c H locs cells slots mc ms ls C hc hs hz hS hl) (fun q => kf q D K b b0 SA p l e R s m args below meth c H locs cells slots mc ms ls C hc hs hz hS hl)
theorem Ex_icmp_lt {x y : Int32} {off : Int} {tgt : Nat} (hd : decode M.cc pc = .ok (.if_icmp .lt off, 3)) (ht : (pc : Int) + off = (tgt : Int)) (kt : x < y → Ex M d kc ks Q tgt lo st g I L) (kf : ¬ x < y → Ex M d kc ks Q (pc + 3) lo st g I L) : Ex M d kc ks Q pc lo (vI y :: vI x :: st) g I L := by
  intro D K b b0 SA p l e R s m args below meth c H locs cells slots mc ms ls C hc hs hz hS hl
  exact lv_icmp_lt C.1.1 C.1.2.1 hd ht (fun q => kt q D K b b0 SA p l e R s m args below meth c H locs cells slots mc ms ls C hc hs hz hS hl) (fun q => kf q D K b b0 SA p l e R s m args below meth c H locs cells slots mc ms ls C hc hs hz hS hl)
theorem Ex_icmp_ge {x y : Int32} {off : Int} {tgt : Nat} (hd : decode M.cc pc = .ok (.if_icmp .ge off, 3)) (ht : (pc : Int) + off = (tgt : Int)) (kt : y ≤ x → Ex M d kc ks Q tgt lo st g I L) (kf : ¬ y ≤ x → Ex M d kc ks Q (pc + 3) lo st g I L) : Ex M d kc ks Q pc lo (vI y :: vI x :: st) g I L := by
  intro D K b b0 SA p l e R s m args below meth c H locs cells slots mc ms ls C hc hs hz hS hl
  exact lv_icmp_ge C.1.1 C.1.2.1 hd ht (fun q => kt q D K b b0 SA p l e R s m args below meth c H locs cells slots mc ms ls C hc hs hz hS hl) (fun q => kf q D K b b0 SA p l e R s m args below meth c H locs cells slots mc ms ls C hc hs hz hS hl)
theorem Ex_icmp_gt {x y : Int32} {off : Int} {tgt : Nat} (hd : decode M.cc pc = .ok (.if_icmp .gt off, 3)) (ht : (pc : Int) + off = (tgt : Int)) (kt : y < x → Ex M d kc ks Q tgt lo st g I L) (kf : ¬ y < x → Ex M d kc ks Q (pc + 3) lo st g I L) : Ex M d kc ks Q pc lo (vI y :: vI x :: st) g I L := by
  intro D K b b0 SA p l e R s m args below meth c H locs cells slots mc ms ls C hc hs hz hS hl
  exact lv_icmp_gt C.1.1 C.1.2.1 hd ht (fun q => kt q D K b b0 SA p l e R s m args below meth c H locs cells slots mc ms ls C hc hs hz hS hl) (fun q => kf q D K b b0 SA p l e R s m args below meth c H locs cells slots mc ms ls C hc hs hz hS hl)
theorem Ex_icmp_le {x y : Int32} {off : Int} {tgt : Nat} (hd : decode M.cc pc = .ok (.if_icmp .le off, 3)) (ht : (pc : Int) + off = (tgt : Int)) (kt : x ≤ y → Ex M d kc ks Q tgt lo st g I L) (kf : ¬ x ≤ y → Ex M d kc ks Q (pc + 3) lo st g I L) : Ex M d kc ks Q pc lo (vI y :: vI x :: st) g I L := by
  intro D K b b0 SA p l e R s m args below meth c H locs cells slots mc ms ls C hc hs hz hS hl
  exact lv_icmp_le C.1.1 C.1.2.1 hd ht (fun q => kt q D K b b0 SA p l e R s m args below meth c H locs cells slots mc ms ls C hc hs hz hS hl) (fun q => kf q D K b b0 SA p l e R s m args below meth c H locs cells slots mc ms ls C hc hs hz hS hl)
theorem Ex_ifnullS {i : Nat} {off : Int} (hd : decode M.cc pc = .ok (.ifnull off, 3)) (k : Ex M d kc ks Q (pc + 3) lo st g I L) : Ex M d kc ks Q pc lo (vS i :: st) g I L := by
  intro D K b b0 SA p l e R s m args below meth c H locs cells slots mc ms ls C hc hs hz hS hl
  exact lv_ifnull C.1.1 C.1.2.1 hd (k D K b b0 SA p l e R s m args below meth c H locs cells slots mc ms ls C hc hs hz hS hl)
theorem Ex_ifnullD {i : Nat} {off : Int} (hd : decode M.cc pc = .ok (.ifnull off, 3)) (k : Ex M d kc ks Q (pc + 3) lo st g I L) : Ex M d kc ks Q pc lo (vD (some i) :: st) g I L := by
  intro D K b b0 SA p l e R s m args below meth c H locs cells slots mc ms ls C hc hs hz hS hl
  exact lv_ifnull C.1.1 C.1.2.1 hd (k D K b b0 SA p l e R s m args below meth c H locs cells slots mc ms ls C hc hs hz hS hl)
theorem Ex_ifnullN {off : Int} {tgt : Nat} (hd : decode M.cc pc = .ok (.ifnull off, 3)) (ht : (pc : Int) + off = (tgt : Int)) (k : Ex M d kc ks Q tgt lo st g I L) : Ex M d kc ks Q pc lo (vD none :: st) g I L := by
  intro D K b b0 SA p l e R s m args below meth c H locs cells slots mc ms ls C hc hs hz hS hl
  exact lv_ifnullN C.1.1 C.1.2.1 hd ht (k D K b b0 SA p l e R s m args below meth c H locs cells slots mc ms ls C hc hs hz hS hl)
theorem Ex_ifnonnullS {i : Nat} {off : Int} {tgt : Nat} (hd : decode M.cc pc = .ok (.ifnonnull off, 3)) (ht : (pc : Int) + off = (tgt : Int)) (k : Ex M d kc ks Q tgt lo st g I L) : Ex M d kc ks Q pc lo (vS i :: st) g I L := by
  intro D K b b0 SA p l e R s m args below meth c H locs cells slots mc ms ls C hc hs hz hS hl
  exact lv_ifnonnull C.1.1 C.1.2.1 hd ht (k D K b b0 SA p l e R s m args below meth c H locs cells slots mc ms ls C hc hs hz hS hl)
theorem Ex_ifnonnullD {i : Nat} {off : Int} {tgt : Nat} (hd : decode M.cc pc = .ok (.ifnonnull off, 3)) (ht : (pc : Int) + off = (tgt : Int)) (k : Ex M d kc ks Q tgt lo st g I L) : Ex M d kc ks Q pc lo (vD (some i) :: st) g I L := by
  intro D K b b0 SA p l e R s m args below meth c H locs cells slots mc ms ls C hc hs hz hS hl
  exact lv_ifnonnull C.1.1 C.1.2.1 hd ht (k D K b b0 SA p l e R s m args below meth c H locs cells slots mc ms ls C hc hs hz hS hl)
theorem Ex_ifnonnullN {off : Int} (hd : decode M.cc pc = .ok (.ifnonnull off, 3)) (k : Ex M d kc ks Q (pc + 3) lo st g I L) : Ex M d kc ks Q pc lo (vD none :: st) g I L := by
  intro D K b b0 SA p l e R s m args below meth c H locs cells slots mc ms ls C hc hs hz hS hl
  exact lv_ifnonnullN C.1.1 C.1.2.1 hd (k D K b b0 SA p l e R s m args below meth c H locs cells slots mc ms ls C hc hs hz hS hl)
theorem Ex_tableOut {dflt l0 hi : Int} {offs : Array Int} {len : Nat} {x : Int32} {tgt : Nat} (hd : decode M.cc pc = .ok (.tableswitch dflt l0 hi offs, len)) (h : x.toInt < l0 ∨ hi < x.toInt) (ht : (pc : Int) + dflt = (tgt : Int)) (k : Ex M d kc ks Q tgt lo st g I L) : Ex M d kc ks Q pc lo (vI x :: st) g I L := by
  intro D K b b0 SA p l e R s m args below meth c H locs cells slots mc ms ls C hc hs hz hS hl
  exact lv_tableOut C.1.1 C.1.2.1 hd h ht (k D K b b0 SA p l e R s m args below meth c H locs cells slots mc ms ls C hc hs hz hS hl)
theorem Ex_tableIn {dflt l0 hi : Int} {offs : Array Int} {len : Nat} {x : Int32} {off : Int} {tgt : Nat} (hd : decode M.cc pc = .ok (.tableswitch dflt l0 hi offs, len)) (h1 : ¬ x.toInt < l0) (h2 : ¬ hi < x.toInt) (ho : offs[(x.toInt - l0).toNat]? = some off) (ht : (pc : Int) + off = (tgt : Int)) (k : Ex M d kc ks Q tgt lo st g I L) : Ex M d kc ks Q pc lo (vI x :: st) g I L := by
  intro D K b b0 SA p l e R s m args below meth c H locs cells slots mc ms ls C hc hs hz hS hl
  exact lv_tableIn C.1.1 C.1.2.1 hd h1 h2 ho ht (k D K b b0 SA p l e R s m args below meth c H locs cells slots mc ms ls C hc hs hz hS hl)
/-- ends -/
theorem Ex_ireturn {v : Int32} (hr : M.ret = some .int) (hd : decode M.cc pc = .ok (.ireturn, 1)) (hq : Q (.inl (some (vI v))) g I L) : Ex M d kc ks Q pc lo [vI v] g I L := by
  intro D K b b0 SA p l e R s m args below meth c H locs cells slots mc ms ls C hc hs hz hS hl
  refine W.widen (k := mc) (n := ms) (by omega) (by omega) (vx_ret ?_)
  have hlk := C.1.2.2.2.2.1
  exact W.iret (v := v) C.1.1 C.1.2.1 (C.1.2.2.2.1.trans hr) (fun t ht hW => ⟨⟨some (vI v), g, I, L, rfl, hq, by rw [ht]; exact hz⟩, hS.F ht⟩) hS.2.2 hd
theorem Ex_zreturn {v : Int32} (hr : M.ret = some .boolean) (hv : v = 0 ∨ v = 1) (hd : decode M.cc pc = .ok (.ireturn, 1)) (hq : Q (.inl (some (vI v))) g I L) : Ex M d kc ks Q pc lo [vI v] g I L := by
  intro D K b b0 SA p l e R s m args below meth c H locs cells slots mc ms ls C hc hs hz hS hl
  refine W.widen (k := mc) (n := ms) (by omega) (by omega) (vx_ret ?_)
  have hlk := C.1.2.2.2.2.1
  exact W.zret (v := v) C.1.1 C.1.2.1 (C.1.2.2.2.1.trans hr) (by rcases hv with rfl | rfl <;> rfl) (fun t ht hW => ⟨⟨some (vI v), g, I, L, rfl, hq, by rw [ht]; exact hz⟩, hS.F ht⟩) hS.2.2 hd
theorem Ex_return (hr : M.ret = none) (hd : decode M.cc pc = .ok (.return_, 1)) (hq : Q (.inl none) g I L) : Ex M d kc ks Q pc lo [] g I L := by
  intro D K b b0 SA p l e R s m args below meth c H locs cells slots mc ms ls C hc hs hz hS hl
  refine W.widen (k := mc) (n := ms) (by omega) (by omega) (vx_ret ?_)
  have hlk := C.1.2.2.2.2.1
  exact W.vret C.1.1 C.1.2.1 (C.1.2.2.2.1.trans hr) (fun t ht hW => ⟨⟨none, g, I, L, rfl, hq, by rw [ht]; exact hz⟩, hS.F ht⟩) hS.2.2 hd
theorem Ex_areturn {r : Option Nat} {C0 : String} (hr : M.ret = some (.object C0)) (hd : decode M.cc pc = .ok (.areturn, 1)) (hq : Q (.inl (some (vD r))) g I L) : Ex M d kc ks Q pc lo [vD r] g I L := by
  intro D K b b0 SA p l e R s m args below meth c H locs cells slots mc ms ls C hc hs hz hS hl
  refine W.widen (k := mc) (n := ms) (by omega) (by omega) (vx_ret ?_)
  have hlk := C.1.2.2.2.2.1
  exact W.aret (v := va_rf (r.map (qa b b0))) C.1.1 C.1.2.1 (C.1.2.2.2.1.trans hr) (Or.inl ⟨_, rfl⟩) (by cases r with | none => exact Or.inl rfl | some a => exact Or.inr ⟨_, rfl⟩) (fun t ht hW => ⟨⟨some (vD r), g, I, L, rfl, hq, by rw [ht]; exact hz⟩, hS.F ht⟩) hS.2.2 hd
theorem Ex_mono {Q' : aQ} (h : ∀ o g I L, Q' o g I L → Q o g I L) (k : Ex M d kc ks Q' pc lo st g I L) : Ex M d kc ks Q pc lo st g I L := by
  intro D K b b0 SA p l e R s m args below meth c H locs cells slots mc ms ls C hc hs hz hS hl
  intro T hT X
  obtain ⟨t, a1, o, b1, b2, b3⟩ := k D K b b0 SA p l e R s m args below meth c H locs cells slots mc ms ls C hc hs hz hS hl T hT X
  refine ⟨t, a1, o, b1, b2, ?_⟩
  rcases b3 with ⟨⟨⟨v, g', I', L', e1, e2, e3⟩, e4⟩, e5⟩ | ⟨q, e0, E, ce, L0, ⟨g', I', L', e1, e2, e3⟩, e4⟩
  · exact Or.inl ⟨⟨⟨v, g', I', L', e1, h _ _ _ _ e2, e3⟩, e4⟩, e5⟩
  · exact Or.inr ⟨q, e0, E, ce, L0, ⟨g', I', L', h _ _ _ _ e1, e2, e3⟩, e4⟩
end Rules
end
section
/-! fields and arrays -/
theorem qa_inj {b b0 i j : Nat} (h : b < b0) (e : qa b b0 i = qa b b0 j) : i = j := by
  cases i <;> cases j <;> simp only [qa] at e <;> omega
theorem qW : ∀ (ci : Nat) (q : vw_C), qC[ci]? = some q → ∀ w ∈ u_ws q.1 q.2.1 q.2.2, w ∈ gT := by
  intro ci q h
  match ci, h with
  | 0, h => cases h; exact gT_of gX1
  | 1, h => cases h; exact gT_of gX1
  | 2, h => cases h; exact gT_of gX2
  | 3, h => cases h; exact gT_of gX3
  | 4, h => cases h; exact gT_of gX4
  | 5, h => cases h; exact gT_of gX5
  | 6, h => cases h; exact gT_of gX6
  | 7, h => cases h; exact gT_of gX7
  | 8, h => cases h; exact gT_of gX8
  | 9, h => cases h; exact gT_of gX9
  | n + 10, h => simp at h
theorem qty_ok : ∀ (ci : Nat) (q : vw_C), qC[ci]? = some q → ∀ k, k < q.2.2 → parseFieldDescriptor (q.2.1 k).2.2.1 = some (qt ci k) := by
  intro ci q h
  match ci, h with
  | 0, h => cases h; exact tyX1_ok
  | 1, h => cases h; exact tyX1_ok
  | 2, h => cases h; exact tyX2_ok
  | 3, h => cases h; exact tyX3_ok
  | 4, h => cases h; exact tyX4_ok
  | 5, h => cases h; exact tyX5_ok
  | 6, h => cases h; exact tyX6_ok
  | 7, h => cases h; exact tyX7_ok
  | 8, h => cases h; exact tyX8_ok
  | 9, h => cases h; exact tyX9_ok
  | n + 10, h => simp at h
theorem qnm : ∀ (ci : Nat) (q : vw_C), qC[ci]? = some q → ∀ a, a < q.2.2 → ∀ b, b < q.2.2 → a ≠ b → (q.2.1 a).2.1 ≠ (q.2.1 b).2.1 := by
  intro ci q h
  match ci, h with
  | 0, h => cases h; exact nmX1
  | 1, h => cases h; exact nmX1
  | 2, h => cases h; exact nmX2
  | 3, h => cases h; exact nmX3
  | 4, h => cases h; exact nmX4
  | 5, h => cases h; exact nmX5
  | 6, h => cases h; exact nmX6
  | 7, h => cases h; exact nmX7
  | 8, h => cases h; exact nmX8
  | 9, h => cases h; exact nmX9
  | n + 10, h => simp at h
def fOk (M : aM) (idx ci k : Nat) : Prop := ∃ q : vw_C, qC[ci]? = some q ∧ k < q.2.2 ∧ Cond.fieldLink M.y.cls idx (q.2.1 k).1 (q.2.1 k).2.1 (q.2.1 k).2.2.1 ∈ gT
def fFin (ci k : Nat) : Bool := match qC[ci]? with
  | some q => (q.2.1 k).2.2.2
  | none => true
theorem qc_other {D : va_G} {K : FieldType → ClassId} {ad : Nat → Nat} {R R' : Nat → Nat → Option Nat} {I I' : aI} {L L' : aL} {H H1 : Heap} {j : Nat} {c : aSh} (hI : ∀ k, I' j k = I j k) (hR : ∀ k, R' j k = R j k) (hL : L' j = L j) (hH : H1[ad j]? = H[ad j]?) (h : qc D K ad R I L H j c) : qc D K ad R' I' L' H1 j c := by
  rcases c with ci | ⟨ty, n⟩
  · obtain ⟨r, h1, h2⟩ := h
    exact ⟨r, h1, (h2.kept hH).to (fun k _ => by simp only [qF, hI, hR])⟩
  · have h1 : H[ad j]? = some (arrV (K ty) n (qE ad I R L ty j)) := h
    have e : qE ad I' R' L' ty j = qE ad I R L ty j := by
      funext k
      cases ty <;> simp only [qE, hI, hR, hL]
    show H1[ad j]? = some (arrV (K ty) n (qE ad I' R' L' ty j))
    rw [e, hH]; exact h1
theorem qz.put {D : va_G} {K : FieldType → ClassId} {b b0 : Nat} {g : aG} {R' : Nat → Nat → Option Nat} {I I' : aI} {L L' : aL} {H H1 : Heap} {i : Nat} {c : aSh} (hz : qz D K b b0 g I L H) (hb : b < b0) (hi : g.2.1 i = some c) (hs : H1.size = H.size) (ho : ∀ q, q ≠ qa b b0 i → H1[q]? = H[q]?)
    (hI : ∀ j k, j ≠ i → I' j k = I j k) (hR : ∀ j k, j ≠ i → R' j k = g.2.2 j k) (hL : ∀ j, j ≠ i → L' j = L j) (hself : qc D K (qa b b0) R' I' L' H1 i c) : qz D K b b0 (g.1, g.2.1, R') I' L' H1 := by
  obtain ⟨⟨h1, h2, h3⟩, h4⟩ := hz
  refine ⟨⟨by rw [hs]; exact h1, h2, h3⟩, fun j c' hj => ?_⟩
  by_cases e : j = i
  · subst e
    have e2 : c' = c := Option.some.inj ((show g.2.1 j = some c' from hj).symm.trans hi)
    subst e2
    exact hself
  · exact qc_other (fun k => hI j k e) (fun k => hR j k e) (hL j e) (ho _ (fun q => e (qa_inj hb q))) (h4 j c' hj)
theorem qA_id {D : va_G} {K : FieldType → ClassId} {b b0 : Nat} {i : Nat} (h0 : i ≠ 0) : qA b0 (qa b b0 i) := by
  cases i with
  | zero => exact absurd rfl h0
  | succ i => exact Nat.le_add_right _ _
theorem va_Sput {A : Nat → Prop} {H0 H H1 : Heap} {locs : List Loc} {a k : Nat} (h : va_S A H0 H locs) (z : H1.size = H.size) (oq : ∀ q : Nat, q ≠ a → H1[q]? = H[q]?) (ha : A a) : va_S A H0 H1 (locs ++ [⟨a, k⟩]) := h.put z oq ha
section Heap
variable {M : aM} {d kc ks : Nat} {Q : aQ} {pc : Nat} {lo : List (Option aV)} {st : List aV} {g : aG} {I : aI} {L : aL}
theorem Ex_getI {i ci k idx : Nat} (fk : fOk M idx ci k) (hI : isI (qt ci k) = true) (hi : g.2.1 i = some (.inl ci)) (hd : decode M.cc pc = .ok (.getfield idx, 3)) (kk : Ex M d kc ks Q (pc + 3) lo (vI (I i k) :: st) g I L) : Ex M d kc ks Q pc lo (vS i :: st) g I L := by
  intro D K b b0 SA p l e R s m args below meth c H locs cells slots mc ms ls C hc hs hz hS hl
  obtain ⟨q, hq, hk, hw⟩ := fk
  obtain ⟨r, h1, cell, q1, q2, q3, q4⟩ := hz.2 i _ hi
  have hr : r = q := Option.some.inj (h1.symm.trans hq)
  subst hr
  obtain ⟨hS2, hfc, kC, hkC, hkind⟩ := C.2.2.2.2.2.2.1.1 ci _ hq
  obtain ⟨cf, kf, fi, f, hf, hsl⟩ := hS2 k hk
  refine W.getf C.1.1 C.1.2.1 C.1.2.2.2.2.2.1 (C.2.1 _ hw) hf (u_facts hfc hkC (u_lays C.2.1 (qW ci _ hq) hk) hf).1 q1 (by rw [q3]; exact fun h => by cases h) (v := .int (I i k)) ?_ rfl rfl hd (kk D K b b0 SA p l e R s m args below meth c H locs cells slots mc ms ls C hc hs hz hS hl)
  rw [hsl, q4 k hk]
  simp only [qF, hI, if_true]
theorem Ex_getR {i ci k idx : Nat} (fk : fOk M idx ci k) (hI : isI (qt ci k) = false) (hi : g.2.1 i = some (.inl ci)) (hd : decode M.cc pc = .ok (.getfield idx, 3)) (kk : Ex M d kc ks Q (pc + 3) lo (vD (g.2.2 i k) :: st) g I L) : Ex M d kc ks Q pc lo (vS i :: st) g I L := by
  intro D K b b0 SA p l e R s m args below meth c H locs cells slots mc ms ls C hc hs hz hS hl
  obtain ⟨q, hq, hk, hw⟩ := fk
  obtain ⟨r, h1, cell, q1, q2, q3, q4⟩ := hz.2 i _ hi
  have hr : r = q := Option.some.inj (h1.symm.trans hq)
  subst hr
  obtain ⟨hS2, hfc, kC, hkC, hkind⟩ := C.2.2.2.2.2.2.1.1 ci _ hq
  obtain ⟨cf, kf, fi, f, hf, hsl⟩ := hS2 k hk
  refine W.getf C.1.1 C.1.2.1 C.1.2.2.2.2.2.1 (C.2.1 _ hw) hf (u_facts hfc hkC (u_lays C.2.1 (qW ci _ hq) hk) hf).1 q1 (by rw [q3]; exact fun h => by cases h) (v := va_rf ((g.2.2 i k).map (qa b b0))) ?_ rfl rfl hd (kk D K b b0 SA p l e R s m args below meth c H locs cells slots mc ms ls C hc hs hz hS hl)
  rw [hsl, q4 k hk]
  simp [qF, hI]
/-- how a field's value fits: an int any; a boolean 0 or 1 -/
def fitI (ty : FieldType) (v : Int32) : Prop := match ty with
  | .boolean => v = 0 ∨ v = 1
  | _ => True
theorem fitI_n {ty : FieldType} {v : Int32} (hI : isI ty = true) (h : fitI ty v) : narrow ty (.int v) = .int v ∧ fits ty (.int v) = true := by
  cases ty <;> simp only [isI] at hI <;> first | contradiction | skip
  · exact ⟨rfl, rfl⟩
  · have h1 : v = 0 ∨ v = 1 := h
    rcases h1 with rfl | rfl <;> exact ⟨rfl, rfl⟩
def fPut (M : aM) (ci k : Nat) : Prop := fFin ci k = false ∨ (M.y.name = "<init>" ∧ ∃ q : vw_C, qC[ci]? = some q ∧ (q.2.1 k).1 = M.y.cls)
theorem W_put {D : va_G} {K : FieldType → ClassId} {b b0 : Nat} {SA : Nat → Nat} {p : Program} {l : Launch} {e : Env} {R : Room} {s : State} {m : MethodId} {args : Array Value} {below : List Frame} {meth : Method} {c : Code} {H : Heap} {locs : List Loc} {cells slots mc ms : Nat} {ls : Array Slot} {Z : State → Prop} {rest : List Value}
    {i ci k idx : Nat} {v : Value} (C : Cx D K b b0 SA M d p l R s m args meth c mc ms) (fk : fOk M idx ci k) (fp : fPut M ci k) (hn : narrow (qt ci k) v = v ∧ fits (qt ci k) v = true) (hz : qz D K b b0 g I L H) (hi : g.2.1 i = some (.inl ci)) (hd : decode M.cc pc = .ok (.putfield idx, 3))
    (kk : ∀ (H1 : Heap) (j : Nat) (r : vw_C), qC[ci]? = some r → t_OB (qa b b0 i) (D.1 ci) r.2.2 (D.2 ci) H1 (updV (qF (qa b b0) I g.2.2 ci i) k v) → H1.size = H.size → (∀ q, q ≠ qa b b0 i → H1[q]? = H[q]?) → W p l e R s m args below meth c H1 (locs ++ [⟨qa b b0 i, j⟩]) cells slots Z (F0 m (pc + 3) ls rest)) :
    W p l e R s m args below meth c H locs cells slots Z (F0 m pc ls (v :: .ref (qa b b0 i) :: rest)) := by
  obtain ⟨r, hq, hk, hw⟩ := fk
  obtain ⟨r', h1, cell, q1, q2, q3, q4⟩ := hz.2 i _ hi
  have hr : r' = r := Option.some.inj (h1.symm.trans hq)
  subst hr
  have hK1 := C.2.2.2.2.2.2.1.1 ci _ hq
  obtain ⟨hS2, hfc, kC, hkC, hkind⟩ := id hK1
  obtain ⟨cf, kf, fi, f, hf, hsl⟩ := hS2 k hk
  have hlay := C.2.1 _ (qW ci _ hq _ (u_in_lay hk))
  have hst := (u_facts hfc hkC (u_lays C.2.1 (qW ci _ hq) hk) hf).1
  have hap : ∀ x y, x < r'.2.2 → y < r'.2.2 → x ≠ y → (D.2 ci) x ≠ (D.2 ci) y := by
    intro x y hx hy hne
    obtain ⟨_, _, _, fa, hia, ea⟩ := hS2 x hx
    obtain ⟨_, _, _, fb, hib, eb⟩ := hS2 y hy
    rw [← ea, ← eb]
    refine u_apart (u_lays C.2.1 (qW ci _ hq) hx) (u_lays C.2.1 (qW ci _ hq) hy) hia hib ?_
    rw [(State.fieldFound?_type hia (qty_ok ci _ hq x hx)).1, (State.fieldFound?_type hib (qty_ok ci _ hq y hy)).1]
    exact qnm ci _ hq x hx y hy hne
  unfold u_lay at hlay
  by_cases hf2 : (r'.2.1 k).2.2.2 = true
  · rcases fp with fp | ⟨fp1, q9, fp2, fp3⟩
    · exact absurd hf2 (by simpa [fFin, hq] using fp)
    · have e9 : q9 = r' := Option.some.inj (fp2.symm.trans hq)
      subst e9
      rw [if_pos hf2] at hlay
      have hcf : m.cls = cf := by
        obtain ⟨_, _, c', _, _, _, -, -, hf', -, -, -, hown2, -⟩ := Cond.laysFinal_spec hlay
        have e1 : c' = cf := by have := hf.symm.trans hf'; simp at this; exact this.1.symm
        rw [fp3] at hown2
        rw [← e1]; exact Option.some.inj (C.1.2.2.2.2.2.1.symm.trans hown2)
      have h6 := u_fits hfc hkC hkind (Or.inr hlay) hf (qty_ok ci _ hq k hk) hn.1 hn.2
      refine W.putFinK C.1.1 C.1.2.1 C.1.2.2.2.2.2.1 (C.2.1 _ hw) hf hst hcf (C.1.2.2.2.2.2.2.trans fp1) (by rw [q2]; exact h6) q1 q3 (by rw [hsl]; exact k2_hasslot (q4 k hk)) rfl rfl hd fun H1 e1 e2 e3 => ?_
      rw [hsl] at e1
      exact kk H1 _ q9 hq ⟨_, e1, q2, q3, t_set q4 hap hk v⟩ e2 e3
  · rw [if_neg hf2] at hlay
    have h6 := u_store hfc hkC hkind hlay hf (qty_ok ci _ hq k hk) hn.1 hn.2
    refine W.putK C.1.1 C.1.2.1 (f := f) ⟨C.1.2.2.2.2.2.1, C.2.1 _ hw, ⟨_, _, _, hf⟩, hst⟩ (by rw [q2]; exact h6) q1 q3 (by rw [hsl]; exact k2_hasslot (q4 k hk)) rfl rfl hd fun H1 e1 e2 e3 => ?_
    rw [hsl] at e1
    exact kk H1 _ r' hq ⟨_, e1, q2, q3, t_set q4 hap hk v⟩ e2 e3
theorem Ex_putI {i ci k idx : Nat} {v : Int32} (fk : fOk M idx ci k) (fp : fPut M ci k) (hI : isI (qt ci k) = true) (hfit : fitI (qt ci k) v) (hi : g.2.1 i = some (.inl ci)) (h0 : i ≠ 0) (hd : decode M.cc pc = .ok (.putfield idx, 3)) (kk : Ex M d kc ks Q (pc + 3) lo st g (up2 I i k v) L) : Ex M d kc ks Q pc lo (vI v :: vS i :: st) g I L := by
  intro D K b b0 SA p l e R s m args below meth c H locs cells slots mc ms ls C hc hs hz hS hl
  refine W_put C fk fp (fitI_n hI hfit) hz hi hd fun H1 j0 r hq hob e2 e3 => ?_
  have hz' := hz.put (R' := g.2.2) (I' := up2 I i k v) (L' := L) C.2.2.2.2.2.1.1 hi e2 e3 (fun j m hj => by simp [up2, hj]) (fun _ _ _ => rfl) (fun _ _ => rfl)
    ⟨r, hq, hob.to (fun j _ => by
      by_cases hj : j = k
      · subst hj; simp [updV, qF, hI, up2]; rfl
      · simp [updV, qF, up2, hj])⟩
  exact kk D K b b0 SA p l e R s m args below meth c H1 _ cells slots mc ms ls C hc hs hz' (hS.put e2 e3 (qA_id (D := D) (K := K) h0)) hl
def isRt (ty : FieldType) : Bool := match ty with
  | .object _ => true
  | .array _ => true
  | _ => false
theorem isRt_n {ty : FieldType} (h : isRt ty = true) (r : Option Nat) : (narrow ty (va_rf r) = va_rf r ∧ fits ty (va_rf r) = true) ∧ isI ty = false := by
  cases ty <;> simp only [isRt] at h <;> first | contradiction | skip
  all_goals (cases r <;> exact ⟨⟨rfl, rfl⟩, rfl⟩)
theorem Ex_putR {i ci k idx : Nat} {x : Option Nat} (fk : fOk M idx ci k) (fp : fPut M ci k) (hI : isRt (qt ci k) = true) (hi : g.2.1 i = some (.inl ci)) (h0 : i ≠ 0) (hd : decode M.cc pc = .ok (.putfield idx, 3)) (kk : Ex M d kc ks Q (pc + 3) lo st (g.1, g.2.1, up2 g.2.2 i k x) I L) : Ex M d kc ks Q pc lo (vD x :: vS i :: st) g I L := by
  intro D K b b0 SA p l e R s m args below meth c H locs cells slots mc ms ls C hc hs hz hS hl
  refine W_put C fk fp (isRt_n hI (x.map (qa b b0))).1 hz hi hd fun H1 j0 r hq hob e2 e3 => ?_
  have hn := (isRt_n hI x).2
  have hz' := hz.put (R' := up2 g.2.2 i k x) (I' := I) (L' := L) C.2.2.2.2.2.1.1 hi e2 e3 (fun _ _ _ => rfl) (fun j m hj => by simp [up2, hj]) (fun _ _ => rfl)
    ⟨r, hq, hob.to (fun j _ => by
      by_cases hj : j = k
      · subst hj; simp [updV, qF, hn, up2]; rfl
      · simp [updV, qF, up2, hj])⟩
  exact kk D K b b0 SA p l e R s m args below meth c H1 _ cells slots mc ms ls C hc hs hz' (hS.put e2 e3 (qA_id (D := D) (K := K) h0)) hl
/-! arrays -/
theorem arr_at {D : va_G} {K : FieldType → ClassId} {b b0 : Nat} {H : Heap} (hz : qz D K b b0 g I L H) {i n : Nat} {ty : FieldType} (hi : g.2.1 i = some (.inr (ty, n))) : H[qa b b0 i]? = some (arrV (K ty) n (qE (qa b b0) I g.2.2 L ty i)) := hz.2 i _ hi
theorem arr_put {D : va_G} {K : FieldType → ClassId} {b b0 : Nat} {H H1 : Heap} {R' : Nat → Nat → Option Nat} {I' : aI} {L' : aL} (hz : qz D K b b0 g I L H) (hb : b < b0) {i n k : Nat} {ty : FieldType} {v : Value} (hi : g.2.1 i = some (.inr (ty, n))) (e : H1[qa b b0 i]? = some ((arrV (K ty) n (qE (qa b b0) I g.2.2 L ty i)).setSlot k v)) (hs : H1.size = H.size) (ho : ∀ q, q ≠ qa b b0 i → H1[q]? = H[q]?)
    (hI : ∀ j k, j ≠ i → I' j k = I j k) (hR : ∀ j k, j ≠ i → R' j k = g.2.2 j k) (hL : ∀ j, j ≠ i → L' j = L j) (hv : ∀ j, j < n → updV (qE (qa b b0) I g.2.2 L ty i) k v j = qE (qa b b0) I' R' L' ty i j) : qz D K b b0 (g.1, g.2.1, R') I' L' H1 := by
  refine hz.put hb hi hs ho hI hR hL ?_
  show H1[qa b b0 i]? = some (arrV (K ty) n (qE (qa b b0) I' R' L' ty i))
  rw [e, arrV_store]
  congr 1
  unfold arrV
  congr 1
  apply Array.ext_getElem?
  intro j
  by_cases hj : j < n
  · simp [hj, hv j hj]
  · simp [hj]
theorem Ex_iald {i n : Nat} {j : Int32} (hi : g.2.1 i = some (.inr (.int, n))) (hj : vp_in j n) (hd : decode M.cc pc = .ok (.iaload, 1)) (kk : Ex M d kc ks Q (pc + 1) lo (vI (I i j.toNatClampNeg) :: st) g I L) : Ex M d kc ks Q pc lo (vI j :: vS i :: st) g I L := by
  intro D K b b0 SA p l e R s m args below meth c H locs cells slots mc ms ls C hc hs hz hS hl
  have hlt : j.toNatClampNeg < n := Nat.not_le.mp fun q => hj (Or.inr q)
  exact W.iald (v := .int (I i j.toNatClampNeg)) C.1.1 C.1.2.1 (arr_at hz hi) ((C.2.2.2.2.2.2.1.2.1 .int (by simp [qTy])).1 n _) (fun q => by cases q) (by rw [arrV_size]; exact hj) (by rw [arrV_read _ _ hlt]; rfl) rfl rfl hd (kk D K b b0 SA p l e R s m args below meth c H locs cells slots mc ms ls C hc hs hz hS hl)
theorem Ex_zald {i n : Nat} {j : Int32} (hi : g.2.1 i = some (.inr (.boolean, n))) (hj : vp_in j n) (hd : decode M.cc pc = .ok (.baload, 1)) (kk : Ex M d kc ks Q (pc + 1) lo (vI (I i j.toNatClampNeg) :: st) g I L) : Ex M d kc ks Q pc lo (vI j :: vS i :: st) g I L := by
  intro D K b b0 SA p l e R s m args below meth c H locs cells slots mc ms ls C hc hs hz hS hl
  have hlt : j.toNatClampNeg < n := Nat.not_le.mp fun q => hj (Or.inr q)
  exact W.zald (v := .int (I i j.toNatClampNeg)) C.1.1 C.1.2.1 (arr_at hz hi) ((C.2.2.2.2.2.2.1.2.1 .boolean (by simp [qTy])).1 n _) (fun q => by cases q) (by rw [arrV_size]; exact hj) (by rw [arrV_read _ _ hlt]; rfl) rfl rfl hd (kk D K b b0 SA p l e R s m args below meth c H locs cells slots mc ms ls C hc hs hz hS hl)
theorem Ex_lald {i n : Nat} {j : Int32} (hi : g.2.1 i = some (.inr (.long, n))) (hj : vp_in j n) (hd : decode M.cc pc = .ok (.laload, 1)) (kk : Ex M d kc ks Q (pc + 1) lo (vJ (L i) :: st) g I L) : Ex M d kc ks Q pc lo (vI j :: vS i :: st) g I L := by
  intro D K b b0 SA p l e R s m args below meth c H locs cells slots mc ms ls C hc hs hz hS hl
  have hlt : j.toNatClampNeg < n := Nat.not_le.mp fun q => hj (Or.inr q)
  exact W.lald (v := .long (L i)) C.1.1 C.1.2.1 (arr_at hz hi) ((C.2.2.2.2.2.2.1.2.1 .long (by simp [qTy])).1 n _) (fun q => by cases q) (by rw [arrV_size]; exact hj) (by rw [arrV_read _ _ hlt]; rfl) rfl rfl hd (kk D K b b0 SA p l e R s m args below meth c H locs cells slots mc ms ls C hc hs hz hS hl)
theorem Ex_aald {i n : Nat} {j : Int32} {T0 : String} (hT : T0 = RX7 ∨ T0 = RX6) (hi : g.2.1 i = some (.inr (.object T0, n))) (hj : vp_in j n) (hd : decode M.cc pc = .ok (.aaload, 1)) (kk : Ex M d kc ks Q (pc + 1) lo (vD (g.2.2 i j.toNatClampNeg) :: st) g I L) : Ex M d kc ks Q pc lo (vI j :: vS i :: st) g I L := by
  intro D K b b0 SA p l e R s m args below meth c H locs cells slots mc ms ls C hc hs hz hS hl
  have hlt : j.toNatClampNeg < n := Nat.not_le.mp fun q => hj (Or.inr q)
  exact W.aald (v := va_rf ((g.2.2 i j.toNatClampNeg).map (qa b b0))) (ty := .object T0) C.1.1 C.1.2.1 (arr_at hz hi) ((C.2.2.2.2.2.2.1.2.1 (.object T0) (by rcases hT with rfl | rfl <;> simp [qTy])).1 n _) rfl (fun q => by cases q) (by rw [arrV_size]; exact hj) (by rw [arrV_read _ _ hlt]; rfl) rfl rfl hd (kk D K b b0 SA p l e R s m args below meth c H locs cells slots mc ms ls C hc hs hz hS hl)
theorem Ex_alen {i n : Nat} {ty : FieldType} (hT : ty ∈ qTy) (hi : g.2.1 i = some (.inr (ty, n))) (hd : decode M.cc pc = .ok (.arraylength, 1)) (kk : Ex M d kc ks Q (pc + 1) lo (vI (Int32.ofNat n) :: st) g I L) : Ex M d kc ks Q pc lo (vS i :: st) g I L := by
  intro D K b b0 SA p l e R s m args below meth c H locs cells slots mc ms ls C hc hs hz hS hl
  exact W.alen (n := Int32.ofNat n) C.1.1 C.1.2.1 (arr_at hz hi) ((C.2.2.2.2.2.2.1.2.1 ty hT).1 n _) (by rw [arrV_size] <;> rfl) rfl rfl hd (kk D K b b0 SA p l e R s m args below meth c H locs cells slots mc ms ls C hc hs hz hS hl)
theorem Ex_iast {i n : Nat} {j v : Int32} (hi : g.2.1 i = some (.inr (.int, n))) (h0 : i ≠ 0) (hj : vp_in j n) (hd : decode M.cc pc = .ok (.iastore, 1)) (kk : Ex M d kc ks Q (pc + 1) lo st g (up2 I i j.toNatClampNeg v) L) : Ex M d kc ks Q pc lo (vI v :: vI j :: vS i :: st) g I L := by
  intro D K b b0 SA p l e R s m args below meth c H locs cells slots mc ms ls C hc hs hz hS hl
  refine W.iast C.1.1 C.1.2.1 (arr_at hz hi) ((C.2.2.2.2.2.2.1.2.1 .int (by simp [qTy])).1 n _) (fun q => by cases q) (by rw [arrV_size]; exact hj) rfl rfl hd fun H1 e1 e2 e3 => ?_
  have hz' := arr_put (R' := g.2.2) (I' := up2 I i j.toNatClampNeg v) (L' := L) hz C.2.2.2.2.2.1.1 hi e1 e2 e3 (fun j m hj => by simp [up2, hj]) (fun _ _ _ => rfl) (fun _ _ => rfl) (fun m _ => by
    by_cases hm : m = j.toNatClampNeg
    · subst hm; simp [updV, qE, up2]
    · simp [updV, qE, up2, hm])
  exact kk D K b b0 SA p l e R s m args below meth c H1 _ cells slots mc ms ls C hc hs hz' (hS.put e2 e3 (qA_id (D := D) (K := K) h0)) hl
theorem Ex_zast {i n : Nat} {j v : Int32} (hi : g.2.1 i = some (.inr (.boolean, n))) (h0 : i ≠ 0) (hv : v = 0 ∨ v = 1) (hj : vp_in j n) (hd : decode M.cc pc = .ok (.bastore, 1)) (kk : Ex M d kc ks Q (pc + 1) lo st g (up2 I i j.toNatClampNeg v) L) : Ex M d kc ks Q pc lo (vI v :: vI j :: vS i :: st) g I L := by
  intro D K b b0 SA p l e R s m args below meth c H locs cells slots mc ms ls C hc hs hz hS hl
  have hn : narrow .boolean (.int v) = .int v := by rcases hv with rfl | rfl <;> rfl
  refine W.zast C.1.1 C.1.2.1 (arr_at hz hi) ((C.2.2.2.2.2.2.1.2.1 .boolean (by simp [qTy])).1 n _) (fun q => by cases q) (by rw [arrV_size]; exact hj) rfl rfl hd fun H1 e1 e2 e3 => ?_
  rw [hn] at e1
  have hz' := arr_put (R' := g.2.2) (I' := up2 I i j.toNatClampNeg v) (L' := L) hz C.2.2.2.2.2.1.1 hi e1 e2 e3 (fun j m hj => by simp [up2, hj]) (fun _ _ _ => rfl) (fun _ _ => rfl) (fun m _ => by
    by_cases hm : m = j.toNatClampNeg
    · subst hm; simp [updV, qE, up2]
    · simp [updV, qE, up2, hm])
  exact kk D K b b0 SA p l e R s m args below meth c H1 _ cells slots mc ms ls C hc hs hz' (hS.put e2 e3 (qA_id (D := D) (K := K) h0)) hl
theorem Ex_last {i : Nat} {j : Int32} {v : Int64} (hi : g.2.1 i = some (.inr (.long, 1))) (h0 : i ≠ 0) (hj : vp_in j 1) (hd : decode M.cc pc = .ok (.lastore, 1)) (kk : Ex M d kc ks Q (pc + 1) lo st g I (up1 L i v)) : Ex M d kc ks Q pc lo (vJ v :: vI j :: vS i :: st) g I L := by
  intro D K b b0 SA p l e R s m args below meth c H locs cells slots mc ms ls C hc hs hz hS hl
  have hlt : j.toNatClampNeg < 1 := Nat.not_le.mp fun q => hj (Or.inr q)
  refine W.last C.1.1 C.1.2.1 (arr_at hz hi) ((C.2.2.2.2.2.2.1.2.1 .long (by simp [qTy])).1 1 _) (fun q => by cases q) (by rw [arrV_size]; exact hj) rfl rfl hd fun H1 e1 e2 e3 => ?_
  have hz' := arr_put (R' := g.2.2) (I' := I) (L' := up1 L i v) hz C.2.2.2.2.2.1.1 hi e1 e2 e3 (fun _ _ _ => rfl) (fun _ _ _ => rfl) (fun j hj => by simp [up1, hj]) (fun m hm => by
    have h1 : m = j.toNatClampNeg := by omega
    subst h1
    simp [updV, qE, up1])
  exact kk D K b b0 SA p l e R s m args below meth c H1 _ cells slots mc ms ls C hc hs hz' (hS.put e2 e3 (qA_id (D := D) (K := K) h0)) hl
/-- an object of the right class into an array of objects -/
theorem Ex_aast {i n x ci : Nat} {j : Int32} {q : vw_C} (hq : qC[ci]? = some q) (hT : q.1 = RX7 ∨ q.1 = RX6) (hi : g.2.1 i = some (.inr (.object q.1, n))) (h0 : i ≠ 0) (hx : g.2.1 x = some (.inl ci)) (hj : vp_in j n) (hd : decode M.cc pc = .ok (.aastore, 1)) (kk : Ex M d kc ks Q (pc + 1) lo st (g.1, g.2.1, up2 g.2.2 i j.toNatClampNeg (some x)) I L) : Ex M d kc ks Q pc lo (vD (some x) :: vI j :: vS i :: st) g I L := by
  intro D K b b0 SA p l e R s m args below meth c H locs cells slots mc ms ls C hc hs hz hS hl
  have hlt : j.toNatClampNeg < n := Nat.not_le.mp fun q => hj (Or.inr q)
  have hj0 : ¬ j < 0 := fun q => hj (Or.inl q)
  obtain ⟨r', hr', cellV, g1, g2, g3, -⟩ := hz.2 x _ hx
  have hcls := (C.2.2.2.2.2.2.1.1 ci q hq).2
  obtain ⟨kA, comp, k1, k2, k3, -⟩ := (C.2.2.2.2.2.2.1.2.1 (.object q.1) (by rcases hT with h | h <;> rw [h] <;> simp [qTy])).2
  have hcomp : comp = D.1 ci := Option.some.inj (k3.symm.trans hcls.1)
  subst hcomp
  obtain ⟨kC, hkC, -⟩ := id hcls.2
  refine W.aast C.1.1 C.1.2.1 (arr_at hz hi) (fun q h => by cases h) (fun h => by cases h) k1 k2 rfl hkC ⟨hj0, by rw [arrV_size]; exact hlt⟩ g1 (fun q h => by rw [g3] at h; cases h) (by rw [g2]; exact hkC) (by rw [g2]; exact va_assign hcls) rfl rfl hd fun H1 e1 e2 e3 => ?_
  have hz' := arr_put (R' := up2 g.2.2 i j.toNatClampNeg (some x)) (I' := I) (L' := L) hz C.2.2.2.2.2.1.1 hi e1 e2 e3 (fun _ _ _ => rfl) (fun j m hj => by simp [up2, hj]) (fun _ _ => rfl) (fun m _ => by
    by_cases hm : m = j.toNatClampNeg
    · subst hm; simp [updV, qE, up2]; rfl
    · simp [updV, qE, up2, hm])
  exact kk D K b b0 SA p l e R s m args below meth c H1 _ cells slots mc ms ls C hc hs hz' (hS.put e2 e3 (qA_id (D := D) (K := K) h0)) hl
end Heap
end
section
/-! new cells -/
def g_add (g : aG) (c : aSh) : aG := (g.1 + 1, up1 g.2.1 g.1 (some c), fun j k => if j = g.1 then none else g.2.2 j k)
def I_add (g : aG) (I : aI) : aI := fun j k => if j = g.1 then 0 else I j k
def L_add (g : aG) (L : aL) : aL := fun j => if j = g.1 then 0 else L j
theorem qz.add {D : va_G} {K : FieldType → ClassId} {b b0 : Nat} {g : aG} {I : aI} {L : aL} {H H1 : Heap} {c : aSh} (hz : qz D K b b0 g I L H) (hb : b < b0) (hs : H1.size = H.size + 1) (ho : ∀ q, q < H.size → H1[q]? = H[q]?)
    (hself : qc D K (qa b b0) (g_add g c).2.2 (I_add g I) (L_add g L) H1 g.1 c) : qz D K b b0 (g_add g c) (I_add g I) (L_add g L) H1 := by
  obtain ⟨⟨h1, h2, h3⟩, h4⟩ := hz
  refine ⟨⟨?_, Nat.succ_pos _, fun i hi => ?_⟩, fun j c' hj => ?_⟩
  · show qa b b0 (g.1 + 1) = H1.size
    rw [hs, ← h1]
    obtain ⟨n, hn⟩ : ∃ n, g.1 = n + 1 := ⟨g.1 - 1, by omega⟩
    rw [hn]
    simp only [qa]
    omega
  · have hi' : g.1 + 1 ≤ i := hi
    show up1 g.2.1 g.1 (some c) i = none
    unfold up1
    rw [if_neg (by omega)]
    exact h3 i (by omega)
  · by_cases e : j = g.1
    · subst e
      have e2 : up1 g.2.1 g.1 (some c) g.1 = some c' := hj
      unfold up1 at e2
      rw [if_pos rfl] at e2
      cases e2
      exact hself
    · have e2 : up1 g.2.1 g.1 (some c) j = some c' := hj
      unfold up1 at e2
      rw [if_neg e] at e2
      have hq := h4 j c' e2
      refine qc_other (fun k => by simp [I_add, e]) (fun k => by simp [g_add, e]) (by simp [L_add, e]) (ho _ ?_) hq
      rcases c' with ci | ⟨ty, n⟩
      · obtain ⟨r, -, cell, q1, -⟩ := hq
        exact (Array.getElem?_eq_some_iff.mp q1).1
      · exact (Array.getElem?_eq_some_iff.mp (show H[qa b b0 j]? = some (arrV (K ty) n (qE (qa b b0) I g.2.2 L ty j)) from hq)).1
theorem va_Snew {A : Nat → Prop} {H0 H H1 : Heap} {locs : List Loc} (hS : va_S A H0 H locs) (hs : H1.size = H.size + 1) (ho : ∀ q, q < H.size → H1[q]? = H[q]?) : va_S A H0 H1 locs :=
  ⟨Nat.le_trans hS.1 (by omega), fun x h1 h2 => (ho x (Nat.lt_of_lt_of_le h1 hS.1)).trans (hS.2.1 x h1 h2), hS.2.2⟩
theorem qty_two : ∀ (ci : Nat) (q : vw_C), qC[ci]? = some q → ∀ k, k < q.2.2 → (isI (qt ci k) || isRt (qt ci k)) = true := by
  intro ci q h
  match ci, h with
  | 0, h => cases h; decide
  | 1, h => cases h; decide
  | 2, h => cases h; decide
  | 3, h => cases h; decide
  | 4, h => cases h; decide
  | 5, h => cases h; decide
  | 6, h => cases h; decide
  | 7, h => cases h; decide
  | 8, h => cases h; decide
  | 9, h => cases h; decide +kernel
  | n + 10, h => simp at h
section Alloc
variable {M : aM} {d kc ks : Nat} {Q : aQ} {pc : Nat} {lo : List (Option aV)} {st : List aV} {g : aG} {I : aI} {L : aL}
theorem Ex_new {ci idx : Nat} {q : vw_C} (hq : qC[ci]? = some q) (w1 : Cond.classLink M.y.cls idx q.1 ∈ gT) (w2 : Cond.instantiable q.1 q.2.2 ∈ gT) (w3 : Cond.initialized q.1 ∈ gT) (hd : decode M.cc pc = .ok (.new idx, 3))
    (kk : Ex M d kc ks Q (pc + 3) lo (vD (some g.1) :: st) (g_add g (.inl ci)) (I_add g I) (L_add g L)) : Ex M d (kc + 1) (ks + q.2.2) Q pc lo st g I L := by
  intro D K b b0 SA p l e R s m args below meth c H locs cells slots mc ms ls C hc hs hz hS hl
  have hKn := C.2.2.2.2.2.2.1.1 ci _ hq
  have hR := C.2.2.2.1
  refine W.newcK C.1.1 C.1.2.1 C.1.2.2.2.2.2.1 (C.2.1 _ w1) (C.2.1 _ w2) (C.2.1 _ w3) rfl hd (by omega) (by omega) hKn.2.1 hz.1.1.symm fun H1 kC hkC e1 e2 e3 => ?_
  have hz0 : H.size = qa b b0 g.1 := hz.1.1.symm
  rw [← hz0] at e2 e3
  have hb := u_born (qt ci) C.2.1 (qW ci _ hq) hKn hkC e1 (qty_ok ci _ hq)
  have hz' := hz.add (c := .inl ci) C.2.2.2.2.2.1.1 e2 e3 ⟨q, hq, hb.to (fun k hk => by
    unfold qF I_add g_add
    simp only [if_true]
    have h9 := qty_two ci q hq k hk
    cases h : qt ci k <;> rw [h] at h9 <;> first | rfl | (exact absurd h9 (by simp [isI, isRt])))⟩
  exact kk D K b b0 SA p l e R s m args below meth c H1 locs (cells + 1) (slots + q.2.2) mc ms ls C (by omega) (by omega) hz' (va_Snew hS e2 e3) hl
theorem Ex_newarr {aty : ArrayType} {ty : FieldType} {n : Int32} {N : Nat} (hty : newarray.typeOf aty = ty) (hT : ty = .int ∨ ty = .boolean ∨ ty = .long) (w1 : Cond.arrayClass ty ∈ gT) (hn : ¬ n < 0) (hN : n.toNatClampNeg = N) (hby : N * componentBytes ty ≤ 536870912) (hd : decode M.cc pc = .ok (.newarray aty, 2))
    (kk : Ex M d kc ks Q (pc + 2) lo (vD (some g.1) :: st) (g_add g (.inr (ty, N))) (I_add g I) (L_add g L)) : Ex M d (kc + 1) (ks + N) Q pc lo (vI n :: st) g I L := by
  intro D K b b0 SA p l e R s m args below meth c H locs cells slots mc ms ls C hc hs hz hS hl
  subst hty
  have hR := C.2.2.2.1
  refine va_newaK C.1.1 C.1.2.1 (C.2.1 _ w1) rfl hd rfl hn hN hby (by omega) (by omega) hz.1.1.symm fun H1 cA e1 e2 e3 hAr hNm => ?_
  have hz0 : H.size = qa b b0 g.1 := hz.1.1.symm
  rw [← hz0] at e2 e3
  have hm : newarray.typeOf aty ∈ qTy := by rcases hT with h | h | h <;> rw [h] <;> simp [qTy]
  have hKA := (C.2.2.2.2.2.2.1.2.1 _ hm).2
  have hcA : cA = K (newarray.typeOf aty) := by
    rcases hT with h | h | h <;> rw [h] at hKA hNm ⊢ <;> exact Option.some.inj (hNm.symm.trans hKA)
  have hz' := hz.add (c := .inr (newarray.typeOf aty, N)) C.2.2.2.2.2.1.1 e2 e3 (by
    show H1[qa b b0 g.1]? = some (arrV (K (newarray.typeOf aty)) N (qE (qa b b0) (I_add g I) (g_add g (.inr (newarray.typeOf aty, N))).2.2 (L_add g L) (newarray.typeOf aty) g.1))
    rw [e1, hcA]
    congr 2
    funext k
    rcases hT with h | h | h <;> rw [h] <;> simp [qE, I_add, L_add, defaultValue])
  exact kk D K b b0 SA p l e R s m args below meth c H1 locs (cells + 1) (slots + N) mc ms ls C (by omega) (by omega) hz' (va_Snew hS e2 e3) hl
theorem Ex_anew {T0 : String} {idx : Nat} {n : Int32} {N : Nat} (hT : T0 = RX7 ∨ T0 = RX6) (w1 : Cond.classLink M.y.cls idx T0 ∈ gT) (hn : ¬ n < 0) (hN : n.toNatClampNeg = N) (hby : N * 4 ≤ 536870912) (hd : decode M.cc pc = .ok (.anewarray idx, 3))
    (kk : Ex M d kc ks Q (pc + 3) lo (vD (some g.1) :: st) (g_add g (.inr (.object T0, N))) (I_add g I) (L_add g L)) : Ex M d (kc + 1) (ks + N) Q pc lo (vI n :: st) g I L := by
  intro D K b b0 SA p l e R s m args below meth c H locs cells slots mc ms ls C hc hs hz hS hl
  subst hN
  have hR := C.2.2.2.1
  have hKv := C.2.2.2.2.2.2.1
  have hAO : va_AO T0 s := by rcases hT with rfl | rfl; exact hKv.2.2.2.2.2.2.2.1; exact hKv.2.2.2.2.2.2.2.2
  refine W.anew C.1.1 C.1.2.1 C.1.2.2.2.2.2.1 (C.2.1 _ w1) (va_AO.use hAO) rfl hd rfl hn hby (by omega) (by omega) fun cA kA comp f1 f2 f3 f4 => ?_
  generalize hH1 : H.push ({ cls := cA, slots := Array.replicate n.toNatClampNeg .null, vm := .none } : Cell) = H1
  have e2 : H1.size = H.size + 1 := by rw [← hH1, Array.size_push]
  have e1 : H1[H.size]? = some (arrV cA n.toNatClampNeg (fun _ => .null)) := by rw [← hH1, Array.getElem?_push_size, ← arrV_new]
  have e3 : ∀ q : Nat, q < H.size → H1[q]? = H[q]? := fun q hq => by rw [← hH1, Array.getElem?_push, if_neg (Nat.ne_of_lt hq)]
  have hm : FieldType.object T0 ∈ qTy := by rcases hT with h | h <;> rw [h] <;> simp [qTy]
  obtain ⟨kA2, comp2, k1, k2, k3, k4⟩ := (hKv.2.1 _ hm).2
  have hcA : cA = K (.object T0) := Option.some.inj (f1.symm.trans k4)
  have hz' := hz.add (c := .inr (.object T0, n.toNatClampNeg)) C.2.2.2.2.2.1.1 e2 e3 (by
    show H1[qa b b0 g.1]? = some (arrV (K (.object T0)) n.toNatClampNeg (qE (qa b b0) (I_add g I) (g_add g (.inr (.object T0, n.toNatClampNeg))).2.2 (L_add g L) (.object T0) g.1))
    rw [hz.1.1, e1, hcA]
    congr 2
    funext k
    simp [qE, g_add, va_rf])
  have hk := kk D K b b0 SA p l e R s m args below meth c H1 locs (cells + 1) (slots + n.toNatClampNeg) mc ms ls C (by omega) (by omega) hz' (va_Snew hS e2 e3) hl
  have e9 : (Value.ref H.size :: st.map (cv (qa b b0))) = (vD (some g.1) :: st).map (cv (qa b b0)) := by
    show _ = Value.ref (qa b b0 g.1) :: _
    rw [hz.1.1]
  exact e9 ▸ hk
end Alloc
end
section
/-! methods and calls -/
def catS (v : aV) : Nat := match v with
  | .inr (.inr (.inr _)) => 2
  | _ => 1
def catL : List aV → Nat
  | [] => 0
  | v :: r => catS v + catL r
theorem catL_ok {ad : Nat → Nat} : ∀ st : List aV, ((st.map (cv ad)).map fun v => v.category).sum = catL st
  | [] => rfl
  | v :: r => by
    simp only [List.map_cons, List.sum_cons, catL]
    rw [catL_ok r]
    congr 1
    rcases v with x | i | r | x
    · rfl
    · rfl
    · cases r <;> rfl
    · rfl
theorem mP_blind {D : va_G} {K : FieldType → ClassId} {b b0 : Nat} {SA : Nat → Nat} {av : List aV} {g : aG} {I : aI} {L : aL} : FrameBlind (mP D K b b0 SA av g I L) := by
  intro a U gf mk h
  obtain ⟨h1, h2, h3, h4, h5⟩ := h
  exact ⟨h1, h2, h3, Kv.warm (s := U) (U := U.calling gf mk a) (State.WarmedH.refl U) h4, Kh.moved (s := U) (U := U.calling gf mk a) (Vm.Alike.refl U.vm) h5⟩
/-- an exception of class E lies over the method's frame -/
def Xx (M : aM) (d kc ks : Nat) (Q : aQ) (pc : Nat) (lo : List (Option aV)) (E : String) (g : aG) (I : aI) (L : aL) : Prop :=
  ∀ (D : va_G) (K : FieldType → ClassId) (b b0 : Nat) (SA : Nat → Nat) (p : Program) (l : Launch) (e : Env) (R : Room) (s : State) (m : MethodId) (args : Array Value) (below : List Frame) (meth : Method) (c : Code) (H : Heap) (locs : List Loc) (cells slots mc ms : Nat) (ls : Array Slot) (q9 : Addr) (ce : Cell) (rest : List Value),
    Cx D K b b0 SA M d p l R s m args meth c mc ms → cells + kc ≤ mc → slots + ks ≤ ms → qz D K b b0 g I L H → va_S (qA b0) s.heap H locs → lH (qa b b0) ls M.nL lo → H[q9]? = some ce → ce.vm = .none → s.vm.findClass E = some ce.cls →
    vx_W p l e R s m args below meth c H locs cells slots (vx_MQ below (qQ D K b b0 Q) (qX D K b b0 Q) args s mc ms (qA b0)) (F0 m pc ls rest) q9
theorem Xx_out {M : aM} {d kc ks : Nat} {Q : aQ} {pc : Nat} {lo : List (Option aV)} {E : String} {g : aG} {I : aI} {L : aL} (hh : M.hh = []) (hq : Q (.inr E) g I L) : Xx M d kc ks Q pc lo E g I L := by
  intro D K b b0 SA p l e R s m args below meth c H locs cells slots mc ms ls q9 ce rest C hc hs hz hS hl h1 h2 h3
  refine vx_out (fun x hx => ?_) C.1.2.2.2.2.1 h1 h2 h3 (fun t ht hA => ⟨g, I, L, hq, by rw [ht]; exact hz, hS.F ht⟩) hS.2.2 (by omega) (by omega)
  rw [C.2.2.2.2.1, hh] at hx
  simp [tableOf] at hx
section Calls
variable {M N : aM} {d d' kc ks kc' ks' : Nat} {Q Q' : aQ} {pc idx : Nat} {lo : List (Option aV)} {st As : List aV} {g : aG} {I : aI} {L : aL}
theorem qcall {D : va_G} {K : FieldType → ClassId} {b b0 : Nat} {p : Program} {l : Launch} {e : Env} {R : Room} {s : State} {m : MethodId} {args : Array Value} {below : List Frame} {meth : Method} {c : Code} {H : Heap} {locs : List Loc} {cells slots mc' ms' : Nat} {ls : Array Slot} {Z : State → Prop} {rest st0 : List Value} {a : Array Value}
    (hr : vx_Run p l e R s m args below meth c H locs cells slots mc' ms' (F0 m pc ls st0) rest (qQ D K b b0 Q' a) (qX D K b b0 Q') (qA b0)) (hS : va_S (qA b0) s.heap H locs)
    (kx : ∀ (E : String) (ce : Cell) (q9 : Addr) (g' : aG) (I' : aI) (L' : aL) (H1 : Heap) (locs1 : List Loc), Q' (.inr E) g' I' L' → qz D K b b0 g' I' L' H1 → va_S (qA b0) s.heap H1 locs1 → H1[q9]? = some ce → ce.vm = .none → s.vm.findClass E = some ce.cls → vx_W p l e R s m args below meth c H1 locs1 (cells + mc') (slots + ms') Z (F0 m pc ls rest) q9)
    (kk : ∀ (v : Option aV) (g' : aG) (I' : aI) (L' : aL) (H1 : Heap) (locs1 : List Loc), Q' (.inl v) g' I' L' → qz D K b b0 g' I' L' H1 → va_S (qA b0) s.heap H1 locs1 → W p l e R s m args below meth c H1 locs1 (cells + mc') (slots + ms') Z (F0 m (pc + 3) ls ((v.map (cv (qa b b0))).toList ++ rest))) :
    W p l e R s m args below meth c H locs cells slots Z (F0 m pc ls st0) := by
  intro T hT X
  rcases hr T hT X with ⟨v, st₀, t, T', L0, h0, X', hL, e1, e2, ⟨⟨v', g', I', L', hv, hp, hb⟩, hF⟩, st⟩ | ⟨q, st₀, t, T', L0, E, ce, h0, X', hL, e1, e2, ⟨g', I', L', hp, hb, hF⟩, hce, hcv, hcl, st⟩
  · have hv' : v = v'.map (cv (qa b b0)) := Outcome.returned.inj hv
    subst hv'
    obtain ⟨-, -, k3⟩ := vx_keep (free := qA b0) h0 e1 hS (fun q _ h => h) (fun q h => h) hL hF
    obtain ⟨t2, a1, b1⟩ := kk v' g' I' L' T'.heap (locs ++ L0) hp (by rw [e1]; exact hb) k3 T' rfl X'
    exact ⟨t2, st t2 a1, b1⟩
  · obtain ⟨-, -, k3⟩ := vx_keep (free := qA b0) h0 e1 hS (fun q _ h => h) (fun q h => h) hL hF
    obtain ⟨t2, a1, b1⟩ := kx E ce q g' I' L' T'.heap (locs ++ L0) hp (by rw [e1]; exact hb) k3 (by rw [e1]; exact hce) hcv hcl T' rfl X'
    exact ⟨t2, st.trans a1, b1⟩
theorem Cx.kh {D : va_G} {K : FieldType → ClassId} {b b0 : Nat} {SA : Nat → Nat} {p : Program} {l : Launch} {R : Room} {s : State} {m : MethodId} {args : Array Value} {meth : Method} {c : Code} {mc ms : Nat} {H : Heap} {locs : List Loc} {U : State} {av : List aV} (C : Cx D K b b0 SA M d p l R s m args meth c mc ms) (hz : qz D K b b0 g I L H) (hS : va_S (qA b0) s.heap H locs) (hU : U.heap = H) (hW : s.WarmedH U.vm) :
    mP D K b b0 SA av g I L (av.map (cv (qa b b0))).toArray U := by
  have h1 := C.2.2.2.2.2
  refine ⟨rfl, by rw [hU]; exact hz, ⟨h1.1.1, ?_⟩, Kv.warm hW h1.2.1, ?_⟩
  · rw [hU]; exact Nat.le_trans h1.1.2 hS.1
  · rw [hU]; exact Kh.moved hW.alike (h1.2.2.kept hS.2.1)
/-- what a call needs of the tables -/
def cOk (M N : aM) (idx n : Nat) : Prop :=
  (Cond.code N.y N.cc N.nL N.ret ∈ gT ∧ N.hh = []) ∧ Cond.initialized N.y.cls ∈ gT ∧ Cond.methodLink M.y.cls idx N.y ∈ gT ∧ N.nL ≤ 21 ∧ (N.y.cls ≠ "java/lang/invoke/MethodHandle" ∧ N.y.cls ≠ "java/lang/invoke/VarHandle" ∧ (parseMethodDescriptor N.y.desc).map (fun d => d.parameters.length) = some n)
theorem ws_in (hc : Cond.code N.y N.cc N.nL N.ret ∈ gT) (hh : N.hh = []) : GoodIn gT N.ws := by
  intro w hw
  unfold aM.ws at hw
  rw [if_pos hh] at hw
  rcases List.mem_cons.mp hw with rfl | h
  · exact gT_good _ hc
  · exact gT_good _ h
theorem Ex_callV {i ci : Nat} {q : vw_C} (ok : cOk M N idx As.length) (w1 : Cond.instanceMethod N.y ∈ gT) (w2 : Cond.selects N.y.cls N.y N.y ∈ gT) (hq : qC[ci]? = some q) (hq1 : q.1 = N.y.cls) (hi : g.2.1 i = some (.inl ci)) (hM : Mx N d' kc' ks' (vS i :: As) g I L Q') (hd' : d' + 1 ≤ d) (hst : catL st ≤ 8) (hd : decode M.cc pc = .ok (.invokevirtual idx, 3))
    (kk : ∀ v g' I' L', Q' (.inl v) g' I' L' → Ex M d kc ks Q (pc + 3) lo (v.toList ++ st) g' I' L') (kx : ∀ E g' I' L', Q' (.inr E) g' I' L' → Xx M d kc ks Q pc lo E g' I' L') : Ex M d (kc + kc') (ks + ks') Q pc lo (As.reverse ++ vS i :: st) g I L := by
  intro D K b b0 SA p l e R s m args below meth c H locs cells slots mc ms ls C hc hs hz hS hl
  obtain ⟨⟨hcw, hh⟩, hini, hln, hnL, hn1, hn2, hn3⟩ := ok
  have hR := C.2.2.2.1
  have cb : CallB R s args M.y.cls idx N.y N.cc N.nL N.ret N.ws (rm d' kc' ks') kc' ks' As.length := callB_of As.length C.2.1 (ws_in hcw hh) (by unfold aM.ws; rw [if_pos hh]) rfl rfl (C.2.1 _ hini) (C.2.1 _ hln) ⟨hn1, hn2, hn3⟩ ⟨Nat.le_trans hd' hR.1, by show 8 + (N.nL + 11) + 40 * d' ≤ R.locals; omega⟩
  obtain ⟨r', h1, cell, q1, q2, q3, -⟩ := hz.2 i _ hi
  have hfc := (C.2.2.2.2.2.2.1.1 ci q hq).2.1
  have hr := vx_runV (As := As.map (cv (qa b b0))) (rest := st.map (cv (qa b b0))) (b := qa b b0 i) (g := F0 m pc ls ((As.reverse ++ vS i :: st).map (cv (qa b b0)))) (H := H) (locs := locs) (cells := cells) (slots := slots) (meth := meth) (below := below) (e := e) ⟨C.1.1, C.1.2.1, C.1.2.2.1, C.1.2.2.2.2.2.1, C.2.1⟩ (hM D K b b0 SA l C.2.2.1) ⟨cb, C.2.1 _ w1, C.2.1 _ w2⟩
    ⟨mP_blind, ⟨cell, q1, by rw [q3]; rfl, by rw [q2, ← hq1]; exact hfc⟩, fun U hU hW => C.kh (av := vS i :: As) hz hS hU hW⟩ rfl (by rw [List.length_map]) hl.1 (by simp [cv]) (lv_room (by rw [catL_ok]; exact hst)) hd ⟨by omega, by omega⟩
  refine qcall hr hS (fun E ce q9 g' I' L' H1 locs1 hp hz1 hS1 hce hcv hcl => ?_) (fun v g' I' L' H1 locs1 hp hz1 hS1 => ?_)
  · exact kx E g' I' L' hp D K b b0 SA p l e R s m args below meth c H1 locs1 _ _ mc ms ls q9 ce _ C (by omega) (by omega) hz1 hS1 hl hce hcv hcl
  · have h9 := kk v g' I' L' hp D K b b0 SA p l e R s m args below meth c H1 locs1 (cells + kc') (slots + ks') mc ms ls C (by omega) (by omega) hz1 hS1 hl
    rw [List.map_append] at h9
    cases v <;> exact h9
theorem Ex_callS (ok : cOk M N idx As.length) (w1 : Cond.static N.y ∈ gT) (hM : Mx N d' kc' ks' As g I L Q') (hd' : d' + 1 ≤ d) (hst : catL st ≤ 8) (hd : decode M.cc pc = .ok (.invokestatic idx, 3))
    (kk : ∀ v g' I' L', Q' (.inl v) g' I' L' → Ex M d kc ks Q (pc + 3) lo (v.toList ++ st) g' I' L') (kx : ∀ E g' I' L', Q' (.inr E) g' I' L' → Xx M d kc ks Q pc lo E g' I' L') : Ex M d (kc + kc') (ks + ks') Q pc lo (As.reverse ++ st) g I L := by
  intro D K b b0 SA p l e R s m args below meth c H locs cells slots mc ms ls C hc hs hz hS hl
  obtain ⟨⟨hcw, hh⟩, hini, hln, hnL, hn1, hn2, hn3⟩ := ok
  have hR := C.2.2.2.1
  have cb : CallB R s args M.y.cls idx N.y N.cc N.nL N.ret N.ws (rm d' kc' ks') kc' ks' As.length := callB_of As.length C.2.1 (ws_in hcw hh) (by unfold aM.ws; rw [if_pos hh]) rfl rfl (C.2.1 _ hini) (C.2.1 _ hln) ⟨hn1, hn2, hn3⟩ ⟨Nat.le_trans hd' hR.1, by show 8 + (N.nL + 11) + 40 * d' ≤ R.locals; omega⟩
  have hr := vx_runS (As := As.map (cv (qa b b0))) (rest := st.map (cv (qa b b0))) (g := F0 m pc ls ((As.reverse ++ st).map (cv (qa b b0)))) (H := H) (locs := locs) (cells := cells) (slots := slots) (meth := meth) (below := below) (e := e) ⟨C.1.1, C.1.2.1, C.1.2.2.1, C.1.2.2.2.2.2.1, C.2.1⟩ (hM D K b b0 SA l C.2.2.1) ⟨cb, C.2.1 _ w1⟩
    ⟨mP_blind, fun U hU hW => C.kh (av := As) hz hS hU hW⟩ rfl (by rw [List.length_map]) hl.1 (by simp) (lv_room (by rw [catL_ok]; exact hst)) hd ⟨by omega, by omega⟩
  refine qcall hr hS (fun E ce q9 g' I' L' H1 locs1 hp hz1 hS1 hce hcv hcl => ?_) (fun v g' I' L' H1 locs1 hp hz1 hS1 => ?_)
  · exact kx E g' I' L' hp D K b b0 SA p l e R s m args below meth c H1 locs1 _ _ mc ms ls q9 ce _ C (by omega) (by omega) hz1 hS1 hl hce hcv hcl
  · have h9 := kk v g' I' L' hp D K b b0 SA p l e R s m args below meth c H1 locs1 (cells + kc') (slots + ks') mc ms ls C (by omega) (by omega) hz1 hS1 hl
    rw [List.map_append] at h9
    cases v <;> exact h9
/-- a static method with handlers (the law's own) -/
def hOk (M N : aM) (idx n : Nat) : Prop :=
  (Cond.codeWith N.y N.cc N.nL N.ret N.hh ∈ gT ∧ N.hh ≠ []) ∧ Cond.initialized N.y.cls ∈ gT ∧ Cond.methodLink M.y.cls idx N.y ∈ gT ∧ N.nL ≤ 21 ∧ (N.y.cls ≠ "java/lang/invoke/MethodHandle" ∧ N.y.cls ≠ "java/lang/invoke/VarHandle" ∧ (parseMethodDescriptor N.y.desc).map (fun d => d.parameters.length) = some n)
theorem Ex_callSH (ok : hOk M N idx As.length) (w1 : Cond.static N.y ∈ gT) (hM : Mx N d' kc' ks' As g I L Q') (hd' : d' + 1 ≤ d) (hst : catL st ≤ 8) (hd : decode M.cc pc = .ok (.invokestatic idx, 3))
    (kk : ∀ v g' I' L', Q' (.inl v) g' I' L' → Ex M d kc ks Q (pc + 3) lo (v.toList ++ st) g' I' L') (kx : ∀ E g' I' L', Q' (.inr E) g' I' L' → Xx M d kc ks Q pc lo E g' I' L') : Ex M d (kc + kc') (ks + ks') Q pc lo (As.reverse ++ st) g I L := by
  intro D K b b0 SA p l e R s m args below meth c H locs cells slots mc ms ls C hc hs hz hS hl
  obtain ⟨⟨hcw, hh⟩, hini, hln, hnL, hn1, hn2, hn3⟩ := ok
  have hR := C.2.2.2.1
  have hG : GoodIn gT N.ws := by
    intro w hw
    unfold aM.ws at hw
    rw [if_neg hh] at hw
    rcases List.mem_cons.mp hw with rfl | h
    · exact gT_good _ hcw
    · exact gT_good _ h
  have cb : vx_CSW R s args M.y.cls idx N.y N.cc N.nL N.ret N.hh N.ws (rm d' kc' ks') kc' ks' As.length := vx_cwSW As.length C.2.1 (by
    intro w hw
    unfold va_wsS at hw
    rcases List.mem_append.mp hw with h | h
    · simp only [List.mem_cons, List.not_mem_nil, or_false] at h
      rcases h with rfl | rfl | rfl
      · exact gT_good _ hln
      · exact gT_good _ w1
      · exact gT_good _ hini
    · exact hG w h) (by unfold aM.ws; rw [if_neg hh]) rfl rfl ⟨hn1, hn2, hn3⟩ ⟨Nat.le_trans hd' hR.1, by show 8 + (N.nL + 11) + 40 * d' ≤ R.locals; omega⟩
  have hr := vx_runSX (As := As.map (cv (qa b b0))) (rest := st.map (cv (qa b b0))) (g := F0 m pc ls ((As.reverse ++ st).map (cv (qa b b0)))) (H := H) (locs := locs) (cells := cells) (slots := slots) (meth := meth) (below := below) (e := e) ⟨C.1.1, C.1.2.1, C.1.2.2.1, C.1.2.2.2.2.2.1, C.2.1⟩ (hM D K b b0 SA l C.2.2.1) cb
    ⟨mP_blind, fun U hU hW => C.kh (av := As) hz hS hU hW⟩ rfl (by rw [List.length_map]) hl.1 (by simp) (lv_room (by rw [catL_ok]; exact hst)) hd ⟨by omega, by omega⟩
  refine qcall hr hS (fun E ce q9 g' I' L' H1 locs1 hp hz1 hS1 hce hcv hcl => ?_) (fun v g' I' L' H1 locs1 hp hz1 hS1 => ?_)
  · exact kx E g' I' L' hp D K b b0 SA p l e R s m args below meth c H1 locs1 _ _ mc ms ls q9 ce _ C (by omega) (by omega) hz1 hS1 hl hce hcv hcl
  · have h9 := kk v g' I' L' hp D K b b0 SA p l e R s m args below meth c H1 locs1 (cells + kc') (slots + ks') mc ms ls C (by omega) (by omega) hz1 hS1 hl
    rw [List.map_append] at h9
    cases v <;> exact h9
end Calls
end
section
/-! a method's entry, constructors, throws and catches -/
theorem lv_args_mem {ad : Nat → Nat} : ∀ (av : List aV) (k j : Nat) (v : aV), (∀ w ∈ av, ∀ x, w ≠ vJ x) → av[j]? = some v → (k + j, cv ad v) ∈ lv_args k (av.map (cv ad))
  | [], _, _, _, _, h => by simp at h
  | w :: r, k, j, v, hc, h => by
    have h1 : (cv ad w).category = 1 := cv_cat (hc w List.mem_cons_self)
    simp only [List.map_cons, lv_args]
    rw [if_neg (by rw [h1]; decide)]
    cases j with
    | zero =>
      rw [List.getElem?_cons_zero] at h
      cases h
      exact List.mem_cons_self
    | succ j =>
      rw [List.getElem?_cons_succ] at h
      have h2 := lv_args_mem (ad := ad) r (k + 1) j v (fun w hw => hc w (List.mem_cons_of_mem _ hw)) h
      rw [show k + (j + 1) = k + 1 + j by omega]
      exact List.mem_cons_of_mem _ h2
theorem lg_sl_len {ad : Nat → Nat} : ∀ (av : List aV), (∀ w ∈ av, ∀ x, w ≠ vJ x) → (lg_sl (av.map (cv ad))).length = av.length
  | [], _ => rfl
  | w :: r, hc => by
    have h1 : (cv ad w).category = 1 := cv_cat (hc w List.mem_cons_self)
    have h2 := lg_sl_len (ad := ad) r (fun w hw => hc w (List.mem_cons_of_mem _ hw))
    unfold lg_sl at h2 ⊢
    simp only [List.map_cons, List.flatMap_cons, h1]
    rw [List.length_append, h2]
    simp
    omega
def lo0 (av : List aV) (n : Nat) : List (Option aV) := av.map some ++ List.replicate (n - av.length) none
theorem lH_entry {ad : Nat → Nat} {av : List aV} (hc : ∀ w ∈ av, ∀ x, w ≠ vJ x) {n : Nat} (h : av.length ≤ n) : lH ad ((lg_sl (av.map (cv ad)) ++ List.replicate (n - (lg_sl (av.map (cv ad))).length) Slot.unset).toArray) n (lo0 av n) := by
  have h1 := lv_entry (av.map (cv ad)) (n := n) (by rw [lg_sl_len av hc]; exact h)
  refine ⟨h1.1, h1.2.1, fun k v hk => ?_⟩
  have hk2 : av[k]? = some v := by
    unfold lo0 at hk
    by_cases hl : k < av.length
    · rw [List.getElem?_append_left (by simpa using hl), List.getElem?_map] at hk
      cases h9 : av[k]? with
      | none => rw [h9] at hk; cases hk
      | some w => rw [h9] at hk; cases hk; rfl
    · rw [List.getElem?_append_right (by simpa using hl), List.getElem?_replicate] at hk
      split at hk <;> cases hk
  have h2 := lv_args_mem (ad := ad) av 0 k v hc hk2
  rw [Nat.zero_add] at h2
  exact ⟨cv_cat (hc v (List.mem_of_getElem? hk2)), h1.2.2 _ h2⟩
section Entry
variable {M N : aM} {d d' kc ks kc' ks' : Nat} {Q Q' : aQ} {pc idx : Nat} {lo : List (Option aV)} {st As av : List aV} {g : aG} {I : aI} {L : aL}
theorem Mx_of (hy : plainName M.y.cls = true) (hc : ∀ w ∈ av, ∀ x, w ≠ vJ x) (hn : av.length ≤ M.nL) (k : Ex M d kc ks Q 0 (lo0 av M.nL) [] g I L) : Mx M d kc ks av g I L Q := by
  intro D K b b0 SA l hl
  have main : ∀ (p : Program) (e : Env) (s : State) (m : MethodId) (args : Array Value) (below : List Frame) (meth : Method) (c : Code) (s₁ : State), BodyLoose p l M.y (headSpec M.ws (rm d kc ks)) M.cc M.nL M.ret e s m args below meth c s₁ → c.maxLocals = M.nL → c.exceptionTable.toList = tableOf M.hh → mP D K b b0 SA av g I L args s →
      W p l e (headSpec M.ws (rm d kc ks)).room s m args below meth c s.heap [] 0 0 (vx_MQ below (qQ D K b b0 Q) (qX D K b b0 Q) args s kc ks (qA b0)) (entryFrame m args M.nL) := by
    intro p e s m args below meth c s₁ B hml ht hP
    obtain ⟨rfl, hz, hb, hKv, hKh⟩ := hP
    have hts := atoms_spec (ws := M.ws) B.pre
    have C : Cx D K b b0 SA M d p l (rm d kc ks) s m (av.map (cv (qa b b0))).toArray meth c kc ks :=
      ⟨⟨B.exec, B.bytes, hml, B.returns, B.notSynchronized, findClass_of_methodNamed B.named, (name_of_methodNamed B.named B.method).1⟩, fun w hw => hts w (List.mem_cons_of_mem _ hw), hl, ⟨Nat.le_refl _, Nat.le_refl _, Nat.le_refl _, Nat.le_refl _⟩, ht, hb, hKv, hKh⟩
    rw [lg_entry_eq]
    exact k D K b b0 SA p l e (rm d kc ks) s m _ below meth c s.heap [] 0 0 kc ks _ C (by omega) (by omega) hz va_S.rf (lH_entry hc hn)
  by_cases hh : M.hh = []
  · refine vx_ofW (cc := M.cc) (maxL := M.nL) (ret := M.ret) (ws' := gT) hy (by unfold aM.ws; rw [if_pos hh]) ?_
    intro p e s m args below meth c s₁ B hml ht hP
    refine main p e s m args below meth c s₁ B hml ?_ hP
    rw [hh]
    cases h9 : c.exceptionTable.toList with
    | nil => rfl
    | cons x r => rw [h9] at ht; exact absurd (ht x List.mem_cons_self) id
  · refine vx_ofWH (cc := M.cc) (maxL := M.nL) (ret := M.ret) (hh := M.hh) (ws' := gT) hy (by unfold aM.ws; rw [if_neg hh]) ?_
    intro p e s m args below meth c s₁ B hml hP
    refine main p e s m args below meth c s₁ B hml ?_ hP
    have hts := atoms_spec (ws := M.ws) B.pre
    exact vx_table (x := M.y) B (hts _ (by unfold aM.ws; rw [if_neg hh]; exact List.mem_cons_self))
theorem Mx_mono (h : ∀ o g I L, Q' o g I L → Q o g I L) (k : Mx M d kc ks av g I L Q') : Mx M d kc ks av g I L Q := by
  intro D K b b0 SA l hl p e ha hc hk s m args below hf happ hP hK
  obtain ⟨t, o, h1, h2, h3, h4⟩ := k D K b b0 SA l hl p e ha hc hk s m args below hf happ hP hK
  refine ⟨t, o, h1, h2, h3, ?_⟩
  rcases h4 with ⟨⟨⟨v, g', I', L', e1, e2, e3⟩, e4⟩, e5⟩ | ⟨q, e0, E, ce, L0, ⟨g', I', L', e1, e2, e3⟩, e4⟩
  · exact Or.inl ⟨⟨⟨v, g', I', L', e1, h _ _ _ _ e2, e3⟩, e4⟩, e5⟩
  · exact Or.inr ⟨q, e0, E, ce, L0, ⟨g', I', L', h _ _ _ _ e1, e2, e3⟩, e4⟩
theorem Mx_met (hx : ∀ E g I L, ¬ Q (.inr E) g I L) (k : Mx M d kc ks av g I L Q) (D : va_G) (K : FieldType → ClassId) (b b0 : Nat) (SA : Nat → Nat) (l : Launch) (hl : l.stackTraces = false) : Met l M.y M.ws (rm d kc ks) (mP D K b b0 SA av g I L) (qQ D K b b0 Q) kc ks (qA b0) := by
  intro p e ha hc hk s m args below hf happ hP hK
  obtain ⟨t, o, h1, h2, h3, h4⟩ := k D K b b0 SA l hl p e ha hc hk s m args below hf happ hP hK
  refine ⟨t, o, h1, h2, h3, ?_⟩
  rcases h4 with h4 | ⟨q, e0, E, ce, L0, ⟨g', I', L', e1, e2, e3⟩, e4⟩
  · exact h4
  · exact absurd e1 (hx _ _ _ _)
theorem qcallM {D : va_G} {K : FieldType → ClassId} {b b0 : Nat} {p : Program} {l : Launch} {e : Env} {R : Room} {s : State} {m : MethodId} {args : Array Value} {below : List Frame} {meth : Method} {c : Code} {H : Heap} {locs : List Loc} {cells slots mc' ms' : Nat} {ls : Array Slot} {Z : State → Prop} {rest st0 : List Value} {a : Array Value}
    (hr : va_Run p l e R s m args below meth c H locs cells slots mc' ms' (F0 m pc ls st0) rest (qQ D K b b0 Q' a) (qA b0)) (hS : va_S (qA b0) s.heap H locs)
    (kk : ∀ (v : Option aV) (g' : aG) (I' : aI) (L' : aL) (H1 : Heap) (locs1 : List Loc), Q' (.inl v) g' I' L' → qz D K b b0 g' I' L' H1 → va_S (qA b0) s.heap H1 locs1 → W p l e R s m args below meth c H1 locs1 (cells + mc') (slots + ms') Z (F0 m (pc + 3) ls ((v.map (cv (qa b b0))).toList ++ rest))) :
    W p l e R s m args below meth c H locs cells slots Z (F0 m pc ls st0) := by
  intro T hT X
  obtain ⟨v, st₀, t, T', L0, h0, X', hL, e1, e2, ⟨⟨v', g', I', L', hv, hp, hb⟩, hF⟩, st⟩ := hr T hT X
  have hv' : v = v'.map (cv (qa b b0)) := Outcome.returned.inj hv
  subst hv'
  obtain ⟨-, -, k3⟩ := vx_keep (free := qA b0) h0 e1 hS (fun q _ h => h) (fun q h => h) hL hF
  obtain ⟨t2, a1, b1⟩ := kk v' g' I' L' T'.heap (locs ++ L0) hp (by rw [e1]; exact hb) k3 T' rfl X'
  exact ⟨t2, st t2 a1, b1⟩
/-- a constructor -/
theorem Ex_callI {i : Nat} (ok : cOk M N idx As.length) (hr0 : N.ret = none) (hy1 : N.y.name = "<init>") (w1 : Cond.instanceMethod N.y ∈ gT) (hM : Mx N d' kc' ks' (vD (some i) :: As) g I L Q') (hx : ∀ E g I L, ¬ Q' (.inr E) g I L) (hd' : d' + 1 ≤ d) (hst : catL st ≤ 8) (hd : decode M.cc pc = .ok (.invokespecial idx, 3))
    (kk : ∀ v g' I' L', Q' (.inl v) g' I' L' → Ex M d kc ks Q (pc + 3) lo (v.toList ++ st) g' I' L') : Ex M d (kc + kc') (ks + ks') Q pc lo (As.reverse ++ vD (some i) :: st) g I L := by
  intro D K b b0 SA p l e R s m args below meth c H locs cells slots mc ms ls C hc hs hz hS hl
  obtain ⟨⟨hcw, hh⟩, hini, hln, hnL, hn1, hn2, hn3⟩ := ok
  have hR := C.2.2.2.1
  rw [hr0] at hcw
  have cb : CallB R s args M.y.cls idx N.y N.cc N.nL none N.ws (rm d' kc' ks') kc' ks' As.length := callB_of As.length C.2.1 (ws_in (by rw [hr0]; exact hcw) hh) (by unfold aM.ws; rw [if_pos hh, hr0]) rfl rfl (C.2.1 _ hini) (C.2.1 _ hln) ⟨hn1, hn2, hn3⟩ ⟨Nat.le_trans hd' hR.1, by show 8 + (N.nL + 11) + 40 * d' ≤ R.locals; omega⟩
  have hr := va_runI (As := As.map (cv (qa b b0))) (rest := st.map (cv (qa b b0))) (b := qa b b0 i) (g := F0 m pc ls ((As.reverse ++ vD (some i) :: st).map (cv (qa b b0)))) (H := H) (locs := locs) (cells := cells) (slots := slots) (meth := meth) (below := below) (e := e) ⟨C.1.1, C.1.2.1, C.1.2.2.1, C.1.2.2.2.2.2.1, C.2.1⟩ (Mx_met hx hM D K b b0 SA l C.2.2.1) ⟨cb, hy1, C.2.1 _ w1⟩
    ⟨mP_blind, fun U hU hW => C.kh (av := vD (some i) :: As) hz hS hU hW⟩ rfl (by rw [List.length_map]) hl.1 (by simp [cv, va_rf]) (lv_room (by rw [catL_ok]; exact hst)) hd ⟨by omega, by omega⟩
  refine qcallM hr hS (fun v g' I' L' H1 locs1 hp hz1 hS1 => ?_)
  have h9 := kk v g' I' L' hp D K b b0 SA p l e R s m args below meth c H1 locs1 (cells + kc') (slots + ks') mc ms ls C (by omega) (by omega) hz1 hS1 hl
  rw [List.map_append] at h9
  cases v <;> exact h9
/-- a nest mate's private constructor -/
theorem Ex_callIN {i : Nat} (hcw : Cond.code N.y N.cc N.nL none ∈ gT) (hh : N.hh = []) (hini : Cond.initialized N.y.cls ∈ gT) (hln : (M.y.cls, idx, N.y) ∈ qNest) (hnL : N.nL ≤ 21) (hn : N.y.cls ≠ "java/lang/invoke/MethodHandle" ∧ N.y.cls ≠ "java/lang/invoke/VarHandle" ∧ (parseMethodDescriptor N.y.desc).map (fun d => d.parameters.length) = some As.length)
    (hr0 : N.ret = none) (hy1 : N.y.name = "<init>") (w1 : Cond.instanceMethod N.y ∈ gT) (hM : Mx N d' kc' ks' (vD (some i) :: As) g I L Q') (hx : ∀ E g I L, ¬ Q' (.inr E) g I L) (hd' : d' + 1 ≤ d) (hst : catL st ≤ 8) (hd : decode M.cc pc = .ok (.invokespecial idx, 3))
    (kk : ∀ v g' I' L', Q' (.inl v) g' I' L' → Ex M d kc ks Q (pc + 3) lo (v.toList ++ st) g' I' L') : Ex M d (kc + kc') (ks + ks') Q pc lo (As.reverse ++ vD (some i) :: st) g I L := by
  intro D K b b0 SA p l e R s m args below meth c H locs cells slots mc ms ls C hc hs hz hS hl
  have hR := C.2.2.2.1
  have cb : va_CN R s args M.y.cls idx N.y RX8 N.cc N.nL none N.ws (rm d' kc' ks') kc' ks' As.length := va_cnB As.length C.2.1 (ws_in (by rw [hr0]; exact hcw) hh) (by unfold aM.ws; rw [if_pos hh, hr0]) rfl rfl (C.2.2.2.2.2.2.1.2.2.2.1 _ hln) (C.2.1 _ hini) hn ⟨Nat.le_trans hd' hR.1, by show 8 + (N.nL + 11) + 40 * d' ≤ R.locals; omega⟩
  have hr := va_runIN (As := As.map (cv (qa b b0))) (rest := st.map (cv (qa b b0))) (b := qa b b0 i) (g := F0 m pc ls ((As.reverse ++ vD (some i) :: st).map (cv (qa b b0)))) (H := H) (locs := locs) (cells := cells) (slots := slots) (meth := meth) (below := below) (e := e) ⟨C.1.1, C.1.2.1, C.1.2.2.1, C.1.2.2.2.2.2.1, C.2.1⟩ (Mx_met hx hM D K b b0 SA l C.2.2.1) ⟨cb, hy1, C.2.1 _ w1⟩
    ⟨mP_blind, fun U hU hW => C.kh (av := vD (some i) :: As) hz hS hU hW⟩ rfl (by rw [List.length_map]) hl.1 (by simp [cv, va_rf]) (lv_room (by rw [catL_ok]; exact hst)) hd ⟨by omega, by omega⟩
  refine qcallM hr hS (fun v g' I' L' H1 locs1 hp hz1 hS1 => ?_)
  have h9 := kk v g' I' L' hp D K b b0 SA p l e R s m args below meth c H1 locs1 (cells + kc') (slots + ks') mc ms ls C (by omega) (by omega) hz1 hS1 hl
  rw [List.map_append] at h9
  cases v <;> exact h9
theorem Ex_objInit {i : Nat} (w1 : Cond.methodLink M.y.cls idx objectInit ∈ gT) (w2 : Cond.instanceMethod objectInit ∈ gT) (w3 : Cond.code objectInit ⟨#[0xb1]⟩ 1 none ∈ gT) (hd1 : 1 ≤ d) (hst : catL st ≤ 8) (hd : decode M.cc pc = .ok (.invokespecial idx, 3)) (kk : Ex M d kc ks Q (pc + 3) lo st g I L) : Ex M d kc ks Q pc lo (vD (some i) :: st) g I L := by
  intro D K b b0 SA p l e R s m args below meth c H locs cells slots mc ms ls C hc hs hz hS hl
  have hR := C.2.2.2.1
  have h0 := lv_room (m := m) (pc := pc) (ls := ls) (rest := (vD (some i) :: st).map (cv (qa b b0))) (st := st.map (cv (qa b b0))) (by rw [catL_ok]; exact hst)
  exact W.objInit C.1.1 C.1.2.1 C.1.2.2.2.2.2.1 (C.2.1 _ w1) (C.2.1 _ w2) (C.2.1 _ w3) rfl (hl.1.trans C.1.2.2.1.symm) rfl hd (by omega) (by omega) (kk D K b b0 SA p l e R s m args below meth c H locs cells slots mc ms ls C hc hs hz hS hl)
end Entry
end
section
/-! throws and catches -/
def tNames : List String := ["java/lang/RuntimeException", "java/lang/Exception"]
def qB (E : String) : List Cond := Cond.castable E E :: qDecl.map Cond.declares
def tOk (E : String) (ik ic : Nat) : Bool := Bundle.fit E && gIn ((vx_atS RX8 ic E tNames).filter goodWord) && ((vx_atS RX8 ic E tNames).filter (fun w => !goodWord w)).all (fun w => decide (w ∈ qB E)) && (Cond.classLink RX8 ik E :: Cond.initialized E :: vx_atS RX8 ic E tNames).all vx_ot && gIn [Cond.classLink RX8 ik E, Cond.initialized E] && decide (E ∈ qExc)
theorem qz.grow {D : va_G} {K : FieldType → ClassId} {b b0 : Nat} {g : aG} {I : aI} {L : aL} {H H1 : Heap} (hz : qz D K b b0 g I L H) (hs : H.size ≤ H1.size) (ho : ∀ q : Nat, q < H.size → H1[q]? = H[q]?) : ∃ n, g.1 ≤ n ∧ qz D K b b0 (n, g.2.1, g.2.2) I L H1 := by
  obtain ⟨⟨h1, h2, h3⟩, h4⟩ := hz
  refine ⟨g.1 + (H1.size - H.size), Nat.le_add_right _ _, ⟨?_, by show 0 < g.1 + _; omega, fun i hi => h3 i (by have hi' : g.1 + (H1.size - H.size) ≤ i := hi; omega)⟩, fun i c hi => ?_⟩
  · show qa b b0 (g.1 + (H1.size - H.size)) = H1.size
    obtain ⟨n, hn⟩ : ∃ n, g.1 = n + 1 := ⟨g.1 - 1, by omega⟩
    rw [hn] at h1 ⊢
    rw [show n + 1 + (H1.size - H.size) = (n + (H1.size - H.size)) + 1 by omega]
    simp only [qa] at h1 ⊢
    omega
  · have hq := h4 i c hi
    refine qc_other (fun k => rfl) (fun k => rfl) rfl (ho _ ?_) hq
    rcases c with ci | ⟨ty, n⟩
    · obtain ⟨r, -, cell, q1, -⟩ := hq
      exact (Array.getElem?_eq_some_iff.mp q1).1
    · exact (Array.getElem?_eq_some_iff.mp (show H[qa b b0 i]? = some (arrV (K ty) n (qE (qa b b0) I g.2.2 L ty i)) from hq)).1
theorem tOk_1 : tOk "java/lang/IndexOutOfBoundsException" 113 117 = true := by decide +kernel
theorem tOk_2 : tOk "java/lang/UnsupportedOperationException" 141 145 = true := by decide +kernel
theorem tOk_3 : tOk "java/lang/IllegalArgumentException" 54 58 = true := by decide +kernel
theorem tOk_4 : tOk "java/lang/IllegalStateException" 122 126 = true := by decide +kernel
section Throw
variable {M : aM} {d kc ks : Nat} {Q : aQ} {pc : Nat} {lo : List (Option aV)} {st : List aV} {g : aG} {I : aI} {L : aL}
theorem Ex_throw {E : String} {ik ic is : Nat} {text : String} (ht : tOk E ik ic = true) (hM : M.y.cls = RX8) (hh : M.hh = []) (hs : (is, text) ∈ qStr) (hd6 : 6 ≤ d) (hst : catL st ≤ 8)
    (d0 : decode M.cc pc = .ok (.new ik, 3)) (d3 : decode M.cc (pc + 3) = .ok (.dup, 1)) (d4 : decode M.cc (pc + 4) = .ok (.ldc is, 2)) (d6 : decode M.cc (pc + 6) = .ok (.invokespecial ic, 3)) (d9 : decode M.cc (pc + 9) = .ok (.athrow, 1))
    (hq : ∀ n, g.1 ≤ n → Q (.inr E) (n, g.2.1, g.2.2) I L) : Ex M d (kc + 1) (ks + 6) Q pc lo st g I L := by
  intro D K b b0 SA p l e R s m args below meth c H locs cells slots mc ms ls C hc hs' hz hS hl
  unfold tOk at ht
  simp only [Bool.and_eq_true, decide_eq_true_eq, List.all_eq_true] at ht
  obtain ⟨⟨⟨⟨⟨t1, t2⟩, t3⟩, t4⟩, t5⟩, t6⟩ := ht
  have hR := C.2.2.2.1
  have hKv := C.2.2.2.2.2.2.1
  have w := gT_of t5
  have hat : ∀ w ∈ vx_atS RX8 ic E tNames, w.before args s = true := by
    refine vx_hat (B := qB E) (fun w hw => C.2.1 _ (gT_of t2 w hw)) t3 ?_
    intro w hw
    unfold qB at hw
    rcases List.mem_cons.mp hw with rfl | h
    · exact va_Nw.use rfl (hKv.2.2.2.2.1 E t6)
    · obtain ⟨y, hy, rfl⟩ := List.mem_map.mp h
      exact va_Nw.use rfl (hKv.2.2.2.2.2.1 y hy)
  have hown : s.vm.findClass RX8 = some m.cls := by rw [← hM]; exact C.1.2.2.2.2.2.1
  have e0 : c.exceptionTable.toList = [] := by rw [C.2.2.2.2.1, hh]; rfl
  refine vx_throwS (names := tNames) (text := text) (sa := SA is) (A := qA b0) C.1.1 C.1.2.1 C.2.2.1 hown t1 (by decide +kernel) (C.2.1 _ (w _ List.mem_cons_self)) (C.2.1 _ (w _ (List.mem_cons_of_mem _ List.mem_cons_self))) (hKv.2.2.1 _ hs) hat t4 C.2.2.2.2.2.2.2.1 C.2.2.2.2.2.2.2.2 hS (hl.1.trans C.1.2.2.1.symm) d0 d3 d4 d6 d9 (by rw [e0]; intro x hx; cases hx) ?_ ?_ (by omega) (by omega) C.1.2.2.2.2.1 ?_ hS.2.2 (by omega) (by omega)
  · show 2 + 3 < R.frames
    omega
  · rw [catL_ok]
    show catL st + (13 * (2 + 1) + 43) ≤ R.locals
    omega
  · intro t hA hsz ho
    obtain ⟨n, hn, hz1⟩ := hz.grow hsz ho
    exact ⟨(n, g.2.1, g.2.2), I, L, hq n hn, hz1, ⟨Nat.le_trans hS.1 hsz, fun q h1 h2 => by rw [ho q (Nat.lt_of_lt_of_le h1 hS.1)]; exact hS.2.1 q h1 h2⟩⟩
/-- caught by a row of the method's own table, whose handler drops it and answers a number -/
theorem Xx_catch {E : String} {v : Int32} {n : Int} {a : Nat} {ln : Nat} (pre : List (Nat × Nat × Nat × Nat)) (x : Nat × Nat × Nat × Nat) (suf : List (Nat × Nat × Nat × Nat)) (hsp : M.hh = pre ++ x :: suf) (hE : E ∈ qExc)
    (hpass : ∀ z ∈ pre, z.2.2.2 ≠ 0 ∧ ∃ nm ∈ qExc, E ≠ nm ∧ Cond.classLink M.y.cls z.2.2.2 nm ∈ gT) (hx : x.1 ≤ pc ∧ pc < x.2.1) (hx0 : x.2.2.2 ≠ 0) (hlk : Cond.classLink M.y.cls x.2.2.2 E ∈ gT)
    (hast : (∃ k : Fin 4, (k : Nat) = a ∧ ln = 1 ∧ decode M.cc x.2.2.1 = .ok (.astore_n k, 1)) ∨ (ln = 2 ∧ decode M.cc x.2.2.1 = .ok (.astore a, 2))) (han : a < M.nL) (hic : decode M.cc (x.2.2.1 + ln) = .ok (.iconst n, 1)) (hv : Int32.ofInt n = v) (hir : decode M.cc (x.2.2.1 + ln + 1) = .ok (.ireturn, 1)) (hr : M.ret = some .int)
    (hq : Q (.inl (some (vI v))) g I L) : Xx M d kc ks Q pc lo E g I L := by
  intro D K b b0 SA p l e R s m args below meth c H locs cells slots mc ms ls q9 ce rest C hc hs hz hS hl h1 h2 h3
  have hKv := C.2.2.2.2.2.2.1
  refine vx_catch (own := M.y.cls) (name := E) C.1.2.2.2.2.2.1 (tableOf pre) ⟨x.1, x.2.1, x.2.2.1, x.2.2.2⟩ (tableOf suf) (by rw [C.2.2.2.2.1, hsp]; simp [tableOf]) ?_ (by simp [covers, hx]) hx0 (C.2.1 _ hlk) (va_Nw.use rfl (hKv.2.2.2.2.1 E hE)) h1 h2 h3 ?_
  · intro z hz
    obtain ⟨q, hq1, rfl⟩ := List.mem_map.mp hz
    obtain ⟨hp0, nm, hp1, hp2, hp3⟩ := hpass q hq1
    exact Or.inr ⟨hp0, nm, C.2.1 _ hp3, hKv.2.2.2.2.2.2.1 E hE nm hp1 hp2⟩
  · have tl : ∀ (ls' : Array Slot), W p l e R s m args below meth c H locs cells slots (vx_MQ below (qQ D K b b0 Q) (qX D K b b0 Q) args s mc ms (qA b0)) (F0 m (x.2.2.1 + ln) ls' []) := by
      intro ls'
      refine lv_iconst C.1.1 C.1.2.1 hic hv ?_
      refine W.widen (k := mc) (n := ms) (by omega) (by omega) (vx_ret ?_)
      have hlk := C.1.2.2.2.2.1
      exact W.iret (v := v) C.1.1 C.1.2.1 (C.1.2.2.2.1.trans hr) (fun t ht hW => ⟨⟨some (vI v), g, I, L, rfl, hq, by rw [ht]; exact hz⟩, hS.F ht⟩) hS.2.2 hir
    rcases hast with ⟨k, rfl, rfl, hk⟩ | ⟨rfl, hk⟩
    · exact lv_astore_n C.1.1 C.1.2.1 hk rfl hl.has han rfl (fun ls' _ => tl ls')
    · exact lv_astore C.1.1 C.1.2.1 hk hl.has han rfl (fun ls' _ => tl ls')
end Throw
end
section
/-! a basic block at once -/
abbrev aT : Type := (Nat → Option aSh) × (Nat → Nat → Option aV)
/-- the reference that a value is -/
def rfV (v : aV) (r : Option Nat) : Prop := match v with
  | .inr (.inl j) => r = some j
  | .inr (.inr (.inl q)) => r = q
  | _ => False
def Wf (T : aT) (g : aG) : Prop := ∀ (i : Nat) (c : aSh), T.1 i = some c → i ≠ 0 ∧ g.2.1 i = some c ∧ ∀ k v, T.2 i k = some v → rfV v (g.2.2 i k)
def nth {α : Type} : List α → Nat → Option α
  | [], _ => none
  | a :: _, 0 => some a
  | _ :: l, n + 1 => nth l n
theorem nth_eq {α : Type} : ∀ (l : List α) (n : Nat), nth l n = l[n]?
  | [], n => by simp [nth]
  | a :: l, 0 => rfl
  | a :: l, n + 1 => by rw [List.getElem?_cons_succ]; exact nth_eq l n
def lsetK : List (Option aV) → Nat → aV → (List (Option aV) → Prop) → Prop
  | [], _, _, _ => False
  | _ :: l, 0, v, k => k (some v :: l)
  | a :: l, n + 1, v, k => lsetK l n v (fun l' => k (a :: l'))
theorem lsetK_eq : ∀ (l : List (Option aV)) (n : Nat) (v : aV) (k : List (Option aV) → Prop), lsetK l n v k → k (l.set n (some v))
  | [], _, _, _, h => h.elim
  | _ :: _, 0, _, _, h => h
  | a :: l, n + 1, v, k, h => lsetK_eq l n v (fun l' => k (a :: l')) h
/-- the local a, an int -/
def ldI (lo : List (Option aV)) (a : Nat) (k : Int32 → Prop) : Prop := match nth lo a with
  | some (some (.inl x)) => k x
  | _ => False
/-- the local a, a reference -/
def ldA (lo : List (Option aV)) (a : Nat) (k : aV → Prop) : Prop := match nth lo a with
  | some (some (.inr (.inl i))) => k (vS i)
  | some (some (.inr (.inr (.inl r)))) => k (vD r)
  | _ => False
def brK (c : Prop) (A B : Prop) : Prop := (c → A) ∧ (¬ c → B)
def stp (T : aT) (M : aM) (d kc ks : Nat) (Q : aQ) (g : aG) (J : Nat → List (Option aV) → List aV → aI → aL → Prop) (row : aR) (k : List (Option aV) → List aV → aI → aL → Prop) (lo : List (Option aV)) (st : List aV) (I : aI) (L : aL) : Prop :=
  match row with
  | (pc, i, _, x, a, b) =>
  match i with
  | .iconst _ => k lo (vI x :: st) I L
  | .bipush _ => k lo (vI x :: st) I L
  | .sipush _ => k lo (vI x :: st) I L
  | .lconst _ => k lo (vJ x.toInt64 :: st) I L
  | .iload_n j => ldI lo j (fun v => k lo (vI v :: st) I L)
  | .iload j => ldI lo j (fun v => k lo (vI v :: st) I L)
  | .aload_n j => ldA lo j (fun v => k lo (v :: st) I L)
  | .aload j => ldA lo j (fun v => k lo (v :: st) I L)
  | .istore_n j => (match st with
    | .inl v :: st' => lsetK lo j (vI v) (fun lo' => k lo' st' I L)
    | _ => False)
  | .istore j => (match st with
    | .inl v :: st' => lsetK lo j (vI v) (fun lo' => k lo' st' I L)
    | _ => False)
  | .astore_n j => (match st with
    | .inr (.inl v) :: st' => lsetK lo j (vS v) (fun lo' => k lo' st' I L)
    | .inr (.inr (.inl v)) :: st' => lsetK lo j (vD v) (fun lo' => k lo' st' I L)
    | _ => False)
  | .astore j => (match st with
    | .inr (.inl v) :: st' => lsetK lo j (vS v) (fun lo' => k lo' st' I L)
    | .inr (.inr (.inl v)) :: st' => lsetK lo j (vD v) (fun lo' => k lo' st' I L)
    | _ => False)
  | .iinc j _ => ldI lo j (fun v => lsetK lo j (vI (v + x)) (fun lo' => k lo' st I L))
  | .iadd => (match st with
    | .inl z :: .inl y :: st' => k lo (vI (y + z) :: st') I L
    | _ => False)
  | .isub => (match st with
    | .inl z :: .inl y :: st' => k lo (vI (y - z) :: st') I L
    | _ => False)
  | .imul => (match st with
    | .inl z :: .inl y :: st' => k lo (vI (y * z) :: st') I L
    | _ => False)
  | .iand => (match st with
    | .inl z :: .inl y :: st' => k lo (vI (y &&& z) :: st') I L
    | _ => False)
  | .ior => (match st with
    | .inl z :: .inl y :: st' => k lo (vI (y ||| z) :: st') I L
    | _ => False)
  | .ixor => (match st with
    | .inl z :: .inl y :: st' => k lo (vI (y ^^^ z) :: st') I L
    | _ => False)
  | .ishl => (match st with
    | .inl z :: .inl y :: st' => k lo (vI (y <<< (z &&& 31)) :: st') I L
    | _ => False)
  | .ishr => (match st with
    | .inl z :: .inl y :: st' => k lo (vI (y >>> (z &&& 31)) :: st') I L
    | _ => False)
  | .iushr => (match st with
    | .inl z :: .inl y :: st' => k lo (vI (y.toUInt32 >>> (z.toUInt32 &&& Int32.toUInt32 31)).toInt32 :: st') I L
    | _ => False)
  | .i2l => (match st with
    | .inl y :: st' => k lo (vJ y.toInt64 :: st') I L
    | _ => False)
  | .lcmp => (match st with
    | .inr (.inr (.inr z)) :: .inr (.inr (.inr y)) :: st' => k lo (vI (lg_cmp y z) :: st') I L
    | _ => False)
  | .dup => (match st with
    | .inl y :: st' => k lo (vI y :: vI y :: st') I L
    | .inr (.inl y) :: st' => k lo (vS y :: vS y :: st') I L
    | .inr (.inr (.inl y)) :: st' => k lo (vD y :: vD y :: st') I L
    | _ => False)
  | .dup2 => (match st with
    | .inl y :: .inr (.inl z) :: st' => k lo (vI y :: vS z :: vI y :: vS z :: st') I L
    | _ => False)
  | .aconst_null => k lo (vD none :: st) I L
  | .pop => (match st with
    | .inl _ :: st' => k lo st' I L
    | _ => False)
  | .getfield _ => (match st with
    | .inr (.inl i) :: st' => (match T.1 i with
      | some (.inl ci) => cond (Nat.beq ci a) (cond (isI (qt a b)) (k lo (vI (I i b) :: st') I L) (match T.2 i b with
        | some v => k lo (v :: st') I L
        | none => k lo (vD (g.2.2 i b) :: st') I L)) False
      | _ => False)
    | .inr (.inr (.inl (some i))) :: st' => g.2.1 i = some (.inl a) ∧ cond (isI (qt a b)) (k lo (vI (I i b) :: st') I L) (k lo (vD (g.2.2 i b) :: st') I L)
    | _ => False)
  | .putfield _ => cond (isI (qt a b) && !fFin a b) (match st with
    | .inl v :: .inr (.inl i) :: st' => (match T.1 i with
      | some (.inl ci) => cond (Nat.beq ci a) (match qt a b with
        | .boolean => (v = 0 ∨ v = 1) ∧ k lo st' (up2 I i b v) L
        | .int => k lo st' (up2 I i b v) L
        | _ => False) False
      | _ => False)
    | .inl v :: .inr (.inr (.inl (some i))) :: st' => (g.2.1 i = some (.inl a) ∧ i ≠ 0 ∧ fitI (qt a b) v) ∧ k lo st' (up2 I i b v) L
    | _ => False) (Ex M d kc ks Q pc lo st g I L)
  | .iaload => (match st with
    | .inl j :: .inr (.inl i) :: st' => (match T.1 i with
      | some (.inr (.int, n)) => vp_in j n ∧ k lo (vI (I i j.toNatClampNeg) :: st') I L
      | _ => False)
    | .inl j :: .inr (.inr (.inl (some i))) :: st' => ∃ n, (g.2.1 i = some (.inr (.int, n)) ∧ vp_in j n) ∧ k lo (vI (I i j.toNatClampNeg) :: st') I L
    | _ => False)
  | .baload => (match st with
    | .inl j :: .inr (.inl i) :: st' => (match T.1 i with
      | some (.inr (.boolean, n)) => vp_in j n ∧ k lo (vI (I i j.toNatClampNeg) :: st') I L
      | _ => False)
    | _ => False)
  | .iastore => (match st with
    | .inl v :: .inl j :: .inr (.inl i) :: st' => (match T.1 i with
      | some (.inr (.int, n)) => vp_in j n ∧ k lo st' (up2 I i j.toNatClampNeg v) L
      | _ => False)
    | .inl v :: .inl j :: .inr (.inr (.inl (some i))) :: st' => ∃ n, (g.2.1 i = some (.inr (.int, n)) ∧ i ≠ 0 ∧ vp_in j n) ∧ k lo st' (up2 I i j.toNatClampNeg v) L
    | _ => False)
  | .bastore => (match st with
    | .inl v :: .inl j :: .inr (.inl i) :: st' => (match T.1 i with
      | some (.inr (.boolean, n)) => (vp_in j n ∧ (v = 0 ∨ v = 1)) ∧ k lo st' (up2 I i j.toNatClampNeg v) L
      | _ => False)
    | _ => False)
  | .laload => (match st with
    | .inl j :: .inr (.inl i) :: st' => (match T.1 i with
      | some (.inr (.long, n)) => vp_in j n ∧ k lo (vJ (L i) :: st') I L
      | _ => False)
    | _ => False)
  | .lastore => (match st with
    | .inr (.inr (.inr v)) :: .inl j :: .inr (.inl i) :: st' => (match T.1 i with
      | some (.inr (.long, 1)) => vp_in j 1 ∧ k lo st' I (up1 L i v)
      | _ => False)
    | _ => False)
  | .aaload => (match st with
    | .inl j :: .inr (.inl i) :: st' => (match T.1 i with
      | some (.inr (.object T0, n)) => (T0 = RX7 ∨ T0 = RX6) ∧ vp_in j n ∧ k lo (vD (g.2.2 i j.toNatClampNeg) :: st') I L
      | _ => False)
    | .inl j :: .inr (.inr (.inl (some i))) :: st' => ∃ n T0, ((T0 = RX7 ∨ T0 = RX6) ∧ g.2.1 i = some (.inr (.object T0, n)) ∧ vp_in j n) ∧ k lo (vD (g.2.2 i j.toNatClampNeg) :: st') I L
    | _ => False)
  | .arraylength => (match st with
    | .inr (.inl i) :: st' => (match T.1 i with
      | some (.inr (.int, n)) => k lo (vI (Int32.ofNat n) :: st') I L
      | _ => False)
    | .inr (.inr (.inl (some i))) :: st' => ∃ ty n, (ty ∈ qTy ∧ g.2.1 i = some (.inr (ty, n))) ∧ k lo (vI (Int32.ofNat n) :: st') I L
    | _ => False)
  | .goto _ => J a lo st I L
  | .ifCond op _ => (match st with
    | .inl v :: st' => (match op with
      | .eq => brK (v = 0) (J a lo st' I L) (J (pc + 3) lo st' I L)
      | .ne => brK (v = 0) (J (pc + 3) lo st' I L) (J a lo st' I L)
      | .lt => brK (v < 0) (J a lo st' I L) (J (pc + 3) lo st' I L)
      | .ge => brK (0 ≤ v) (J a lo st' I L) (J (pc + 3) lo st' I L)
      | .gt => brK (0 < v) (J a lo st' I L) (J (pc + 3) lo st' I L)
      | .le => brK (v ≤ 0) (J a lo st' I L) (J (pc + 3) lo st' I L))
    | _ => False)
  | .if_icmp op _ => (match st with
    | .inl z :: .inl v :: st' => (match op with
      | .eq => brK (v = z) (J a lo st' I L) (J (pc + 3) lo st' I L)
      | .ne => brK (v = z) (J (pc + 3) lo st' I L) (J a lo st' I L)
      | .lt => brK (v < z) (J a lo st' I L) (J (pc + 3) lo st' I L)
      | .ge => brK (z ≤ v) (J a lo st' I L) (J (pc + 3) lo st' I L)
      | .gt => brK (z < v) (J a lo st' I L) (J (pc + 3) lo st' I L)
      | .le => brK (v ≤ z) (J a lo st' I L) (J (pc + 3) lo st' I L))
    | _ => False)
  | .ifnull _ => (match st with
    | .inr (.inl _) :: st' => J (pc + 3) lo st' I L
    | .inr (.inr (.inl (some _))) :: st' => J (pc + 3) lo st' I L
    | .inr (.inr (.inl none)) :: st' => J a lo st' I L
    | _ => False)
  | .ifnonnull _ => (match st with
    | .inr (.inl _) :: st' => J a lo st' I L
    | .inr (.inr (.inl (some _))) :: st' => J a lo st' I L
    | .inr (.inr (.inl none)) :: st' => J (pc + 3) lo st' I L
    | _ => False)
  | .ireturn => (match st with
    | [.inl v] => (match M.ret with
      | some .int => Q (.inl (some (vI v))) g I L
      | some .boolean => (v = 0 ∨ v = 1) ∧ Q (.inl (some (vI v))) g I L
      | _ => False)
    | _ => False)
  | .areturn => (match st with
    | [.inr (.inr (.inl r))] => (match M.ret with
      | some (.object _) => Q (.inl (some (vD r))) g I L
      | _ => False)
    | [.inr (.inl i)] => (match M.ret with
      | some (.object _) => Q (.inl (some (vD (some i)))) g I L
      | _ => False)
    | _ => False)
  | .return_ => (match st with
    | [] => (match M.ret with
      | none => Q (.inl none) g I L
      | _ => False)
    | _ => False)
  | _ => Ex M d kc ks Q pc lo st g I L
def bx (T : aT) (M : aM) (d kc ks : Nat) (Q : aQ) (g : aG) (J : Nat → List (Option aV) → List aV → aI → aL → Prop) : List aR → List (Option aV) → List aV → aI → aL → Prop
  | [] => fun _ _ _ _ => False
  | row :: r => stp T M d kc ks Q g J row (bx T M d kc ks Q g J r)
def fr : List aR → Nat → List aR
  | [], _ => []
  | r :: l, pc => cond (Nat.beq r.1 pc) (r :: l) (fr l pc)
def hasN : List Nat → Nat → Bool
  | [], _ => false
  | a :: l, n => cond (Nat.beq a n) true (hasN l n)
/-- block after block, but no further than the cuts -/
def wx (T : aT) (M : aM) (d kc ks : Nat) (Q : aQ) (g : aG) (cuts : List Nat) : Nat → Nat → List (Option aV) → List aV → aI → aL → Prop
  | 0, pc => fun lo st I L => Ex M d kc ks Q pc lo st g I L
  | f + 1, pc => bx T M d kc ks Q g (fun pc' lo st I L => cond (hasN cuts pc') (Ex M d kc ks Q pc' lo st g I L) (wx T M d kc ks Q g cuts f pc' lo st I L)) (fr M.code pc)
/-- at most n rows -/
def bn (T : aT) (M : aM) (d kc ks : Nat) (Q : aQ) (g : aG) (J : Nat → List (Option aV) → List aV → aI → aL → Prop) : Nat → List aR → List (Option aV) → List aV → aI → aL → Prop
  | _, [] => fun _ _ _ _ => False
  | 0, row :: _ => fun lo st I L => Ex M d kc ks Q row.1 lo st g I L
  | n + 1, row :: r => stp T M d kc ks Q g J row (bn T M d kc ks Q g J n r)
end
section
/-! the block's soundness -/
def flT : List (String × Nat × Nat × Nat) := [(RX5, 11, 5, 0), (RX5, 15, 5, 1), (RX5, 19, 5, 2), (RX5, 22, 5, 3), (RX5, 25, 5, 4), (RX2, 11, 2, 0), (RX2, 15, 2, 1), (RX2, 18, 2, 2), (RX2, 21, 2, 3), (RX1, 19, 1, 0), (RX8, 152, 1, 0), (RX1, 23, 1, 1), (RX3, 130, 1, 1), (RX1, 27, 1, 2), (RX3, 136, 1, 2), (RX1, 30, 1, 3), (RX3, 211, 1, 3), (RX1, 33, 1, 4), (RX3, 101, 1, 4), (RX1, 36, 1, 5), (RX3, 112, 1, 5), (RX1, 39, 1, 6), (RX3, 105, 1, 6), (RX1, 42, 1, 7), (RX3, 115, 1, 7), (RX3, 12, 3, 0), (RX3, 21, 3, 1), (RX3, 25, 3, 2), (RX3, 34, 3, 3), (RX3, 38, 3, 4), (RX3, 71, 3, 5), (RX3, 42, 3, 6), (RX3, 65, 3, 7), (RX3, 68, 3, 8), (RX6, 11, 6, 0), (RX4, 9, 4, 0), (RX3, 56, 4, 0), (RX8, 106, 4, 0), (RX4, 18, 4, 1), (RX3, 79, 4, 1), (RX8, 127, 4, 1), (RX4, 22, 4, 2), (RX3, 87, 4, 2), (RX8, 11, 8, 0), (RX8, 18, 8, 1), (RX8, 25, 8, 2), (RX8, 29, 8, 3), (RX8, 32, 8, 4), (RX8, 135, 8, 5), (RX8, 40, 8, 6), (RX7, 7, 7, 0), (RX3, 142, 7, 0), (RX7, 13, 7, 1), (RX3, 197, 7, 1), (RX7, 17, 7, 2), (RX3, 200, 7, 2), (RX7, 20, 7, 3), (RX3, 170, 7, 3), (RX7, 23, 7, 4), (RX3, 174, 7, 4), (RX7, 27, 7, 5), (RX3, 178, 7, 5), (RX7, 40, 7, 6), (RX8, 138, 7, 6), (RX7, 51, 7, 7), (RX8, 92, 7, 7), (RX9, 1, 9, 0), (RX9, 141, 9, 1), (RX9, 13, 9, 2), (RX9, 17, 9, 3), (RX9, 20, 9, 4), (RX9, 23, 9, 5), (RX9, 26, 9, 6), (RX9, 30, 9, 7), (RX9, 33, 9, 8), (RX9, 36, 9, 9), (RX9, 207, 9, 10), (RX9, 39, 9, 11), (RX9, 42, 9, 12), (RX9, 45, 9, 13), (RX9, 191, 9, 14), (RX9, 48, 9, 15), (RX9, 51, 9, 16), (RX9, 54, 9, 17), (RX9, 57, 9, 18), (RX9, 60, 9, 19), (RX9, 63, 9, 20), (RX9, 66, 9, 21), (RX9, 69, 9, 22), (RX9, 72, 9, 23), (RX9, 75, 9, 24), (RX9, 78, 9, 25), (RX9, 81, 9, 26), (RX9, 84, 9, 27), (RX9, 87, 9, 28), (RX9, 194, 9, 29), (RX9, 197, 9, 30), (RX9, 181, 9, 31), (RX9, 184, 9, 32), (RX9, 187, 9, 33), (RX9, 228, 9, 34), (RX9, 231, 9, 35), (RX9, 90, 9, 36), (RX9, 93, 9, 37), (RX9, 96, 9, 38), (RX9, 99, 9, 39), (RX9, 102, 9, 40), (RX9, 105, 9, 41), (RX9, 108, 9, 42), (RX9, 111, 9, 43), (RX9, 114, 9, 44), (RX9, 288, 9, 45), (RX9, 117, 9, 46), (RX9, 120, 9, 47), (RX9, 123, 9, 48), (RX9, 126, 9, 49), (RX9, 129, 9, 50), (RX9, 132, 9, 51), (RX9, 135, 9, 52), (RX9, 138, 9, 53)]
def flW (e : String × Nat × Nat × Nat) : Cond := match qC[e.2.2.1]? with
  | some q => Cond.fieldLink e.1 e.2.1 (q.2.1 e.2.2.2).1 (q.2.1 e.2.2.2).2.1 (q.2.1 e.2.2.2).2.2.1
  | none => .tt
theorem flT_in : gIn (flT.map flW) = true := by decide +kernel
def flN (e : String × Nat × Nat × Nat) : Bool := match qC[e.2.2.1]? with
  | some q => decide (e.2.2.2 < q.2.2)
  | none => false
theorem flT_n : flT.all flN = true := by decide +kernel
def fB (M : aM) (idx a b : Nat) : Bool := flT.any (fun e => Nat.beq e.2.1 idx && (Nat.beq e.2.2.1 a && (Nat.beq e.2.2.2 b && decide (e.1 = M.y.cls))))
theorem fB_ok {M : aM} {idx a b : Nat} (h : fB M idx a b = true) : fOk M idx a b := by
  obtain ⟨e, he, h1⟩ := List.any_eq_true.mp h
  simp only [Bool.and_eq_true, decide_eq_true_eq] at h1
  obtain ⟨h1, h2, h3, h4⟩ := h1
  have h1 := Nat.eq_of_beq_eq_true h1
  have h2 := Nat.eq_of_beq_eq_true h2
  have h3 := Nat.eq_of_beq_eq_true h3
  have hn := List.all_eq_true.mp flT_n e he
  have hw := gT_of flT_in (flW e) (List.mem_map.mpr ⟨e, he, rfl⟩)
  unfold flN at hn
  unfold flW at hw
  rw [h2, h3] at hn
  rw [h2, h3, h1, h4] at hw
  cases hq : qC[a]? with
  | none => rw [hq] at hn; cases hn
  | some q =>
    rw [hq] at hn hw
    exact ⟨q, hq, of_decide_eq_true hn, hw⟩
def tB (pc : Nat) (off : Int) (a : Nat) : Bool := decide ((pc : Int) + off = (a : Int))
def rB (M : aM) (r : aR) : Bool := decide (decode M.cc r.1 = .ok (r.2.1, r.2.2.1)) && (match r with
  | (pc, i, n, x, a, b) => match i with
    | .iconst m => decide (Int32.ofInt m = x) && Nat.beq n 1
    | .bipush m => decide ((Int8.ofInt m).toInt32 = x) && Nat.beq n 2
    | .sipush m => decide ((Int16.ofInt m).toInt32 = x) && Nat.beq n 3
    | .lconst m => decide (Int64.ofNat (m : Nat) = x.toInt64) && Nat.beq n 1
    | .iload_n _ => Nat.beq n 1
    | .iload _ => Nat.beq n 2
    | .aload_n _ => Nat.beq n 1
    | .aload _ => Nat.beq n 2
    | .istore_n j => Nat.beq n 1 && Nat.blt j M.nL
    | .istore j => Nat.beq n 2 && Nat.blt j M.nL
    | .astore_n j => Nat.beq n 1 && Nat.blt j M.nL
    | .astore j => Nat.beq n 2 && Nat.blt j M.nL
    | .iinc j m => Nat.beq n 3 && (Nat.blt j M.nL && decide (Int32.ofInt m = x))
    | .getfield idx => Nat.beq n 3 && fB M idx a b
    | .putfield idx => Nat.beq n 3 && fB M idx a b
    | .goto off => Nat.beq n 3 && tB pc off a
    | .ifCond _ off => Nat.beq n 3 && tB pc off a
    | .if_icmp _ off => Nat.beq n 3 && tB pc off a
    | .ifnull off => Nat.beq n 3 && tB pc off a
    | .ifnonnull off => Nat.beq n 3 && tB pc off a
    | .iadd | .isub | .imul | .iand | .ior | .ixor | .ishl | .ishr | .iushr | .i2l | .lcmp | .dup | .dup2 | .pop | .aconst_null | .iaload | .baload | .iastore | .bastore | .laload | .lastore | .aaload | .arraylength | .ireturn | .areturn | .return_ => Nat.beq n 1
    | _ => true)
def cB (M : aM) : List aR → Bool
  | [] => true
  | r :: l => rB M r && ((match l with
    | [] => true
    | r' :: _ => Nat.beq (r.1 + r.2.2.1) r'.1) && cB M l)
section Sound
variable {T : aT} {M : aM} {d kc ks : Nat} {Q : aQ} {g : aG} {lo : List (Option aV)} {st : List aV} {I : aI} {L : aL}
theorem ldI_ok {a : Nat} {k : Int32 → Prop} (h : ldI lo a k) : ∃ x, lo[a]? = some (some (vI x)) ∧ k x := by
  unfold ldI at h
  rw [nth_eq] at h
  split at h
  · rename_i x hx; exact ⟨x, hx, h⟩
  · exact h.elim
theorem ldA_ok {a : Nat} {k : aV → Prop} (h : ldA lo a k) : (∃ i, lo[a]? = some (some (vS i)) ∧ k (vS i)) ∨ ∃ r, lo[a]? = some (some (vD r)) ∧ k (vD r) := by
  unfold ldA at h
  rw [nth_eq] at h
  split at h
  · rename_i x hx; exact Or.inl ⟨x, hx, h⟩
  · rename_i x hx; exact Or.inr ⟨x, hx, h⟩
  · exact h.elim
theorem beqT {a b : Nat} (h : Nat.beq a b = true) : a = b := Nat.eq_of_beq_eq_true h
theorem bltT {a b : Nat} (h : Nat.blt a b = true) : a < b := Nat.le_of_ble_eq_true h
theorem tBT {pc : Nat} {off : Int} {a : Nat} (h : tB pc off a = true) : (pc : Int) + off = (a : Int) := of_decide_eq_true h
set_option maxHeartbeats 4000000 in
theorem stp_ok {row : aR} {J : Nat → List (Option aV) → List aV → aI → aL → Prop} {k : List (Option aV) → List aV → aI → aL → Prop} (hw : Wf T g) (hJ : ∀ pc lo st I L, J pc lo st I L → Ex M d kc ks Q pc lo st g I L) (hr : rB M row = true) (hk : ∀ lo st I L, k lo st I L → Ex M d kc ks Q (row.1 + row.2.2.1) lo st g I L) (h : stp T M d kc ks Q g J row k lo st I L) : Ex M d kc ks Q row.1 lo st g I L := by
  obtain ⟨pc, i, n, x, a, b⟩ := row
  unfold rB at hr
  simp only [Bool.and_eq_true, decide_eq_true_eq] at hr
  obtain ⟨hd, hr⟩ := hr
  simp only at hk ⊢
  unfold stp at h
  simp only at h
  split at h
  · simp only [Bool.and_eq_true, decide_eq_true_eq] at hr; cases beqT hr.2; exact Ex_iconst hd hr.1 (hk _ _ _ _ h)
  · simp only [Bool.and_eq_true, decide_eq_true_eq] at hr; cases beqT hr.2; exact Ex_bipush hd hr.1 (hk _ _ _ _ h)
  · simp only [Bool.and_eq_true, decide_eq_true_eq] at hr; cases beqT hr.2; exact Ex_sipush hd hr.1 (hk _ _ _ _ h)
  · simp only [Bool.and_eq_true, decide_eq_true_eq] at hr; cases beqT hr.2; exact Ex_lconst hd hr.1 (hk _ _ _ _ h)
  · cases beqT hr; obtain ⟨v, h1, h2⟩ := ldI_ok h; exact Ex_iload_n hd h1 (hk _ _ _ _ h2)
  · cases beqT hr; obtain ⟨v, h1, h2⟩ := ldI_ok h; exact Ex_iload hd h1 (hk _ _ _ _ h2)
  · cases beqT hr; rcases ldA_ok h with ⟨v, h1, h2⟩ | ⟨v, h1, h2⟩; exact Ex_aload_nS hd h1 (hk _ _ _ _ h2); exact Ex_aload_nD hd h1 (hk _ _ _ _ h2)
  · cases beqT hr; rcases ldA_ok h with ⟨v, h1, h2⟩ | ⟨v, h1, h2⟩; exact Ex_aloadS hd h1 (hk _ _ _ _ h2); exact Ex_aloadD hd h1 (hk _ _ _ _ h2)
  · simp only [Bool.and_eq_true] at hr; cases beqT hr.1
    split at h
    · exact Ex_istore_n hd (bltT hr.2) (hk _ _ _ _ (lsetK_eq _ _ _ _ h))
    · exact h.elim
  · simp only [Bool.and_eq_true] at hr; cases beqT hr.1
    split at h
    · exact Ex_istore hd (bltT hr.2) (hk _ _ _ _ (lsetK_eq _ _ _ _ h))
    · exact h.elim
  · simp only [Bool.and_eq_true] at hr; cases beqT hr.1
    split at h
    · exact Ex_astore_nS hd (bltT hr.2) (hk _ _ _ _ (lsetK_eq _ _ _ _ h))
    · exact Ex_astore_nD hd (bltT hr.2) (hk _ _ _ _ (lsetK_eq _ _ _ _ h))
    · exact h.elim
  · simp only [Bool.and_eq_true] at hr; cases beqT hr.1
    split at h
    · exact Ex_astoreS hd (bltT hr.2) (hk _ _ _ _ (lsetK_eq _ _ _ _ h))
    · exact Ex_astoreD hd (bltT hr.2) (hk _ _ _ _ (lsetK_eq _ _ _ _ h))
    · exact h.elim
  · simp only [Bool.and_eq_true, decide_eq_true_eq] at hr; cases beqT hr.1
    obtain ⟨v, h1, h2⟩ := ldI_ok h
    exact Ex_iinc hd hr.2.2 (bltT hr.2.1) h1 (hk _ _ _ _ (lsetK_eq _ _ _ _ h2))
  · cases beqT hr; split at h; exact Ex_iadd hd (hk _ _ _ _ h); exact h.elim
  · cases beqT hr; split at h; exact Ex_isub hd (hk _ _ _ _ h); exact h.elim
  · cases beqT hr; split at h; exact Ex_imul hd (hk _ _ _ _ h); exact h.elim
  · cases beqT hr; split at h; exact Ex_iand hd (hk _ _ _ _ h); exact h.elim
  · cases beqT hr; split at h; exact Ex_ior hd (hk _ _ _ _ h); exact h.elim
  · cases beqT hr; split at h; exact Ex_ixor hd (hk _ _ _ _ h); exact h.elim
  · cases beqT hr; split at h; exact Ex_ishl hd (hk _ _ _ _ h); exact h.elim
  · cases beqT hr; split at h; exact Ex_ishr hd (hk _ _ _ _ h); exact h.elim
  · cases beqT hr; split at h; exact Ex_iushr hd (hk _ _ _ _ h); exact h.elim
  · cases beqT hr; split at h; exact Ex_i2l hd (hk _ _ _ _ h); exact h.elim
  · cases beqT hr; split at h; exact Ex_lcmp hd (hk _ _ _ _ h); exact h.elim
  · cases beqT hr; split at h
    · exact Ex_dup (fun _ q => by cases q) hd (hk _ _ _ _ h)
    · exact Ex_dup (fun _ q => by cases q) hd (hk _ _ _ _ h)
    · exact Ex_dup (fun _ q => by cases q) hd (hk _ _ _ _ h)
    · exact h.elim
  · cases beqT hr; split at h
    · exact Ex_dup2 (fun _ q => by cases q) (fun _ q => by cases q) hd (hk _ _ _ _ h)
    · exact h.elim
  · cases beqT hr; exact Ex_null hd (hk _ _ _ _ h)
  · cases beqT hr; split at h
    · exact Ex_pop (fun _ q => by cases q) hd (hk _ _ _ _ h)
    · exact h.elim
  · simp only [Bool.and_eq_true] at hr; cases beqT hr.1
    have fk := fB_ok hr.2
    split at h
    · rename_i i0 st'
      split at h
      · rename_i ci hci
        cases hbe : Nat.beq ci a with
        | false => rw [hbe] at h; exact h.elim
        | true =>
          rw [hbe] at h
          cases beqT hbe
          obtain ⟨-, h2, h3⟩ := hw i0 _ hci
          cases hI : isI (qt a b) with
          | true => rw [hI] at h; exact Ex_getI fk hI h2 hd (hk _ _ _ _ h)
          | false =>
            rw [hI] at h
            simp only [cond_true, cond_false] at h
            split at h
            · rename_i v hj
              have h9 := hk _ _ _ _ h
              refine Ex_getR fk hI h2 hd ?_
              have h8 := h3 b v hj
              rcases v with y | j | q | y
              · exact h8.elim
              · have h7 : g.2.2 i0 b = some j := h8
                rw [h7]
                exact h9
              · have h7 : g.2.2 i0 b = q := h8
                rw [h7]
                exact h9
              · exact h8.elim
            · exact Ex_getR fk hI h2 hd (hk _ _ _ _ h)
      · exact h.elim
    · obtain ⟨h1, h2⟩ := h
      cases hI : isI (qt a b) with
      | true => rw [hI] at h2; exact Ex_getI fk hI h1 hd (hk _ _ _ _ h2)
      | false => rw [hI] at h2; exact Ex_getR fk hI h1 hd (hk _ _ _ _ h2)
    · exact h.elim
  · simp only [Bool.and_eq_true] at hr; cases beqT hr.1
    have fk := fB_ok hr.2
    cases hc : (isI (qt a b) && !fFin a b) with
    | false => rw [hc] at h; exact h
    | true =>
      rw [hc] at h
      simp only [Bool.and_eq_true, Bool.not_eq_true'] at hc
      simp only [cond_true] at h
      split at h
      · rename_i v i0 st'
        split at h
        · rename_i ci hci
          cases hbe : Nat.beq ci a with
          | false => rw [hbe] at h; exact h.elim
          | true =>
            rw [hbe] at h
            cases beqT hbe
            obtain ⟨h0, h2, h3⟩ := hw i0 _ hci
            simp only [cond_true] at h
            split at h
            · rename_i hty; exact Ex_putI fk (Or.inl hc.2) hc.1 (by rw [hty]; exact h.1) h2 h0 hd (hk _ _ _ _ h.2)
            · rename_i hty; exact Ex_putI fk (Or.inl hc.2) hc.1 (by rw [hty]; trivial) h2 h0 hd (hk _ _ _ _ h)
            · exact h.elim
        · exact h.elim
      · exact Ex_putI fk (Or.inl hc.2) hc.1 h.1.2.2 h.1.1 h.1.2.1 hd (hk _ _ _ _ h.2)
      · exact h.elim
  · cases beqT hr; split at h
    · split at h
      · rename_i hci; obtain ⟨h0, h2, -⟩ := hw _ _ hci; exact Ex_iald h2 h.1 hd (hk _ _ _ _ h.2)
      · exact h.elim
    · obtain ⟨n, h1, h2⟩ := h; exact Ex_iald h1.1 h1.2 hd (hk _ _ _ _ h2)
    · exact h.elim
  · cases beqT hr; split at h
    · split at h
      · rename_i hci; obtain ⟨h0, h2, -⟩ := hw _ _ hci; exact Ex_zald h2 h.1 hd (hk _ _ _ _ h.2)
      · exact h.elim
    · exact h.elim
  · cases beqT hr; split at h
    · split at h
      · rename_i hci; obtain ⟨h0, h2, -⟩ := hw _ _ hci; exact Ex_iast h2 h0 h.1 hd (hk _ _ _ _ h.2)
      · exact h.elim
    · obtain ⟨n, h1, h2⟩ := h; exact Ex_iast h1.1 h1.2.1 h1.2.2 hd (hk _ _ _ _ h2)
    · exact h.elim
  · cases beqT hr; split at h
    · split at h
      · rename_i hci; obtain ⟨h0, h2, -⟩ := hw _ _ hci; exact Ex_zast h2 h0 h.1.2 h.1.1 hd (hk _ _ _ _ h.2)
      · exact h.elim
    · exact h.elim
  · cases beqT hr; split at h
    · split at h
      · rename_i hci; obtain ⟨h0, h2, -⟩ := hw _ _ hci; exact Ex_lald h2 h.1 hd (hk _ _ _ _ h.2)
      · exact h.elim
    · exact h.elim
  · cases beqT hr; split at h
    · split at h
      · rename_i hci; obtain ⟨h0, h2, -⟩ := hw _ _ hci; exact Ex_last h2 h0 h.1 hd (hk _ _ _ _ h.2)
      · exact h.elim
    · exact h.elim
  · cases beqT hr; split at h
    · split at h
      · rename_i hci; obtain ⟨h0, h2, -⟩ := hw _ _ hci; exact Ex_aald h.1 h2 h.2.1 hd (hk _ _ _ _ h.2.2)
      · exact h.elim
    · obtain ⟨n, T0, h1, h2⟩ := h; exact Ex_aald h1.1 h1.2.1 h1.2.2 hd (hk _ _ _ _ h2)
    · exact h.elim
  · cases beqT hr; split at h
    · split at h
      · rename_i hci; obtain ⟨h0, h2, -⟩ := hw _ _ hci; exact Ex_alen (by simp [qTy]) h2 hd (hk _ _ _ _ h)
      · exact h.elim
    · obtain ⟨ty, n, h1, h2⟩ := h; exact Ex_alen h1.1 h1.2 hd (hk _ _ _ _ h2)
    · exact h.elim
  · simp only [Bool.and_eq_true] at hr; cases beqT hr.1; exact Ex_goto hd (tBT hr.2) (hJ _ _ _ _ _ h)
  · simp only [Bool.and_eq_true] at hr; cases beqT hr.1
    split at h
    · split at h
      · exact Ex_if_eq hd (tBT hr.2) (fun q => hJ _ _ _ _ _ (h.1 q)) (fun q => hJ _ _ _ _ _ (h.2 q))
      · exact Ex_if_ne hd (tBT hr.2) (fun q => hJ _ _ _ _ _ (h.2 q)) (fun q => hJ _ _ _ _ _ (h.1 q))
      · exact Ex_if_lt hd (tBT hr.2) (fun q => hJ _ _ _ _ _ (h.1 q)) (fun q => hJ _ _ _ _ _ (h.2 q))
      · exact Ex_if_ge hd (tBT hr.2) (fun q => hJ _ _ _ _ _ (h.1 q)) (fun q => hJ _ _ _ _ _ (h.2 q))
      · exact Ex_if_gt hd (tBT hr.2) (fun q => hJ _ _ _ _ _ (h.1 q)) (fun q => hJ _ _ _ _ _ (h.2 q))
      · exact Ex_if_le hd (tBT hr.2) (fun q => hJ _ _ _ _ _ (h.1 q)) (fun q => hJ _ _ _ _ _ (h.2 q))
    · exact h.elim
  · simp only [Bool.and_eq_true] at hr; cases beqT hr.1
    split at h
    · split at h
      · exact Ex_icmp_eq hd (tBT hr.2) (fun q => hJ _ _ _ _ _ (h.1 q)) (fun q => hJ _ _ _ _ _ (h.2 q))
      · exact Ex_icmp_ne hd (tBT hr.2) (fun q => hJ _ _ _ _ _ (h.2 q)) (fun q => hJ _ _ _ _ _ (h.1 q))
      · exact Ex_icmp_lt hd (tBT hr.2) (fun q => hJ _ _ _ _ _ (h.1 q)) (fun q => hJ _ _ _ _ _ (h.2 q))
      · exact Ex_icmp_ge hd (tBT hr.2) (fun q => hJ _ _ _ _ _ (h.1 q)) (fun q => hJ _ _ _ _ _ (h.2 q))
      · exact Ex_icmp_gt hd (tBT hr.2) (fun q => hJ _ _ _ _ _ (h.1 q)) (fun q => hJ _ _ _ _ _ (h.2 q))
      · exact Ex_icmp_le hd (tBT hr.2) (fun q => hJ _ _ _ _ _ (h.1 q)) (fun q => hJ _ _ _ _ _ (h.2 q))
    · exact h.elim
  · simp only [Bool.and_eq_true] at hr; cases beqT hr.1
    split at h
    · exact Ex_ifnullS hd (hJ _ _ _ _ _ h)
    · exact Ex_ifnullD hd (hJ _ _ _ _ _ h)
    · exact Ex_ifnullN hd (tBT hr.2) (hJ _ _ _ _ _ h)
    · exact h.elim
  · simp only [Bool.and_eq_true] at hr; cases beqT hr.1
    split at h
    · exact Ex_ifnonnullS hd (tBT hr.2) (hJ _ _ _ _ _ h)
    · exact Ex_ifnonnullD hd (tBT hr.2) (hJ _ _ _ _ _ h)
    · exact Ex_ifnonnullN hd (hJ _ _ _ _ _ h)
    · exact h.elim
  · cases beqT hr; split at h
    · split at h
      · rename_i hret; exact Ex_ireturn hret hd h
      · rename_i hret; exact Ex_zreturn hret h.1 hd h.2
      · exact h.elim
    · exact h.elim
  · cases beqT hr; split at h
    · split at h
      · rename_i hret; exact Ex_areturn hret hd h
      · exact h.elim
    · split at h
      · rename_i hret; exact Ex_areturn (r := some _) hret hd h
      · exact h.elim
    · exact h.elim
  · cases beqT hr; split at h
    · split at h
      · rename_i hret; exact Ex_return hret hd h
      · exact h.elim
    · exact h.elim
  · exact h
theorem bx_ok {J : Nat → List (Option aV) → List aV → aI → aL → Prop} (hw : Wf T g) (hJ : ∀ pc lo st I L, J pc lo st I L → Ex M d kc ks Q pc lo st g I L) : ∀ (r : List aR), cB M r = true → ∀ (lo : List (Option aV)) (st : List aV) (I : aI) (L : aL), bx T M d kc ks Q g J r lo st I L → ∃ row l, r = row :: l ∧ Ex M d kc ks Q row.1 lo st g I L := by
  intro r
  induction r with
  | nil => intro _ lo st I L h; exact h.elim
  | cons row l ih =>
    intro hc lo st I L h
    unfold cB at hc
    simp only [Bool.and_eq_true] at hc
    refine ⟨row, l, rfl, stp_ok hw hJ hc.1 (fun lo st I L h2 => ?_) h⟩
    obtain ⟨row', l', e, h3⟩ := ih hc.2.2 lo st I L h2
    subst e
    rw [beqT hc.2.1]
    exact h3
theorem fr_ok {M : aM} : ∀ (r : List aR) (pc : Nat), cB M r = true → cB M (fr r pc) = true ∧ ∀ row l, fr r pc = row :: l → row.1 = pc := by
  intro r
  induction r with
  | nil => intro pc h; exact ⟨h, fun row l e => by cases e⟩
  | cons row l ih =>
    intro pc h
    unfold fr
    cases hb : Nat.beq row.1 pc with
    | true =>
      simp only [cond_true]
      exact ⟨h, fun row' l' e => by cases e; exact beqT hb⟩
    | false =>
      simp only [cond_false]
      unfold cB at h
      simp only [Bool.and_eq_true] at h
      exact ih pc h.2.2
theorem Ex_bj {pc : Nat} {J : Nat → List (Option aV) → List aV → aI → aL → Prop} (hM : cB M M.code = true) (hw : Wf T g) (hJ : ∀ pc lo st I L, J pc lo st I L → Ex M d kc ks Q pc lo st g I L) (h : bx T M d kc ks Q g J (fr M.code pc) lo st I L) : Ex M d kc ks Q pc lo st g I L := by
  obtain ⟨h1, h2⟩ := fr_ok (M := M) M.code pc hM
  obtain ⟨row, l, e, h3⟩ := bx_ok hw hJ _ h1 lo st I L h
  rw [← h2 row l e]
  exact h3
theorem Ex_blk {pc : Nat} (hM : cB M M.code = true) (hw : Wf T g) (h : bx T M d kc ks Q g (fun pc lo st I L => Ex M d kc ks Q pc lo st g I L) (fr M.code pc) lo st I L) : Ex M d kc ks Q pc lo st g I L := Ex_bj hM hw (fun _ _ _ _ _ h => h) h
theorem Ex_wx (cuts : List Nat) (f : Nat) (hM : cB M M.code = true) (hw : Wf T g) : ∀ {pc : Nat} {lo : List (Option aV)} {st : List aV} {I : aI} {L : aL}, wx T M d kc ks Q g cuts f pc lo st I L → Ex M d kc ks Q pc lo st g I L := by
  induction f with
  | zero => intro pc lo st I L h; exact h
  | succ f ih =>
    intro pc lo st I L h
    refine Ex_bj hM hw (fun pc' lo st I L h2 => ?_) h
    cases hc : hasN cuts pc' with
    | true => rw [hc] at h2; exact h2
    | false => rw [hc] at h2; exact ih h2
theorem bn_ok {J : Nat → List (Option aV) → List aV → aI → aL → Prop} (hw : Wf T g) (hJ : ∀ pc lo st I L, J pc lo st I L → Ex M d kc ks Q pc lo st g I L) : ∀ (n : Nat) (r : List aR), cB M r = true → ∀ (lo : List (Option aV)) (st : List aV) (I : aI) (L : aL), bn T M d kc ks Q g J n r lo st I L → ∃ row l, r = row :: l ∧ Ex M d kc ks Q row.1 lo st g I L := by
  intro n
  induction n with
  | zero =>
    intro r hc lo st I L h
    cases r with
    | nil => exact h.elim
    | cons row l => exact ⟨row, l, rfl, h⟩
  | succ n ih =>
    intro r hc lo st I L h
    cases r with
    | nil => exact h.elim
    | cons row l =>
      unfold cB at hc
      simp only [Bool.and_eq_true] at hc
      refine ⟨row, l, rfl, stp_ok hw hJ hc.1 (fun lo st I L h2 => ?_) h⟩
      obtain ⟨row', l', e, h3⟩ := ih l hc.2.2 lo st I L h2
      subst e
      rw [beqT hc.2.1]
      exact h3
theorem Ex_bn (n : Nat) {pc : Nat} (hM : cB M M.code = true) (hw : Wf T g) (h : bn T M d kc ks Q g (fun pc lo st I L => Ex M d kc ks Q pc lo st g I L) n (fr M.code pc) lo st I L) : Ex M d kc ks Q pc lo st g I L := by
  obtain ⟨h1, h2⟩ := fr_ok (M := M) M.code pc hM
  obtain ⟨row, l, e, h3⟩ := bn_ok hw (fun _ _ _ _ _ h => h) n _ h1 lo st I L h
  rw [← h2 row l e]
  exact h3
end Sound
end
section
def kX0_layersOf : List aR := [(0, .iload_n 0, 1, 0, 0, 0), (1, .tableswitch 76 1 13 #[67, 67, 69, 71, 73, 73, 76, 71, 76, 76, 73, 69, 69], 67, 0, 0, 0), (68, .iconst 1, 1, 1, 0, 0), (69, .ireturn, 1, 0, 0, 0), (70, .iconst 2, 1, 2, 0, 0), (71, .ireturn, 1, 0, 0, 0), (72, .iconst 4, 1, 4, 0, 0), (73, .ireturn, 1, 0, 0, 0), (74, .bipush 8, 2, 8, 0, 0), (76, .ireturn, 1, 0, 0, 0), (77, .iconst 0, 1, 0, 0, 0), (78, .ireturn, 1, 0, 0, 0)]
def mX0_layersOf : aM := (yX0_layersOf, cX0_layersOf, 1, (some .int), [], kX0_layersOf)
set_option maxRecDepth 100000 in
theorem oX0_layersOf : cB mX0_layersOf mX0_layersOf.code = true := by decide +kernel
def kX1_init : List aR := [(0, .aload_n 0, 1, 0, 0, 0), (1, .invokespecial 3, 3, 0, 0, 0), (4, .iconst 0, 1, 0, 0, 0), (5, .iload_n 1, 1, 0, 0, 0), (6, .iload_n 2, 1, 0, 0, 0), (7, .iload_n 3, 1, 0, 0, 0), (8, .iload 4, 2, 0, 0, 0), (10, .invokestatic 9, 3, 0, 0, 0), (13, .istore 5, 2, 0, 0, 0), (15, .iconst 1, 1, 1, 0, 0), (16, .iload_n 1, 1, 0, 0, 0), (17, .iload_n 2, 1, 0, 0, 0), (18, .iload_n 3, 1, 0, 0, 0), (19, .iload 4, 2, 0, 0, 0), (21, .invokestatic 9, 3, 0, 0, 0), (24, .istore 6, 2, 0, 0, 0), (26, .iconst 2, 1, 2, 0, 0), (27, .iload_n 1, 1, 0, 0, 0), (28, .iload_n 2, 1, 0, 0, 0), (29, .iload_n 3, 1, 0, 0, 0), (30, .iload 4, 2, 0, 0, 0), (32, .invokestatic 9, 3, 0, 0, 0), (35, .istore 7, 2, 0, 0, 0), (37, .iconst 3, 1, 3, 0, 0), (38, .iload_n 1, 1, 0, 0, 0), (39, .iload_n 2, 1, 0, 0, 0), (40, .iload_n 3, 1, 0, 0, 0), (41, .iload 4, 2, 0, 0, 0), (43, .invokestatic 9, 3, 0, 0, 0), (46, .istore 8, 2, 0, 0, 0), (48, .aload_n 0, 1, 0, 0, 0), (49, .iconst 0, 1, 0, 0, 0), (50, .iload 5, 2, 0, 0, 0), (52, .invokestatic 15, 3, 0, 0, 0), (55, .iconst 1, 1, 1, 0, 0), (56, .iload 6, 2, 0, 0, 0), (58, .invokestatic 15, 3, 0, 0, 0), (61, .ior, 1, 0, 0, 0), (62, .iconst 2, 1, 2, 0, 0), (63, .iload 7, 2, 0, 0, 0), (65, .invokestatic 15, 3, 0, 0, 0), (68, .ior, 1, 0, 0, 0), (69, .iconst 3, 1, 3, 0, 0), (70, .iload 8, 2, 0, 0, 0), (72, .invokestatic 15, 3, 0, 0, 0), (75, .ior, 1, 0, 0, 0), (76, .putfield 19, 3, 0, 1, 0), (79, .aload_n 0, 1, 0, 0, 0), (80, .iload 5, 2, 0, 0, 0), (82, .iload 8, 2, 0, 0, 0), (84, .if_icmp .ge 7, 3, 0, 91, 0), (87, .iconst 1, 1, 1, 0, 0), (88, .goto 4, 3, 0, 92, 0), (91, .iconst 0, 1, 0, 0, 0), (92, .putfield 23, 3, 0, 1, 1), (95, .aload_n 0, 1, 0, 0, 0), (96, .iload 6, 2, 0, 0, 0), (98, .iload 8, 2, 0, 0, 0), (100, .if_icmp .ge 7, 3, 0, 107, 0), (103, .iconst 1, 1, 1, 0, 0), (104, .goto 4, 3, 0, 108, 0), (107, .iconst 0, 1, 0, 0, 0), (108, .putfield 27, 3, 0, 1, 2), (111, .aload_n 0, 1, 0, 0, 0), (112, .iload 7, 2, 0, 0, 0), (114, .iload 8, 2, 0, 0, 0), (116, .if_icmp .ge 7, 3, 0, 123, 0), (119, .iconst 1, 1, 1, 0, 0), (120, .goto 4, 3, 0, 124, 0), (123, .iconst 0, 1, 0, 0, 0), (124, .putfield 30, 3, 0, 1, 3), (127, .aload_n 0, 1, 0, 0, 0), (128, .iload 8, 2, 0, 0, 0), (130, .iload 5, 2, 0, 0, 0), (132, .if_icmp .ge 13, 3, 0, 145, 0), (135, .iload 5, 2, 0, 0, 0), (137, .iconst 4, 1, 4, 0, 0), (138, .if_icmp .eq 7, 3, 0, 145, 0), (141, .iconst 1, 1, 1, 0, 0), (142, .goto 4, 3, 0, 146, 0), (145, .iconst 0, 1, 0, 0, 0), (146, .putfield 33, 3, 0, 1, 4), (149, .aload_n 0, 1, 0, 0, 0), (150, .iload 8, 2, 0, 0, 0), (152, .iload 6, 2, 0, 0, 0), (154, .if_icmp .ge 13, 3, 0, 167, 0), (157, .iload 6, 2, 0, 0, 0), (159, .iconst 4, 1, 4, 0, 0), (160, .if_icmp .eq 7, 3, 0, 167, 0), (163, .iconst 1, 1, 1, 0, 0), (164, .goto 4, 3, 0, 168, 0), (167, .iconst 0, 1, 0, 0, 0), (168, .putfield 36, 3, 0, 1, 5), (171, .aload_n 0, 1, 0, 0, 0), (172, .iload 5, 2, 0, 0, 0), (174, .iload 7, 2, 0, 0, 0), (176, .if_icmp .ge 13, 3, 0, 189, 0), (179, .iload 7, 2, 0, 0, 0), (181, .iconst 4, 1, 4, 0, 0), (182, .if_icmp .eq 7, 3, 0, 189, 0), (185, .iconst 1, 1, 1, 0, 0), (186, .goto 4, 3, 0, 190, 0), (189, .iconst 0, 1, 0, 0, 0), (190, .putfield 39, 3, 0, 1, 6), (193, .aload_n 0, 1, 0, 0, 0), (194, .iload 6, 2, 0, 0, 0), (196, .iload 7, 2, 0, 0, 0), (198, .if_icmp .ge 13, 3, 0, 211, 0), (201, .iload 7, 2, 0, 0, 0), (203, .iconst 4, 1, 4, 0, 0), (204, .if_icmp .eq 7, 3, 0, 211, 0), (207, .iconst 1, 1, 1, 0, 0), (208, .goto 4, 3, 0, 212, 0), (211, .iconst 0, 1, 0, 0, 0), (212, .putfield 42, 3, 0, 1, 7), (215, .return_, 1, 0, 0, 0)]
def mX1_init : aM := (yX1_init, cX1_init, 9, none, [], kX1_init)
set_option maxRecDepth 100000 in
theorem oX1_init : cB mX1_init mX1_init.code = true := by decide +kernel
def kX1_placeOf : List aR := [(0, .iload_n 1, 1, 0, 0, 0), (1, .iload_n 0, 1, 0, 0, 0), (2, .if_icmp .ne 7, 3, 0, 9, 0), (5, .iconst 0, 1, 0, 0, 0), (6, .goto 32, 3, 0, 38, 0), (9, .iload_n 2, 1, 0, 0, 0), (10, .iload_n 0, 1, 0, 0, 0), (11, .if_icmp .ne 7, 3, 0, 18, 0), (14, .iconst 1, 1, 1, 0, 0), (15, .goto 23, 3, 0, 38, 0), (18, .iload_n 3, 1, 0, 0, 0), (19, .iload_n 0, 1, 0, 0, 0), (20, .if_icmp .ne 7, 3, 0, 27, 0), (23, .iconst 2, 1, 2, 0, 0), (24, .goto 14, 3, 0, 38, 0), (27, .iload 4, 2, 0, 0, 0), (29, .iload_n 0, 1, 0, 0, 0), (30, .if_icmp .ne 7, 3, 0, 37, 0), (33, .iconst 3, 1, 3, 0, 0), (34, .goto 4, 3, 0, 38, 0), (37, .iconst 4, 1, 4, 0, 0), (38, .ireturn, 1, 0, 0, 0)]
def mX1_placeOf : aM := (yX1_placeOf, cX1_placeOf, 5, (some .int), [], kX1_placeOf)
set_option maxRecDepth 100000 in
theorem oX1_placeOf : cB mX1_placeOf mX1_placeOf.code = true := by decide +kernel
def kX1_bitAt : List aR := [(0, .iload_n 1, 1, 0, 0, 0), (1, .iconst 4, 1, 4, 0, 0), (2, .if_icmp .ne 7, 3, 0, 9, 0), (5, .iconst 0, 1, 0, 0, 0), (6, .goto 6, 3, 0, 12, 0), (9, .iconst 1, 1, 1, 0, 0), (10, .iload_n 0, 1, 0, 0, 0), (11, .ishl, 1, 0, 0, 0), (12, .ireturn, 1, 0, 0, 0)]
def mX1_bitAt : aM := (yX1_bitAt, cX1_bitAt, 2, (some .int), [], kX1_bitAt)
set_option maxRecDepth 100000 in
theorem oX1_bitAt : cB mX1_bitAt mX1_bitAt.code = true := by decide +kernel
def kX2_init : List aR := [(0, .aload_n 0, 1, 0, 0, 0), (1, .invokespecial 3, 3, 0, 0, 0), (4, .aload_n 0, 1, 0, 0, 0), (5, .sipush 2001, 3, 2001, 0, 0), (8, .newarray .int, 2, 0, 0, 0), (10, .putfield 11, 3, 0, 2, 0), (13, .aload_n 0, 1, 0, 0, 0), (14, .sipush 2001, 3, 2001, 0, 0), (17, .newarray .int, 2, 0, 0, 0), (19, .putfield 15, 3, 0, 2, 1), (22, .aload_n 0, 1, 0, 0, 0), (23, .sipush 2001, 3, 2001, 0, 0), (26, .newarray .int, 2, 0, 0, 0), (28, .putfield 18, 3, 0, 2, 2), (31, .aload_n 0, 1, 0, 0, 0), (32, .iconst 1, 1, 1, 0, 0), (33, .putfield 21, 3, 0, 2, 3), (36, .return_, 1, 0, 0, 0)]
def mX2_init : aM := (yX2_init, cX2_init, 1, none, [], kX2_init)
set_option maxRecDepth 100000 in
theorem oX2_init : cB mX2_init mX2_init.code = true := by decide +kernel
def kX2_clear : List aR := [(0, .aload_n 0, 1, 0, 0, 0), (1, .iconst 1, 1, 1, 0, 0), (2, .putfield 21, 3, 0, 2, 3), (5, .return_, 1, 0, 0, 0)]
def mX2_clear : aM := (yX2_clear, cX2_clear, 1, none, [], kX2_clear)
set_option maxRecDepth 100000 in
theorem oX2_clear : cB mX2_clear mX2_clear.code = true := by decide +kernel
def kX2_has : List aR := [(0, .iload_n 1, 1, 0, 0, 0), (1, .ifCond .le 22, 3, 0, 23, 0), (4, .iload_n 1, 1, 0, 0, 0), (5, .aload_n 0, 1, 0, 0, 0), (6, .getfield 21, 3, 0, 2, 3), (9, .if_icmp .ge 14, 3, 0, 23, 0), (12, .iload_n 1, 1, 0, 0, 0), (13, .sipush 2001, 3, 2001, 0, 0), (16, .if_icmp .ge 7, 3, 0, 23, 0), (19, .iconst 1, 1, 1, 0, 0), (20, .goto 4, 3, 0, 24, 0), (23, .iconst 0, 1, 0, 0, 0), (24, .ireturn, 1, 0, 0, 0)]
def mX2_has : aM := (yX2_has, cX2_has, 2, (some .boolean), [], kX2_has)
set_option maxRecDepth 100000 in
theorem oX2_has : cB mX2_has mX2_has.code = true := by decide +kernel
def kX2_lengthOf : List aR := [(0, .aload_n 0, 1, 0, 0, 0), (1, .iload_n 1, 1, 0, 0, 0), (2, .invokevirtual 25, 3, 0, 0, 0), (5, .ifCond .eq 12, 3, 0, 17, 0), (8, .aload_n 0, 1, 0, 0, 0), (9, .getfield 18, 3, 0, 2, 2), (12, .iload_n 1, 1, 0, 0, 0), (13, .iaload, 1, 0, 0, 0), (14, .goto 4, 3, 0, 18, 0), (17, .iconst 0, 1, 0, 0, 0), (18, .ireturn, 1, 0, 0, 0)]
def mX2_lengthOf : aM := (yX2_lengthOf, cX2_lengthOf, 2, (some .int), [], kX2_lengthOf)
set_option maxRecDepth 100000 in
theorem oX2_lengthOf : cB mX2_lengthOf mX2_lengthOf.code = true := by decide +kernel
def kX2_lastOf : List aR := [(0, .aload_n 0, 1, 0, 0, 0), (1, .iload_n 1, 1, 0, 0, 0), (2, .invokevirtual 25, 3, 0, 0, 0), (5, .ifCond .eq 12, 3, 0, 17, 0), (8, .aload_n 0, 1, 0, 0, 0), (9, .getfield 11, 3, 0, 2, 0), (12, .iload_n 1, 1, 0, 0, 0), (13, .iaload, 1, 0, 0, 0), (14, .goto 4, 3, 0, 18, 0), (17, .iconst 0, 1, 0, 0, 0), (18, .ireturn, 1, 0, 0, 0)]
def mX2_lastOf : aM := (yX2_lastOf, cX2_lastOf, 2, (some .int), [], kX2_lastOf)
set_option maxRecDepth 100000 in
theorem oX2_lastOf : cB mX2_lastOf mX2_lastOf.code = true := by decide +kernel
def kX2_withoutLast : List aR := [(0, .aload_n 0, 1, 0, 0, 0), (1, .iload_n 1, 1, 0, 0, 0), (2, .invokevirtual 25, 3, 0, 0, 0), (5, .ifCond .eq 12, 3, 0, 17, 0), (8, .aload_n 0, 1, 0, 0, 0), (9, .getfield 15, 3, 0, 2, 1), (12, .iload_n 1, 1, 0, 0, 0), (13, .iaload, 1, 0, 0, 0), (14, .goto 4, 3, 0, 18, 0), (17, .iconst 0, 1, 0, 0, 0), (18, .ireturn, 1, 0, 0, 0)]
def mX2_withoutLast : aM := (yX2_withoutLast, cX2_withoutLast, 2, (some .int), [], kX2_withoutLast)
set_option maxRecDepth 100000 in
theorem oX2_withoutLast : cB mX2_withoutLast mX2_withoutLast.code = true := by decide +kernel
def kX2_with : List aR := [(0, .aload_n 0, 1, 0, 0, 0), (1, .iload_n 1, 1, 0, 0, 0), (2, .invokevirtual 29, 3, 0, 0, 0), (5, .iconst 1, 1, 1, 0, 0), (6, .iadd, 1, 0, 0, 0), (7, .istore_n 3, 1, 0, 0, 0), (8, .iload_n 3, 1, 0, 0, 0), (9, .bipush 60, 2, 60, 0, 0), (11, .if_icmp .gt 21, 3, 0, 32, 0), (14, .aload_n 0, 1, 0, 0, 0), (15, .getfield 21, 3, 0, 2, 3), (18, .iconst 1, 1, 1, 0, 0), (19, .if_icmp .lt 13, 3, 0, 32, 0), (22, .aload_n 0, 1, 0, 0, 0), (23, .getfield 21, 3, 0, 2, 3), (26, .sipush 2001, 3, 2001, 0, 0), (29, .if_icmp .lt 5, 3, 0, 34, 0), (32, .iconst (-1), 1, -1, 0, 0), (33, .ireturn, 1, 0, 0, 0), (34, .aload_n 0, 1, 0, 0, 0), (35, .getfield 11, 3, 0, 2, 0), (38, .aload_n 0, 1, 0, 0, 0), (39, .getfield 21, 3, 0, 2, 3), (42, .iload_n 2, 1, 0, 0, 0), (43, .iastore, 1, 0, 0, 0), (44, .aload_n 0, 1, 0, 0, 0), (45, .getfield 15, 3, 0, 2, 1), (48, .aload_n 0, 1, 0, 0, 0), (49, .getfield 21, 3, 0, 2, 3), (52, .iload_n 1, 1, 0, 0, 0), (53, .iastore, 1, 0, 0, 0), (54, .aload_n 0, 1, 0, 0, 0), (55, .getfield 18, 3, 0, 2, 2), (58, .aload_n 0, 1, 0, 0, 0), (59, .getfield 21, 3, 0, 2, 3), (62, .iload_n 3, 1, 0, 0, 0), (63, .iastore, 1, 0, 0, 0), (64, .aload_n 0, 1, 0, 0, 0), (65, .dup, 1, 0, 0, 0), (66, .getfield 21, 3, 0, 2, 3), (69, .iconst 1, 1, 1, 0, 0), (70, .iadd, 1, 0, 0, 0), (71, .putfield 21, 3, 0, 2, 3), (74, .aload_n 0, 1, 0, 0, 0), (75, .getfield 21, 3, 0, 2, 3), (78, .iconst 1, 1, 1, 0, 0), (79, .isub, 1, 0, 0, 0), (80, .ireturn, 1, 0, 0, 0)]
def mX2_with : aM := (yX2_with, cX2_with, 4, (some .int), [], kX2_with)
set_option maxRecDepth 100000 in
theorem oX2_with : cB mX2_with mX2_with.code = true := by decide +kernel
def kX3_init : List aR := [(0, .aload_n 0, 1, 0, 0, 0), (1, .invokespecial 3, 3, 0, 0, 0), (4, .aload_n 0, 1, 0, 0, 0), (5, .new 9, 3, 0, 0, 0), (8, .dup, 1, 0, 0, 0), (9, .invokespecial 11, 3, 0, 0, 0), (12, .putfield 12, 3, 0, 3, 0), (15, .aload_n 0, 1, 0, 0, 0), (16, .new 18, 3, 0, 0, 0), (19, .dup, 1, 0, 0, 0), (20, .invokespecial 20, 3, 0, 0, 0), (23, .putfield 21, 3, 0, 3, 1), (26, .aload_n 0, 1, 0, 0, 0), (27, .bipush 8, 2, 8, 0, 0), (29, .newarray .int, 2, 0, 0, 0), (31, .putfield 25, 3, 0, 3, 2), (34, .aload_n 0, 1, 0, 0, 0), (35, .new 29, 3, 0, 0, 0), (38, .dup, 1, 0, 0, 0), (39, .iconst (-1), 1, -1, 0, 0), (40, .iconst (-1), 1, -1, 0, 0), (41, .iconst (-1), 1, -1, 0, 0), (42, .iconst (-1), 1, -1, 0, 0), (43, .invokespecial 31, 3, 0, 0, 0), (46, .putfield 34, 3, 0, 3, 3), (49, .return_, 1, 0, 0, 0)]
def mX3_init : aM := (yX3_init, cX3_init, 1, none, [], kX3_init)
set_option maxRecDepth 100000 in
theorem oX3_init : cB mX3_init mX3_init.code = true := by decide +kernel
def kX3_carryOut : List aR := [(0, .aload_n 0, 1, 0, 0, 0), (1, .aload_n 2, 1, 0, 0, 0), (2, .putfield 34, 3, 0, 3, 3), (5, .aload_n 0, 1, 0, 0, 0), (6, .iload_n 3, 1, 0, 0, 0), (7, .putfield 38, 3, 0, 3, 4), (10, .aload_n 0, 1, 0, 0, 0), (11, .iload 4, 2, 0, 0, 0), (13, .putfield 42, 3, 0, 3, 6), (16, .aload_n 0, 1, 0, 0, 0), (17, .invokevirtual 45, 3, 0, 0, 0), (20, .aload_n 0, 1, 0, 0, 0), (21, .aload_n 1, 1, 0, 0, 0), (22, .invokevirtual 48, 3, 0, 0, 0), (25, .istore 6, 2, 0, 0, 0), (27, .aload 5, 2, 0, 0, 0), (29, .iload 6, 2, 0, 0, 0), (31, .ifCond .ne 13, 3, 0, 44, 0), (34, .aload_n 0, 1, 0, 0, 0), (35, .getfield 12, 3, 0, 3, 0), (38, .invokevirtual 52, 3, 0, 0, 0), (41, .goto 5, 3, 0, 46, 0), (44, .iload 6, 2, 0, 0, 0), (46, .putfield 56, 3, 0, 4, 0), (49, .iload 6, 2, 0, 0, 0), (51, .bipush (-3), 2, -3, 0, 0), (53, .if_icmp .eq 9, 3, 0, 62, 0), (56, .aload_n 0, 1, 0, 0, 0), (57, .aload 5, 2, 0, 0, 0), (59, .invokevirtual 61, 3, 0, 0, 0), (62, .return_, 1, 0, 0, 0)]
def mX3_carryOut : aM := (yX3_carryOut, cX3_carryOut, 7, none, [], kX3_carryOut)
set_option maxRecDepth 100000 in
theorem oX3_carryOut : cB mX3_carryOut mX3_carryOut.code = true := by decide +kernel
def kX3_clear : List aR := [(0, .aload_n 0, 1, 0, 0, 0), (1, .iconst 0, 1, 0, 0, 0), (2, .putfield 65, 3, 0, 3, 7), (5, .aload_n 0, 1, 0, 0, 0), (6, .iconst 0, 1, 0, 0, 0), (7, .putfield 68, 3, 0, 3, 8), (10, .aload_n 0, 1, 0, 0, 0), (11, .iconst 0, 1, 0, 0, 0), (12, .putfield 71, 3, 0, 3, 5), (15, .aload_n 0, 1, 0, 0, 0), (16, .getfield 21, 3, 0, 3, 1), (19, .invokevirtual 74, 3, 0, 0, 0), (22, .aload_n 0, 1, 0, 0, 0), (23, .getfield 12, 3, 0, 3, 0), (26, .iconst 0, 1, 0, 0, 0), (27, .invokevirtual 75, 3, 0, 0, 0), (30, .iconst 0, 1, 0, 0, 0), (31, .istore_n 1, 1, 0, 0, 0), (32, .iload_n 1, 1, 0, 0, 0), (33, .bipush 8, 2, 8, 0, 0), (35, .if_icmp .ge 16, 3, 0, 51, 0), (38, .aload_n 0, 1, 0, 0, 0), (39, .getfield 25, 3, 0, 3, 2), (42, .iload_n 1, 1, 0, 0, 0), (43, .iconst 0, 1, 0, 0, 0), (44, .iastore, 1, 0, 0, 0), (45, .iinc 1 1, 3, 1, 0, 0), (48, .goto (-16), 3, 0, 32, 0), (51, .return_, 1, 0, 0, 0)]
def mX3_clear : aM := (yX3_clear, cX3_clear, 2, none, [], kX3_clear)
set_option maxRecDepth 100000 in
theorem oX3_clear : cB mX3_clear mX3_clear.code = true := by decide +kernel
def kX3_tell : List aR := [(0, .aload_n 0, 1, 0, 0, 0), (1, .aload_n 1, 1, 0, 0, 0), (2, .getfield 79, 3, 0, 4, 1), (5, .aload_n 1, 1, 0, 0, 0), (6, .getfield 56, 3, 0, 4, 0), (9, .bipush (-2), 2, -2, 0, 0), (11, .if_icmp .ne 7, 3, 0, 18, 0), (14, .iconst 1, 1, 1, 0, 0), (15, .goto 4, 3, 0, 19, 0), (18, .iconst 0, 1, 0, 0, 0), (19, .invokevirtual 83, 3, 0, 0, 0), (22, .iconst 0, 1, 0, 0, 0), (23, .istore_n 2, 1, 0, 0, 0), (24, .iload_n 2, 1, 0, 0, 0), (25, .aload_n 1, 1, 0, 0, 0), (26, .getfield 56, 3, 0, 4, 0), (29, .if_icmp .ge 26, 3, 0, 55, 0), (32, .iload_n 2, 1, 0, 0, 0), (33, .bipush 50, 2, 50, 0, 0), (35, .if_icmp .ge 20, 3, 0, 55, 0), (38, .aload_n 0, 1, 0, 0, 0), (39, .aload_n 1, 1, 0, 0, 0), (40, .getfield 87, 3, 0, 4, 2), (43, .iload_n 2, 1, 0, 0, 0), (44, .aaload, 1, 0, 0, 0), (45, .iload_n 2, 1, 0, 0, 0), (46, .invokevirtual 91, 3, 0, 0, 0), (49, .iinc 2 1, 3, 1, 0, 0), (52, .goto (-28), 3, 0, 24, 0), (55, .return_, 1, 0, 0, 0)]
def mX3_tell : aM := (yX3_tell, cX3_tell, 3, none, [], kX3_tell)
set_option maxRecDepth 100000 in
theorem oX3_tell : cB mX3_tell mX3_tell.code = true := by decide +kernel
def kX3_tellCommon : List aR := [(0, .aload_n 1, 1, 0, 0, 0), (1, .iload_n 2, 1, 0, 0, 0), (2, .ifCond .eq 10, 3, 0, 12, 0), (5, .aload_n 0, 1, 0, 0, 0), (6, .getfield 68, 3, 0, 3, 8), (9, .goto 4, 3, 0, 13, 0), (12, .iconst 0, 1, 0, 0, 0), (13, .aload_n 0, 1, 0, 0, 0), (14, .getfield 65, 3, 0, 3, 7), (17, .invokevirtual 95, 3, 0, 0, 0), (20, .aload_n 1, 1, 0, 0, 0), (21, .aload_n 0, 1, 0, 0, 0), (22, .getfield 34, 3, 0, 3, 3), (25, .getfield 101, 3, 0, 1, 4), (28, .ifCond .eq 21, 3, 0, 49, 0), (31, .iload_n 2, 1, 0, 0, 0), (32, .ifCond .eq 13, 3, 0, 45, 0), (35, .aload_n 0, 1, 0, 0, 0), (36, .getfield 34, 3, 0, 3, 3), (39, .getfield 105, 3, 0, 1, 6), (42, .ifCond .ne 7, 3, 0, 49, 0), (45, .iconst 1, 1, 1, 0, 0), (46, .goto 4, 3, 0, 50, 0), (49, .iconst 0, 1, 0, 0, 0), (50, .aload_n 0, 1, 0, 0, 0), (51, .getfield 38, 3, 0, 3, 4), (54, .invokevirtual 108, 3, 0, 0, 0), (57, .aload_n 1, 1, 0, 0, 0), (58, .aload_n 0, 1, 0, 0, 0), (59, .getfield 34, 3, 0, 3, 3), (62, .getfield 112, 3, 0, 1, 5), (65, .ifCond .eq 21, 3, 0, 86, 0), (68, .iload_n 2, 1, 0, 0, 0), (69, .ifCond .eq 13, 3, 0, 82, 0), (72, .aload_n 0, 1, 0, 0, 0), (73, .getfield 34, 3, 0, 3, 3), (76, .getfield 115, 3, 0, 1, 7), (79, .ifCond .ne 7, 3, 0, 86, 0), (82, .iconst 1, 1, 1, 0, 0), (83, .goto 4, 3, 0, 87, 0), (86, .iconst 0, 1, 0, 0, 0), (87, .aload_n 0, 1, 0, 0, 0), (88, .getfield 21, 3, 0, 3, 1), (91, .aload_n 0, 1, 0, 0, 0), (92, .getfield 71, 3, 0, 3, 5), (95, .invokevirtual 118, 3, 0, 0, 0), (98, .return_, 1, 0, 0, 0)]
def mX3_tellCommon : aM := (yX3_tellCommon, cX3_tellCommon, 3, none, [], kX3_tellCommon)
set_option maxRecDepth 100000 in
theorem oX3_tellCommon : cB mX3_tellCommon mX3_tellCommon.code = true := by decide +kernel
def kX3_tellResult : List aR := [(0, .aload_n 0, 1, 0, 0, 0), (1, .getfield 12, 3, 0, 3, 0), (4, .iload_n 2, 1, 0, 0, 0), (5, .invokevirtual 122, 3, 0, 0, 0), (8, .istore_n 3, 1, 0, 0, 0), (9, .aload_n 1, 1, 0, 0, 0), (10, .aload_n 0, 1, 0, 0, 0), (11, .getfield 12, 3, 0, 3, 0), (14, .iload_n 2, 1, 0, 0, 0), (15, .invokevirtual 126, 3, 0, 0, 0), (18, .iload_n 3, 1, 0, 0, 0), (19, .ifCond .eq 7, 3, 0, 26, 0), (22, .iconst 1, 1, 1, 0, 0), (23, .goto 4, 3, 0, 27, 0), (26, .iconst 0, 1, 0, 0, 0), (27, .invokevirtual 95, 3, 0, 0, 0), (30, .aload_n 1, 1, 0, 0, 0), (31, .aload_n 0, 1, 0, 0, 0), (32, .getfield 34, 3, 0, 3, 3), (35, .getfield 130, 3, 0, 1, 1), (38, .ifCond .eq 21, 3, 0, 59, 0), (41, .iload_n 3, 1, 0, 0, 0), (42, .ifCond .eq 13, 3, 0, 55, 0), (45, .aload_n 0, 1, 0, 0, 0), (46, .getfield 34, 3, 0, 3, 3), (49, .getfield 105, 3, 0, 1, 6), (52, .ifCond .ne 7, 3, 0, 59, 0), (55, .iconst 1, 1, 1, 0, 0), (56, .goto 4, 3, 0, 60, 0), (59, .iconst 0, 1, 0, 0, 0), (60, .aload_n 0, 1, 0, 0, 0), (61, .getfield 12, 3, 0, 3, 0), (64, .iload_n 2, 1, 0, 0, 0), (65, .invokevirtual 133, 3, 0, 0, 0), (68, .invokevirtual 108, 3, 0, 0, 0), (71, .aload_n 1, 1, 0, 0, 0), (72, .aload_n 0, 1, 0, 0, 0), (73, .getfield 34, 3, 0, 3, 3), (76, .getfield 136, 3, 0, 1, 2), (79, .ifCond .eq 21, 3, 0, 100, 0), (82, .iload_n 3, 1, 0, 0, 0), (83, .ifCond .eq 13, 3, 0, 96, 0), (86, .aload_n 0, 1, 0, 0, 0), (87, .getfield 34, 3, 0, 3, 3), (90, .getfield 115, 3, 0, 1, 7), (93, .ifCond .ne 7, 3, 0, 100, 0), (96, .iconst 1, 1, 1, 0, 0), (97, .goto 4, 3, 0, 101, 0), (100, .iconst 0, 1, 0, 0, 0), (101, .aload_n 0, 1, 0, 0, 0), (102, .getfield 21, 3, 0, 3, 1), (105, .aload_n 0, 1, 0, 0, 0), (106, .getfield 12, 3, 0, 3, 0), (109, .iload_n 2, 1, 0, 0, 0), (110, .invokevirtual 139, 3, 0, 0, 0), (113, .invokevirtual 118, 3, 0, 0, 0), (116, .return_, 1, 0, 0, 0)]
def mX3_tellResult : aM := (yX3_tellResult, cX3_tellResult, 4, none, [], kX3_tellResult)
set_option maxRecDepth 100000 in
theorem oX3_tellResult : cB mX3_tellResult mX3_tellResult.code = true := by decide +kernel
def kX3_perform : List aR := [(0, .aload_n 1, 1, 0, 0, 0), (1, .ifnull 14, 3, 0, 15, 0), (4, .aload_n 0, 1, 0, 0, 0), (5, .getfield 65, 3, 0, 3, 7), (8, .aload_n 0, 1, 0, 0, 0), (9, .getfield 42, 3, 0, 3, 6), (12, .if_icmp .lt 6, 3, 0, 18, 0), (15, .bipush (-3), 2, -3, 0, 0), (17, .ireturn, 1, 0, 0, 0), (18, .aload_n 0, 1, 0, 0, 0), (19, .dup, 1, 0, 0, 0), (20, .getfield 65, 3, 0, 3, 7), (23, .iconst 1, 1, 1, 0, 0), (24, .iadd, 1, 0, 0, 0), (25, .putfield 65, 3, 0, 3, 7), (28, .aload_n 1, 1, 0, 0, 0), (29, .getfield 142, 3, 0, 7, 0), (32, .tableswitch 192 0 13 #[72, 82, 91, 101, 111, 121, 123, 129, 135, 141, 168, 174, 180, 186], 72, 0, 0, 0), (104, .aload_n 0, 1, 0, 0, 0), (105, .aload_n 0, 1, 0, 0, 0), (106, .aload_n 1, 1, 0, 0, 0), (107, .invokevirtual 147, 3, 0, 0, 0), (110, .invokevirtual 150, 3, 0, 0, 0), (113, .ireturn, 1, 0, 0, 0), (114, .aload_n 0, 1, 0, 0, 0), (115, .aload_n 0, 1, 0, 0, 0), (116, .getfield 38, 3, 0, 3, 4), (119, .invokevirtual 150, 3, 0, 0, 0), (122, .ireturn, 1, 0, 0, 0), (123, .aload_n 0, 1, 0, 0, 0), (124, .aload_n 0, 1, 0, 0, 0), (125, .aload_n 1, 1, 0, 0, 0), (126, .invokevirtual 147, 3, 0, 0, 0), (129, .invokevirtual 152, 3, 0, 0, 0), (132, .ireturn, 1, 0, 0, 0), (133, .aload_n 0, 1, 0, 0, 0), (134, .aload_n 0, 1, 0, 0, 0), (135, .aload_n 1, 1, 0, 0, 0), (136, .invokevirtual 147, 3, 0, 0, 0), (139, .invokevirtual 155, 3, 0, 0, 0), (142, .ireturn, 1, 0, 0, 0), (143, .aload_n 0, 1, 0, 0, 0), (144, .aload_n 0, 1, 0, 0, 0), (145, .aload_n 1, 1, 0, 0, 0), (146, .invokevirtual 147, 3, 0, 0, 0), (149, .invokevirtual 158, 3, 0, 0, 0), (152, .ireturn, 1, 0, 0, 0), (153, .iconst 0, 1, 0, 0, 0), (154, .ireturn, 1, 0, 0, 0), (155, .aload_n 0, 1, 0, 0, 0), (156, .aload_n 1, 1, 0, 0, 0), (157, .invokevirtual 161, 3, 0, 0, 0), (160, .ireturn, 1, 0, 0, 0), (161, .aload_n 0, 1, 0, 0, 0), (162, .aload_n 1, 1, 0, 0, 0), (163, .invokevirtual 164, 3, 0, 0, 0), (166, .ireturn, 1, 0, 0, 0), (167, .aload_n 0, 1, 0, 0, 0), (168, .aload_n 1, 1, 0, 0, 0), (169, .invokevirtual 167, 3, 0, 0, 0), (172, .ireturn, 1, 0, 0, 0), (173, .aload_n 0, 1, 0, 0, 0), (174, .aload_n 0, 1, 0, 0, 0), (175, .aload_n 1, 1, 0, 0, 0), (176, .getfield 170, 3, 0, 7, 3), (179, .invokevirtual 173, 3, 0, 0, 0), (182, .ifCond .eq 10, 3, 0, 192, 0), (185, .aload_n 1, 1, 0, 0, 0), (186, .getfield 174, 3, 0, 7, 4), (189, .goto 7, 3, 0, 196, 0), (192, .aload_n 1, 1, 0, 0, 0), (193, .getfield 178, 3, 0, 7, 5), (196, .invokevirtual 48, 3, 0, 0, 0), (199, .ireturn, 1, 0, 0, 0), (200, .aload_n 0, 1, 0, 0, 0), (201, .aload_n 1, 1, 0, 0, 0), (202, .invokevirtual 181, 3, 0, 0, 0), (205, .ireturn, 1, 0, 0, 0), (206, .aload_n 0, 1, 0, 0, 0), (207, .aload_n 1, 1, 0, 0, 0), (208, .invokevirtual 184, 3, 0, 0, 0), (211, .ireturn, 1, 0, 0, 0), (212, .aload_n 0, 1, 0, 0, 0), (213, .aload_n 1, 1, 0, 0, 0), (214, .invokevirtual 187, 3, 0, 0, 0), (217, .ireturn, 1, 0, 0, 0), (218, .aload_n 0, 1, 0, 0, 0), (219, .aload_n 1, 1, 0, 0, 0), (220, .invokevirtual 190, 3, 0, 0, 0), (223, .ireturn, 1, 0, 0, 0), (224, .aload_n 0, 1, 0, 0, 0), (225, .aload_n 1, 1, 0, 0, 0), (226, .getfield 142, 3, 0, 7, 0), (229, .aload_n 0, 1, 0, 0, 0), (230, .aload_n 1, 1, 0, 0, 0), (231, .invokevirtual 147, 3, 0, 0, 0), (234, .aload_n 0, 1, 0, 0, 0), (235, .aload_n 1, 1, 0, 0, 0), (236, .getfield 170, 3, 0, 7, 3), (239, .invokevirtual 173, 3, 0, 0, 0), (242, .invokestatic 193, 3, 0, 0, 0), (245, .invokevirtual 150, 3, 0, 0, 0), (248, .ireturn, 1, 0, 0, 0)]
def mX3_perform : aM := (yX3_perform, cX3_perform, 2, (some .int), [], kX3_perform)
set_option maxRecDepth 100000 in
theorem oX3_perform : cB mX3_perform mX3_perform.code = true := by decide +kernel
def kX3_numberOf : List aR := [(0, .iload_n 1, 1, 0, 0, 0), (1, .ifCond .lt 18, 3, 0, 19, 0), (4, .iload_n 1, 1, 0, 0, 0), (5, .bipush 8, 2, 8, 0, 0), (7, .if_icmp .ge 12, 3, 0, 19, 0), (10, .aload_n 0, 1, 0, 0, 0), (11, .getfield 25, 3, 0, 3, 2), (14, .iload_n 1, 1, 0, 0, 0), (15, .iaload, 1, 0, 0, 0), (16, .goto 4, 3, 0, 20, 0), (19, .iconst 0, 1, 0, 0, 0), (20, .ireturn, 1, 0, 0, 0)]
def mX3_numberOf : aM := (yX3_numberOf, cX3_numberOf, 2, (some .int), [], kX3_numberOf)
set_option maxRecDepth 100000 in
theorem oX3_numberOf : cB mX3_numberOf mX3_numberOf.code = true := by decide +kernel
def kX3_operandOf : List aR := [(0, .aload_n 1, 1, 0, 0, 0), (1, .getfield 197, 3, 0, 7, 1), (4, .ifCond .eq 14, 3, 0, 18, 0), (7, .aload_n 0, 1, 0, 0, 0), (8, .aload_n 1, 1, 0, 0, 0), (9, .getfield 200, 3, 0, 7, 2), (12, .invokevirtual 173, 3, 0, 0, 0), (15, .goto 7, 3, 0, 22, 0), (18, .aload_n 1, 1, 0, 0, 0), (19, .getfield 200, 3, 0, 7, 2), (22, .ireturn, 1, 0, 0, 0)]
def mX3_operandOf : aM := (yX3_operandOf, cX3_operandOf, 2, (some .int), [], kX3_operandOf)
set_option maxRecDepth 100000 in
theorem oX3_operandOf : cB mX3_operandOf mX3_operandOf.code = true := by decide +kernel
def kX3_reckon : List aR := [(0, .iload_n 0, 1, 0, 0, 0), (1, .tableswitch 54 14 17 #[31, 35, 39, 43], 31, 0, 0, 0), (32, .iload_n 1, 1, 0, 0, 0), (33, .iload_n 2, 1, 0, 0, 0), (34, .iadd, 1, 0, 0, 0), (35, .ireturn, 1, 0, 0, 0), (36, .iload_n 1, 1, 0, 0, 0), (37, .iload_n 2, 1, 0, 0, 0), (38, .isub, 1, 0, 0, 0), (39, .ireturn, 1, 0, 0, 0), (40, .iload_n 1, 1, 0, 0, 0), (41, .iload_n 2, 1, 0, 0, 0), (42, .imul, 1, 0, 0, 0), (43, .ireturn, 1, 0, 0, 0), (44, .iload_n 1, 1, 0, 0, 0), (45, .iload_n 2, 1, 0, 0, 0), (46, .if_icmp .ge 7, 3, 0, 53, 0), (49, .iconst 1, 1, 1, 0, 0), (50, .goto 4, 3, 0, 54, 0), (53, .iconst 0, 1, 0, 0, 0), (54, .ireturn, 1, 0, 0, 0), (55, .iload_n 1, 1, 0, 0, 0), (56, .iload_n 2, 1, 0, 0, 0), (57, .if_icmp .ne 7, 3, 0, 64, 0), (60, .iconst 1, 1, 1, 0, 0), (61, .goto 4, 3, 0, 65, 0), (64, .iconst 0, 1, 0, 0, 0), (65, .ireturn, 1, 0, 0, 0)]
def mX3_reckon : aM := (yX3_reckon, cX3_reckon, 3, (some .int), [], kX3_reckon)
set_option maxRecDepth 100000 in
theorem oX3_reckon : cB mX3_reckon mX3_reckon.code = true := by decide +kernel
def kX3_answer : List aR := [(0, .aload_n 0, 1, 0, 0, 0), (1, .getfield 12, 3, 0, 3, 0), (4, .iload_n 1, 1, 0, 0, 0), (5, .iconst 0, 1, 0, 0, 0), (6, .aload_n 0, 1, 0, 0, 0), (7, .getfield 38, 3, 0, 3, 4), (10, .aload_n 0, 1, 0, 0, 0), (11, .getfield 71, 3, 0, 3, 5), (14, .invokevirtual 203, 3, 0, 0, 0), (17, .ifCond .eq 7, 3, 0, 24, 0), (20, .iconst 0, 1, 0, 0, 0), (21, .goto 5, 3, 0, 26, 0), (24, .bipush (-3), 2, -3, 0, 0), (26, .ireturn, 1, 0, 0, 0)]
def mX3_answer : aM := (yX3_answer, cX3_answer, 2, (some .int), [], kX3_answer)
set_option maxRecDepth 100000 in
theorem oX3_answer : cB mX3_answer mX3_answer.code = true := by decide +kernel
def kX3_performWrite : List aR := [(0, .aload_n 0, 1, 0, 0, 0), (1, .getfield 38, 3, 0, 3, 4), (4, .istore_n 2, 1, 0, 0, 0), (5, .aload_n 0, 1, 0, 0, 0), (6, .iload_n 1, 1, 0, 0, 0), (7, .putfield 38, 3, 0, 3, 4), (10, .aload_n 0, 1, 0, 0, 0), (11, .iload_n 2, 1, 0, 0, 0), (12, .invokevirtual 150, 3, 0, 0, 0), (15, .ireturn, 1, 0, 0, 0)]
def mX3_performWrite : aM := (yX3_performWrite, cX3_performWrite, 3, (some .int), [], kX3_performWrite)
set_option maxRecDepth 100000 in
theorem oX3_performWrite : cB mX3_performWrite mX3_performWrite.code = true := by decide +kernel
def kX3_performSay : List aR := [(0, .aload_n 0, 1, 0, 0, 0), (1, .getfield 21, 3, 0, 3, 1), (4, .aload_n 0, 1, 0, 0, 0), (5, .getfield 71, 3, 0, 3, 5), (8, .iload_n 1, 1, 0, 0, 0), (9, .invokevirtual 207, 3, 0, 0, 0), (12, .istore_n 2, 1, 0, 0, 0), (13, .iload_n 2, 1, 0, 0, 0), (14, .iconst (-1), 1, -1, 0, 0), (15, .if_icmp .ne 6, 3, 0, 21, 0), (18, .bipush (-3), 2, -3, 0, 0), (20, .ireturn, 1, 0, 0, 0), (21, .aload_n 0, 1, 0, 0, 0), (22, .iload_n 2, 1, 0, 0, 0), (23, .putfield 71, 3, 0, 3, 5), (26, .aload_n 0, 1, 0, 0, 0), (27, .iload_n 1, 1, 0, 0, 0), (28, .invokevirtual 150, 3, 0, 0, 0), (31, .ireturn, 1, 0, 0, 0)]
def mX3_performSay : aM := (yX3_performSay, cX3_performSay, 3, (some .int), [], kX3_performSay)
set_option maxRecDepth 100000 in
theorem oX3_performSay : cB mX3_performSay mX3_performSay.code = true := by decide +kernel
def kX3_performFail : List aR := [(0, .aload_n 0, 1, 0, 0, 0), (1, .getfield 34, 3, 0, 3, 3), (4, .getfield 211, 3, 0, 1, 3), (7, .ifCond .eq 30, 3, 0, 37, 0), (10, .aload_n 0, 1, 0, 0, 0), (11, .getfield 12, 3, 0, 3, 0), (14, .iload_n 1, 1, 0, 0, 0), (15, .iconst 1, 1, 1, 0, 0), (16, .aload_n 0, 1, 0, 0, 0), (17, .getfield 38, 3, 0, 3, 4), (20, .aload_n 0, 1, 0, 0, 0), (21, .getfield 71, 3, 0, 3, 5), (24, .invokevirtual 203, 3, 0, 0, 0), (27, .ifCond .eq 7, 3, 0, 34, 0), (30, .iconst 0, 1, 0, 0, 0), (31, .goto 5, 3, 0, 36, 0), (34, .bipush (-3), 2, -3, 0, 0), (36, .ireturn, 1, 0, 0, 0), (37, .aload_n 0, 1, 0, 0, 0), (38, .iload_n 1, 1, 0, 0, 0), (39, .putfield 68, 3, 0, 3, 8), (42, .bipush (-2), 2, -2, 0, 0), (44, .ireturn, 1, 0, 0, 0)]
def mX3_performFail : aM := (yX3_performFail, cX3_performFail, 2, (some .int), [], kX3_performFail)
set_option maxRecDepth 100000 in
theorem oX3_performFail : cB mX3_performFail mX3_performFail.code = true := by decide +kernel
def kX3_performEither : List aR := [(0, .aload_n 0, 1, 0, 0, 0), (1, .getfield 12, 3, 0, 3, 0), (4, .invokevirtual 52, 3, 0, 0, 0), (7, .istore_n 2, 1, 0, 0, 0), (8, .aload_n 0, 1, 0, 0, 0), (9, .getfield 38, 3, 0, 3, 4), (12, .istore_n 3, 1, 0, 0, 0), (13, .aload_n 0, 1, 0, 0, 0), (14, .getfield 71, 3, 0, 3, 5), (17, .istore 4, 2, 0, 0, 0), (19, .aload_n 0, 1, 0, 0, 0), (20, .aload_n 1, 1, 0, 0, 0), (21, .getfield 174, 3, 0, 7, 4), (24, .invokevirtual 48, 3, 0, 0, 0), (27, .istore 5, 2, 0, 0, 0), (29, .iload 5, 2, 0, 0, 0), (31, .ifCond .eq 6, 3, 0, 37, 0), (34, .iload 5, 2, 0, 0, 0), (36, .ireturn, 1, 0, 0, 0), (37, .aload_n 0, 1, 0, 0, 0), (38, .iload_n 3, 1, 0, 0, 0), (39, .iload 4, 2, 0, 0, 0), (41, .invokevirtual 214, 3, 0, 0, 0), (44, .aload_n 0, 1, 0, 0, 0), (45, .aload_n 1, 1, 0, 0, 0), (46, .getfield 178, 3, 0, 7, 5), (49, .invokevirtual 48, 3, 0, 0, 0), (52, .istore 5, 2, 0, 0, 0), (54, .iload 5, 2, 0, 0, 0), (56, .ifCond .ne 16, 3, 0, 72, 0), (59, .aload_n 0, 1, 0, 0, 0), (60, .iload_n 2, 1, 0, 0, 0), (61, .invokevirtual 217, 3, 0, 0, 0), (64, .ifCond .eq 8, 3, 0, 72, 0), (67, .bipush (-3), 2, -3, 0, 0), (69, .goto 5, 3, 0, 74, 0), (72, .iload 5, 2, 0, 0, 0), (74, .ireturn, 1, 0, 0, 0)]
def mX3_performEither : aM := (yX3_performEither, cX3_performEither, 6, (some .int), [], kX3_performEither)
set_option maxRecDepth 100000 in
theorem oX3_performEither : cB mX3_performEither mX3_performEither.code = true := by decide +kernel
def kX3_performThen : List aR := [(0, .aload_n 0, 1, 0, 0, 0), (1, .getfield 12, 3, 0, 3, 0), (4, .invokevirtual 52, 3, 0, 0, 0), (7, .istore_n 2, 1, 0, 0, 0), (8, .aload_n 0, 1, 0, 0, 0), (9, .aload_n 1, 1, 0, 0, 0), (10, .getfield 174, 3, 0, 7, 4), (13, .invokevirtual 48, 3, 0, 0, 0), (16, .istore_n 3, 1, 0, 0, 0), (17, .iload_n 3, 1, 0, 0, 0), (18, .ifCond .ne 20, 3, 0, 38, 0), (21, .aload_n 0, 1, 0, 0, 0), (22, .iload_n 2, 1, 0, 0, 0), (23, .iconst 0, 1, 0, 0, 0), (24, .aload_n 1, 1, 0, 0, 0), (25, .getfield 170, 3, 0, 7, 3), (28, .aload_n 1, 1, 0, 0, 0), (29, .getfield 178, 3, 0, 7, 5), (32, .invokevirtual 220, 3, 0, 0, 0), (35, .goto 4, 3, 0, 39, 0), (38, .iload_n 3, 1, 0, 0, 0), (39, .ireturn, 1, 0, 0, 0)]
def mX3_performThen : aM := (yX3_performThen, cX3_performThen, 4, (some .int), [], kX3_performThen)
set_option maxRecDepth 100000 in
theorem oX3_performThen : cB mX3_performThen mX3_performThen.code = true := by decide +kernel
def kX3_performSaved : List aR := [(0, .aload_n 0, 1, 0, 0, 0), (1, .getfield 12, 3, 0, 3, 0), (4, .invokevirtual 52, 3, 0, 0, 0), (7, .istore_n 2, 1, 0, 0, 0), (8, .aload_n 0, 1, 0, 0, 0), (9, .getfield 38, 3, 0, 3, 4), (12, .istore_n 3, 1, 0, 0, 0), (13, .aload_n 0, 1, 0, 0, 0), (14, .getfield 71, 3, 0, 3, 5), (17, .istore 4, 2, 0, 0, 0), (19, .aload_n 0, 1, 0, 0, 0), (20, .aload_n 1, 1, 0, 0, 0), (21, .getfield 174, 3, 0, 7, 4), (24, .invokevirtual 48, 3, 0, 0, 0), (27, .istore 5, 2, 0, 0, 0), (29, .iload 5, 2, 0, 0, 0), (31, .bipush (-2), 2, -2, 0, 0), (33, .if_icmp .ne 73, 3, 0, 106, 0), (36, .aload_n 0, 1, 0, 0, 0), (37, .getfield 12, 3, 0, 3, 0), (40, .iload_n 2, 1, 0, 0, 0), (41, .invokevirtual 75, 3, 0, 0, 0), (44, .aload_n 0, 1, 0, 0, 0), (45, .aload_n 0, 1, 0, 0, 0), (46, .getfield 34, 3, 0, 3, 3), (49, .getfield 105, 3, 0, 1, 6), (52, .ifCond .eq 7, 3, 0, 59, 0), (55, .iload_n 3, 1, 0, 0, 0), (56, .goto 7, 3, 0, 63, 0), (59, .aload_n 0, 1, 0, 0, 0), (60, .getfield 38, 3, 0, 3, 4), (63, .putfield 38, 3, 0, 3, 4), (66, .aload_n 0, 1, 0, 0, 0), (67, .aload_n 0, 1, 0, 0, 0), (68, .getfield 34, 3, 0, 3, 3), (71, .getfield 115, 3, 0, 1, 7), (74, .ifCond .eq 8, 3, 0, 82, 0), (77, .iload 4, 2, 0, 0, 0), (79, .goto 7, 3, 0, 86, 0), (82, .aload_n 0, 1, 0, 0, 0), (83, .getfield 71, 3, 0, 3, 5), (86, .putfield 71, 3, 0, 3, 5), (89, .aload_n 0, 1, 0, 0, 0), (90, .aload_n 1, 1, 0, 0, 0), (91, .getfield 170, 3, 0, 7, 3), (94, .aload_n 0, 1, 0, 0, 0), (95, .getfield 68, 3, 0, 3, 8), (98, .aload_n 1, 1, 0, 0, 0), (99, .getfield 178, 3, 0, 7, 5), (102, .invokevirtual 224, 3, 0, 0, 0), (105, .ireturn, 1, 0, 0, 0), (106, .iload 5, 2, 0, 0, 0), (108, .ifCond .eq 6, 3, 0, 114, 0), (111, .iload 5, 2, 0, 0, 0), (113, .ireturn, 1, 0, 0, 0), (114, .iload_n 2, 1, 0, 0, 0), (115, .istore 6, 2, 0, 0, 0), (117, .iload 6, 2, 0, 0, 0), (119, .aload_n 0, 1, 0, 0, 0), (120, .getfield 12, 3, 0, 3, 0), (123, .invokevirtual 52, 3, 0, 0, 0), (126, .if_icmp .ge 86, 3, 0, 212, 0), (129, .aload_n 0, 1, 0, 0, 0), (130, .getfield 12, 3, 0, 3, 0), (133, .iload 6, 2, 0, 0, 0), (135, .invokevirtual 122, 3, 0, 0, 0), (138, .ifCond .eq 68, 3, 0, 206, 0), (141, .aload_n 0, 1, 0, 0, 0), (142, .getfield 12, 3, 0, 3, 0), (145, .iload 6, 2, 0, 0, 0), (147, .aload_n 0, 1, 0, 0, 0), (148, .getfield 34, 3, 0, 3, 3), (151, .getfield 105, 3, 0, 1, 6), (154, .ifCond .eq 7, 3, 0, 161, 0), (157, .iload_n 3, 1, 0, 0, 0), (158, .goto 12, 3, 0, 170, 0), (161, .aload_n 0, 1, 0, 0, 0), (162, .getfield 12, 3, 0, 3, 0), (165, .iload 6, 2, 0, 0, 0), (167, .invokevirtual 133, 3, 0, 0, 0), (170, .invokevirtual 228, 3, 0, 0, 0), (173, .aload_n 0, 1, 0, 0, 0), (174, .getfield 12, 3, 0, 3, 0), (177, .iload 6, 2, 0, 0, 0), (179, .aload_n 0, 1, 0, 0, 0), (180, .getfield 34, 3, 0, 3, 3), (183, .getfield 115, 3, 0, 1, 7), (186, .ifCond .eq 8, 3, 0, 194, 0), (189, .iload 4, 2, 0, 0, 0), (191, .goto 12, 3, 0, 203, 0), (194, .aload_n 0, 1, 0, 0, 0), (195, .getfield 12, 3, 0, 3, 0), (198, .iload 6, 2, 0, 0, 0), (200, .invokevirtual 139, 3, 0, 0, 0), (203, .invokevirtual 230, 3, 0, 0, 0), (206, .iinc 6 1, 3, 1, 0, 0), (209, .goto (-92), 3, 0, 117, 0), (212, .aload_n 0, 1, 0, 0, 0), (213, .iload_n 2, 1, 0, 0, 0), (214, .iconst 1, 1, 1, 0, 0), (215, .aload_n 1, 1, 0, 0, 0), (216, .getfield 170, 3, 0, 7, 3), (219, .aload_n 1, 1, 0, 0, 0), (220, .getfield 178, 3, 0, 7, 5), (223, .invokevirtual 220, 3, 0, 0, 0), (226, .ireturn, 1, 0, 0, 0)]
def mX3_performSaved : aM := (yX3_performSaved, cX3_performSaved, 7, (some .int), [], kX3_performSaved)
set_option maxRecDepth 100000 in
theorem oX3_performSaved : cB mX3_performSaved mX3_performSaved.code = true := by decide +kernel
def kX3_performTimes : List aR := [(0, .aload_n 0, 1, 0, 0, 0), (1, .getfield 12, 3, 0, 3, 0), (4, .invokevirtual 52, 3, 0, 0, 0), (7, .istore_n 2, 1, 0, 0, 0), (8, .iconst 0, 1, 0, 0, 0), (9, .bipush 8, 2, 8, 0, 0), (11, .aload_n 0, 1, 0, 0, 0), (12, .aload_n 1, 1, 0, 0, 0), (13, .invokevirtual 147, 3, 0, 0, 0), (16, .invokestatic 232, 3, 0, 0, 0), (19, .invokestatic 237, 3, 0, 0, 0), (22, .istore_n 3, 1, 0, 0, 0), (23, .aload_n 0, 1, 0, 0, 0), (24, .iconst 0, 1, 0, 0, 0), (25, .invokevirtual 150, 3, 0, 0, 0), (28, .istore 4, 2, 0, 0, 0), (30, .iconst 0, 1, 0, 0, 0), (31, .istore 5, 2, 0, 0, 0), (33, .iload 5, 2, 0, 0, 0), (35, .iload_n 3, 1, 0, 0, 0), (36, .if_icmp .ge 27, 3, 0, 63, 0), (39, .iload 4, 2, 0, 0, 0), (41, .ifCond .ne 22, 3, 0, 63, 0), (44, .aload_n 0, 1, 0, 0, 0), (45, .iload_n 2, 1, 0, 0, 0), (46, .iconst 0, 1, 0, 0, 0), (47, .iconst (-1), 1, -1, 0, 0), (48, .aload_n 1, 1, 0, 0, 0), (49, .getfield 174, 3, 0, 7, 4), (52, .invokevirtual 220, 3, 0, 0, 0), (55, .istore 4, 2, 0, 0, 0), (57, .iinc 5 1, 3, 1, 0, 0), (60, .goto (-27), 3, 0, 33, 0), (63, .iload 4, 2, 0, 0, 0), (65, .ireturn, 1, 0, 0, 0)]
def mX3_performTimes : aM := (yX3_performTimes, cX3_performTimes, 6, (some .int), [], kX3_performTimes)
set_option maxRecDepth 100000 in
theorem oX3_performTimes : cB mX3_performTimes mX3_performTimes.code = true := by decide +kernel
def kX3_performOnce : List aR := [(0, .aload_n 0, 1, 0, 0, 0), (1, .getfield 12, 3, 0, 3, 0), (4, .invokevirtual 52, 3, 0, 0, 0), (7, .istore_n 2, 1, 0, 0, 0), (8, .aload_n 0, 1, 0, 0, 0), (9, .aload_n 1, 1, 0, 0, 0), (10, .getfield 174, 3, 0, 7, 4), (13, .invokevirtual 48, 3, 0, 0, 0), (16, .istore_n 3, 1, 0, 0, 0), (17, .iload_n 3, 1, 0, 0, 0), (18, .ifCond .ne 13, 3, 0, 31, 0), (21, .aload_n 0, 1, 0, 0, 0), (22, .getfield 12, 3, 0, 3, 0), (25, .iload_n 2, 1, 0, 0, 0), (26, .iconst 1, 1, 1, 0, 0), (27, .iadd, 1, 0, 0, 0), (28, .invokevirtual 75, 3, 0, 0, 0), (31, .iload_n 3, 1, 0, 0, 0), (32, .ireturn, 1, 0, 0, 0)]
def mX3_performOnce : aM := (yX3_performOnce, cX3_performOnce, 4, (some .int), [], kX3_performOnce)
set_option maxRecDepth 100000 in
theorem oX3_performOnce : cB mX3_performOnce mX3_performOnce.code = true := by decide +kernel
def kX3_performHeard : List aR := [(0, .aload_n 0, 1, 0, 0, 0), (1, .getfield 12, 3, 0, 3, 0), (4, .invokevirtual 52, 3, 0, 0, 0), (7, .istore_n 2, 1, 0, 0, 0), (8, .aload_n 0, 1, 0, 0, 0), (9, .getfield 21, 3, 0, 3, 1), (12, .aload_n 0, 1, 0, 0, 0), (13, .getfield 71, 3, 0, 3, 5), (16, .invokevirtual 240, 3, 0, 0, 0), (19, .istore_n 3, 1, 0, 0, 0), (20, .aload_n 0, 1, 0, 0, 0), (21, .aload_n 1, 1, 0, 0, 0), (22, .getfield 174, 3, 0, 7, 4), (25, .invokevirtual 48, 3, 0, 0, 0), (28, .istore 4, 2, 0, 0, 0), (30, .iload 4, 2, 0, 0, 0), (32, .ifCond .eq 6, 3, 0, 38, 0), (35, .iload 4, 2, 0, 0, 0), (37, .ireturn, 1, 0, 0, 0), (38, .iload_n 2, 1, 0, 0, 0), (39, .istore 5, 2, 0, 0, 0), (41, .iload 5, 2, 0, 0, 0), (43, .aload_n 0, 1, 0, 0, 0), (44, .getfield 12, 3, 0, 3, 0), (47, .invokevirtual 52, 3, 0, 0, 0), (50, .if_icmp .ge 69, 3, 0, 119, 0), (53, .aload_n 0, 1, 0, 0, 0), (54, .getfield 12, 3, 0, 3, 0), (57, .iload 5, 2, 0, 0, 0), (59, .invokevirtual 122, 3, 0, 0, 0), (62, .ifCond .ne 51, 3, 0, 113, 0), (65, .aload_n 0, 1, 0, 0, 0), (66, .getfield 34, 3, 0, 3, 3), (69, .getfield 136, 3, 0, 1, 2), (72, .ifCond .eq 15, 3, 0, 87, 0), (75, .aload_n 0, 1, 0, 0, 0), (76, .getfield 12, 3, 0, 3, 0), (79, .iload 5, 2, 0, 0, 0), (81, .invokevirtual 139, 3, 0, 0, 0), (84, .goto 7, 3, 0, 91, 0), (87, .aload_n 0, 1, 0, 0, 0), (88, .getfield 71, 3, 0, 3, 5), (91, .istore 6, 2, 0, 0, 0), (93, .aload_n 0, 1, 0, 0, 0), (94, .getfield 12, 3, 0, 3, 0), (97, .iload 5, 2, 0, 0, 0), (99, .aload_n 0, 1, 0, 0, 0), (100, .getfield 21, 3, 0, 3, 1), (103, .iload 6, 2, 0, 0, 0), (105, .invokevirtual 240, 3, 0, 0, 0), (108, .iload_n 3, 1, 0, 0, 0), (109, .isub, 1, 0, 0, 0), (110, .invokevirtual 243, 3, 0, 0, 0), (113, .iinc 5 1, 3, 1, 0, 0), (116, .goto (-75), 3, 0, 41, 0), (119, .iconst 0, 1, 0, 0, 0), (120, .ireturn, 1, 0, 0, 0)]
def mX3_performHeard : aM := (yX3_performHeard, cX3_performHeard, 7, (some .int), [], kX3_performHeard)
set_option maxRecDepth 100000 in
theorem oX3_performHeard : cB mX3_performHeard mX3_performHeard.code = true := by decide +kernel
def kX3_performHidden : List aR := [(0, .aload_n 0, 1, 0, 0, 0), (1, .getfield 12, 3, 0, 3, 0), (4, .invokevirtual 52, 3, 0, 0, 0), (7, .istore_n 2, 1, 0, 0, 0), (8, .aload_n 0, 1, 0, 0, 0), (9, .getfield 71, 3, 0, 3, 5), (12, .istore_n 3, 1, 0, 0, 0), (13, .aload_n 0, 1, 0, 0, 0), (14, .aload_n 1, 1, 0, 0, 0), (15, .getfield 174, 3, 0, 7, 4), (18, .invokevirtual 48, 3, 0, 0, 0), (21, .istore 4, 2, 0, 0, 0), (23, .iload 4, 2, 0, 0, 0), (25, .ifCond .eq 6, 3, 0, 31, 0), (28, .iload 4, 2, 0, 0, 0), (30, .ireturn, 1, 0, 0, 0), (31, .aload_n 0, 1, 0, 0, 0), (32, .iload_n 3, 1, 0, 0, 0), (33, .putfield 71, 3, 0, 3, 5), (36, .iload_n 2, 1, 0, 0, 0), (37, .istore 5, 2, 0, 0, 0), (39, .iload 5, 2, 0, 0, 0), (41, .aload_n 0, 1, 0, 0, 0), (42, .getfield 12, 3, 0, 3, 0), (45, .invokevirtual 52, 3, 0, 0, 0), (48, .if_icmp .ge 19, 3, 0, 67, 0), (51, .aload_n 0, 1, 0, 0, 0), (52, .getfield 12, 3, 0, 3, 0), (55, .iload 5, 2, 0, 0, 0), (57, .iload_n 3, 1, 0, 0, 0), (58, .invokevirtual 230, 3, 0, 0, 0), (61, .iinc 5 1, 3, 1, 0, 0), (64, .goto (-25), 3, 0, 39, 0), (67, .iconst 0, 1, 0, 0, 0), (68, .ireturn, 1, 0, 0, 0)]
def mX3_performHidden : aM := (yX3_performHidden, cX3_performHidden, 6, (some .int), [], kX3_performHidden)
set_option maxRecDepth 100000 in
theorem oX3_performHidden : cB mX3_performHidden mX3_performHidden.code = true := by decide +kernel
def kX3_performEach : List aR := [(0, .aload_n 0, 1, 0, 0, 0), (1, .getfield 12, 3, 0, 3, 0), (4, .invokevirtual 52, 3, 0, 0, 0), (7, .istore 5, 2, 0, 0, 0), (9, .iload_n 1, 1, 0, 0, 0), (10, .istore 6, 2, 0, 0, 0), (12, .iload 6, 2, 0, 0, 0), (14, .iload 5, 2, 0, 0, 0), (16, .if_icmp .ge 105, 3, 0, 121, 0), (19, .aload_n 0, 1, 0, 0, 0), (20, .getfield 12, 3, 0, 3, 0), (23, .iload 6, 2, 0, 0, 0), (25, .invokevirtual 122, 3, 0, 0, 0), (28, .iload_n 2, 1, 0, 0, 0), (29, .if_icmp .ne 46, 3, 0, 75, 0), (32, .aload_n 0, 1, 0, 0, 0), (33, .aload_n 0, 1, 0, 0, 0), (34, .getfield 12, 3, 0, 3, 0), (37, .iload 6, 2, 0, 0, 0), (39, .invokevirtual 133, 3, 0, 0, 0), (42, .aload_n 0, 1, 0, 0, 0), (43, .getfield 12, 3, 0, 3, 0), (46, .iload 6, 2, 0, 0, 0), (48, .invokevirtual 139, 3, 0, 0, 0), (51, .invokevirtual 214, 3, 0, 0, 0), (54, .aload_n 0, 1, 0, 0, 0), (55, .iload_n 3, 1, 0, 0, 0), (56, .aload_n 0, 1, 0, 0, 0), (57, .getfield 12, 3, 0, 3, 0), (60, .iload 6, 2, 0, 0, 0), (62, .invokevirtual 126, 3, 0, 0, 0), (65, .aload 4, 2, 0, 0, 0), (67, .invokevirtual 224, 3, 0, 0, 0), (70, .istore 7, 2, 0, 0, 0), (72, .goto 23, 3, 0, 95, 0), (75, .aload_n 0, 1, 0, 0, 0), (76, .getfield 12, 3, 0, 3, 0), (79, .iload 6, 2, 0, 0, 0), (81, .invokevirtual 246, 3, 0, 0, 0), (84, .ifCond .eq 7, 3, 0, 91, 0), (87, .iconst 0, 1, 0, 0, 0), (88, .goto 5, 3, 0, 93, 0), (91, .bipush (-3), 2, -3, 0, 0), (93, .istore 7, 2, 0, 0, 0), (95, .iload 7, 2, 0, 0, 0), (97, .ifCond .eq 6, 3, 0, 103, 0), (100, .iload 7, 2, 0, 0, 0), (102, .ireturn, 1, 0, 0, 0), (103, .aload_n 0, 1, 0, 0, 0), (104, .iload 5, 2, 0, 0, 0), (106, .invokevirtual 217, 3, 0, 0, 0), (109, .ifCond .eq 6, 3, 0, 115, 0), (112, .bipush (-3), 2, -3, 0, 0), (114, .ireturn, 1, 0, 0, 0), (115, .iinc 6 1, 3, 1, 0, 0), (118, .goto (-106), 3, 0, 12, 0), (121, .aload_n 0, 1, 0, 0, 0), (122, .getfield 12, 3, 0, 3, 0), (125, .iload_n 1, 1, 0, 0, 0), (126, .iload 5, 2, 0, 0, 0), (128, .invokevirtual 249, 3, 0, 0, 0), (131, .iconst 0, 1, 0, 0, 0), (132, .ireturn, 1, 0, 0, 0)]
def mX3_performEach : aM := (yX3_performEach, cX3_performEach, 8, (some .int), [], kX3_performEach)
set_option maxRecDepth 100000 in
theorem oX3_performEach : cB mX3_performEach mX3_performEach.code = true := by decide +kernel
def kX3_performNaming : List aR := [(0, .iload_n 1, 1, 0, 0, 0), (1, .ifCond .lt 9, 3, 0, 10, 0), (4, .iload_n 1, 1, 0, 0, 0), (5, .bipush 8, 2, 8, 0, 0), (7, .if_icmp .lt 9, 3, 0, 16, 0), (10, .aload_n 0, 1, 0, 0, 0), (11, .aload_n 3, 1, 0, 0, 0), (12, .invokevirtual 48, 3, 0, 0, 0), (15, .ireturn, 1, 0, 0, 0), (16, .aload_n 0, 1, 0, 0, 0), (17, .getfield 25, 3, 0, 3, 2), (20, .iload_n 1, 1, 0, 0, 0), (21, .iaload, 1, 0, 0, 0), (22, .istore 4, 2, 0, 0, 0), (24, .aload_n 0, 1, 0, 0, 0), (25, .getfield 25, 3, 0, 3, 2), (28, .iload_n 1, 1, 0, 0, 0), (29, .iload_n 2, 1, 0, 0, 0), (30, .iastore, 1, 0, 0, 0), (31, .aload_n 0, 1, 0, 0, 0), (32, .aload_n 3, 1, 0, 0, 0), (33, .invokevirtual 48, 3, 0, 0, 0), (36, .istore 5, 2, 0, 0, 0), (38, .aload_n 0, 1, 0, 0, 0), (39, .getfield 25, 3, 0, 3, 2), (42, .iload_n 1, 1, 0, 0, 0), (43, .iload 4, 2, 0, 0, 0), (45, .iastore, 1, 0, 0, 0), (46, .iload 5, 2, 0, 0, 0), (48, .ireturn, 1, 0, 0, 0)]
def mX3_performNaming : aM := (yX3_performNaming, cX3_performNaming, 6, (some .int), [], kX3_performNaming)
set_option maxRecDepth 100000 in
theorem oX3_performNaming : cB mX3_performNaming mX3_performNaming.code = true := by decide +kernel
def kX3_takeOwn : List aR := [(0, .aload_n 0, 1, 0, 0, 0), (1, .getfield 34, 3, 0, 3, 3), (4, .getfield 130, 3, 0, 1, 1), (7, .ifCond .eq 8, 3, 0, 15, 0), (10, .aload_n 0, 1, 0, 0, 0), (11, .iload_n 1, 1, 0, 0, 0), (12, .putfield 38, 3, 0, 3, 4), (15, .aload_n 0, 1, 0, 0, 0), (16, .getfield 34, 3, 0, 3, 3), (19, .getfield 136, 3, 0, 1, 2), (22, .ifCond .eq 8, 3, 0, 30, 0), (25, .aload_n 0, 1, 0, 0, 0), (26, .iload_n 2, 1, 0, 0, 0), (27, .putfield 71, 3, 0, 3, 5), (30, .return_, 1, 0, 0, 0)]
def mX3_takeOwn : aM := (yX3_takeOwn, cX3_takeOwn, 3, none, [], kX3_takeOwn)
set_option maxRecDepth 100000 in
theorem oX3_takeOwn : cB mX3_takeOwn mX3_takeOwn.code = true := by decide +kernel
def kX3_isTooMany : List aR := [(0, .aload_n 0, 1, 0, 0, 0), (1, .getfield 12, 3, 0, 3, 0), (4, .invokevirtual 52, 3, 0, 0, 0), (7, .iload_n 1, 1, 0, 0, 0), (8, .isub, 1, 0, 0, 0), (9, .bipush 50, 2, 50, 0, 0), (11, .if_icmp .le 7, 3, 0, 18, 0), (14, .iconst 1, 1, 1, 0, 0), (15, .goto 4, 3, 0, 19, 0), (18, .iconst 0, 1, 0, 0, 0), (19, .ireturn, 1, 0, 0, 0)]
def mX3_isTooMany : aM := (yX3_isTooMany, cX3_isTooMany, 2, (some .boolean), [], kX3_isTooMany)
set_option maxRecDepth 100000 in
theorem oX3_isTooMany : cB mX3_isTooMany mX3_isTooMany.code = true := by decide +kernel
def kX4_init : List aR := [(0, .aload_n 0, 1, 0, 0, 0), (1, .invokespecial 3, 3, 0, 0, 0), (4, .aload_n 0, 1, 0, 0, 0), (5, .bipush (-3), 2, -3, 0, 0), (7, .putfield 9, 3, 0, 4, 0), (10, .aload_n 0, 1, 0, 0, 0), (11, .new 15, 3, 0, 0, 0), (14, .dup, 1, 0, 0, 0), (15, .invokespecial 17, 3, 0, 0, 0), (18, .putfield 18, 3, 0, 4, 1), (21, .aload_n 0, 1, 0, 0, 0), (22, .bipush 50, 2, 50, 0, 0), (24, .anewarray 15, 3, 0, 0, 0), (27, .putfield 22, 3, 0, 4, 2), (30, .iconst 0, 1, 0, 0, 0), (31, .istore_n 1, 1, 0, 0, 0), (32, .iload_n 1, 1, 0, 0, 0), (33, .bipush 50, 2, 50, 0, 0), (35, .if_icmp .ge 22, 3, 0, 57, 0), (38, .aload_n 0, 1, 0, 0, 0), (39, .getfield 22, 3, 0, 4, 2), (42, .iload_n 1, 1, 0, 0, 0), (43, .new 15, 3, 0, 0, 0), (46, .dup, 1, 0, 0, 0), (47, .invokespecial 17, 3, 0, 0, 0), (50, .aastore, 1, 0, 0, 0), (51, .iinc 1 1, 3, 1, 0, 0), (54, .goto (-22), 3, 0, 32, 0), (57, .return_, 1, 0, 0, 0)]
def mX4_init : aM := (yX4_init, cX4_init, 2, none, [], kX4_init)
set_option maxRecDepth 100000 in
theorem oX4_init : cB mX4_init mX4_init.code = true := by decide +kernel
def kX4_rowOf : List aR := [(0, .iload_n 1, 1, 0, 0, 0), (1, .ifCond .lt 26, 3, 0, 27, 0), (4, .iload_n 1, 1, 0, 0, 0), (5, .aload_n 0, 1, 0, 0, 0), (6, .getfield 9, 3, 0, 4, 0), (9, .if_icmp .ge 18, 3, 0, 27, 0), (12, .iload_n 1, 1, 0, 0, 0), (13, .bipush 50, 2, 50, 0, 0), (15, .if_icmp .ge 12, 3, 0, 27, 0), (18, .aload_n 0, 1, 0, 0, 0), (19, .getfield 22, 3, 0, 4, 2), (22, .iload_n 1, 1, 0, 0, 0), (23, .aaload, 1, 0, 0, 0), (24, .goto 4, 3, 0, 28, 0), (27, .aconst_null, 1, 0, 0, 0), (28, .areturn, 1, 0, 0, 0)]
def mX4_rowOf : aM := (yX4_rowOf, cX4_rowOf, 2, (some (.object "LayeredActs$Row")), [], kX4_rowOf)
set_option maxRecDepth 100000 in
theorem oX4_rowOf : cB mX4_rowOf mX4_rowOf.code = true := by decide +kernel
def kX4_isLike : List aR := [(0, .aload_n 0, 1, 0, 0, 0), (1, .getfield 9, 3, 0, 4, 0), (4, .bipush (-3), 2, -3, 0, 0), (6, .if_icmp .eq 29, 3, 0, 35, 0), (9, .aload_n 0, 1, 0, 0, 0), (10, .getfield 9, 3, 0, 4, 0), (13, .aload_n 1, 1, 0, 0, 0), (14, .getfield 9, 3, 0, 4, 0), (17, .if_icmp .ne 18, 3, 0, 35, 0), (20, .aload_n 0, 1, 0, 0, 0), (21, .getfield 18, 3, 0, 4, 1), (24, .aload_n 1, 1, 0, 0, 0), (25, .getfield 18, 3, 0, 4, 1), (28, .iconst 1, 1, 1, 0, 0), (29, .invokevirtual 26, 3, 0, 0, 0), (32, .ifCond .ne 5, 3, 0, 37, 0), (35, .iconst 0, 1, 0, 0, 0), (36, .ireturn, 1, 0, 0, 0), (37, .iconst 0, 1, 0, 0, 0), (38, .istore_n 2, 1, 0, 0, 0), (39, .iload_n 2, 1, 0, 0, 0), (40, .aload_n 0, 1, 0, 0, 0), (41, .getfield 9, 3, 0, 4, 0), (44, .if_icmp .ge 36, 3, 0, 80, 0), (47, .iload_n 2, 1, 0, 0, 0), (48, .bipush 50, 2, 50, 0, 0), (50, .if_icmp .ge 30, 3, 0, 80, 0), (53, .aload_n 0, 1, 0, 0, 0), (54, .getfield 22, 3, 0, 4, 2), (57, .iload_n 2, 1, 0, 0, 0), (58, .aaload, 1, 0, 0, 0), (59, .aload_n 1, 1, 0, 0, 0), (60, .getfield 22, 3, 0, 4, 2), (63, .iload_n 2, 1, 0, 0, 0), (64, .aaload, 1, 0, 0, 0), (65, .iconst (-1), 1, -1, 0, 0), (66, .invokevirtual 26, 3, 0, 0, 0), (69, .ifCond .ne 5, 3, 0, 74, 0), (72, .iconst 0, 1, 0, 0, 0), (73, .ireturn, 1, 0, 0, 0), (74, .iinc 2 1, 3, 1, 0, 0), (77, .goto (-38), 3, 0, 39, 0), (80, .iconst 1, 1, 1, 0, 0), (81, .ireturn, 1, 0, 0, 0)]
def mX4_isLike : aM := (yX4_isLike, cX4_isLike, 3, (some .boolean), [], kX4_isLike)
set_option maxRecDepth 100000 in
theorem oX4_isLike : cB mX4_isLike mX4_isLike.code = true := by decide +kernel
def kX5_init : List aR := [(0, .aload_n 0, 1, 0, 0, 0), (1, .invokespecial 3, 3, 0, 0, 0), (4, .aload_n 0, 1, 0, 0, 0), (5, .sipush 3100, 3, 3100, 0, 0), (8, .newarray .int, 2, 0, 0, 0), (10, .putfield 11, 3, 0, 5, 0), (13, .aload_n 0, 1, 0, 0, 0), (14, .sipush 3100, 3, 3100, 0, 0), (17, .newarray .boolean, 2, 0, 0, 0), (19, .putfield 15, 3, 0, 5, 1), (22, .aload_n 0, 1, 0, 0, 0), (23, .sipush 3100, 3, 3100, 0, 0), (26, .newarray .int, 2, 0, 0, 0), (28, .putfield 19, 3, 0, 5, 2), (31, .aload_n 0, 1, 0, 0, 0), (32, .sipush 3100, 3, 3100, 0, 0), (35, .newarray .int, 2, 0, 0, 0), (37, .putfield 22, 3, 0, 5, 3), (40, .return_, 1, 0, 0, 0)]
def mX5_init : aM := (yX5_init, cX5_init, 1, none, [], kX5_init)
set_option maxRecDepth 100000 in
theorem oX5_init : cB mX5_init mX5_init.code = true := by decide +kernel
def kX5_size : List aR := [(0, .aload_n 0, 1, 0, 0, 0), (1, .getfield 25, 3, 0, 5, 4), (4, .ireturn, 1, 0, 0, 0)]
def mX5_size : aM := (yX5_size, cX5_size, 1, (some .int), [], kX5_size)
set_option maxRecDepth 100000 in
theorem oX5_size : cB mX5_size mX5_size.code = true := by decide +kernel
def kX5_has : List aR := [(0, .iload_n 1, 1, 0, 0, 0), (1, .ifCond .lt 22, 3, 0, 23, 0), (4, .iload_n 1, 1, 0, 0, 0), (5, .aload_n 0, 1, 0, 0, 0), (6, .getfield 25, 3, 0, 5, 4), (9, .if_icmp .ge 14, 3, 0, 23, 0), (12, .iload_n 1, 1, 0, 0, 0), (13, .sipush 3100, 3, 3100, 0, 0), (16, .if_icmp .ge 7, 3, 0, 23, 0), (19, .iconst 1, 1, 1, 0, 0), (20, .goto 4, 3, 0, 24, 0), (23, .iconst 0, 1, 0, 0, 0), (24, .ireturn, 1, 0, 0, 0)]
def mX5_has : aM := (yX5_has, cX5_has, 2, (some .boolean), [], kX5_has)
set_option maxRecDepth 100000 in
theorem oX5_has : cB mX5_has mX5_has.code = true := by decide +kernel
def kX5_numberOf : List aR := [(0, .aload_n 0, 1, 0, 0, 0), (1, .iload_n 1, 1, 0, 0, 0), (2, .invokevirtual 29, 3, 0, 0, 0), (5, .ifCond .eq 12, 3, 0, 17, 0), (8, .aload_n 0, 1, 0, 0, 0), (9, .getfield 11, 3, 0, 5, 0), (12, .iload_n 1, 1, 0, 0, 0), (13, .iaload, 1, 0, 0, 0), (14, .goto 4, 3, 0, 18, 0), (17, .iconst 0, 1, 0, 0, 0), (18, .ireturn, 1, 0, 0, 0)]
def mX5_numberOf : aM := (yX5_numberOf, cX5_numberOf, 2, (some .int), [], kX5_numberOf)
set_option maxRecDepth 100000 in
theorem oX5_numberOf : cB mX5_numberOf mX5_numberOf.code = true := by decide +kernel
def kX5_isError : List aR := [(0, .aload_n 0, 1, 0, 0, 0), (1, .iload_n 1, 1, 0, 0, 0), (2, .invokevirtual 29, 3, 0, 0, 0), (5, .ifCond .eq 16, 3, 0, 21, 0), (8, .aload_n 0, 1, 0, 0, 0), (9, .getfield 15, 3, 0, 5, 1), (12, .iload_n 1, 1, 0, 0, 0), (13, .baload, 1, 0, 0, 0), (14, .ifCond .eq 7, 3, 0, 21, 0), (17, .iconst 1, 1, 1, 0, 0), (18, .goto 4, 3, 0, 22, 0), (21, .iconst 0, 1, 0, 0, 0), (22, .ireturn, 1, 0, 0, 0)]
def mX5_isError : aM := (yX5_isError, cX5_isError, 2, (some .boolean), [], kX5_isError)
set_option maxRecDepth 100000 in
theorem oX5_isError : cB mX5_isError mX5_isError.code = true := by decide +kernel
def kX5_stateOf : List aR := [(0, .aload_n 0, 1, 0, 0, 0), (1, .iload_n 1, 1, 0, 0, 0), (2, .invokevirtual 29, 3, 0, 0, 0), (5, .ifCond .eq 12, 3, 0, 17, 0), (8, .aload_n 0, 1, 0, 0, 0), (9, .getfield 19, 3, 0, 5, 2), (12, .iload_n 1, 1, 0, 0, 0), (13, .iaload, 1, 0, 0, 0), (14, .goto 4, 3, 0, 18, 0), (17, .iconst 0, 1, 0, 0, 0), (18, .ireturn, 1, 0, 0, 0)]
def mX5_stateOf : aM := (yX5_stateOf, cX5_stateOf, 2, (some .int), [], kX5_stateOf)
set_option maxRecDepth 100000 in
theorem oX5_stateOf : cB mX5_stateOf mX5_stateOf.code = true := by decide +kernel
def kX5_logOf : List aR := [(0, .aload_n 0, 1, 0, 0, 0), (1, .iload_n 1, 1, 0, 0, 0), (2, .invokevirtual 29, 3, 0, 0, 0), (5, .ifCond .eq 12, 3, 0, 17, 0), (8, .aload_n 0, 1, 0, 0, 0), (9, .getfield 22, 3, 0, 5, 3), (12, .iload_n 1, 1, 0, 0, 0), (13, .iaload, 1, 0, 0, 0), (14, .goto 4, 3, 0, 18, 0), (17, .iconst 0, 1, 0, 0, 0), (18, .ireturn, 1, 0, 0, 0)]
def mX5_logOf : aM := (yX5_logOf, cX5_logOf, 2, (some .int), [], kX5_logOf)
set_option maxRecDepth 100000 in
theorem oX5_logOf : cB mX5_logOf mX5_logOf.code = true := by decide +kernel
def kX5_setNumber : List aR := [(0, .aload_n 0, 1, 0, 0, 0), (1, .iload_n 1, 1, 0, 0, 0), (2, .invokevirtual 29, 3, 0, 0, 0), (5, .ifCond .eq 10, 3, 0, 15, 0), (8, .aload_n 0, 1, 0, 0, 0), (9, .getfield 11, 3, 0, 5, 0), (12, .iload_n 1, 1, 0, 0, 0), (13, .iload_n 2, 1, 0, 0, 0), (14, .iastore, 1, 0, 0, 0), (15, .return_, 1, 0, 0, 0)]
def mX5_setNumber : aM := (yX5_setNumber, cX5_setNumber, 3, none, [], kX5_setNumber)
set_option maxRecDepth 100000 in
theorem oX5_setNumber : cB mX5_setNumber mX5_setNumber.code = true := by decide +kernel
def kX5_setState : List aR := [(0, .aload_n 0, 1, 0, 0, 0), (1, .iload_n 1, 1, 0, 0, 0), (2, .invokevirtual 29, 3, 0, 0, 0), (5, .ifCond .eq 10, 3, 0, 15, 0), (8, .aload_n 0, 1, 0, 0, 0), (9, .getfield 19, 3, 0, 5, 2), (12, .iload_n 1, 1, 0, 0, 0), (13, .iload_n 2, 1, 0, 0, 0), (14, .iastore, 1, 0, 0, 0), (15, .return_, 1, 0, 0, 0)]
def mX5_setState : aM := (yX5_setState, cX5_setState, 3, none, [], kX5_setState)
set_option maxRecDepth 100000 in
theorem oX5_setState : cB mX5_setState mX5_setState.code = true := by decide +kernel
def kX5_setLog : List aR := [(0, .aload_n 0, 1, 0, 0, 0), (1, .iload_n 1, 1, 0, 0, 0), (2, .invokevirtual 29, 3, 0, 0, 0), (5, .ifCond .eq 10, 3, 0, 15, 0), (8, .aload_n 0, 1, 0, 0, 0), (9, .getfield 22, 3, 0, 5, 3), (12, .iload_n 1, 1, 0, 0, 0), (13, .iload_n 2, 1, 0, 0, 0), (14, .iastore, 1, 0, 0, 0), (15, .return_, 1, 0, 0, 0)]
def mX5_setLog : aM := (yX5_setLog, cX5_setLog, 3, none, [], kX5_setLog)
set_option maxRecDepth 100000 in
theorem oX5_setLog : cB mX5_setLog mX5_setLog.code = true := by decide +kernel
def kX5_push : List aR := [(0, .aload_n 0, 1, 0, 0, 0), (1, .getfield 25, 3, 0, 5, 4), (4, .ifCond .lt 13, 3, 0, 17, 0), (7, .aload_n 0, 1, 0, 0, 0), (8, .getfield 25, 3, 0, 5, 4), (11, .sipush 3100, 3, 3100, 0, 0), (14, .if_icmp .lt 5, 3, 0, 19, 0), (17, .iconst 0, 1, 0, 0, 0), (18, .ireturn, 1, 0, 0, 0), (19, .aload_n 0, 1, 0, 0, 0), (20, .getfield 11, 3, 0, 5, 0), (23, .aload_n 0, 1, 0, 0, 0), (24, .getfield 25, 3, 0, 5, 4), (27, .iload_n 1, 1, 0, 0, 0), (28, .iastore, 1, 0, 0, 0), (29, .aload_n 0, 1, 0, 0, 0), (30, .getfield 15, 3, 0, 5, 1), (33, .aload_n 0, 1, 0, 0, 0), (34, .getfield 25, 3, 0, 5, 4), (37, .iload_n 2, 1, 0, 0, 0), (38, .bastore, 1, 0, 0, 0), (39, .aload_n 0, 1, 0, 0, 0), (40, .getfield 19, 3, 0, 5, 2), (43, .aload_n 0, 1, 0, 0, 0), (44, .getfield 25, 3, 0, 5, 4), (47, .iload_n 3, 1, 0, 0, 0), (48, .iastore, 1, 0, 0, 0), (49, .aload_n 0, 1, 0, 0, 0), (50, .getfield 22, 3, 0, 5, 3), (53, .aload_n 0, 1, 0, 0, 0), (54, .getfield 25, 3, 0, 5, 4), (57, .iload 4, 2, 0, 0, 0), (59, .iastore, 1, 0, 0, 0), (60, .aload_n 0, 1, 0, 0, 0), (61, .dup, 1, 0, 0, 0), (62, .getfield 25, 3, 0, 5, 4), (65, .iconst 1, 1, 1, 0, 0), (66, .iadd, 1, 0, 0, 0), (67, .putfield 25, 3, 0, 5, 4), (70, .iconst 1, 1, 1, 0, 0), (71, .ireturn, 1, 0, 0, 0)]
def mX5_push : aM := (yX5_push, cX5_push, 5, (some .boolean), [], kX5_push)
set_option maxRecDepth 100000 in
theorem oX5_push : cB mX5_push mX5_push.code = true := by decide +kernel
def kX5_pushAgain : List aR := [(0, .aload_n 0, 1, 0, 0, 0), (1, .aload_n 0, 1, 0, 0, 0), (2, .iload_n 1, 1, 0, 0, 0), (3, .invokevirtual 35, 3, 0, 0, 0), (6, .aload_n 0, 1, 0, 0, 0), (7, .iload_n 1, 1, 0, 0, 0), (8, .invokevirtual 39, 3, 0, 0, 0), (11, .aload_n 0, 1, 0, 0, 0), (12, .iload_n 1, 1, 0, 0, 0), (13, .invokevirtual 42, 3, 0, 0, 0), (16, .aload_n 0, 1, 0, 0, 0), (17, .iload_n 1, 1, 0, 0, 0), (18, .invokevirtual 45, 3, 0, 0, 0), (21, .invokevirtual 48, 3, 0, 0, 0), (24, .ireturn, 1, 0, 0, 0)]
def mX5_pushAgain : aM := (yX5_pushAgain, cX5_pushAgain, 2, (some .boolean), [], kX5_pushAgain)
set_option maxRecDepth 100000 in
theorem oX5_pushAgain : cB mX5_pushAgain mX5_pushAgain.code = true := by decide +kernel
def kX5_cutTo : List aR := [(0, .iload_n 1, 1, 0, 0, 0), (1, .ifCond .lt 16, 3, 0, 17, 0), (4, .iload_n 1, 1, 0, 0, 0), (5, .aload_n 0, 1, 0, 0, 0), (6, .getfield 25, 3, 0, 5, 4), (9, .if_icmp .ge 8, 3, 0, 17, 0), (12, .aload_n 0, 1, 0, 0, 0), (13, .iload_n 1, 1, 0, 0, 0), (14, .putfield 25, 3, 0, 5, 4), (17, .return_, 1, 0, 0, 0)]
def mX5_cutTo : aM := (yX5_cutTo, cX5_cutTo, 2, none, [], kX5_cutTo)
set_option maxRecDepth 100000 in
theorem oX5_cutTo : cB mX5_cutTo mX5_cutTo.code = true := by decide +kernel
def kX5_closeGap : List aR := [(0, .aload_n 0, 1, 0, 0, 0), (1, .getfield 25, 3, 0, 5, 4), (4, .sipush 3100, 3, 3100, 0, 0), (7, .invokestatic 52, 3, 0, 0, 0), (10, .istore_n 3, 1, 0, 0, 0), (11, .aload_n 0, 1, 0, 0, 0), (12, .iload_n 1, 1, 0, 0, 0), (13, .invokevirtual 58, 3, 0, 0, 0), (16, .iconst 0, 1, 0, 0, 0), (17, .iload_n 2, 1, 0, 0, 0), (18, .invokestatic 62, 3, 0, 0, 0), (21, .istore 4, 2, 0, 0, 0), (23, .iload 4, 2, 0, 0, 0), (25, .iload_n 3, 1, 0, 0, 0), (26, .if_icmp .ge 42, 3, 0, 68, 0), (29, .aload_n 0, 1, 0, 0, 0), (30, .aload_n 0, 1, 0, 0, 0), (31, .getfield 11, 3, 0, 5, 0), (34, .iload 4, 2, 0, 0, 0), (36, .iaload, 1, 0, 0, 0), (37, .aload_n 0, 1, 0, 0, 0), (38, .getfield 15, 3, 0, 5, 1), (41, .iload 4, 2, 0, 0, 0), (43, .baload, 1, 0, 0, 0), (44, .aload_n 0, 1, 0, 0, 0), (45, .getfield 19, 3, 0, 5, 2), (48, .iload 4, 2, 0, 0, 0), (50, .iaload, 1, 0, 0, 0), (51, .aload_n 0, 1, 0, 0, 0), (52, .getfield 22, 3, 0, 5, 3), (55, .iload 4, 2, 0, 0, 0), (57, .iaload, 1, 0, 0, 0), (58, .invokevirtual 48, 3, 0, 0, 0), (61, .pop, 1, 0, 0, 0), (62, .iinc 4 1, 3, 1, 0, 0), (65, .goto (-42), 3, 0, 23, 0), (68, .return_, 1, 0, 0, 0)]
def mX5_closeGap : aM := (yX5_closeGap, cX5_closeGap, 5, none, [], kX5_closeGap)
set_option maxRecDepth 100000 in
theorem oX5_closeGap : cB mX5_closeGap mX5_closeGap.code = true := by decide +kernel
def kX6_init : List aR := [(0, .aload_n 0, 1, 0, 0, 0), (1, .invokespecial 3, 3, 0, 0, 0), (4, .aload_n 0, 1, 0, 0, 0), (5, .bipush 65, 2, 65, 0, 0), (7, .newarray .int, 2, 0, 0, 0), (9, .putfield 11, 3, 0, 6, 0), (12, .return_, 1, 0, 0, 0)]
def mX6_init : aM := (yX6_init, cX6_init, 1, none, [], kX6_init)
set_option maxRecDepth 100000 in
theorem oX6_init : cB mX6_init mX6_init.code = true := by decide +kernel
def kX6_tells : List aR := [(0, .iload_n 1, 1, 0, 0, 0), (1, .ifCond .lt 32, 3, 0, 33, 0), (4, .iload_n 1, 1, 0, 0, 0), (5, .aload_n 0, 1, 0, 0, 0), (6, .getfield 11, 3, 0, 6, 0), (9, .arraylength, 1, 0, 0, 0), (10, .if_icmp .ge 23, 3, 0, 33, 0), (13, .iload_n 1, 1, 0, 0, 0), (14, .iconst 5, 1, 5, 0, 0), (15, .iconst 0, 1, 0, 0, 0), (16, .aload_n 0, 1, 0, 0, 0), (17, .getfield 11, 3, 0, 6, 0), (20, .iconst 4, 1, 4, 0, 0), (21, .iaload, 1, 0, 0, 0), (22, .invokestatic 15, 3, 0, 0, 0), (25, .iadd, 1, 0, 0, 0), (26, .if_icmp .ge 7, 3, 0, 33, 0), (29, .iconst 1, 1, 1, 0, 0), (30, .goto 4, 3, 0, 34, 0), (33, .iconst 0, 1, 0, 0, 0), (34, .ireturn, 1, 0, 0, 0)]
def mX6_tells : aM := (yX6_tells, cX6_tells, 2, (some .boolean), [], kX6_tells)
set_option maxRecDepth 100000 in
theorem oX6_tells : cB mX6_tells mX6_tells.code = true := by decide +kernel
def kX6_at : List aR := [(0, .aload_n 0, 1, 0, 0, 0), (1, .iload_n 1, 1, 0, 0, 0), (2, .invokevirtual 21, 3, 0, 0, 0), (5, .ifCond .eq 12, 3, 0, 17, 0), (8, .aload_n 0, 1, 0, 0, 0), (9, .getfield 11, 3, 0, 6, 0), (12, .iload_n 1, 1, 0, 0, 0), (13, .iaload, 1, 0, 0, 0), (14, .goto 4, 3, 0, 18, 0), (17, .iconst 0, 1, 0, 0, 0), (18, .ireturn, 1, 0, 0, 0)]
def mX6_at : aM := (yX6_at, cX6_at, 2, (some .int), [], kX6_at)
set_option maxRecDepth 100000 in
theorem oX6_at : cB mX6_at mX6_at.code = true := by decide +kernel
def kX6_setHead : List aR := [(0, .aload_n 0, 1, 0, 0, 0), (1, .getfield 11, 3, 0, 6, 0), (4, .iconst 0, 1, 0, 0, 0), (5, .iload_n 1, 1, 0, 0, 0), (6, .iastore, 1, 0, 0, 0), (7, .aload_n 0, 1, 0, 0, 0), (8, .getfield 11, 3, 0, 6, 0), (11, .iconst 1, 1, 1, 0, 0), (12, .iload_n 2, 1, 0, 0, 0), (13, .iastore, 1, 0, 0, 0), (14, .return_, 1, 0, 0, 0)]
def mX6_setHead : aM := (yX6_setHead, cX6_setHead, 3, none, [], kX6_setHead)
set_option maxRecDepth 100000 in
theorem oX6_setHead : cB mX6_setHead mX6_setHead.code = true := by decide +kernel
def kX6_setState : List aR := [(0, .aload_n 0, 1, 0, 0, 0), (1, .getfield 11, 3, 0, 6, 0), (4, .iconst 2, 1, 2, 0, 0), (5, .iload_n 1, 1, 0, 0, 0), (6, .ifCond .eq 7, 3, 0, 13, 0), (9, .iconst 1, 1, 1, 0, 0), (10, .goto 4, 3, 0, 14, 0), (13, .iconst 0, 1, 0, 0, 0), (14, .iastore, 1, 0, 0, 0), (15, .aload_n 0, 1, 0, 0, 0), (16, .getfield 11, 3, 0, 6, 0), (19, .iconst 3, 1, 3, 0, 0), (20, .iload_n 1, 1, 0, 0, 0), (21, .ifCond .eq 7, 3, 0, 28, 0), (24, .iload_n 2, 1, 0, 0, 0), (25, .goto 4, 3, 0, 29, 0), (28, .iconst 0, 1, 0, 0, 0), (29, .iastore, 1, 0, 0, 0), (30, .return_, 1, 0, 0, 0)]
def mX6_setState : aM := (yX6_setState, cX6_setState, 3, none, [], kX6_setState)
set_option maxRecDepth 100000 in
theorem oX6_setState : cB mX6_setState mX6_setState.code = true := by decide +kernel
def kX6_setLog : List aR := [(0, .aload_n 0, 1, 0, 0, 0), (1, .getfield 11, 3, 0, 6, 0), (4, .iconst 4, 1, 4, 0, 0), (5, .iload_n 1, 1, 0, 0, 0), (6, .ifCond .eq 16, 3, 0, 22, 0), (9, .aload_n 2, 1, 0, 0, 0), (10, .iload_n 3, 1, 0, 0, 0), (11, .invokevirtual 25, 3, 0, 0, 0), (14, .bipush 60, 2, 60, 0, 0), (16, .invokestatic 31, 3, 0, 0, 0), (19, .goto 4, 3, 0, 23, 0), (22, .iconst (-1), 1, -1, 0, 0), (23, .iastore, 1, 0, 0, 0), (24, .iload_n 3, 1, 0, 0, 0), (25, .istore 4, 2, 0, 0, 0), (27, .aload_n 0, 1, 0, 0, 0), (28, .getfield 11, 3, 0, 6, 0), (31, .iconst 4, 1, 4, 0, 0), (32, .iaload, 1, 0, 0, 0), (33, .iconst 1, 1, 1, 0, 0), (34, .isub, 1, 0, 0, 0), (35, .istore 5, 2, 0, 0, 0), (37, .iload 5, 2, 0, 0, 0), (39, .ifCond .lt 32, 3, 0, 71, 0), (42, .aload_n 0, 1, 0, 0, 0), (43, .getfield 11, 3, 0, 6, 0), (46, .iconst 5, 1, 5, 0, 0), (47, .iload 5, 2, 0, 0, 0), (49, .iadd, 1, 0, 0, 0), (50, .aload_n 2, 1, 0, 0, 0), (51, .iload 4, 2, 0, 0, 0), (53, .invokevirtual 34, 3, 0, 0, 0), (56, .iastore, 1, 0, 0, 0), (57, .aload_n 2, 1, 0, 0, 0), (58, .iload 4, 2, 0, 0, 0), (60, .invokevirtual 37, 3, 0, 0, 0), (63, .istore 4, 2, 0, 0, 0), (65, .iinc 5 (-1), 3, -1, 0, 0), (68, .goto (-31), 3, 0, 37, 0), (71, .return_, 1, 0, 0, 0)]
def mX6_setLog : aM := (yX6_setLog, cX6_setLog, 6, none, [], kX6_setLog)
set_option maxRecDepth 100000 in
theorem oX6_setLog : cB mX6_setLog mX6_setLog.code = true := by decide +kernel
def kX6_isLike : List aR := [(0, .iconst 0, 1, 0, 0, 0), (1, .istore_n 3, 1, 0, 0, 0), (2, .iload_n 3, 1, 0, 0, 0), (3, .aload_n 0, 1, 0, 0, 0), (4, .getfield 11, 3, 0, 6, 0), (7, .arraylength, 1, 0, 0, 0), (8, .if_icmp .ge 58, 3, 0, 66, 0), (11, .aload_n 0, 1, 0, 0, 0), (12, .iload_n 3, 1, 0, 0, 0), (13, .invokevirtual 21, 3, 0, 0, 0), (16, .ifCond .ne 11, 3, 0, 27, 0), (19, .aload_n 1, 1, 0, 0, 0), (20, .iload_n 3, 1, 0, 0, 0), (21, .invokevirtual 21, 3, 0, 0, 0), (24, .ifCond .eq 42, 3, 0, 66, 0), (27, .iload_n 3, 1, 0, 0, 0), (28, .iload_n 2, 1, 0, 0, 0), (29, .if_icmp .eq 31, 3, 0, 60, 0), (32, .aload_n 0, 1, 0, 0, 0), (33, .iload_n 3, 1, 0, 0, 0), (34, .invokevirtual 21, 3, 0, 0, 0), (37, .aload_n 1, 1, 0, 0, 0), (38, .iload_n 3, 1, 0, 0, 0), (39, .invokevirtual 21, 3, 0, 0, 0), (42, .if_icmp .ne 16, 3, 0, 58, 0), (45, .aload_n 0, 1, 0, 0, 0), (46, .iload_n 3, 1, 0, 0, 0), (47, .invokevirtual 40, 3, 0, 0, 0), (50, .aload_n 1, 1, 0, 0, 0), (51, .iload_n 3, 1, 0, 0, 0), (52, .invokevirtual 40, 3, 0, 0, 0), (55, .if_icmp .eq 5, 3, 0, 60, 0), (58, .iconst 0, 1, 0, 0, 0), (59, .ireturn, 1, 0, 0, 0), (60, .iinc 3 1, 3, 1, 0, 0), (63, .goto (-61), 3, 0, 2, 0), (66, .iconst 1, 1, 1, 0, 0), (67, .ireturn, 1, 0, 0, 0)]
def mX6_isLike : aM := (yX6_isLike, cX6_isLike, 4, (some .boolean), [], kX6_isLike)
set_option maxRecDepth 100000 in
theorem oX6_isLike : cB mX6_isLike mX6_isLike.code = true := by decide +kernel
def kX7_init : List aR := [(0, .aload_n 0, 1, 0, 0, 0), (1, .invokespecial 1, 3, 0, 0, 0), (4, .aload_n 0, 1, 0, 0, 0), (5, .iload_n 1, 1, 0, 0, 0), (6, .putfield 7, 3, 0, 7, 0), (9, .aload_n 0, 1, 0, 0, 0), (10, .iload_n 2, 1, 0, 0, 0), (11, .putfield 13, 3, 0, 7, 1), (14, .aload_n 0, 1, 0, 0, 0), (15, .iload_n 3, 1, 0, 0, 0), (16, .putfield 17, 3, 0, 7, 2), (19, .aload_n 0, 1, 0, 0, 0), (20, .iload 4, 2, 0, 0, 0), (22, .putfield 20, 3, 0, 7, 3), (25, .aload_n 0, 1, 0, 0, 0), (26, .aload 5, 2, 0, 0, 0), (28, .putfield 23, 3, 0, 7, 4), (31, .aload_n 0, 1, 0, 0, 0), (32, .aload 6, 2, 0, 0, 0), (34, .putfield 27, 3, 0, 7, 5), (37, .aload_n 0, 1, 0, 0, 0), (38, .iconst 1, 1, 1, 0, 0), (39, .aload 5, 2, 0, 0, 0), (41, .invokestatic 30, 3, 0, 0, 0), (44, .aload 6, 2, 0, 0, 0), (46, .invokestatic 30, 3, 0, 0, 0), (49, .invokestatic 34, 3, 0, 0, 0), (52, .iadd, 1, 0, 0, 0), (53, .putfield 40, 3, 0, 7, 6), (56, .aload_n 0, 1, 0, 0, 0), (57, .iload_n 1, 1, 0, 0, 0), (58, .invokestatic 43, 3, 0, 0, 0), (61, .aload 5, 2, 0, 0, 0), (63, .invokestatic 49, 3, 0, 0, 0), (66, .ior, 1, 0, 0, 0), (67, .aload 6, 2, 0, 0, 0), (69, .invokestatic 49, 3, 0, 0, 0), (72, .ior, 1, 0, 0, 0), (73, .putfield 51, 3, 0, 7, 7), (76, .return_, 1, 0, 0, 0)]
def mX7_init : aM := (yX7_init, cX7_init, 7, none, [], kX7_init)
set_option maxRecDepth 100000 in
theorem oX7_init : cB mX7_init mX7_init.code = true := by decide +kernel
def kX7_heightOf : List aR := [(0, .aload_n 0, 1, 0, 0, 0), (1, .ifnonnull 7, 3, 0, 8, 0), (4, .iconst 0, 1, 0, 0, 0), (5, .goto 7, 3, 0, 12, 0), (8, .aload_n 0, 1, 0, 0, 0), (9, .getfield 40, 3, 0, 7, 6), (12, .ireturn, 1, 0, 0, 0)]
def mX7_heightOf : aM := (yX7_heightOf, cX7_heightOf, 1, (some .int), [], kX7_heightOf)
set_option maxRecDepth 100000 in
theorem oX7_heightOf : cB mX7_heightOf mX7_heightOf.code = true := by decide +kernel
def kX7_layersOf : List aR := [(0, .aload_n 0, 1, 0, 0, 0), (1, .ifnonnull 7, 3, 0, 8, 0), (4, .iconst 0, 1, 0, 0, 0), (5, .goto 7, 3, 0, 12, 0), (8, .aload_n 0, 1, 0, 0, 0), (9, .getfield 51, 3, 0, 7, 7), (12, .ireturn, 1, 0, 0, 0)]
def mX7_layersOf : aM := (yX7_layersOf, cX7_layersOf, 1, (some .int), [], kX7_layersOf)
set_option maxRecDepth 100000 in
theorem oX7_layersOf : cB mX7_layersOf mX7_layersOf.code = true := by decide +kernel
def kX8_init : List aR := [(0, .aload_n 0, 1, 0, 0, 0), (1, .invokespecial 1, 3, 0, 0, 0), (4, .aload_n 0, 1, 0, 0, 0), (5, .bipush 80, 2, 80, 0, 0), (7, .anewarray 9, 3, 0, 0, 0), (10, .putfield 11, 3, 0, 8, 0), (13, .aload_n 0, 1, 0, 0, 0), (14, .new 15, 3, 0, 0, 0), (17, .dup, 1, 0, 0, 0), (18, .invokespecial 17, 3, 0, 0, 0), (21, .putfield 18, 3, 0, 8, 1), (24, .aload_n 0, 1, 0, 0, 0), (25, .new 22, 3, 0, 0, 0), (28, .dup, 1, 0, 0, 0), (29, .invokespecial 24, 3, 0, 0, 0), (32, .putfield 25, 3, 0, 8, 2), (35, .aload_n 0, 1, 0, 0, 0), (36, .new 22, 3, 0, 0, 0), (39, .dup, 1, 0, 0, 0), (40, .invokespecial 24, 3, 0, 0, 0), (43, .putfield 29, 3, 0, 8, 3), (46, .aload_n 0, 1, 0, 0, 0), (47, .new 22, 3, 0, 0, 0), (50, .dup, 1, 0, 0, 0), (51, .invokespecial 24, 3, 0, 0, 0), (54, .putfield 32, 3, 0, 8, 4), (57, .aload_n 0, 1, 0, 0, 0), (58, .new 35, 3, 0, 0, 0), (61, .dup, 1, 0, 0, 0), (62, .iconst (-1), 1, -1, 0, 0), (63, .iconst (-1), 1, -1, 0, 0), (64, .iconst (-1), 1, -1, 0, 0), (65, .iconst (-1), 1, -1, 0, 0), (66, .invokespecial 37, 3, 0, 0, 0), (69, .putfield 40, 3, 0, 8, 6), (72, .return_, 1, 0, 0, 0)]
def mX8_init : aM := (yX8_init, cX8_init, 1, none, [], kX8_init)
set_option maxRecDepth 100000 in
theorem oX8_init : cB mX8_init mX8_init.code = true := by decide +kernel
def kX8_give : List aR := [(0, .aload_n 0, 1, 0, 0, 0), (1, .iconst 0, 1, 0, 0, 0), (2, .iload_n 1, 1, 0, 0, 0), (3, .iload_n 2, 1, 0, 0, 0), (4, .invokevirtual 46, 3, 0, 0, 0), (7, .ireturn, 1, 0, 0, 0)]
def mX8_give : aM := (yX8_give, cX8_give, 3, (some .int), [], kX8_give)
set_option maxRecDepth 100000 in
theorem oX8_give : cB mX8_give mX8_give.code = true := by decide +kernel
def kX8_of : List aR := [(0, .iload_n 1, 1, 0, 0, 0), (1, .invokestatic 50, 3, 0, 0, 0), (4, .iload_n 2, 1, 0, 0, 0), (5, .invokestatic 50, 3, 0, 0, 0), (8, .iload_n 3, 1, 0, 0, 0), (9, .ifCond .lt 8, 3, 0, 17, 0), (12, .iload_n 3, 1, 0, 0, 0), (13, .iconst 5, 1, 5, 0, 0), (14, .if_icmp .lt 13, 3, 0, 27, 0), (17, .new 54, 3, 0, 0, 0), (20, .dup, 1, 0, 0, 0), (21, .ldc 56, 2, 0, 0, 0), (23, .invokespecial 58, 3, 0, 0, 0), (26, .athrow, 1, 0, 0, 0), (27, .aload_n 0, 1, 0, 0, 0), (28, .new 9, 3, 0, 0, 0), (31, .dup, 1, 0, 0, 0), (32, .bipush 14, 2, 14, 0, 0), (34, .iload_n 3, 1, 0, 0, 0), (35, .iadd, 1, 0, 0, 0), (36, .iconst 1, 1, 1, 0, 0), (37, .iload_n 1, 1, 0, 0, 0), (38, .iload_n 2, 1, 0, 0, 0), (39, .aconst_null, 1, 0, 0, 0), (40, .aconst_null, 1, 0, 0, 0), (41, .invokespecial 61, 3, 0, 0, 0), (44, .invokevirtual 64, 3, 0, 0, 0), (47, .ireturn, 1, 0, 0, 0)]
def mX8_of : aM := (yX8_of, cX8_of, 4, (some .int), [], kX8_of)
set_option maxRecDepth 100000 in
theorem oX8_of : cB mX8_of mX8_of.code = true := by decide +kernel
def kX8_read : List aR := [(0, .aload_n 0, 1, 0, 0, 0), (1, .iconst 1, 1, 1, 0, 0), (2, .iconst 0, 1, 0, 0, 0), (3, .iconst 0, 1, 0, 0, 0), (4, .invokevirtual 46, 3, 0, 0, 0), (7, .ireturn, 1, 0, 0, 0)]
def mX8_read : aM := (yX8_read, cX8_read, 1, (some .int), [], kX8_read)
set_option maxRecDepth 100000 in
theorem oX8_read : cB mX8_read mX8_read.code = true := by decide +kernel
def kX8_write : List aR := [(0, .aload_n 0, 1, 0, 0, 0), (1, .iconst 2, 1, 2, 0, 0), (2, .iload_n 1, 1, 0, 0, 0), (3, .iload_n 2, 1, 0, 0, 0), (4, .invokevirtual 46, 3, 0, 0, 0), (7, .ireturn, 1, 0, 0, 0)]
def mX8_write : aM := (yX8_write, cX8_write, 3, (some .int), [], kX8_write)
set_option maxRecDepth 100000 in
theorem oX8_write : cB mX8_write mX8_write.code = true := by decide +kernel
def kX8_say : List aR := [(0, .aload_n 0, 1, 0, 0, 0), (1, .iconst 3, 1, 3, 0, 0), (2, .iload_n 1, 1, 0, 0, 0), (3, .iload_n 2, 1, 0, 0, 0), (4, .invokevirtual 46, 3, 0, 0, 0), (7, .ireturn, 1, 0, 0, 0)]
def mX8_say : aM := (yX8_say, cX8_say, 3, (some .int), [], kX8_say)
set_option maxRecDepth 100000 in
theorem oX8_say : cB mX8_say mX8_say.code = true := by decide +kernel
def kX8_fail : List aR := [(0, .aload_n 0, 1, 0, 0, 0), (1, .iconst 4, 1, 4, 0, 0), (2, .iload_n 1, 1, 0, 0, 0), (3, .iload_n 2, 1, 0, 0, 0), (4, .invokevirtual 46, 3, 0, 0, 0), (7, .ireturn, 1, 0, 0, 0)]
def mX8_fail : aM := (yX8_fail, cX8_fail, 3, (some .int), [], kX8_fail)
set_option maxRecDepth 100000 in
theorem oX8_fail : cB mX8_fail mX8_fail.code = true := by decide +kernel
def kX8_none : List aR := [(0, .aload_n 0, 1, 0, 0, 0), (1, .iconst 5, 1, 5, 0, 0), (2, .iconst 0, 1, 0, 0, 0), (3, .iconst 0, 1, 0, 0, 0), (4, .invokevirtual 46, 3, 0, 0, 0), (7, .ireturn, 1, 0, 0, 0)]
def mX8_none : aM := (yX8_none, cX8_none, 1, (some .int), [], kX8_none)
set_option maxRecDepth 100000 in
theorem oX8_none : cB mX8_none mX8_none.code = true := by decide +kernel
def kX8_either : List aR := [(0, .aload_n 0, 1, 0, 0, 0), (1, .new 9, 3, 0, 0, 0), (4, .dup, 1, 0, 0, 0), (5, .bipush 6, 2, 6, 0, 0), (7, .iconst 0, 1, 0, 0, 0), (8, .iconst 0, 1, 0, 0, 0), (9, .iconst (-1), 1, -1, 0, 0), (10, .aload_n 0, 1, 0, 0, 0), (11, .iload_n 1, 1, 0, 0, 0), (12, .invokevirtual 68, 3, 0, 0, 0), (15, .aload_n 0, 1, 0, 0, 0), (16, .iload_n 2, 1, 0, 0, 0), (17, .invokevirtual 68, 3, 0, 0, 0), (20, .invokespecial 61, 3, 0, 0, 0), (23, .invokevirtual 64, 3, 0, 0, 0), (26, .ireturn, 1, 0, 0, 0)]
def mX8_either : aM := (yX8_either, cX8_either, 3, (some .int), [], kX8_either)
set_option maxRecDepth 100000 in
theorem oX8_either : cB mX8_either mX8_either.code = true := by decide +kernel
def kX8_then : List aR := [(0, .aload_n 0, 1, 0, 0, 0), (1, .bipush 7, 2, 7, 0, 0), (3, .iload_n 2, 1, 0, 0, 0), (4, .iload_n 1, 1, 0, 0, 0), (5, .iload_n 3, 1, 0, 0, 0), (6, .invokevirtual 72, 3, 0, 0, 0), (9, .ireturn, 1, 0, 0, 0)]
def mX8_then : aM := (yX8_then, cX8_then, 4, (some .int), [], kX8_then)
set_option maxRecDepth 100000 in
theorem oX8_then : cB mX8_then mX8_then.code = true := by decide +kernel
def kX8_saved : List aR := [(0, .aload_n 0, 1, 0, 0, 0), (1, .bipush 8, 2, 8, 0, 0), (3, .iload_n 2, 1, 0, 0, 0), (4, .iload_n 1, 1, 0, 0, 0), (5, .iload_n 3, 1, 0, 0, 0), (6, .invokevirtual 72, 3, 0, 0, 0), (9, .ireturn, 1, 0, 0, 0)]
def mX8_saved : aM := (yX8_saved, cX8_saved, 4, (some .int), [], kX8_saved)
set_option maxRecDepth 100000 in
theorem oX8_saved : cB mX8_saved mX8_saved.code = true := by decide +kernel
def kX8_when : List aR := [(0, .aload_n 0, 1, 0, 0, 0), (1, .bipush 9, 2, 9, 0, 0), (3, .iload_n 1, 1, 0, 0, 0), (4, .iload_n 2, 1, 0, 0, 0), (5, .iload_n 3, 1, 0, 0, 0), (6, .invokevirtual 72, 3, 0, 0, 0), (9, .ireturn, 1, 0, 0, 0)]
def mX8_when : aM := (yX8_when, cX8_when, 4, (some .int), [], kX8_when)
set_option maxRecDepth 100000 in
theorem oX8_when : cB mX8_when mX8_when.code = true := by decide +kernel
def kX8_times : List aR := [(0, .aload_n 0, 1, 0, 0, 0), (1, .iload_n 1, 1, 0, 0, 0), (2, .iload_n 2, 1, 0, 0, 0), (3, .invokevirtual 76, 3, 0, 0, 0), (6, .aload_n 0, 1, 0, 0, 0), (7, .new 9, 3, 0, 0, 0), (10, .dup, 1, 0, 0, 0), (11, .bipush 10, 2, 10, 0, 0), (13, .iload_n 1, 1, 0, 0, 0), (14, .iload_n 2, 1, 0, 0, 0), (15, .iconst (-1), 1, -1, 0, 0), (16, .aload_n 0, 1, 0, 0, 0), (17, .iload_n 3, 1, 0, 0, 0), (18, .invokevirtual 68, 3, 0, 0, 0), (21, .aconst_null, 1, 0, 0, 0), (22, .invokespecial 61, 3, 0, 0, 0), (25, .invokevirtual 64, 3, 0, 0, 0), (28, .ireturn, 1, 0, 0, 0)]
def mX8_times : aM := (yX8_times, cX8_times, 4, (some .int), [], kX8_times)
set_option maxRecDepth 100000 in
theorem oX8_times : cB mX8_times mX8_times.code = true := by decide +kernel
def kX8_as : List aR := [(0, .aload_n 0, 1, 0, 0, 0), (1, .iload_n 2, 1, 0, 0, 0), (2, .invokevirtual 68, 3, 0, 0, 0), (5, .astore_n 3, 1, 0, 0, 0), (6, .iload_n 1, 1, 0, 0, 0), (7, .ifCond .lt 8, 3, 0, 15, 0), (10, .iload_n 1, 1, 0, 0, 0), (11, .iconst 3, 1, 3, 0, 0), (12, .if_icmp .lt 13, 3, 0, 25, 0), (15, .new 54, 3, 0, 0, 0), (18, .dup, 1, 0, 0, 0), (19, .ldc 80, 2, 0, 0, 0), (21, .invokespecial 58, 3, 0, 0, 0), (24, .athrow, 1, 0, 0, 0), (25, .aload_n 0, 1, 0, 0, 0), (26, .new 9, 3, 0, 0, 0), (29, .dup, 1, 0, 0, 0), (30, .bipush 11, 2, 11, 0, 0), (32, .iload_n 1, 1, 0, 0, 0), (33, .iadd, 1, 0, 0, 0), (34, .iconst 0, 1, 0, 0, 0), (35, .iconst 0, 1, 0, 0, 0), (36, .iconst (-1), 1, -1, 0, 0), (37, .aload_n 3, 1, 0, 0, 0), (38, .aconst_null, 1, 0, 0, 0), (39, .invokespecial 61, 3, 0, 0, 0), (42, .invokevirtual 64, 3, 0, 0, 0), (45, .ireturn, 1, 0, 0, 0)]
def mX8_as : aM := (yX8_as, cX8_as, 4, (some .int), [], kX8_as)
set_option maxRecDepth 100000 in
theorem oX8_as : cB mX8_as mX8_as.code = true := by decide +kernel
def kX8_order : List aR := [(0, .iconst 0, 1, 0, 0, 0), (1, .iload_n 1, 1, 0, 0, 0), (2, .invokestatic 82, 3, 0, 0, 0), (5, .iload_n 2, 1, 0, 0, 0), (6, .invokestatic 82, 3, 0, 0, 0), (9, .iload_n 3, 1, 0, 0, 0), (10, .invokestatic 82, 3, 0, 0, 0), (13, .iload 4, 2, 0, 0, 0), (15, .invokestatic 82, 3, 0, 0, 0), (18, .istore 5, 2, 0, 0, 0), (20, .aload_n 0, 1, 0, 0, 0), (21, .new 35, 3, 0, 0, 0), (24, .dup, 1, 0, 0, 0), (25, .iload_n 1, 1, 0, 0, 0), (26, .iload_n 2, 1, 0, 0, 0), (27, .iload_n 3, 1, 0, 0, 0), (28, .iload 4, 2, 0, 0, 0), (30, .invokespecial 37, 3, 0, 0, 0), (33, .putfield 40, 3, 0, 8, 6), (36, .iload 5, 2, 0, 0, 0), (38, .invokestatic 86, 3, 0, 0, 0), (41, .ireturn, 1, 0, 0, 0)]
def mX8_order : aM := (yX8_order, cX8_order, 6, (some .int), [], kX8_order)
set_option maxRecDepth 100000 in
theorem oX8_order : cB mX8_order mX8_order.code = true := by decide +kernel
def kX8_needs : List aR := [(0, .aload_n 0, 1, 0, 0, 0), (1, .iload_n 1, 1, 0, 0, 0), (2, .invokevirtual 68, 3, 0, 0, 0), (5, .getfield 92, 3, 0, 7, 7), (8, .ireturn, 1, 0, 0, 0)]
def mX8_needs : aM := (yX8_needs, cX8_needs, 2, (some .int), [], kX8_needs)
set_option maxRecDepth 100000 in
theorem oX8_needs : cB mX8_needs mX8_needs.code = true := by decide +kernel
def kX8_run : List aR := [(0, .aload_n 0, 1, 0, 0, 0), (1, .iload_n 1, 1, 0, 0, 0), (2, .invokevirtual 68, 3, 0, 0, 0), (5, .astore 4, 2, 0, 0, 0), (7, .iload_n 3, 1, 0, 0, 0), (8, .invokestatic 96, 3, 0, 0, 0), (11, .aload_n 0, 1, 0, 0, 0), (12, .aload 4, 2, 0, 0, 0), (14, .getfield 92, 3, 0, 7, 7), (17, .invokevirtual 99, 3, 0, 0, 0), (20, .aload_n 0, 1, 0, 0, 0), (21, .getfield 18, 3, 0, 8, 1), (24, .aload 4, 2, 0, 0, 0), (26, .aload_n 0, 1, 0, 0, 0), (27, .getfield 40, 3, 0, 8, 6), (30, .iload_n 2, 1, 0, 0, 0), (31, .iload_n 3, 1, 0, 0, 0), (32, .aload_n 0, 1, 0, 0, 0), (33, .getfield 25, 3, 0, 8, 2), (36, .invokevirtual 102, 3, 0, 0, 0), (39, .aload_n 0, 1, 0, 0, 0), (40, .getfield 25, 3, 0, 8, 2), (43, .getfield 106, 3, 0, 4, 0), (46, .ireturn, 1, 0, 0, 0)]
def mX8_run : aM := (yX8_run, cX8_run, 5, (some .int), [], kX8_run)
set_option maxRecDepth 100000 in
theorem oX8_run : cB mX8_run mX8_run.code = true := by decide +kernel
def kX8_result : List aR := [(0, .aload_n 0, 1, 0, 0, 0), (1, .getfield 25, 3, 0, 8, 2), (4, .iload_n 1, 1, 0, 0, 0), (5, .invokevirtual 109, 3, 0, 0, 0), (8, .astore_n 3, 1, 0, 0, 0), (9, .aload_n 3, 1, 0, 0, 0), (10, .ifnonnull 13, 3, 0, 23, 0), (13, .new 113, 3, 0, 0, 0), (16, .dup, 1, 0, 0, 0), (17, .ldc 115, 2, 0, 0, 0), (19, .invokespecial 117, 3, 0, 0, 0), (22, .athrow, 1, 0, 0, 0), (23, .aload_n 3, 1, 0, 0, 0), (24, .iload_n 2, 1, 0, 0, 0), (25, .invokestatic 118, 3, 0, 0, 0), (28, .ireturn, 1, 0, 0, 0)]
def mX8_result : aM := (yX8_result, cX8_result, 4, (some .int), [], kX8_result)
set_option maxRecDepth 100000 in
theorem oX8_result : cB mX8_result mX8_result.code = true := by decide +kernel
def kX8_shared : List aR := [(0, .aload_n 0, 1, 0, 0, 0), (1, .getfield 25, 3, 0, 8, 2), (4, .getfield 106, 3, 0, 4, 0), (7, .bipush (-3), 2, -3, 0, 0), (9, .if_icmp .ne 13, 3, 0, 22, 0), (12, .new 122, 3, 0, 0, 0), (15, .dup, 1, 0, 0, 0), (16, .ldc 124, 2, 0, 0, 0), (18, .invokespecial 126, 3, 0, 0, 0), (21, .athrow, 1, 0, 0, 0), (22, .aload_n 0, 1, 0, 0, 0), (23, .getfield 25, 3, 0, 8, 2), (26, .getfield 127, 3, 0, 4, 1), (29, .iload_n 1, 1, 0, 0, 0), (30, .invokestatic 118, 3, 0, 0, 0), (33, .ireturn, 1, 0, 0, 0)]
def mX8_shared : aM := (yX8_shared, cX8_shared, 2, (some .int), [], kX8_shared)
set_option maxRecDepth 100000 in
theorem oX8_shared : cB mX8_shared mX8_shared.code = true := by decide +kernel
def kX8_alike : List aR := [(0, .aload_n 0, 1, 0, 0, 0), (1, .iload_n 1, 1, 0, 0, 0), (2, .invokevirtual 68, 3, 0, 0, 0), (5, .astore 5, 2, 0, 0, 0), (7, .aload_n 0, 1, 0, 0, 0), (8, .iload_n 2, 1, 0, 0, 0), (9, .invokevirtual 68, 3, 0, 0, 0), (12, .astore 6, 2, 0, 0, 0), (14, .iload 4, 2, 0, 0, 0), (16, .invokestatic 96, 3, 0, 0, 0), (19, .aload_n 0, 1, 0, 0, 0), (20, .aload 5, 2, 0, 0, 0), (22, .getfield 92, 3, 0, 7, 7), (25, .aload 6, 2, 0, 0, 0), (27, .getfield 92, 3, 0, 7, 7), (30, .ior, 1, 0, 0, 0), (31, .invokevirtual 99, 3, 0, 0, 0), (34, .aload_n 0, 1, 0, 0, 0), (35, .getfield 18, 3, 0, 8, 1), (38, .aload 5, 2, 0, 0, 0), (40, .aload_n 0, 1, 0, 0, 0), (41, .getfield 40, 3, 0, 8, 6), (44, .iload_n 3, 1, 0, 0, 0), (45, .iload 4, 2, 0, 0, 0), (47, .aload_n 0, 1, 0, 0, 0), (48, .getfield 29, 3, 0, 8, 3), (51, .invokevirtual 102, 3, 0, 0, 0), (54, .aload_n 0, 1, 0, 0, 0), (55, .getfield 18, 3, 0, 8, 1), (58, .aload 6, 2, 0, 0, 0), (60, .aload_n 0, 1, 0, 0, 0), (61, .getfield 40, 3, 0, 8, 6), (64, .iload_n 3, 1, 0, 0, 0), (65, .iload 4, 2, 0, 0, 0), (67, .aload_n 0, 1, 0, 0, 0), (68, .getfield 32, 3, 0, 8, 4), (71, .invokevirtual 102, 3, 0, 0, 0), (74, .aload_n 0, 1, 0, 0, 0), (75, .getfield 29, 3, 0, 8, 3), (78, .aload_n 0, 1, 0, 0, 0), (79, .getfield 32, 3, 0, 8, 4), (82, .invokevirtual 131, 3, 0, 0, 0), (85, .ireturn, 1, 0, 0, 0)]
def mX8_alike : aM := (yX8_alike, cX8_alike, 7, (some .boolean), [], kX8_alike)
set_option maxRecDepth 100000 in
theorem oX8_alike : cB mX8_alike mX8_alike.code = true := by decide +kernel
def kX8_terms : List aR := [(0, .aload_n 0, 1, 0, 0, 0), (1, .getfield 135, 3, 0, 8, 5), (4, .ireturn, 1, 0, 0, 0)]
def mX8_terms : aM := (yX8_terms, cX8_terms, 1, (some .int), [], kX8_terms)
set_option maxRecDepth 100000 in
theorem oX8_terms : cB mX8_terms mX8_terms.code = true := by decide +kernel
def kX8_keepAct : List aR := [(0, .aload_n 0, 1, 0, 0, 0), (1, .iload_n 2, 1, 0, 0, 0), (2, .iload_n 3, 1, 0, 0, 0), (3, .invokevirtual 76, 3, 0, 0, 0), (6, .aload_n 0, 1, 0, 0, 0), (7, .new 9, 3, 0, 0, 0), (10, .dup, 1, 0, 0, 0), (11, .iload_n 1, 1, 0, 0, 0), (12, .iload_n 2, 1, 0, 0, 0), (13, .iload_n 3, 1, 0, 0, 0), (14, .iconst (-1), 1, -1, 0, 0), (15, .aconst_null, 1, 0, 0, 0), (16, .aconst_null, 1, 0, 0, 0), (17, .invokespecial 61, 3, 0, 0, 0), (20, .invokevirtual 64, 3, 0, 0, 0), (23, .ireturn, 1, 0, 0, 0)]
def mX8_keepAct : aM := (yX8_keepAct, cX8_keepAct, 4, (some .int), [], kX8_keepAct)
set_option maxRecDepth 100000 in
theorem oX8_keepAct : cB mX8_keepAct mX8_keepAct.code = true := by decide +kernel
def kX8_keepNaming : List aR := [(0, .iload_n 2, 1, 0, 0, 0), (1, .invokestatic 50, 3, 0, 0, 0), (4, .aload_n 0, 1, 0, 0, 0), (5, .new 9, 3, 0, 0, 0), (8, .dup, 1, 0, 0, 0), (9, .iload_n 1, 1, 0, 0, 0), (10, .iconst 0, 1, 0, 0, 0), (11, .iconst 0, 1, 0, 0, 0), (12, .iload_n 2, 1, 0, 0, 0), (13, .aload_n 0, 1, 0, 0, 0), (14, .iload_n 3, 1, 0, 0, 0), (15, .invokevirtual 68, 3, 0, 0, 0), (18, .aload_n 0, 1, 0, 0, 0), (19, .iload 4, 2, 0, 0, 0), (21, .invokevirtual 68, 3, 0, 0, 0), (24, .invokespecial 61, 3, 0, 0, 0), (27, .invokevirtual 64, 3, 0, 0, 0), (30, .ireturn, 1, 0, 0, 0)]
def mX8_keepNaming : aM := (yX8_keepNaming, cX8_keepNaming, 5, (some .int), [], kX8_keepNaming)
set_option maxRecDepth 100000 in
theorem oX8_keepNaming : cB mX8_keepNaming mX8_keepNaming.code = true := by decide +kernel
def kX8_keep : List aR := [(0, .aload_n 0, 1, 0, 0, 0), (1, .getfield 135, 3, 0, 8, 5), (4, .ifCond .lt 21, 3, 0, 25, 0), (7, .aload_n 0, 1, 0, 0, 0), (8, .getfield 135, 3, 0, 8, 5), (11, .bipush 80, 2, 80, 0, 0), (13, .if_icmp .ge 12, 3, 0, 25, 0), (16, .aload_n 1, 1, 0, 0, 0), (17, .getfield 138, 3, 0, 7, 6), (20, .bipush 30, 2, 30, 0, 0), (22, .if_icmp .le 13, 3, 0, 35, 0), (25, .new 141, 3, 0, 0, 0), (28, .dup, 1, 0, 0, 0), (29, .ldc 143, 2, 0, 0, 0), (31, .invokespecial 145, 3, 0, 0, 0), (34, .athrow, 1, 0, 0, 0), (35, .aload_n 0, 1, 0, 0, 0), (36, .getfield 11, 3, 0, 8, 0), (39, .aload_n 0, 1, 0, 0, 0), (40, .getfield 135, 3, 0, 8, 5), (43, .aload_n 1, 1, 0, 0, 0), (44, .aastore, 1, 0, 0, 0), (45, .aload_n 0, 1, 0, 0, 0), (46, .dup, 1, 0, 0, 0), (47, .getfield 135, 3, 0, 8, 5), (50, .iconst 1, 1, 1, 0, 0), (51, .iadd, 1, 0, 0, 0), (52, .putfield 135, 3, 0, 8, 5), (55, .aload_n 0, 1, 0, 0, 0), (56, .getfield 135, 3, 0, 8, 5), (59, .iconst 1, 1, 1, 0, 0), (60, .isub, 1, 0, 0, 0), (61, .ireturn, 1, 0, 0, 0)]
def mX8_keep : aM := (yX8_keep, cX8_keep, 2, (some .int), [], kX8_keep)
set_option maxRecDepth 100000 in
theorem oX8_keep : cB mX8_keep mX8_keep.code = true := by decide +kernel
def kX8_termAt : List aR := [(0, .iload_n 1, 1, 0, 0, 0), (1, .ifCond .lt 26, 3, 0, 27, 0), (4, .iload_n 1, 1, 0, 0, 0), (5, .aload_n 0, 1, 0, 0, 0), (6, .getfield 135, 3, 0, 8, 5), (9, .if_icmp .ge 18, 3, 0, 27, 0), (12, .iload_n 1, 1, 0, 0, 0), (13, .bipush 80, 2, 80, 0, 0), (15, .if_icmp .ge 12, 3, 0, 27, 0), (18, .aload_n 0, 1, 0, 0, 0), (19, .getfield 11, 3, 0, 8, 0), (22, .iload_n 1, 1, 0, 0, 0), (23, .aaload, 1, 0, 0, 0), (24, .goto 4, 3, 0, 28, 0), (27, .aconst_null, 1, 0, 0, 0), (28, .astore_n 2, 1, 0, 0, 0), (29, .aload_n 2, 1, 0, 0, 0), (30, .ifnonnull 13, 3, 0, 43, 0), (33, .new 113, 3, 0, 0, 0), (36, .dup, 1, 0, 0, 0), (37, .ldc 146, 2, 0, 0, 0), (39, .invokespecial 117, 3, 0, 0, 0), (42, .athrow, 1, 0, 0, 0), (43, .aload_n 2, 1, 0, 0, 0), (44, .areturn, 1, 0, 0, 0)]
def mX8_termAt : aM := (yX8_termAt, cX8_termAt, 3, (some (.object "LayeredActs$Term")), [], kX8_termAt)
set_option maxRecDepth 100000 in
theorem oX8_termAt : cB mX8_termAt mX8_termAt.code = true := by decide +kernel
def kX8_requireOperand : List aR := [(0, .iload_n 1, 1, 0, 0, 0), (1, .ifCond .eq 7, 3, 0, 8, 0), (4, .iload_n 2, 1, 0, 0, 0), (5, .invokestatic 50, 3, 0, 0, 0), (8, .return_, 1, 0, 0, 0)]
def mX8_requireOperand : aM := (yX8_requireOperand, cX8_requireOperand, 3, none, [], kX8_requireOperand)
set_option maxRecDepth 100000 in
theorem oX8_requireOperand : cB mX8_requireOperand mX8_requireOperand.code = true := by decide +kernel
def kX8_requireName : List aR := [(0, .iload_n 0, 1, 0, 0, 0), (1, .ifCond .lt 9, 3, 0, 10, 0), (4, .iload_n 0, 1, 0, 0, 0), (5, .bipush 8, 2, 8, 0, 0), (7, .if_icmp .lt 13, 3, 0, 20, 0), (10, .new 113, 3, 0, 0, 0), (13, .dup, 1, 0, 0, 0), (14, .ldc 148, 2, 0, 0, 0), (16, .invokespecial 117, 3, 0, 0, 0), (19, .athrow, 1, 0, 0, 0), (20, .return_, 1, 0, 0, 0)]
def mX8_requireName : aM := (yX8_requireName, cX8_requireName, 1, none, [], kX8_requireName)
set_option maxRecDepth 100000 in
theorem oX8_requireName : cB mX8_requireName mX8_requireName.code = true := by decide +kernel
def kX8_requireSteps : List aR := [(0, .iload_n 0, 1, 0, 0, 0), (1, .iconst 1, 1, 1, 0, 0), (2, .if_icmp .lt 10, 3, 0, 12, 0), (5, .iload_n 0, 1, 0, 0, 0), (6, .sipush 2000, 3, 2000, 0, 0), (9, .if_icmp .le 13, 3, 0, 22, 0), (12, .new 54, 3, 0, 0, 0), (15, .dup, 1, 0, 0, 0), (16, .ldc 150, 2, 0, 0, 0), (18, .invokespecial 58, 3, 0, 0, 0), (21, .athrow, 1, 0, 0, 0), (22, .return_, 1, 0, 0, 0)]
def mX8_requireSteps : aM := (yX8_requireSteps, cX8_requireSteps, 1, none, [], kX8_requireSteps)
set_option maxRecDepth 100000 in
theorem oX8_requireSteps : cB mX8_requireSteps mX8_requireSteps.code = true := by decide +kernel
def kX8_requireLayers : List aR := [(0, .iload_n 1, 1, 0, 0, 0), (1, .aload_n 0, 1, 0, 0, 0), (2, .getfield 40, 3, 0, 8, 6), (5, .getfield 152, 3, 0, 1, 0), (8, .iconst (-1), 1, -1, 0, 0), (9, .ixor, 1, 0, 0, 0), (10, .iand, 1, 0, 0, 0), (11, .ifCond .eq 13, 3, 0, 24, 0), (14, .new 122, 3, 0, 0, 0), (17, .dup, 1, 0, 0, 0), (18, .ldc 153, 2, 0, 0, 0), (20, .invokespecial 126, 3, 0, 0, 0), (23, .athrow, 1, 0, 0, 0), (24, .return_, 1, 0, 0, 0)]
def mX8_requireLayers : aM := (yX8_requireLayers, cX8_requireLayers, 2, none, [], kX8_requireLayers)
set_option maxRecDepth 100000 in
theorem oX8_requireLayers : cB mX8_requireLayers mX8_requireLayers.code = true := by decide +kernel
def kX8_withLayer : List aR := [(0, .iload_n 1, 1, 0, 0, 0), (1, .iconst (-1), 1, -1, 0, 0), (2, .if_icmp .ne 5, 3, 0, 7, 0), (5, .iload_n 0, 1, 0, 0, 0), (6, .ireturn, 1, 0, 0, 0), (7, .iload_n 1, 1, 0, 0, 0), (8, .ifCond .lt 16, 3, 0, 24, 0), (11, .iload_n 1, 1, 0, 0, 0), (12, .iconst 3, 1, 3, 0, 0), (13, .if_icmp .gt 11, 3, 0, 24, 0), (16, .iload_n 0, 1, 0, 0, 0), (17, .iconst 1, 1, 1, 0, 0), (18, .iload_n 1, 1, 0, 0, 0), (19, .ishl, 1, 0, 0, 0), (20, .iand, 1, 0, 0, 0), (21, .ifCond .eq 13, 3, 0, 34, 0), (24, .new 54, 3, 0, 0, 0), (27, .dup, 1, 0, 0, 0), (28, .ldc 155, 2, 0, 0, 0), (30, .invokespecial 58, 3, 0, 0, 0), (33, .athrow, 1, 0, 0, 0), (34, .iload_n 0, 1, 0, 0, 0), (35, .iconst 1, 1, 1, 0, 0), (36, .iload_n 1, 1, 0, 0, 0), (37, .ishl, 1, 0, 0, 0), (38, .ior, 1, 0, 0, 0), (39, .ireturn, 1, 0, 0, 0)]
def mX8_withLayer : aM := (yX8_withLayer, cX8_withLayer, 2, (some .int), [], kX8_withLayer)
set_option maxRecDepth 100000 in
theorem oX8_withLayer : cB mX8_withLayer mX8_withLayer.code = true := by decide +kernel
def kX8_tellOf : List aR := [(0, .aload_n 0, 1, 0, 0, 0), (1, .iload_n 1, 1, 0, 0, 0), (2, .invokevirtual 157, 3, 0, 0, 0), (5, .ifCond .ne 13, 3, 0, 18, 0), (8, .new 54, 3, 0, 0, 0), (11, .dup, 1, 0, 0, 0), (12, .ldc 163, 2, 0, 0, 0), (14, .invokespecial 58, 3, 0, 0, 0), (17, .athrow, 1, 0, 0, 0), (18, .aload_n 0, 1, 0, 0, 0), (19, .iload_n 1, 1, 0, 0, 0), (20, .invokevirtual 165, 3, 0, 0, 0), (23, .ireturn, 1, 0, 0, 0)]
def mX8_tellOf : aM := (yX8_tellOf, cX8_tellOf, 2, (some .int), [], kX8_tellOf)
set_option maxRecDepth 100000 in
theorem oX8_tellOf : cB mX8_tellOf mX8_tellOf.code = true := by decide +kernel
def kJ6_bitCount_0f7a4 : List aR := [(0, .iload_n 0, 1, 0, 0, 0), (1, .iload_n 0, 1, 0, 0, 0), (2, .iconst 1, 1, 1, 0, 0), (3, .iushr, 1, 0, 0, 0), (4, .ldc_w 265, 3, 0, 0, 0), (7, .iand, 1, 0, 0, 0), (8, .isub, 1, 0, 0, 0), (9, .istore_n 0, 1, 0, 0, 0), (10, .iload_n 0, 1, 0, 0, 0), (11, .ldc_w 266, 3, 0, 0, 0), (14, .iand, 1, 0, 0, 0), (15, .iload_n 0, 1, 0, 0, 0), (16, .iconst 2, 1, 2, 0, 0), (17, .iushr, 1, 0, 0, 0), (18, .ldc_w 266, 3, 0, 0, 0), (21, .iand, 1, 0, 0, 0), (22, .iadd, 1, 0, 0, 0), (23, .istore_n 0, 1, 0, 0, 0), (24, .iload_n 0, 1, 0, 0, 0), (25, .iload_n 0, 1, 0, 0, 0), (26, .iconst 4, 1, 4, 0, 0), (27, .iushr, 1, 0, 0, 0), (28, .iadd, 1, 0, 0, 0), (29, .ldc_w 267, 3, 0, 0, 0), (32, .iand, 1, 0, 0, 0), (33, .istore_n 0, 1, 0, 0, 0), (34, .iload_n 0, 1, 0, 0, 0), (35, .iload_n 0, 1, 0, 0, 0), (36, .bipush 8, 2, 8, 0, 0), (38, .iushr, 1, 0, 0, 0), (39, .iadd, 1, 0, 0, 0), (40, .istore_n 0, 1, 0, 0, 0), (41, .iload_n 0, 1, 0, 0, 0), (42, .iload_n 0, 1, 0, 0, 0), (43, .bipush 16, 2, 16, 0, 0), (45, .iushr, 1, 0, 0, 0), (46, .iadd, 1, 0, 0, 0), (47, .istore_n 0, 1, 0, 0, 0), (48, .iload_n 0, 1, 0, 0, 0), (49, .bipush 63, 2, 63, 0, 0), (51, .iand, 1, 0, 0, 0), (52, .ireturn, 1, 0, 0, 0)]
def mJ6_bitCount_0f7a4 : aM := (yJ6_bitCount_0f7a4, cJ6_bitCount_0f7a4, 1, (some .int), [], kJ6_bitCount_0f7a4)
set_option maxRecDepth 100000 in
theorem oJ6_bitCount_0f7a4 : cB mJ6_bitCount_0f7a4 mJ6_bitCount_0f7a4.code = true := by decide +kernel
def kJ9_max_7cf53 : List aR := [(0, .iload_n 0, 1, 0, 0, 0), (1, .iload_n 1, 1, 0, 0, 0), (2, .if_icmp .lt 7, 3, 0, 9, 0), (5, .iload_n 0, 1, 0, 0, 0), (6, .goto 4, 3, 0, 10, 0), (9, .iload_n 1, 1, 0, 0, 0), (10, .ireturn, 1, 0, 0, 0)]
def mJ9_max_7cf53 : aM := (yJ9_max_7cf53, cJ9_max_7cf53, 2, (some .int), [], kJ9_max_7cf53)
set_option maxRecDepth 100000 in
theorem oJ9_max_7cf53 : cB mJ9_max_7cf53 mJ9_max_7cf53.code = true := by decide +kernel
def kJ9_min_7cf53 : List aR := [(0, .iload_n 0, 1, 0, 0, 0), (1, .iload_n 1, 1, 0, 0, 0), (2, .if_icmp .gt 7, 3, 0, 9, 0), (5, .iload_n 0, 1, 0, 0, 0), (6, .goto 4, 3, 0, 10, 0), (9, .iload_n 1, 1, 0, 0, 0), (10, .ireturn, 1, 0, 0, 0)]
def mJ9_min_7cf53 : aM := (yJ9_min_7cf53, cJ9_min_7cf53, 2, (some .int), [], kJ9_min_7cf53)
set_option maxRecDepth 100000 in
theorem oJ9_min_7cf53 : cB mJ9_min_7cf53 mJ9_min_7cf53.code = true := by decide +kernel
end
section
def kX9_thrown : List aR := [(0, .aload_n 0, 1, 0, 0, 0), (1, .getfield 1, 3, 0, 9, 0), (4, .ireturn, 1, 0, 0, 0)]
def mX9_thrown : aM := (yX9_thrown, cX9_thrown, 1, (some .int), [], kX9_thrown)
set_option maxRecDepth 100000 in
theorem oX9_thrown : cB mX9_thrown mX9_thrown.code = true := by decide +kernel
def kX9_refuse : List aR := [(0, .aload_n 0, 1, 0, 0, 0), (1, .iload_n 1, 1, 0, 0, 0), (2, .putfield 1, 3, 0, 9, 0), (5, .iconst 0, 1, 0, 0, 0), (6, .ireturn, 1, 0, 0, 0)]
def mX9_refuse : aM := (yX9_refuse, cX9_refuse, 2, (some .int), [], kX9_refuse)
set_option maxRecDepth 100000 in
theorem oX9_refuse : cB mX9_refuse mX9_refuse.code = true := by decide +kernel
def kX9_init : List aR := [(0, .aload_n 0, 1, 0, 0, 0), (1, .invokespecial 7, 3, 0, 0, 0), (4, .aload_n 0, 1, 0, 0, 0), (5, .bipush 80, 2, 80, 0, 0), (7, .newarray .int, 2, 0, 0, 0), (9, .putfield 13, 3, 0, 9, 2), (12, .aload_n 0, 1, 0, 0, 0), (13, .bipush 80, 2, 80, 0, 0), (15, .newarray .int, 2, 0, 0, 0), (17, .putfield 17, 3, 0, 9, 3), (20, .aload_n 0, 1, 0, 0, 0), (21, .bipush 80, 2, 80, 0, 0), (23, .newarray .int, 2, 0, 0, 0), (25, .putfield 20, 3, 0, 9, 4), (28, .aload_n 0, 1, 0, 0, 0), (29, .bipush 80, 2, 80, 0, 0), (31, .newarray .int, 2, 0, 0, 0), (33, .putfield 23, 3, 0, 9, 5), (36, .aload_n 0, 1, 0, 0, 0), (37, .bipush 80, 2, 80, 0, 0), (39, .newarray .boolean, 2, 0, 0, 0), (41, .putfield 26, 3, 0, 9, 6), (44, .aload_n 0, 1, 0, 0, 0), (45, .bipush 80, 2, 80, 0, 0), (47, .newarray .int, 2, 0, 0, 0), (49, .putfield 30, 3, 0, 9, 7), (52, .aload_n 0, 1, 0, 0, 0), (53, .bipush 80, 2, 80, 0, 0), (55, .newarray .int, 2, 0, 0, 0), (57, .putfield 33, 3, 0, 9, 8), (60, .aload_n 0, 1, 0, 0, 0), (61, .iconst 4, 1, 4, 0, 0), (62, .newarray .int, 2, 0, 0, 0), (64, .putfield 36, 3, 0, 9, 9), (67, .aload_n 0, 1, 0, 0, 0), (68, .sipush 2002, 3, 2002, 0, 0), (71, .newarray .int, 2, 0, 0, 0), (73, .putfield 39, 3, 0, 9, 11), (76, .aload_n 0, 1, 0, 0, 0), (77, .sipush 2002, 3, 2002, 0, 0), (80, .newarray .int, 2, 0, 0, 0), (82, .putfield 42, 3, 0, 9, 12), (85, .aload_n 0, 1, 0, 0, 0), (86, .sipush 2002, 3, 2002, 0, 0), (89, .newarray .int, 2, 0, 0, 0), (91, .putfield 45, 3, 0, 9, 13), (94, .aload_n 0, 1, 0, 0, 0), (95, .bipush 32, 2, 32, 0, 0), (97, .newarray .int, 2, 0, 0, 0), (99, .putfield 48, 3, 0, 9, 15), (102, .aload_n 0, 1, 0, 0, 0), (103, .bipush 32, 2, 32, 0, 0), (105, .newarray .int, 2, 0, 0, 0), (107, .putfield 51, 3, 0, 9, 16), (110, .aload_n 0, 1, 0, 0, 0), (111, .bipush 32, 2, 32, 0, 0), (113, .newarray .int, 2, 0, 0, 0), (115, .putfield 54, 3, 0, 9, 17), (118, .aload_n 0, 1, 0, 0, 0), (119, .bipush 32, 2, 32, 0, 0), (121, .newarray .int, 2, 0, 0, 0), (123, .putfield 57, 3, 0, 9, 18), (126, .aload_n 0, 1, 0, 0, 0), (127, .bipush 32, 2, 32, 0, 0), (129, .newarray .int, 2, 0, 0, 0), (131, .putfield 60, 3, 0, 9, 19), (134, .aload_n 0, 1, 0, 0, 0), (135, .bipush 32, 2, 32, 0, 0), (137, .newarray .int, 2, 0, 0, 0), (139, .putfield 63, 3, 0, 9, 20), (142, .aload_n 0, 1, 0, 0, 0), (143, .bipush 32, 2, 32, 0, 0), (145, .newarray .int, 2, 0, 0, 0), (147, .putfield 66, 3, 0, 9, 21), (150, .aload_n 0, 1, 0, 0, 0), (151, .bipush 32, 2, 32, 0, 0), (153, .newarray .int, 2, 0, 0, 0), (155, .putfield 69, 3, 0, 9, 22), (158, .aload_n 0, 1, 0, 0, 0), (159, .sipush 256, 3, 256, 0, 0), (162, .newarray .int, 2, 0, 0, 0), (164, .putfield 72, 3, 0, 9, 23), (167, .aload_n 0, 1, 0, 0, 0), (168, .bipush 64, 2, 64, 0, 0), (170, .newarray .int, 2, 0, 0, 0), (172, .putfield 75, 3, 0, 9, 24), (175, .aload_n 0, 1, 0, 0, 0), (176, .sipush 3200, 3, 3200, 0, 0), (179, .newarray .boolean, 2, 0, 0, 0), (181, .putfield 78, 3, 0, 9, 25), (184, .aload_n 0, 1, 0, 0, 0), (185, .sipush 3200, 3, 3200, 0, 0), (188, .newarray .int, 2, 0, 0, 0), (190, .putfield 81, 3, 0, 9, 26), (193, .aload_n 0, 1, 0, 0, 0), (194, .sipush 3200, 3, 3200, 0, 0), (197, .newarray .int, 2, 0, 0, 0), (199, .putfield 84, 3, 0, 9, 27), (202, .aload_n 0, 1, 0, 0, 0), (203, .sipush 3200, 3, 3200, 0, 0), (206, .newarray .int, 2, 0, 0, 0), (208, .putfield 87, 3, 0, 9, 28), (211, .aload_n 0, 1, 0, 0, 0), (212, .iconst 2, 1, 2, 0, 0), (213, .newarray .int, 2, 0, 0, 0), (215, .putfield 90, 3, 0, 9, 36), (218, .aload_n 0, 1, 0, 0, 0), (219, .bipush 100, 2, 100, 0, 0), (221, .newarray .boolean, 2, 0, 0, 0), (223, .putfield 93, 3, 0, 9, 37), (226, .aload_n 0, 1, 0, 0, 0), (227, .bipush 120, 2, 120, 0, 0), (229, .newarray .int, 2, 0, 0, 0), (231, .putfield 96, 3, 0, 9, 38), (234, .aload_n 0, 1, 0, 0, 0), (235, .bipush 100, 2, 100, 0, 0), (237, .newarray .boolean, 2, 0, 0, 0), (239, .putfield 99, 3, 0, 9, 39), (242, .aload_n 0, 1, 0, 0, 0), (243, .bipush 120, 2, 120, 0, 0), (245, .newarray .int, 2, 0, 0, 0), (247, .putfield 102, 3, 0, 9, 40), (250, .aload_n 0, 1, 0, 0, 0), (251, .bipush 120, 2, 120, 0, 0), (253, .newarray .int, 2, 0, 0, 0), (255, .putfield 105, 3, 0, 9, 41), (258, .aload_n 0, 1, 0, 0, 0), (259, .sipush 6000, 3, 6000, 0, 0), (262, .newarray .int, 2, 0, 0, 0), (264, .putfield 108, 3, 0, 9, 42), (267, .aload_n 0, 1, 0, 0, 0), (268, .bipush 12, 2, 12, 0, 0), (270, .newarray .int, 2, 0, 0, 0), (272, .putfield 111, 3, 0, 9, 43), (275, .aload_n 0, 1, 0, 0, 0), (276, .bipush 120, 2, 120, 0, 0), (278, .newarray .int, 2, 0, 0, 0), (280, .putfield 114, 3, 0, 9, 44), (283, .aload_n 0, 1, 0, 0, 0), (284, .bipush 6, 2, 6, 0, 0), (286, .newarray .int, 2, 0, 0, 0), (288, .putfield 117, 3, 0, 9, 46), (291, .aload_n 0, 1, 0, 0, 0), (292, .bipush 60, 2, 60, 0, 0), (294, .newarray .int, 2, 0, 0, 0), (296, .putfield 120, 3, 0, 9, 47), (299, .aload_n 0, 1, 0, 0, 0), (300, .bipush 60, 2, 60, 0, 0), (302, .newarray .boolean, 2, 0, 0, 0), (304, .putfield 123, 3, 0, 9, 48), (307, .aload_n 0, 1, 0, 0, 0), (308, .bipush 60, 2, 60, 0, 0), (310, .newarray .int, 2, 0, 0, 0), (312, .putfield 126, 3, 0, 9, 49), (315, .aload_n 0, 1, 0, 0, 0), (316, .bipush 60, 2, 60, 0, 0), (318, .newarray .boolean, 2, 0, 0, 0), (320, .putfield 129, 3, 0, 9, 50), (323, .aload_n 0, 1, 0, 0, 0), (324, .bipush 60, 2, 60, 0, 0), (326, .newarray .int, 2, 0, 0, 0), (328, .putfield 132, 3, 0, 9, 51), (331, .aload_n 0, 1, 0, 0, 0), (332, .bipush 60, 2, 60, 0, 0), (334, .newarray .int, 2, 0, 0, 0), (336, .putfield 135, 3, 0, 9, 52), (339, .aload_n 0, 1, 0, 0, 0), (340, .sipush 3600, 3, 3600, 0, 0), (343, .newarray .int, 2, 0, 0, 0), (345, .putfield 138, 3, 0, 9, 53), (348, .iconst 0, 1, 0, 0, 0), (349, .istore_n 1, 1, 0, 0, 0), (350, .iload_n 1, 1, 0, 0, 0), (351, .iconst 4, 1, 4, 0, 0), (352, .if_icmp .ge 16, 3, 0, 368, 0), (355, .aload_n 0, 1, 0, 0, 0), (356, .getfield 36, 3, 0, 9, 9), (359, .iload_n 1, 1, 0, 0, 0), (360, .iconst (-1), 1, -1, 0, 0), (361, .iastore, 1, 0, 0, 0), (362, .iinc 1 1, 3, 1, 0, 0), (365, .goto (-15), 3, 0, 350, 0), (368, .return_, 1, 0, 0, 0)]
def mX9_init : aM := (yX9_init, cX9_init, 2, none, [], kX9_init)
set_option maxRecDepth 100000 in
theorem oX9_init : cB mX9_init mX9_init.code = true := by decide +kernel
def kX9_above : List aR := [(0, .iconst 1, 1, 1, 0, 0), (1, .aload_n 0, 1, 0, 0, 0), (2, .getfield 33, 3, 0, 9, 8), (5, .iload_n 1, 1, 0, 0, 0), (6, .iaload, 1, 0, 0, 0), (7, .aload_n 0, 1, 0, 0, 0), (8, .getfield 33, 3, 0, 9, 8), (11, .iload_n 2, 1, 0, 0, 0), (12, .iaload, 1, 0, 0, 0), (13, .if_icmp .le 12, 3, 0, 25, 0), (16, .aload_n 0, 1, 0, 0, 0), (17, .getfield 33, 3, 0, 9, 8), (20, .iload_n 1, 1, 0, 0, 0), (21, .iaload, 1, 0, 0, 0), (22, .goto 9, 3, 0, 31, 0), (25, .aload_n 0, 1, 0, 0, 0), (26, .getfield 33, 3, 0, 9, 8), (29, .iload_n 2, 1, 0, 0, 0), (30, .iaload, 1, 0, 0, 0), (31, .iadd, 1, 0, 0, 0), (32, .ireturn, 1, 0, 0, 0)]
def mX9_above : aM := (yX9_above, cX9_above, 3, (some .int), [], kX9_above)
set_option maxRecDepth 100000 in
theorem oX9_above : cB mX9_above mX9_above.code = true := by decide +kernel
def kX9_isFull : List aR := [(0, .aload_n 0, 1, 0, 0, 0), (1, .getfield 141, 3, 0, 9, 1), (4, .bipush 80, 2, 80, 0, 0), (6, .if_icmp .eq 14, 3, 0, 20, 0), (9, .aload_n 0, 1, 0, 0, 0), (10, .iload_n 1, 1, 0, 0, 0), (11, .iload_n 2, 1, 0, 0, 0), (12, .invokevirtual 144, 3, 0, 0, 0), (15, .bipush 30, 2, 30, 0, 0), (17, .if_icmp .le 7, 3, 0, 24, 0), (20, .iconst 1, 1, 1, 0, 0), (21, .goto 4, 3, 0, 25, 0), (24, .iconst 0, 1, 0, 0, 0), (25, .ireturn, 1, 0, 0, 0)]
def mX9_isFull : aM := (yX9_isFull, cX9_isFull, 3, (some .boolean), [], kX9_isFull)
set_option maxRecDepth 100000 in
theorem oX9_isFull : cB mX9_isFull mX9_isFull.code = true := by decide +kernel
def kX9_isTerm : List aR := [(0, .iload_n 1, 1, 0, 0, 0), (1, .ifCond .lt 15, 3, 0, 16, 0), (4, .iload_n 1, 1, 0, 0, 0), (5, .aload_n 0, 1, 0, 0, 0), (6, .getfield 141, 3, 0, 9, 1), (9, .if_icmp .ge 7, 3, 0, 16, 0), (12, .iconst 1, 1, 1, 0, 0), (13, .goto 4, 3, 0, 17, 0), (16, .iconst 0, 1, 0, 0, 0), (17, .ireturn, 1, 0, 0, 0)]
def mX9_isTerm : aM := (yX9_isTerm, cX9_isTerm, 2, (some .boolean), [], kX9_isTerm)
set_option maxRecDepth 100000 in
theorem oX9_isTerm : cB mX9_isTerm mX9_isTerm.code = true := by decide +kernel
def kX9_isName : List aR := [(0, .iload_n 0, 1, 0, 0, 0), (1, .ifCond .lt 13, 3, 0, 14, 0), (4, .iload_n 0, 1, 0, 0, 0), (5, .bipush 8, 2, 8, 0, 0), (7, .if_icmp .ge 7, 3, 0, 14, 0), (10, .iconst 1, 1, 1, 0, 0), (11, .goto 4, 3, 0, 15, 0), (14, .iconst 0, 1, 0, 0, 0), (15, .ireturn, 1, 0, 0, 0)]
def mX9_isName : aM := (yX9_isName, cX9_isName, 1, (some .boolean), [], kX9_isName)
set_option maxRecDepth 100000 in
theorem oX9_isName : cB mX9_isName mX9_isName.code = true := by decide +kernel
def kX9_made : List aR := [(0, .aload_n 0, 1, 0, 0, 0), (1, .getfield 13, 3, 0, 9, 2), (4, .aload_n 0, 1, 0, 0, 0), (5, .getfield 141, 3, 0, 9, 1), (8, .iload_n 1, 1, 0, 0, 0), (9, .iastore, 1, 0, 0, 0), (10, .aload_n 0, 1, 0, 0, 0), (11, .getfield 17, 3, 0, 9, 3), (14, .aload_n 0, 1, 0, 0, 0), (15, .getfield 141, 3, 0, 9, 1), (18, .iload_n 2, 1, 0, 0, 0), (19, .iastore, 1, 0, 0, 0), (20, .aload_n 0, 1, 0, 0, 0), (21, .getfield 20, 3, 0, 9, 4), (24, .aload_n 0, 1, 0, 0, 0), (25, .getfield 141, 3, 0, 9, 1), (28, .iload_n 3, 1, 0, 0, 0), (29, .iastore, 1, 0, 0, 0), (30, .aload_n 0, 1, 0, 0, 0), (31, .getfield 23, 3, 0, 9, 5), (34, .aload_n 0, 1, 0, 0, 0), (35, .getfield 141, 3, 0, 9, 1), (38, .iload 4, 2, 0, 0, 0), (40, .iastore, 1, 0, 0, 0), (41, .aload_n 0, 1, 0, 0, 0), (42, .getfield 26, 3, 0, 9, 6), (45, .aload_n 0, 1, 0, 0, 0), (46, .getfield 141, 3, 0, 9, 1), (49, .iload 5, 2, 0, 0, 0), (51, .bastore, 1, 0, 0, 0), (52, .aload_n 0, 1, 0, 0, 0), (53, .getfield 30, 3, 0, 9, 7), (56, .aload_n 0, 1, 0, 0, 0), (57, .getfield 141, 3, 0, 9, 1), (60, .iload 6, 2, 0, 0, 0), (62, .iastore, 1, 0, 0, 0), (63, .aload_n 0, 1, 0, 0, 0), (64, .getfield 33, 3, 0, 9, 8), (67, .aload_n 0, 1, 0, 0, 0), (68, .getfield 141, 3, 0, 9, 1), (71, .iload_n 1, 1, 0, 0, 0), (72, .bipush 6, 2, 6, 0, 0), (74, .if_icmp .gt 7, 3, 0, 81, 0), (77, .iconst 1, 1, 1, 0, 0), (78, .goto 25, 3, 0, 103, 0), (81, .aload_n 0, 1, 0, 0, 0), (82, .iload_n 2, 1, 0, 0, 0), (83, .iload_n 1, 1, 0, 0, 0), (84, .bipush 11, 2, 11, 0, 0), (86, .if_icmp .eq 9, 3, 0, 95, 0), (89, .iload_n 1, 1, 0, 0, 0), (90, .bipush 12, 2, 12, 0, 0), (92, .if_icmp .lt 7, 3, 0, 99, 0), (95, .iload_n 2, 1, 0, 0, 0), (96, .goto 4, 3, 0, 100, 0), (99, .iload_n 3, 1, 0, 0, 0), (100, .invokevirtual 144, 3, 0, 0, 0), (103, .iastore, 1, 0, 0, 0), (104, .aload_n 0, 1, 0, 0, 0), (105, .dup, 1, 0, 0, 0), (106, .getfield 141, 3, 0, 9, 1), (109, .iconst 1, 1, 1, 0, 0), (110, .iadd, 1, 0, 0, 0), (111, .putfield 141, 3, 0, 9, 1), (114, .aload_n 0, 1, 0, 0, 0), (115, .getfield 141, 3, 0, 9, 1), (118, .iconst 1, 1, 1, 0, 0), (119, .isub, 1, 0, 0, 0), (120, .ireturn, 1, 0, 0, 0)]
def mX9_made : aM := (yX9_made, cX9_made, 7, (some .int), [], kX9_made)
set_option maxRecDepth 100000 in
theorem oX9_made : cB mX9_made mX9_made.code = true := by decide +kernel
def kX9_operand : List aR := [(0, .iload_n 2, 1, 0, 0, 0), (1, .ifCond .eq 16, 3, 0, 17, 0), (4, .iload_n 3, 1, 0, 0, 0), (5, .invokestatic 148, 3, 0, 0, 0), (8, .ifCond .ne 9, 3, 0, 17, 0), (11, .aload_n 0, 1, 0, 0, 0), (12, .iconst 1, 1, 1, 0, 0), (13, .invokevirtual 152, 3, 0, 0, 0), (16, .ireturn, 1, 0, 0, 0), (17, .aload_n 0, 1, 0, 0, 0), (18, .getfield 141, 3, 0, 9, 1), (21, .bipush 80, 2, 80, 0, 0), (23, .if_icmp .ne 11, 3, 0, 34, 0), (26, .aload_n 0, 1, 0, 0, 0), (27, .iconst 2, 1, 2, 0, 0), (28, .invokevirtual 152, 3, 0, 0, 0), (31, .goto 14, 3, 0, 45, 0), (34, .aload_n 0, 1, 0, 0, 0), (35, .iload_n 1, 1, 0, 0, 0), (36, .iload_n 3, 1, 0, 0, 0), (37, .iconst 0, 1, 0, 0, 0), (38, .iconst 0, 1, 0, 0, 0), (39, .iload_n 2, 1, 0, 0, 0), (40, .iload 4, 2, 0, 0, 0), (42, .invokevirtual 156, 3, 0, 0, 0), (45, .ireturn, 1, 0, 0, 0)]
def mX9_operand : aM := (yX9_operand, cX9_operand, 5, (some .int), [], kX9_operand)
set_option maxRecDepth 100000 in
theorem oX9_operand : cB mX9_operand mX9_operand.code = true := by decide +kernel
def kX9_give : List aR := [(0, .aload_n 0, 1, 0, 0, 0), (1, .iconst 0, 1, 0, 0, 0), (2, .putfield 1, 3, 0, 9, 0), (5, .aload_n 0, 1, 0, 0, 0), (6, .iconst 0, 1, 0, 0, 0), (7, .iload_n 1, 1, 0, 0, 0), (8, .iload_n 2, 1, 0, 0, 0), (9, .iconst 0, 1, 0, 0, 0), (10, .invokevirtual 160, 3, 0, 0, 0), (13, .ireturn, 1, 0, 0, 0)]
def mX9_give : aM := (yX9_give, cX9_give, 3, (some .int), [], kX9_give)
set_option maxRecDepth 100000 in
theorem oX9_give : cB mX9_give mX9_give.code = true := by decide +kernel
def kX9_of : List aR := [(0, .aload_n 0, 1, 0, 0, 0), (1, .iconst 0, 1, 0, 0, 0), (2, .putfield 1, 3, 0, 9, 0), (5, .iload_n 1, 1, 0, 0, 0), (6, .invokestatic 148, 3, 0, 0, 0), (9, .ifCond .eq 10, 3, 0, 19, 0), (12, .iload_n 2, 1, 0, 0, 0), (13, .invokestatic 148, 3, 0, 0, 0), (16, .ifCond .ne 9, 3, 0, 25, 0), (19, .aload_n 0, 1, 0, 0, 0), (20, .iconst 1, 1, 1, 0, 0), (21, .invokevirtual 152, 3, 0, 0, 0), (24, .ireturn, 1, 0, 0, 0), (25, .iload_n 3, 1, 0, 0, 0), (26, .ifCond .lt 8, 3, 0, 34, 0), (29, .iload_n 3, 1, 0, 0, 0), (30, .iconst 4, 1, 4, 0, 0), (31, .if_icmp .le 9, 3, 0, 40, 0), (34, .aload_n 0, 1, 0, 0, 0), (35, .iconst 2, 1, 2, 0, 0), (36, .invokevirtual 152, 3, 0, 0, 0), (39, .ireturn, 1, 0, 0, 0), (40, .aload_n 0, 1, 0, 0, 0), (41, .getfield 141, 3, 0, 9, 1), (44, .bipush 80, 2, 80, 0, 0), (46, .if_icmp .ne 11, 3, 0, 57, 0), (49, .aload_n 0, 1, 0, 0, 0), (50, .iconst 3, 1, 3, 0, 0), (51, .invokevirtual 152, 3, 0, 0, 0), (54, .goto 13, 3, 0, 67, 0), (57, .aload_n 0, 1, 0, 0, 0), (58, .iconst 1, 1, 1, 0, 0), (59, .iload_n 1, 1, 0, 0, 0), (60, .iload_n 2, 1, 0, 0, 0), (61, .iload_n 3, 1, 0, 0, 0), (62, .iconst 0, 1, 0, 0, 0), (63, .iconst 0, 1, 0, 0, 0), (64, .invokevirtual 156, 3, 0, 0, 0), (67, .ireturn, 1, 0, 0, 0)]
def mX9_of : aM := (yX9_of, cX9_of, 4, (some .int), [], kX9_of)
set_option maxRecDepth 100000 in
theorem oX9_of : cB mX9_of mX9_of.code = true := by decide +kernel
def kX9_read : List aR := [(0, .aload_n 0, 1, 0, 0, 0), (1, .iconst 0, 1, 0, 0, 0), (2, .putfield 1, 3, 0, 9, 0), (5, .aload_n 0, 1, 0, 0, 0), (6, .getfield 141, 3, 0, 9, 1), (9, .bipush 80, 2, 80, 0, 0), (11, .if_icmp .ne 11, 3, 0, 22, 0), (14, .aload_n 0, 1, 0, 0, 0), (15, .iconst 1, 1, 1, 0, 0), (16, .invokevirtual 152, 3, 0, 0, 0), (19, .goto 13, 3, 0, 32, 0), (22, .aload_n 0, 1, 0, 0, 0), (23, .iconst 2, 1, 2, 0, 0), (24, .iconst 0, 1, 0, 0, 0), (25, .iconst 0, 1, 0, 0, 0), (26, .iconst 0, 1, 0, 0, 0), (27, .iconst 0, 1, 0, 0, 0), (28, .iconst 1, 1, 1, 0, 0), (29, .invokevirtual 156, 3, 0, 0, 0), (32, .ireturn, 1, 0, 0, 0)]
def mX9_read : aM := (yX9_read, cX9_read, 1, (some .int), [], kX9_read)
set_option maxRecDepth 100000 in
theorem oX9_read : cB mX9_read mX9_read.code = true := by decide +kernel
def kX9_write : List aR := [(0, .aload_n 0, 1, 0, 0, 0), (1, .iconst 0, 1, 0, 0, 0), (2, .putfield 1, 3, 0, 9, 0), (5, .aload_n 0, 1, 0, 0, 0), (6, .iconst 3, 1, 3, 0, 0), (7, .iload_n 1, 1, 0, 0, 0), (8, .iload_n 2, 1, 0, 0, 0), (9, .iconst 1, 1, 1, 0, 0), (10, .invokevirtual 160, 3, 0, 0, 0), (13, .ireturn, 1, 0, 0, 0)]
def mX9_write : aM := (yX9_write, cX9_write, 3, (some .int), [], kX9_write)
set_option maxRecDepth 100000 in
theorem oX9_write : cB mX9_write mX9_write.code = true := by decide +kernel
def kX9_say : List aR := [(0, .aload_n 0, 1, 0, 0, 0), (1, .iconst 0, 1, 0, 0, 0), (2, .putfield 1, 3, 0, 9, 0), (5, .aload_n 0, 1, 0, 0, 0), (6, .iconst 4, 1, 4, 0, 0), (7, .iload_n 1, 1, 0, 0, 0), (8, .iload_n 2, 1, 0, 0, 0), (9, .iconst 2, 1, 2, 0, 0), (10, .invokevirtual 160, 3, 0, 0, 0), (13, .ireturn, 1, 0, 0, 0)]
def mX9_say : aM := (yX9_say, cX9_say, 3, (some .int), [], kX9_say)
set_option maxRecDepth 100000 in
theorem oX9_say : cB mX9_say mX9_say.code = true := by decide +kernel
def kX9_fail : List aR := [(0, .aload_n 0, 1, 0, 0, 0), (1, .iconst 0, 1, 0, 0, 0), (2, .putfield 1, 3, 0, 9, 0), (5, .aload_n 0, 1, 0, 0, 0), (6, .iconst 5, 1, 5, 0, 0), (7, .iload_n 1, 1, 0, 0, 0), (8, .iload_n 2, 1, 0, 0, 0), (9, .iconst 4, 1, 4, 0, 0), (10, .invokevirtual 160, 3, 0, 0, 0), (13, .ireturn, 1, 0, 0, 0)]
def mX9_fail : aM := (yX9_fail, cX9_fail, 3, (some .int), [], kX9_fail)
set_option maxRecDepth 100000 in
theorem oX9_fail : cB mX9_fail mX9_fail.code = true := by decide +kernel
def kX9_none : List aR := [(0, .aload_n 0, 1, 0, 0, 0), (1, .iconst 0, 1, 0, 0, 0), (2, .putfield 1, 3, 0, 9, 0), (5, .aload_n 0, 1, 0, 0, 0), (6, .getfield 141, 3, 0, 9, 1), (9, .bipush 80, 2, 80, 0, 0), (11, .if_icmp .ne 11, 3, 0, 22, 0), (14, .aload_n 0, 1, 0, 0, 0), (15, .iconst 1, 1, 1, 0, 0), (16, .invokevirtual 152, 3, 0, 0, 0), (19, .goto 15, 3, 0, 34, 0), (22, .aload_n 0, 1, 0, 0, 0), (23, .bipush 6, 2, 6, 0, 0), (25, .iconst 0, 1, 0, 0, 0), (26, .iconst 0, 1, 0, 0, 0), (27, .iconst 0, 1, 0, 0, 0), (28, .iconst 0, 1, 0, 0, 0), (29, .bipush 8, 2, 8, 0, 0), (31, .invokevirtual 156, 3, 0, 0, 0), (34, .ireturn, 1, 0, 0, 0)]
def mX9_none : aM := (yX9_none, cX9_none, 1, (some .int), [], kX9_none)
set_option maxRecDepth 100000 in
theorem oX9_none : cB mX9_none mX9_none.code = true := by decide +kernel
def kX9_either : List aR := [(0, .aload_n 0, 1, 0, 0, 0), (1, .iconst 0, 1, 0, 0, 0), (2, .putfield 1, 3, 0, 9, 0), (5, .aload_n 0, 1, 0, 0, 0), (6, .iload_n 1, 1, 0, 0, 0), (7, .invokevirtual 164, 3, 0, 0, 0), (10, .ifCond .eq 11, 3, 0, 21, 0), (13, .aload_n 0, 1, 0, 0, 0), (14, .iload_n 2, 1, 0, 0, 0), (15, .invokevirtual 164, 3, 0, 0, 0), (18, .ifCond .ne 9, 3, 0, 27, 0), (21, .aload_n 0, 1, 0, 0, 0), (22, .iconst 1, 1, 1, 0, 0), (23, .invokevirtual 152, 3, 0, 0, 0), (26, .ireturn, 1, 0, 0, 0), (27, .aload_n 0, 1, 0, 0, 0), (28, .iload_n 1, 1, 0, 0, 0), (29, .iload_n 2, 1, 0, 0, 0), (30, .invokevirtual 167, 3, 0, 0, 0), (33, .ifCond .eq 11, 3, 0, 44, 0), (36, .aload_n 0, 1, 0, 0, 0), (37, .iconst 2, 1, 2, 0, 0), (38, .invokevirtual 152, 3, 0, 0, 0), (41, .goto 29, 3, 0, 70, 0), (44, .aload_n 0, 1, 0, 0, 0), (45, .bipush 7, 2, 7, 0, 0), (47, .iload_n 1, 1, 0, 0, 0), (48, .iload_n 2, 1, 0, 0, 0), (49, .iconst 0, 1, 0, 0, 0), (50, .iconst 0, 1, 0, 0, 0), (51, .bipush 8, 2, 8, 0, 0), (53, .aload_n 0, 1, 0, 0, 0), (54, .getfield 30, 3, 0, 9, 7), (57, .iload_n 1, 1, 0, 0, 0), (58, .iaload, 1, 0, 0, 0), (59, .ior, 1, 0, 0, 0), (60, .aload_n 0, 1, 0, 0, 0), (61, .getfield 30, 3, 0, 9, 7), (64, .iload_n 2, 1, 0, 0, 0), (65, .iaload, 1, 0, 0, 0), (66, .ior, 1, 0, 0, 0), (67, .invokevirtual 156, 3, 0, 0, 0), (70, .ireturn, 1, 0, 0, 0)]
def mX9_either : aM := (yX9_either, cX9_either, 3, (some .int), [], kX9_either)
set_option maxRecDepth 100000 in
theorem oX9_either : cB mX9_either mX9_either.code = true := by decide +kernel
def kX9_three : List aR := [(0, .aload_n 0, 1, 0, 0, 0), (1, .iload_n 2, 1, 0, 0, 0), (2, .invokevirtual 164, 3, 0, 0, 0), (5, .ifCond .eq 19, 3, 0, 24, 0), (8, .aload_n 0, 1, 0, 0, 0), (9, .iload 4, 2, 0, 0, 0), (11, .invokevirtual 164, 3, 0, 0, 0), (14, .ifCond .eq 10, 3, 0, 24, 0), (17, .iload_n 3, 1, 0, 0, 0), (18, .invokestatic 148, 3, 0, 0, 0), (21, .ifCond .ne 9, 3, 0, 30, 0), (24, .aload_n 0, 1, 0, 0, 0), (25, .iconst 1, 1, 1, 0, 0), (26, .invokevirtual 152, 3, 0, 0, 0), (29, .ireturn, 1, 0, 0, 0), (30, .aload_n 0, 1, 0, 0, 0), (31, .iload_n 2, 1, 0, 0, 0), (32, .iload 4, 2, 0, 0, 0), (34, .invokevirtual 167, 3, 0, 0, 0), (37, .ifCond .eq 11, 3, 0, 48, 0), (40, .aload_n 0, 1, 0, 0, 0), (41, .iconst 2, 1, 2, 0, 0), (42, .invokevirtual 152, 3, 0, 0, 0), (45, .goto 30, 3, 0, 75, 0), (48, .aload_n 0, 1, 0, 0, 0), (49, .iload_n 1, 1, 0, 0, 0), (50, .iload_n 2, 1, 0, 0, 0), (51, .iload 4, 2, 0, 0, 0), (53, .iload_n 3, 1, 0, 0, 0), (54, .iconst 0, 1, 0, 0, 0), (55, .iload 5, 2, 0, 0, 0), (57, .aload_n 0, 1, 0, 0, 0), (58, .getfield 30, 3, 0, 9, 7), (61, .iload_n 2, 1, 0, 0, 0), (62, .iaload, 1, 0, 0, 0), (63, .ior, 1, 0, 0, 0), (64, .aload_n 0, 1, 0, 0, 0), (65, .getfield 30, 3, 0, 9, 7), (68, .iload 4, 2, 0, 0, 0), (70, .iaload, 1, 0, 0, 0), (71, .ior, 1, 0, 0, 0), (72, .invokevirtual 156, 3, 0, 0, 0), (75, .ireturn, 1, 0, 0, 0)]
def mX9_three : aM := (yX9_three, cX9_three, 6, (some .int), [], kX9_three)
set_option maxRecDepth 100000 in
theorem oX9_three : cB mX9_three mX9_three.code = true := by decide +kernel
def kX9_then : List aR := [(0, .aload_n 0, 1, 0, 0, 0), (1, .iconst 0, 1, 0, 0, 0), (2, .putfield 1, 3, 0, 9, 0), (5, .aload_n 0, 1, 0, 0, 0), (6, .bipush 8, 2, 8, 0, 0), (8, .iload_n 1, 1, 0, 0, 0), (9, .iload_n 2, 1, 0, 0, 0), (10, .iload_n 3, 1, 0, 0, 0), (11, .iconst 0, 1, 0, 0, 0), (12, .invokevirtual 171, 3, 0, 0, 0), (15, .ireturn, 1, 0, 0, 0)]
def mX9_then : aM := (yX9_then, cX9_then, 4, (some .int), [], kX9_then)
set_option maxRecDepth 100000 in
theorem oX9_then : cB mX9_then mX9_then.code = true := by decide +kernel
def kX9_saved : List aR := [(0, .aload_n 0, 1, 0, 0, 0), (1, .iconst 0, 1, 0, 0, 0), (2, .putfield 1, 3, 0, 9, 0), (5, .aload_n 0, 1, 0, 0, 0), (6, .bipush 9, 2, 9, 0, 0), (8, .iload_n 1, 1, 0, 0, 0), (9, .iload_n 2, 1, 0, 0, 0), (10, .iload_n 3, 1, 0, 0, 0), (11, .iconst 4, 1, 4, 0, 0), (12, .invokevirtual 171, 3, 0, 0, 0), (15, .ireturn, 1, 0, 0, 0)]
def mX9_saved : aM := (yX9_saved, cX9_saved, 4, (some .int), [], kX9_saved)
set_option maxRecDepth 100000 in
theorem oX9_saved : cB mX9_saved mX9_saved.code = true := by decide +kernel
def kX9_when : List aR := [(0, .aload_n 0, 1, 0, 0, 0), (1, .iconst 0, 1, 0, 0, 0), (2, .putfield 1, 3, 0, 9, 0), (5, .aload_n 0, 1, 0, 0, 0), (6, .bipush 10, 2, 10, 0, 0), (8, .iload_n 2, 1, 0, 0, 0), (9, .iload_n 1, 1, 0, 0, 0), (10, .iload_n 3, 1, 0, 0, 0), (11, .iconst 0, 1, 0, 0, 0), (12, .invokevirtual 171, 3, 0, 0, 0), (15, .ireturn, 1, 0, 0, 0)]
def mX9_when : aM := (yX9_when, cX9_when, 4, (some .int), [], kX9_when)
set_option maxRecDepth 100000 in
theorem oX9_when : cB mX9_when mX9_when.code = true := by decide +kernel
def kX9_times : List aR := [(0, .aload_n 0, 1, 0, 0, 0), (1, .iconst 0, 1, 0, 0, 0), (2, .putfield 1, 3, 0, 9, 0), (5, .aload_n 0, 1, 0, 0, 0), (6, .iload_n 3, 1, 0, 0, 0), (7, .invokevirtual 164, 3, 0, 0, 0), (10, .ifCond .eq 14, 3, 0, 24, 0), (13, .iload_n 1, 1, 0, 0, 0), (14, .ifCond .eq 16, 3, 0, 30, 0), (17, .iload_n 2, 1, 0, 0, 0), (18, .invokestatic 148, 3, 0, 0, 0), (21, .ifCond .ne 9, 3, 0, 30, 0), (24, .aload_n 0, 1, 0, 0, 0), (25, .iconst 1, 1, 1, 0, 0), (26, .invokevirtual 152, 3, 0, 0, 0), (29, .ireturn, 1, 0, 0, 0), (30, .aload_n 0, 1, 0, 0, 0), (31, .iload_n 3, 1, 0, 0, 0), (32, .iload_n 3, 1, 0, 0, 0), (33, .invokevirtual 167, 3, 0, 0, 0), (36, .ifCond .eq 11, 3, 0, 47, 0), (39, .aload_n 0, 1, 0, 0, 0), (40, .iconst 2, 1, 2, 0, 0), (41, .invokevirtual 152, 3, 0, 0, 0), (44, .goto 19, 3, 0, 63, 0), (47, .aload_n 0, 1, 0, 0, 0), (48, .bipush 11, 2, 11, 0, 0), (50, .iload_n 3, 1, 0, 0, 0), (51, .iload_n 2, 1, 0, 0, 0), (52, .iconst 0, 1, 0, 0, 0), (53, .iload_n 1, 1, 0, 0, 0), (54, .aload_n 0, 1, 0, 0, 0), (55, .getfield 30, 3, 0, 9, 7), (58, .iload_n 3, 1, 0, 0, 0), (59, .iaload, 1, 0, 0, 0), (60, .invokevirtual 156, 3, 0, 0, 0), (63, .ireturn, 1, 0, 0, 0)]
def mX9_times : aM := (yX9_times, cX9_times, 4, (some .int), [], kX9_times)
set_option maxRecDepth 100000 in
theorem oX9_times : cB mX9_times mX9_times.code = true := by decide +kernel
def kX9_as : List aR := [(0, .aload_n 0, 1, 0, 0, 0), (1, .iconst 0, 1, 0, 0, 0), (2, .putfield 1, 3, 0, 9, 0), (5, .aload_n 0, 1, 0, 0, 0), (6, .iload_n 2, 1, 0, 0, 0), (7, .invokevirtual 164, 3, 0, 0, 0), (10, .ifCond .ne 9, 3, 0, 19, 0), (13, .aload_n 0, 1, 0, 0, 0), (14, .iconst 1, 1, 1, 0, 0), (15, .invokevirtual 152, 3, 0, 0, 0), (18, .ireturn, 1, 0, 0, 0), (19, .iload_n 1, 1, 0, 0, 0), (20, .ifCond .lt 8, 3, 0, 28, 0), (23, .iload_n 1, 1, 0, 0, 0), (24, .iconst 2, 1, 2, 0, 0), (25, .if_icmp .le 9, 3, 0, 34, 0), (28, .aload_n 0, 1, 0, 0, 0), (29, .iconst 2, 1, 2, 0, 0), (30, .invokevirtual 152, 3, 0, 0, 0), (33, .ireturn, 1, 0, 0, 0), (34, .aload_n 0, 1, 0, 0, 0), (35, .iload_n 2, 1, 0, 0, 0), (36, .iload_n 2, 1, 0, 0, 0), (37, .invokevirtual 167, 3, 0, 0, 0), (40, .ifCond .eq 11, 3, 0, 51, 0), (43, .aload_n 0, 1, 0, 0, 0), (44, .iconst 3, 1, 3, 0, 0), (45, .invokevirtual 152, 3, 0, 0, 0), (48, .goto 32, 3, 0, 80, 0), (51, .aload_n 0, 1, 0, 0, 0), (52, .bipush 12, 2, 12, 0, 0), (54, .iload_n 1, 1, 0, 0, 0), (55, .iadd, 1, 0, 0, 0), (56, .iload_n 2, 1, 0, 0, 0), (57, .iconst 0, 1, 0, 0, 0), (58, .iconst 0, 1, 0, 0, 0), (59, .iconst 0, 1, 0, 0, 0), (60, .aload_n 0, 1, 0, 0, 0), (61, .getfield 30, 3, 0, 9, 7), (64, .iload_n 2, 1, 0, 0, 0), (65, .iaload, 1, 0, 0, 0), (66, .iload_n 1, 1, 0, 0, 0), (67, .ifCond .ne 8, 3, 0, 75, 0), (70, .bipush 8, 2, 8, 0, 0), (72, .goto 4, 3, 0, 76, 0), (75, .iconst 2, 1, 2, 0, 0), (76, .ior, 1, 0, 0, 0), (77, .invokevirtual 156, 3, 0, 0, 0), (80, .ireturn, 1, 0, 0, 0)]
def mX9_as : aM := (yX9_as, cX9_as, 3, (some .int), [], kX9_as)
set_option maxRecDepth 100000 in
theorem oX9_as : cB mX9_as mX9_as.code = true := by decide +kernel
def kX9_terms : List aR := [(0, .aload_n 0, 1, 0, 0, 0), (1, .iconst 0, 1, 0, 0, 0), (2, .putfield 1, 3, 0, 9, 0), (5, .aload_n 0, 1, 0, 0, 0), (6, .getfield 141, 3, 0, 9, 1), (9, .ireturn, 1, 0, 0, 0)]
def mX9_terms : aM := (yX9_terms, cX9_terms, 1, (some .int), [], kX9_terms)
set_option maxRecDepth 100000 in
theorem oX9_terms : cB mX9_terms mX9_terms.code = true := by decide +kernel
def kX9_needs : List aR := [(0, .aload_n 0, 1, 0, 0, 0), (1, .iconst 0, 1, 0, 0, 0), (2, .putfield 1, 3, 0, 9, 0), (5, .aload_n 0, 1, 0, 0, 0), (6, .iload_n 1, 1, 0, 0, 0), (7, .invokevirtual 164, 3, 0, 0, 0), (10, .ifCond .eq 12, 3, 0, 22, 0), (13, .aload_n 0, 1, 0, 0, 0), (14, .getfield 30, 3, 0, 9, 7), (17, .iload_n 1, 1, 0, 0, 0), (18, .iaload, 1, 0, 0, 0), (19, .goto 8, 3, 0, 27, 0), (22, .aload_n 0, 1, 0, 0, 0), (23, .iconst 1, 1, 1, 0, 0), (24, .invokevirtual 152, 3, 0, 0, 0), (27, .ireturn, 1, 0, 0, 0)]
def mX9_needs : aM := (yX9_needs, cX9_needs, 2, (some .int), [], kX9_needs)
set_option maxRecDepth 100000 in
theorem oX9_needs : cB mX9_needs mX9_needs.code = true := by decide +kernel
def kX9_order : List aR := [(0, .aload_n 0, 1, 0, 0, 0), (1, .iconst 0, 1, 0, 0, 0), (2, .putfield 1, 3, 0, 9, 0), (5, .iconst 0, 1, 0, 0, 0), (6, .istore 5, 2, 0, 0, 0), (8, .iconst 1, 1, 1, 0, 0), (9, .istore 6, 2, 0, 0, 0), (11, .iconst 0, 1, 0, 0, 0), (12, .istore 7, 2, 0, 0, 0), (14, .iload 7, 2, 0, 0, 0), (16, .iconst 4, 1, 4, 0, 0), (17, .if_icmp .ge 102, 3, 0, 119, 0), (20, .iload 7, 2, 0, 0, 0), (22, .ifCond .ne 7, 3, 0, 29, 0), (25, .iload_n 1, 1, 0, 0, 0), (26, .goto 25, 3, 0, 51, 0), (29, .iload 7, 2, 0, 0, 0), (31, .iconst 1, 1, 1, 0, 0), (32, .if_icmp .ne 7, 3, 0, 39, 0), (35, .iload_n 2, 1, 0, 0, 0), (36, .goto 15, 3, 0, 51, 0), (39, .iload 7, 2, 0, 0, 0), (41, .iconst 2, 1, 2, 0, 0), (42, .if_icmp .ne 7, 3, 0, 49, 0), (45, .iload_n 3, 1, 0, 0, 0), (46, .goto 5, 3, 0, 51, 0), (49, .iload 4, 2, 0, 0, 0), (51, .istore 8, 2, 0, 0, 0), (53, .iload 6, 2, 0, 0, 0), (55, .ifCond .eq 35, 3, 0, 90, 0), (58, .iload 8, 2, 0, 0, 0), (60, .iconst (-1), 1, -1, 0, 0), (61, .if_icmp .lt 29, 3, 0, 90, 0), (64, .iload 8, 2, 0, 0, 0), (66, .iconst 4, 1, 4, 0, 0), (67, .if_icmp .ge 23, 3, 0, 90, 0), (70, .iload 8, 2, 0, 0, 0), (72, .iconst (-1), 1, -1, 0, 0), (73, .if_icmp .eq 13, 3, 0, 86, 0), (76, .iload 5, 2, 0, 0, 0), (78, .iload 8, 2, 0, 0, 0), (80, .ishr, 1, 0, 0, 0), (81, .iconst 1, 1, 1, 0, 0), (82, .iand, 1, 0, 0, 0), (83, .ifCond .ne 7, 3, 0, 90, 0), (86, .iconst 1, 1, 1, 0, 0), (87, .goto 4, 3, 0, 91, 0), (90, .iconst 0, 1, 0, 0, 0), (91, .istore 6, 2, 0, 0, 0), (93, .iload 6, 2, 0, 0, 0), (95, .ifCond .eq 18, 3, 0, 113, 0), (98, .iload 8, 2, 0, 0, 0), (100, .iconst (-1), 1, -1, 0, 0), (101, .if_icmp .eq 12, 3, 0, 113, 0), (104, .iload 5, 2, 0, 0, 0), (106, .iconst 1, 1, 1, 0, 0), (107, .iload 8, 2, 0, 0, 0), (109, .ishl, 1, 0, 0, 0), (110, .ior, 1, 0, 0, 0), (111, .istore 5, 2, 0, 0, 0), (113, .iinc 7 1, 3, 1, 0, 0), (116, .goto (-102), 3, 0, 14, 0), (119, .iload 6, 2, 0, 0, 0), (121, .ifCond .ne 9, 3, 0, 130, 0), (124, .aload_n 0, 1, 0, 0, 0), (125, .iconst 1, 1, 1, 0, 0), (126, .invokevirtual 152, 3, 0, 0, 0), (129, .ireturn, 1, 0, 0, 0), (130, .iconst 0, 1, 0, 0, 0), (131, .istore 7, 2, 0, 0, 0), (133, .iconst 0, 1, 0, 0, 0), (134, .istore 8, 2, 0, 0, 0), (136, .iload 8, 2, 0, 0, 0), (138, .iconst 4, 1, 4, 0, 0), (139, .if_icmp .ge 79, 3, 0, 218, 0), (142, .aload_n 0, 1, 0, 0, 0), (143, .getfield 36, 3, 0, 9, 9), (146, .iload 8, 2, 0, 0, 0), (148, .iload_n 1, 1, 0, 0, 0), (149, .iload 8, 2, 0, 0, 0), (151, .if_icmp .ne 7, 3, 0, 158, 0), (154, .iconst 0, 1, 0, 0, 0), (155, .goto 35, 3, 0, 190, 0), (158, .iload_n 2, 1, 0, 0, 0), (159, .iload 8, 2, 0, 0, 0), (161, .if_icmp .ne 7, 3, 0, 168, 0), (164, .iconst 1, 1, 1, 0, 0), (165, .goto 25, 3, 0, 190, 0), (168, .iload_n 3, 1, 0, 0, 0), (169, .iload 8, 2, 0, 0, 0), (171, .if_icmp .ne 7, 3, 0, 178, 0), (174, .iconst 2, 1, 2, 0, 0), (175, .goto 15, 3, 0, 190, 0), (178, .iload 4, 2, 0, 0, 0), (180, .iload 8, 2, 0, 0, 0), (182, .if_icmp .ne 7, 3, 0, 189, 0), (185, .iconst 3, 1, 3, 0, 0), (186, .goto 4, 3, 0, 190, 0), (189, .iconst (-1), 1, -1, 0, 0), (190, .iastore, 1, 0, 0, 0), (191, .iload 7, 2, 0, 0, 0), (193, .aload_n 0, 1, 0, 0, 0), (194, .getfield 36, 3, 0, 9, 9), (197, .iload 8, 2, 0, 0, 0), (199, .iaload, 1, 0, 0, 0), (200, .iconst (-1), 1, -1, 0, 0), (201, .if_icmp .ne 7, 3, 0, 208, 0), (204, .iconst 0, 1, 0, 0, 0), (205, .goto 4, 3, 0, 209, 0), (208, .iconst 1, 1, 1, 0, 0), (209, .iadd, 1, 0, 0, 0), (210, .istore 7, 2, 0, 0, 0), (212, .iinc 8 1, 3, 1, 0, 0), (215, .goto (-79), 3, 0, 136, 0), (218, .iload 7, 2, 0, 0, 0), (220, .ireturn, 1, 0, 0, 0)]
def mX9_order : aM := (yX9_order, cX9_order, 9, (some .int), [], kX9_order)
set_option maxRecDepth 100000 in
theorem oX9_order : cB mX9_order mX9_order.code = true := by decide +kernel
def kX9_has : List aR := [(0, .aload_n 0, 1, 0, 0, 0), (1, .getfield 36, 3, 0, 9, 9), (4, .iload_n 1, 1, 0, 0, 0), (5, .iaload, 1, 0, 0, 0), (6, .iconst (-1), 1, -1, 0, 0), (7, .if_icmp .eq 7, 3, 0, 14, 0), (10, .iconst 1, 1, 1, 0, 0), (11, .goto 4, 3, 0, 15, 0), (14, .iconst 0, 1, 0, 0, 0), (15, .ireturn, 1, 0, 0, 0)]
def mX9_has : aM := (yX9_has, cX9_has, 2, (some .boolean), [], kX9_has)
set_option maxRecDepth 100000 in
theorem oX9_has : cB mX9_has mX9_has.code = true := by decide +kernel
def kX9_isOwn : List aR := [(0, .aload_n 0, 1, 0, 0, 0), (1, .iload_n 1, 1, 0, 0, 0), (2, .invokevirtual 175, 3, 0, 0, 0), (5, .ifCond .eq 30, 3, 0, 35, 0), (8, .aload_n 0, 1, 0, 0, 0), (9, .iconst 3, 1, 3, 0, 0), (10, .invokevirtual 175, 3, 0, 0, 0), (13, .ifCond .eq 18, 3, 0, 31, 0), (16, .aload_n 0, 1, 0, 0, 0), (17, .getfield 36, 3, 0, 9, 9), (20, .iload_n 1, 1, 0, 0, 0), (21, .iaload, 1, 0, 0, 0), (22, .aload_n 0, 1, 0, 0, 0), (23, .getfield 36, 3, 0, 9, 9), (26, .iconst 3, 1, 3, 0, 0), (27, .iaload, 1, 0, 0, 0), (28, .if_icmp .ge 7, 3, 0, 35, 0), (31, .iconst 1, 1, 1, 0, 0), (32, .goto 4, 3, 0, 36, 0), (35, .iconst 0, 1, 0, 0, 0), (36, .ireturn, 1, 0, 0, 0)]
def mX9_isOwn : aM := (yX9_isOwn, cX9_isOwn, 2, (some .boolean), [], kX9_isOwn)
set_option maxRecDepth 100000 in
theorem oX9_isOwn : cB mX9_isOwn mX9_isOwn.code = true := by decide +kernel
def kX9_isShared : List aR := [(0, .aload_n 0, 1, 0, 0, 0), (1, .iload_n 1, 1, 0, 0, 0), (2, .invokevirtual 175, 3, 0, 0, 0), (5, .ifCond .eq 15, 3, 0, 20, 0), (8, .aload_n 0, 1, 0, 0, 0), (9, .iload_n 1, 1, 0, 0, 0), (10, .invokevirtual 178, 3, 0, 0, 0), (13, .ifCond .ne 7, 3, 0, 20, 0), (16, .iconst 1, 1, 1, 0, 0), (17, .goto 4, 3, 0, 21, 0), (20, .iconst 0, 1, 0, 0, 0), (21, .ireturn, 1, 0, 0, 0)]
def mX9_isShared : aM := (yX9_isShared, cX9_isShared, 2, (some .boolean), [], kX9_isShared)
set_option maxRecDepth 100000 in
theorem oX9_isShared : cB mX9_isShared mX9_isShared.code = true := by decide +kernel
def kX9_isOutside : List aR := [(0, .aload_n 0, 1, 0, 0, 0), (1, .iload_n 1, 1, 0, 0, 0), (2, .invokevirtual 175, 3, 0, 0, 0), (5, .ifCond .eq 30, 3, 0, 35, 0), (8, .aload_n 0, 1, 0, 0, 0), (9, .iconst 2, 1, 2, 0, 0), (10, .invokevirtual 175, 3, 0, 0, 0), (13, .ifCond .eq 22, 3, 0, 35, 0), (16, .aload_n 0, 1, 0, 0, 0), (17, .getfield 36, 3, 0, 9, 9), (20, .iload_n 1, 1, 0, 0, 0), (21, .iaload, 1, 0, 0, 0), (22, .aload_n 0, 1, 0, 0, 0), (23, .getfield 36, 3, 0, 9, 9), (26, .iconst 2, 1, 2, 0, 0), (27, .iaload, 1, 0, 0, 0), (28, .if_icmp .ge 7, 3, 0, 35, 0), (31, .iconst 1, 1, 1, 0, 0), (32, .goto 4, 3, 0, 36, 0), (35, .iconst 0, 1, 0, 0, 0), (36, .ireturn, 1, 0, 0, 0)]
def mX9_isOutside : aM := (yX9_isOutside, cX9_isOutside, 2, (some .boolean), [], kX9_isOutside)
set_option maxRecDepth 100000 in
theorem oX9_isOutside : cB mX9_isOutside mX9_isOutside.code = true := by decide +kernel
def kX9_lacks : List aR := [(0, .iconst 0, 1, 0, 0, 0), (1, .istore_n 2, 1, 0, 0, 0), (2, .iconst 0, 1, 0, 0, 0), (3, .istore_n 3, 1, 0, 0, 0), (4, .iload_n 3, 1, 0, 0, 0), (5, .iconst 4, 1, 4, 0, 0), (6, .if_icmp .ge 39, 3, 0, 45, 0), (9, .iload_n 2, 1, 0, 0, 0), (10, .aload_n 0, 1, 0, 0, 0), (11, .getfield 30, 3, 0, 9, 7), (14, .iload_n 1, 1, 0, 0, 0), (15, .iaload, 1, 0, 0, 0), (16, .iload_n 3, 1, 0, 0, 0), (17, .ishr, 1, 0, 0, 0), (18, .iconst 1, 1, 1, 0, 0), (19, .iand, 1, 0, 0, 0), (20, .iconst 1, 1, 1, 0, 0), (21, .if_icmp .ne 15, 3, 0, 36, 0), (24, .aload_n 0, 1, 0, 0, 0), (25, .iload_n 3, 1, 0, 0, 0), (26, .invokevirtual 175, 3, 0, 0, 0), (29, .ifCond .ne 7, 3, 0, 36, 0), (32, .iconst 1, 1, 1, 0, 0), (33, .goto 4, 3, 0, 37, 0), (36, .iconst 0, 1, 0, 0, 0), (37, .ior, 1, 0, 0, 0), (38, .istore_n 2, 1, 0, 0, 0), (39, .iinc 3 1, 3, 1, 0, 0), (42, .goto (-38), 3, 0, 4, 0), (45, .iload_n 2, 1, 0, 0, 0), (46, .ireturn, 1, 0, 0, 0)]
def mX9_lacks : aM := (yX9_lacks, cX9_lacks, 4, (some .boolean), [], kX9_lacks)
set_option maxRecDepth 100000 in
theorem oX9_lacks : cB mX9_lacks mX9_lacks.code = true := by decide +kernel
def kX9_row : List aR := [(0, .bipush 50, 2, 50, 0, 0), (2, .iconst 2, 1, 2, 0, 0), (3, .iload_n 1, 1, 0, 0, 0), (4, .imul, 1, 0, 0, 0), (5, .iload_n 2, 1, 0, 0, 0), (6, .iadd, 1, 0, 0, 0), (7, .imul, 1, 0, 0, 0), (8, .ireturn, 1, 0, 0, 0)]
def mX9_row : aM := (yX9_row, cX9_row, 3, (some .int), [], kX9_row)
set_option maxRecDepth 100000 in
theorem oX9_row : cB mX9_row mX9_row.code = true := by decide +kernel
def kX9_push : List aR := [(0, .aload_n 0, 1, 0, 0, 0), (1, .getfield 181, 3, 0, 9, 31), (4, .aload_n 0, 1, 0, 0, 0), (5, .getfield 184, 3, 0, 9, 32), (8, .if_icmp .ne 9, 3, 0, 17, 0), (11, .aload_n 0, 1, 0, 0, 0), (12, .iconst 1, 1, 1, 0, 0), (13, .putfield 187, 3, 0, 9, 33), (16, .return_, 1, 0, 0, 0), (17, .aload_n 0, 1, 0, 0, 0), (18, .dup, 1, 0, 0, 0), (19, .getfield 181, 3, 0, 9, 31), (22, .iconst 1, 1, 1, 0, 0), (23, .iadd, 1, 0, 0, 0), (24, .putfield 181, 3, 0, 9, 31), (27, .iconst 0, 1, 0, 0, 0), (28, .istore 7, 2, 0, 0, 0), (30, .iload 7, 2, 0, 0, 0), (32, .bipush 8, 2, 8, 0, 0), (34, .if_icmp .ge 45, 3, 0, 79, 0), (37, .aload_n 0, 1, 0, 0, 0), (38, .getfield 72, 3, 0, 9, 23), (41, .bipush 8, 2, 8, 0, 0), (43, .aload_n 0, 1, 0, 0, 0), (44, .getfield 191, 3, 0, 9, 14), (47, .imul, 1, 0, 0, 0), (48, .iload 7, 2, 0, 0, 0), (50, .iadd, 1, 0, 0, 0), (51, .iload_n 2, 1, 0, 0, 0), (52, .iconst (-1), 1, -1, 0, 0), (53, .if_icmp .ne 7, 3, 0, 60, 0), (56, .iconst 0, 1, 0, 0, 0), (57, .goto 15, 3, 0, 72, 0), (60, .aload_n 0, 1, 0, 0, 0), (61, .getfield 72, 3, 0, 9, 23), (64, .bipush 8, 2, 8, 0, 0), (66, .iload_n 2, 1, 0, 0, 0), (67, .imul, 1, 0, 0, 0), (68, .iload 7, 2, 0, 0, 0), (70, .iadd, 1, 0, 0, 0), (71, .iaload, 1, 0, 0, 0), (72, .iastore, 1, 0, 0, 0), (73, .iinc 7 1, 3, 1, 0, 0), (76, .goto (-46), 3, 0, 30, 0), (79, .iload_n 3, 1, 0, 0, 0), (80, .iconst (-1), 1, -1, 0, 0), (81, .if_icmp .eq 19, 3, 0, 100, 0), (84, .aload_n 0, 1, 0, 0, 0), (85, .getfield 72, 3, 0, 9, 23), (88, .bipush 8, 2, 8, 0, 0), (90, .aload_n 0, 1, 0, 0, 0), (91, .getfield 191, 3, 0, 9, 14), (94, .imul, 1, 0, 0, 0), (95, .iload_n 3, 1, 0, 0, 0), (96, .iadd, 1, 0, 0, 0), (97, .iload 4, 2, 0, 0, 0), (99, .iastore, 1, 0, 0, 0), (100, .aload_n 0, 1, 0, 0, 0), (101, .getfield 48, 3, 0, 9, 15), (104, .aload_n 0, 1, 0, 0, 0), (105, .getfield 191, 3, 0, 9, 14), (108, .iload_n 1, 1, 0, 0, 0), (109, .iastore, 1, 0, 0, 0), (110, .aload_n 0, 1, 0, 0, 0), (111, .getfield 51, 3, 0, 9, 16), (114, .aload_n 0, 1, 0, 0, 0), (115, .getfield 191, 3, 0, 9, 14), (118, .iconst 0, 1, 0, 0, 0), (119, .iastore, 1, 0, 0, 0), (120, .aload_n 0, 1, 0, 0, 0), (121, .getfield 54, 3, 0, 9, 17), (124, .aload_n 0, 1, 0, 0, 0), (125, .getfield 191, 3, 0, 9, 14), (128, .iconst 0, 1, 0, 0, 0), (129, .iastore, 1, 0, 0, 0), (130, .aload_n 0, 1, 0, 0, 0), (131, .getfield 57, 3, 0, 9, 18), (134, .aload_n 0, 1, 0, 0, 0), (135, .getfield 191, 3, 0, 9, 14), (138, .iconst 0, 1, 0, 0, 0), (139, .iastore, 1, 0, 0, 0), (140, .aload_n 0, 1, 0, 0, 0), (141, .getfield 60, 3, 0, 9, 19), (144, .aload_n 0, 1, 0, 0, 0), (145, .getfield 191, 3, 0, 9, 14), (148, .iload 5, 2, 0, 0, 0), (150, .iastore, 1, 0, 0, 0), (151, .aload_n 0, 1, 0, 0, 0), (152, .getfield 63, 3, 0, 9, 20), (155, .aload_n 0, 1, 0, 0, 0), (156, .getfield 191, 3, 0, 9, 14), (159, .iload 6, 2, 0, 0, 0), (161, .iastore, 1, 0, 0, 0), (162, .aload_n 0, 1, 0, 0, 0), (163, .getfield 66, 3, 0, 9, 21), (166, .aload_n 0, 1, 0, 0, 0), (167, .getfield 191, 3, 0, 9, 14), (170, .aload_n 0, 1, 0, 0, 0), (171, .getfield 194, 3, 0, 9, 29), (174, .iastore, 1, 0, 0, 0), (175, .aload_n 0, 1, 0, 0, 0), (176, .getfield 69, 3, 0, 9, 22), (179, .aload_n 0, 1, 0, 0, 0), (180, .getfield 191, 3, 0, 9, 14), (183, .aload_n 0, 1, 0, 0, 0), (184, .getfield 197, 3, 0, 9, 30), (187, .iastore, 1, 0, 0, 0), (188, .aload_n 0, 1, 0, 0, 0), (189, .getfield 75, 3, 0, 9, 24), (192, .iconst 2, 1, 2, 0, 0), (193, .aload_n 0, 1, 0, 0, 0), (194, .getfield 191, 3, 0, 9, 14), (197, .imul, 1, 0, 0, 0), (198, .iconst 0, 1, 0, 0, 0), (199, .iastore, 1, 0, 0, 0), (200, .aload_n 0, 1, 0, 0, 0), (201, .getfield 75, 3, 0, 9, 24), (204, .iconst 2, 1, 2, 0, 0), (205, .aload_n 0, 1, 0, 0, 0), (206, .getfield 191, 3, 0, 9, 14), (209, .imul, 1, 0, 0, 0), (210, .iconst 1, 1, 1, 0, 0), (211, .iadd, 1, 0, 0, 0), (212, .iconst 0, 1, 0, 0, 0), (213, .iastore, 1, 0, 0, 0), (214, .aload_n 0, 1, 0, 0, 0), (215, .dup, 1, 0, 0, 0), (216, .getfield 191, 3, 0, 9, 14), (219, .iconst 1, 1, 1, 0, 0), (220, .iadd, 1, 0, 0, 0), (221, .putfield 191, 3, 0, 9, 14), (224, .return_, 1, 0, 0, 0)]
def mX9_push : aM := (yX9_push, cX9_push, 8, none, [], kX9_push)
set_option maxRecDepth 100000 in
theorem oX9_push : cB mX9_push mX9_push.code = true := by decide +kernel
def kX9_tell : List aR := [(0, .aload_n 0, 1, 0, 0, 0), (1, .getfield 75, 3, 0, 9, 24), (4, .iconst 2, 1, 2, 0, 0), (5, .iload_n 1, 1, 0, 0, 0), (6, .imul, 1, 0, 0, 0), (7, .iconst 1, 1, 1, 0, 0), (8, .iadd, 1, 0, 0, 0), (9, .iaload, 1, 0, 0, 0), (10, .bipush 50, 2, 50, 0, 0), (12, .if_icmp .ne 9, 3, 0, 21, 0), (15, .aload_n 0, 1, 0, 0, 0), (16, .iconst 1, 1, 1, 0, 0), (17, .putfield 187, 3, 0, 9, 33), (20, .return_, 1, 0, 0, 0), (21, .aload_n 0, 1, 0, 0, 0), (22, .iload_n 1, 1, 0, 0, 0), (23, .iconst 1, 1, 1, 0, 0), (24, .invokevirtual 200, 3, 0, 0, 0), (27, .aload_n 0, 1, 0, 0, 0), (28, .getfield 75, 3, 0, 9, 24), (31, .iconst 2, 1, 2, 0, 0), (32, .iload_n 1, 1, 0, 0, 0), (33, .imul, 1, 0, 0, 0), (34, .iconst 1, 1, 1, 0, 0), (35, .iadd, 1, 0, 0, 0), (36, .iaload, 1, 0, 0, 0), (37, .iadd, 1, 0, 0, 0), (38, .istore 6, 2, 0, 0, 0), (40, .aload_n 0, 1, 0, 0, 0), (41, .getfield 78, 3, 0, 9, 25), (44, .iload 6, 2, 0, 0, 0), (46, .iload_n 2, 1, 0, 0, 0), (47, .bastore, 1, 0, 0, 0), (48, .aload_n 0, 1, 0, 0, 0), (49, .getfield 81, 3, 0, 9, 26), (52, .iload 6, 2, 0, 0, 0), (54, .iload_n 3, 1, 0, 0, 0), (55, .iastore, 1, 0, 0, 0), (56, .aload_n 0, 1, 0, 0, 0), (57, .getfield 84, 3, 0, 9, 27), (60, .iload 6, 2, 0, 0, 0), (62, .iload 4, 2, 0, 0, 0), (64, .iastore, 1, 0, 0, 0), (65, .aload_n 0, 1, 0, 0, 0), (66, .getfield 87, 3, 0, 9, 28), (69, .iload 6, 2, 0, 0, 0), (71, .iload 5, 2, 0, 0, 0), (73, .iastore, 1, 0, 0, 0), (74, .aload_n 0, 1, 0, 0, 0), (75, .getfield 75, 3, 0, 9, 24), (78, .iconst 2, 1, 2, 0, 0), (79, .iload_n 1, 1, 0, 0, 0), (80, .imul, 1, 0, 0, 0), (81, .iconst 1, 1, 1, 0, 0), (82, .iadd, 1, 0, 0, 0), (83, .dup2, 1, 0, 0, 0), (84, .iaload, 1, 0, 0, 0), (85, .iconst 1, 1, 1, 0, 0), (86, .iadd, 1, 0, 0, 0), (87, .iastore, 1, 0, 0, 0), (88, .return_, 1, 0, 0, 0)]
def mX9_tell : aM := (yX9_tell, cX9_tell, 7, none, [], kX9_tell)
set_option maxRecDepth 100000 in
theorem oX9_tell : cB mX9_tell mX9_tell.code = true := by decide +kernel
def kX9_gather : List aR := [(0, .aload_n 0, 1, 0, 0, 0), (1, .iload_n 1, 1, 0, 0, 0), (2, .iconst 1, 1, 1, 0, 0), (3, .iadd, 1, 0, 0, 0), (4, .iconst 1, 1, 1, 0, 0), (5, .invokevirtual 200, 3, 0, 0, 0), (8, .istore_n 2, 1, 0, 0, 0), (9, .iconst 0, 1, 0, 0, 0), (10, .istore_n 3, 1, 0, 0, 0), (11, .iload_n 3, 1, 0, 0, 0), (12, .aload_n 0, 1, 0, 0, 0), (13, .getfield 75, 3, 0, 9, 24), (16, .iconst 2, 1, 2, 0, 0), (17, .iload_n 1, 1, 0, 0, 0), (18, .imul, 1, 0, 0, 0), (19, .iconst 3, 1, 3, 0, 0), (20, .iadd, 1, 0, 0, 0), (21, .iaload, 1, 0, 0, 0), (22, .if_icmp .ge 53, 3, 0, 75, 0), (25, .aload_n 0, 1, 0, 0, 0), (26, .getfield 187, 3, 0, 9, 33), (29, .ifCond .ne 46, 3, 0, 75, 0), (32, .aload_n 0, 1, 0, 0, 0), (33, .iload_n 1, 1, 0, 0, 0), (34, .aload_n 0, 1, 0, 0, 0), (35, .getfield 78, 3, 0, 9, 25), (38, .iload_n 2, 1, 0, 0, 0), (39, .iload_n 3, 1, 0, 0, 0), (40, .iadd, 1, 0, 0, 0), (41, .baload, 1, 0, 0, 0), (42, .aload_n 0, 1, 0, 0, 0), (43, .getfield 81, 3, 0, 9, 26), (46, .iload_n 2, 1, 0, 0, 0), (47, .iload_n 3, 1, 0, 0, 0), (48, .iadd, 1, 0, 0, 0), (49, .iaload, 1, 0, 0, 0), (50, .aload_n 0, 1, 0, 0, 0), (51, .getfield 84, 3, 0, 9, 27), (54, .iload_n 2, 1, 0, 0, 0), (55, .iload_n 3, 1, 0, 0, 0), (56, .iadd, 1, 0, 0, 0), (57, .iaload, 1, 0, 0, 0), (58, .aload_n 0, 1, 0, 0, 0), (59, .getfield 87, 3, 0, 9, 28), (62, .iload_n 2, 1, 0, 0, 0), (63, .iload_n 3, 1, 0, 0, 0), (64, .iadd, 1, 0, 0, 0), (65, .iaload, 1, 0, 0, 0), (66, .invokevirtual 203, 3, 0, 0, 0), (69, .iinc 3 1, 3, 1, 0, 0), (72, .goto (-61), 3, 0, 11, 0), (75, .return_, 1, 0, 0, 0)]
def mX9_gather : aM := (yX9_gather, cX9_gather, 4, none, [], kX9_gather)
set_option maxRecDepth 100000 in
theorem oX9_gather : cB mX9_gather mX9_gather.code = true := by decide +kernel
def kX9_turn : List aR := [(0, .aload_n 0, 1, 0, 0, 0), (1, .iload_n 1, 1, 0, 0, 0), (2, .iconst 0, 1, 0, 0, 0), (3, .invokevirtual 200, 3, 0, 0, 0), (6, .istore_n 2, 1, 0, 0, 0), (7, .aload_n 0, 1, 0, 0, 0), (8, .iload_n 1, 1, 0, 0, 0), (9, .iconst 1, 1, 1, 0, 0), (10, .invokevirtual 200, 3, 0, 0, 0), (13, .istore_n 3, 1, 0, 0, 0), (14, .aload_n 0, 1, 0, 0, 0), (15, .getfield 75, 3, 0, 9, 24), (18, .iconst 2, 1, 2, 0, 0), (19, .iload_n 1, 1, 0, 0, 0), (20, .imul, 1, 0, 0, 0), (21, .aload_n 0, 1, 0, 0, 0), (22, .getfield 75, 3, 0, 9, 24), (25, .iconst 2, 1, 2, 0, 0), (26, .iload_n 1, 1, 0, 0, 0), (27, .imul, 1, 0, 0, 0), (28, .iconst 1, 1, 1, 0, 0), (29, .iadd, 1, 0, 0, 0), (30, .iaload, 1, 0, 0, 0), (31, .iastore, 1, 0, 0, 0), (32, .iconst 0, 1, 0, 0, 0), (33, .istore 4, 2, 0, 0, 0), (35, .iload 4, 2, 0, 0, 0), (37, .aload_n 0, 1, 0, 0, 0), (38, .getfield 75, 3, 0, 9, 24), (41, .iconst 2, 1, 2, 0, 0), (42, .iload_n 1, 1, 0, 0, 0), (43, .imul, 1, 0, 0, 0), (44, .iaload, 1, 0, 0, 0), (45, .if_icmp .ge 81, 3, 0, 126, 0), (48, .aload_n 0, 1, 0, 0, 0), (49, .getfield 78, 3, 0, 9, 25), (52, .iload_n 2, 1, 0, 0, 0), (53, .iload 4, 2, 0, 0, 0), (55, .iadd, 1, 0, 0, 0), (56, .aload_n 0, 1, 0, 0, 0), (57, .getfield 78, 3, 0, 9, 25), (60, .iload_n 3, 1, 0, 0, 0), (61, .iload 4, 2, 0, 0, 0), (63, .iadd, 1, 0, 0, 0), (64, .baload, 1, 0, 0, 0), (65, .bastore, 1, 0, 0, 0), (66, .aload_n 0, 1, 0, 0, 0), (67, .getfield 81, 3, 0, 9, 26), (70, .iload_n 2, 1, 0, 0, 0), (71, .iload 4, 2, 0, 0, 0), (73, .iadd, 1, 0, 0, 0), (74, .aload_n 0, 1, 0, 0, 0), (75, .getfield 81, 3, 0, 9, 26), (78, .iload_n 3, 1, 0, 0, 0), (79, .iload 4, 2, 0, 0, 0), (81, .iadd, 1, 0, 0, 0), (82, .iaload, 1, 0, 0, 0), (83, .iastore, 1, 0, 0, 0), (84, .aload_n 0, 1, 0, 0, 0), (85, .getfield 84, 3, 0, 9, 27), (88, .iload_n 2, 1, 0, 0, 0), (89, .iload 4, 2, 0, 0, 0), (91, .iadd, 1, 0, 0, 0), (92, .aload_n 0, 1, 0, 0, 0), (93, .getfield 84, 3, 0, 9, 27), (96, .iload_n 3, 1, 0, 0, 0), (97, .iload 4, 2, 0, 0, 0), (99, .iadd, 1, 0, 0, 0), (100, .iaload, 1, 0, 0, 0), (101, .iastore, 1, 0, 0, 0), (102, .aload_n 0, 1, 0, 0, 0), (103, .getfield 87, 3, 0, 9, 28), (106, .iload_n 2, 1, 0, 0, 0), (107, .iload 4, 2, 0, 0, 0), (109, .iadd, 1, 0, 0, 0), (110, .aload_n 0, 1, 0, 0, 0), (111, .getfield 87, 3, 0, 9, 28), (114, .iload_n 3, 1, 0, 0, 0), (115, .iload 4, 2, 0, 0, 0), (117, .iadd, 1, 0, 0, 0), (118, .iaload, 1, 0, 0, 0), (119, .iastore, 1, 0, 0, 0), (120, .iinc 4 1, 3, 1, 0, 0), (123, .goto (-88), 3, 0, 35, 0), (126, .aload_n 0, 1, 0, 0, 0), (127, .getfield 75, 3, 0, 9, 24), (130, .iconst 2, 1, 2, 0, 0), (131, .iload_n 1, 1, 0, 0, 0), (132, .imul, 1, 0, 0, 0), (133, .iconst 1, 1, 1, 0, 0), (134, .iadd, 1, 0, 0, 0), (135, .iconst 0, 1, 0, 0, 0), (136, .iastore, 1, 0, 0, 0), (137, .aload_n 0, 1, 0, 0, 0), (138, .getfield 54, 3, 0, 9, 17), (141, .iload_n 1, 1, 0, 0, 0), (142, .iconst 0, 1, 0, 0, 0), (143, .iastore, 1, 0, 0, 0), (144, .return_, 1, 0, 0, 0)]
def mX9_turn : aM := (yX9_turn, cX9_turn, 5, none, [], kX9_turn)
set_option maxRecDepth 100000 in
theorem oX9_turn : cB mX9_turn mX9_turn.code = true := by decide +kernel
def kX9_value : List aR := [(0, .iload_n 3, 1, 0, 0, 0), (1, .ifCond .eq 17, 3, 0, 18, 0), (4, .aload_n 0, 1, 0, 0, 0), (5, .getfield 72, 3, 0, 9, 23), (8, .bipush 8, 2, 8, 0, 0), (10, .iload_n 1, 1, 0, 0, 0), (11, .imul, 1, 0, 0, 0), (12, .iload_n 2, 1, 0, 0, 0), (13, .iadd, 1, 0, 0, 0), (14, .iaload, 1, 0, 0, 0), (15, .goto 4, 3, 0, 19, 0), (18, .iload_n 2, 1, 0, 0, 0), (19, .ireturn, 1, 0, 0, 0)]
def mX9_value : aM := (yX9_value, cX9_value, 4, (some .int), [], kX9_value)
set_option maxRecDepth 100000 in
theorem oX9_value : cB mX9_value mX9_value.code = true := by decide +kernel
def kX9_longer : List aR := [(0, .aload_n 0, 1, 0, 0, 0), (1, .getfield 45, 3, 0, 9, 13), (4, .iload_n 1, 1, 0, 0, 0), (5, .iaload, 1, 0, 0, 0), (6, .bipush 60, 2, 60, 0, 0), (8, .if_icmp .ne 10, 3, 0, 18, 0), (11, .aload_n 0, 1, 0, 0, 0), (12, .iconst 1, 1, 1, 0, 0), (13, .putfield 187, 3, 0, 9, 33), (16, .iload_n 1, 1, 0, 0, 0), (17, .ireturn, 1, 0, 0, 0), (18, .aload_n 0, 1, 0, 0, 0), (19, .dup, 1, 0, 0, 0), (20, .getfield 207, 3, 0, 9, 10), (23, .iconst 1, 1, 1, 0, 0), (24, .iadd, 1, 0, 0, 0), (25, .putfield 207, 3, 0, 9, 10), (28, .aload_n 0, 1, 0, 0, 0), (29, .getfield 39, 3, 0, 9, 11), (32, .aload_n 0, 1, 0, 0, 0), (33, .getfield 207, 3, 0, 9, 10), (36, .iload_n 1, 1, 0, 0, 0), (37, .iastore, 1, 0, 0, 0), (38, .aload_n 0, 1, 0, 0, 0), (39, .getfield 42, 3, 0, 9, 12), (42, .aload_n 0, 1, 0, 0, 0), (43, .getfield 207, 3, 0, 9, 10), (46, .iload_n 2, 1, 0, 0, 0), (47, .iastore, 1, 0, 0, 0), (48, .aload_n 0, 1, 0, 0, 0), (49, .getfield 45, 3, 0, 9, 13), (52, .aload_n 0, 1, 0, 0, 0), (53, .getfield 207, 3, 0, 9, 10), (56, .aload_n 0, 1, 0, 0, 0), (57, .getfield 45, 3, 0, 9, 13), (60, .iload_n 1, 1, 0, 0, 0), (61, .iaload, 1, 0, 0, 0), (62, .iconst 1, 1, 1, 0, 0), (63, .iadd, 1, 0, 0, 0), (64, .iastore, 1, 0, 0, 0), (65, .aload_n 0, 1, 0, 0, 0), (66, .getfield 207, 3, 0, 9, 10), (69, .ireturn, 1, 0, 0, 0)]
def mX9_longer : aM := (yX9_longer, cX9_longer, 3, (some .int), [], kX9_longer)
set_option maxRecDepth 100000 in
theorem oX9_longer : cB mX9_longer mX9_longer.code = true := by decide +kernel
def kX9_leaf : List aR := [(0, .aload_n 0, 1, 0, 0, 0), (1, .getfield 48, 3, 0, 9, 15), (4, .iload_n 1, 1, 0, 0, 0), (5, .iaload, 1, 0, 0, 0), (6, .istore_n 2, 1, 0, 0, 0), (7, .aload_n 0, 1, 0, 0, 0), (8, .iload_n 1, 1, 0, 0, 0), (9, .aload_n 0, 1, 0, 0, 0), (10, .getfield 17, 3, 0, 9, 3), (13, .iload_n 2, 1, 0, 0, 0), (14, .iaload, 1, 0, 0, 0), (15, .aload_n 0, 1, 0, 0, 0), (16, .getfield 26, 3, 0, 9, 6), (19, .iload_n 2, 1, 0, 0, 0), (20, .baload, 1, 0, 0, 0), (21, .invokevirtual 210, 3, 0, 0, 0), (24, .istore_n 3, 1, 0, 0, 0), (25, .aload_n 0, 1, 0, 0, 0), (26, .getfield 60, 3, 0, 9, 19), (29, .iload_n 1, 1, 0, 0, 0), (30, .iaload, 1, 0, 0, 0), (31, .istore 4, 2, 0, 0, 0), (33, .aload_n 0, 1, 0, 0, 0), (34, .getfield 63, 3, 0, 9, 20), (37, .iload_n 1, 1, 0, 0, 0), (38, .iaload, 1, 0, 0, 0), (39, .istore 5, 2, 0, 0, 0), (41, .aload_n 0, 1, 0, 0, 0), (42, .getfield 13, 3, 0, 9, 2), (45, .iload_n 2, 1, 0, 0, 0), (46, .iaload, 1, 0, 0, 0), (47, .tableswitch 222 0 5 #[37, 40, 85, 106, 150, 186], 37, 0, 0, 0), (84, .goto 196, 3, 0, 280, 0), (87, .aload_n 0, 1, 0, 0, 0), (88, .getfield 23, 3, 0, 9, 5), (91, .iload_n 2, 1, 0, 0, 0), (92, .iaload, 1, 0, 0, 0), (93, .aload_n 0, 1, 0, 0, 0), (94, .getfield 72, 3, 0, 9, 23), (97, .bipush 8, 2, 8, 0, 0), (99, .iload_n 1, 1, 0, 0, 0), (100, .imul, 1, 0, 0, 0), (101, .aload_n 0, 1, 0, 0, 0), (102, .getfield 17, 3, 0, 9, 3), (105, .iload_n 2, 1, 0, 0, 0), (106, .iaload, 1, 0, 0, 0), (107, .iadd, 1, 0, 0, 0), (108, .iaload, 1, 0, 0, 0), (109, .aload_n 0, 1, 0, 0, 0), (110, .getfield 72, 3, 0, 9, 23), (113, .bipush 8, 2, 8, 0, 0), (115, .iload_n 1, 1, 0, 0, 0), (116, .imul, 1, 0, 0, 0), (117, .aload_n 0, 1, 0, 0, 0), (118, .getfield 20, 3, 0, 9, 4), (121, .iload_n 2, 1, 0, 0, 0), (122, .iaload, 1, 0, 0, 0), (123, .iadd, 1, 0, 0, 0), (124, .iaload, 1, 0, 0, 0), (125, .invokestatic 214, 3, 0, 0, 0), (128, .istore_n 3, 1, 0, 0, 0), (129, .goto 151, 3, 0, 280, 0), (132, .aload_n 0, 1, 0, 0, 0), (133, .iconst 0, 1, 0, 0, 0), (134, .invokevirtual 178, 3, 0, 0, 0), (137, .ifCond .eq 8, 3, 0, 145, 0), (140, .iload 4, 2, 0, 0, 0), (142, .goto 7, 3, 0, 149, 0), (145, .aload_n 0, 1, 0, 0, 0), (146, .getfield 194, 3, 0, 9, 29), (149, .istore_n 3, 1, 0, 0, 0), (150, .goto 130, 3, 0, 280, 0), (153, .aload_n 0, 1, 0, 0, 0), (154, .iconst 0, 1, 0, 0, 0), (155, .invokevirtual 178, 3, 0, 0, 0), (158, .ifCond .eq 8, 3, 0, 166, 0), (161, .iload 4, 2, 0, 0, 0), (163, .goto 7, 3, 0, 170, 0), (166, .aload_n 0, 1, 0, 0, 0), (167, .getfield 194, 3, 0, 9, 29), (170, .istore 6, 2, 0, 0, 0), (172, .aload_n 0, 1, 0, 0, 0), (173, .iconst 0, 1, 0, 0, 0), (174, .invokevirtual 178, 3, 0, 0, 0), (177, .ifCond .eq 9, 3, 0, 186, 0), (180, .iload_n 3, 1, 0, 0, 0), (181, .istore 4, 2, 0, 0, 0), (183, .goto 8, 3, 0, 191, 0), (186, .aload_n 0, 1, 0, 0, 0), (187, .iload_n 3, 1, 0, 0, 0), (188, .putfield 194, 3, 0, 9, 29), (191, .iload 6, 2, 0, 0, 0), (193, .istore_n 3, 1, 0, 0, 0), (194, .goto 86, 3, 0, 280, 0), (197, .aload_n 0, 1, 0, 0, 0), (198, .iconst 1, 1, 1, 0, 0), (199, .invokevirtual 178, 3, 0, 0, 0), (202, .ifCond .eq 15, 3, 0, 217, 0), (205, .aload_n 0, 1, 0, 0, 0), (206, .iload 5, 2, 0, 0, 0), (208, .iload_n 3, 1, 0, 0, 0), (209, .invokevirtual 218, 3, 0, 0, 0), (212, .istore 5, 2, 0, 0, 0), (214, .goto 66, 3, 0, 280, 0), (217, .aload_n 0, 1, 0, 0, 0), (218, .aload_n 0, 1, 0, 0, 0), (219, .aload_n 0, 1, 0, 0, 0), (220, .getfield 197, 3, 0, 9, 30), (223, .iload_n 3, 1, 0, 0, 0), (224, .invokevirtual 218, 3, 0, 0, 0), (227, .putfield 197, 3, 0, 9, 30), (230, .goto 50, 3, 0, 280, 0), (233, .aload_n 0, 1, 0, 0, 0), (234, .iconst 2, 1, 2, 0, 0), (235, .invokevirtual 221, 3, 0, 0, 0), (238, .ifCond .eq 9, 3, 0, 247, 0), (241, .aload_n 0, 1, 0, 0, 0), (242, .iload_n 3, 1, 0, 0, 0), (243, .invokevirtual 224, 3, 0, 0, 0), (246, .return_, 1, 0, 0, 0), (247, .aload_n 0, 1, 0, 0, 0), (248, .iload_n 1, 1, 0, 0, 0), (249, .iconst 1, 1, 1, 0, 0), (250, .iload_n 3, 1, 0, 0, 0), (251, .iload 4, 2, 0, 0, 0), (253, .iload 5, 2, 0, 0, 0), (255, .invokevirtual 203, 3, 0, 0, 0), (258, .aload_n 0, 1, 0, 0, 0), (259, .dup, 1, 0, 0, 0), (260, .getfield 191, 3, 0, 9, 14), (263, .iconst 1, 1, 1, 0, 0), (264, .isub, 1, 0, 0, 0), (265, .putfield 191, 3, 0, 9, 14), (268, .return_, 1, 0, 0, 0), (269, .aload_n 0, 1, 0, 0, 0), (270, .dup, 1, 0, 0, 0), (271, .getfield 191, 3, 0, 9, 14), (274, .iconst 1, 1, 1, 0, 0), (275, .isub, 1, 0, 0, 0), (276, .putfield 191, 3, 0, 9, 14), (279, .return_, 1, 0, 0, 0), (280, .aload_n 0, 1, 0, 0, 0), (281, .iload_n 1, 1, 0, 0, 0), (282, .iconst 0, 1, 0, 0, 0), (283, .iload_n 3, 1, 0, 0, 0), (284, .iload 4, 2, 0, 0, 0), (286, .iload 5, 2, 0, 0, 0), (288, .invokevirtual 203, 3, 0, 0, 0), (291, .aload_n 0, 1, 0, 0, 0), (292, .dup, 1, 0, 0, 0), (293, .getfield 191, 3, 0, 9, 14), (296, .iconst 1, 1, 1, 0, 0), (297, .isub, 1, 0, 0, 0), (298, .putfield 191, 3, 0, 9, 14), (301, .return_, 1, 0, 0, 0)]
def mX9_leaf : aM := (yX9_leaf, cX9_leaf, 7, none, [], kX9_leaf)
set_option maxRecDepth 100000 in
theorem oX9_leaf : cB mX9_leaf mX9_leaf.code = true := by decide +kernel
def kX9_op : List aR := [(0, .iload_n 0, 1, 0, 0, 0), (1, .ifCond .ne 9, 3, 0, 10, 0), (4, .iload_n 1, 1, 0, 0, 0), (5, .iload_n 2, 1, 0, 0, 0), (6, .iadd, 1, 0, 0, 0), (7, .goto 53, 3, 0, 60, 0), (10, .iload_n 0, 1, 0, 0, 0), (11, .iconst 1, 1, 1, 0, 0), (12, .if_icmp .ne 9, 3, 0, 21, 0), (15, .iload_n 1, 1, 0, 0, 0), (16, .iload_n 2, 1, 0, 0, 0), (17, .isub, 1, 0, 0, 0), (18, .goto 42, 3, 0, 60, 0), (21, .iload_n 0, 1, 0, 0, 0), (22, .iconst 2, 1, 2, 0, 0), (23, .if_icmp .ne 9, 3, 0, 32, 0), (26, .iload_n 1, 1, 0, 0, 0), (27, .iload_n 2, 1, 0, 0, 0), (28, .imul, 1, 0, 0, 0), (29, .goto 31, 3, 0, 60, 0), (32, .iload_n 0, 1, 0, 0, 0), (33, .iconst 3, 1, 3, 0, 0), (34, .if_icmp .ne 16, 3, 0, 50, 0), (37, .iload_n 1, 1, 0, 0, 0), (38, .iload_n 2, 1, 0, 0, 0), (39, .if_icmp .ge 7, 3, 0, 46, 0), (42, .iconst 1, 1, 1, 0, 0), (43, .goto 17, 3, 0, 60, 0), (46, .iconst 0, 1, 0, 0, 0), (47, .goto 13, 3, 0, 60, 0), (50, .iload_n 1, 1, 0, 0, 0), (51, .iload_n 2, 1, 0, 0, 0), (52, .if_icmp .ne 7, 3, 0, 59, 0), (55, .iconst 1, 1, 1, 0, 0), (56, .goto 4, 3, 0, 60, 0), (59, .iconst 0, 1, 0, 0, 0), (60, .ireturn, 1, 0, 0, 0)]
def mX9_op : aM := (yX9_op, cX9_op, 3, (some .int), [], kX9_op)
set_option maxRecDepth 100000 in
theorem oX9_op : cB mX9_op mX9_op.code = true := by decide +kernel
def kX9_unwind : List aR := [(0, .aload_n 0, 1, 0, 0, 0), (1, .dup, 1, 0, 0, 0), (2, .getfield 191, 3, 0, 9, 14), (5, .iconst 1, 1, 1, 0, 0), (6, .isub, 1, 0, 0, 0), (7, .putfield 191, 3, 0, 9, 14), (10, .aload_n 0, 1, 0, 0, 0), (11, .getfield 191, 3, 0, 9, 14), (14, .ifCond .le 52, 3, 0, 66, 0), (17, .aload_n 0, 1, 0, 0, 0), (18, .getfield 13, 3, 0, 9, 2), (21, .aload_n 0, 1, 0, 0, 0), (22, .getfield 48, 3, 0, 9, 15), (25, .aload_n 0, 1, 0, 0, 0), (26, .getfield 191, 3, 0, 9, 14), (29, .iconst 1, 1, 1, 0, 0), (30, .isub, 1, 0, 0, 0), (31, .iaload, 1, 0, 0, 0), (32, .iaload, 1, 0, 0, 0), (33, .bipush 9, 2, 9, 0, 0), (35, .if_icmp .ne 18, 3, 0, 53, 0), (38, .aload_n 0, 1, 0, 0, 0), (39, .getfield 51, 3, 0, 9, 16), (42, .aload_n 0, 1, 0, 0, 0), (43, .getfield 191, 3, 0, 9, 14), (46, .iconst 1, 1, 1, 0, 0), (47, .isub, 1, 0, 0, 0), (48, .iaload, 1, 0, 0, 0), (49, .iconst 1, 1, 1, 0, 0), (50, .if_icmp .eq 16, 3, 0, 66, 0), (53, .aload_n 0, 1, 0, 0, 0), (54, .dup, 1, 0, 0, 0), (55, .getfield 191, 3, 0, 9, 14), (58, .iconst 1, 1, 1, 0, 0), (59, .isub, 1, 0, 0, 0), (60, .putfield 191, 3, 0, 9, 14), (63, .goto (-53), 3, 0, 10, 0), (66, .aload_n 0, 1, 0, 0, 0), (67, .getfield 191, 3, 0, 9, 14), (70, .ifCond .ne 14, 3, 0, 84, 0), (73, .aload_n 0, 1, 0, 0, 0), (74, .iconst 1, 1, 1, 0, 0), (75, .putfield 228, 3, 0, 9, 34), (78, .aload_n 0, 1, 0, 0, 0), (79, .iload_n 1, 1, 0, 0, 0), (80, .putfield 231, 3, 0, 9, 35), (83, .return_, 1, 0, 0, 0), (84, .aload_n 0, 1, 0, 0, 0), (85, .getfield 191, 3, 0, 9, 14), (88, .iconst 1, 1, 1, 0, 0), (89, .isub, 1, 0, 0, 0), (90, .istore_n 2, 1, 0, 0, 0), (91, .aload_n 0, 1, 0, 0, 0), (92, .iconst 0, 1, 0, 0, 0), (93, .invokevirtual 221, 3, 0, 0, 0), (96, .ifCond .eq 21, 3, 0, 117, 0), (99, .aload_n 0, 1, 0, 0, 0), (100, .iconst 0, 1, 0, 0, 0), (101, .invokevirtual 234, 3, 0, 0, 0), (104, .ifCond .eq 13, 3, 0, 117, 0), (107, .aload_n 0, 1, 0, 0, 0), (108, .aload_n 0, 1, 0, 0, 0), (109, .getfield 66, 3, 0, 9, 21), (112, .iload_n 2, 1, 0, 0, 0), (113, .iaload, 1, 0, 0, 0), (114, .putfield 194, 3, 0, 9, 29), (117, .aload_n 0, 1, 0, 0, 0), (118, .iconst 1, 1, 1, 0, 0), (119, .invokevirtual 221, 3, 0, 0, 0), (122, .ifCond .eq 21, 3, 0, 143, 0), (125, .aload_n 0, 1, 0, 0, 0), (126, .iconst 1, 1, 1, 0, 0), (127, .invokevirtual 234, 3, 0, 0, 0), (130, .ifCond .eq 13, 3, 0, 143, 0), (133, .aload_n 0, 1, 0, 0, 0), (134, .aload_n 0, 1, 0, 0, 0), (135, .getfield 69, 3, 0, 9, 22), (138, .iload_n 2, 1, 0, 0, 0), (139, .iaload, 1, 0, 0, 0), (140, .putfield 197, 3, 0, 9, 30), (143, .aload_n 0, 1, 0, 0, 0), (144, .getfield 51, 3, 0, 9, 16), (147, .iload_n 2, 1, 0, 0, 0), (148, .iconst 3, 1, 3, 0, 0), (149, .iastore, 1, 0, 0, 0), (150, .aload_n 0, 1, 0, 0, 0), (151, .aload_n 0, 1, 0, 0, 0), (152, .getfield 20, 3, 0, 9, 4), (155, .aload_n 0, 1, 0, 0, 0), (156, .getfield 48, 3, 0, 9, 15), (159, .iload_n 2, 1, 0, 0, 0), (160, .iaload, 1, 0, 0, 0), (161, .iaload, 1, 0, 0, 0), (162, .iload_n 2, 1, 0, 0, 0), (163, .aload_n 0, 1, 0, 0, 0), (164, .getfield 23, 3, 0, 9, 5), (167, .aload_n 0, 1, 0, 0, 0), (168, .getfield 48, 3, 0, 9, 15), (171, .iload_n 2, 1, 0, 0, 0), (172, .iaload, 1, 0, 0, 0), (173, .iaload, 1, 0, 0, 0), (174, .iload_n 1, 1, 0, 0, 0), (175, .aload_n 0, 1, 0, 0, 0), (176, .getfield 60, 3, 0, 9, 19), (179, .iload_n 2, 1, 0, 0, 0), (180, .iaload, 1, 0, 0, 0), (181, .aload_n 0, 1, 0, 0, 0), (182, .getfield 63, 3, 0, 9, 20), (185, .iload_n 2, 1, 0, 0, 0), (186, .iaload, 1, 0, 0, 0), (187, .invokevirtual 237, 3, 0, 0, 0), (190, .return_, 1, 0, 0, 0)]
def mX9_unwind : aM := (yX9_unwind, cX9_unwind, 3, none, [], kX9_unwind)
set_option maxRecDepth 100000 in
theorem oX9_unwind : cB mX9_unwind mX9_unwind.code = true := by decide +kernel
def kX9_finish : List aR := [(0, .aload_n 0, 1, 0, 0, 0), (1, .dup, 1, 0, 0, 0), (2, .getfield 191, 3, 0, 9, 14), (5, .iconst 1, 1, 1, 0, 0), (6, .isub, 1, 0, 0, 0), (7, .putfield 191, 3, 0, 9, 14), (10, .return_, 1, 0, 0, 0)]
def mX9_finish : aM := (yX9_finish, cX9_finish, 1, none, [], kX9_finish)
set_option maxRecDepth 100000 in
theorem oX9_finish : cB mX9_finish mX9_finish.code = true := by decide +kernel
def kX9_go : List aR := [(0, .aload_n 0, 1, 0, 0, 0), (1, .getfield 191, 3, 0, 9, 14), (4, .iconst 1, 1, 1, 0, 0), (5, .isub, 1, 0, 0, 0), (6, .istore_n 1, 1, 0, 0, 0), (7, .aload_n 0, 1, 0, 0, 0), (8, .getfield 48, 3, 0, 9, 15), (11, .iload_n 1, 1, 0, 0, 0), (12, .iaload, 1, 0, 0, 0), (13, .istore_n 2, 1, 0, 0, 0), (14, .aload_n 0, 1, 0, 0, 0), (15, .getfield 13, 3, 0, 9, 2), (18, .iload_n 2, 1, 0, 0, 0), (19, .iaload, 1, 0, 0, 0), (20, .bipush 6, 2, 6, 0, 0), (22, .if_icmp .gt 11, 3, 0, 33, 0), (25, .aload_n 0, 1, 0, 0, 0), (26, .iload_n 1, 1, 0, 0, 0), (27, .invokevirtual 241, 3, 0, 0, 0), (30, .goto 95, 3, 0, 125, 0), (33, .aload_n 0, 1, 0, 0, 0), (34, .getfield 13, 3, 0, 9, 2), (37, .iload_n 2, 1, 0, 0, 0), (38, .iaload, 1, 0, 0, 0), (39, .bipush 7, 2, 7, 0, 0), (41, .if_icmp .ne 11, 3, 0, 52, 0), (44, .aload_n 0, 1, 0, 0, 0), (45, .iload_n 1, 1, 0, 0, 0), (46, .invokevirtual 244, 3, 0, 0, 0), (49, .goto 76, 3, 0, 125, 0), (52, .aload_n 0, 1, 0, 0, 0), (53, .getfield 13, 3, 0, 9, 2), (56, .iload_n 2, 1, 0, 0, 0), (57, .iaload, 1, 0, 0, 0), (58, .bipush 8, 2, 8, 0, 0), (60, .if_icmp .eq 14, 3, 0, 74, 0), (63, .aload_n 0, 1, 0, 0, 0), (64, .getfield 13, 3, 0, 9, 2), (67, .iload_n 2, 1, 0, 0, 0), (68, .iaload, 1, 0, 0, 0), (69, .bipush 9, 2, 9, 0, 0), (71, .if_icmp .ne 11, 3, 0, 82, 0), (74, .aload_n 0, 1, 0, 0, 0), (75, .iload_n 1, 1, 0, 0, 0), (76, .invokevirtual 247, 3, 0, 0, 0), (79, .goto 46, 3, 0, 125, 0), (82, .aload_n 0, 1, 0, 0, 0), (83, .getfield 13, 3, 0, 9, 2), (86, .iload_n 2, 1, 0, 0, 0), (87, .iaload, 1, 0, 0, 0), (88, .bipush 10, 2, 10, 0, 0), (90, .if_icmp .ne 11, 3, 0, 101, 0), (93, .aload_n 0, 1, 0, 0, 0), (94, .iload_n 1, 1, 0, 0, 0), (95, .invokevirtual 250, 3, 0, 0, 0), (98, .goto 27, 3, 0, 125, 0), (101, .aload_n 0, 1, 0, 0, 0), (102, .getfield 13, 3, 0, 9, 2), (105, .iload_n 2, 1, 0, 0, 0), (106, .iaload, 1, 0, 0, 0), (107, .bipush 11, 2, 11, 0, 0), (109, .if_icmp .ne 11, 3, 0, 120, 0), (112, .aload_n 0, 1, 0, 0, 0), (113, .iload_n 1, 1, 0, 0, 0), (114, .invokevirtual 253, 3, 0, 0, 0), (117, .goto 8, 3, 0, 125, 0), (120, .aload_n 0, 1, 0, 0, 0), (121, .iload_n 1, 1, 0, 0, 0), (122, .invokevirtual 256, 3, 0, 0, 0), (125, .return_, 1, 0, 0, 0)]
def mX9_go : aM := (yX9_go, cX9_go, 3, none, [], kX9_go)
set_option maxRecDepth 100000 in
theorem oX9_go : cB mX9_go mX9_go.code = true := by decide +kernel
def kX9_either_ : List aR := [(0, .aload_n 0, 1, 0, 0, 0), (1, .getfield 51, 3, 0, 9, 16), (4, .iload_n 1, 1, 0, 0, 0), (5, .iaload, 1, 0, 0, 0), (6, .ifCond .le 8, 3, 0, 14, 0), (9, .aload_n 0, 1, 0, 0, 0), (10, .iload_n 1, 1, 0, 0, 0), (11, .invokevirtual 259, 3, 0, 0, 0), (14, .aload_n 0, 1, 0, 0, 0), (15, .getfield 51, 3, 0, 9, 16), (18, .iload_n 1, 1, 0, 0, 0), (19, .dup2, 1, 0, 0, 0), (20, .iaload, 1, 0, 0, 0), (21, .iconst 1, 1, 1, 0, 0), (22, .iadd, 1, 0, 0, 0), (23, .iastore, 1, 0, 0, 0), (24, .aload_n 0, 1, 0, 0, 0), (25, .getfield 187, 3, 0, 9, 33), (28, .ifCond .eq 4, 3, 0, 32, 0), (31, .return_, 1, 0, 0, 0), (32, .aload_n 0, 1, 0, 0, 0), (33, .getfield 51, 3, 0, 9, 16), (36, .iload_n 1, 1, 0, 0, 0), (37, .iaload, 1, 0, 0, 0), (38, .iconst 3, 1, 3, 0, 0), (39, .if_icmp .ne 10, 3, 0, 49, 0), (42, .aload_n 0, 1, 0, 0, 0), (43, .invokevirtual 262, 3, 0, 0, 0), (46, .goto 57, 3, 0, 103, 0), (49, .aload_n 0, 1, 0, 0, 0), (50, .aload_n 0, 1, 0, 0, 0), (51, .getfield 51, 3, 0, 9, 16), (54, .iload_n 1, 1, 0, 0, 0), (55, .iaload, 1, 0, 0, 0), (56, .iconst 1, 1, 1, 0, 0), (57, .if_icmp .ne 17, 3, 0, 74, 0), (60, .aload_n 0, 1, 0, 0, 0), (61, .getfield 17, 3, 0, 9, 3), (64, .aload_n 0, 1, 0, 0, 0), (65, .getfield 48, 3, 0, 9, 15), (68, .iload_n 1, 1, 0, 0, 0), (69, .iaload, 1, 0, 0, 0), (70, .iaload, 1, 0, 0, 0), (71, .goto 14, 3, 0, 85, 0), (74, .aload_n 0, 1, 0, 0, 0), (75, .getfield 20, 3, 0, 9, 4), (78, .aload_n 0, 1, 0, 0, 0), (79, .getfield 48, 3, 0, 9, 15), (82, .iload_n 1, 1, 0, 0, 0), (83, .iaload, 1, 0, 0, 0), (84, .iaload, 1, 0, 0, 0), (85, .iload_n 1, 1, 0, 0, 0), (86, .iconst (-1), 1, -1, 0, 0), (87, .iconst 0, 1, 0, 0, 0), (88, .aload_n 0, 1, 0, 0, 0), (89, .getfield 60, 3, 0, 9, 19), (92, .iload_n 1, 1, 0, 0, 0), (93, .iaload, 1, 0, 0, 0), (94, .aload_n 0, 1, 0, 0, 0), (95, .getfield 63, 3, 0, 9, 20), (98, .iload_n 1, 1, 0, 0, 0), (99, .iaload, 1, 0, 0, 0), (100, .invokevirtual 237, 3, 0, 0, 0), (103, .return_, 1, 0, 0, 0)]
def mX9_either_ : aM := (yX9_either_, cX9_either_, 2, none, [], kX9_either_)
set_option maxRecDepth 100000 in
theorem oX9_either_ : cB mX9_either_ mX9_either_.code = true := by decide +kernel
def kX9_choose : List aR := [(0, .aload_n 0, 1, 0, 0, 0), (1, .getfield 48, 3, 0, 9, 15), (4, .iload_n 1, 1, 0, 0, 0), (5, .iaload, 1, 0, 0, 0), (6, .istore_n 2, 1, 0, 0, 0), (7, .aload_n 0, 1, 0, 0, 0), (8, .getfield 51, 3, 0, 9, 16), (11, .iload_n 1, 1, 0, 0, 0), (12, .iaload, 1, 0, 0, 0), (13, .iconst 1, 1, 1, 0, 0), (14, .if_icmp .ne 13, 3, 0, 27, 0), (17, .aload_n 0, 1, 0, 0, 0), (18, .iload_n 1, 1, 0, 0, 0), (19, .invokevirtual 259, 3, 0, 0, 0), (22, .aload_n 0, 1, 0, 0, 0), (23, .invokevirtual 262, 3, 0, 0, 0), (26, .return_, 1, 0, 0, 0), (27, .aload_n 0, 1, 0, 0, 0), (28, .getfield 51, 3, 0, 9, 16), (31, .iload_n 1, 1, 0, 0, 0), (32, .iconst 1, 1, 1, 0, 0), (33, .iastore, 1, 0, 0, 0), (34, .aload_n 0, 1, 0, 0, 0), (35, .aload_n 0, 1, 0, 0, 0), (36, .getfield 72, 3, 0, 9, 23), (39, .bipush 8, 2, 8, 0, 0), (41, .iload_n 1, 1, 0, 0, 0), (42, .imul, 1, 0, 0, 0), (43, .aload_n 0, 1, 0, 0, 0), (44, .getfield 23, 3, 0, 9, 5), (47, .iload_n 2, 1, 0, 0, 0), (48, .iaload, 1, 0, 0, 0), (49, .iadd, 1, 0, 0, 0), (50, .iaload, 1, 0, 0, 0), (51, .ifCond .eq 12, 3, 0, 63, 0), (54, .aload_n 0, 1, 0, 0, 0), (55, .getfield 17, 3, 0, 9, 3), (58, .iload_n 2, 1, 0, 0, 0), (59, .iaload, 1, 0, 0, 0), (60, .goto 9, 3, 0, 69, 0), (63, .aload_n 0, 1, 0, 0, 0), (64, .getfield 20, 3, 0, 9, 4), (67, .iload_n 2, 1, 0, 0, 0), (68, .iaload, 1, 0, 0, 0), (69, .iload_n 1, 1, 0, 0, 0), (70, .iconst (-1), 1, -1, 0, 0), (71, .iconst 0, 1, 0, 0, 0), (72, .aload_n 0, 1, 0, 0, 0), (73, .getfield 60, 3, 0, 9, 19), (76, .iload_n 1, 1, 0, 0, 0), (77, .iaload, 1, 0, 0, 0), (78, .aload_n 0, 1, 0, 0, 0), (79, .getfield 63, 3, 0, 9, 20), (82, .iload_n 1, 1, 0, 0, 0), (83, .iaload, 1, 0, 0, 0), (84, .invokevirtual 237, 3, 0, 0, 0), (87, .return_, 1, 0, 0, 0)]
def mX9_choose : aM := (yX9_choose, cX9_choose, 3, none, [], kX9_choose)
set_option maxRecDepth 100000 in
theorem oX9_choose : cB mX9_choose mX9_choose.code = true := by decide +kernel
def kX9_along : List aR := [(0, .aload_n 0, 1, 0, 0, 0), (1, .getfield 48, 3, 0, 9, 15), (4, .iload_n 1, 1, 0, 0, 0), (5, .iaload, 1, 0, 0, 0), (6, .istore_n 2, 1, 0, 0, 0), (7, .aload_n 0, 1, 0, 0, 0), (8, .getfield 51, 3, 0, 9, 16), (11, .iload_n 1, 1, 0, 0, 0), (12, .iaload, 1, 0, 0, 0), (13, .ifCond .ne 36, 3, 0, 49, 0), (16, .aload_n 0, 1, 0, 0, 0), (17, .getfield 51, 3, 0, 9, 16), (20, .iload_n 1, 1, 0, 0, 0), (21, .iconst 1, 1, 1, 0, 0), (22, .iastore, 1, 0, 0, 0), (23, .aload_n 0, 1, 0, 0, 0), (24, .aload_n 0, 1, 0, 0, 0), (25, .getfield 17, 3, 0, 9, 3), (28, .iload_n 2, 1, 0, 0, 0), (29, .iaload, 1, 0, 0, 0), (30, .iload_n 1, 1, 0, 0, 0), (31, .iconst (-1), 1, -1, 0, 0), (32, .iconst 0, 1, 0, 0, 0), (33, .aload_n 0, 1, 0, 0, 0), (34, .getfield 60, 3, 0, 9, 19), (37, .iload_n 1, 1, 0, 0, 0), (38, .iaload, 1, 0, 0, 0), (39, .aload_n 0, 1, 0, 0, 0), (40, .getfield 63, 3, 0, 9, 20), (43, .iload_n 1, 1, 0, 0, 0), (44, .iaload, 1, 0, 0, 0), (45, .invokevirtual 237, 3, 0, 0, 0), (48, .return_, 1, 0, 0, 0), (49, .aload_n 0, 1, 0, 0, 0), (50, .iload_n 1, 1, 0, 0, 0), (51, .invokevirtual 265, 3, 0, 0, 0), (54, .aload_n 0, 1, 0, 0, 0), (55, .getfield 187, 3, 0, 9, 33), (58, .ifCond .eq 4, 3, 0, 62, 0), (61, .return_, 1, 0, 0, 0), (62, .aload_n 0, 1, 0, 0, 0), (63, .getfield 51, 3, 0, 9, 16), (66, .iload_n 1, 1, 0, 0, 0), (67, .iaload, 1, 0, 0, 0), (68, .iconst 3, 1, 3, 0, 0), (69, .if_icmp .ne 8, 3, 0, 77, 0), (72, .aload_n 0, 1, 0, 0, 0), (73, .invokevirtual 262, 3, 0, 0, 0), (76, .return_, 1, 0, 0, 0), (77, .aload_n 0, 1, 0, 0, 0), (78, .getfield 51, 3, 0, 9, 16), (81, .iload_n 1, 1, 0, 0, 0), (82, .iconst 2, 1, 2, 0, 0), (83, .iastore, 1, 0, 0, 0), (84, .aload_n 0, 1, 0, 0, 0), (85, .getfield 13, 3, 0, 9, 2), (88, .iload_n 2, 1, 0, 0, 0), (89, .iaload, 1, 0, 0, 0), (90, .bipush 9, 2, 9, 0, 0), (92, .if_icmp .ne 7, 3, 0, 99, 0), (95, .iconst 1, 1, 1, 0, 0), (96, .goto 4, 3, 0, 100, 0), (99, .iconst 0, 1, 0, 0, 0), (100, .istore_n 3, 1, 0, 0, 0), (101, .aload_n 0, 1, 0, 0, 0), (102, .iload_n 1, 1, 0, 0, 0), (103, .iconst 0, 1, 0, 0, 0), (104, .invokevirtual 200, 3, 0, 0, 0), (107, .istore 4, 2, 0, 0, 0), (109, .aload_n 0, 1, 0, 0, 0), (110, .getfield 54, 3, 0, 9, 17), (113, .iload_n 1, 1, 0, 0, 0), (114, .iaload, 1, 0, 0, 0), (115, .aload_n 0, 1, 0, 0, 0), (116, .getfield 75, 3, 0, 9, 24), (119, .iconst 2, 1, 2, 0, 0), (120, .iload_n 1, 1, 0, 0, 0), (121, .imul, 1, 0, 0, 0), (122, .iaload, 1, 0, 0, 0), (123, .if_icmp .ge 167, 3, 0, 290, 0), (126, .aload_n 0, 1, 0, 0, 0), (127, .getfield 187, 3, 0, 9, 33), (130, .ifCond .ne 160, 3, 0, 290, 0), (133, .iload 4, 2, 0, 0, 0), (135, .aload_n 0, 1, 0, 0, 0), (136, .getfield 54, 3, 0, 9, 17), (139, .iload_n 1, 1, 0, 0, 0), (140, .iaload, 1, 0, 0, 0), (141, .iadd, 1, 0, 0, 0), (142, .istore 5, 2, 0, 0, 0), (144, .aload_n 0, 1, 0, 0, 0), (145, .getfield 54, 3, 0, 9, 17), (148, .iload_n 1, 1, 0, 0, 0), (149, .dup2, 1, 0, 0, 0), (150, .iaload, 1, 0, 0, 0), (151, .iconst 1, 1, 1, 0, 0), (152, .iadd, 1, 0, 0, 0), (153, .iastore, 1, 0, 0, 0), (154, .aload_n 0, 1, 0, 0, 0), (155, .getfield 78, 3, 0, 9, 25), (158, .iload 5, 2, 0, 0, 0), (160, .baload, 1, 0, 0, 0), (161, .iload_n 3, 1, 0, 0, 0), (162, .if_icmp .ne 92, 3, 0, 254, 0), (165, .iload_n 3, 1, 0, 0, 0), (166, .ifCond .eq 20, 3, 0, 186, 0), (169, .aload_n 0, 1, 0, 0, 0), (170, .iconst 0, 1, 0, 0, 0), (171, .invokevirtual 234, 3, 0, 0, 0), (174, .ifCond .eq 12, 3, 0, 186, 0), (177, .aload_n 0, 1, 0, 0, 0), (178, .getfield 60, 3, 0, 9, 19), (181, .iload_n 1, 1, 0, 0, 0), (182, .iaload, 1, 0, 0, 0), (183, .goto 10, 3, 0, 193, 0), (186, .aload_n 0, 1, 0, 0, 0), (187, .getfield 84, 3, 0, 9, 27), (190, .iload 5, 2, 0, 0, 0), (192, .iaload, 1, 0, 0, 0), (193, .istore 6, 2, 0, 0, 0), (195, .iload_n 3, 1, 0, 0, 0), (196, .ifCond .eq 20, 3, 0, 216, 0), (199, .aload_n 0, 1, 0, 0, 0), (200, .iconst 1, 1, 1, 0, 0), (201, .invokevirtual 234, 3, 0, 0, 0), (204, .ifCond .eq 12, 3, 0, 216, 0), (207, .aload_n 0, 1, 0, 0, 0), (208, .getfield 63, 3, 0, 9, 20), (211, .iload_n 1, 1, 0, 0, 0), (212, .iaload, 1, 0, 0, 0), (213, .goto 10, 3, 0, 223, 0), (216, .aload_n 0, 1, 0, 0, 0), (217, .getfield 87, 3, 0, 9, 28), (220, .iload 5, 2, 0, 0, 0), (222, .iaload, 1, 0, 0, 0), (223, .istore 7, 2, 0, 0, 0), (225, .aload_n 0, 1, 0, 0, 0), (226, .aload_n 0, 1, 0, 0, 0), (227, .getfield 20, 3, 0, 9, 4), (230, .iload_n 2, 1, 0, 0, 0), (231, .iaload, 1, 0, 0, 0), (232, .iload_n 1, 1, 0, 0, 0), (233, .aload_n 0, 1, 0, 0, 0), (234, .getfield 23, 3, 0, 9, 5), (237, .iload_n 2, 1, 0, 0, 0), (238, .iaload, 1, 0, 0, 0), (239, .aload_n 0, 1, 0, 0, 0), (240, .getfield 81, 3, 0, 9, 26), (243, .iload 5, 2, 0, 0, 0), (245, .iaload, 1, 0, 0, 0), (246, .iload 6, 2, 0, 0, 0), (248, .iload 7, 2, 0, 0, 0), (250, .invokevirtual 237, 3, 0, 0, 0), (253, .return_, 1, 0, 0, 0), (254, .aload_n 0, 1, 0, 0, 0), (255, .iload_n 1, 1, 0, 0, 0), (256, .aload_n 0, 1, 0, 0, 0), (257, .getfield 78, 3, 0, 9, 25), (260, .iload 5, 2, 0, 0, 0), (262, .baload, 1, 0, 0, 0), (263, .aload_n 0, 1, 0, 0, 0), (264, .getfield 81, 3, 0, 9, 26), (267, .iload 5, 2, 0, 0, 0), (269, .iaload, 1, 0, 0, 0), (270, .aload_n 0, 1, 0, 0, 0), (271, .getfield 84, 3, 0, 9, 27), (274, .iload 5, 2, 0, 0, 0), (276, .iaload, 1, 0, 0, 0), (277, .aload_n 0, 1, 0, 0, 0), (278, .getfield 87, 3, 0, 9, 28), (281, .iload 5, 2, 0, 0, 0), (283, .iaload, 1, 0, 0, 0), (284, .invokevirtual 203, 3, 0, 0, 0), (287, .goto (-178), 3, 0, 109, 0), (290, .aload_n 0, 1, 0, 0, 0), (291, .getfield 187, 3, 0, 9, 33), (294, .ifCond .ne 7, 3, 0, 301, 0), (297, .aload_n 0, 1, 0, 0, 0), (298, .invokevirtual 262, 3, 0, 0, 0), (301, .return_, 1, 0, 0, 0)]
def mX9_along : aM := (yX9_along, cX9_along, 8, none, [], kX9_along)
set_option maxRecDepth 100000 in
theorem oX9_along : cB mX9_along mX9_along.code = true := by decide +kernel
def kX9_gatherNext : List aR := [(0, .aload_n 0, 1, 0, 0, 0), (1, .iload_n 1, 1, 0, 0, 0), (2, .invokevirtual 259, 3, 0, 0, 0), (5, .aload_n 0, 1, 0, 0, 0), (6, .getfield 51, 3, 0, 9, 16), (9, .iload_n 1, 1, 0, 0, 0), (10, .iaload, 1, 0, 0, 0), (11, .iconst 1, 1, 1, 0, 0), (12, .if_icmp .ne 8, 3, 0, 20, 0), (15, .aload_n 0, 1, 0, 0, 0), (16, .iload_n 1, 1, 0, 0, 0), (17, .invokevirtual 268, 3, 0, 0, 0), (20, .return_, 1, 0, 0, 0)]
def mX9_gatherNext : aM := (yX9_gatherNext, cX9_gatherNext, 2, none, [], kX9_gatherNext)
set_option maxRecDepth 100000 in
theorem oX9_gatherNext : cB mX9_gatherNext mX9_gatherNext.code = true := by decide +kernel
def kX9_again : List aR := [(0, .aload_n 0, 1, 0, 0, 0), (1, .getfield 48, 3, 0, 9, 15), (4, .iload_n 1, 1, 0, 0, 0), (5, .iaload, 1, 0, 0, 0), (6, .istore_n 2, 1, 0, 0, 0), (7, .aload_n 0, 1, 0, 0, 0), (8, .getfield 51, 3, 0, 9, 16), (11, .iload_n 1, 1, 0, 0, 0), (12, .iaload, 1, 0, 0, 0), (13, .ifCond .ne 113, 3, 0, 126, 0), (16, .aload_n 0, 1, 0, 0, 0), (17, .iload_n 1, 1, 0, 0, 0), (18, .aload_n 0, 1, 0, 0, 0), (19, .getfield 20, 3, 0, 9, 4), (22, .iload_n 2, 1, 0, 0, 0), (23, .iaload, 1, 0, 0, 0), (24, .aload_n 0, 1, 0, 0, 0), (25, .getfield 26, 3, 0, 9, 6), (28, .iload_n 2, 1, 0, 0, 0), (29, .baload, 1, 0, 0, 0), (30, .invokevirtual 210, 3, 0, 0, 0), (33, .istore_n 3, 1, 0, 0, 0), (34, .aload_n 0, 1, 0, 0, 0), (35, .getfield 57, 3, 0, 9, 18), (38, .iload_n 1, 1, 0, 0, 0), (39, .iload_n 3, 1, 0, 0, 0), (40, .ifCond .ge 7, 3, 0, 47, 0), (43, .iconst 0, 1, 0, 0, 0), (44, .goto 15, 3, 0, 59, 0), (47, .iload_n 3, 1, 0, 0, 0), (48, .bipush 8, 2, 8, 0, 0), (50, .if_icmp .le 8, 3, 0, 58, 0), (53, .bipush 8, 2, 8, 0, 0), (55, .goto 4, 3, 0, 59, 0), (58, .iload_n 3, 1, 0, 0, 0), (59, .iastore, 1, 0, 0, 0), (60, .aload_n 0, 1, 0, 0, 0), (61, .getfield 57, 3, 0, 9, 18), (64, .iload_n 1, 1, 0, 0, 0), (65, .iaload, 1, 0, 0, 0), (66, .ifCond .ne 27, 3, 0, 93, 0), (69, .aload_n 0, 1, 0, 0, 0), (70, .iload_n 1, 1, 0, 0, 0), (71, .iconst 0, 1, 0, 0, 0), (72, .iconst 0, 1, 0, 0, 0), (73, .aload_n 0, 1, 0, 0, 0), (74, .getfield 60, 3, 0, 9, 19), (77, .iload_n 1, 1, 0, 0, 0), (78, .iaload, 1, 0, 0, 0), (79, .aload_n 0, 1, 0, 0, 0), (80, .getfield 63, 3, 0, 9, 20), (83, .iload_n 1, 1, 0, 0, 0), (84, .iaload, 1, 0, 0, 0), (85, .invokevirtual 203, 3, 0, 0, 0), (88, .aload_n 0, 1, 0, 0, 0), (89, .invokevirtual 262, 3, 0, 0, 0), (92, .return_, 1, 0, 0, 0), (93, .aload_n 0, 1, 0, 0, 0), (94, .getfield 51, 3, 0, 9, 16), (97, .iload_n 1, 1, 0, 0, 0), (98, .iconst 1, 1, 1, 0, 0), (99, .iastore, 1, 0, 0, 0), (100, .aload_n 0, 1, 0, 0, 0), (101, .aload_n 0, 1, 0, 0, 0), (102, .getfield 17, 3, 0, 9, 3), (105, .iload_n 2, 1, 0, 0, 0), (106, .iaload, 1, 0, 0, 0), (107, .iload_n 1, 1, 0, 0, 0), (108, .iconst (-1), 1, -1, 0, 0), (109, .iconst 0, 1, 0, 0, 0), (110, .aload_n 0, 1, 0, 0, 0), (111, .getfield 60, 3, 0, 9, 19), (114, .iload_n 1, 1, 0, 0, 0), (115, .iaload, 1, 0, 0, 0), (116, .aload_n 0, 1, 0, 0, 0), (117, .getfield 63, 3, 0, 9, 20), (120, .iload_n 1, 1, 0, 0, 0), (121, .iaload, 1, 0, 0, 0), (122, .invokevirtual 237, 3, 0, 0, 0), (125, .return_, 1, 0, 0, 0), (126, .aload_n 0, 1, 0, 0, 0), (127, .iload_n 1, 1, 0, 0, 0), (128, .invokevirtual 259, 3, 0, 0, 0), (131, .aload_n 0, 1, 0, 0, 0), (132, .getfield 187, 3, 0, 9, 33), (135, .ifCond .eq 4, 3, 0, 139, 0), (138, .return_, 1, 0, 0, 0), (139, .aload_n 0, 1, 0, 0, 0), (140, .getfield 51, 3, 0, 9, 16), (143, .iload_n 1, 1, 0, 0, 0), (144, .iaload, 1, 0, 0, 0), (145, .iconst 1, 1, 1, 0, 0), (146, .if_icmp .ne 39, 3, 0, 185, 0), (149, .aload_n 0, 1, 0, 0, 0), (150, .getfield 51, 3, 0, 9, 16), (153, .iload_n 1, 1, 0, 0, 0), (154, .iconst 2, 1, 2, 0, 0), (155, .iastore, 1, 0, 0, 0), (156, .aload_n 0, 1, 0, 0, 0), (157, .getfield 57, 3, 0, 9, 18), (160, .iload_n 1, 1, 0, 0, 0), (161, .dup2, 1, 0, 0, 0), (162, .iaload, 1, 0, 0, 0), (163, .iconst 1, 1, 1, 0, 0), (164, .isub, 1, 0, 0, 0), (165, .iastore, 1, 0, 0, 0), (166, .aload_n 0, 1, 0, 0, 0), (167, .getfield 57, 3, 0, 9, 18), (170, .iload_n 1, 1, 0, 0, 0), (171, .iaload, 1, 0, 0, 0), (172, .ifCond .ne 8, 3, 0, 180, 0), (175, .aload_n 0, 1, 0, 0, 0), (176, .invokevirtual 262, 3, 0, 0, 0), (179, .return_, 1, 0, 0, 0), (180, .aload_n 0, 1, 0, 0, 0), (181, .iload_n 1, 1, 0, 0, 0), (182, .invokevirtual 268, 3, 0, 0, 0), (185, .aload_n 0, 1, 0, 0, 0), (186, .getfield 54, 3, 0, 9, 17), (189, .iload_n 1, 1, 0, 0, 0), (190, .iaload, 1, 0, 0, 0), (191, .aload_n 0, 1, 0, 0, 0), (192, .getfield 75, 3, 0, 9, 24), (195, .iconst 2, 1, 2, 0, 0), (196, .iload_n 1, 1, 0, 0, 0), (197, .imul, 1, 0, 0, 0), (198, .iaload, 1, 0, 0, 0), (199, .if_icmp .ge 97, 3, 0, 296, 0), (202, .aload_n 0, 1, 0, 0, 0), (203, .iload_n 1, 1, 0, 0, 0), (204, .iconst 0, 1, 0, 0, 0), (205, .invokevirtual 200, 3, 0, 0, 0), (208, .aload_n 0, 1, 0, 0, 0), (209, .getfield 54, 3, 0, 9, 17), (212, .iload_n 1, 1, 0, 0, 0), (213, .iaload, 1, 0, 0, 0), (214, .iadd, 1, 0, 0, 0), (215, .istore_n 3, 1, 0, 0, 0), (216, .aload_n 0, 1, 0, 0, 0), (217, .getfield 54, 3, 0, 9, 17), (220, .iload_n 1, 1, 0, 0, 0), (221, .dup2, 1, 0, 0, 0), (222, .iaload, 1, 0, 0, 0), (223, .iconst 1, 1, 1, 0, 0), (224, .iadd, 1, 0, 0, 0), (225, .iastore, 1, 0, 0, 0), (226, .aload_n 0, 1, 0, 0, 0), (227, .getfield 78, 3, 0, 9, 25), (230, .iload_n 3, 1, 0, 0, 0), (231, .baload, 1, 0, 0, 0), (232, .ifCond .ne 29, 3, 0, 261, 0), (235, .aload_n 0, 1, 0, 0, 0), (236, .aload_n 0, 1, 0, 0, 0), (237, .getfield 17, 3, 0, 9, 3), (240, .iload_n 2, 1, 0, 0, 0), (241, .iaload, 1, 0, 0, 0), (242, .iload_n 1, 1, 0, 0, 0), (243, .iconst (-1), 1, -1, 0, 0), (244, .iconst 0, 1, 0, 0, 0), (245, .aload_n 0, 1, 0, 0, 0), (246, .getfield 84, 3, 0, 9, 27), (249, .iload_n 3, 1, 0, 0, 0), (250, .iaload, 1, 0, 0, 0), (251, .aload_n 0, 1, 0, 0, 0), (252, .getfield 87, 3, 0, 9, 28), (255, .iload_n 3, 1, 0, 0, 0), (256, .iaload, 1, 0, 0, 0), (257, .invokevirtual 237, 3, 0, 0, 0), (260, .return_, 1, 0, 0, 0), (261, .aload_n 0, 1, 0, 0, 0), (262, .iload_n 1, 1, 0, 0, 0), (263, .iconst 1, 1, 1, 0, 0), (264, .aload_n 0, 1, 0, 0, 0), (265, .getfield 81, 3, 0, 9, 26), (268, .iload_n 3, 1, 0, 0, 0), (269, .iaload, 1, 0, 0, 0), (270, .aload_n 0, 1, 0, 0, 0), (271, .getfield 84, 3, 0, 9, 27), (274, .iload_n 3, 1, 0, 0, 0), (275, .iaload, 1, 0, 0, 0), (276, .aload_n 0, 1, 0, 0, 0), (277, .getfield 87, 3, 0, 9, 28), (280, .iload_n 3, 1, 0, 0, 0), (281, .iaload, 1, 0, 0, 0), (282, .invokevirtual 203, 3, 0, 0, 0), (285, .aload_n 0, 1, 0, 0, 0), (286, .getfield 187, 3, 0, 9, 33), (289, .ifCond .eq 4, 3, 0, 293, 0), (292, .return_, 1, 0, 0, 0), (293, .goto (-108), 3, 0, 185, 0), (296, .aload_n 0, 1, 0, 0, 0), (297, .getfield 57, 3, 0, 9, 18), (300, .iload_n 1, 1, 0, 0, 0), (301, .dup2, 1, 0, 0, 0), (302, .iaload, 1, 0, 0, 0), (303, .iconst 1, 1, 1, 0, 0), (304, .isub, 1, 0, 0, 0), (305, .iastore, 1, 0, 0, 0), (306, .aload_n 0, 1, 0, 0, 0), (307, .getfield 57, 3, 0, 9, 18), (310, .iload_n 1, 1, 0, 0, 0), (311, .iaload, 1, 0, 0, 0), (312, .ifCond .ne 8, 3, 0, 320, 0), (315, .aload_n 0, 1, 0, 0, 0), (316, .invokevirtual 262, 3, 0, 0, 0), (319, .return_, 1, 0, 0, 0), (320, .aload_n 0, 1, 0, 0, 0), (321, .iload_n 1, 1, 0, 0, 0), (322, .invokevirtual 268, 3, 0, 0, 0), (325, .goto (-140), 3, 0, 185, 0)]
def mX9_again : aM := (yX9_again, cX9_again, 4, none, [], kX9_again)
set_option maxRecDepth 100000 in
theorem oX9_again : cB mX9_again mX9_again.code = true := by decide +kernel
def kX9_within : List aR := [(0, .aload_n 0, 1, 0, 0, 0), (1, .getfield 48, 3, 0, 9, 15), (4, .iload_n 1, 1, 0, 0, 0), (5, .iaload, 1, 0, 0, 0), (6, .istore_n 2, 1, 0, 0, 0), (7, .aload_n 0, 1, 0, 0, 0), (8, .getfield 51, 3, 0, 9, 16), (11, .iload_n 1, 1, 0, 0, 0), (12, .iaload, 1, 0, 0, 0), (13, .ifCond .ne 36, 3, 0, 49, 0), (16, .aload_n 0, 1, 0, 0, 0), (17, .getfield 51, 3, 0, 9, 16), (20, .iload_n 1, 1, 0, 0, 0), (21, .iconst 1, 1, 1, 0, 0), (22, .iastore, 1, 0, 0, 0), (23, .aload_n 0, 1, 0, 0, 0), (24, .aload_n 0, 1, 0, 0, 0), (25, .getfield 17, 3, 0, 9, 3), (28, .iload_n 2, 1, 0, 0, 0), (29, .iaload, 1, 0, 0, 0), (30, .iload_n 1, 1, 0, 0, 0), (31, .iconst (-1), 1, -1, 0, 0), (32, .iconst 0, 1, 0, 0, 0), (33, .aload_n 0, 1, 0, 0, 0), (34, .getfield 60, 3, 0, 9, 19), (37, .iload_n 1, 1, 0, 0, 0), (38, .iaload, 1, 0, 0, 0), (39, .aload_n 0, 1, 0, 0, 0), (40, .getfield 63, 3, 0, 9, 20), (43, .iload_n 1, 1, 0, 0, 0), (44, .iaload, 1, 0, 0, 0), (45, .invokevirtual 237, 3, 0, 0, 0), (48, .return_, 1, 0, 0, 0), (49, .aload_n 0, 1, 0, 0, 0), (50, .iload_n 1, 1, 0, 0, 0), (51, .invokevirtual 259, 3, 0, 0, 0), (54, .aload_n 0, 1, 0, 0, 0), (55, .iload_n 1, 1, 0, 0, 0), (56, .iconst 1, 1, 1, 0, 0), (57, .invokevirtual 200, 3, 0, 0, 0), (60, .istore_n 3, 1, 0, 0, 0), (61, .aload_n 0, 1, 0, 0, 0), (62, .getfield 75, 3, 0, 9, 24), (65, .iconst 2, 1, 2, 0, 0), (66, .iload_n 1, 1, 0, 0, 0), (67, .imul, 1, 0, 0, 0), (68, .iconst 1, 1, 1, 0, 0), (69, .iadd, 1, 0, 0, 0), (70, .iaload, 1, 0, 0, 0), (71, .istore 4, 2, 0, 0, 0), (73, .aload_n 0, 1, 0, 0, 0), (74, .getfield 13, 3, 0, 9, 2), (77, .iload_n 2, 1, 0, 0, 0), (78, .iaload, 1, 0, 0, 0), (79, .bipush 12, 2, 12, 0, 0), (81, .if_icmp .ne 20, 3, 0, 101, 0), (84, .iload 4, 2, 0, 0, 0), (86, .iconst 1, 1, 1, 0, 0), (87, .if_icmp .le 14, 3, 0, 101, 0), (90, .aload_n 0, 1, 0, 0, 0), (91, .getfield 75, 3, 0, 9, 24), (94, .iconst 2, 1, 2, 0, 0), (95, .iload_n 1, 1, 0, 0, 0), (96, .imul, 1, 0, 0, 0), (97, .iconst 1, 1, 1, 0, 0), (98, .iadd, 1, 0, 0, 0), (99, .iconst 1, 1, 1, 0, 0), (100, .iastore, 1, 0, 0, 0), (101, .iconst 0, 1, 0, 0, 0), (102, .istore 5, 2, 0, 0, 0), (104, .iload 5, 2, 0, 0, 0), (106, .iload 4, 2, 0, 0, 0), (108, .if_icmp .ge 133, 3, 0, 241, 0), (111, .aload_n 0, 1, 0, 0, 0), (112, .getfield 13, 3, 0, 9, 2), (115, .iload_n 2, 1, 0, 0, 0), (116, .iaload, 1, 0, 0, 0), (117, .bipush 13, 2, 13, 0, 0), (119, .if_icmp .ne 82, 3, 0, 201, 0), (122, .aload_n 0, 1, 0, 0, 0), (123, .getfield 78, 3, 0, 9, 25), (126, .iload_n 3, 1, 0, 0, 0), (127, .iload 5, 2, 0, 0, 0), (129, .iadd, 1, 0, 0, 0), (130, .baload, 1, 0, 0, 0), (131, .ifCond .ne 70, 3, 0, 201, 0), (134, .aload_n 0, 1, 0, 0, 0), (135, .getfield 81, 3, 0, 9, 26), (138, .iload_n 3, 1, 0, 0, 0), (139, .iload 5, 2, 0, 0, 0), (141, .iadd, 1, 0, 0, 0), (142, .aload_n 0, 1, 0, 0, 0), (143, .iconst 1, 1, 1, 0, 0), (144, .invokevirtual 178, 3, 0, 0, 0), (147, .ifCond .eq 32, 3, 0, 179, 0), (150, .aload_n 0, 1, 0, 0, 0), (151, .getfield 45, 3, 0, 9, 13), (154, .aload_n 0, 1, 0, 0, 0), (155, .getfield 87, 3, 0, 9, 28), (158, .iload_n 3, 1, 0, 0, 0), (159, .iload 5, 2, 0, 0, 0), (161, .iadd, 1, 0, 0, 0), (162, .iaload, 1, 0, 0, 0), (163, .iaload, 1, 0, 0, 0), (164, .aload_n 0, 1, 0, 0, 0), (165, .getfield 45, 3, 0, 9, 13), (168, .aload_n 0, 1, 0, 0, 0), (169, .getfield 63, 3, 0, 9, 20), (172, .iload_n 1, 1, 0, 0, 0), (173, .iaload, 1, 0, 0, 0), (174, .iaload, 1, 0, 0, 0), (175, .isub, 1, 0, 0, 0), (176, .goto 24, 3, 0, 200, 0), (179, .aload_n 0, 1, 0, 0, 0), (180, .getfield 45, 3, 0, 9, 13), (183, .aload_n 0, 1, 0, 0, 0), (184, .getfield 197, 3, 0, 9, 30), (187, .iaload, 1, 0, 0, 0), (188, .aload_n 0, 1, 0, 0, 0), (189, .getfield 45, 3, 0, 9, 13), (192, .aload_n 0, 1, 0, 0, 0), (193, .getfield 69, 3, 0, 9, 22), (196, .iload_n 1, 1, 0, 0, 0), (197, .iaload, 1, 0, 0, 0), (198, .iaload, 1, 0, 0, 0), (199, .isub, 1, 0, 0, 0), (200, .iastore, 1, 0, 0, 0), (201, .aload_n 0, 1, 0, 0, 0), (202, .getfield 13, 3, 0, 9, 2), (205, .iload_n 2, 1, 0, 0, 0), (206, .iaload, 1, 0, 0, 0), (207, .bipush 14, 2, 14, 0, 0), (209, .if_icmp .ne 26, 3, 0, 235, 0), (212, .aload_n 0, 1, 0, 0, 0), (213, .iconst 1, 1, 1, 0, 0), (214, .invokevirtual 178, 3, 0, 0, 0), (217, .ifCond .eq 18, 3, 0, 235, 0), (220, .aload_n 0, 1, 0, 0, 0), (221, .getfield 87, 3, 0, 9, 28), (224, .iload_n 3, 1, 0, 0, 0), (225, .iload 5, 2, 0, 0, 0), (227, .iadd, 1, 0, 0, 0), (228, .aload_n 0, 1, 0, 0, 0), (229, .getfield 63, 3, 0, 9, 20), (232, .iload_n 1, 1, 0, 0, 0), (233, .iaload, 1, 0, 0, 0), (234, .iastore, 1, 0, 0, 0), (235, .iinc 5 1, 3, 1, 0, 0), (238, .goto (-134), 3, 0, 104, 0), (241, .aload_n 0, 1, 0, 0, 0), (242, .getfield 13, 3, 0, 9, 2), (245, .iload_n 2, 1, 0, 0, 0), (246, .iaload, 1, 0, 0, 0), (247, .bipush 14, 2, 14, 0, 0), (249, .if_icmp .ne 21, 3, 0, 270, 0), (252, .aload_n 0, 1, 0, 0, 0), (253, .iconst 1, 1, 1, 0, 0), (254, .invokevirtual 221, 3, 0, 0, 0), (257, .ifCond .eq 13, 3, 0, 270, 0), (260, .aload_n 0, 1, 0, 0, 0), (261, .aload_n 0, 1, 0, 0, 0), (262, .getfield 69, 3, 0, 9, 22), (265, .iload_n 1, 1, 0, 0, 0), (266, .iaload, 1, 0, 0, 0), (267, .putfield 197, 3, 0, 9, 30), (270, .aload_n 0, 1, 0, 0, 0), (271, .invokevirtual 262, 3, 0, 0, 0), (274, .return_, 1, 0, 0, 0)]
def mX9_within : aM := (yX9_within, cX9_within, 6, none, [], kX9_within)
set_option maxRecDepth 100000 in
theorem oX9_within : cB mX9_within mX9_within.code = true := by decide +kernel
def kX9_doIt : List aR := [(0, .aload_n 0, 1, 0, 0, 0), (1, .iconst 0, 1, 0, 0, 0), (2, .putfield 191, 3, 0, 9, 14), (5, .aload_n 0, 1, 0, 0, 0), (6, .iconst 0, 1, 0, 0, 0), (7, .putfield 207, 3, 0, 9, 10), (10, .aload_n 0, 1, 0, 0, 0), (11, .iconst 0, 1, 0, 0, 0), (12, .putfield 181, 3, 0, 9, 31), (15, .aload_n 0, 1, 0, 0, 0), (16, .iload_n 3, 1, 0, 0, 0), (17, .putfield 184, 3, 0, 9, 32), (20, .aload_n 0, 1, 0, 0, 0), (21, .iconst 0, 1, 0, 0, 0), (22, .putfield 187, 3, 0, 9, 33), (25, .aload_n 0, 1, 0, 0, 0), (26, .iconst 0, 1, 0, 0, 0), (27, .putfield 228, 3, 0, 9, 34), (30, .aload_n 0, 1, 0, 0, 0), (31, .iconst 0, 1, 0, 0, 0), (32, .putfield 231, 3, 0, 9, 35), (35, .aload_n 0, 1, 0, 0, 0), (36, .iload_n 2, 1, 0, 0, 0), (37, .putfield 194, 3, 0, 9, 29), (40, .aload_n 0, 1, 0, 0, 0), (41, .iconst 0, 1, 0, 0, 0), (42, .putfield 197, 3, 0, 9, 30), (45, .aload_n 0, 1, 0, 0, 0), (46, .iload_n 1, 1, 0, 0, 0), (47, .iconst (-1), 1, -1, 0, 0), (48, .iconst (-1), 1, -1, 0, 0), (49, .iconst 0, 1, 0, 0, 0), (50, .iload_n 2, 1, 0, 0, 0), (51, .iconst 0, 1, 0, 0, 0), (52, .invokevirtual 237, 3, 0, 0, 0), (55, .aload_n 0, 1, 0, 0, 0), (56, .getfield 191, 3, 0, 9, 14), (59, .ifCond .le 17, 3, 0, 76, 0), (62, .aload_n 0, 1, 0, 0, 0), (63, .getfield 187, 3, 0, 9, 33), (66, .ifCond .ne 10, 3, 0, 76, 0), (69, .aload_n 0, 1, 0, 0, 0), (70, .invokevirtual 271, 3, 0, 0, 0), (73, .goto (-18), 3, 0, 55, 0), (76, .return_, 1, 0, 0, 0)]
def mX9_doIt : aM := (yX9_doIt, cX9_doIt, 4, none, [], kX9_doIt)
set_option maxRecDepth 100000 in
theorem oX9_doIt : cB mX9_doIt mX9_doIt.code = true := by decide +kernel
def kX9_writeLog : List aR := [(0, .iload_n 1, 1, 0, 0, 0), (1, .istore 4, 2, 0, 0, 0), (3, .aload_n 0, 1, 0, 0, 0), (4, .getfield 45, 3, 0, 9, 13), (7, .iload_n 1, 1, 0, 0, 0), (8, .iaload, 1, 0, 0, 0), (9, .iconst 1, 1, 1, 0, 0), (10, .isub, 1, 0, 0, 0), (11, .istore 5, 2, 0, 0, 0), (13, .iload 5, 2, 0, 0, 0), (15, .ifCond .lt 31, 3, 0, 46, 0), (18, .aload_n 2, 1, 0, 0, 0), (19, .iload_n 3, 1, 0, 0, 0), (20, .iload 5, 2, 0, 0, 0), (22, .iadd, 1, 0, 0, 0), (23, .aload_n 0, 1, 0, 0, 0), (24, .getfield 42, 3, 0, 9, 12), (27, .iload 4, 2, 0, 0, 0), (29, .iaload, 1, 0, 0, 0), (30, .iastore, 1, 0, 0, 0), (31, .aload_n 0, 1, 0, 0, 0), (32, .getfield 39, 3, 0, 9, 11), (35, .iload 4, 2, 0, 0, 0), (37, .iaload, 1, 0, 0, 0), (38, .istore 4, 2, 0, 0, 0), (40, .iinc 5 (-1), 3, -1, 0, 0), (43, .goto (-30), 3, 0, 13, 0), (46, .return_, 1, 0, 0, 0)]
def mX9_writeLog : aM := (yX9_writeLog, cX9_writeLog, 6, none, [], kX9_writeLog)
set_option maxRecDepth 100000 in
theorem oX9_writeLog : cB mX9_writeLog mX9_writeLog.code = true := by decide +kernel
def kX9_keep : List aR := [(0, .aload_n 0, 1, 0, 0, 0), (1, .getfield 187, 3, 0, 9, 33), (4, .ifCond .ne 10, 3, 0, 14, 0), (7, .aload_n 0, 1, 0, 0, 0), (8, .getfield 228, 3, 0, 9, 34), (11, .ifCond .eq 7, 3, 0, 18, 0), (14, .iconst 0, 1, 0, 0, 0), (15, .goto 9, 3, 0, 24, 0), (18, .aload_n 0, 1, 0, 0, 0), (19, .getfield 75, 3, 0, 9, 24), (22, .iconst 1, 1, 1, 0, 0), (23, .iaload, 1, 0, 0, 0), (24, .istore_n 2, 1, 0, 0, 0), (25, .aload_n 0, 1, 0, 0, 0), (26, .getfield 90, 3, 0, 9, 36), (29, .iload_n 1, 1, 0, 0, 0), (30, .iload_n 2, 1, 0, 0, 0), (31, .iastore, 1, 0, 0, 0), (32, .iconst 0, 1, 0, 0, 0), (33, .istore_n 3, 1, 0, 0, 0), (34, .iload_n 3, 1, 0, 0, 0), (35, .iload_n 2, 1, 0, 0, 0), (36, .if_icmp .ge 207, 3, 0, 243, 0), (39, .bipush 50, 2, 50, 0, 0), (41, .iload_n 1, 1, 0, 0, 0), (42, .imul, 1, 0, 0, 0), (43, .iload_n 3, 1, 0, 0, 0), (44, .iadd, 1, 0, 0, 0), (45, .istore 4, 2, 0, 0, 0), (47, .aload_n 0, 1, 0, 0, 0), (48, .iconst 0, 1, 0, 0, 0), (49, .iconst 1, 1, 1, 0, 0), (50, .invokevirtual 200, 3, 0, 0, 0), (53, .iload_n 3, 1, 0, 0, 0), (54, .iadd, 1, 0, 0, 0), (55, .istore 5, 2, 0, 0, 0), (57, .aload_n 0, 1, 0, 0, 0), (58, .getfield 93, 3, 0, 9, 37), (61, .iload 4, 2, 0, 0, 0), (63, .aload_n 0, 1, 0, 0, 0), (64, .getfield 78, 3, 0, 9, 25), (67, .iload 5, 2, 0, 0, 0), (69, .baload, 1, 0, 0, 0), (70, .bastore, 1, 0, 0, 0), (71, .aload_n 0, 1, 0, 0, 0), (72, .getfield 96, 3, 0, 9, 38), (75, .iload 4, 2, 0, 0, 0), (77, .aload_n 0, 1, 0, 0, 0), (78, .getfield 81, 3, 0, 9, 26), (81, .iload 5, 2, 0, 0, 0), (83, .iaload, 1, 0, 0, 0), (84, .iastore, 1, 0, 0, 0), (85, .aload_n 0, 1, 0, 0, 0), (86, .getfield 99, 3, 0, 9, 39), (89, .iload 4, 2, 0, 0, 0), (91, .aload_n 0, 1, 0, 0, 0), (92, .iconst 0, 1, 0, 0, 0), (93, .invokevirtual 178, 3, 0, 0, 0), (96, .ifCond .eq 25, 3, 0, 121, 0), (99, .aload_n 0, 1, 0, 0, 0), (100, .getfield 78, 3, 0, 9, 25), (103, .iload 5, 2, 0, 0, 0), (105, .baload, 1, 0, 0, 0), (106, .ifCond .eq 11, 3, 0, 117, 0), (109, .aload_n 0, 1, 0, 0, 0), (110, .iconst 0, 1, 0, 0, 0), (111, .invokevirtual 234, 3, 0, 0, 0), (114, .ifCond .ne 7, 3, 0, 121, 0), (117, .iconst 1, 1, 1, 0, 0), (118, .goto 4, 3, 0, 122, 0), (121, .iconst 0, 1, 0, 0, 0), (122, .bastore, 1, 0, 0, 0), (123, .aload_n 0, 1, 0, 0, 0), (124, .getfield 102, 3, 0, 9, 40), (127, .iload 4, 2, 0, 0, 0), (129, .aload_n 0, 1, 0, 0, 0), (130, .getfield 99, 3, 0, 9, 39), (133, .iload 4, 2, 0, 0, 0), (135, .baload, 1, 0, 0, 0), (136, .ifCond .eq 13, 3, 0, 149, 0), (139, .aload_n 0, 1, 0, 0, 0), (140, .getfield 84, 3, 0, 9, 27), (143, .iload 5, 2, 0, 0, 0), (145, .iaload, 1, 0, 0, 0), (146, .goto 4, 3, 0, 150, 0), (149, .iconst 0, 1, 0, 0, 0), (150, .iastore, 1, 0, 0, 0), (151, .aload_n 0, 1, 0, 0, 0), (152, .iconst 1, 1, 1, 0, 0), (153, .invokevirtual 178, 3, 0, 0, 0), (156, .ifCond .eq 25, 3, 0, 181, 0), (159, .aload_n 0, 1, 0, 0, 0), (160, .getfield 78, 3, 0, 9, 25), (163, .iload 5, 2, 0, 0, 0), (165, .baload, 1, 0, 0, 0), (166, .ifCond .eq 11, 3, 0, 177, 0), (169, .aload_n 0, 1, 0, 0, 0), (170, .iconst 1, 1, 1, 0, 0), (171, .invokevirtual 234, 3, 0, 0, 0), (174, .ifCond .ne 7, 3, 0, 181, 0), (177, .iconst 1, 1, 1, 0, 0), (178, .goto 4, 3, 0, 182, 0), (181, .iconst 0, 1, 0, 0, 0), (182, .istore 6, 2, 0, 0, 0), (184, .aload_n 0, 1, 0, 0, 0), (185, .getfield 105, 3, 0, 9, 41), (188, .iload 4, 2, 0, 0, 0), (190, .iload 6, 2, 0, 0, 0), (192, .ifCond .eq 18, 3, 0, 210, 0), (195, .aload_n 0, 1, 0, 0, 0), (196, .getfield 45, 3, 0, 9, 13), (199, .aload_n 0, 1, 0, 0, 0), (200, .getfield 87, 3, 0, 9, 28), (203, .iload 5, 2, 0, 0, 0), (205, .iaload, 1, 0, 0, 0), (206, .iaload, 1, 0, 0, 0), (207, .goto 4, 3, 0, 211, 0), (210, .iconst (-1), 1, -1, 0, 0), (211, .iastore, 1, 0, 0, 0), (212, .iload 6, 2, 0, 0, 0), (214, .ifCond .eq 23, 3, 0, 237, 0), (217, .aload_n 0, 1, 0, 0, 0), (218, .aload_n 0, 1, 0, 0, 0), (219, .getfield 87, 3, 0, 9, 28), (222, .iload 5, 2, 0, 0, 0), (224, .iaload, 1, 0, 0, 0), (225, .aload_n 0, 1, 0, 0, 0), (226, .getfield 108, 3, 0, 9, 42), (229, .bipush 60, 2, 60, 0, 0), (231, .iload 4, 2, 0, 0, 0), (233, .imul, 1, 0, 0, 0), (234, .invokevirtual 274, 3, 0, 0, 0), (237, .iinc 3 1, 3, 1, 0, 0), (240, .goto (-206), 3, 0, 34, 0), (243, .aload_n 0, 1, 0, 0, 0), (244, .iconst 0, 1, 0, 0, 0), (245, .invokevirtual 221, 3, 0, 0, 0), (248, .ifCond .eq 22, 3, 0, 270, 0), (251, .aload_n 0, 1, 0, 0, 0), (252, .getfield 228, 3, 0, 9, 34), (255, .ifCond .eq 11, 3, 0, 266, 0), (258, .aload_n 0, 1, 0, 0, 0), (259, .iconst 0, 1, 0, 0, 0), (260, .invokevirtual 234, 3, 0, 0, 0), (263, .ifCond .ne 7, 3, 0, 270, 0), (266, .iconst 1, 1, 1, 0, 0), (267, .goto 4, 3, 0, 271, 0), (270, .iconst 0, 1, 0, 0, 0), (271, .istore_n 3, 1, 0, 0, 0), (272, .aload_n 0, 1, 0, 0, 0), (273, .iconst 1, 1, 1, 0, 0), (274, .invokevirtual 221, 3, 0, 0, 0), (277, .ifCond .eq 22, 3, 0, 299, 0), (280, .aload_n 0, 1, 0, 0, 0), (281, .getfield 228, 3, 0, 9, 34), (284, .ifCond .eq 11, 3, 0, 295, 0), (287, .aload_n 0, 1, 0, 0, 0), (288, .iconst 1, 1, 1, 0, 0), (289, .invokevirtual 234, 3, 0, 0, 0), (292, .ifCond .ne 7, 3, 0, 299, 0), (295, .iconst 1, 1, 1, 0, 0), (296, .goto 4, 3, 0, 300, 0), (299, .iconst 0, 1, 0, 0, 0), (300, .istore 4, 2, 0, 0, 0), (302, .bipush 6, 2, 6, 0, 0), (304, .iload_n 1, 1, 0, 0, 0), (305, .imul, 1, 0, 0, 0), (306, .istore 5, 2, 0, 0, 0), (308, .aload_n 0, 1, 0, 0, 0), (309, .getfield 111, 3, 0, 9, 43), (312, .iload 5, 2, 0, 0, 0), (314, .aload_n 0, 1, 0, 0, 0), (315, .getfield 187, 3, 0, 9, 33), (318, .ifCond .eq 8, 3, 0, 326, 0), (321, .bipush (-3), 2, -3, 0, 0), (323, .goto 16, 3, 0, 339, 0), (326, .aload_n 0, 1, 0, 0, 0), (327, .getfield 228, 3, 0, 9, 34), (330, .ifCond .eq 8, 3, 0, 338, 0), (333, .bipush (-2), 2, -2, 0, 0), (335, .goto 4, 3, 0, 339, 0), (338, .iload_n 2, 1, 0, 0, 0), (339, .iastore, 1, 0, 0, 0), (340, .aload_n 0, 1, 0, 0, 0), (341, .getfield 111, 3, 0, 9, 43), (344, .iload 5, 2, 0, 0, 0), (346, .iconst 1, 1, 1, 0, 0), (347, .iadd, 1, 0, 0, 0), (348, .aload_n 0, 1, 0, 0, 0), (349, .getfield 231, 3, 0, 9, 35), (352, .iastore, 1, 0, 0, 0), (353, .aload_n 0, 1, 0, 0, 0), (354, .getfield 111, 3, 0, 9, 43), (357, .iload 5, 2, 0, 0, 0), (359, .iconst 2, 1, 2, 0, 0), (360, .iadd, 1, 0, 0, 0), (361, .aload_n 0, 1, 0, 0, 0), (362, .getfield 181, 3, 0, 9, 31), (365, .iastore, 1, 0, 0, 0), (366, .aload_n 0, 1, 0, 0, 0), (367, .getfield 111, 3, 0, 9, 43), (370, .iload 5, 2, 0, 0, 0), (372, .iconst 3, 1, 3, 0, 0), (373, .iadd, 1, 0, 0, 0), (374, .iload_n 3, 1, 0, 0, 0), (375, .ifCond .eq 7, 3, 0, 382, 0), (378, .iconst 1, 1, 1, 0, 0), (379, .goto 4, 3, 0, 383, 0), (382, .iconst 0, 1, 0, 0, 0), (383, .iastore, 1, 0, 0, 0), (384, .aload_n 0, 1, 0, 0, 0), (385, .getfield 111, 3, 0, 9, 43), (388, .iload 5, 2, 0, 0, 0), (390, .iconst 4, 1, 4, 0, 0), (391, .iadd, 1, 0, 0, 0), (392, .iload_n 3, 1, 0, 0, 0), (393, .ifCond .eq 10, 3, 0, 403, 0), (396, .aload_n 0, 1, 0, 0, 0), (397, .getfield 194, 3, 0, 9, 29), (400, .goto 4, 3, 0, 404, 0), (403, .iconst 0, 1, 0, 0, 0), (404, .iastore, 1, 0, 0, 0), (405, .aload_n 0, 1, 0, 0, 0), (406, .getfield 111, 3, 0, 9, 43), (409, .iload 5, 2, 0, 0, 0), (411, .iconst 5, 1, 5, 0, 0), (412, .iadd, 1, 0, 0, 0), (413, .iload 4, 2, 0, 0, 0), (415, .ifCond .eq 15, 3, 0, 430, 0), (418, .aload_n 0, 1, 0, 0, 0), (419, .getfield 45, 3, 0, 9, 13), (422, .aload_n 0, 1, 0, 0, 0), (423, .getfield 197, 3, 0, 9, 30), (426, .iaload, 1, 0, 0, 0), (427, .goto 4, 3, 0, 431, 0), (430, .iconst (-1), 1, -1, 0, 0), (431, .iastore, 1, 0, 0, 0), (432, .iload 4, 2, 0, 0, 0), (434, .ifCond .eq 19, 3, 0, 453, 0), (437, .aload_n 0, 1, 0, 0, 0), (438, .aload_n 0, 1, 0, 0, 0), (439, .getfield 197, 3, 0, 9, 30), (442, .aload_n 0, 1, 0, 0, 0), (443, .getfield 114, 3, 0, 9, 44), (446, .bipush 60, 2, 60, 0, 0), (448, .iload_n 1, 1, 0, 0, 0), (449, .imul, 1, 0, 0, 0), (450, .invokevirtual 274, 3, 0, 0, 0), (453, .return_, 1, 0, 0, 0)]
def mX9_keep : aM := (yX9_keep, cX9_keep, 7, none, [], kX9_keep)
set_option maxRecDepth 100000 in
theorem oX9_keep : cB mX9_keep mX9_keep.code = true := by decide +kernel
def kX9_run : List aR := [(0, .aload_n 0, 1, 0, 0, 0), (1, .iconst 0, 1, 0, 0, 0), (2, .putfield 1, 3, 0, 9, 0), (5, .aload_n 0, 1, 0, 0, 0), (6, .iload_n 1, 1, 0, 0, 0), (7, .invokevirtual 164, 3, 0, 0, 0), (10, .ifCond .ne 9, 3, 0, 19, 0), (13, .aload_n 0, 1, 0, 0, 0), (14, .iconst 1, 1, 1, 0, 0), (15, .invokevirtual 152, 3, 0, 0, 0), (18, .ireturn, 1, 0, 0, 0), (19, .iload_n 3, 1, 0, 0, 0), (20, .iconst 1, 1, 1, 0, 0), (21, .if_icmp .lt 10, 3, 0, 31, 0), (24, .iload_n 3, 1, 0, 0, 0), (25, .sipush 2000, 3, 2000, 0, 0), (28, .if_icmp .le 9, 3, 0, 37, 0), (31, .aload_n 0, 1, 0, 0, 0), (32, .iconst 2, 1, 2, 0, 0), (33, .invokevirtual 152, 3, 0, 0, 0), (36, .ireturn, 1, 0, 0, 0), (37, .aload_n 0, 1, 0, 0, 0), (38, .iload_n 1, 1, 0, 0, 0), (39, .invokevirtual 278, 3, 0, 0, 0), (42, .ifCond .eq 9, 3, 0, 51, 0), (45, .aload_n 0, 1, 0, 0, 0), (46, .iconst 3, 1, 3, 0, 0), (47, .invokevirtual 152, 3, 0, 0, 0), (50, .ireturn, 1, 0, 0, 0), (51, .aload_n 0, 1, 0, 0, 0), (52, .iload_n 1, 1, 0, 0, 0), (53, .iload_n 2, 1, 0, 0, 0), (54, .iload_n 3, 1, 0, 0, 0), (55, .invokevirtual 281, 3, 0, 0, 0), (58, .aload_n 0, 1, 0, 0, 0), (59, .iconst 0, 1, 0, 0, 0), (60, .invokevirtual 285, 3, 0, 0, 0), (63, .aload_n 0, 1, 0, 0, 0), (64, .iconst 1, 1, 1, 0, 0), (65, .putfield 288, 3, 0, 9, 45), (68, .aload_n 0, 1, 0, 0, 0), (69, .getfield 111, 3, 0, 9, 43), (72, .iconst 0, 1, 0, 0, 0), (73, .iaload, 1, 0, 0, 0), (74, .ireturn, 1, 0, 0, 0)]
def mX9_run : aM := (yX9_run, cX9_run, 4, (some .int), [], kX9_run)
set_option maxRecDepth 100000 in
theorem oX9_run : cB mX9_run mX9_run.code = true := by decide +kernel
def kX9_result : List aR := [(0, .aload_n 0, 1, 0, 0, 0), (1, .iconst 0, 1, 0, 0, 0), (2, .putfield 1, 3, 0, 9, 0), (5, .aload_n 0, 1, 0, 0, 0), (6, .getfield 288, 3, 0, 9, 45), (9, .ifCond .eq 17, 3, 0, 26, 0), (12, .iload_n 1, 1, 0, 0, 0), (13, .ifCond .lt 13, 3, 0, 26, 0), (16, .iload_n 1, 1, 0, 0, 0), (17, .aload_n 0, 1, 0, 0, 0), (18, .getfield 90, 3, 0, 9, 36), (21, .iconst 0, 1, 0, 0, 0), (22, .iaload, 1, 0, 0, 0), (23, .if_icmp .lt 9, 3, 0, 32, 0), (26, .aload_n 0, 1, 0, 0, 0), (27, .iconst 1, 1, 1, 0, 0), (28, .invokevirtual 152, 3, 0, 0, 0), (31, .ireturn, 1, 0, 0, 0), (32, .iload_n 2, 1, 0, 0, 0), (33, .ifCond .lt 20, 3, 0, 53, 0), (36, .iload_n 2, 1, 0, 0, 0), (37, .iconst 4, 1, 4, 0, 0), (38, .if_icmp .le 21, 3, 0, 59, 0), (41, .iload_n 2, 1, 0, 0, 0), (42, .iconst 5, 1, 5, 0, 0), (43, .isub, 1, 0, 0, 0), (44, .aload_n 0, 1, 0, 0, 0), (45, .getfield 105, 3, 0, 9, 41), (48, .iload_n 1, 1, 0, 0, 0), (49, .iaload, 1, 0, 0, 0), (50, .if_icmp .lt 9, 3, 0, 59, 0), (53, .aload_n 0, 1, 0, 0, 0), (54, .iconst 2, 1, 2, 0, 0), (55, .invokevirtual 152, 3, 0, 0, 0), (58, .ireturn, 1, 0, 0, 0), (59, .iload_n 2, 1, 0, 0, 0), (60, .tableswitch 87 0 4 #[36, 43, 58, 73, 80], 36, 0, 0, 0), (96, .aload_n 0, 1, 0, 0, 0), (97, .getfield 96, 3, 0, 9, 38), (100, .iload_n 1, 1, 0, 0, 0), (101, .iaload, 1, 0, 0, 0), (102, .ireturn, 1, 0, 0, 0), (103, .aload_n 0, 1, 0, 0, 0), (104, .getfield 93, 3, 0, 9, 37), (107, .iload_n 1, 1, 0, 0, 0), (108, .baload, 1, 0, 0, 0), (109, .ifCond .eq 7, 3, 0, 116, 0), (112, .iconst 1, 1, 1, 0, 0), (113, .goto 4, 3, 0, 117, 0), (116, .iconst 0, 1, 0, 0, 0), (117, .ireturn, 1, 0, 0, 0), (118, .aload_n 0, 1, 0, 0, 0), (119, .getfield 99, 3, 0, 9, 39), (122, .iload_n 1, 1, 0, 0, 0), (123, .baload, 1, 0, 0, 0), (124, .ifCond .eq 7, 3, 0, 131, 0), (127, .iconst 1, 1, 1, 0, 0), (128, .goto 4, 3, 0, 132, 0), (131, .iconst 0, 1, 0, 0, 0), (132, .ireturn, 1, 0, 0, 0), (133, .aload_n 0, 1, 0, 0, 0), (134, .getfield 102, 3, 0, 9, 40), (137, .iload_n 1, 1, 0, 0, 0), (138, .iaload, 1, 0, 0, 0), (139, .ireturn, 1, 0, 0, 0), (140, .aload_n 0, 1, 0, 0, 0), (141, .getfield 105, 3, 0, 9, 41), (144, .iload_n 1, 1, 0, 0, 0), (145, .iaload, 1, 0, 0, 0), (146, .ireturn, 1, 0, 0, 0), (147, .aload_n 0, 1, 0, 0, 0), (148, .getfield 108, 3, 0, 9, 42), (151, .bipush 60, 2, 60, 0, 0), (153, .iload_n 1, 1, 0, 0, 0), (154, .imul, 1, 0, 0, 0), (155, .iload_n 2, 1, 0, 0, 0), (156, .iadd, 1, 0, 0, 0), (157, .iconst 5, 1, 5, 0, 0), (158, .isub, 1, 0, 0, 0), (159, .iaload, 1, 0, 0, 0), (160, .ireturn, 1, 0, 0, 0)]
def mX9_result : aM := (yX9_result, cX9_result, 3, (some .int), [], kX9_result)
set_option maxRecDepth 100000 in
theorem oX9_result : cB mX9_result mX9_result.code = true := by decide +kernel
def kX9_shared : List aR := [(0, .aload_n 0, 1, 0, 0, 0), (1, .iconst 0, 1, 0, 0, 0), (2, .putfield 1, 3, 0, 9, 0), (5, .aload_n 0, 1, 0, 0, 0), (6, .getfield 288, 3, 0, 9, 45), (9, .ifCond .eq 14, 3, 0, 23, 0), (12, .aload_n 0, 1, 0, 0, 0), (13, .getfield 111, 3, 0, 9, 43), (16, .iconst 0, 1, 0, 0, 0), (17, .iaload, 1, 0, 0, 0), (18, .bipush (-3), 2, -3, 0, 0), (20, .if_icmp .ne 9, 3, 0, 29, 0), (23, .aload_n 0, 1, 0, 0, 0), (24, .iconst 1, 1, 1, 0, 0), (25, .invokevirtual 152, 3, 0, 0, 0), (28, .ireturn, 1, 0, 0, 0), (29, .iload_n 1, 1, 0, 0, 0), (30, .ifCond .lt 20, 3, 0, 50, 0), (33, .iload_n 1, 1, 0, 0, 0), (34, .iconst 4, 1, 4, 0, 0), (35, .if_icmp .le 21, 3, 0, 56, 0), (38, .iload_n 1, 1, 0, 0, 0), (39, .iconst 5, 1, 5, 0, 0), (40, .isub, 1, 0, 0, 0), (41, .aload_n 0, 1, 0, 0, 0), (42, .getfield 111, 3, 0, 9, 43), (45, .iconst 5, 1, 5, 0, 0), (46, .iaload, 1, 0, 0, 0), (47, .if_icmp .lt 9, 3, 0, 56, 0), (50, .aload_n 0, 1, 0, 0, 0), (51, .iconst 2, 1, 2, 0, 0), (52, .invokevirtual 152, 3, 0, 0, 0), (55, .ireturn, 1, 0, 0, 0), (56, .iload_n 1, 1, 0, 0, 0), (57, .iconst 5, 1, 5, 0, 0), (58, .if_icmp .ge 14, 3, 0, 72, 0), (61, .aload_n 0, 1, 0, 0, 0), (62, .getfield 111, 3, 0, 9, 43), (65, .iconst 1, 1, 1, 0, 0), (66, .iload_n 1, 1, 0, 0, 0), (67, .iadd, 1, 0, 0, 0), (68, .iaload, 1, 0, 0, 0), (69, .goto 11, 3, 0, 80, 0), (72, .aload_n 0, 1, 0, 0, 0), (73, .getfield 114, 3, 0, 9, 44), (76, .iload_n 1, 1, 0, 0, 0), (77, .iconst 5, 1, 5, 0, 0), (78, .isub, 1, 0, 0, 0), (79, .iaload, 1, 0, 0, 0), (80, .ireturn, 1, 0, 0, 0)]
def mX9_shared : aM := (yX9_shared, cX9_shared, 2, (some .int), [], kX9_shared)
set_option maxRecDepth 100000 in
theorem oX9_shared : cB mX9_shared mX9_shared.code = true := by decide +kernel
def kX9_alike : List aR := [(0, .aload_n 0, 1, 0, 0, 0), (1, .iconst 0, 1, 0, 0, 0), (2, .putfield 1, 3, 0, 9, 0), (5, .aload_n 0, 1, 0, 0, 0), (6, .iload_n 1, 1, 0, 0, 0), (7, .invokevirtual 164, 3, 0, 0, 0), (10, .ifCond .eq 11, 3, 0, 21, 0), (13, .aload_n 0, 1, 0, 0, 0), (14, .iload_n 2, 1, 0, 0, 0), (15, .invokevirtual 164, 3, 0, 0, 0), (18, .ifCond .ne 17, 3, 0, 35, 0), (21, .aload_n 0, 1, 0, 0, 0), (22, .iconst 1, 1, 1, 0, 0), (23, .invokevirtual 152, 3, 0, 0, 0), (26, .ifCond .le 7, 3, 0, 33, 0), (29, .iconst 1, 1, 1, 0, 0), (30, .goto 4, 3, 0, 34, 0), (33, .iconst 0, 1, 0, 0, 0), (34, .ireturn, 1, 0, 0, 0), (35, .iload 4, 2, 0, 0, 0), (37, .iconst 1, 1, 1, 0, 0), (38, .if_icmp .lt 11, 3, 0, 49, 0), (41, .iload 4, 2, 0, 0, 0), (43, .sipush 2000, 3, 2000, 0, 0), (46, .if_icmp .le 17, 3, 0, 63, 0), (49, .aload_n 0, 1, 0, 0, 0), (50, .iconst 2, 1, 2, 0, 0), (51, .invokevirtual 152, 3, 0, 0, 0), (54, .ifCond .le 7, 3, 0, 61, 0), (57, .iconst 1, 1, 1, 0, 0), (58, .goto 4, 3, 0, 62, 0), (61, .iconst 0, 1, 0, 0, 0), (62, .ireturn, 1, 0, 0, 0), (63, .aload_n 0, 1, 0, 0, 0), (64, .iload_n 1, 1, 0, 0, 0), (65, .invokevirtual 278, 3, 0, 0, 0), (68, .ifCond .ne 11, 3, 0, 79, 0), (71, .aload_n 0, 1, 0, 0, 0), (72, .iload_n 2, 1, 0, 0, 0), (73, .invokevirtual 278, 3, 0, 0, 0), (76, .ifCond .eq 17, 3, 0, 93, 0), (79, .aload_n 0, 1, 0, 0, 0), (80, .iconst 3, 1, 3, 0, 0), (81, .invokevirtual 152, 3, 0, 0, 0), (84, .ifCond .le 7, 3, 0, 91, 0), (87, .iconst 1, 1, 1, 0, 0), (88, .goto 4, 3, 0, 92, 0), (91, .iconst 0, 1, 0, 0, 0), (92, .ireturn, 1, 0, 0, 0), (93, .aload_n 0, 1, 0, 0, 0), (94, .iload_n 1, 1, 0, 0, 0), (95, .iload_n 3, 1, 0, 0, 0), (96, .iload 4, 2, 0, 0, 0), (98, .invokevirtual 281, 3, 0, 0, 0), (101, .aload_n 0, 1, 0, 0, 0), (102, .iconst 1, 1, 1, 0, 0), (103, .invokevirtual 285, 3, 0, 0, 0), (106, .aload_n 0, 1, 0, 0, 0), (107, .invokevirtual 291, 3, 0, 0, 0), (110, .aload_n 0, 1, 0, 0, 0), (111, .iload_n 2, 1, 0, 0, 0), (112, .iload_n 3, 1, 0, 0, 0), (113, .iload 4, 2, 0, 0, 0), (115, .invokevirtual 281, 3, 0, 0, 0), (118, .aload_n 0, 1, 0, 0, 0), (119, .iconst 1, 1, 1, 0, 0), (120, .invokevirtual 285, 3, 0, 0, 0), (123, .aload_n 0, 1, 0, 0, 0), (124, .invokevirtual 294, 3, 0, 0, 0), (127, .ireturn, 1, 0, 0, 0)]
def mX9_alike : aM := (yX9_alike, cX9_alike, 5, (some .boolean), [], kX9_alike)
set_option maxRecDepth 100000 in
theorem oX9_alike : cB mX9_alike mX9_alike.code = true := by decide +kernel
def kX9_lay : List aR := [(0, .iconst 0, 1, 0, 0, 0), (1, .istore_n 1, 1, 0, 0, 0), (2, .iload_n 1, 1, 0, 0, 0), (3, .bipush 6, 2, 6, 0, 0), (5, .if_icmp .ge 24, 3, 0, 29, 0), (8, .aload_n 0, 1, 0, 0, 0), (9, .getfield 117, 3, 0, 9, 46), (12, .iload_n 1, 1, 0, 0, 0), (13, .aload_n 0, 1, 0, 0, 0), (14, .getfield 111, 3, 0, 9, 43), (17, .bipush 6, 2, 6, 0, 0), (19, .iload_n 1, 1, 0, 0, 0), (20, .iadd, 1, 0, 0, 0), (21, .iaload, 1, 0, 0, 0), (22, .iastore, 1, 0, 0, 0), (23, .iinc 1 1, 3, 1, 0, 0), (26, .goto (-24), 3, 0, 2, 0), (29, .iconst 0, 1, 0, 0, 0), (30, .istore_n 1, 1, 0, 0, 0), (31, .iload_n 1, 1, 0, 0, 0), (32, .bipush 60, 2, 60, 0, 0), (34, .if_icmp .ge 24, 3, 0, 58, 0), (37, .aload_n 0, 1, 0, 0, 0), (38, .getfield 120, 3, 0, 9, 47), (41, .iload_n 1, 1, 0, 0, 0), (42, .aload_n 0, 1, 0, 0, 0), (43, .getfield 114, 3, 0, 9, 44), (46, .bipush 60, 2, 60, 0, 0), (48, .iload_n 1, 1, 0, 0, 0), (49, .iadd, 1, 0, 0, 0), (50, .iaload, 1, 0, 0, 0), (51, .iastore, 1, 0, 0, 0), (52, .iinc 1 1, 3, 1, 0, 0), (55, .goto (-24), 3, 0, 31, 0), (58, .iconst 0, 1, 0, 0, 0), (59, .istore_n 1, 1, 0, 0, 0), (60, .iload_n 1, 1, 0, 0, 0), (61, .aload_n 0, 1, 0, 0, 0), (62, .getfield 90, 3, 0, 9, 36), (65, .iconst 1, 1, 1, 0, 0), (66, .iaload, 1, 0, 0, 0), (67, .if_icmp .ge 114, 3, 0, 181, 0), (70, .bipush 50, 2, 50, 0, 0), (72, .iload_n 1, 1, 0, 0, 0), (73, .iadd, 1, 0, 0, 0), (74, .istore_n 2, 1, 0, 0, 0), (75, .aload_n 0, 1, 0, 0, 0), (76, .getfield 123, 3, 0, 9, 48), (79, .iload_n 1, 1, 0, 0, 0), (80, .aload_n 0, 1, 0, 0, 0), (81, .getfield 93, 3, 0, 9, 37), (84, .iload_n 2, 1, 0, 0, 0), (85, .baload, 1, 0, 0, 0), (86, .bastore, 1, 0, 0, 0), (87, .aload_n 0, 1, 0, 0, 0), (88, .getfield 126, 3, 0, 9, 49), (91, .iload_n 1, 1, 0, 0, 0), (92, .aload_n 0, 1, 0, 0, 0), (93, .getfield 96, 3, 0, 9, 38), (96, .iload_n 2, 1, 0, 0, 0), (97, .iaload, 1, 0, 0, 0), (98, .iastore, 1, 0, 0, 0), (99, .aload_n 0, 1, 0, 0, 0), (100, .getfield 129, 3, 0, 9, 50), (103, .iload_n 1, 1, 0, 0, 0), (104, .aload_n 0, 1, 0, 0, 0), (105, .getfield 99, 3, 0, 9, 39), (108, .iload_n 2, 1, 0, 0, 0), (109, .baload, 1, 0, 0, 0), (110, .bastore, 1, 0, 0, 0), (111, .aload_n 0, 1, 0, 0, 0), (112, .getfield 132, 3, 0, 9, 51), (115, .iload_n 1, 1, 0, 0, 0), (116, .aload_n 0, 1, 0, 0, 0), (117, .getfield 102, 3, 0, 9, 40), (120, .iload_n 2, 1, 0, 0, 0), (121, .iaload, 1, 0, 0, 0), (122, .iastore, 1, 0, 0, 0), (123, .aload_n 0, 1, 0, 0, 0), (124, .getfield 135, 3, 0, 9, 52), (127, .iload_n 1, 1, 0, 0, 0), (128, .aload_n 0, 1, 0, 0, 0), (129, .getfield 105, 3, 0, 9, 41), (132, .iload_n 2, 1, 0, 0, 0), (133, .iaload, 1, 0, 0, 0), (134, .iastore, 1, 0, 0, 0), (135, .iconst 0, 1, 0, 0, 0), (136, .istore_n 3, 1, 0, 0, 0), (137, .iload_n 3, 1, 0, 0, 0), (138, .aload_n 0, 1, 0, 0, 0), (139, .getfield 105, 3, 0, 9, 41), (142, .iload_n 2, 1, 0, 0, 0), (143, .iaload, 1, 0, 0, 0), (144, .if_icmp .ge 31, 3, 0, 175, 0), (147, .aload_n 0, 1, 0, 0, 0), (148, .getfield 138, 3, 0, 9, 53), (151, .bipush 60, 2, 60, 0, 0), (153, .iload_n 1, 1, 0, 0, 0), (154, .imul, 1, 0, 0, 0), (155, .iload_n 3, 1, 0, 0, 0), (156, .iadd, 1, 0, 0, 0), (157, .aload_n 0, 1, 0, 0, 0), (158, .getfield 108, 3, 0, 9, 42), (161, .bipush 60, 2, 60, 0, 0), (163, .iload_n 2, 1, 0, 0, 0), (164, .imul, 1, 0, 0, 0), (165, .iload_n 3, 1, 0, 0, 0), (166, .iadd, 1, 0, 0, 0), (167, .iaload, 1, 0, 0, 0), (168, .iastore, 1, 0, 0, 0), (169, .iinc 3 1, 3, 1, 0, 0), (172, .goto (-35), 3, 0, 137, 0), (175, .iinc 1 1, 3, 1, 0, 0), (178, .goto (-118), 3, 0, 60, 0), (181, .return_, 1, 0, 0, 0)]
def mX9_lay : aM := (yX9_lay, cX9_lay, 4, none, [], kX9_lay)
set_option maxRecDepth 100000 in
theorem oX9_lay : cB mX9_lay mX9_lay.code = true := by decide +kernel
def kX9_isAsLaid : List aR := [(0, .aload_n 0, 1, 0, 0, 0), (1, .getfield 117, 3, 0, 9, 46), (4, .iconst 0, 1, 0, 0, 0), (5, .iaload, 1, 0, 0, 0), (6, .bipush (-3), 2, -3, 0, 0), (8, .if_icmp .eq 7, 3, 0, 15, 0), (11, .iconst 1, 1, 1, 0, 0), (12, .goto 4, 3, 0, 16, 0), (15, .iconst 0, 1, 0, 0, 0), (16, .istore_n 1, 1, 0, 0, 0), (17, .iconst 0, 1, 0, 0, 0), (18, .istore_n 2, 1, 0, 0, 0), (19, .iload_n 2, 1, 0, 0, 0), (20, .bipush 6, 2, 6, 0, 0), (22, .if_icmp .ge 42, 3, 0, 64, 0), (25, .iload_n 1, 1, 0, 0, 0), (26, .ifCond .eq 30, 3, 0, 56, 0), (29, .iload_n 2, 1, 0, 0, 0), (30, .iconst 2, 1, 2, 0, 0), (31, .if_icmp .eq 21, 3, 0, 52, 0), (34, .aload_n 0, 1, 0, 0, 0), (35, .getfield 117, 3, 0, 9, 46), (38, .iload_n 2, 1, 0, 0, 0), (39, .iaload, 1, 0, 0, 0), (40, .aload_n 0, 1, 0, 0, 0), (41, .getfield 111, 3, 0, 9, 43), (44, .bipush 6, 2, 6, 0, 0), (46, .iload_n 2, 1, 0, 0, 0), (47, .iadd, 1, 0, 0, 0), (48, .iaload, 1, 0, 0, 0), (49, .if_icmp .ne 7, 3, 0, 56, 0), (52, .iconst 1, 1, 1, 0, 0), (53, .goto 4, 3, 0, 57, 0), (56, .iconst 0, 1, 0, 0, 0), (57, .istore_n 1, 1, 0, 0, 0), (58, .iinc 2 1, 3, 1, 0, 0), (61, .goto (-42), 3, 0, 19, 0), (64, .iconst 0, 1, 0, 0, 0), (65, .istore_n 2, 1, 0, 0, 0), (66, .iload_n 1, 1, 0, 0, 0), (67, .ifCond .eq 44, 3, 0, 111, 0), (70, .iload_n 2, 1, 0, 0, 0), (71, .aload_n 0, 1, 0, 0, 0), (72, .getfield 111, 3, 0, 9, 43), (75, .bipush 11, 2, 11, 0, 0), (77, .iaload, 1, 0, 0, 0), (78, .if_icmp .ge 33, 3, 0, 111, 0), (81, .aload_n 0, 1, 0, 0, 0), (82, .getfield 120, 3, 0, 9, 47), (85, .iload_n 2, 1, 0, 0, 0), (86, .iaload, 1, 0, 0, 0), (87, .aload_n 0, 1, 0, 0, 0), (88, .getfield 114, 3, 0, 9, 44), (91, .bipush 60, 2, 60, 0, 0), (93, .iload_n 2, 1, 0, 0, 0), (94, .iadd, 1, 0, 0, 0), (95, .iaload, 1, 0, 0, 0), (96, .if_icmp .ne 7, 3, 0, 103, 0), (99, .iconst 1, 1, 1, 0, 0), (100, .goto 4, 3, 0, 104, 0), (103, .iconst 0, 1, 0, 0, 0), (104, .istore_n 1, 1, 0, 0, 0), (105, .iinc 2 1, 3, 1, 0, 0), (108, .goto (-42), 3, 0, 66, 0), (111, .iconst 0, 1, 0, 0, 0), (112, .istore_n 2, 1, 0, 0, 0), (113, .iload_n 1, 1, 0, 0, 0), (114, .ifCond .eq 162, 3, 0, 276, 0), (117, .iload_n 2, 1, 0, 0, 0), (118, .aload_n 0, 1, 0, 0, 0), (119, .getfield 90, 3, 0, 9, 36), (122, .iconst 1, 1, 1, 0, 0), (123, .iaload, 1, 0, 0, 0), (124, .if_icmp .ge 152, 3, 0, 276, 0), (127, .bipush 50, 2, 50, 0, 0), (129, .iload_n 2, 1, 0, 0, 0), (130, .iadd, 1, 0, 0, 0), (131, .istore_n 3, 1, 0, 0, 0), (132, .aload_n 0, 1, 0, 0, 0), (133, .getfield 123, 3, 0, 9, 48), (136, .iload_n 2, 1, 0, 0, 0), (137, .baload, 1, 0, 0, 0), (138, .aload_n 0, 1, 0, 0, 0), (139, .getfield 93, 3, 0, 9, 37), (142, .iload_n 3, 1, 0, 0, 0), (143, .baload, 1, 0, 0, 0), (144, .if_icmp .ne 67, 3, 0, 211, 0), (147, .aload_n 0, 1, 0, 0, 0), (148, .getfield 126, 3, 0, 9, 49), (151, .iload_n 2, 1, 0, 0, 0), (152, .iaload, 1, 0, 0, 0), (153, .aload_n 0, 1, 0, 0, 0), (154, .getfield 96, 3, 0, 9, 38), (157, .iload_n 3, 1, 0, 0, 0), (158, .iaload, 1, 0, 0, 0), (159, .if_icmp .ne 52, 3, 0, 211, 0), (162, .aload_n 0, 1, 0, 0, 0), (163, .getfield 129, 3, 0, 9, 50), (166, .iload_n 2, 1, 0, 0, 0), (167, .baload, 1, 0, 0, 0), (168, .aload_n 0, 1, 0, 0, 0), (169, .getfield 99, 3, 0, 9, 39), (172, .iload_n 3, 1, 0, 0, 0), (173, .baload, 1, 0, 0, 0), (174, .if_icmp .ne 37, 3, 0, 211, 0), (177, .aload_n 0, 1, 0, 0, 0), (178, .getfield 132, 3, 0, 9, 51), (181, .iload_n 2, 1, 0, 0, 0), (182, .iaload, 1, 0, 0, 0), (183, .aload_n 0, 1, 0, 0, 0), (184, .getfield 102, 3, 0, 9, 40), (187, .iload_n 3, 1, 0, 0, 0), (188, .iaload, 1, 0, 0, 0), (189, .if_icmp .ne 22, 3, 0, 211, 0), (192, .aload_n 0, 1, 0, 0, 0), (193, .getfield 135, 3, 0, 9, 52), (196, .iload_n 2, 1, 0, 0, 0), (197, .iaload, 1, 0, 0, 0), (198, .aload_n 0, 1, 0, 0, 0), (199, .getfield 105, 3, 0, 9, 41), (202, .iload_n 3, 1, 0, 0, 0), (203, .iaload, 1, 0, 0, 0), (204, .if_icmp .ne 7, 3, 0, 211, 0), (207, .iconst 1, 1, 1, 0, 0), (208, .goto 4, 3, 0, 212, 0), (211, .iconst 0, 1, 0, 0, 0), (212, .istore_n 1, 1, 0, 0, 0), (213, .iconst 0, 1, 0, 0, 0), (214, .istore 4, 2, 0, 0, 0), (216, .iload_n 1, 1, 0, 0, 0), (217, .ifCond .eq 53, 3, 0, 270, 0), (220, .iload 4, 2, 0, 0, 0), (222, .aload_n 0, 1, 0, 0, 0), (223, .getfield 105, 3, 0, 9, 41), (226, .iload_n 3, 1, 0, 0, 0), (227, .iaload, 1, 0, 0, 0), (228, .if_icmp .ge 42, 3, 0, 270, 0), (231, .aload_n 0, 1, 0, 0, 0), (232, .getfield 138, 3, 0, 9, 53), (235, .bipush 60, 2, 60, 0, 0), (237, .iload_n 2, 1, 0, 0, 0), (238, .imul, 1, 0, 0, 0), (239, .iload 4, 2, 0, 0, 0), (241, .iadd, 1, 0, 0, 0), (242, .iaload, 1, 0, 0, 0), (243, .aload_n 0, 1, 0, 0, 0), (244, .getfield 108, 3, 0, 9, 42), (247, .bipush 60, 2, 60, 0, 0), (249, .iload_n 3, 1, 0, 0, 0), (250, .imul, 1, 0, 0, 0), (251, .iload 4, 2, 0, 0, 0), (253, .iadd, 1, 0, 0, 0), (254, .iaload, 1, 0, 0, 0), (255, .if_icmp .ne 7, 3, 0, 262, 0), (258, .iconst 1, 1, 1, 0, 0), (259, .goto 4, 3, 0, 263, 0), (262, .iconst 0, 1, 0, 0, 0), (263, .istore_n 1, 1, 0, 0, 0), (264, .iinc 4 1, 3, 1, 0, 0), (267, .goto (-51), 3, 0, 216, 0), (270, .iinc 2 1, 3, 1, 0, 0), (273, .goto (-160), 3, 0, 113, 0), (276, .iload_n 1, 1, 0, 0, 0), (277, .ireturn, 1, 0, 0, 0)]
def mX9_isAsLaid : aM := (yX9_isAsLaid, cX9_isAsLaid, 5, (some .boolean), [], kX9_isAsLaid)
set_option maxRecDepth 100000 in
theorem oX9_isAsLaid : cB mX9_isAsLaid mX9_isAsLaid.code = true := by decide +kernel
end
section
def kL_give : List aR := [(0, .aload_n 3, 1, 0, 0, 0), (1, .iconst 0, 1, 0, 0, 0), (2, .aload_n 0, 1, 0, 0, 0), (3, .iload_n 1, 1, 0, 0, 0), (4, .iload_n 2, 1, 0, 0, 0), (5, .invokevirtual 7, 3, 0, 0, 0), (8, .i2l, 1, 0, 0, 0), (9, .lastore, 1, 0, 0, 0), (10, .goto 11, 3, 0, 21, 0), (13, .astore 4, 2, 0, 0, 0), (15, .iconst 1, 1, 1, 0, 0), (16, .ireturn, 1, 0, 0, 0), (17, .astore 4, 2, 0, 0, 0), (19, .iconst 2, 1, 2, 0, 0), (20, .ireturn, 1, 0, 0, 0), (21, .iconst 0, 1, 0, 0, 0), (22, .ireturn, 1, 0, 0, 0)]
def mL_give : aM := (yL_give, cL_give, 5, (some .int), [(0, 10, 13, 13), (0, 10, 17, 15)], kL_give)
set_option maxRecDepth 100000 in
theorem oL_give : cB mL_give mL_give.code = true := by decide +kernel
def kL_of : List aR := [(0, .aload 4, 2, 0, 0, 0), (2, .iconst 0, 1, 0, 0, 0), (3, .aload_n 0, 1, 0, 0, 0), (4, .iload_n 1, 1, 0, 0, 0), (5, .iload_n 2, 1, 0, 0, 0), (6, .iload_n 3, 1, 0, 0, 0), (7, .invokevirtual 17, 3, 0, 0, 0), (10, .i2l, 1, 0, 0, 0), (11, .lastore, 1, 0, 0, 0), (12, .goto 15, 3, 0, 27, 0), (15, .astore 5, 2, 0, 0, 0), (17, .iconst 1, 1, 1, 0, 0), (18, .ireturn, 1, 0, 0, 0), (19, .astore 5, 2, 0, 0, 0), (21, .iconst 2, 1, 2, 0, 0), (22, .ireturn, 1, 0, 0, 0), (23, .astore 5, 2, 0, 0, 0), (25, .iconst 3, 1, 3, 0, 0), (26, .ireturn, 1, 0, 0, 0), (27, .iconst 0, 1, 0, 0, 0), (28, .ireturn, 1, 0, 0, 0)]
def mL_of : aM := (yL_of, cL_of, 6, (some .int), [(0, 12, 15, 13), (0, 12, 19, 21), (0, 12, 23, 15)], kL_of)
set_option maxRecDepth 100000 in
theorem oL_of : cB mL_of mL_of.code = true := by decide +kernel
def kL_read : List aR := [(0, .aload_n 1, 1, 0, 0, 0), (1, .iconst 0, 1, 0, 0, 0), (2, .aload_n 0, 1, 0, 0, 0), (3, .invokevirtual 23, 3, 0, 0, 0), (6, .i2l, 1, 0, 0, 0), (7, .lastore, 1, 0, 0, 0), (8, .goto 6, 3, 0, 14, 0), (11, .astore_n 2, 1, 0, 0, 0), (12, .iconst 1, 1, 1, 0, 0), (13, .ireturn, 1, 0, 0, 0), (14, .iconst 0, 1, 0, 0, 0), (15, .ireturn, 1, 0, 0, 0)]
def mL_read : aM := (yL_read, cL_read, 3, (some .int), [(0, 8, 11, 15)], kL_read)
set_option maxRecDepth 100000 in
theorem oL_read : cB mL_read mL_read.code = true := by decide +kernel
def kL_write : List aR := [(0, .aload_n 3, 1, 0, 0, 0), (1, .iconst 0, 1, 0, 0, 0), (2, .aload_n 0, 1, 0, 0, 0), (3, .iload_n 1, 1, 0, 0, 0), (4, .iload_n 2, 1, 0, 0, 0), (5, .invokevirtual 27, 3, 0, 0, 0), (8, .i2l, 1, 0, 0, 0), (9, .lastore, 1, 0, 0, 0), (10, .goto 11, 3, 0, 21, 0), (13, .astore 4, 2, 0, 0, 0), (15, .iconst 1, 1, 1, 0, 0), (16, .ireturn, 1, 0, 0, 0), (17, .astore 4, 2, 0, 0, 0), (19, .iconst 2, 1, 2, 0, 0), (20, .ireturn, 1, 0, 0, 0), (21, .iconst 0, 1, 0, 0, 0), (22, .ireturn, 1, 0, 0, 0)]
def mL_write : aM := (yL_write, cL_write, 5, (some .int), [(0, 10, 13, 13), (0, 10, 17, 15)], kL_write)
set_option maxRecDepth 100000 in
theorem oL_write : cB mL_write mL_write.code = true := by decide +kernel
def kL_say : List aR := [(0, .aload_n 3, 1, 0, 0, 0), (1, .iconst 0, 1, 0, 0, 0), (2, .aload_n 0, 1, 0, 0, 0), (3, .iload_n 1, 1, 0, 0, 0), (4, .iload_n 2, 1, 0, 0, 0), (5, .invokevirtual 30, 3, 0, 0, 0), (8, .i2l, 1, 0, 0, 0), (9, .lastore, 1, 0, 0, 0), (10, .goto 11, 3, 0, 21, 0), (13, .astore 4, 2, 0, 0, 0), (15, .iconst 1, 1, 1, 0, 0), (16, .ireturn, 1, 0, 0, 0), (17, .astore 4, 2, 0, 0, 0), (19, .iconst 2, 1, 2, 0, 0), (20, .ireturn, 1, 0, 0, 0), (21, .iconst 0, 1, 0, 0, 0), (22, .ireturn, 1, 0, 0, 0)]
def mL_say : aM := (yL_say, cL_say, 5, (some .int), [(0, 10, 13, 13), (0, 10, 17, 15)], kL_say)
set_option maxRecDepth 100000 in
theorem oL_say : cB mL_say mL_say.code = true := by decide +kernel
def kL_fail : List aR := [(0, .aload_n 3, 1, 0, 0, 0), (1, .iconst 0, 1, 0, 0, 0), (2, .aload_n 0, 1, 0, 0, 0), (3, .iload_n 1, 1, 0, 0, 0), (4, .iload_n 2, 1, 0, 0, 0), (5, .invokevirtual 33, 3, 0, 0, 0), (8, .i2l, 1, 0, 0, 0), (9, .lastore, 1, 0, 0, 0), (10, .goto 11, 3, 0, 21, 0), (13, .astore 4, 2, 0, 0, 0), (15, .iconst 1, 1, 1, 0, 0), (16, .ireturn, 1, 0, 0, 0), (17, .astore 4, 2, 0, 0, 0), (19, .iconst 2, 1, 2, 0, 0), (20, .ireturn, 1, 0, 0, 0), (21, .iconst 0, 1, 0, 0, 0), (22, .ireturn, 1, 0, 0, 0)]
def mL_fail : aM := (yL_fail, cL_fail, 5, (some .int), [(0, 10, 13, 13), (0, 10, 17, 15)], kL_fail)
set_option maxRecDepth 100000 in
theorem oL_fail : cB mL_fail mL_fail.code = true := by decide +kernel
def kL_none : List aR := [(0, .aload_n 1, 1, 0, 0, 0), (1, .iconst 0, 1, 0, 0, 0), (2, .aload_n 0, 1, 0, 0, 0), (3, .invokevirtual 36, 3, 0, 0, 0), (6, .i2l, 1, 0, 0, 0), (7, .lastore, 1, 0, 0, 0), (8, .goto 6, 3, 0, 14, 0), (11, .astore_n 2, 1, 0, 0, 0), (12, .iconst 1, 1, 1, 0, 0), (13, .ireturn, 1, 0, 0, 0), (14, .iconst 0, 1, 0, 0, 0), (15, .ireturn, 1, 0, 0, 0)]
def mL_none : aM := (yL_none, cL_none, 3, (some .int), [(0, 8, 11, 15)], kL_none)
set_option maxRecDepth 100000 in
theorem oL_none : cB mL_none mL_none.code = true := by decide +kernel
def kL_either : List aR := [(0, .aload_n 3, 1, 0, 0, 0), (1, .iconst 0, 1, 0, 0, 0), (2, .aload_n 0, 1, 0, 0, 0), (3, .iload_n 1, 1, 0, 0, 0), (4, .iload_n 2, 1, 0, 0, 0), (5, .invokevirtual 39, 3, 0, 0, 0), (8, .i2l, 1, 0, 0, 0), (9, .lastore, 1, 0, 0, 0), (10, .goto 11, 3, 0, 21, 0), (13, .astore 4, 2, 0, 0, 0), (15, .iconst 1, 1, 1, 0, 0), (16, .ireturn, 1, 0, 0, 0), (17, .astore 4, 2, 0, 0, 0), (19, .iconst 2, 1, 2, 0, 0), (20, .ireturn, 1, 0, 0, 0), (21, .iconst 0, 1, 0, 0, 0), (22, .ireturn, 1, 0, 0, 0)]
def mL_either : aM := (yL_either, cL_either, 5, (some .int), [(0, 10, 13, 13), (0, 10, 17, 15)], kL_either)
set_option maxRecDepth 100000 in
theorem oL_either : cB mL_either mL_either.code = true := by decide +kernel
def kL_then : List aR := [(0, .aload 4, 2, 0, 0, 0), (2, .iconst 0, 1, 0, 0, 0), (3, .aload_n 0, 1, 0, 0, 0), (4, .iload_n 1, 1, 0, 0, 0), (5, .iload_n 2, 1, 0, 0, 0), (6, .iload_n 3, 1, 0, 0, 0), (7, .invokevirtual 43, 3, 0, 0, 0), (10, .i2l, 1, 0, 0, 0), (11, .lastore, 1, 0, 0, 0), (12, .goto 11, 3, 0, 23, 0), (15, .astore 5, 2, 0, 0, 0), (17, .iconst 1, 1, 1, 0, 0), (18, .ireturn, 1, 0, 0, 0), (19, .astore 5, 2, 0, 0, 0), (21, .iconst 2, 1, 2, 0, 0), (22, .ireturn, 1, 0, 0, 0), (23, .iconst 0, 1, 0, 0, 0), (24, .ireturn, 1, 0, 0, 0)]
def mL_then : aM := (yL_then, cL_then, 6, (some .int), [(0, 12, 15, 13), (0, 12, 19, 15)], kL_then)
set_option maxRecDepth 100000 in
theorem oL_then : cB mL_then mL_then.code = true := by decide +kernel
def kL_saved : List aR := [(0, .aload 4, 2, 0, 0, 0), (2, .iconst 0, 1, 0, 0, 0), (3, .aload_n 0, 1, 0, 0, 0), (4, .iload_n 1, 1, 0, 0, 0), (5, .iload_n 2, 1, 0, 0, 0), (6, .iload_n 3, 1, 0, 0, 0), (7, .invokevirtual 46, 3, 0, 0, 0), (10, .i2l, 1, 0, 0, 0), (11, .lastore, 1, 0, 0, 0), (12, .goto 11, 3, 0, 23, 0), (15, .astore 5, 2, 0, 0, 0), (17, .iconst 1, 1, 1, 0, 0), (18, .ireturn, 1, 0, 0, 0), (19, .astore 5, 2, 0, 0, 0), (21, .iconst 2, 1, 2, 0, 0), (22, .ireturn, 1, 0, 0, 0), (23, .iconst 0, 1, 0, 0, 0), (24, .ireturn, 1, 0, 0, 0)]
def mL_saved : aM := (yL_saved, cL_saved, 6, (some .int), [(0, 12, 15, 13), (0, 12, 19, 15)], kL_saved)
set_option maxRecDepth 100000 in
theorem oL_saved : cB mL_saved mL_saved.code = true := by decide +kernel
def kL_when : List aR := [(0, .aload 4, 2, 0, 0, 0), (2, .iconst 0, 1, 0, 0, 0), (3, .aload_n 0, 1, 0, 0, 0), (4, .iload_n 1, 1, 0, 0, 0), (5, .iload_n 2, 1, 0, 0, 0), (6, .iload_n 3, 1, 0, 0, 0), (7, .invokevirtual 49, 3, 0, 0, 0), (10, .i2l, 1, 0, 0, 0), (11, .lastore, 1, 0, 0, 0), (12, .goto 11, 3, 0, 23, 0), (15, .astore 5, 2, 0, 0, 0), (17, .iconst 1, 1, 1, 0, 0), (18, .ireturn, 1, 0, 0, 0), (19, .astore 5, 2, 0, 0, 0), (21, .iconst 2, 1, 2, 0, 0), (22, .ireturn, 1, 0, 0, 0), (23, .iconst 0, 1, 0, 0, 0), (24, .ireturn, 1, 0, 0, 0)]
def mL_when : aM := (yL_when, cL_when, 6, (some .int), [(0, 12, 15, 13), (0, 12, 19, 15)], kL_when)
set_option maxRecDepth 100000 in
theorem oL_when : cB mL_when mL_when.code = true := by decide +kernel
def kL_times : List aR := [(0, .aload 4, 2, 0, 0, 0), (2, .iconst 0, 1, 0, 0, 0), (3, .aload_n 0, 1, 0, 0, 0), (4, .iload_n 1, 1, 0, 0, 0), (5, .iload_n 2, 1, 0, 0, 0), (6, .iload_n 3, 1, 0, 0, 0), (7, .invokevirtual 52, 3, 0, 0, 0), (10, .i2l, 1, 0, 0, 0), (11, .lastore, 1, 0, 0, 0), (12, .goto 11, 3, 0, 23, 0), (15, .astore 5, 2, 0, 0, 0), (17, .iconst 1, 1, 1, 0, 0), (18, .ireturn, 1, 0, 0, 0), (19, .astore 5, 2, 0, 0, 0), (21, .iconst 2, 1, 2, 0, 0), (22, .ireturn, 1, 0, 0, 0), (23, .iconst 0, 1, 0, 0, 0), (24, .ireturn, 1, 0, 0, 0)]
def mL_times : aM := (yL_times, cL_times, 6, (some .int), [(0, 12, 15, 13), (0, 12, 19, 15)], kL_times)
set_option maxRecDepth 100000 in
theorem oL_times : cB mL_times mL_times.code = true := by decide +kernel
def kL_as : List aR := [(0, .aload_n 3, 1, 0, 0, 0), (1, .iconst 0, 1, 0, 0, 0), (2, .aload_n 0, 1, 0, 0, 0), (3, .iload_n 1, 1, 0, 0, 0), (4, .iload_n 2, 1, 0, 0, 0), (5, .invokevirtual 56, 3, 0, 0, 0), (8, .i2l, 1, 0, 0, 0), (9, .lastore, 1, 0, 0, 0), (10, .goto 15, 3, 0, 25, 0), (13, .astore 4, 2, 0, 0, 0), (15, .iconst 1, 1, 1, 0, 0), (16, .ireturn, 1, 0, 0, 0), (17, .astore 4, 2, 0, 0, 0), (19, .iconst 2, 1, 2, 0, 0), (20, .ireturn, 1, 0, 0, 0), (21, .astore 4, 2, 0, 0, 0), (23, .iconst 3, 1, 3, 0, 0), (24, .ireturn, 1, 0, 0, 0), (25, .iconst 0, 1, 0, 0, 0), (26, .ireturn, 1, 0, 0, 0)]
def mL_as : aM := (yL_as, cL_as, 5, (some .int), [(0, 10, 13, 13), (0, 10, 17, 21), (0, 10, 21, 15)], kL_as)
set_option maxRecDepth 100000 in
theorem oL_as : cB mL_as mL_as.code = true := by decide +kernel
def kL_order : List aR := [(0, .aload 5, 2, 0, 0, 0), (2, .iconst 0, 1, 0, 0, 0), (3, .aload_n 0, 1, 0, 0, 0), (4, .iload_n 1, 1, 0, 0, 0), (5, .iload_n 2, 1, 0, 0, 0), (6, .iload_n 3, 1, 0, 0, 0), (7, .iload 4, 2, 0, 0, 0), (9, .invokevirtual 59, 3, 0, 0, 0), (12, .i2l, 1, 0, 0, 0), (13, .lastore, 1, 0, 0, 0), (14, .goto 7, 3, 0, 21, 0), (17, .astore 6, 2, 0, 0, 0), (19, .iconst 1, 1, 1, 0, 0), (20, .ireturn, 1, 0, 0, 0), (21, .iconst 0, 1, 0, 0, 0), (22, .ireturn, 1, 0, 0, 0)]
def mL_order : aM := (yL_order, cL_order, 7, (some .int), [(0, 14, 17, 21)], kL_order)
set_option maxRecDepth 100000 in
theorem oL_order : cB mL_order mL_order.code = true := by decide +kernel
def kL_needs : List aR := [(0, .aload_n 2, 1, 0, 0, 0), (1, .iconst 0, 1, 0, 0, 0), (2, .aload_n 0, 1, 0, 0, 0), (3, .iload_n 1, 1, 0, 0, 0), (4, .invokevirtual 63, 3, 0, 0, 0), (7, .i2l, 1, 0, 0, 0), (8, .lastore, 1, 0, 0, 0), (9, .goto 6, 3, 0, 15, 0), (12, .astore_n 3, 1, 0, 0, 0), (13, .iconst 1, 1, 1, 0, 0), (14, .ireturn, 1, 0, 0, 0), (15, .iconst 0, 1, 0, 0, 0), (16, .ireturn, 1, 0, 0, 0)]
def mL_needs : aM := (yL_needs, cL_needs, 4, (some .int), [(0, 9, 12, 13)], kL_needs)
set_option maxRecDepth 100000 in
theorem oL_needs : cB mL_needs mL_needs.code = true := by decide +kernel
def kL_run : List aR := [(0, .aload 4, 2, 0, 0, 0), (2, .iconst 0, 1, 0, 0, 0), (3, .aload_n 0, 1, 0, 0, 0), (4, .iload_n 1, 1, 0, 0, 0), (5, .iload_n 2, 1, 0, 0, 0), (6, .iload_n 3, 1, 0, 0, 0), (7, .invokevirtual 67, 3, 0, 0, 0), (10, .i2l, 1, 0, 0, 0), (11, .lastore, 1, 0, 0, 0), (12, .goto 15, 3, 0, 27, 0), (15, .astore 5, 2, 0, 0, 0), (17, .iconst 1, 1, 1, 0, 0), (18, .ireturn, 1, 0, 0, 0), (19, .astore 5, 2, 0, 0, 0), (21, .iconst 2, 1, 2, 0, 0), (22, .ireturn, 1, 0, 0, 0), (23, .astore 5, 2, 0, 0, 0), (25, .iconst 3, 1, 3, 0, 0), (26, .ireturn, 1, 0, 0, 0), (27, .iconst 0, 1, 0, 0, 0), (28, .ireturn, 1, 0, 0, 0)]
def mL_run : aM := (yL_run, cL_run, 6, (some .int), [(0, 12, 15, 13), (0, 12, 19, 21), (0, 12, 23, 70)], kL_run)
set_option maxRecDepth 100000 in
theorem oL_run : cB mL_run mL_run.code = true := by decide +kernel
def kL_result : List aR := [(0, .aload_n 3, 1, 0, 0, 0), (1, .iconst 0, 1, 0, 0, 0), (2, .aload_n 0, 1, 0, 0, 0), (3, .iload_n 1, 1, 0, 0, 0), (4, .iload_n 2, 1, 0, 0, 0), (5, .invokevirtual 72, 3, 0, 0, 0), (8, .i2l, 1, 0, 0, 0), (9, .lastore, 1, 0, 0, 0), (10, .goto 11, 3, 0, 21, 0), (13, .astore 4, 2, 0, 0, 0), (15, .iconst 1, 1, 1, 0, 0), (16, .ireturn, 1, 0, 0, 0), (17, .astore 4, 2, 0, 0, 0), (19, .iconst 2, 1, 2, 0, 0), (20, .ireturn, 1, 0, 0, 0), (21, .iconst 0, 1, 0, 0, 0), (22, .ireturn, 1, 0, 0, 0)]
def mL_result : aM := (yL_result, cL_result, 5, (some .int), [(0, 10, 13, 13), (0, 10, 17, 21)], kL_result)
set_option maxRecDepth 100000 in
theorem oL_result : cB mL_result mL_result.code = true := by decide +kernel
def kL_shared : List aR := [(0, .aload_n 2, 1, 0, 0, 0), (1, .iconst 0, 1, 0, 0, 0), (2, .aload_n 0, 1, 0, 0, 0), (3, .iload_n 1, 1, 0, 0, 0), (4, .invokevirtual 75, 3, 0, 0, 0), (7, .i2l, 1, 0, 0, 0), (8, .lastore, 1, 0, 0, 0), (9, .goto 9, 3, 0, 18, 0), (12, .astore_n 3, 1, 0, 0, 0), (13, .iconst 1, 1, 1, 0, 0), (14, .ireturn, 1, 0, 0, 0), (15, .astore_n 3, 1, 0, 0, 0), (16, .iconst 2, 1, 2, 0, 0), (17, .ireturn, 1, 0, 0, 0), (18, .iconst 0, 1, 0, 0, 0), (19, .ireturn, 1, 0, 0, 0)]
def mL_shared : aM := (yL_shared, cL_shared, 4, (some .int), [(0, 9, 12, 70), (0, 9, 15, 21)], kL_shared)
set_option maxRecDepth 100000 in
theorem oL_shared : cB mL_shared mL_shared.code = true := by decide +kernel
def kL_alike : List aR := [(0, .aload 5, 2, 0, 0, 0), (2, .iconst 0, 1, 0, 0, 0), (3, .aload_n 0, 1, 0, 0, 0), (4, .iload_n 1, 1, 0, 0, 0), (5, .iload_n 2, 1, 0, 0, 0), (6, .iload_n 3, 1, 0, 0, 0), (7, .iload 4, 2, 0, 0, 0), (9, .invokevirtual 78, 3, 0, 0, 0), (12, .ifCond .eq 7, 3, 0, 19, 0), (15, .lconst 1, 1, 1, 0, 0), (16, .goto 4, 3, 0, 20, 0), (19, .lconst 0, 1, 0, 0, 0), (20, .lastore, 1, 0, 0, 0), (21, .goto 15, 3, 0, 36, 0), (24, .astore 6, 2, 0, 0, 0), (26, .iconst 1, 1, 1, 0, 0), (27, .ireturn, 1, 0, 0, 0), (28, .astore 6, 2, 0, 0, 0), (30, .iconst 2, 1, 2, 0, 0), (31, .ireturn, 1, 0, 0, 0), (32, .astore 6, 2, 0, 0, 0), (34, .iconst 3, 1, 3, 0, 0), (35, .ireturn, 1, 0, 0, 0), (36, .iconst 0, 1, 0, 0, 0), (37, .ireturn, 1, 0, 0, 0)]
def mL_alike : aM := (yL_alike, cL_alike, 7, (some .int), [(0, 21, 24, 13), (0, 21, 28, 21), (0, 21, 32, 70)], kL_alike)
set_option maxRecDepth 100000 in
theorem oL_alike : cB mL_alike mL_alike.code = true := by decide +kernel
end
section
theorem cB_app {M : aM} {r : aR} : ∀ (a b : List aR), cB M (a ++ [r]) = true → cB M (r :: b) = true → cB M (a ++ r :: b) = true := by
  intro a
  induction a with
  | nil => intro b _ h; exact h
  | cons x l ih =>
    intro b h1 h2
    simp only [List.cons_append] at h1 ⊢
    unfold cB at h1 ⊢
    simp only [Bool.and_eq_true] at h1 ⊢
    refine ⟨h1.1, ?_, ih b h1.2.2 h2⟩
    cases l with
    | nil => exact h1.2.1
    | cons y l' => exact h1.2.1
def eL0 : aR := (0, .new 8, 3, 0, 0, 0)
def kL0 : List aR := [(3, .dup, 1, 0, 0, 0), (4, .invokespecial 82, 3, 0, 0, 0), (7, .astore_n 1, 1, 0, 0, 0), (8, .new 83, 3, 0, 0, 0), (11, .dup, 1, 0, 0, 0), (12, .invokespecial 85, 3, 0, 0, 0), (15, .astore_n 2, 1, 0, 0, 0), (16, .iconst 1, 1, 1, 0, 0), (17, .newarray .long, 2, 0, 0, 0), (19, .astore_n 3, 1, 0, 0, 0), (20, .iconst 0, 1, 0, 0, 0), (21, .istore 4, 2, 0, 0, 0), (23, .iload 4, 2, 0, 0, 0), (25, .aload_n 0, 1, 0, 0, 0), (26, .arraylength, 1, 0, 0, 0), (27, .iconst 5, 1, 5, 0, 0), (28, .isub, 1, 0, 0, 0), (29, .if_icmp .gt 1549, 3, 0, 1578, 0), (32, .aload_n 0, 1, 0, 0, 0), (33, .iload 4, 2, 0, 0, 0), (35, .iaload, 1, 0, 0, 0), (36, .bipush 31, 2, 31, 0, 0), (38, .iand, 1, 0, 0, 0), (39, .tableswitch 1533 0 19 #[93, 177, 257, 301, 385, 469, 553, 597, 665, 745, 825, 905, 1001, 1069, 1161, 1217, 1297, 1365, 1421, 1520], 93, 0, 0, 0), (132, .aload_n 1, 1, 0, 0, 0), (133, .aload_n 0, 1, 0, 0, 0), (134, .iload 4, 2, 0, 0, 0), (136, .iconst 1, 1, 1, 0, 0), (137, .iadd, 1, 0, 0, 0)]
def eL1 : aR := (138, .iaload, 1, 0, 0, 0)
def kL1 : List aR := [(139, .ifCond .eq 7, 3, 0, 146, 0), (142, .iconst 1, 1, 1, 0, 0), (143, .goto 4, 3, 0, 147, 0), (146, .iconst 0, 1, 0, 0, 0), (147, .aload_n 0, 1, 0, 0, 0), (148, .iload 4, 2, 0, 0, 0), (150, .iconst 2, 1, 2, 0, 0), (151, .iadd, 1, 0, 0, 0), (152, .iaload, 1, 0, 0, 0), (153, .aload_n 3, 1, 0, 0, 0), (154, .invokestatic 86, 3, 0, 0, 0), (157, .istore 5, 2, 0, 0, 0), (159, .aload_n 2, 1, 0, 0, 0), (160, .aload_n 0, 1, 0, 0, 0), (161, .iload 4, 2, 0, 0, 0), (163, .iconst 1, 1, 1, 0, 0), (164, .iadd, 1, 0, 0, 0), (165, .iaload, 1, 0, 0, 0), (166, .ifCond .eq 7, 3, 0, 173, 0), (169, .iconst 1, 1, 1, 0, 0), (170, .goto 4, 3, 0, 174, 0), (173, .iconst 0, 1, 0, 0, 0), (174, .aload_n 0, 1, 0, 0, 0), (175, .iload 4, 2, 0, 0, 0), (177, .iconst 2, 1, 2, 0, 0), (178, .iadd, 1, 0, 0, 0), (179, .iaload, 1, 0, 0, 0), (180, .invokevirtual 91, 3, 0, 0, 0), (183, .istore 6, 2, 0, 0, 0)]
def eL2 : aR := (185, .aload_n 2, 1, 0, 0, 0)
def kL2 : List aR := [(186, .invokevirtual 92, 3, 0, 0, 0), (189, .iload 5, 2, 0, 0, 0), (191, .if_icmp .eq 5, 3, 0, 196, 0), (194, .iconst 0, 1, 0, 0, 0), (195, .ireturn, 1, 0, 0, 0), (196, .iload 5, 2, 0, 0, 0), (198, .ifCond .ne 15, 3, 0, 213, 0), (201, .aload_n 3, 1, 0, 0, 0), (202, .iconst 0, 1, 0, 0, 0), (203, .laload, 1, 0, 0, 0), (204, .iload 6, 2, 0, 0, 0), (206, .i2l, 1, 0, 0, 0), (207, .lcmp, 1, 0, 0, 0), (208, .ifCond .eq 5, 3, 0, 213, 0), (211, .iconst 0, 1, 0, 0, 0), (212, .ireturn, 1, 0, 0, 0), (213, .goto 1359, 3, 0, 1572, 0), (216, .aload_n 1, 1, 0, 0, 0), (217, .aload_n 0, 1, 0, 0, 0), (218, .iload 4, 2, 0, 0, 0), (220, .iconst 1, 1, 1, 0, 0), (221, .iadd, 1, 0, 0, 0), (222, .iaload, 1, 0, 0, 0), (223, .aload_n 0, 1, 0, 0, 0), (224, .iload 4, 2, 0, 0, 0), (226, .iconst 2, 1, 2, 0, 0), (227, .iadd, 1, 0, 0, 0), (228, .iaload, 1, 0, 0, 0), (229, .aload_n 0, 1, 0, 0, 0)]
def eL3 : aR := (230, .iload 4, 2, 0, 0, 0)
def kL3 : List aR := [(232, .iconst 3, 1, 3, 0, 0), (233, .iadd, 1, 0, 0, 0), (234, .iaload, 1, 0, 0, 0), (235, .aload_n 3, 1, 0, 0, 0), (236, .invokestatic 95, 3, 0, 0, 0), (239, .istore 5, 2, 0, 0, 0), (241, .aload_n 2, 1, 0, 0, 0), (242, .aload_n 0, 1, 0, 0, 0), (243, .iload 4, 2, 0, 0, 0), (245, .iconst 1, 1, 1, 0, 0), (246, .iadd, 1, 0, 0, 0), (247, .iaload, 1, 0, 0, 0), (248, .aload_n 0, 1, 0, 0, 0), (249, .iload 4, 2, 0, 0, 0), (251, .iconst 2, 1, 2, 0, 0), (252, .iadd, 1, 0, 0, 0), (253, .iaload, 1, 0, 0, 0), (254, .aload_n 0, 1, 0, 0, 0), (255, .iload 4, 2, 0, 0, 0), (257, .iconst 3, 1, 3, 0, 0), (258, .iadd, 1, 0, 0, 0), (259, .iaload, 1, 0, 0, 0), (260, .invokevirtual 98, 3, 0, 0, 0), (263, .istore 6, 2, 0, 0, 0), (265, .aload_n 2, 1, 0, 0, 0), (266, .invokevirtual 92, 3, 0, 0, 0), (269, .iload 5, 2, 0, 0, 0), (271, .if_icmp .eq 5, 3, 0, 276, 0), (274, .iconst 0, 1, 0, 0, 0)]
def eL4 : aR := (275, .ireturn, 1, 0, 0, 0)
def kL4 : List aR := [(276, .iload 5, 2, 0, 0, 0), (278, .ifCond .ne 15, 3, 0, 293, 0), (281, .aload_n 3, 1, 0, 0, 0), (282, .iconst 0, 1, 0, 0, 0), (283, .laload, 1, 0, 0, 0), (284, .iload 6, 2, 0, 0, 0), (286, .i2l, 1, 0, 0, 0), (287, .lcmp, 1, 0, 0, 0), (288, .ifCond .eq 5, 3, 0, 293, 0), (291, .iconst 0, 1, 0, 0, 0), (292, .ireturn, 1, 0, 0, 0), (293, .goto 1279, 3, 0, 1572, 0), (296, .aload_n 1, 1, 0, 0, 0), (297, .aload_n 3, 1, 0, 0, 0), (298, .invokestatic 99, 3, 0, 0, 0), (301, .istore 5, 2, 0, 0, 0), (303, .aload_n 2, 1, 0, 0, 0), (304, .invokevirtual 102, 3, 0, 0, 0), (307, .istore 6, 2, 0, 0, 0), (309, .aload_n 2, 1, 0, 0, 0), (310, .invokevirtual 92, 3, 0, 0, 0), (313, .iload 5, 2, 0, 0, 0), (315, .if_icmp .eq 5, 3, 0, 320, 0), (318, .iconst 0, 1, 0, 0, 0), (319, .ireturn, 1, 0, 0, 0), (320, .iload 5, 2, 0, 0, 0), (322, .ifCond .ne 15, 3, 0, 337, 0), (325, .aload_n 3, 1, 0, 0, 0), (326, .iconst 0, 1, 0, 0, 0)]
def eL5 : aR := (327, .laload, 1, 0, 0, 0)
def kL5 : List aR := [(328, .iload 6, 2, 0, 0, 0), (330, .i2l, 1, 0, 0, 0), (331, .lcmp, 1, 0, 0, 0), (332, .ifCond .eq 5, 3, 0, 337, 0), (335, .iconst 0, 1, 0, 0, 0), (336, .ireturn, 1, 0, 0, 0), (337, .goto 1235, 3, 0, 1572, 0), (340, .aload_n 1, 1, 0, 0, 0), (341, .aload_n 0, 1, 0, 0, 0), (342, .iload 4, 2, 0, 0, 0), (344, .iconst 1, 1, 1, 0, 0), (345, .iadd, 1, 0, 0, 0), (346, .iaload, 1, 0, 0, 0), (347, .ifCond .eq 7, 3, 0, 354, 0), (350, .iconst 1, 1, 1, 0, 0), (351, .goto 4, 3, 0, 355, 0), (354, .iconst 0, 1, 0, 0, 0), (355, .aload_n 0, 1, 0, 0, 0), (356, .iload 4, 2, 0, 0, 0), (358, .iconst 2, 1, 2, 0, 0), (359, .iadd, 1, 0, 0, 0), (360, .iaload, 1, 0, 0, 0), (361, .aload_n 3, 1, 0, 0, 0), (362, .invokestatic 103, 3, 0, 0, 0), (365, .istore 5, 2, 0, 0, 0), (367, .aload_n 2, 1, 0, 0, 0), (368, .aload_n 0, 1, 0, 0, 0), (369, .iload 4, 2, 0, 0, 0), (371, .iconst 1, 1, 1, 0, 0)]
def eL6 : aR := (372, .iadd, 1, 0, 0, 0)
def kL6 : List aR := [(373, .iaload, 1, 0, 0, 0), (374, .ifCond .eq 7, 3, 0, 381, 0), (377, .iconst 1, 1, 1, 0, 0), (378, .goto 4, 3, 0, 382, 0), (381, .iconst 0, 1, 0, 0, 0), (382, .aload_n 0, 1, 0, 0, 0), (383, .iload 4, 2, 0, 0, 0), (385, .iconst 2, 1, 2, 0, 0), (386, .iadd, 1, 0, 0, 0), (387, .iaload, 1, 0, 0, 0), (388, .invokevirtual 105, 3, 0, 0, 0), (391, .istore 6, 2, 0, 0, 0), (393, .aload_n 2, 1, 0, 0, 0), (394, .invokevirtual 92, 3, 0, 0, 0), (397, .iload 5, 2, 0, 0, 0), (399, .if_icmp .eq 5, 3, 0, 404, 0), (402, .iconst 0, 1, 0, 0, 0), (403, .ireturn, 1, 0, 0, 0), (404, .iload 5, 2, 0, 0, 0), (406, .ifCond .ne 15, 3, 0, 421, 0), (409, .aload_n 3, 1, 0, 0, 0), (410, .iconst 0, 1, 0, 0, 0), (411, .laload, 1, 0, 0, 0), (412, .iload 6, 2, 0, 0, 0), (414, .i2l, 1, 0, 0, 0), (415, .lcmp, 1, 0, 0, 0), (416, .ifCond .eq 5, 3, 0, 421, 0), (419, .iconst 0, 1, 0, 0, 0), (420, .ireturn, 1, 0, 0, 0)]
def eL7 : aR := (421, .goto 1151, 3, 0, 1572, 0)
def kL7 : List aR := [(424, .aload_n 1, 1, 0, 0, 0), (425, .aload_n 0, 1, 0, 0, 0), (426, .iload 4, 2, 0, 0, 0), (428, .iconst 1, 1, 1, 0, 0), (429, .iadd, 1, 0, 0, 0), (430, .iaload, 1, 0, 0, 0), (431, .ifCond .eq 7, 3, 0, 438, 0), (434, .iconst 1, 1, 1, 0, 0), (435, .goto 4, 3, 0, 439, 0), (438, .iconst 0, 1, 0, 0, 0), (439, .aload_n 0, 1, 0, 0, 0), (440, .iload 4, 2, 0, 0, 0), (442, .iconst 2, 1, 2, 0, 0), (443, .iadd, 1, 0, 0, 0), (444, .iaload, 1, 0, 0, 0), (445, .aload_n 3, 1, 0, 0, 0), (446, .invokestatic 106, 3, 0, 0, 0), (449, .istore 5, 2, 0, 0, 0), (451, .aload_n 2, 1, 0, 0, 0), (452, .aload_n 0, 1, 0, 0, 0), (453, .iload 4, 2, 0, 0, 0), (455, .iconst 1, 1, 1, 0, 0), (456, .iadd, 1, 0, 0, 0), (457, .iaload, 1, 0, 0, 0), (458, .ifCond .eq 7, 3, 0, 465, 0), (461, .iconst 1, 1, 1, 0, 0), (462, .goto 4, 3, 0, 466, 0), (465, .iconst 0, 1, 0, 0, 0), (466, .aload_n 0, 1, 0, 0, 0)]
def eL8 : aR := (467, .iload 4, 2, 0, 0, 0)
def kL8 : List aR := [(469, .iconst 2, 1, 2, 0, 0), (470, .iadd, 1, 0, 0, 0), (471, .iaload, 1, 0, 0, 0), (472, .invokevirtual 108, 3, 0, 0, 0), (475, .istore 6, 2, 0, 0, 0), (477, .aload_n 2, 1, 0, 0, 0), (478, .invokevirtual 92, 3, 0, 0, 0), (481, .iload 5, 2, 0, 0, 0), (483, .if_icmp .eq 5, 3, 0, 488, 0), (486, .iconst 0, 1, 0, 0, 0), (487, .ireturn, 1, 0, 0, 0), (488, .iload 5, 2, 0, 0, 0), (490, .ifCond .ne 15, 3, 0, 505, 0), (493, .aload_n 3, 1, 0, 0, 0), (494, .iconst 0, 1, 0, 0, 0), (495, .laload, 1, 0, 0, 0), (496, .iload 6, 2, 0, 0, 0), (498, .i2l, 1, 0, 0, 0), (499, .lcmp, 1, 0, 0, 0), (500, .ifCond .eq 5, 3, 0, 505, 0), (503, .iconst 0, 1, 0, 0, 0), (504, .ireturn, 1, 0, 0, 0), (505, .goto 1067, 3, 0, 1572, 0), (508, .aload_n 1, 1, 0, 0, 0), (509, .aload_n 0, 1, 0, 0, 0), (510, .iload 4, 2, 0, 0, 0), (512, .iconst 1, 1, 1, 0, 0), (513, .iadd, 1, 0, 0, 0), (514, .iaload, 1, 0, 0, 0)]
def eL9 : aR := (515, .ifCond .eq 7, 3, 0, 522, 0)
def kL9 : List aR := [(518, .iconst 1, 1, 1, 0, 0), (519, .goto 4, 3, 0, 523, 0), (522, .iconst 0, 1, 0, 0, 0), (523, .aload_n 0, 1, 0, 0, 0), (524, .iload 4, 2, 0, 0, 0), (526, .iconst 2, 1, 2, 0, 0), (527, .iadd, 1, 0, 0, 0), (528, .iaload, 1, 0, 0, 0), (529, .aload_n 3, 1, 0, 0, 0), (530, .invokestatic 109, 3, 0, 0, 0), (533, .istore 5, 2, 0, 0, 0), (535, .aload_n 2, 1, 0, 0, 0), (536, .aload_n 0, 1, 0, 0, 0), (537, .iload 4, 2, 0, 0, 0), (539, .iconst 1, 1, 1, 0, 0), (540, .iadd, 1, 0, 0, 0), (541, .iaload, 1, 0, 0, 0), (542, .ifCond .eq 7, 3, 0, 549, 0), (545, .iconst 1, 1, 1, 0, 0), (546, .goto 4, 3, 0, 550, 0), (549, .iconst 0, 1, 0, 0, 0), (550, .aload_n 0, 1, 0, 0, 0), (551, .iload 4, 2, 0, 0, 0), (553, .iconst 2, 1, 2, 0, 0), (554, .iadd, 1, 0, 0, 0), (555, .iaload, 1, 0, 0, 0), (556, .invokevirtual 111, 3, 0, 0, 0), (559, .istore 6, 2, 0, 0, 0), (561, .aload_n 2, 1, 0, 0, 0)]
def eL10 : aR := (562, .invokevirtual 92, 3, 0, 0, 0)
def kL10 : List aR := [(565, .iload 5, 2, 0, 0, 0), (567, .if_icmp .eq 5, 3, 0, 572, 0), (570, .iconst 0, 1, 0, 0, 0), (571, .ireturn, 1, 0, 0, 0), (572, .iload 5, 2, 0, 0, 0), (574, .ifCond .ne 15, 3, 0, 589, 0), (577, .aload_n 3, 1, 0, 0, 0), (578, .iconst 0, 1, 0, 0, 0), (579, .laload, 1, 0, 0, 0), (580, .iload 6, 2, 0, 0, 0), (582, .i2l, 1, 0, 0, 0), (583, .lcmp, 1, 0, 0, 0), (584, .ifCond .eq 5, 3, 0, 589, 0), (587, .iconst 0, 1, 0, 0, 0), (588, .ireturn, 1, 0, 0, 0), (589, .goto 983, 3, 0, 1572, 0), (592, .aload_n 1, 1, 0, 0, 0), (593, .aload_n 3, 1, 0, 0, 0), (594, .invokestatic 112, 3, 0, 0, 0), (597, .istore 5, 2, 0, 0, 0), (599, .aload_n 2, 1, 0, 0, 0), (600, .invokevirtual 114, 3, 0, 0, 0), (603, .istore 6, 2, 0, 0, 0), (605, .aload_n 2, 1, 0, 0, 0), (606, .invokevirtual 92, 3, 0, 0, 0), (609, .iload 5, 2, 0, 0, 0), (611, .if_icmp .eq 5, 3, 0, 616, 0), (614, .iconst 0, 1, 0, 0, 0), (615, .ireturn, 1, 0, 0, 0)]
def eL11 : aR := (616, .iload 5, 2, 0, 0, 0)
def kL11 : List aR := [(618, .ifCond .ne 15, 3, 0, 633, 0), (621, .aload_n 3, 1, 0, 0, 0), (622, .iconst 0, 1, 0, 0, 0), (623, .laload, 1, 0, 0, 0), (624, .iload 6, 2, 0, 0, 0), (626, .i2l, 1, 0, 0, 0), (627, .lcmp, 1, 0, 0, 0), (628, .ifCond .eq 5, 3, 0, 633, 0), (631, .iconst 0, 1, 0, 0, 0), (632, .ireturn, 1, 0, 0, 0), (633, .goto 939, 3, 0, 1572, 0), (636, .aload_n 1, 1, 0, 0, 0), (637, .aload_n 0, 1, 0, 0, 0), (638, .iload 4, 2, 0, 0, 0), (640, .iconst 1, 1, 1, 0, 0), (641, .iadd, 1, 0, 0, 0), (642, .iaload, 1, 0, 0, 0), (643, .aload_n 0, 1, 0, 0, 0), (644, .iload 4, 2, 0, 0, 0), (646, .iconst 2, 1, 2, 0, 0), (647, .iadd, 1, 0, 0, 0), (648, .iaload, 1, 0, 0, 0), (649, .aload_n 3, 1, 0, 0, 0), (650, .invokestatic 115, 3, 0, 0, 0), (653, .istore 5, 2, 0, 0, 0), (655, .aload_n 2, 1, 0, 0, 0), (656, .aload_n 0, 1, 0, 0, 0), (657, .iload 4, 2, 0, 0, 0), (659, .iconst 1, 1, 1, 0, 0)]
def eL12 : aR := (660, .iadd, 1, 0, 0, 0)
def kL12 : List aR := [(661, .iaload, 1, 0, 0, 0), (662, .aload_n 0, 1, 0, 0, 0), (663, .iload 4, 2, 0, 0, 0), (665, .iconst 2, 1, 2, 0, 0), (666, .iadd, 1, 0, 0, 0), (667, .iaload, 1, 0, 0, 0), (668, .invokevirtual 118, 3, 0, 0, 0), (671, .istore 6, 2, 0, 0, 0), (673, .aload_n 2, 1, 0, 0, 0), (674, .invokevirtual 92, 3, 0, 0, 0), (677, .iload 5, 2, 0, 0, 0), (679, .if_icmp .eq 5, 3, 0, 684, 0), (682, .iconst 0, 1, 0, 0, 0), (683, .ireturn, 1, 0, 0, 0), (684, .iload 5, 2, 0, 0, 0), (686, .ifCond .ne 15, 3, 0, 701, 0), (689, .aload_n 3, 1, 0, 0, 0), (690, .iconst 0, 1, 0, 0, 0), (691, .laload, 1, 0, 0, 0), (692, .iload 6, 2, 0, 0, 0), (694, .i2l, 1, 0, 0, 0), (695, .lcmp, 1, 0, 0, 0), (696, .ifCond .eq 5, 3, 0, 701, 0), (699, .iconst 0, 1, 0, 0, 0), (700, .ireturn, 1, 0, 0, 0), (701, .goto 871, 3, 0, 1572, 0), (704, .aload_n 1, 1, 0, 0, 0), (705, .aload_n 0, 1, 0, 0, 0), (706, .iload 4, 2, 0, 0, 0)]
def eL13 : aR := (708, .iconst 1, 1, 1, 0, 0)
def kL13 : List aR := [(709, .iadd, 1, 0, 0, 0), (710, .iaload, 1, 0, 0, 0), (711, .aload_n 0, 1, 0, 0, 0), (712, .iload 4, 2, 0, 0, 0), (714, .iconst 2, 1, 2, 0, 0), (715, .iadd, 1, 0, 0, 0), (716, .iaload, 1, 0, 0, 0), (717, .aload_n 0, 1, 0, 0, 0), (718, .iload 4, 2, 0, 0, 0), (720, .iconst 3, 1, 3, 0, 0), (721, .iadd, 1, 0, 0, 0), (722, .iaload, 1, 0, 0, 0), (723, .aload_n 3, 1, 0, 0, 0), (724, .invokestatic 119, 3, 0, 0, 0), (727, .istore 5, 2, 0, 0, 0), (729, .aload_n 2, 1, 0, 0, 0), (730, .aload_n 0, 1, 0, 0, 0), (731, .iload 4, 2, 0, 0, 0), (733, .iconst 1, 1, 1, 0, 0), (734, .iadd, 1, 0, 0, 0), (735, .iaload, 1, 0, 0, 0), (736, .aload_n 0, 1, 0, 0, 0), (737, .iload 4, 2, 0, 0, 0), (739, .iconst 2, 1, 2, 0, 0), (740, .iadd, 1, 0, 0, 0), (741, .iaload, 1, 0, 0, 0), (742, .aload_n 0, 1, 0, 0, 0), (743, .iload 4, 2, 0, 0, 0), (745, .iconst 3, 1, 3, 0, 0)]
def eL14 : aR := (746, .iadd, 1, 0, 0, 0)
def kL14 : List aR := [(747, .iaload, 1, 0, 0, 0), (748, .invokevirtual 121, 3, 0, 0, 0), (751, .istore 6, 2, 0, 0, 0), (753, .aload_n 2, 1, 0, 0, 0), (754, .invokevirtual 92, 3, 0, 0, 0), (757, .iload 5, 2, 0, 0, 0), (759, .if_icmp .eq 5, 3, 0, 764, 0), (762, .iconst 0, 1, 0, 0, 0), (763, .ireturn, 1, 0, 0, 0), (764, .iload 5, 2, 0, 0, 0), (766, .ifCond .ne 15, 3, 0, 781, 0), (769, .aload_n 3, 1, 0, 0, 0), (770, .iconst 0, 1, 0, 0, 0), (771, .laload, 1, 0, 0, 0), (772, .iload 6, 2, 0, 0, 0), (774, .i2l, 1, 0, 0, 0), (775, .lcmp, 1, 0, 0, 0), (776, .ifCond .eq 5, 3, 0, 781, 0), (779, .iconst 0, 1, 0, 0, 0), (780, .ireturn, 1, 0, 0, 0), (781, .goto 791, 3, 0, 1572, 0), (784, .aload_n 1, 1, 0, 0, 0), (785, .aload_n 0, 1, 0, 0, 0), (786, .iload 4, 2, 0, 0, 0), (788, .iconst 1, 1, 1, 0, 0), (789, .iadd, 1, 0, 0, 0), (790, .iaload, 1, 0, 0, 0), (791, .aload_n 0, 1, 0, 0, 0), (792, .iload 4, 2, 0, 0, 0)]
def eL15 : aR := (794, .iconst 2, 1, 2, 0, 0)
def kL15 : List aR := [(795, .iadd, 1, 0, 0, 0), (796, .iaload, 1, 0, 0, 0), (797, .aload_n 0, 1, 0, 0, 0), (798, .iload 4, 2, 0, 0, 0), (800, .iconst 3, 1, 3, 0, 0), (801, .iadd, 1, 0, 0, 0), (802, .iaload, 1, 0, 0, 0), (803, .aload_n 3, 1, 0, 0, 0), (804, .invokestatic 122, 3, 0, 0, 0), (807, .istore 5, 2, 0, 0, 0), (809, .aload_n 2, 1, 0, 0, 0), (810, .aload_n 0, 1, 0, 0, 0), (811, .iload 4, 2, 0, 0, 0), (813, .iconst 1, 1, 1, 0, 0), (814, .iadd, 1, 0, 0, 0), (815, .iaload, 1, 0, 0, 0), (816, .aload_n 0, 1, 0, 0, 0), (817, .iload 4, 2, 0, 0, 0), (819, .iconst 2, 1, 2, 0, 0), (820, .iadd, 1, 0, 0, 0), (821, .iaload, 1, 0, 0, 0), (822, .aload_n 0, 1, 0, 0, 0), (823, .iload 4, 2, 0, 0, 0), (825, .iconst 3, 1, 3, 0, 0), (826, .iadd, 1, 0, 0, 0), (827, .iaload, 1, 0, 0, 0), (828, .invokevirtual 124, 3, 0, 0, 0), (831, .istore 6, 2, 0, 0, 0), (833, .aload_n 2, 1, 0, 0, 0)]
def eL16 : aR := (834, .invokevirtual 92, 3, 0, 0, 0)
def kL16 : List aR := [(837, .iload 5, 2, 0, 0, 0), (839, .if_icmp .eq 5, 3, 0, 844, 0), (842, .iconst 0, 1, 0, 0, 0), (843, .ireturn, 1, 0, 0, 0), (844, .iload 5, 2, 0, 0, 0), (846, .ifCond .ne 15, 3, 0, 861, 0), (849, .aload_n 3, 1, 0, 0, 0), (850, .iconst 0, 1, 0, 0, 0), (851, .laload, 1, 0, 0, 0), (852, .iload 6, 2, 0, 0, 0), (854, .i2l, 1, 0, 0, 0), (855, .lcmp, 1, 0, 0, 0), (856, .ifCond .eq 5, 3, 0, 861, 0), (859, .iconst 0, 1, 0, 0, 0), (860, .ireturn, 1, 0, 0, 0), (861, .goto 711, 3, 0, 1572, 0), (864, .aload_n 1, 1, 0, 0, 0), (865, .aload_n 0, 1, 0, 0, 0), (866, .iload 4, 2, 0, 0, 0), (868, .iconst 1, 1, 1, 0, 0), (869, .iadd, 1, 0, 0, 0), (870, .iaload, 1, 0, 0, 0), (871, .aload_n 0, 1, 0, 0, 0), (872, .iload 4, 2, 0, 0, 0), (874, .iconst 2, 1, 2, 0, 0), (875, .iadd, 1, 0, 0, 0), (876, .iaload, 1, 0, 0, 0), (877, .aload_n 0, 1, 0, 0, 0), (878, .iload 4, 2, 0, 0, 0)]
def eL17 : aR := (880, .iconst 3, 1, 3, 0, 0)
def kL17 : List aR := [(881, .iadd, 1, 0, 0, 0), (882, .iaload, 1, 0, 0, 0), (883, .aload_n 3, 1, 0, 0, 0), (884, .invokestatic 125, 3, 0, 0, 0), (887, .istore 5, 2, 0, 0, 0), (889, .aload_n 2, 1, 0, 0, 0), (890, .aload_n 0, 1, 0, 0, 0), (891, .iload 4, 2, 0, 0, 0), (893, .iconst 1, 1, 1, 0, 0), (894, .iadd, 1, 0, 0, 0), (895, .iaload, 1, 0, 0, 0), (896, .aload_n 0, 1, 0, 0, 0), (897, .iload 4, 2, 0, 0, 0), (899, .iconst 2, 1, 2, 0, 0), (900, .iadd, 1, 0, 0, 0), (901, .iaload, 1, 0, 0, 0), (902, .aload_n 0, 1, 0, 0, 0), (903, .iload 4, 2, 0, 0, 0), (905, .iconst 3, 1, 3, 0, 0), (906, .iadd, 1, 0, 0, 0), (907, .iaload, 1, 0, 0, 0), (908, .invokevirtual 127, 3, 0, 0, 0), (911, .istore 6, 2, 0, 0, 0), (913, .aload_n 2, 1, 0, 0, 0), (914, .invokevirtual 92, 3, 0, 0, 0), (917, .iload 5, 2, 0, 0, 0), (919, .if_icmp .eq 5, 3, 0, 924, 0), (922, .iconst 0, 1, 0, 0, 0), (923, .ireturn, 1, 0, 0, 0)]
def eL18 : aR := (924, .iload 5, 2, 0, 0, 0)
def kL18 : List aR := [(926, .ifCond .ne 15, 3, 0, 941, 0), (929, .aload_n 3, 1, 0, 0, 0), (930, .iconst 0, 1, 0, 0, 0), (931, .laload, 1, 0, 0, 0), (932, .iload 6, 2, 0, 0, 0), (934, .i2l, 1, 0, 0, 0), (935, .lcmp, 1, 0, 0, 0), (936, .ifCond .eq 5, 3, 0, 941, 0), (939, .iconst 0, 1, 0, 0, 0), (940, .ireturn, 1, 0, 0, 0), (941, .goto 631, 3, 0, 1572, 0), (944, .aload_n 1, 1, 0, 0, 0), (945, .aload_n 0, 1, 0, 0, 0), (946, .iload 4, 2, 0, 0, 0), (948, .iconst 1, 1, 1, 0, 0), (949, .iadd, 1, 0, 0, 0), (950, .iaload, 1, 0, 0, 0), (951, .ifCond .eq 7, 3, 0, 958, 0), (954, .iconst 1, 1, 1, 0, 0), (955, .goto 4, 3, 0, 959, 0), (958, .iconst 0, 1, 0, 0, 0), (959, .aload_n 0, 1, 0, 0, 0), (960, .iload 4, 2, 0, 0, 0), (962, .iconst 2, 1, 2, 0, 0), (963, .iadd, 1, 0, 0, 0), (964, .iaload, 1, 0, 0, 0), (965, .aload_n 0, 1, 0, 0, 0), (966, .iload 4, 2, 0, 0, 0), (968, .iconst 3, 1, 3, 0, 0)]
def eL19 : aR := (969, .iadd, 1, 0, 0, 0)
def kL19 : List aR := [(970, .iaload, 1, 0, 0, 0), (971, .aload_n 3, 1, 0, 0, 0), (972, .invokestatic 128, 3, 0, 0, 0), (975, .istore 5, 2, 0, 0, 0), (977, .aload_n 2, 1, 0, 0, 0), (978, .aload_n 0, 1, 0, 0, 0), (979, .iload 4, 2, 0, 0, 0), (981, .iconst 1, 1, 1, 0, 0), (982, .iadd, 1, 0, 0, 0), (983, .iaload, 1, 0, 0, 0), (984, .ifCond .eq 7, 3, 0, 991, 0), (987, .iconst 1, 1, 1, 0, 0), (988, .goto 4, 3, 0, 992, 0), (991, .iconst 0, 1, 0, 0, 0), (992, .aload_n 0, 1, 0, 0, 0), (993, .iload 4, 2, 0, 0, 0), (995, .iconst 2, 1, 2, 0, 0), (996, .iadd, 1, 0, 0, 0), (997, .iaload, 1, 0, 0, 0), (998, .aload_n 0, 1, 0, 0, 0), (999, .iload 4, 2, 0, 0, 0), (1001, .iconst 3, 1, 3, 0, 0), (1002, .iadd, 1, 0, 0, 0), (1003, .iaload, 1, 0, 0, 0), (1004, .invokevirtual 131, 3, 0, 0, 0), (1007, .istore 6, 2, 0, 0, 0), (1009, .aload_n 2, 1, 0, 0, 0), (1010, .invokevirtual 92, 3, 0, 0, 0), (1013, .iload 5, 2, 0, 0, 0)]
def eL20 : aR := (1015, .if_icmp .eq 5, 3, 0, 1020, 0)
def kL20 : List aR := [(1018, .iconst 0, 1, 0, 0, 0), (1019, .ireturn, 1, 0, 0, 0), (1020, .iload 5, 2, 0, 0, 0), (1022, .ifCond .ne 15, 3, 0, 1037, 0), (1025, .aload_n 3, 1, 0, 0, 0), (1026, .iconst 0, 1, 0, 0, 0), (1027, .laload, 1, 0, 0, 0), (1028, .iload 6, 2, 0, 0, 0), (1030, .i2l, 1, 0, 0, 0), (1031, .lcmp, 1, 0, 0, 0), (1032, .ifCond .eq 5, 3, 0, 1037, 0), (1035, .iconst 0, 1, 0, 0, 0), (1036, .ireturn, 1, 0, 0, 0), (1037, .goto 535, 3, 0, 1572, 0), (1040, .aload_n 1, 1, 0, 0, 0), (1041, .aload_n 0, 1, 0, 0, 0), (1042, .iload 4, 2, 0, 0, 0), (1044, .iconst 1, 1, 1, 0, 0), (1045, .iadd, 1, 0, 0, 0), (1046, .iaload, 1, 0, 0, 0), (1047, .aload_n 0, 1, 0, 0, 0), (1048, .iload 4, 2, 0, 0, 0), (1050, .iconst 2, 1, 2, 0, 0), (1051, .iadd, 1, 0, 0, 0), (1052, .iaload, 1, 0, 0, 0), (1053, .aload_n 3, 1, 0, 0, 0), (1054, .invokestatic 132, 3, 0, 0, 0), (1057, .istore 5, 2, 0, 0, 0), (1059, .aload_n 2, 1, 0, 0, 0)]
def eL21 : aR := (1060, .aload_n 0, 1, 0, 0, 0)
def kL21 : List aR := [(1061, .iload 4, 2, 0, 0, 0), (1063, .iconst 1, 1, 1, 0, 0), (1064, .iadd, 1, 0, 0, 0), (1065, .iaload, 1, 0, 0, 0), (1066, .aload_n 0, 1, 0, 0, 0), (1067, .iload 4, 2, 0, 0, 0), (1069, .iconst 2, 1, 2, 0, 0), (1070, .iadd, 1, 0, 0, 0), (1071, .iaload, 1, 0, 0, 0), (1072, .invokevirtual 134, 3, 0, 0, 0), (1075, .istore 6, 2, 0, 0, 0), (1077, .aload_n 2, 1, 0, 0, 0), (1078, .invokevirtual 92, 3, 0, 0, 0), (1081, .iload 5, 2, 0, 0, 0), (1083, .if_icmp .eq 5, 3, 0, 1088, 0), (1086, .iconst 0, 1, 0, 0, 0), (1087, .ireturn, 1, 0, 0, 0), (1088, .iload 5, 2, 0, 0, 0), (1090, .ifCond .ne 15, 3, 0, 1105, 0), (1093, .aload_n 3, 1, 0, 0, 0), (1094, .iconst 0, 1, 0, 0, 0), (1095, .laload, 1, 0, 0, 0), (1096, .iload 6, 2, 0, 0, 0), (1098, .i2l, 1, 0, 0, 0), (1099, .lcmp, 1, 0, 0, 0), (1100, .ifCond .eq 5, 3, 0, 1105, 0), (1103, .iconst 0, 1, 0, 0, 0), (1104, .ireturn, 1, 0, 0, 0), (1105, .goto 467, 3, 0, 1572, 0)]
def eL22 : aR := (1108, .aload_n 1, 1, 0, 0, 0)
def kL22 : List aR := [(1109, .aload_n 0, 1, 0, 0, 0), (1110, .iload 4, 2, 0, 0, 0), (1112, .iconst 1, 1, 1, 0, 0), (1113, .iadd, 1, 0, 0, 0), (1114, .iaload, 1, 0, 0, 0), (1115, .aload_n 0, 1, 0, 0, 0), (1116, .iload 4, 2, 0, 0, 0), (1118, .iconst 2, 1, 2, 0, 0), (1119, .iadd, 1, 0, 0, 0), (1120, .iaload, 1, 0, 0, 0), (1121, .aload_n 0, 1, 0, 0, 0), (1122, .iload 4, 2, 0, 0, 0), (1124, .iconst 3, 1, 3, 0, 0), (1125, .iadd, 1, 0, 0, 0), (1126, .iaload, 1, 0, 0, 0), (1127, .aload_n 0, 1, 0, 0, 0), (1128, .iload 4, 2, 0, 0, 0), (1130, .iconst 4, 1, 4, 0, 0), (1131, .iadd, 1, 0, 0, 0), (1132, .iaload, 1, 0, 0, 0), (1133, .aload_n 3, 1, 0, 0, 0), (1134, .invokestatic 135, 3, 0, 0, 0), (1137, .istore 5, 2, 0, 0, 0), (1139, .aload_n 2, 1, 0, 0, 0), (1140, .aload_n 0, 1, 0, 0, 0), (1141, .iload 4, 2, 0, 0, 0), (1143, .iconst 1, 1, 1, 0, 0), (1144, .iadd, 1, 0, 0, 0), (1145, .iaload, 1, 0, 0, 0)]
def eL23 : aR := (1146, .aload_n 0, 1, 0, 0, 0)
def kL23 : List aR := [(1147, .iload 4, 2, 0, 0, 0), (1149, .iconst 2, 1, 2, 0, 0), (1150, .iadd, 1, 0, 0, 0), (1151, .iaload, 1, 0, 0, 0), (1152, .aload_n 0, 1, 0, 0, 0), (1153, .iload 4, 2, 0, 0, 0), (1155, .iconst 3, 1, 3, 0, 0), (1156, .iadd, 1, 0, 0, 0), (1157, .iaload, 1, 0, 0, 0), (1158, .aload_n 0, 1, 0, 0, 0), (1159, .iload 4, 2, 0, 0, 0), (1161, .iconst 4, 1, 4, 0, 0), (1162, .iadd, 1, 0, 0, 0), (1163, .iaload, 1, 0, 0, 0), (1164, .invokevirtual 138, 3, 0, 0, 0), (1167, .istore 6, 2, 0, 0, 0), (1169, .aload_n 2, 1, 0, 0, 0), (1170, .invokevirtual 92, 3, 0, 0, 0), (1173, .iload 5, 2, 0, 0, 0), (1175, .if_icmp .eq 5, 3, 0, 1180, 0), (1178, .iconst 0, 1, 0, 0, 0), (1179, .ireturn, 1, 0, 0, 0), (1180, .iload 5, 2, 0, 0, 0), (1182, .ifCond .ne 15, 3, 0, 1197, 0), (1185, .aload_n 3, 1, 0, 0, 0), (1186, .iconst 0, 1, 0, 0, 0), (1187, .laload, 1, 0, 0, 0), (1188, .iload 6, 2, 0, 0, 0), (1190, .i2l, 1, 0, 0, 0)]
def eL24 : aR := (1191, .lcmp, 1, 0, 0, 0)
def kL24 : List aR := [(1192, .ifCond .eq 5, 3, 0, 1197, 0), (1195, .iconst 0, 1, 0, 0, 0), (1196, .ireturn, 1, 0, 0, 0), (1197, .goto 375, 3, 0, 1572, 0), (1200, .aload_n 1, 1, 0, 0, 0), (1201, .aload_n 0, 1, 0, 0, 0), (1202, .iload 4, 2, 0, 0, 0), (1204, .iconst 1, 1, 1, 0, 0), (1205, .iadd, 1, 0, 0, 0), (1206, .iaload, 1, 0, 0, 0), (1207, .aload_n 3, 1, 0, 0, 0), (1208, .invokestatic 139, 3, 0, 0, 0), (1211, .istore 5, 2, 0, 0, 0), (1213, .aload_n 2, 1, 0, 0, 0), (1214, .aload_n 0, 1, 0, 0, 0), (1215, .iload 4, 2, 0, 0, 0), (1217, .iconst 1, 1, 1, 0, 0), (1218, .iadd, 1, 0, 0, 0), (1219, .iaload, 1, 0, 0, 0), (1220, .invokevirtual 142, 3, 0, 0, 0), (1223, .istore 6, 2, 0, 0, 0), (1225, .aload_n 2, 1, 0, 0, 0), (1226, .invokevirtual 92, 3, 0, 0, 0), (1229, .iload 5, 2, 0, 0, 0), (1231, .if_icmp .eq 5, 3, 0, 1236, 0), (1234, .iconst 0, 1, 0, 0, 0), (1235, .ireturn, 1, 0, 0, 0), (1236, .iload 5, 2, 0, 0, 0), (1238, .ifCond .ne 15, 3, 0, 1253, 0)]
def eL25 : aR := (1241, .aload_n 3, 1, 0, 0, 0)
def kL25 : List aR := [(1242, .iconst 0, 1, 0, 0, 0), (1243, .laload, 1, 0, 0, 0), (1244, .iload 6, 2, 0, 0, 0), (1246, .i2l, 1, 0, 0, 0), (1247, .lcmp, 1, 0, 0, 0), (1248, .ifCond .eq 5, 3, 0, 1253, 0), (1251, .iconst 0, 1, 0, 0, 0), (1252, .ireturn, 1, 0, 0, 0), (1253, .goto 319, 3, 0, 1572, 0), (1256, .aload_n 1, 1, 0, 0, 0), (1257, .aload_n 0, 1, 0, 0, 0), (1258, .iload 4, 2, 0, 0, 0), (1260, .iconst 1, 1, 1, 0, 0), (1261, .iadd, 1, 0, 0, 0), (1262, .iaload, 1, 0, 0, 0), (1263, .aload_n 0, 1, 0, 0, 0), (1264, .iload 4, 2, 0, 0, 0), (1266, .iconst 2, 1, 2, 0, 0), (1267, .iadd, 1, 0, 0, 0), (1268, .iaload, 1, 0, 0, 0), (1269, .aload_n 0, 1, 0, 0, 0), (1270, .iload 4, 2, 0, 0, 0), (1272, .iconst 3, 1, 3, 0, 0), (1273, .iadd, 1, 0, 0, 0), (1274, .iaload, 1, 0, 0, 0), (1275, .aload_n 3, 1, 0, 0, 0), (1276, .invokestatic 143, 3, 0, 0, 0), (1279, .istore 5, 2, 0, 0, 0), (1281, .aload_n 2, 1, 0, 0, 0)]
def eL26 : aR := (1282, .aload_n 0, 1, 0, 0, 0)
def kL26 : List aR := [(1283, .iload 4, 2, 0, 0, 0), (1285, .iconst 1, 1, 1, 0, 0), (1286, .iadd, 1, 0, 0, 0), (1287, .iaload, 1, 0, 0, 0), (1288, .aload_n 0, 1, 0, 0, 0), (1289, .iload 4, 2, 0, 0, 0), (1291, .iconst 2, 1, 2, 0, 0), (1292, .iadd, 1, 0, 0, 0), (1293, .iaload, 1, 0, 0, 0), (1294, .aload_n 0, 1, 0, 0, 0), (1295, .iload 4, 2, 0, 0, 0), (1297, .iconst 3, 1, 3, 0, 0), (1298, .iadd, 1, 0, 0, 0), (1299, .iaload, 1, 0, 0, 0), (1300, .invokevirtual 145, 3, 0, 0, 0), (1303, .istore 6, 2, 0, 0, 0), (1305, .aload_n 2, 1, 0, 0, 0), (1306, .invokevirtual 92, 3, 0, 0, 0), (1309, .iload 5, 2, 0, 0, 0), (1311, .if_icmp .eq 5, 3, 0, 1316, 0), (1314, .iconst 0, 1, 0, 0, 0), (1315, .ireturn, 1, 0, 0, 0), (1316, .iload 5, 2, 0, 0, 0), (1318, .ifCond .ne 15, 3, 0, 1333, 0), (1321, .aload_n 3, 1, 0, 0, 0), (1322, .iconst 0, 1, 0, 0, 0), (1323, .laload, 1, 0, 0, 0), (1324, .iload 6, 2, 0, 0, 0), (1326, .i2l, 1, 0, 0, 0)]
def eL27 : aR := (1327, .lcmp, 1, 0, 0, 0)
def kL27 : List aR := [(1328, .ifCond .eq 5, 3, 0, 1333, 0), (1331, .iconst 0, 1, 0, 0, 0), (1332, .ireturn, 1, 0, 0, 0), (1333, .goto 239, 3, 0, 1572, 0), (1336, .aload_n 1, 1, 0, 0, 0), (1337, .aload_n 0, 1, 0, 0, 0), (1338, .iload 4, 2, 0, 0, 0), (1340, .iconst 1, 1, 1, 0, 0), (1341, .iadd, 1, 0, 0, 0), (1342, .iaload, 1, 0, 0, 0), (1343, .aload_n 0, 1, 0, 0, 0), (1344, .iload 4, 2, 0, 0, 0), (1346, .iconst 2, 1, 2, 0, 0), (1347, .iadd, 1, 0, 0, 0), (1348, .iaload, 1, 0, 0, 0), (1349, .aload_n 3, 1, 0, 0, 0), (1350, .invokestatic 146, 3, 0, 0, 0), (1353, .istore 5, 2, 0, 0, 0), (1355, .aload_n 2, 1, 0, 0, 0), (1356, .aload_n 0, 1, 0, 0, 0), (1357, .iload 4, 2, 0, 0, 0), (1359, .iconst 1, 1, 1, 0, 0), (1360, .iadd, 1, 0, 0, 0), (1361, .iaload, 1, 0, 0, 0), (1362, .aload_n 0, 1, 0, 0, 0), (1363, .iload 4, 2, 0, 0, 0), (1365, .iconst 2, 1, 2, 0, 0), (1366, .iadd, 1, 0, 0, 0), (1367, .iaload, 1, 0, 0, 0)]
def eL28 : aR := (1368, .invokevirtual 148, 3, 0, 0, 0)
def kL28 : List aR := [(1371, .istore 6, 2, 0, 0, 0), (1373, .aload_n 2, 1, 0, 0, 0), (1374, .invokevirtual 92, 3, 0, 0, 0), (1377, .iload 5, 2, 0, 0, 0), (1379, .if_icmp .eq 5, 3, 0, 1384, 0), (1382, .iconst 0, 1, 0, 0, 0), (1383, .ireturn, 1, 0, 0, 0), (1384, .iload 5, 2, 0, 0, 0), (1386, .ifCond .ne 15, 3, 0, 1401, 0), (1389, .aload_n 3, 1, 0, 0, 0), (1390, .iconst 0, 1, 0, 0, 0), (1391, .laload, 1, 0, 0, 0), (1392, .iload 6, 2, 0, 0, 0), (1394, .i2l, 1, 0, 0, 0), (1395, .lcmp, 1, 0, 0, 0), (1396, .ifCond .eq 5, 3, 0, 1401, 0), (1399, .iconst 0, 1, 0, 0, 0), (1400, .ireturn, 1, 0, 0, 0), (1401, .goto 171, 3, 0, 1572, 0), (1404, .aload_n 1, 1, 0, 0, 0), (1405, .aload_n 0, 1, 0, 0, 0), (1406, .iload 4, 2, 0, 0, 0), (1408, .iconst 1, 1, 1, 0, 0), (1409, .iadd, 1, 0, 0, 0), (1410, .iaload, 1, 0, 0, 0), (1411, .aload_n 3, 1, 0, 0, 0), (1412, .invokestatic 149, 3, 0, 0, 0), (1415, .istore 5, 2, 0, 0, 0), (1417, .aload_n 2, 1, 0, 0, 0)]
def eL29 : aR := (1418, .aload_n 0, 1, 0, 0, 0)
def kL29 : List aR := [(1419, .iload 4, 2, 0, 0, 0), (1421, .iconst 1, 1, 1, 0, 0), (1422, .iadd, 1, 0, 0, 0), (1423, .iaload, 1, 0, 0, 0), (1424, .invokevirtual 151, 3, 0, 0, 0), (1427, .istore 6, 2, 0, 0, 0), (1429, .aload_n 2, 1, 0, 0, 0), (1430, .invokevirtual 92, 3, 0, 0, 0), (1433, .iload 5, 2, 0, 0, 0), (1435, .if_icmp .eq 5, 3, 0, 1440, 0), (1438, .iconst 0, 1, 0, 0, 0), (1439, .ireturn, 1, 0, 0, 0), (1440, .iload 5, 2, 0, 0, 0), (1442, .ifCond .ne 15, 3, 0, 1457, 0), (1445, .aload_n 3, 1, 0, 0, 0), (1446, .iconst 0, 1, 0, 0, 0), (1447, .laload, 1, 0, 0, 0), (1448, .iload 6, 2, 0, 0, 0), (1450, .i2l, 1, 0, 0, 0), (1451, .lcmp, 1, 0, 0, 0), (1452, .ifCond .eq 5, 3, 0, 1457, 0), (1455, .iconst 0, 1, 0, 0, 0), (1456, .ireturn, 1, 0, 0, 0), (1457, .goto 115, 3, 0, 1572, 0), (1460, .aload_n 1, 1, 0, 0, 0), (1461, .aload_n 0, 1, 0, 0, 0), (1462, .iload 4, 2, 0, 0, 0), (1464, .iconst 1, 1, 1, 0, 0), (1465, .iadd, 1, 0, 0, 0)]
def eL30 : aR := (1466, .iaload, 1, 0, 0, 0)
def kL30 : List aR := [(1467, .aload_n 0, 1, 0, 0, 0), (1468, .iload 4, 2, 0, 0, 0), (1470, .iconst 2, 1, 2, 0, 0), (1471, .iadd, 1, 0, 0, 0), (1472, .iaload, 1, 0, 0, 0), (1473, .aload_n 0, 1, 0, 0, 0), (1474, .iload 4, 2, 0, 0, 0), (1476, .iconst 3, 1, 3, 0, 0), (1477, .iadd, 1, 0, 0, 0), (1478, .iaload, 1, 0, 0, 0), (1479, .aload_n 0, 1, 0, 0, 0), (1480, .iload 4, 2, 0, 0, 0), (1482, .iconst 4, 1, 4, 0, 0), (1483, .iadd, 1, 0, 0, 0), (1484, .iaload, 1, 0, 0, 0), (1485, .aload_n 3, 1, 0, 0, 0), (1486, .invokestatic 152, 3, 0, 0, 0), (1489, .istore 5, 2, 0, 0, 0), (1491, .aload_n 2, 1, 0, 0, 0), (1492, .aload_n 0, 1, 0, 0, 0), (1493, .iload 4, 2, 0, 0, 0), (1495, .iconst 1, 1, 1, 0, 0), (1496, .iadd, 1, 0, 0, 0), (1497, .iaload, 1, 0, 0, 0), (1498, .aload_n 0, 1, 0, 0, 0), (1499, .iload 4, 2, 0, 0, 0), (1501, .iconst 2, 1, 2, 0, 0), (1502, .iadd, 1, 0, 0, 0), (1503, .iaload, 1, 0, 0, 0)]
def eL31 : aR := (1504, .aload_n 0, 1, 0, 0, 0)
def kL31 : List aR := [(1505, .iload 4, 2, 0, 0, 0), (1507, .iconst 3, 1, 3, 0, 0), (1508, .iadd, 1, 0, 0, 0), (1509, .iaload, 1, 0, 0, 0), (1510, .aload_n 0, 1, 0, 0, 0), (1511, .iload 4, 2, 0, 0, 0), (1513, .iconst 4, 1, 4, 0, 0), (1514, .iadd, 1, 0, 0, 0), (1515, .iaload, 1, 0, 0, 0), (1516, .invokevirtual 154, 3, 0, 0, 0), (1519, .istore 6, 2, 0, 0, 0), (1521, .aload_n 2, 1, 0, 0, 0), (1522, .invokevirtual 92, 3, 0, 0, 0), (1525, .iload 5, 2, 0, 0, 0), (1527, .if_icmp .eq 5, 3, 0, 1532, 0), (1530, .iconst 0, 1, 0, 0, 0), (1531, .ireturn, 1, 0, 0, 0), (1532, .iload 5, 2, 0, 0, 0), (1534, .ifCond .ne 22, 3, 0, 1556, 0), (1537, .aload_n 3, 1, 0, 0, 0), (1538, .iconst 0, 1, 0, 0, 0), (1539, .laload, 1, 0, 0, 0), (1540, .iload 6, 2, 0, 0, 0), (1542, .ifCond .eq 7, 3, 0, 1549, 0), (1545, .lconst 1, 1, 1, 0, 0), (1546, .goto 4, 3, 0, 1550, 0), (1549, .lconst 0, 1, 0, 0, 0), (1550, .lcmp, 1, 0, 0, 0), (1551, .ifCond .eq 5, 3, 0, 1556, 0)]
def eL32 : aR := (1554, .iconst 0, 1, 0, 0, 0)
def kL32 : List aR := [(1555, .ireturn, 1, 0, 0, 0), (1556, .goto 16, 3, 0, 1572, 0), (1559, .aload_n 1, 1, 0, 0, 0), (1560, .invokevirtual 155, 3, 0, 0, 0), (1563, .aload_n 2, 1, 0, 0, 0), (1564, .invokevirtual 158, 3, 0, 0, 0), (1567, .if_icmp .eq 5, 3, 0, 1572, 0), (1570, .iconst 0, 1, 0, 0, 0), (1571, .ireturn, 1, 0, 0, 0), (1572, .iinc 4 5, 3, 5, 0, 0), (1575, .goto (-1552), 3, 0, 23, 0), (1578, .iconst 1, 1, 1, 0, 0), (1579, .ireturn, 1, 0, 0, 0)]
def kL_law : List aR := eL0 :: (kL0 ++ eL1 :: (kL1 ++ eL2 :: (kL2 ++ eL3 :: (kL3 ++ eL4 :: (kL4 ++ eL5 :: (kL5 ++ eL6 :: (kL6 ++ eL7 :: (kL7 ++ eL8 :: (kL8 ++ eL9 :: (kL9 ++ eL10 :: (kL10 ++ eL11 :: (kL11 ++ eL12 :: (kL12 ++ eL13 :: (kL13 ++ eL14 :: (kL14 ++ eL15 :: (kL15 ++ eL16 :: (kL16 ++ eL17 :: (kL17 ++ eL18 :: (kL18 ++ eL19 :: (kL19 ++ eL20 :: (kL20 ++ eL21 :: (kL21 ++ eL22 :: (kL22 ++ eL23 :: (kL23 ++ eL24 :: (kL24 ++ eL25 :: (kL25 ++ eL26 :: (kL26 ++ eL27 :: (kL27 ++ eL28 :: (kL28 ++ eL29 :: (kL29 ++ eL30 :: (kL30 ++ eL31 :: (kL31 ++ eL32 :: kL32))))))))))))))))))))))))))))))))
def mL_law : aM := (x, code, 7, (some .boolean), [], kL_law)
end
section
set_option maxRecDepth 100000 in
theorem oL0 : cB mL_law (eL0 :: kL0 ++ [eL1]) = true := by decide +kernel
set_option maxRecDepth 100000 in
theorem oL1 : cB mL_law (eL1 :: kL1 ++ [eL2]) = true := by decide +kernel
set_option maxRecDepth 100000 in
theorem oL2 : cB mL_law (eL2 :: kL2 ++ [eL3]) = true := by decide +kernel
set_option maxRecDepth 100000 in
theorem oL3 : cB mL_law (eL3 :: kL3 ++ [eL4]) = true := by decide +kernel
set_option maxRecDepth 100000 in
theorem oL4 : cB mL_law (eL4 :: kL4 ++ [eL5]) = true := by decide +kernel
set_option maxRecDepth 100000 in
theorem oL5 : cB mL_law (eL5 :: kL5 ++ [eL6]) = true := by decide +kernel
set_option maxRecDepth 100000 in
theorem oL6 : cB mL_law (eL6 :: kL6 ++ [eL7]) = true := by decide +kernel
set_option maxRecDepth 100000 in
theorem oL7 : cB mL_law (eL7 :: kL7 ++ [eL8]) = true := by decide +kernel
set_option maxRecDepth 100000 in
theorem oL8 : cB mL_law (eL8 :: kL8 ++ [eL9]) = true := by decide +kernel
set_option maxRecDepth 100000 in
theorem oL9 : cB mL_law (eL9 :: kL9 ++ [eL10]) = true := by decide +kernel
set_option maxRecDepth 100000 in
theorem oL10 : cB mL_law (eL10 :: kL10 ++ [eL11]) = true := by decide +kernel
set_option maxRecDepth 100000 in
theorem oL11 : cB mL_law (eL11 :: kL11 ++ [eL12]) = true := by decide +kernel
set_option maxRecDepth 100000 in
theorem oL12 : cB mL_law (eL12 :: kL12 ++ [eL13]) = true := by decide +kernel
set_option maxRecDepth 100000 in
theorem oL13 : cB mL_law (eL13 :: kL13 ++ [eL14]) = true := by decide +kernel
set_option maxRecDepth 100000 in
theorem oL14 : cB mL_law (eL14 :: kL14 ++ [eL15]) = true := by decide +kernel
set_option maxRecDepth 100000 in
theorem oL15 : cB mL_law (eL15 :: kL15 ++ [eL16]) = true := by decide +kernel
set_option maxRecDepth 100000 in
theorem oL16 : cB mL_law (eL16 :: kL16 ++ [eL17]) = true := by decide +kernel
end
section
set_option maxRecDepth 100000 in
theorem oL17 : cB mL_law (eL17 :: kL17 ++ [eL18]) = true := by decide +kernel
set_option maxRecDepth 100000 in
theorem oL18 : cB mL_law (eL18 :: kL18 ++ [eL19]) = true := by decide +kernel
set_option maxRecDepth 100000 in
theorem oL19 : cB mL_law (eL19 :: kL19 ++ [eL20]) = true := by decide +kernel
set_option maxRecDepth 100000 in
theorem oL20 : cB mL_law (eL20 :: kL20 ++ [eL21]) = true := by decide +kernel
set_option maxRecDepth 100000 in
theorem oL21 : cB mL_law (eL21 :: kL21 ++ [eL22]) = true := by decide +kernel
set_option maxRecDepth 100000 in
theorem oL22 : cB mL_law (eL22 :: kL22 ++ [eL23]) = true := by decide +kernel
set_option maxRecDepth 100000 in
theorem oL23 : cB mL_law (eL23 :: kL23 ++ [eL24]) = true := by decide +kernel
set_option maxRecDepth 100000 in
theorem oL24 : cB mL_law (eL24 :: kL24 ++ [eL25]) = true := by decide +kernel
set_option maxRecDepth 100000 in
theorem oL25 : cB mL_law (eL25 :: kL25 ++ [eL26]) = true := by decide +kernel
set_option maxRecDepth 100000 in
theorem oL26 : cB mL_law (eL26 :: kL26 ++ [eL27]) = true := by decide +kernel
set_option maxRecDepth 100000 in
theorem oL27 : cB mL_law (eL27 :: kL27 ++ [eL28]) = true := by decide +kernel
set_option maxRecDepth 100000 in
theorem oL28 : cB mL_law (eL28 :: kL28 ++ [eL29]) = true := by decide +kernel
set_option maxRecDepth 100000 in
theorem oL29 : cB mL_law (eL29 :: kL29 ++ [eL30]) = true := by decide +kernel
set_option maxRecDepth 100000 in
theorem oL30 : cB mL_law (eL30 :: kL30 ++ [eL31]) = true := by decide +kernel
set_option maxRecDepth 100000 in
theorem oL31 : cB mL_law (eL31 :: kL31 ++ [eL32]) = true := by decide +kernel
set_option maxRecDepth 100000 in
theorem oL32 : cB mL_law (eL32 :: kL32) = true := by decide +kernel
theorem oL_law_32 : cB mL_law (eL32 :: kL32) = true := oL32
theorem oL_law_31 : cB mL_law (eL31 :: (kL31 ++ eL32 :: kL32)) = true := cB_app (eL31 :: kL31) _ oL31 oL_law_32
theorem oL_law_30 : cB mL_law (eL30 :: (kL30 ++ eL31 :: (kL31 ++ eL32 :: kL32))) = true := cB_app (eL30 :: kL30) _ oL30 oL_law_31
theorem oL_law_29 : cB mL_law (eL29 :: (kL29 ++ eL30 :: (kL30 ++ eL31 :: (kL31 ++ eL32 :: kL32)))) = true := cB_app (eL29 :: kL29) _ oL29 oL_law_30
theorem oL_law_28 : cB mL_law (eL28 :: (kL28 ++ eL29 :: (kL29 ++ eL30 :: (kL30 ++ eL31 :: (kL31 ++ eL32 :: kL32))))) = true := cB_app (eL28 :: kL28) _ oL28 oL_law_29
theorem oL_law_27 : cB mL_law (eL27 :: (kL27 ++ eL28 :: (kL28 ++ eL29 :: (kL29 ++ eL30 :: (kL30 ++ eL31 :: (kL31 ++ eL32 :: kL32)))))) = true := cB_app (eL27 :: kL27) _ oL27 oL_law_28
theorem oL_law_26 : cB mL_law (eL26 :: (kL26 ++ eL27 :: (kL27 ++ eL28 :: (kL28 ++ eL29 :: (kL29 ++ eL30 :: (kL30 ++ eL31 :: (kL31 ++ eL32 :: kL32))))))) = true := cB_app (eL26 :: kL26) _ oL26 oL_law_27
theorem oL_law_25 : cB mL_law (eL25 :: (kL25 ++ eL26 :: (kL26 ++ eL27 :: (kL27 ++ eL28 :: (kL28 ++ eL29 :: (kL29 ++ eL30 :: (kL30 ++ eL31 :: (kL31 ++ eL32 :: kL32)))))))) = true := cB_app (eL25 :: kL25) _ oL25 oL_law_26
theorem oL_law_24 : cB mL_law (eL24 :: (kL24 ++ eL25 :: (kL25 ++ eL26 :: (kL26 ++ eL27 :: (kL27 ++ eL28 :: (kL28 ++ eL29 :: (kL29 ++ eL30 :: (kL30 ++ eL31 :: (kL31 ++ eL32 :: kL32))))))))) = true := cB_app (eL24 :: kL24) _ oL24 oL_law_25
theorem oL_law_23 : cB mL_law (eL23 :: (kL23 ++ eL24 :: (kL24 ++ eL25 :: (kL25 ++ eL26 :: (kL26 ++ eL27 :: (kL27 ++ eL28 :: (kL28 ++ eL29 :: (kL29 ++ eL30 :: (kL30 ++ eL31 :: (kL31 ++ eL32 :: kL32)))))))))) = true := cB_app (eL23 :: kL23) _ oL23 oL_law_24
theorem oL_law_22 : cB mL_law (eL22 :: (kL22 ++ eL23 :: (kL23 ++ eL24 :: (kL24 ++ eL25 :: (kL25 ++ eL26 :: (kL26 ++ eL27 :: (kL27 ++ eL28 :: (kL28 ++ eL29 :: (kL29 ++ eL30 :: (kL30 ++ eL31 :: (kL31 ++ eL32 :: kL32))))))))))) = true := cB_app (eL22 :: kL22) _ oL22 oL_law_23
theorem oL_law_21 : cB mL_law (eL21 :: (kL21 ++ eL22 :: (kL22 ++ eL23 :: (kL23 ++ eL24 :: (kL24 ++ eL25 :: (kL25 ++ eL26 :: (kL26 ++ eL27 :: (kL27 ++ eL28 :: (kL28 ++ eL29 :: (kL29 ++ eL30 :: (kL30 ++ eL31 :: (kL31 ++ eL32 :: kL32)))))))))))) = true := cB_app (eL21 :: kL21) _ oL21 oL_law_22
theorem oL_law_20 : cB mL_law (eL20 :: (kL20 ++ eL21 :: (kL21 ++ eL22 :: (kL22 ++ eL23 :: (kL23 ++ eL24 :: (kL24 ++ eL25 :: (kL25 ++ eL26 :: (kL26 ++ eL27 :: (kL27 ++ eL28 :: (kL28 ++ eL29 :: (kL29 ++ eL30 :: (kL30 ++ eL31 :: (kL31 ++ eL32 :: kL32))))))))))))) = true := cB_app (eL20 :: kL20) _ oL20 oL_law_21
theorem oL_law_19 : cB mL_law (eL19 :: (kL19 ++ eL20 :: (kL20 ++ eL21 :: (kL21 ++ eL22 :: (kL22 ++ eL23 :: (kL23 ++ eL24 :: (kL24 ++ eL25 :: (kL25 ++ eL26 :: (kL26 ++ eL27 :: (kL27 ++ eL28 :: (kL28 ++ eL29 :: (kL29 ++ eL30 :: (kL30 ++ eL31 :: (kL31 ++ eL32 :: kL32)))))))))))))) = true := cB_app (eL19 :: kL19) _ oL19 oL_law_20
theorem oL_law_18 : cB mL_law (eL18 :: (kL18 ++ eL19 :: (kL19 ++ eL20 :: (kL20 ++ eL21 :: (kL21 ++ eL22 :: (kL22 ++ eL23 :: (kL23 ++ eL24 :: (kL24 ++ eL25 :: (kL25 ++ eL26 :: (kL26 ++ eL27 :: (kL27 ++ eL28 :: (kL28 ++ eL29 :: (kL29 ++ eL30 :: (kL30 ++ eL31 :: (kL31 ++ eL32 :: kL32))))))))))))))) = true := cB_app (eL18 :: kL18) _ oL18 oL_law_19
theorem oL_law_17 : cB mL_law (eL17 :: (kL17 ++ eL18 :: (kL18 ++ eL19 :: (kL19 ++ eL20 :: (kL20 ++ eL21 :: (kL21 ++ eL22 :: (kL22 ++ eL23 :: (kL23 ++ eL24 :: (kL24 ++ eL25 :: (kL25 ++ eL26 :: (kL26 ++ eL27 :: (kL27 ++ eL28 :: (kL28 ++ eL29 :: (kL29 ++ eL30 :: (kL30 ++ eL31 :: (kL31 ++ eL32 :: kL32)))))))))))))))) = true := cB_app (eL17 :: kL17) _ oL17 oL_law_18
theorem oL_law_16 : cB mL_law (eL16 :: (kL16 ++ eL17 :: (kL17 ++ eL18 :: (kL18 ++ eL19 :: (kL19 ++ eL20 :: (kL20 ++ eL21 :: (kL21 ++ eL22 :: (kL22 ++ eL23 :: (kL23 ++ eL24 :: (kL24 ++ eL25 :: (kL25 ++ eL26 :: (kL26 ++ eL27 :: (kL27 ++ eL28 :: (kL28 ++ eL29 :: (kL29 ++ eL30 :: (kL30 ++ eL31 :: (kL31 ++ eL32 :: kL32))))))))))))))))) = true := cB_app (eL16 :: kL16) _ oL16 oL_law_17
theorem oL_law_15 : cB mL_law (eL15 :: (kL15 ++ eL16 :: (kL16 ++ eL17 :: (kL17 ++ eL18 :: (kL18 ++ eL19 :: (kL19 ++ eL20 :: (kL20 ++ eL21 :: (kL21 ++ eL22 :: (kL22 ++ eL23 :: (kL23 ++ eL24 :: (kL24 ++ eL25 :: (kL25 ++ eL26 :: (kL26 ++ eL27 :: (kL27 ++ eL28 :: (kL28 ++ eL29 :: (kL29 ++ eL30 :: (kL30 ++ eL31 :: (kL31 ++ eL32 :: kL32)))))))))))))))))) = true := cB_app (eL15 :: kL15) _ oL15 oL_law_16
theorem oL_law_14 : cB mL_law (eL14 :: (kL14 ++ eL15 :: (kL15 ++ eL16 :: (kL16 ++ eL17 :: (kL17 ++ eL18 :: (kL18 ++ eL19 :: (kL19 ++ eL20 :: (kL20 ++ eL21 :: (kL21 ++ eL22 :: (kL22 ++ eL23 :: (kL23 ++ eL24 :: (kL24 ++ eL25 :: (kL25 ++ eL26 :: (kL26 ++ eL27 :: (kL27 ++ eL28 :: (kL28 ++ eL29 :: (kL29 ++ eL30 :: (kL30 ++ eL31 :: (kL31 ++ eL32 :: kL32))))))))))))))))))) = true := cB_app (eL14 :: kL14) _ oL14 oL_law_15
theorem oL_law_13 : cB mL_law (eL13 :: (kL13 ++ eL14 :: (kL14 ++ eL15 :: (kL15 ++ eL16 :: (kL16 ++ eL17 :: (kL17 ++ eL18 :: (kL18 ++ eL19 :: (kL19 ++ eL20 :: (kL20 ++ eL21 :: (kL21 ++ eL22 :: (kL22 ++ eL23 :: (kL23 ++ eL24 :: (kL24 ++ eL25 :: (kL25 ++ eL26 :: (kL26 ++ eL27 :: (kL27 ++ eL28 :: (kL28 ++ eL29 :: (kL29 ++ eL30 :: (kL30 ++ eL31 :: (kL31 ++ eL32 :: kL32)))))))))))))))))))) = true := cB_app (eL13 :: kL13) _ oL13 oL_law_14
theorem oL_law_12 : cB mL_law (eL12 :: (kL12 ++ eL13 :: (kL13 ++ eL14 :: (kL14 ++ eL15 :: (kL15 ++ eL16 :: (kL16 ++ eL17 :: (kL17 ++ eL18 :: (kL18 ++ eL19 :: (kL19 ++ eL20 :: (kL20 ++ eL21 :: (kL21 ++ eL22 :: (kL22 ++ eL23 :: (kL23 ++ eL24 :: (kL24 ++ eL25 :: (kL25 ++ eL26 :: (kL26 ++ eL27 :: (kL27 ++ eL28 :: (kL28 ++ eL29 :: (kL29 ++ eL30 :: (kL30 ++ eL31 :: (kL31 ++ eL32 :: kL32))))))))))))))))))))) = true := cB_app (eL12 :: kL12) _ oL12 oL_law_13
theorem oL_law_11 : cB mL_law (eL11 :: (kL11 ++ eL12 :: (kL12 ++ eL13 :: (kL13 ++ eL14 :: (kL14 ++ eL15 :: (kL15 ++ eL16 :: (kL16 ++ eL17 :: (kL17 ++ eL18 :: (kL18 ++ eL19 :: (kL19 ++ eL20 :: (kL20 ++ eL21 :: (kL21 ++ eL22 :: (kL22 ++ eL23 :: (kL23 ++ eL24 :: (kL24 ++ eL25 :: (kL25 ++ eL26 :: (kL26 ++ eL27 :: (kL27 ++ eL28 :: (kL28 ++ eL29 :: (kL29 ++ eL30 :: (kL30 ++ eL31 :: (kL31 ++ eL32 :: kL32)))))))))))))))))))))) = true := cB_app (eL11 :: kL11) _ oL11 oL_law_12
theorem oL_law_10 : cB mL_law (eL10 :: (kL10 ++ eL11 :: (kL11 ++ eL12 :: (kL12 ++ eL13 :: (kL13 ++ eL14 :: (kL14 ++ eL15 :: (kL15 ++ eL16 :: (kL16 ++ eL17 :: (kL17 ++ eL18 :: (kL18 ++ eL19 :: (kL19 ++ eL20 :: (kL20 ++ eL21 :: (kL21 ++ eL22 :: (kL22 ++ eL23 :: (kL23 ++ eL24 :: (kL24 ++ eL25 :: (kL25 ++ eL26 :: (kL26 ++ eL27 :: (kL27 ++ eL28 :: (kL28 ++ eL29 :: (kL29 ++ eL30 :: (kL30 ++ eL31 :: (kL31 ++ eL32 :: kL32))))))))))))))))))))))) = true := cB_app (eL10 :: kL10) _ oL10 oL_law_11
theorem oL_law_9 : cB mL_law (eL9 :: (kL9 ++ eL10 :: (kL10 ++ eL11 :: (kL11 ++ eL12 :: (kL12 ++ eL13 :: (kL13 ++ eL14 :: (kL14 ++ eL15 :: (kL15 ++ eL16 :: (kL16 ++ eL17 :: (kL17 ++ eL18 :: (kL18 ++ eL19 :: (kL19 ++ eL20 :: (kL20 ++ eL21 :: (kL21 ++ eL22 :: (kL22 ++ eL23 :: (kL23 ++ eL24 :: (kL24 ++ eL25 :: (kL25 ++ eL26 :: (kL26 ++ eL27 :: (kL27 ++ eL28 :: (kL28 ++ eL29 :: (kL29 ++ eL30 :: (kL30 ++ eL31 :: (kL31 ++ eL32 :: kL32)))))))))))))))))))))))) = true := cB_app (eL9 :: kL9) _ oL9 oL_law_10
theorem oL_law_8 : cB mL_law (eL8 :: (kL8 ++ eL9 :: (kL9 ++ eL10 :: (kL10 ++ eL11 :: (kL11 ++ eL12 :: (kL12 ++ eL13 :: (kL13 ++ eL14 :: (kL14 ++ eL15 :: (kL15 ++ eL16 :: (kL16 ++ eL17 :: (kL17 ++ eL18 :: (kL18 ++ eL19 :: (kL19 ++ eL20 :: (kL20 ++ eL21 :: (kL21 ++ eL22 :: (kL22 ++ eL23 :: (kL23 ++ eL24 :: (kL24 ++ eL25 :: (kL25 ++ eL26 :: (kL26 ++ eL27 :: (kL27 ++ eL28 :: (kL28 ++ eL29 :: (kL29 ++ eL30 :: (kL30 ++ eL31 :: (kL31 ++ eL32 :: kL32))))))))))))))))))))))))) = true := cB_app (eL8 :: kL8) _ oL8 oL_law_9
theorem oL_law_7 : cB mL_law (eL7 :: (kL7 ++ eL8 :: (kL8 ++ eL9 :: (kL9 ++ eL10 :: (kL10 ++ eL11 :: (kL11 ++ eL12 :: (kL12 ++ eL13 :: (kL13 ++ eL14 :: (kL14 ++ eL15 :: (kL15 ++ eL16 :: (kL16 ++ eL17 :: (kL17 ++ eL18 :: (kL18 ++ eL19 :: (kL19 ++ eL20 :: (kL20 ++ eL21 :: (kL21 ++ eL22 :: (kL22 ++ eL23 :: (kL23 ++ eL24 :: (kL24 ++ eL25 :: (kL25 ++ eL26 :: (kL26 ++ eL27 :: (kL27 ++ eL28 :: (kL28 ++ eL29 :: (kL29 ++ eL30 :: (kL30 ++ eL31 :: (kL31 ++ eL32 :: kL32)))))))))))))))))))))))))) = true := cB_app (eL7 :: kL7) _ oL7 oL_law_8
theorem oL_law_6 : cB mL_law (eL6 :: (kL6 ++ eL7 :: (kL7 ++ eL8 :: (kL8 ++ eL9 :: (kL9 ++ eL10 :: (kL10 ++ eL11 :: (kL11 ++ eL12 :: (kL12 ++ eL13 :: (kL13 ++ eL14 :: (kL14 ++ eL15 :: (kL15 ++ eL16 :: (kL16 ++ eL17 :: (kL17 ++ eL18 :: (kL18 ++ eL19 :: (kL19 ++ eL20 :: (kL20 ++ eL21 :: (kL21 ++ eL22 :: (kL22 ++ eL23 :: (kL23 ++ eL24 :: (kL24 ++ eL25 :: (kL25 ++ eL26 :: (kL26 ++ eL27 :: (kL27 ++ eL28 :: (kL28 ++ eL29 :: (kL29 ++ eL30 :: (kL30 ++ eL31 :: (kL31 ++ eL32 :: kL32))))))))))))))))))))))))))) = true := cB_app (eL6 :: kL6) _ oL6 oL_law_7
theorem oL_law_5 : cB mL_law (eL5 :: (kL5 ++ eL6 :: (kL6 ++ eL7 :: (kL7 ++ eL8 :: (kL8 ++ eL9 :: (kL9 ++ eL10 :: (kL10 ++ eL11 :: (kL11 ++ eL12 :: (kL12 ++ eL13 :: (kL13 ++ eL14 :: (kL14 ++ eL15 :: (kL15 ++ eL16 :: (kL16 ++ eL17 :: (kL17 ++ eL18 :: (kL18 ++ eL19 :: (kL19 ++ eL20 :: (kL20 ++ eL21 :: (kL21 ++ eL22 :: (kL22 ++ eL23 :: (kL23 ++ eL24 :: (kL24 ++ eL25 :: (kL25 ++ eL26 :: (kL26 ++ eL27 :: (kL27 ++ eL28 :: (kL28 ++ eL29 :: (kL29 ++ eL30 :: (kL30 ++ eL31 :: (kL31 ++ eL32 :: kL32)))))))))))))))))))))))))))) = true := cB_app (eL5 :: kL5) _ oL5 oL_law_6
theorem oL_law_4 : cB mL_law (eL4 :: (kL4 ++ eL5 :: (kL5 ++ eL6 :: (kL6 ++ eL7 :: (kL7 ++ eL8 :: (kL8 ++ eL9 :: (kL9 ++ eL10 :: (kL10 ++ eL11 :: (kL11 ++ eL12 :: (kL12 ++ eL13 :: (kL13 ++ eL14 :: (kL14 ++ eL15 :: (kL15 ++ eL16 :: (kL16 ++ eL17 :: (kL17 ++ eL18 :: (kL18 ++ eL19 :: (kL19 ++ eL20 :: (kL20 ++ eL21 :: (kL21 ++ eL22 :: (kL22 ++ eL23 :: (kL23 ++ eL24 :: (kL24 ++ eL25 :: (kL25 ++ eL26 :: (kL26 ++ eL27 :: (kL27 ++ eL28 :: (kL28 ++ eL29 :: (kL29 ++ eL30 :: (kL30 ++ eL31 :: (kL31 ++ eL32 :: kL32))))))))))))))))))))))))))))) = true := cB_app (eL4 :: kL4) _ oL4 oL_law_5
theorem oL_law_3 : cB mL_law (eL3 :: (kL3 ++ eL4 :: (kL4 ++ eL5 :: (kL5 ++ eL6 :: (kL6 ++ eL7 :: (kL7 ++ eL8 :: (kL8 ++ eL9 :: (kL9 ++ eL10 :: (kL10 ++ eL11 :: (kL11 ++ eL12 :: (kL12 ++ eL13 :: (kL13 ++ eL14 :: (kL14 ++ eL15 :: (kL15 ++ eL16 :: (kL16 ++ eL17 :: (kL17 ++ eL18 :: (kL18 ++ eL19 :: (kL19 ++ eL20 :: (kL20 ++ eL21 :: (kL21 ++ eL22 :: (kL22 ++ eL23 :: (kL23 ++ eL24 :: (kL24 ++ eL25 :: (kL25 ++ eL26 :: (kL26 ++ eL27 :: (kL27 ++ eL28 :: (kL28 ++ eL29 :: (kL29 ++ eL30 :: (kL30 ++ eL31 :: (kL31 ++ eL32 :: kL32)))))))))))))))))))))))))))))) = true := cB_app (eL3 :: kL3) _ oL3 oL_law_4
theorem oL_law_2 : cB mL_law (eL2 :: (kL2 ++ eL3 :: (kL3 ++ eL4 :: (kL4 ++ eL5 :: (kL5 ++ eL6 :: (kL6 ++ eL7 :: (kL7 ++ eL8 :: (kL8 ++ eL9 :: (kL9 ++ eL10 :: (kL10 ++ eL11 :: (kL11 ++ eL12 :: (kL12 ++ eL13 :: (kL13 ++ eL14 :: (kL14 ++ eL15 :: (kL15 ++ eL16 :: (kL16 ++ eL17 :: (kL17 ++ eL18 :: (kL18 ++ eL19 :: (kL19 ++ eL20 :: (kL20 ++ eL21 :: (kL21 ++ eL22 :: (kL22 ++ eL23 :: (kL23 ++ eL24 :: (kL24 ++ eL25 :: (kL25 ++ eL26 :: (kL26 ++ eL27 :: (kL27 ++ eL28 :: (kL28 ++ eL29 :: (kL29 ++ eL30 :: (kL30 ++ eL31 :: (kL31 ++ eL32 :: kL32))))))))))))))))))))))))))))))) = true := cB_app (eL2 :: kL2) _ oL2 oL_law_3
theorem oL_law_1 : cB mL_law (eL1 :: (kL1 ++ eL2 :: (kL2 ++ eL3 :: (kL3 ++ eL4 :: (kL4 ++ eL5 :: (kL5 ++ eL6 :: (kL6 ++ eL7 :: (kL7 ++ eL8 :: (kL8 ++ eL9 :: (kL9 ++ eL10 :: (kL10 ++ eL11 :: (kL11 ++ eL12 :: (kL12 ++ eL13 :: (kL13 ++ eL14 :: (kL14 ++ eL15 :: (kL15 ++ eL16 :: (kL16 ++ eL17 :: (kL17 ++ eL18 :: (kL18 ++ eL19 :: (kL19 ++ eL20 :: (kL20 ++ eL21 :: (kL21 ++ eL22 :: (kL22 ++ eL23 :: (kL23 ++ eL24 :: (kL24 ++ eL25 :: (kL25 ++ eL26 :: (kL26 ++ eL27 :: (kL27 ++ eL28 :: (kL28 ++ eL29 :: (kL29 ++ eL30 :: (kL30 ++ eL31 :: (kL31 ++ eL32 :: kL32)))))))))))))))))))))))))))))))) = true := cB_app (eL1 :: kL1) _ oL1 oL_law_2
theorem oL_law_0 : cB mL_law (eL0 :: (kL0 ++ eL1 :: (kL1 ++ eL2 :: (kL2 ++ eL3 :: (kL3 ++ eL4 :: (kL4 ++ eL5 :: (kL5 ++ eL6 :: (kL6 ++ eL7 :: (kL7 ++ eL8 :: (kL8 ++ eL9 :: (kL9 ++ eL10 :: (kL10 ++ eL11 :: (kL11 ++ eL12 :: (kL12 ++ eL13 :: (kL13 ++ eL14 :: (kL14 ++ eL15 :: (kL15 ++ eL16 :: (kL16 ++ eL17 :: (kL17 ++ eL18 :: (kL18 ++ eL19 :: (kL19 ++ eL20 :: (kL20 ++ eL21 :: (kL21 ++ eL22 :: (kL22 ++ eL23 :: (kL23 ++ eL24 :: (kL24 ++ eL25 :: (kL25 ++ eL26 :: (kL26 ++ eL27 :: (kL27 ++ eL28 :: (kL28 ++ eL29 :: (kL29 ++ eL30 :: (kL30 ++ eL31 :: (kL31 ++ eL32 :: kL32))))))))))))))))))))))))))))))))) = true := cB_app (eL0 :: kL0) _ oL0 oL_law_1
theorem oL_law : cB mL_law mL_law.code = true := oL_law_0
end
section
/-! the things that never move -/
def sTa : List (Option aSh) := [none, some (.inl 8), some (.inr (.object RX7, 80)), some (.inl 3), some (.inl 5), some (.inr (.int, 3100)), some (.inr (.boolean, 3100)), some (.inr (.int, 3100)), some (.inr (.int, 3100)), some (.inl 2), some (.inr (.int, 2001)), some (.inr (.int, 2001)), some (.inr (.int, 2001)), some (.inr (.int, 8)), none, some (.inl 4), some (.inl 6), some (.inr (.int, 65)), some (.inr (.object RX6, 50))]
def sTb : List (Option aSh) := [some (.inl 4), some (.inl 6), some (.inr (.int, 65)), some (.inr (.object RX6, 50))]
def sTc : List (Option aSh) := [some (.inl 9), some (.inr (.int, 80)), some (.inr (.int, 80)), some (.inr (.int, 80)), some (.inr (.int, 80)), some (.inr (.boolean, 80)), some (.inr (.int, 80)), some (.inr (.int, 80)), some (.inr (.int, 4)), some (.inr (.int, 2002)), some (.inr (.int, 2002)), some (.inr (.int, 2002)), some (.inr (.int, 32)), some (.inr (.int, 32)), some (.inr (.int, 32)), some (.inr (.int, 32)), some (.inr (.int, 32)), some (.inr (.int, 32)), some (.inr (.int, 32)), some (.inr (.int, 32)), some (.inr (.int, 256)), some (.inr (.int, 64)), some (.inr (.boolean, 3200)), some (.inr (.int, 3200)), some (.inr (.int, 3200)), some (.inr (.int, 3200)), some (.inr (.int, 2)), some (.inr (.boolean, 100)), some (.inr (.int, 120)), some (.inr (.boolean, 100)), some (.inr (.int, 120)), some (.inr (.int, 120)), some (.inr (.int, 6000)), some (.inr (.int, 12)), some (.inr (.int, 120)), some (.inr (.int, 6)), some (.inr (.int, 60)), some (.inr (.boolean, 60)), some (.inr (.int, 60)), some (.inr (.boolean, 60)), some (.inr (.int, 60)), some (.inr (.int, 60)), some (.inr (.int, 3600)), some (.inr (.long, 1))]
def nthO {α : Type} (l : List (Option α)) (i : Nat) : Option α := match nth l i with
  | some x => x
  | none => none
def sT (i : Nat) : Option aSh := cond (Nat.ble 328 i) (nthO sTc (i - 328)) (cond (Nat.ble i 18) (nthO sTa i) (cond (Nat.ble 223 i) (nthO sTb (i - 223)) (cond (Nat.ble 119 i) (nthO sTb (i - 119)) none)))
def rTm : List (Option Nat) := [none, none, some 329, some 330, some 331, some 332, some 333, some 334, some 335, some 336, none, some 337, some 338, some 339, none, some 340, some 341, some 342, some 343, some 344, some 345, some 346, some 347, some 348, some 349, some 350, some 351, some 352, some 353, none, none, none, none, none, none, none, some 354, some 355, some 356, some 357, some 358, some 359, some 360, some 361, some 362, none, some 363, some 364, some 365, some 366, some 367, some 368, some 369, some 370]
def rTa : List (Option (List (Option Nat))) := [none, some [some 2, some 3, some 15, some 119, some 223], none, some [some 4, some 9, some 13], some [some 5, some 6, some 7, some 8], none, none, none, none, some [some 10, some 11, some 12], none, none, none, none, none, some [none, some 16, some 18], some [some 17]]
def rTk (l : Option (List (Option Nat))) (k : Nat) : Option Nat := match l with
  | some l => nthO l k
  | none => none
def rT (i k : Nat) : Option Nat := cond (Nat.beq i 328) (nthO rTm k) (cond (Nat.ble i 16) (rTk (nthO rTa i) k) (cond (Nat.beq i 119) (nthO [none, some 120, some 122] k) (cond (Nat.beq i 120) (nthO [some 121] k) (cond (Nat.beq i 223) (nthO [none, some 224, some 226] k) (cond (Nat.beq i 224) (nthO [some 225] k) none)))))
/-- the static table, with the layering of the object (lx) and of the machine (ly) -/
def tS (lx ly : Nat) : aT := (sT, fun i k => cond (Nat.beq i 3 && Nat.beq k 3) (some (vD (some ly))) (cond (Nat.beq i 1 && Nat.beq k 6) (some (vD (some lx))) (match rT i k with
  | some j => some (vS j)
  | none => none)))
abbrev WS (lx ly : Nat) (g : aG) : Prop := Wf (tS lx ly) g
def noJ : List aV → Bool
  | [] => true
  | .inr (.inr (.inr _)) :: _ => false
  | _ :: r => noJ r
theorem noJ_ok : ∀ (av : List aV), noJ av = true → ∀ w ∈ av, ∀ x, w ≠ vJ x
  | [], _, w, hw, _ => by cases hw
  | v :: r, h, w, hw, x => by
    rcases v with y | i | q | y
    · rcases List.mem_cons.mp hw with rfl | hw
      · intro e; cases e
      · exact noJ_ok r h w hw x
    · rcases List.mem_cons.mp hw with rfl | hw
      · intro e; cases e
      · exact noJ_ok r h w hw x
    · rcases List.mem_cons.mp hw with rfl | hw
      · intro e; cases e
      · exact noJ_ok r h w hw x
    · cases h
/-- the one outcome: it returns v, the heap then -/
def qV (v : Option aV) (g : aG) (I : aI) (L : aL) : aQ := fun o g' I' L' => o = .inl v ∧ g' = g ∧ I' = I ∧ L' = L
/-- it throws E; cells may have come -/
def qT (E : String) (g : aG) (I : aI) (L : aL) : aQ := fun o g' I' L' => o = .inr E ∧ (∃ n, g.1 ≤ n ∧ g' = (n, g.2.1, g.2.2)) ∧ I' = I ∧ L' = L
section Use
variable {M N : aM} {d d' kc ks kc' ks' : Nat} {Q Q' : aQ} {pc idx : Nat} {lo : List (Option aV)} {st As av : List aV} {g g' : aG} {I I' : aI} {L L' : aL} {v : Option aV}
theorem Mx_in (hy : plainName M.y.cls = true) (hc : noJ av = true) (hn : Nat.ble av.length M.nL = true) (k : Ex M d kc ks Q 0 (lo0 av M.nL) [] g I L) : Mx M d kc ks av g I L Q := Mx_of hy (noJ_ok av hc) (Nat.le_of_ble_eq_true hn) k
theorem Ex_V {i ci : Nat} {q : vw_C} (ok : cOk M N idx As.length) (w1 : Cond.instanceMethod N.y ∈ gT) (w2 : Cond.selects N.y.cls N.y N.y ∈ gT) (hq : qC[ci]? = some q) (hq1 : q.1 = N.y.cls) (hM : Mx N d' 0 0 (vS i :: As) g I L (qV v g' I' L')) (hi : g.2.1 i = some (.inl ci)) (hd' : d' + 1 ≤ d) (hst : Nat.ble (catL st) 8 = true) (hd : decode M.cc pc = .ok (.invokevirtual idx, 3))
    (kk : Ex M d kc ks Q (pc + 3) lo (v.toList ++ st) g' I' L') : Ex M d kc ks Q pc lo (As.reverse ++ vS i :: st) g I L := by
  refine Ex_callV ok w1 w2 hq hq1 hi hM hd' (Nat.le_of_ble_eq_true hst) hd ?_ ?_
  · rintro _ _ _ _ ⟨e, rfl, rfl, rfl⟩
    cases e
    exact kk
  · rintro _ _ _ _ ⟨e, -⟩
    cases e
theorem Ex_S (ok : cOk M N idx As.length) (w1 : Cond.static N.y ∈ gT) (hM : Mx N d' 0 0 As g I L (qV v g' I' L')) (hd' : d' + 1 ≤ d) (hst : Nat.ble (catL st) 8 = true) (hd : decode M.cc pc = .ok (.invokestatic idx, 3))
    (kk : Ex M d kc ks Q (pc + 3) lo (v.toList ++ st) g' I' L') : Ex M d kc ks Q pc lo (As.reverse ++ st) g I L := by
  refine Ex_callS ok w1 hM hd' (Nat.le_of_ble_eq_true hst) hd ?_ ?_
  · rintro _ _ _ _ ⟨e, rfl, rfl, rfl⟩
    cases e
    exact kk
  · rintro _ _ _ _ ⟨e, -⟩
    cases e
end Use
end
section
/-! what each call needs of the tables -/
def dOk (N : aM) (n : Nat) : Prop := N.nL ≤ 21 ∧ (N.y.cls ≠ "java/lang/invoke/MethodHandle" ∧ N.y.cls ≠ "java/lang/invoke/VarHandle" ∧ (parseMethodDescriptor N.y.desc).map (fun d => d.parameters.length) = some n)
def vOk (own : String) (N : aM) (idx n ci : Nat) : Prop := (Cond.code N.y N.cc N.nL N.ret ∈ gT ∧ N.hh = []) ∧ Cond.initialized N.y.cls ∈ gT ∧ Cond.methodLink own idx N.y ∈ gT ∧ Cond.instanceMethod N.y ∈ gT ∧ Cond.selects N.y.cls N.y N.y ∈ gT ∧ dOk N n ∧ ∃ q : vw_C, qC[ci]? = some q ∧ q.1 = N.y.cls
def sOk (own : String) (N : aM) (idx n : Nat) : Prop := (Cond.code N.y N.cc N.nL N.ret ∈ gT ∧ N.hh = []) ∧ Cond.initialized N.y.cls ∈ gT ∧ Cond.methodLink own idx N.y ∈ gT ∧ Cond.static N.y ∈ gT ∧ dOk N n
def sHOk (own : String) (N : aM) (idx n : Nat) : Prop := (Cond.codeWith N.y N.cc N.nL N.ret N.hh ∈ gT ∧ N.hh ≠ []) ∧ Cond.initialized N.y.cls ∈ gT ∧ Cond.methodLink own idx N.y ∈ gT ∧ Cond.static N.y ∈ gT ∧ dOk N n
def iOk (own : String) (N : aM) (idx n : Nat) : Prop := (Cond.code N.y N.cc N.nL N.ret ∈ gT ∧ N.hh = []) ∧ Cond.initialized N.y.cls ∈ gT ∧ Cond.methodLink own idx N.y ∈ gT ∧ Cond.instanceMethod N.y ∈ gT ∧ dOk N n ∧ N.ret = none ∧ N.y.name = "<init>"
theorem gW {w : Cond} (i : Nat) (h : lw_tbl[i]? = some w) (hg : goodWord w = true) : w ∈ gT := gT_in (List.mem_of_getElem? h) hg
set_option maxRecDepth 100000 in
theorem g89 : Cond.code yX8_init cX8_init 1 none ∈ gT := gW 89 rfl rfl
set_option maxRecDepth 100000 in
theorem g66 : Cond.initialized RX8 ∈ gT := gW 66 rfl rfl
set_option maxRecDepth 100000 in
theorem g87 : Cond.methodLink RL 82 yX8_init ∈ gT := gW 87 rfl rfl
theorem dkX8_init : dOk mX8_init 0 := by unfold dOk; decide +kernel
set_option maxRecDepth 100000 in
theorem g88 : Cond.instanceMethod yX8_init ∈ gT := gW 88 rfl rfl
theorem iL_82 : iOk RL mX8_init 82 0 := ⟨⟨g89, rfl⟩, g66, g87, g88, dkX8_init, rfl, rfl⟩
set_option maxRecDepth 100000 in
theorem g148 : Cond.code yX1_init cX1_init 9 none ∈ gT := gW 148 rfl rfl
set_option maxRecDepth 100000 in
theorem g70 : Cond.initialized RX1 ∈ gT := gW 70 rfl rfl
set_option maxRecDepth 100000 in
theorem g146 : Cond.methodLink RX3 31 yX1_init ∈ gT := gW 146 rfl rfl
theorem dkX1_init : dOk mX1_init 4 := by unfold dOk; decide +kernel
set_option maxRecDepth 100000 in
theorem g147 : Cond.instanceMethod yX1_init ∈ gT := gW 147 rfl rfl
theorem iX3_31 : iOk RX3 mX1_init 31 4 := ⟨⟨g148, rfl⟩, g70, g146, g147, dkX1_init, rfl, rfl⟩
set_option maxRecDepth 100000 in
theorem g152 : Cond.code yX1_placeOf cX1_placeOf 5 (some .int) ∈ gT := gW 152 rfl rfl
set_option maxRecDepth 100000 in
theorem g150 : Cond.methodLink RX1 9 yX1_placeOf ∈ gT := gW 150 rfl rfl
theorem dkX1_placeOf : dOk mX1_placeOf 5 := by unfold dOk; decide +kernel
set_option maxRecDepth 100000 in
theorem g151 : Cond.static yX1_placeOf ∈ gT := gW 151 rfl rfl
theorem sX1_9 : sOk RX1 mX1_placeOf 9 5 := ⟨⟨g152, rfl⟩, g70, g150, g151, dkX1_placeOf⟩
set_option maxRecDepth 100000 in
theorem g155 : Cond.code yX1_bitAt cX1_bitAt 2 (some .int) ∈ gT := gW 155 rfl rfl
set_option maxRecDepth 100000 in
theorem g153 : Cond.methodLink RX1 15 yX1_bitAt ∈ gT := gW 153 rfl rfl
theorem dkX1_bitAt : dOk mX1_bitAt 2 := by unfold dOk; decide +kernel
set_option maxRecDepth 100000 in
theorem g154 : Cond.static yX1_bitAt ∈ gT := gW 154 rfl rfl
theorem sX1_15 : sOk RX1 mX1_bitAt 15 2 := ⟨⟨g155, rfl⟩, g70, g153, g154, dkX1_bitAt⟩
set_option maxRecDepth 100000 in
theorem g221 : Cond.code yX4_init cX4_init 2 none ∈ gT := gW 221 rfl rfl
set_option maxRecDepth 100000 in
theorem g71 : Cond.initialized RX4 ∈ gT := gW 71 rfl rfl
set_option maxRecDepth 100000 in
theorem g219 : Cond.methodLink RX8 24 yX4_init ∈ gT := gW 219 rfl rfl
theorem dkX4_init : dOk mX4_init 0 := by unfold dOk; decide +kernel
set_option maxRecDepth 100000 in
theorem g220 : Cond.instanceMethod yX4_init ∈ gT := gW 220 rfl rfl
theorem iX8_24 : iOk RX8 mX4_init 24 0 := ⟨⟨g221, rfl⟩, g71, g219, g220, dkX4_init, rfl, rfl⟩
set_option maxRecDepth 100000 in
theorem g250 : Cond.methodLink RX8 37 yX1_init ∈ gT := gW 250 rfl rfl
theorem iX8_37 : iOk RX8 mX1_init 37 4 := ⟨⟨g148, rfl⟩, g70, g250, g147, dkX1_init, rfl, rfl⟩
set_option maxRecDepth 100000 in
theorem g276 : Cond.code yX8_terms cX8_terms 1 (some .int) ∈ gT := gW 276 rfl rfl
set_option maxRecDepth 100000 in
theorem g273 : Cond.methodLink RL 155 yX8_terms ∈ gT := gW 273 rfl rfl
theorem dkX8_terms : dOk mX8_terms 0 := by unfold dOk; decide +kernel
set_option maxRecDepth 100000 in
theorem g274 : Cond.instanceMethod yX8_terms ∈ gT := gW 274 rfl rfl
set_option maxRecDepth 100000 in
theorem g275 : Cond.selects RX8 yX8_terms yX8_terms ∈ gT := gW 275 rfl rfl
theorem vL_155 : vOk RL mX8_terms 155 0 8 := ⟨⟨g276, rfl⟩, g66, g273, g274, g275, dkX8_terms, _, rfl, rfl⟩
set_option maxRecDepth 100000 in
theorem g279 : Cond.codeWith yL_give cL_give 5 (some .int) [(0, 10, 13, 13), (0, 10, 17, 15)] ∈ gT := gW 279 rfl rfl
set_option maxRecDepth 100000 in
theorem g65 : Cond.initialized RL ∈ gT := gW 65 rfl rfl
set_option maxRecDepth 100000 in
theorem g277 : Cond.methodLink RL 86 yL_give ∈ gT := gW 277 rfl rfl
theorem dkL_give : dOk mL_give 4 := by unfold dOk; decide +kernel
set_option maxRecDepth 100000 in
theorem g278 : Cond.static yL_give ∈ gT := gW 278 rfl rfl
theorem hL_86 : sHOk RL mL_give 86 4 := ⟨⟨g279, by decide⟩, g65, g277, g278, dkL_give⟩
set_option maxRecDepth 100000 in
theorem g285 : Cond.code yX8_give cX8_give 3 (some .int) ∈ gT := gW 285 rfl rfl
set_option maxRecDepth 100000 in
theorem g282 : Cond.methodLink RL 7 yX8_give ∈ gT := gW 282 rfl rfl
theorem dkX8_give : dOk mX8_give 2 := by unfold dOk; decide +kernel
set_option maxRecDepth 100000 in
theorem g283 : Cond.instanceMethod yX8_give ∈ gT := gW 283 rfl rfl
set_option maxRecDepth 100000 in
theorem g284 : Cond.selects RX8 yX8_give yX8_give ∈ gT := gW 284 rfl rfl
theorem vL_7 : vOk RL mX8_give 7 2 8 := ⟨⟨g285, rfl⟩, g66, g282, g283, g284, dkX8_give, _, rfl, rfl⟩
set_option maxRecDepth 100000 in
theorem g289 : Cond.code yX8_keepAct cX8_keepAct 4 (some .int) ∈ gT := gW 289 rfl rfl
set_option maxRecDepth 100000 in
theorem g286 : Cond.methodLink RX8 46 yX8_keepAct ∈ gT := gW 286 rfl rfl
theorem dkX8_keepAct : dOk mX8_keepAct 3 := by unfold dOk; decide +kernel
set_option maxRecDepth 100000 in
theorem g288 : Cond.instanceMethod yX8_keepAct ∈ gT := gW 288 rfl rfl
set_option maxRecDepth 100000 in
theorem g0 : Cond.selects RX8 yX8_keepAct yX8_keepAct ∈ gT := gW 0 rfl rfl
theorem vX8_46 : vOk RX8 mX8_keepAct 46 3 8 := ⟨⟨g289, rfl⟩, g66, g286, g288, g0, dkX8_keepAct, _, rfl, rfl⟩
set_option maxRecDepth 100000 in
theorem g293 : Cond.code yX8_requireOperand cX8_requireOperand 3 none ∈ gT := gW 293 rfl rfl
set_option maxRecDepth 100000 in
theorem g290 : Cond.methodLink RX8 76 yX8_requireOperand ∈ gT := gW 290 rfl rfl
theorem dkX8_requireOperand : dOk mX8_requireOperand 2 := by unfold dOk; decide +kernel
set_option maxRecDepth 100000 in
theorem g292 : Cond.instanceMethod yX8_requireOperand ∈ gT := gW 292 rfl rfl
set_option maxRecDepth 100000 in
theorem g1 : Cond.selects RX8 yX8_requireOperand yX8_requireOperand ∈ gT := gW 1 rfl rfl
theorem vX8_76 : vOk RX8 mX8_requireOperand 76 2 8 := ⟨⟨g293, rfl⟩, g66, g290, g292, g1, dkX8_requireOperand, _, rfl, rfl⟩
set_option maxRecDepth 100000 in
theorem g296 : Cond.code yX8_requireName cX8_requireName 1 none ∈ gT := gW 296 rfl rfl
set_option maxRecDepth 100000 in
theorem g294 : Cond.methodLink RX8 50 yX8_requireName ∈ gT := gW 294 rfl rfl
theorem dkX8_requireName : dOk mX8_requireName 1 := by unfold dOk; decide +kernel
set_option maxRecDepth 100000 in
theorem g295 : Cond.static yX8_requireName ∈ gT := gW 295 rfl rfl
theorem sX8_50 : sOk RX8 mX8_requireName 50 1 := ⟨⟨g296, rfl⟩, g66, g294, g295, dkX8_requireName⟩
set_option maxRecDepth 100000 in
theorem g369 : Cond.code yX7_init cX7_init 7 none ∈ gT := gW 369 rfl rfl
set_option maxRecDepth 100000 in
theorem g78 : Cond.initialized RX7 ∈ gT := gW 78 rfl rfl
set_option maxRecDepth 100000 in
theorem g367 : Cond.methodLink RX8 61 yX7_init ∈ gT := gW 367 rfl rfl
theorem dkX7_init : dOk mX7_init 6 := by unfold dOk; decide +kernel
set_option maxRecDepth 100000 in
theorem g368 : Cond.instanceMethod yX7_init ∈ gT := gW 368 rfl rfl
theorem iX8_61 : iOk RX8 mX7_init 61 6 := ⟨⟨g369, rfl⟩, g78, g367, g368, dkX7_init, rfl, rfl⟩
set_option maxRecDepth 100000 in
theorem g373 : Cond.code yX7_heightOf cX7_heightOf 1 (some .int) ∈ gT := gW 373 rfl rfl
set_option maxRecDepth 100000 in
theorem g371 : Cond.methodLink RX7 30 yX7_heightOf ∈ gT := gW 371 rfl rfl
theorem dkX7_heightOf : dOk mX7_heightOf 1 := by unfold dOk; decide +kernel
set_option maxRecDepth 100000 in
theorem g372 : Cond.static yX7_heightOf ∈ gT := gW 372 rfl rfl
theorem sX7_30 : sOk RX7 mX7_heightOf 30 1 := ⟨⟨g373, rfl⟩, g78, g371, g372, dkX7_heightOf⟩
set_option maxRecDepth 100000 in
theorem g376 : Cond.code yJ9_max_7cf53 cJ9_max_7cf53 2 (some .int) ∈ gT := gW 376 rfl rfl
set_option maxRecDepth 100000 in
theorem g79 : Cond.initialized RJ9 ∈ gT := gW 79 rfl rfl
set_option maxRecDepth 100000 in
theorem g374 : Cond.methodLink RX7 34 yJ9_max_7cf53 ∈ gT := gW 374 rfl rfl
theorem dkJ9_max_7cf53 : dOk mJ9_max_7cf53 2 := by unfold dOk; decide +kernel
set_option maxRecDepth 100000 in
theorem g375 : Cond.static yJ9_max_7cf53 ∈ gT := gW 375 rfl rfl
theorem sX7_34 : sOk RX7 mJ9_max_7cf53 34 2 := ⟨⟨g376, rfl⟩, g79, g374, g375, dkJ9_max_7cf53⟩
set_option maxRecDepth 100000 in
theorem g379 : Cond.code yX0_layersOf cX0_layersOf 1 (some .int) ∈ gT := gW 379 rfl rfl
set_option maxRecDepth 100000 in
theorem g80 : Cond.initialized RX0 ∈ gT := gW 80 rfl rfl
set_option maxRecDepth 100000 in
theorem g377 : Cond.methodLink RX7 43 yX0_layersOf ∈ gT := gW 377 rfl rfl
theorem dkX0_layersOf : dOk mX0_layersOf 1 := by unfold dOk; decide +kernel
set_option maxRecDepth 100000 in
theorem g378 : Cond.static yX0_layersOf ∈ gT := gW 378 rfl rfl
theorem sX7_43 : sOk RX7 mX0_layersOf 43 1 := ⟨⟨g379, rfl⟩, g80, g377, g378, dkX0_layersOf⟩
set_option maxRecDepth 100000 in
theorem g382 : Cond.code yX7_layersOf cX7_layersOf 1 (some .int) ∈ gT := gW 382 rfl rfl
set_option maxRecDepth 100000 in
theorem g380 : Cond.methodLink RX7 49 yX7_layersOf ∈ gT := gW 380 rfl rfl
theorem dkX7_layersOf : dOk mX7_layersOf 1 := by unfold dOk; decide +kernel
set_option maxRecDepth 100000 in
theorem g381 : Cond.static yX7_layersOf ∈ gT := gW 381 rfl rfl
theorem sX7_49 : sOk RX7 mX7_layersOf 49 1 := ⟨⟨g382, rfl⟩, g78, g380, g381, dkX7_layersOf⟩
set_option maxRecDepth 100000 in
theorem g419 : Cond.code yX8_keep cX8_keep 2 (some .int) ∈ gT := gW 419 rfl rfl
set_option maxRecDepth 100000 in
theorem g416 : Cond.methodLink RX8 64 yX8_keep ∈ gT := gW 416 rfl rfl
theorem dkX8_keep : dOk mX8_keep 1 := by unfold dOk; decide +kernel
set_option maxRecDepth 100000 in
theorem g418 : Cond.instanceMethod yX8_keep ∈ gT := gW 418 rfl rfl
set_option maxRecDepth 100000 in
theorem g3 : Cond.selects RX8 yX8_keep yX8_keep ∈ gT := gW 3 rfl rfl
theorem vX8_64 : vOk RX8 mX8_keep 64 1 8 := ⟨⟨g419, rfl⟩, g66, g416, g418, g3, dkX8_keep, _, rfl, rfl⟩
set_option maxRecDepth 100000 in
theorem g438 : Cond.codeWith yL_of cL_of 6 (some .int) [(0, 12, 15, 13), (0, 12, 19, 21), (0, 12, 23, 15)] ∈ gT := gW 438 rfl rfl
set_option maxRecDepth 100000 in
theorem g436 : Cond.methodLink RL 95 yL_of ∈ gT := gW 436 rfl rfl
theorem dkL_of : dOk mL_of 5 := by unfold dOk; decide +kernel
set_option maxRecDepth 100000 in
theorem g437 : Cond.static yL_of ∈ gT := gW 437 rfl rfl
theorem hL_95 : sHOk RL mL_of 95 5 := ⟨⟨g438, by decide⟩, g65, g436, g437, dkL_of⟩
set_option maxRecDepth 100000 in
theorem g443 : Cond.code yX8_of cX8_of 4 (some .int) ∈ gT := gW 443 rfl rfl
set_option maxRecDepth 100000 in
theorem g440 : Cond.methodLink RL 17 yX8_of ∈ gT := gW 440 rfl rfl
theorem dkX8_of : dOk mX8_of 3 := by unfold dOk; decide +kernel
set_option maxRecDepth 100000 in
theorem g441 : Cond.instanceMethod yX8_of ∈ gT := gW 441 rfl rfl
set_option maxRecDepth 100000 in
theorem g442 : Cond.selects RX8 yX8_of yX8_of ∈ gT := gW 442 rfl rfl
theorem vL_17 : vOk RL mX8_of 17 3 8 := ⟨⟨g443, rfl⟩, g66, g440, g441, g442, dkX8_of, _, rfl, rfl⟩
set_option maxRecDepth 100000 in
theorem g462 : Cond.codeWith yL_read cL_read 3 (some .int) [(0, 8, 11, 15)] ∈ gT := gW 462 rfl rfl
set_option maxRecDepth 100000 in
theorem g460 : Cond.methodLink RL 99 yL_read ∈ gT := gW 460 rfl rfl
theorem dkL_read : dOk mL_read 2 := by unfold dOk; decide +kernel
set_option maxRecDepth 100000 in
theorem g461 : Cond.static yL_read ∈ gT := gW 461 rfl rfl
theorem hL_99 : sHOk RL mL_read 99 2 := ⟨⟨g462, by decide⟩, g65, g460, g461, dkL_read⟩
set_option maxRecDepth 100000 in
theorem g466 : Cond.code yX8_read cX8_read 1 (some .int) ∈ gT := gW 466 rfl rfl
set_option maxRecDepth 100000 in
theorem g463 : Cond.methodLink RL 23 yX8_read ∈ gT := gW 463 rfl rfl
theorem dkX8_read : dOk mX8_read 0 := by unfold dOk; decide +kernel
set_option maxRecDepth 100000 in
theorem g464 : Cond.instanceMethod yX8_read ∈ gT := gW 464 rfl rfl
set_option maxRecDepth 100000 in
theorem g465 : Cond.selects RX8 yX8_read yX8_read ∈ gT := gW 465 rfl rfl
theorem vL_23 : vOk RL mX8_read 23 0 8 := ⟨⟨g466, rfl⟩, g66, g463, g464, g465, dkX8_read, _, rfl, rfl⟩
set_option maxRecDepth 100000 in
theorem g469 : Cond.codeWith yL_write cL_write 5 (some .int) [(0, 10, 13, 13), (0, 10, 17, 15)] ∈ gT := gW 469 rfl rfl
set_option maxRecDepth 100000 in
theorem g467 : Cond.methodLink RL 103 yL_write ∈ gT := gW 467 rfl rfl
theorem dkL_write : dOk mL_write 4 := by unfold dOk; decide +kernel
set_option maxRecDepth 100000 in
theorem g468 : Cond.static yL_write ∈ gT := gW 468 rfl rfl
theorem hL_103 : sHOk RL mL_write 103 4 := ⟨⟨g469, by decide⟩, g65, g467, g468, dkL_write⟩
set_option maxRecDepth 100000 in
theorem g473 : Cond.code yX8_write cX8_write 3 (some .int) ∈ gT := gW 473 rfl rfl
set_option maxRecDepth 100000 in
theorem g470 : Cond.methodLink RL 27 yX8_write ∈ gT := gW 470 rfl rfl
theorem dkX8_write : dOk mX8_write 2 := by unfold dOk; decide +kernel
set_option maxRecDepth 100000 in
theorem g471 : Cond.instanceMethod yX8_write ∈ gT := gW 471 rfl rfl
set_option maxRecDepth 100000 in
theorem g472 : Cond.selects RX8 yX8_write yX8_write ∈ gT := gW 472 rfl rfl
theorem vL_27 : vOk RL mX8_write 27 2 8 := ⟨⟨g473, rfl⟩, g66, g470, g471, g472, dkX8_write, _, rfl, rfl⟩
set_option maxRecDepth 100000 in
theorem g476 : Cond.codeWith yL_say cL_say 5 (some .int) [(0, 10, 13, 13), (0, 10, 17, 15)] ∈ gT := gW 476 rfl rfl
set_option maxRecDepth 100000 in
theorem g474 : Cond.methodLink RL 106 yL_say ∈ gT := gW 474 rfl rfl
theorem dkL_say : dOk mL_say 4 := by unfold dOk; decide +kernel
set_option maxRecDepth 100000 in
theorem g475 : Cond.static yL_say ∈ gT := gW 475 rfl rfl
theorem hL_106 : sHOk RL mL_say 106 4 := ⟨⟨g476, by decide⟩, g65, g474, g475, dkL_say⟩
set_option maxRecDepth 100000 in
theorem g480 : Cond.code yX8_say cX8_say 3 (some .int) ∈ gT := gW 480 rfl rfl
set_option maxRecDepth 100000 in
theorem g477 : Cond.methodLink RL 30 yX8_say ∈ gT := gW 477 rfl rfl
theorem dkX8_say : dOk mX8_say 2 := by unfold dOk; decide +kernel
set_option maxRecDepth 100000 in
theorem g478 : Cond.instanceMethod yX8_say ∈ gT := gW 478 rfl rfl
set_option maxRecDepth 100000 in
theorem g479 : Cond.selects RX8 yX8_say yX8_say ∈ gT := gW 479 rfl rfl
theorem vL_30 : vOk RL mX8_say 30 2 8 := ⟨⟨g480, rfl⟩, g66, g477, g478, g479, dkX8_say, _, rfl, rfl⟩
set_option maxRecDepth 100000 in
theorem g483 : Cond.codeWith yL_fail cL_fail 5 (some .int) [(0, 10, 13, 13), (0, 10, 17, 15)] ∈ gT := gW 483 rfl rfl
set_option maxRecDepth 100000 in
theorem g481 : Cond.methodLink RL 109 yL_fail ∈ gT := gW 481 rfl rfl
theorem dkL_fail : dOk mL_fail 4 := by unfold dOk; decide +kernel
set_option maxRecDepth 100000 in
theorem g482 : Cond.static yL_fail ∈ gT := gW 482 rfl rfl
theorem hL_109 : sHOk RL mL_fail 109 4 := ⟨⟨g483, by decide⟩, g65, g481, g482, dkL_fail⟩
set_option maxRecDepth 100000 in
theorem g487 : Cond.code yX8_fail cX8_fail 3 (some .int) ∈ gT := gW 487 rfl rfl
set_option maxRecDepth 100000 in
theorem g484 : Cond.methodLink RL 33 yX8_fail ∈ gT := gW 484 rfl rfl
theorem dkX8_fail : dOk mX8_fail 2 := by unfold dOk; decide +kernel
set_option maxRecDepth 100000 in
theorem g485 : Cond.instanceMethod yX8_fail ∈ gT := gW 485 rfl rfl
set_option maxRecDepth 100000 in
theorem g486 : Cond.selects RX8 yX8_fail yX8_fail ∈ gT := gW 486 rfl rfl
theorem vL_33 : vOk RL mX8_fail 33 2 8 := ⟨⟨g487, rfl⟩, g66, g484, g485, g486, dkX8_fail, _, rfl, rfl⟩
set_option maxRecDepth 100000 in
theorem g490 : Cond.codeWith yL_none cL_none 3 (some .int) [(0, 8, 11, 15)] ∈ gT := gW 490 rfl rfl
set_option maxRecDepth 100000 in
theorem g488 : Cond.methodLink RL 112 yL_none ∈ gT := gW 488 rfl rfl
theorem dkL_none : dOk mL_none 2 := by unfold dOk; decide +kernel
set_option maxRecDepth 100000 in
theorem g489 : Cond.static yL_none ∈ gT := gW 489 rfl rfl
theorem hL_112 : sHOk RL mL_none 112 2 := ⟨⟨g490, by decide⟩, g65, g488, g489, dkL_none⟩
set_option maxRecDepth 100000 in
theorem g494 : Cond.code yX8_none cX8_none 1 (some .int) ∈ gT := gW 494 rfl rfl
set_option maxRecDepth 100000 in
theorem g491 : Cond.methodLink RL 36 yX8_none ∈ gT := gW 491 rfl rfl
theorem dkX8_none : dOk mX8_none 0 := by unfold dOk; decide +kernel
set_option maxRecDepth 100000 in
theorem g492 : Cond.instanceMethod yX8_none ∈ gT := gW 492 rfl rfl
set_option maxRecDepth 100000 in
theorem g493 : Cond.selects RX8 yX8_none yX8_none ∈ gT := gW 493 rfl rfl
theorem vL_36 : vOk RL mX8_none 36 0 8 := ⟨⟨g494, rfl⟩, g66, g491, g492, g493, dkX8_none, _, rfl, rfl⟩
set_option maxRecDepth 100000 in
theorem g497 : Cond.codeWith yL_either cL_either 5 (some .int) [(0, 10, 13, 13), (0, 10, 17, 15)] ∈ gT := gW 497 rfl rfl
set_option maxRecDepth 100000 in
theorem g495 : Cond.methodLink RL 115 yL_either ∈ gT := gW 495 rfl rfl
theorem dkL_either : dOk mL_either 4 := by unfold dOk; decide +kernel
set_option maxRecDepth 100000 in
theorem g496 : Cond.static yL_either ∈ gT := gW 496 rfl rfl
theorem hL_115 : sHOk RL mL_either 115 4 := ⟨⟨g497, by decide⟩, g65, g495, g496, dkL_either⟩
set_option maxRecDepth 100000 in
theorem g501 : Cond.code yX8_either cX8_either 3 (some .int) ∈ gT := gW 501 rfl rfl
set_option maxRecDepth 100000 in
theorem g498 : Cond.methodLink RL 39 yX8_either ∈ gT := gW 498 rfl rfl
theorem dkX8_either : dOk mX8_either 2 := by unfold dOk; decide +kernel
set_option maxRecDepth 100000 in
theorem g499 : Cond.instanceMethod yX8_either ∈ gT := gW 499 rfl rfl
set_option maxRecDepth 100000 in
theorem g500 : Cond.selects RX8 yX8_either yX8_either ∈ gT := gW 500 rfl rfl
theorem vL_39 : vOk RL mX8_either 39 2 8 := ⟨⟨g501, rfl⟩, g66, g498, g499, g500, dkX8_either, _, rfl, rfl⟩
set_option maxRecDepth 100000 in
theorem g505 : Cond.code yX8_termAt cX8_termAt 3 (some (.object "LayeredActs$Term")) ∈ gT := gW 505 rfl rfl
set_option maxRecDepth 100000 in
theorem g502 : Cond.methodLink RX8 68 yX8_termAt ∈ gT := gW 502 rfl rfl
theorem dkX8_termAt : dOk mX8_termAt 1 := by unfold dOk; decide +kernel
set_option maxRecDepth 100000 in
theorem g504 : Cond.instanceMethod yX8_termAt ∈ gT := gW 504 rfl rfl
set_option maxRecDepth 100000 in
theorem g4 : Cond.selects RX8 yX8_termAt yX8_termAt ∈ gT := gW 4 rfl rfl
theorem vX8_68 : vOk RX8 mX8_termAt 68 1 8 := ⟨⟨g505, rfl⟩, g66, g502, g504, g4, dkX8_termAt, _, rfl, rfl⟩
set_option maxRecDepth 100000 in
theorem g509 : Cond.codeWith yL_then cL_then 6 (some .int) [(0, 12, 15, 13), (0, 12, 19, 15)] ∈ gT := gW 509 rfl rfl
set_option maxRecDepth 100000 in
theorem g507 : Cond.methodLink RL 119 yL_then ∈ gT := gW 507 rfl rfl
theorem dkL_then : dOk mL_then 5 := by unfold dOk; decide +kernel
set_option maxRecDepth 100000 in
theorem g508 : Cond.static yL_then ∈ gT := gW 508 rfl rfl
theorem hL_119 : sHOk RL mL_then 119 5 := ⟨⟨g509, by decide⟩, g65, g507, g508, dkL_then⟩
set_option maxRecDepth 100000 in
theorem g513 : Cond.code yX8_then cX8_then 4 (some .int) ∈ gT := gW 513 rfl rfl
set_option maxRecDepth 100000 in
theorem g510 : Cond.methodLink RL 43 yX8_then ∈ gT := gW 510 rfl rfl
theorem dkX8_then : dOk mX8_then 3 := by unfold dOk; decide +kernel
set_option maxRecDepth 100000 in
theorem g511 : Cond.instanceMethod yX8_then ∈ gT := gW 511 rfl rfl
set_option maxRecDepth 100000 in
theorem g512 : Cond.selects RX8 yX8_then yX8_then ∈ gT := gW 512 rfl rfl
theorem vL_43 : vOk RL mX8_then 43 3 8 := ⟨⟨g513, rfl⟩, g66, g510, g511, g512, dkX8_then, _, rfl, rfl⟩
set_option maxRecDepth 100000 in
theorem g517 : Cond.code yX8_keepNaming cX8_keepNaming 5 (some .int) ∈ gT := gW 517 rfl rfl
set_option maxRecDepth 100000 in
theorem g514 : Cond.methodLink RX8 72 yX8_keepNaming ∈ gT := gW 514 rfl rfl
theorem dkX8_keepNaming : dOk mX8_keepNaming 4 := by unfold dOk; decide +kernel
set_option maxRecDepth 100000 in
theorem g516 : Cond.instanceMethod yX8_keepNaming ∈ gT := gW 516 rfl rfl
set_option maxRecDepth 100000 in
theorem g5 : Cond.selects RX8 yX8_keepNaming yX8_keepNaming ∈ gT := gW 5 rfl rfl
theorem vX8_72 : vOk RX8 mX8_keepNaming 72 4 8 := ⟨⟨g517, rfl⟩, g66, g514, g516, g5, dkX8_keepNaming, _, rfl, rfl⟩
set_option maxRecDepth 100000 in
theorem g520 : Cond.codeWith yL_saved cL_saved 6 (some .int) [(0, 12, 15, 13), (0, 12, 19, 15)] ∈ gT := gW 520 rfl rfl
set_option maxRecDepth 100000 in
theorem g518 : Cond.methodLink RL 122 yL_saved ∈ gT := gW 518 rfl rfl
theorem dkL_saved : dOk mL_saved 5 := by unfold dOk; decide +kernel
set_option maxRecDepth 100000 in
theorem g519 : Cond.static yL_saved ∈ gT := gW 519 rfl rfl
theorem hL_122 : sHOk RL mL_saved 122 5 := ⟨⟨g520, by decide⟩, g65, g518, g519, dkL_saved⟩
set_option maxRecDepth 100000 in
theorem g524 : Cond.code yX8_saved cX8_saved 4 (some .int) ∈ gT := gW 524 rfl rfl
set_option maxRecDepth 100000 in
theorem g521 : Cond.methodLink RL 46 yX8_saved ∈ gT := gW 521 rfl rfl
theorem dkX8_saved : dOk mX8_saved 3 := by unfold dOk; decide +kernel
set_option maxRecDepth 100000 in
theorem g522 : Cond.instanceMethod yX8_saved ∈ gT := gW 522 rfl rfl
set_option maxRecDepth 100000 in
theorem g523 : Cond.selects RX8 yX8_saved yX8_saved ∈ gT := gW 523 rfl rfl
theorem vL_46 : vOk RL mX8_saved 46 3 8 := ⟨⟨g524, rfl⟩, g66, g521, g522, g523, dkX8_saved, _, rfl, rfl⟩
set_option maxRecDepth 100000 in
theorem g527 : Cond.codeWith yL_when cL_when 6 (some .int) [(0, 12, 15, 13), (0, 12, 19, 15)] ∈ gT := gW 527 rfl rfl
set_option maxRecDepth 100000 in
theorem g525 : Cond.methodLink RL 125 yL_when ∈ gT := gW 525 rfl rfl
theorem dkL_when : dOk mL_when 5 := by unfold dOk; decide +kernel
set_option maxRecDepth 100000 in
theorem g526 : Cond.static yL_when ∈ gT := gW 526 rfl rfl
theorem hL_125 : sHOk RL mL_when 125 5 := ⟨⟨g527, by decide⟩, g65, g525, g526, dkL_when⟩
set_option maxRecDepth 100000 in
theorem g531 : Cond.code yX8_when cX8_when 4 (some .int) ∈ gT := gW 531 rfl rfl
set_option maxRecDepth 100000 in
theorem g528 : Cond.methodLink RL 49 yX8_when ∈ gT := gW 528 rfl rfl
theorem dkX8_when : dOk mX8_when 3 := by unfold dOk; decide +kernel
set_option maxRecDepth 100000 in
theorem g529 : Cond.instanceMethod yX8_when ∈ gT := gW 529 rfl rfl
set_option maxRecDepth 100000 in
theorem g530 : Cond.selects RX8 yX8_when yX8_when ∈ gT := gW 530 rfl rfl
theorem vL_49 : vOk RL mX8_when 49 3 8 := ⟨⟨g531, rfl⟩, g66, g528, g529, g530, dkX8_when, _, rfl, rfl⟩
set_option maxRecDepth 100000 in
theorem g534 : Cond.codeWith yL_times cL_times 6 (some .int) [(0, 12, 15, 13), (0, 12, 19, 15)] ∈ gT := gW 534 rfl rfl
set_option maxRecDepth 100000 in
theorem g532 : Cond.methodLink RL 128 yL_times ∈ gT := gW 532 rfl rfl
theorem dkL_times : dOk mL_times 5 := by unfold dOk; decide +kernel
set_option maxRecDepth 100000 in
theorem g533 : Cond.static yL_times ∈ gT := gW 533 rfl rfl
theorem hL_128 : sHOk RL mL_times 128 5 := ⟨⟨g534, by decide⟩, g65, g532, g533, dkL_times⟩
set_option maxRecDepth 100000 in
theorem g538 : Cond.code yX8_times cX8_times 4 (some .int) ∈ gT := gW 538 rfl rfl
set_option maxRecDepth 100000 in
theorem g535 : Cond.methodLink RL 52 yX8_times ∈ gT := gW 535 rfl rfl
theorem dkX8_times : dOk mX8_times 3 := by unfold dOk; decide +kernel
set_option maxRecDepth 100000 in
theorem g536 : Cond.instanceMethod yX8_times ∈ gT := gW 536 rfl rfl
set_option maxRecDepth 100000 in
theorem g537 : Cond.selects RX8 yX8_times yX8_times ∈ gT := gW 537 rfl rfl
theorem vL_52 : vOk RL mX8_times 52 3 8 := ⟨⟨g538, rfl⟩, g66, g535, g536, g537, dkX8_times, _, rfl, rfl⟩
set_option maxRecDepth 100000 in
theorem g541 : Cond.codeWith yL_as cL_as 5 (some .int) [(0, 10, 13, 13), (0, 10, 17, 21), (0, 10, 21, 15)] ∈ gT := gW 541 rfl rfl
set_option maxRecDepth 100000 in
theorem g539 : Cond.methodLink RL 132 yL_as ∈ gT := gW 539 rfl rfl
theorem dkL_as : dOk mL_as 4 := by unfold dOk; decide +kernel
set_option maxRecDepth 100000 in
theorem g540 : Cond.static yL_as ∈ gT := gW 540 rfl rfl
theorem hL_132 : sHOk RL mL_as 132 4 := ⟨⟨g541, by decide⟩, g65, g539, g540, dkL_as⟩
set_option maxRecDepth 100000 in
theorem g545 : Cond.code yX8_as cX8_as 4 (some .int) ∈ gT := gW 545 rfl rfl
set_option maxRecDepth 100000 in
theorem g542 : Cond.methodLink RL 56 yX8_as ∈ gT := gW 542 rfl rfl
theorem dkX8_as : dOk mX8_as 2 := by unfold dOk; decide +kernel
set_option maxRecDepth 100000 in
theorem g543 : Cond.instanceMethod yX8_as ∈ gT := gW 543 rfl rfl
set_option maxRecDepth 100000 in
theorem g544 : Cond.selects RX8 yX8_as yX8_as ∈ gT := gW 544 rfl rfl
theorem vL_56 : vOk RL mX8_as 56 2 8 := ⟨⟨g545, rfl⟩, g66, g542, g543, g544, dkX8_as, _, rfl, rfl⟩
set_option maxRecDepth 100000 in
theorem g549 : Cond.codeWith yL_order cL_order 7 (some .int) [(0, 14, 17, 21)] ∈ gT := gW 549 rfl rfl
set_option maxRecDepth 100000 in
theorem g547 : Cond.methodLink RL 135 yL_order ∈ gT := gW 547 rfl rfl
theorem dkL_order : dOk mL_order 6 := by unfold dOk; decide +kernel
set_option maxRecDepth 100000 in
theorem g548 : Cond.static yL_order ∈ gT := gW 548 rfl rfl
theorem hL_135 : sHOk RL mL_order 135 6 := ⟨⟨g549, by decide⟩, g65, g547, g548, dkL_order⟩
set_option maxRecDepth 100000 in
theorem g553 : Cond.code yX8_order cX8_order 6 (some .int) ∈ gT := gW 553 rfl rfl
set_option maxRecDepth 100000 in
theorem g550 : Cond.methodLink RL 59 yX8_order ∈ gT := gW 550 rfl rfl
theorem dkX8_order : dOk mX8_order 4 := by unfold dOk; decide +kernel
set_option maxRecDepth 100000 in
theorem g551 : Cond.instanceMethod yX8_order ∈ gT := gW 551 rfl rfl
set_option maxRecDepth 100000 in
theorem g552 : Cond.selects RX8 yX8_order yX8_order ∈ gT := gW 552 rfl rfl
theorem vL_59 : vOk RL mX8_order 59 4 8 := ⟨⟨g553, rfl⟩, g66, g550, g551, g552, dkX8_order, _, rfl, rfl⟩
set_option maxRecDepth 100000 in
theorem g556 : Cond.code yX8_withLayer cX8_withLayer 2 (some .int) ∈ gT := gW 556 rfl rfl
set_option maxRecDepth 100000 in
theorem g554 : Cond.methodLink RX8 82 yX8_withLayer ∈ gT := gW 554 rfl rfl
theorem dkX8_withLayer : dOk mX8_withLayer 2 := by unfold dOk; decide +kernel
set_option maxRecDepth 100000 in
theorem g555 : Cond.static yX8_withLayer ∈ gT := gW 555 rfl rfl
theorem sX8_82 : sOk RX8 mX8_withLayer 82 2 := ⟨⟨g556, rfl⟩, g66, g554, g555, dkX8_withLayer⟩
set_option maxRecDepth 100000 in
theorem g560 : Cond.code yJ6_bitCount_0f7a4 cJ6_bitCount_0f7a4 1 (some .int) ∈ gT := gW 560 rfl rfl
set_option maxRecDepth 100000 in
theorem g83 : Cond.initialized RJ6 ∈ gT := gW 83 rfl rfl
set_option maxRecDepth 100000 in
theorem g558 : Cond.methodLink RX8 86 yJ6_bitCount_0f7a4 ∈ gT := gW 558 rfl rfl
theorem dkJ6_bitCount_0f7a4 : dOk mJ6_bitCount_0f7a4 1 := by unfold dOk; decide +kernel
set_option maxRecDepth 100000 in
theorem g559 : Cond.static yJ6_bitCount_0f7a4 ∈ gT := gW 559 rfl rfl
theorem sX8_86 : sOk RX8 mJ6_bitCount_0f7a4 86 1 := ⟨⟨g560, rfl⟩, g83, g558, g559, dkJ6_bitCount_0f7a4⟩
set_option maxRecDepth 100000 in
theorem g566 : Cond.codeWith yL_needs cL_needs 4 (some .int) [(0, 9, 12, 13)] ∈ gT := gW 566 rfl rfl
set_option maxRecDepth 100000 in
theorem g564 : Cond.methodLink RL 139 yL_needs ∈ gT := gW 564 rfl rfl
theorem dkL_needs : dOk mL_needs 3 := by unfold dOk; decide +kernel
set_option maxRecDepth 100000 in
theorem g565 : Cond.static yL_needs ∈ gT := gW 565 rfl rfl
theorem hL_139 : sHOk RL mL_needs 139 3 := ⟨⟨g566, by decide⟩, g65, g564, g565, dkL_needs⟩
set_option maxRecDepth 100000 in
theorem g570 : Cond.code yX8_needs cX8_needs 2 (some .int) ∈ gT := gW 570 rfl rfl
set_option maxRecDepth 100000 in
theorem g567 : Cond.methodLink RL 63 yX8_needs ∈ gT := gW 567 rfl rfl
theorem dkX8_needs : dOk mX8_needs 1 := by unfold dOk; decide +kernel
set_option maxRecDepth 100000 in
theorem g568 : Cond.instanceMethod yX8_needs ∈ gT := gW 568 rfl rfl
set_option maxRecDepth 100000 in
theorem g569 : Cond.selects RX8 yX8_needs yX8_needs ∈ gT := gW 569 rfl rfl
theorem vL_63 : vOk RL mX8_needs 63 1 8 := ⟨⟨g570, rfl⟩, g66, g567, g568, g569, dkX8_needs, _, rfl, rfl⟩
set_option maxRecDepth 100000 in
theorem g573 : Cond.codeWith yL_run cL_run 6 (some .int) [(0, 12, 15, 13), (0, 12, 19, 21), (0, 12, 23, 70)] ∈ gT := gW 573 rfl rfl
set_option maxRecDepth 100000 in
theorem g571 : Cond.methodLink RL 143 yL_run ∈ gT := gW 571 rfl rfl
theorem dkL_run : dOk mL_run 5 := by unfold dOk; decide +kernel
set_option maxRecDepth 100000 in
theorem g572 : Cond.static yL_run ∈ gT := gW 572 rfl rfl
theorem hL_143 : sHOk RL mL_run 143 5 := ⟨⟨g573, by decide⟩, g65, g571, g572, dkL_run⟩
set_option maxRecDepth 100000 in
theorem g578 : Cond.code yX8_run cX8_run 5 (some .int) ∈ gT := gW 578 rfl rfl
set_option maxRecDepth 100000 in
theorem g575 : Cond.methodLink RL 67 yX8_run ∈ gT := gW 575 rfl rfl
theorem dkX8_run : dOk mX8_run 3 := by unfold dOk; decide +kernel
set_option maxRecDepth 100000 in
theorem g576 : Cond.instanceMethod yX8_run ∈ gT := gW 576 rfl rfl
set_option maxRecDepth 100000 in
theorem g577 : Cond.selects RX8 yX8_run yX8_run ∈ gT := gW 577 rfl rfl
theorem vL_67 : vOk RL mX8_run 67 3 8 := ⟨⟨g578, rfl⟩, g66, g575, g576, g577, dkX8_run, _, rfl, rfl⟩
set_option maxRecDepth 100000 in
theorem g581 : Cond.code yX8_requireSteps cX8_requireSteps 1 none ∈ gT := gW 581 rfl rfl
set_option maxRecDepth 100000 in
theorem g579 : Cond.methodLink RX8 96 yX8_requireSteps ∈ gT := gW 579 rfl rfl
theorem dkX8_requireSteps : dOk mX8_requireSteps 1 := by unfold dOk; decide +kernel
set_option maxRecDepth 100000 in
theorem g580 : Cond.static yX8_requireSteps ∈ gT := gW 580 rfl rfl
theorem sX8_96 : sOk RX8 mX8_requireSteps 96 1 := ⟨⟨g581, rfl⟩, g66, g579, g580, dkX8_requireSteps⟩
set_option maxRecDepth 100000 in
theorem g586 : Cond.code yX8_requireLayers cX8_requireLayers 2 none ∈ gT := gW 586 rfl rfl
set_option maxRecDepth 100000 in
theorem g583 : Cond.methodLink RX8 99 yX8_requireLayers ∈ gT := gW 583 rfl rfl
theorem dkX8_requireLayers : dOk mX8_requireLayers 1 := by unfold dOk; decide +kernel
set_option maxRecDepth 100000 in
theorem g585 : Cond.instanceMethod yX8_requireLayers ∈ gT := gW 585 rfl rfl
set_option maxRecDepth 100000 in
theorem g6 : Cond.selects RX8 yX8_requireLayers yX8_requireLayers ∈ gT := gW 6 rfl rfl
theorem vX8_99 : vOk RX8 mX8_requireLayers 99 1 8 := ⟨⟨g586, rfl⟩, g66, g583, g585, g6, dkX8_requireLayers, _, rfl, rfl⟩
set_option maxRecDepth 100000 in
theorem g606 : Cond.code yX3_carryOut cX3_carryOut 7 none ∈ gT := gW 606 rfl rfl
set_option maxRecDepth 100000 in
theorem g67 : Cond.initialized RX3 ∈ gT := gW 67 rfl rfl
set_option maxRecDepth 100000 in
theorem g603 : Cond.methodLink RX8 102 yX3_carryOut ∈ gT := gW 603 rfl rfl
theorem dkX3_carryOut : dOk mX3_carryOut 5 := by unfold dOk; decide +kernel
set_option maxRecDepth 100000 in
theorem g604 : Cond.instanceMethod yX3_carryOut ∈ gT := gW 604 rfl rfl
set_option maxRecDepth 100000 in
theorem g605 : Cond.selects RX3 yX3_carryOut yX3_carryOut ∈ gT := gW 605 rfl rfl
theorem vX8_102 : vOk RX8 mX3_carryOut 102 5 3 := ⟨⟨g606, rfl⟩, g67, g603, g604, g605, dkX3_carryOut, _, rfl, rfl⟩
set_option maxRecDepth 100000 in
theorem g610 : Cond.code yX3_clear cX3_clear 2 none ∈ gT := gW 610 rfl rfl
set_option maxRecDepth 100000 in
theorem g607 : Cond.methodLink RX3 45 yX3_clear ∈ gT := gW 607 rfl rfl
theorem dkX3_clear : dOk mX3_clear 0 := by unfold dOk; decide +kernel
set_option maxRecDepth 100000 in
theorem g609 : Cond.instanceMethod yX3_clear ∈ gT := gW 609 rfl rfl
set_option maxRecDepth 100000 in
theorem g7 : Cond.selects RX3 yX3_clear yX3_clear ∈ gT := gW 7 rfl rfl
theorem vX3_45 : vOk RX3 mX3_clear 45 0 3 := ⟨⟨g610, rfl⟩, g67, g607, g609, g7, dkX3_clear, _, rfl, rfl⟩
set_option maxRecDepth 100000 in
theorem g614 : Cond.code yX2_clear cX2_clear 1 none ∈ gT := gW 614 rfl rfl
set_option maxRecDepth 100000 in
theorem g69 : Cond.initialized RX2 ∈ gT := gW 69 rfl rfl
set_option maxRecDepth 100000 in
theorem g611 : Cond.methodLink RX3 74 yX2_clear ∈ gT := gW 611 rfl rfl
theorem dkX2_clear : dOk mX2_clear 0 := by unfold dOk; decide +kernel
set_option maxRecDepth 100000 in
theorem g612 : Cond.instanceMethod yX2_clear ∈ gT := gW 612 rfl rfl
set_option maxRecDepth 100000 in
theorem g613 : Cond.selects RX2 yX2_clear yX2_clear ∈ gT := gW 613 rfl rfl
theorem vX3_74 : vOk RX3 mX2_clear 74 0 2 := ⟨⟨g614, rfl⟩, g69, g611, g612, g613, dkX2_clear, _, rfl, rfl⟩
set_option maxRecDepth 100000 in
theorem g618 : Cond.code yX5_cutTo cX5_cutTo 2 none ∈ gT := gW 618 rfl rfl
set_option maxRecDepth 100000 in
theorem g68 : Cond.initialized RX5 ∈ gT := gW 68 rfl rfl
set_option maxRecDepth 100000 in
theorem g615 : Cond.methodLink RX3 75 yX5_cutTo ∈ gT := gW 615 rfl rfl
theorem dkX5_cutTo : dOk mX5_cutTo 1 := by unfold dOk; decide +kernel
set_option maxRecDepth 100000 in
theorem g616 : Cond.instanceMethod yX5_cutTo ∈ gT := gW 616 rfl rfl
set_option maxRecDepth 100000 in
theorem g617 : Cond.selects RX5 yX5_cutTo yX5_cutTo ∈ gT := gW 617 rfl rfl
theorem vX3_75 : vOk RX3 mX5_cutTo 75 1 5 := ⟨⟨g618, rfl⟩, g68, g615, g616, g617, dkX5_cutTo, _, rfl, rfl⟩
set_option maxRecDepth 100000 in
theorem g622 : Cond.code yX3_perform cX3_perform 2 (some .int) ∈ gT := gW 622 rfl rfl
set_option maxRecDepth 100000 in
theorem g619 : Cond.methodLink RX3 48 yX3_perform ∈ gT := gW 619 rfl rfl
theorem dkX3_perform : dOk mX3_perform 1 := by unfold dOk; decide +kernel
set_option maxRecDepth 100000 in
theorem g621 : Cond.instanceMethod yX3_perform ∈ gT := gW 621 rfl rfl
set_option maxRecDepth 100000 in
theorem g8 : Cond.selects RX3 yX3_perform yX3_perform ∈ gT := gW 8 rfl rfl
theorem vX3_48 : vOk RX3 mX3_perform 48 1 3 := ⟨⟨g622, rfl⟩, g67, g619, g621, g8, dkX3_perform, _, rfl, rfl⟩
set_option maxRecDepth 100000 in
theorem g626 : Cond.code yX3_operandOf cX3_operandOf 2 (some .int) ∈ gT := gW 626 rfl rfl
set_option maxRecDepth 100000 in
theorem g623 : Cond.methodLink RX3 147 yX3_operandOf ∈ gT := gW 623 rfl rfl
theorem dkX3_operandOf : dOk mX3_operandOf 1 := by unfold dOk; decide +kernel
set_option maxRecDepth 100000 in
theorem g625 : Cond.instanceMethod yX3_operandOf ∈ gT := gW 625 rfl rfl
set_option maxRecDepth 100000 in
theorem g9 : Cond.selects RX3 yX3_operandOf yX3_operandOf ∈ gT := gW 9 rfl rfl
theorem vX3_147 : vOk RX3 mX3_operandOf 147 1 3 := ⟨⟨g626, rfl⟩, g67, g623, g625, g9, dkX3_operandOf, _, rfl, rfl⟩
set_option maxRecDepth 100000 in
theorem g630 : Cond.code yX3_numberOf cX3_numberOf 2 (some .int) ∈ gT := gW 630 rfl rfl
set_option maxRecDepth 100000 in
theorem g627 : Cond.methodLink RX3 173 yX3_numberOf ∈ gT := gW 627 rfl rfl
theorem dkX3_numberOf : dOk mX3_numberOf 1 := by unfold dOk; decide +kernel
set_option maxRecDepth 100000 in
theorem g629 : Cond.instanceMethod yX3_numberOf ∈ gT := gW 629 rfl rfl
set_option maxRecDepth 100000 in
theorem g10 : Cond.selects RX3 yX3_numberOf yX3_numberOf ∈ gT := gW 10 rfl rfl
theorem vX3_173 : vOk RX3 mX3_numberOf 173 1 3 := ⟨⟨g630, rfl⟩, g67, g627, g629, g10, dkX3_numberOf, _, rfl, rfl⟩
set_option maxRecDepth 100000 in
theorem g634 : Cond.code yX3_answer cX3_answer 2 (some .int) ∈ gT := gW 634 rfl rfl
set_option maxRecDepth 100000 in
theorem g631 : Cond.methodLink RX3 150 yX3_answer ∈ gT := gW 631 rfl rfl
theorem dkX3_answer : dOk mX3_answer 1 := by unfold dOk; decide +kernel
set_option maxRecDepth 100000 in
theorem g633 : Cond.instanceMethod yX3_answer ∈ gT := gW 633 rfl rfl
set_option maxRecDepth 100000 in
theorem g11 : Cond.selects RX3 yX3_answer yX3_answer ∈ gT := gW 11 rfl rfl
theorem vX3_150 : vOk RX3 mX3_answer 150 1 3 := ⟨⟨g634, rfl⟩, g67, g631, g633, g11, dkX3_answer, _, rfl, rfl⟩
set_option maxRecDepth 100000 in
theorem g638 : Cond.code yX5_push cX5_push 5 (some .boolean) ∈ gT := gW 638 rfl rfl
set_option maxRecDepth 100000 in
theorem g635 : Cond.methodLink RX3 203 yX5_push ∈ gT := gW 635 rfl rfl
theorem dkX5_push : dOk mX5_push 4 := by unfold dOk; decide +kernel
set_option maxRecDepth 100000 in
theorem g636 : Cond.instanceMethod yX5_push ∈ gT := gW 636 rfl rfl
set_option maxRecDepth 100000 in
theorem g637 : Cond.selects RX5 yX5_push yX5_push ∈ gT := gW 637 rfl rfl
theorem vX3_203 : vOk RX3 mX5_push 203 4 5 := ⟨⟨g638, rfl⟩, g68, g635, g636, g637, dkX5_push, _, rfl, rfl⟩
set_option maxRecDepth 100000 in
theorem g642 : Cond.code yX3_performWrite cX3_performWrite 3 (some .int) ∈ gT := gW 642 rfl rfl
set_option maxRecDepth 100000 in
theorem g639 : Cond.methodLink RX3 152 yX3_performWrite ∈ gT := gW 639 rfl rfl
theorem dkX3_performWrite : dOk mX3_performWrite 1 := by unfold dOk; decide +kernel
set_option maxRecDepth 100000 in
theorem g641 : Cond.instanceMethod yX3_performWrite ∈ gT := gW 641 rfl rfl
set_option maxRecDepth 100000 in
theorem g12 : Cond.selects RX3 yX3_performWrite yX3_performWrite ∈ gT := gW 12 rfl rfl
theorem vX3_152 : vOk RX3 mX3_performWrite 152 1 3 := ⟨⟨g642, rfl⟩, g67, g639, g641, g12, dkX3_performWrite, _, rfl, rfl⟩
set_option maxRecDepth 100000 in
theorem g646 : Cond.code yX3_performSay cX3_performSay 3 (some .int) ∈ gT := gW 646 rfl rfl
set_option maxRecDepth 100000 in
theorem g643 : Cond.methodLink RX3 155 yX3_performSay ∈ gT := gW 643 rfl rfl
theorem dkX3_performSay : dOk mX3_performSay 1 := by unfold dOk; decide +kernel
set_option maxRecDepth 100000 in
theorem g645 : Cond.instanceMethod yX3_performSay ∈ gT := gW 645 rfl rfl
set_option maxRecDepth 100000 in
theorem g13 : Cond.selects RX3 yX3_performSay yX3_performSay ∈ gT := gW 13 rfl rfl
theorem vX3_155 : vOk RX3 mX3_performSay 155 1 3 := ⟨⟨g646, rfl⟩, g67, g643, g645, g13, dkX3_performSay, _, rfl, rfl⟩
set_option maxRecDepth 100000 in
theorem g650 : Cond.code yX2_with cX2_with 4 (some .int) ∈ gT := gW 650 rfl rfl
set_option maxRecDepth 100000 in
theorem g647 : Cond.methodLink RX3 207 yX2_with ∈ gT := gW 647 rfl rfl
theorem dkX2_with : dOk mX2_with 2 := by unfold dOk; decide +kernel
set_option maxRecDepth 100000 in
theorem g648 : Cond.instanceMethod yX2_with ∈ gT := gW 648 rfl rfl
set_option maxRecDepth 100000 in
theorem g649 : Cond.selects RX2 yX2_with yX2_with ∈ gT := gW 649 rfl rfl
theorem vX3_207 : vOk RX3 mX2_with 207 2 2 := ⟨⟨g650, rfl⟩, g69, g647, g648, g649, dkX2_with, _, rfl, rfl⟩
set_option maxRecDepth 100000 in
theorem g654 : Cond.code yX2_lengthOf cX2_lengthOf 2 (some .int) ∈ gT := gW 654 rfl rfl
set_option maxRecDepth 100000 in
theorem g651 : Cond.methodLink RX2 29 yX2_lengthOf ∈ gT := gW 651 rfl rfl
theorem dkX2_lengthOf : dOk mX2_lengthOf 1 := by unfold dOk; decide +kernel
set_option maxRecDepth 100000 in
theorem g652 : Cond.instanceMethod yX2_lengthOf ∈ gT := gW 652 rfl rfl
set_option maxRecDepth 100000 in
theorem g653 : Cond.selects RX2 yX2_lengthOf yX2_lengthOf ∈ gT := gW 653 rfl rfl
theorem vX2_29 : vOk RX2 mX2_lengthOf 29 1 2 := ⟨⟨g654, rfl⟩, g69, g651, g652, g653, dkX2_lengthOf, _, rfl, rfl⟩
set_option maxRecDepth 100000 in
theorem g658 : Cond.code yX2_has cX2_has 2 (some .boolean) ∈ gT := gW 658 rfl rfl
set_option maxRecDepth 100000 in
theorem g655 : Cond.methodLink RX2 25 yX2_has ∈ gT := gW 655 rfl rfl
theorem dkX2_has : dOk mX2_has 1 := by unfold dOk; decide +kernel
set_option maxRecDepth 100000 in
theorem g657 : Cond.instanceMethod yX2_has ∈ gT := gW 657 rfl rfl
set_option maxRecDepth 100000 in
theorem g14 : Cond.selects RX2 yX2_has yX2_has ∈ gT := gW 14 rfl rfl
theorem vX2_25 : vOk RX2 mX2_has 25 1 2 := ⟨⟨g658, rfl⟩, g69, g655, g657, g14, dkX2_has, _, rfl, rfl⟩
set_option maxRecDepth 100000 in
theorem g662 : Cond.code yX3_performFail cX3_performFail 2 (some .int) ∈ gT := gW 662 rfl rfl
set_option maxRecDepth 100000 in
theorem g659 : Cond.methodLink RX3 158 yX3_performFail ∈ gT := gW 659 rfl rfl
theorem dkX3_performFail : dOk mX3_performFail 1 := by unfold dOk; decide +kernel
set_option maxRecDepth 100000 in
theorem g661 : Cond.instanceMethod yX3_performFail ∈ gT := gW 661 rfl rfl
set_option maxRecDepth 100000 in
theorem g15 : Cond.selects RX3 yX3_performFail yX3_performFail ∈ gT := gW 15 rfl rfl
theorem vX3_158 : vOk RX3 mX3_performFail 158 1 3 := ⟨⟨g662, rfl⟩, g67, g659, g661, g15, dkX3_performFail, _, rfl, rfl⟩
set_option maxRecDepth 100000 in
theorem g666 : Cond.code yX3_performEither cX3_performEither 6 (some .int) ∈ gT := gW 666 rfl rfl
set_option maxRecDepth 100000 in
theorem g663 : Cond.methodLink RX3 161 yX3_performEither ∈ gT := gW 663 rfl rfl
theorem dkX3_performEither : dOk mX3_performEither 1 := by unfold dOk; decide +kernel
set_option maxRecDepth 100000 in
theorem g665 : Cond.instanceMethod yX3_performEither ∈ gT := gW 665 rfl rfl
set_option maxRecDepth 100000 in
theorem g16 : Cond.selects RX3 yX3_performEither yX3_performEither ∈ gT := gW 16 rfl rfl
theorem vX3_161 : vOk RX3 mX3_performEither 161 1 3 := ⟨⟨g666, rfl⟩, g67, g663, g665, g16, dkX3_performEither, _, rfl, rfl⟩
set_option maxRecDepth 100000 in
theorem g670 : Cond.code yX5_size cX5_size 1 (some .int) ∈ gT := gW 670 rfl rfl
set_option maxRecDepth 100000 in
theorem g667 : Cond.methodLink RX3 52 yX5_size ∈ gT := gW 667 rfl rfl
theorem dkX5_size : dOk mX5_size 0 := by unfold dOk; decide +kernel
set_option maxRecDepth 100000 in
theorem g668 : Cond.instanceMethod yX5_size ∈ gT := gW 668 rfl rfl
set_option maxRecDepth 100000 in
theorem g669 : Cond.selects RX5 yX5_size yX5_size ∈ gT := gW 669 rfl rfl
theorem vX3_52 : vOk RX3 mX5_size 52 0 5 := ⟨⟨g670, rfl⟩, g68, g667, g668, g669, dkX5_size, _, rfl, rfl⟩
set_option maxRecDepth 100000 in
theorem g674 : Cond.code yX3_takeOwn cX3_takeOwn 3 none ∈ gT := gW 674 rfl rfl
set_option maxRecDepth 100000 in
theorem g671 : Cond.methodLink RX3 214 yX3_takeOwn ∈ gT := gW 671 rfl rfl
theorem dkX3_takeOwn : dOk mX3_takeOwn 2 := by unfold dOk; decide +kernel
set_option maxRecDepth 100000 in
theorem g673 : Cond.instanceMethod yX3_takeOwn ∈ gT := gW 673 rfl rfl
set_option maxRecDepth 100000 in
theorem g17 : Cond.selects RX3 yX3_takeOwn yX3_takeOwn ∈ gT := gW 17 rfl rfl
theorem vX3_214 : vOk RX3 mX3_takeOwn 214 2 3 := ⟨⟨g674, rfl⟩, g67, g671, g673, g17, dkX3_takeOwn, _, rfl, rfl⟩
set_option maxRecDepth 100000 in
theorem g678 : Cond.code yX3_isTooMany cX3_isTooMany 2 (some .boolean) ∈ gT := gW 678 rfl rfl
set_option maxRecDepth 100000 in
theorem g675 : Cond.methodLink RX3 217 yX3_isTooMany ∈ gT := gW 675 rfl rfl
theorem dkX3_isTooMany : dOk mX3_isTooMany 1 := by unfold dOk; decide +kernel
set_option maxRecDepth 100000 in
theorem g677 : Cond.instanceMethod yX3_isTooMany ∈ gT := gW 677 rfl rfl
set_option maxRecDepth 100000 in
theorem g18 : Cond.selects RX3 yX3_isTooMany yX3_isTooMany ∈ gT := gW 18 rfl rfl
theorem vX3_217 : vOk RX3 mX3_isTooMany 217 1 3 := ⟨⟨g678, rfl⟩, g67, g675, g677, g18, dkX3_isTooMany, _, rfl, rfl⟩
set_option maxRecDepth 100000 in
theorem g682 : Cond.code yX3_performThen cX3_performThen 4 (some .int) ∈ gT := gW 682 rfl rfl
set_option maxRecDepth 100000 in
theorem g679 : Cond.methodLink RX3 164 yX3_performThen ∈ gT := gW 679 rfl rfl
theorem dkX3_performThen : dOk mX3_performThen 1 := by unfold dOk; decide +kernel
set_option maxRecDepth 100000 in
theorem g681 : Cond.instanceMethod yX3_performThen ∈ gT := gW 681 rfl rfl
set_option maxRecDepth 100000 in
theorem g19 : Cond.selects RX3 yX3_performThen yX3_performThen ∈ gT := gW 19 rfl rfl
theorem vX3_164 : vOk RX3 mX3_performThen 164 1 3 := ⟨⟨g682, rfl⟩, g67, g679, g681, g19, dkX3_performThen, _, rfl, rfl⟩
set_option maxRecDepth 100000 in
theorem g686 : Cond.code yX3_performEach cX3_performEach 8 (some .int) ∈ gT := gW 686 rfl rfl
set_option maxRecDepth 100000 in
theorem g683 : Cond.methodLink RX3 220 yX3_performEach ∈ gT := gW 683 rfl rfl
theorem dkX3_performEach : dOk mX3_performEach 4 := by unfold dOk; decide +kernel
set_option maxRecDepth 100000 in
theorem g685 : Cond.instanceMethod yX3_performEach ∈ gT := gW 685 rfl rfl
set_option maxRecDepth 100000 in
theorem g20 : Cond.selects RX3 yX3_performEach yX3_performEach ∈ gT := gW 20 rfl rfl
theorem vX3_220 : vOk RX3 mX3_performEach 220 4 3 := ⟨⟨g686, rfl⟩, g67, g683, g685, g20, dkX3_performEach, _, rfl, rfl⟩
set_option maxRecDepth 100000 in
theorem g690 : Cond.code yX5_isError cX5_isError 2 (some .boolean) ∈ gT := gW 690 rfl rfl
set_option maxRecDepth 100000 in
theorem g687 : Cond.methodLink RX3 122 yX5_isError ∈ gT := gW 687 rfl rfl
theorem dkX5_isError : dOk mX5_isError 1 := by unfold dOk; decide +kernel
set_option maxRecDepth 100000 in
theorem g688 : Cond.instanceMethod yX5_isError ∈ gT := gW 688 rfl rfl
set_option maxRecDepth 100000 in
theorem g689 : Cond.selects RX5 yX5_isError yX5_isError ∈ gT := gW 689 rfl rfl
theorem vX3_122 : vOk RX3 mX5_isError 122 1 5 := ⟨⟨g690, rfl⟩, g68, g687, g688, g689, dkX5_isError, _, rfl, rfl⟩
set_option maxRecDepth 100000 in
theorem g694 : Cond.code yX5_has cX5_has 2 (some .boolean) ∈ gT := gW 694 rfl rfl
set_option maxRecDepth 100000 in
theorem g691 : Cond.methodLink RX5 29 yX5_has ∈ gT := gW 691 rfl rfl
theorem dkX5_has : dOk mX5_has 1 := by unfold dOk; decide +kernel
set_option maxRecDepth 100000 in
theorem g693 : Cond.instanceMethod yX5_has ∈ gT := gW 693 rfl rfl
set_option maxRecDepth 100000 in
theorem g21 : Cond.selects RX5 yX5_has yX5_has ∈ gT := gW 21 rfl rfl
theorem vX5_29 : vOk RX5 mX5_has 29 1 5 := ⟨⟨g694, rfl⟩, g68, g691, g693, g21, dkX5_has, _, rfl, rfl⟩
set_option maxRecDepth 100000 in
theorem g698 : Cond.code yX5_stateOf cX5_stateOf 2 (some .int) ∈ gT := gW 698 rfl rfl
set_option maxRecDepth 100000 in
theorem g695 : Cond.methodLink RX3 133 yX5_stateOf ∈ gT := gW 695 rfl rfl
theorem dkX5_stateOf : dOk mX5_stateOf 1 := by unfold dOk; decide +kernel
set_option maxRecDepth 100000 in
theorem g696 : Cond.instanceMethod yX5_stateOf ∈ gT := gW 696 rfl rfl
set_option maxRecDepth 100000 in
theorem g697 : Cond.selects RX5 yX5_stateOf yX5_stateOf ∈ gT := gW 697 rfl rfl
theorem vX3_133 : vOk RX3 mX5_stateOf 133 1 5 := ⟨⟨g698, rfl⟩, g68, g695, g696, g697, dkX5_stateOf, _, rfl, rfl⟩
set_option maxRecDepth 100000 in
theorem g702 : Cond.code yX5_logOf cX5_logOf 2 (some .int) ∈ gT := gW 702 rfl rfl
set_option maxRecDepth 100000 in
theorem g699 : Cond.methodLink RX3 139 yX5_logOf ∈ gT := gW 699 rfl rfl
theorem dkX5_logOf : dOk mX5_logOf 1 := by unfold dOk; decide +kernel
set_option maxRecDepth 100000 in
theorem g700 : Cond.instanceMethod yX5_logOf ∈ gT := gW 700 rfl rfl
set_option maxRecDepth 100000 in
theorem g701 : Cond.selects RX5 yX5_logOf yX5_logOf ∈ gT := gW 701 rfl rfl
theorem vX3_139 : vOk RX3 mX5_logOf 139 1 5 := ⟨⟨g702, rfl⟩, g68, g699, g700, g701, dkX5_logOf, _, rfl, rfl⟩
set_option maxRecDepth 100000 in
theorem g706 : Cond.code yX5_numberOf cX5_numberOf 2 (some .int) ∈ gT := gW 706 rfl rfl
set_option maxRecDepth 100000 in
theorem g703 : Cond.methodLink RX3 126 yX5_numberOf ∈ gT := gW 703 rfl rfl
theorem dkX5_numberOf : dOk mX5_numberOf 1 := by unfold dOk; decide +kernel
set_option maxRecDepth 100000 in
theorem g704 : Cond.instanceMethod yX5_numberOf ∈ gT := gW 704 rfl rfl
set_option maxRecDepth 100000 in
theorem g705 : Cond.selects RX5 yX5_numberOf yX5_numberOf ∈ gT := gW 705 rfl rfl
theorem vX3_126 : vOk RX3 mX5_numberOf 126 1 5 := ⟨⟨g706, rfl⟩, g68, g703, g704, g705, dkX5_numberOf, _, rfl, rfl⟩
set_option maxRecDepth 100000 in
theorem g710 : Cond.code yX3_performNaming cX3_performNaming 6 (some .int) ∈ gT := gW 710 rfl rfl
set_option maxRecDepth 100000 in
theorem g707 : Cond.methodLink RX3 224 yX3_performNaming ∈ gT := gW 707 rfl rfl
theorem dkX3_performNaming : dOk mX3_performNaming 3 := by unfold dOk; decide +kernel
set_option maxRecDepth 100000 in
theorem g709 : Cond.instanceMethod yX3_performNaming ∈ gT := gW 709 rfl rfl
set_option maxRecDepth 100000 in
theorem g22 : Cond.selects RX3 yX3_performNaming yX3_performNaming ∈ gT := gW 22 rfl rfl
theorem vX3_224 : vOk RX3 mX3_performNaming 224 3 3 := ⟨⟨g710, rfl⟩, g67, g707, g709, g22, dkX3_performNaming, _, rfl, rfl⟩
set_option maxRecDepth 100000 in
theorem g714 : Cond.code yX5_pushAgain cX5_pushAgain 2 (some .boolean) ∈ gT := gW 714 rfl rfl
set_option maxRecDepth 100000 in
theorem g711 : Cond.methodLink RX3 246 yX5_pushAgain ∈ gT := gW 711 rfl rfl
theorem dkX5_pushAgain : dOk mX5_pushAgain 1 := by unfold dOk; decide +kernel
set_option maxRecDepth 100000 in
theorem g712 : Cond.instanceMethod yX5_pushAgain ∈ gT := gW 712 rfl rfl
set_option maxRecDepth 100000 in
theorem g713 : Cond.selects RX5 yX5_pushAgain yX5_pushAgain ∈ gT := gW 713 rfl rfl
theorem vX3_246 : vOk RX3 mX5_pushAgain 246 1 5 := ⟨⟨g714, rfl⟩, g68, g711, g712, g713, dkX5_pushAgain, _, rfl, rfl⟩
set_option maxRecDepth 100000 in
theorem g715 : Cond.methodLink RX5 35 yX5_numberOf ∈ gT := gW 715 rfl rfl
theorem vX5_35 : vOk RX5 mX5_numberOf 35 1 5 := ⟨⟨g706, rfl⟩, g68, g715, g704, g705, dkX5_numberOf, _, rfl, rfl⟩
set_option maxRecDepth 100000 in
theorem g716 : Cond.methodLink RX5 39 yX5_isError ∈ gT := gW 716 rfl rfl
theorem vX5_39 : vOk RX5 mX5_isError 39 1 5 := ⟨⟨g690, rfl⟩, g68, g716, g688, g689, dkX5_isError, _, rfl, rfl⟩
set_option maxRecDepth 100000 in
theorem g717 : Cond.methodLink RX5 42 yX5_stateOf ∈ gT := gW 717 rfl rfl
theorem vX5_42 : vOk RX5 mX5_stateOf 42 1 5 := ⟨⟨g698, rfl⟩, g68, g717, g696, g697, dkX5_stateOf, _, rfl, rfl⟩
set_option maxRecDepth 100000 in
theorem g718 : Cond.methodLink RX5 45 yX5_logOf ∈ gT := gW 718 rfl rfl
theorem vX5_45 : vOk RX5 mX5_logOf 45 1 5 := ⟨⟨g702, rfl⟩, g68, g718, g700, g701, dkX5_logOf, _, rfl, rfl⟩
set_option maxRecDepth 100000 in
theorem g719 : Cond.methodLink RX5 48 yX5_push ∈ gT := gW 719 rfl rfl
theorem vX5_48 : vOk RX5 mX5_push 48 4 5 := ⟨⟨g638, rfl⟩, g68, g719, g636, g637, dkX5_push, _, rfl, rfl⟩
set_option maxRecDepth 100000 in
theorem g723 : Cond.code yX5_closeGap cX5_closeGap 5 none ∈ gT := gW 723 rfl rfl
set_option maxRecDepth 100000 in
theorem g720 : Cond.methodLink RX3 249 yX5_closeGap ∈ gT := gW 720 rfl rfl
theorem dkX5_closeGap : dOk mX5_closeGap 2 := by unfold dOk; decide +kernel
set_option maxRecDepth 100000 in
theorem g721 : Cond.instanceMethod yX5_closeGap ∈ gT := gW 721 rfl rfl
set_option maxRecDepth 100000 in
theorem g722 : Cond.selects RX5 yX5_closeGap yX5_closeGap ∈ gT := gW 722 rfl rfl
theorem vX3_249 : vOk RX3 mX5_closeGap 249 2 5 := ⟨⟨g723, rfl⟩, g68, g720, g721, g722, dkX5_closeGap, _, rfl, rfl⟩
set_option maxRecDepth 100000 in
theorem g726 : Cond.code yJ9_min_7cf53 cJ9_min_7cf53 2 (some .int) ∈ gT := gW 726 rfl rfl
set_option maxRecDepth 100000 in
theorem g724 : Cond.methodLink RX5 52 yJ9_min_7cf53 ∈ gT := gW 724 rfl rfl
theorem dkJ9_min_7cf53 : dOk mJ9_min_7cf53 2 := by unfold dOk; decide +kernel
set_option maxRecDepth 100000 in
theorem g725 : Cond.static yJ9_min_7cf53 ∈ gT := gW 725 rfl rfl
theorem sX5_52 : sOk RX5 mJ9_min_7cf53 52 2 := ⟨⟨g726, rfl⟩, g79, g724, g725, dkJ9_min_7cf53⟩
set_option maxRecDepth 100000 in
theorem g727 : Cond.methodLink RX5 58 yX5_cutTo ∈ gT := gW 727 rfl rfl
theorem vX5_58 : vOk RX5 mX5_cutTo 58 1 5 := ⟨⟨g618, rfl⟩, g68, g727, g616, g617, dkX5_cutTo, _, rfl, rfl⟩
set_option maxRecDepth 100000 in
theorem g728 : Cond.methodLink RX5 62 yJ9_max_7cf53 ∈ gT := gW 728 rfl rfl
theorem sX5_62 : sOk RX5 mJ9_max_7cf53 62 2 := ⟨⟨g376, rfl⟩, g79, g728, g375, dkJ9_max_7cf53⟩
set_option maxRecDepth 100000 in
theorem g732 : Cond.code yX3_performSaved cX3_performSaved 7 (some .int) ∈ gT := gW 732 rfl rfl
set_option maxRecDepth 100000 in
theorem g729 : Cond.methodLink RX3 167 yX3_performSaved ∈ gT := gW 729 rfl rfl
theorem dkX3_performSaved : dOk mX3_performSaved 1 := by unfold dOk; decide +kernel
set_option maxRecDepth 100000 in
theorem g731 : Cond.instanceMethod yX3_performSaved ∈ gT := gW 731 rfl rfl
set_option maxRecDepth 100000 in
theorem g23 : Cond.selects RX3 yX3_performSaved yX3_performSaved ∈ gT := gW 23 rfl rfl
theorem vX3_167 : vOk RX3 mX3_performSaved 167 1 3 := ⟨⟨g732, rfl⟩, g67, g729, g731, g23, dkX3_performSaved, _, rfl, rfl⟩
set_option maxRecDepth 100000 in
theorem g736 : Cond.code yX5_setState cX5_setState 3 none ∈ gT := gW 736 rfl rfl
set_option maxRecDepth 100000 in
theorem g733 : Cond.methodLink RX3 228 yX5_setState ∈ gT := gW 733 rfl rfl
theorem dkX5_setState : dOk mX5_setState 2 := by unfold dOk; decide +kernel
set_option maxRecDepth 100000 in
theorem g734 : Cond.instanceMethod yX5_setState ∈ gT := gW 734 rfl rfl
set_option maxRecDepth 100000 in
theorem g735 : Cond.selects RX5 yX5_setState yX5_setState ∈ gT := gW 735 rfl rfl
theorem vX3_228 : vOk RX3 mX5_setState 228 2 5 := ⟨⟨g736, rfl⟩, g68, g733, g734, g735, dkX5_setState, _, rfl, rfl⟩
set_option maxRecDepth 100000 in
theorem g740 : Cond.code yX5_setLog cX5_setLog 3 none ∈ gT := gW 740 rfl rfl
set_option maxRecDepth 100000 in
theorem g737 : Cond.methodLink RX3 230 yX5_setLog ∈ gT := gW 737 rfl rfl
theorem dkX5_setLog : dOk mX5_setLog 2 := by unfold dOk; decide +kernel
set_option maxRecDepth 100000 in
theorem g738 : Cond.instanceMethod yX5_setLog ∈ gT := gW 738 rfl rfl
set_option maxRecDepth 100000 in
theorem g739 : Cond.selects RX5 yX5_setLog yX5_setLog ∈ gT := gW 739 rfl rfl
theorem vX3_230 : vOk RX3 mX5_setLog 230 2 5 := ⟨⟨g740, rfl⟩, g68, g737, g738, g739, dkX5_setLog, _, rfl, rfl⟩
set_option maxRecDepth 100000 in
theorem g744 : Cond.code yX3_performTimes cX3_performTimes 6 (some .int) ∈ gT := gW 744 rfl rfl
set_option maxRecDepth 100000 in
theorem g741 : Cond.methodLink RX3 181 yX3_performTimes ∈ gT := gW 741 rfl rfl
theorem dkX3_performTimes : dOk mX3_performTimes 1 := by unfold dOk; decide +kernel
set_option maxRecDepth 100000 in
theorem g743 : Cond.instanceMethod yX3_performTimes ∈ gT := gW 743 rfl rfl
set_option maxRecDepth 100000 in
theorem g24 : Cond.selects RX3 yX3_performTimes yX3_performTimes ∈ gT := gW 24 rfl rfl
theorem vX3_181 : vOk RX3 mX3_performTimes 181 1 3 := ⟨⟨g744, rfl⟩, g67, g741, g743, g24, dkX3_performTimes, _, rfl, rfl⟩
set_option maxRecDepth 100000 in
theorem g745 : Cond.methodLink RX3 232 yJ9_min_7cf53 ∈ gT := gW 745 rfl rfl
theorem sX3_232 : sOk RX3 mJ9_min_7cf53 232 2 := ⟨⟨g726, rfl⟩, g79, g745, g725, dkJ9_min_7cf53⟩
set_option maxRecDepth 100000 in
theorem g746 : Cond.methodLink RX3 237 yJ9_max_7cf53 ∈ gT := gW 746 rfl rfl
theorem sX3_237 : sOk RX3 mJ9_max_7cf53 237 2 := ⟨⟨g376, rfl⟩, g79, g746, g375, dkJ9_max_7cf53⟩
set_option maxRecDepth 100000 in
theorem g750 : Cond.code yX3_performOnce cX3_performOnce 4 (some .int) ∈ gT := gW 750 rfl rfl
set_option maxRecDepth 100000 in
theorem g747 : Cond.methodLink RX3 184 yX3_performOnce ∈ gT := gW 747 rfl rfl
theorem dkX3_performOnce : dOk mX3_performOnce 1 := by unfold dOk; decide +kernel
set_option maxRecDepth 100000 in
theorem g749 : Cond.instanceMethod yX3_performOnce ∈ gT := gW 749 rfl rfl
set_option maxRecDepth 100000 in
theorem g25 : Cond.selects RX3 yX3_performOnce yX3_performOnce ∈ gT := gW 25 rfl rfl
theorem vX3_184 : vOk RX3 mX3_performOnce 184 1 3 := ⟨⟨g750, rfl⟩, g67, g747, g749, g25, dkX3_performOnce, _, rfl, rfl⟩
set_option maxRecDepth 100000 in
theorem g754 : Cond.code yX3_performHeard cX3_performHeard 7 (some .int) ∈ gT := gW 754 rfl rfl
set_option maxRecDepth 100000 in
theorem g751 : Cond.methodLink RX3 187 yX3_performHeard ∈ gT := gW 751 rfl rfl
theorem dkX3_performHeard : dOk mX3_performHeard 1 := by unfold dOk; decide +kernel
set_option maxRecDepth 100000 in
theorem g753 : Cond.instanceMethod yX3_performHeard ∈ gT := gW 753 rfl rfl
set_option maxRecDepth 100000 in
theorem g26 : Cond.selects RX3 yX3_performHeard yX3_performHeard ∈ gT := gW 26 rfl rfl
theorem vX3_187 : vOk RX3 mX3_performHeard 187 1 3 := ⟨⟨g754, rfl⟩, g67, g751, g753, g26, dkX3_performHeard, _, rfl, rfl⟩
set_option maxRecDepth 100000 in
theorem g755 : Cond.methodLink RX3 240 yX2_lengthOf ∈ gT := gW 755 rfl rfl
theorem vX3_240 : vOk RX3 mX2_lengthOf 240 1 2 := ⟨⟨g654, rfl⟩, g69, g755, g652, g653, dkX2_lengthOf, _, rfl, rfl⟩
set_option maxRecDepth 100000 in
theorem g759 : Cond.code yX5_setNumber cX5_setNumber 3 none ∈ gT := gW 759 rfl rfl
set_option maxRecDepth 100000 in
theorem g756 : Cond.methodLink RX3 243 yX5_setNumber ∈ gT := gW 756 rfl rfl
theorem dkX5_setNumber : dOk mX5_setNumber 2 := by unfold dOk; decide +kernel
set_option maxRecDepth 100000 in
theorem g757 : Cond.instanceMethod yX5_setNumber ∈ gT := gW 757 rfl rfl
set_option maxRecDepth 100000 in
theorem g758 : Cond.selects RX5 yX5_setNumber yX5_setNumber ∈ gT := gW 758 rfl rfl
theorem vX3_243 : vOk RX3 mX5_setNumber 243 2 5 := ⟨⟨g759, rfl⟩, g68, g756, g757, g758, dkX5_setNumber, _, rfl, rfl⟩
set_option maxRecDepth 100000 in
theorem g763 : Cond.code yX3_performHidden cX3_performHidden 6 (some .int) ∈ gT := gW 763 rfl rfl
set_option maxRecDepth 100000 in
theorem g760 : Cond.methodLink RX3 190 yX3_performHidden ∈ gT := gW 760 rfl rfl
theorem dkX3_performHidden : dOk mX3_performHidden 1 := by unfold dOk; decide +kernel
set_option maxRecDepth 100000 in
theorem g762 : Cond.instanceMethod yX3_performHidden ∈ gT := gW 762 rfl rfl
set_option maxRecDepth 100000 in
theorem g27 : Cond.selects RX3 yX3_performHidden yX3_performHidden ∈ gT := gW 27 rfl rfl
theorem vX3_190 : vOk RX3 mX3_performHidden 190 1 3 := ⟨⟨g763, rfl⟩, g67, g760, g762, g27, dkX3_performHidden, _, rfl, rfl⟩
set_option maxRecDepth 100000 in
theorem g766 : Cond.code yX3_reckon cX3_reckon 3 (some .int) ∈ gT := gW 766 rfl rfl
set_option maxRecDepth 100000 in
theorem g764 : Cond.methodLink RX3 193 yX3_reckon ∈ gT := gW 764 rfl rfl
theorem dkX3_reckon : dOk mX3_reckon 3 := by unfold dOk; decide +kernel
set_option maxRecDepth 100000 in
theorem g765 : Cond.static yX3_reckon ∈ gT := gW 765 rfl rfl
theorem sX3_193 : sOk RX3 mX3_reckon 193 3 := ⟨⟨g766, rfl⟩, g67, g764, g765, dkX3_reckon⟩
set_option maxRecDepth 100000 in
theorem g770 : Cond.code yX3_tell cX3_tell 3 none ∈ gT := gW 770 rfl rfl
set_option maxRecDepth 100000 in
theorem g767 : Cond.methodLink RX3 61 yX3_tell ∈ gT := gW 767 rfl rfl
theorem dkX3_tell : dOk mX3_tell 1 := by unfold dOk; decide +kernel
set_option maxRecDepth 100000 in
theorem g769 : Cond.instanceMethod yX3_tell ∈ gT := gW 769 rfl rfl
set_option maxRecDepth 100000 in
theorem g28 : Cond.selects RX3 yX3_tell yX3_tell ∈ gT := gW 28 rfl rfl
theorem vX3_61 : vOk RX3 mX3_tell 61 1 3 := ⟨⟨g770, rfl⟩, g67, g767, g769, g28, dkX3_tell, _, rfl, rfl⟩
set_option maxRecDepth 100000 in
theorem g774 : Cond.code yX3_tellCommon cX3_tellCommon 3 none ∈ gT := gW 774 rfl rfl
set_option maxRecDepth 100000 in
theorem g771 : Cond.methodLink RX3 83 yX3_tellCommon ∈ gT := gW 771 rfl rfl
theorem dkX3_tellCommon : dOk mX3_tellCommon 2 := by unfold dOk; decide +kernel
set_option maxRecDepth 100000 in
theorem g773 : Cond.instanceMethod yX3_tellCommon ∈ gT := gW 773 rfl rfl
set_option maxRecDepth 100000 in
theorem g29 : Cond.selects RX3 yX3_tellCommon yX3_tellCommon ∈ gT := gW 29 rfl rfl
theorem vX3_83 : vOk RX3 mX3_tellCommon 83 2 3 := ⟨⟨g774, rfl⟩, g67, g771, g773, g29, dkX3_tellCommon, _, rfl, rfl⟩
set_option maxRecDepth 100000 in
theorem g778 : Cond.code yX6_setHead cX6_setHead 3 none ∈ gT := gW 778 rfl rfl
set_option maxRecDepth 100000 in
theorem g72 : Cond.initialized RX6 ∈ gT := gW 72 rfl rfl
set_option maxRecDepth 100000 in
theorem g775 : Cond.methodLink RX3 95 yX6_setHead ∈ gT := gW 775 rfl rfl
theorem dkX6_setHead : dOk mX6_setHead 2 := by unfold dOk; decide +kernel
set_option maxRecDepth 100000 in
theorem g776 : Cond.instanceMethod yX6_setHead ∈ gT := gW 776 rfl rfl
set_option maxRecDepth 100000 in
theorem g777 : Cond.selects RX6 yX6_setHead yX6_setHead ∈ gT := gW 777 rfl rfl
theorem vX3_95 : vOk RX3 mX6_setHead 95 2 6 := ⟨⟨g778, rfl⟩, g72, g775, g776, g777, dkX6_setHead, _, rfl, rfl⟩
set_option maxRecDepth 100000 in
theorem g782 : Cond.code yX6_setState cX6_setState 3 none ∈ gT := gW 782 rfl rfl
set_option maxRecDepth 100000 in
theorem g779 : Cond.methodLink RX3 108 yX6_setState ∈ gT := gW 779 rfl rfl
theorem dkX6_setState : dOk mX6_setState 2 := by unfold dOk; decide +kernel
set_option maxRecDepth 100000 in
theorem g780 : Cond.instanceMethod yX6_setState ∈ gT := gW 780 rfl rfl
set_option maxRecDepth 100000 in
theorem g781 : Cond.selects RX6 yX6_setState yX6_setState ∈ gT := gW 781 rfl rfl
theorem vX3_108 : vOk RX3 mX6_setState 108 2 6 := ⟨⟨g782, rfl⟩, g72, g779, g780, g781, dkX6_setState, _, rfl, rfl⟩
set_option maxRecDepth 100000 in
theorem g786 : Cond.code yX6_setLog cX6_setLog 6 none ∈ gT := gW 786 rfl rfl
set_option maxRecDepth 100000 in
theorem g783 : Cond.methodLink RX3 118 yX6_setLog ∈ gT := gW 783 rfl rfl
theorem dkX6_setLog : dOk mX6_setLog 3 := by unfold dOk; decide +kernel
set_option maxRecDepth 100000 in
theorem g784 : Cond.instanceMethod yX6_setLog ∈ gT := gW 784 rfl rfl
set_option maxRecDepth 100000 in
theorem g785 : Cond.selects RX6 yX6_setLog yX6_setLog ∈ gT := gW 785 rfl rfl
theorem vX3_118 : vOk RX3 mX6_setLog 118 3 6 := ⟨⟨g786, rfl⟩, g72, g783, g784, g785, dkX6_setLog, _, rfl, rfl⟩
set_option maxRecDepth 100000 in
theorem g787 : Cond.methodLink RX6 25 yX2_lengthOf ∈ gT := gW 787 rfl rfl
theorem vX6_25 : vOk RX6 mX2_lengthOf 25 1 2 := ⟨⟨g654, rfl⟩, g69, g787, g652, g653, dkX2_lengthOf, _, rfl, rfl⟩
set_option maxRecDepth 100000 in
theorem g788 : Cond.methodLink RX6 31 yJ9_min_7cf53 ∈ gT := gW 788 rfl rfl
theorem sX6_31 : sOk RX6 mJ9_min_7cf53 31 2 := ⟨⟨g726, rfl⟩, g79, g788, g725, dkJ9_min_7cf53⟩
set_option maxRecDepth 100000 in
theorem g792 : Cond.code yX2_lastOf cX2_lastOf 2 (some .int) ∈ gT := gW 792 rfl rfl
set_option maxRecDepth 100000 in
theorem g789 : Cond.methodLink RX6 34 yX2_lastOf ∈ gT := gW 789 rfl rfl
theorem dkX2_lastOf : dOk mX2_lastOf 1 := by unfold dOk; decide +kernel
set_option maxRecDepth 100000 in
theorem g790 : Cond.instanceMethod yX2_lastOf ∈ gT := gW 790 rfl rfl
set_option maxRecDepth 100000 in
theorem g791 : Cond.selects RX2 yX2_lastOf yX2_lastOf ∈ gT := gW 791 rfl rfl
theorem vX6_34 : vOk RX6 mX2_lastOf 34 1 2 := ⟨⟨g792, rfl⟩, g69, g789, g790, g791, dkX2_lastOf, _, rfl, rfl⟩
set_option maxRecDepth 100000 in
theorem g796 : Cond.code yX2_withoutLast cX2_withoutLast 2 (some .int) ∈ gT := gW 796 rfl rfl
set_option maxRecDepth 100000 in
theorem g793 : Cond.methodLink RX6 37 yX2_withoutLast ∈ gT := gW 793 rfl rfl
theorem dkX2_withoutLast : dOk mX2_withoutLast 1 := by unfold dOk; decide +kernel
set_option maxRecDepth 100000 in
theorem g794 : Cond.instanceMethod yX2_withoutLast ∈ gT := gW 794 rfl rfl
set_option maxRecDepth 100000 in
theorem g795 : Cond.selects RX2 yX2_withoutLast yX2_withoutLast ∈ gT := gW 795 rfl rfl
theorem vX6_37 : vOk RX6 mX2_withoutLast 37 1 2 := ⟨⟨g796, rfl⟩, g69, g793, g794, g795, dkX2_withoutLast, _, rfl, rfl⟩
set_option maxRecDepth 100000 in
theorem g800 : Cond.code yX3_tellResult cX3_tellResult 4 none ∈ gT := gW 800 rfl rfl
set_option maxRecDepth 100000 in
theorem g797 : Cond.methodLink RX3 91 yX3_tellResult ∈ gT := gW 797 rfl rfl
theorem dkX3_tellResult : dOk mX3_tellResult 2 := by unfold dOk; decide +kernel
set_option maxRecDepth 100000 in
theorem g799 : Cond.instanceMethod yX3_tellResult ∈ gT := gW 799 rfl rfl
set_option maxRecDepth 100000 in
theorem g30 : Cond.selects RX3 yX3_tellResult yX3_tellResult ∈ gT := gW 30 rfl rfl
theorem vX3_91 : vOk RX3 mX3_tellResult 91 2 3 := ⟨⟨g800, rfl⟩, g67, g797, g799, g30, dkX3_tellResult, _, rfl, rfl⟩
set_option maxRecDepth 100000 in
theorem g803 : Cond.codeWith yL_result cL_result 5 (some .int) [(0, 10, 13, 13), (0, 10, 17, 21)] ∈ gT := gW 803 rfl rfl
set_option maxRecDepth 100000 in
theorem g801 : Cond.methodLink RL 146 yL_result ∈ gT := gW 801 rfl rfl
theorem dkL_result : dOk mL_result 4 := by unfold dOk; decide +kernel
set_option maxRecDepth 100000 in
theorem g802 : Cond.static yL_result ∈ gT := gW 802 rfl rfl
theorem hL_146 : sHOk RL mL_result 146 4 := ⟨⟨g803, by decide⟩, g65, g801, g802, dkL_result⟩
set_option maxRecDepth 100000 in
theorem g807 : Cond.code yX8_result cX8_result 4 (some .int) ∈ gT := gW 807 rfl rfl
set_option maxRecDepth 100000 in
theorem g804 : Cond.methodLink RL 72 yX8_result ∈ gT := gW 804 rfl rfl
theorem dkX8_result : dOk mX8_result 2 := by unfold dOk; decide +kernel
set_option maxRecDepth 100000 in
theorem g805 : Cond.instanceMethod yX8_result ∈ gT := gW 805 rfl rfl
set_option maxRecDepth 100000 in
theorem g806 : Cond.selects RX8 yX8_result yX8_result ∈ gT := gW 806 rfl rfl
theorem vL_72 : vOk RL mX8_result 72 2 8 := ⟨⟨g807, rfl⟩, g66, g804, g805, g806, dkX8_result, _, rfl, rfl⟩
set_option maxRecDepth 100000 in
theorem g811 : Cond.code yX4_rowOf cX4_rowOf 2 (some (.object "LayeredActs$Row")) ∈ gT := gW 811 rfl rfl
set_option maxRecDepth 100000 in
theorem g808 : Cond.methodLink RX8 109 yX4_rowOf ∈ gT := gW 808 rfl rfl
theorem dkX4_rowOf : dOk mX4_rowOf 1 := by unfold dOk; decide +kernel
set_option maxRecDepth 100000 in
theorem g809 : Cond.instanceMethod yX4_rowOf ∈ gT := gW 809 rfl rfl
set_option maxRecDepth 100000 in
theorem g810 : Cond.selects RX4 yX4_rowOf yX4_rowOf ∈ gT := gW 810 rfl rfl
theorem vX8_109 : vOk RX8 mX4_rowOf 109 1 4 := ⟨⟨g811, rfl⟩, g71, g808, g809, g810, dkX4_rowOf, _, rfl, rfl⟩
set_option maxRecDepth 100000 in
theorem g815 : Cond.code yX8_tellOf cX8_tellOf 2 (some .int) ∈ gT := gW 815 rfl rfl
set_option maxRecDepth 100000 in
theorem g813 : Cond.methodLink RX8 118 yX8_tellOf ∈ gT := gW 813 rfl rfl
theorem dkX8_tellOf : dOk mX8_tellOf 2 := by unfold dOk; decide +kernel
set_option maxRecDepth 100000 in
theorem g814 : Cond.static yX8_tellOf ∈ gT := gW 814 rfl rfl
theorem sX8_118 : sOk RX8 mX8_tellOf 118 2 := ⟨⟨g815, rfl⟩, g66, g813, g814, dkX8_tellOf⟩
set_option maxRecDepth 100000 in
theorem g819 : Cond.code yX6_tells cX6_tells 2 (some .boolean) ∈ gT := gW 819 rfl rfl
set_option maxRecDepth 100000 in
theorem g816 : Cond.methodLink RX8 157 yX6_tells ∈ gT := gW 816 rfl rfl
theorem dkX6_tells : dOk mX6_tells 1 := by unfold dOk; decide +kernel
set_option maxRecDepth 100000 in
theorem g817 : Cond.instanceMethod yX6_tells ∈ gT := gW 817 rfl rfl
set_option maxRecDepth 100000 in
theorem g818 : Cond.selects RX6 yX6_tells yX6_tells ∈ gT := gW 818 rfl rfl
theorem vX8_157 : vOk RX8 mX6_tells 157 1 6 := ⟨⟨g819, rfl⟩, g72, g816, g817, g818, dkX6_tells, _, rfl, rfl⟩
set_option maxRecDepth 100000 in
theorem g820 : Cond.methodLink RX6 15 yJ9_max_7cf53 ∈ gT := gW 820 rfl rfl
theorem sX6_15 : sOk RX6 mJ9_max_7cf53 15 2 := ⟨⟨g376, rfl⟩, g79, g820, g375, dkJ9_max_7cf53⟩
set_option maxRecDepth 100000 in
theorem g825 : Cond.code yX6_at cX6_at 2 (some .int) ∈ gT := gW 825 rfl rfl
set_option maxRecDepth 100000 in
theorem g822 : Cond.methodLink RX8 165 yX6_at ∈ gT := gW 822 rfl rfl
theorem dkX6_at : dOk mX6_at 1 := by unfold dOk; decide +kernel
set_option maxRecDepth 100000 in
theorem g823 : Cond.instanceMethod yX6_at ∈ gT := gW 823 rfl rfl
set_option maxRecDepth 100000 in
theorem g824 : Cond.selects RX6 yX6_at yX6_at ∈ gT := gW 824 rfl rfl
theorem vX8_165 : vOk RX8 mX6_at 165 1 6 := ⟨⟨g825, rfl⟩, g72, g822, g823, g824, dkX6_at, _, rfl, rfl⟩
set_option maxRecDepth 100000 in
theorem g826 : Cond.methodLink RX6 21 yX6_tells ∈ gT := gW 826 rfl rfl
theorem vX6_21 : vOk RX6 mX6_tells 21 1 6 := ⟨⟨g819, rfl⟩, g72, g826, g817, g818, dkX6_tells, _, rfl, rfl⟩
set_option maxRecDepth 100000 in
theorem g829 : Cond.codeWith yL_shared cL_shared 4 (some .int) [(0, 9, 12, 70), (0, 9, 15, 21)] ∈ gT := gW 829 rfl rfl
set_option maxRecDepth 100000 in
theorem g827 : Cond.methodLink RL 149 yL_shared ∈ gT := gW 827 rfl rfl
theorem dkL_shared : dOk mL_shared 3 := by unfold dOk; decide +kernel
set_option maxRecDepth 100000 in
theorem g828 : Cond.static yL_shared ∈ gT := gW 828 rfl rfl
theorem hL_149 : sHOk RL mL_shared 149 3 := ⟨⟨g829, by decide⟩, g65, g827, g828, dkL_shared⟩
set_option maxRecDepth 100000 in
theorem g833 : Cond.code yX8_shared cX8_shared 2 (some .int) ∈ gT := gW 833 rfl rfl
set_option maxRecDepth 100000 in
theorem g830 : Cond.methodLink RL 75 yX8_shared ∈ gT := gW 830 rfl rfl
theorem dkX8_shared : dOk mX8_shared 1 := by unfold dOk; decide +kernel
set_option maxRecDepth 100000 in
theorem g831 : Cond.instanceMethod yX8_shared ∈ gT := gW 831 rfl rfl
set_option maxRecDepth 100000 in
theorem g832 : Cond.selects RX8 yX8_shared yX8_shared ∈ gT := gW 832 rfl rfl
theorem vL_75 : vOk RL mX8_shared 75 1 8 := ⟨⟨g833, rfl⟩, g66, g830, g831, g832, dkX8_shared, _, rfl, rfl⟩
set_option maxRecDepth 100000 in
theorem g837 : Cond.codeWith yL_alike cL_alike 7 (some .int) [(0, 21, 24, 13), (0, 21, 28, 21), (0, 21, 32, 70)] ∈ gT := gW 837 rfl rfl
set_option maxRecDepth 100000 in
theorem g835 : Cond.methodLink RL 152 yL_alike ∈ gT := gW 835 rfl rfl
theorem dkL_alike : dOk mL_alike 6 := by unfold dOk; decide +kernel
set_option maxRecDepth 100000 in
theorem g836 : Cond.static yL_alike ∈ gT := gW 836 rfl rfl
theorem hL_152 : sHOk RL mL_alike 152 6 := ⟨⟨g837, by decide⟩, g65, g835, g836, dkL_alike⟩
set_option maxRecDepth 100000 in
theorem g841 : Cond.code yX8_alike cX8_alike 7 (some .boolean) ∈ gT := gW 841 rfl rfl
set_option maxRecDepth 100000 in
theorem g838 : Cond.methodLink RL 78 yX8_alike ∈ gT := gW 838 rfl rfl
theorem dkX8_alike : dOk mX8_alike 4 := by unfold dOk; decide +kernel
set_option maxRecDepth 100000 in
theorem g839 : Cond.instanceMethod yX8_alike ∈ gT := gW 839 rfl rfl
set_option maxRecDepth 100000 in
theorem g840 : Cond.selects RX8 yX8_alike yX8_alike ∈ gT := gW 840 rfl rfl
theorem vL_78 : vOk RL mX8_alike 78 4 8 := ⟨⟨g841, rfl⟩, g66, g838, g839, g840, dkX8_alike, _, rfl, rfl⟩
set_option maxRecDepth 100000 in
theorem g845 : Cond.code yX4_isLike cX4_isLike 3 (some .boolean) ∈ gT := gW 845 rfl rfl
set_option maxRecDepth 100000 in
theorem g842 : Cond.methodLink RX8 131 yX4_isLike ∈ gT := gW 842 rfl rfl
theorem dkX4_isLike : dOk mX4_isLike 1 := by unfold dOk; decide +kernel
set_option maxRecDepth 100000 in
theorem g843 : Cond.instanceMethod yX4_isLike ∈ gT := gW 843 rfl rfl
set_option maxRecDepth 100000 in
theorem g844 : Cond.selects RX4 yX4_isLike yX4_isLike ∈ gT := gW 844 rfl rfl
theorem vX8_131 : vOk RX8 mX4_isLike 131 1 4 := ⟨⟨g845, rfl⟩, g71, g842, g843, g844, dkX4_isLike, _, rfl, rfl⟩
set_option maxRecDepth 100000 in
theorem g849 : Cond.code yX6_isLike cX6_isLike 4 (some .boolean) ∈ gT := gW 849 rfl rfl
set_option maxRecDepth 100000 in
theorem g846 : Cond.methodLink RX4 26 yX6_isLike ∈ gT := gW 846 rfl rfl
theorem dkX6_isLike : dOk mX6_isLike 2 := by unfold dOk; decide +kernel
set_option maxRecDepth 100000 in
theorem g847 : Cond.instanceMethod yX6_isLike ∈ gT := gW 847 rfl rfl
set_option maxRecDepth 100000 in
theorem g848 : Cond.selects RX6 yX6_isLike yX6_isLike ∈ gT := gW 848 rfl rfl
theorem vX4_26 : vOk RX4 mX6_isLike 26 2 6 := ⟨⟨g849, rfl⟩, g72, g846, g847, g848, dkX6_isLike, _, rfl, rfl⟩
set_option maxRecDepth 100000 in
theorem g850 : Cond.methodLink RX6 40 yX6_at ∈ gT := gW 850 rfl rfl
theorem vX6_40 : vOk RX6 mX6_at 40 1 6 := ⟨⟨g825, rfl⟩, g72, g850, g823, g824, dkX6_at, _, rfl, rfl⟩
set_option maxRecDepth 100000 in
theorem g854 : Cond.code yX9_thrown cX9_thrown 1 (some .int) ∈ gT := gW 854 rfl rfl
set_option maxRecDepth 100000 in
theorem g73 : Cond.initialized RX9 ∈ gT := gW 73 rfl rfl
set_option maxRecDepth 100000 in
theorem g851 : Cond.methodLink RL 92 yX9_thrown ∈ gT := gW 851 rfl rfl
theorem dkX9_thrown : dOk mX9_thrown 0 := by unfold dOk; decide +kernel
set_option maxRecDepth 100000 in
theorem g852 : Cond.instanceMethod yX9_thrown ∈ gT := gW 852 rfl rfl
set_option maxRecDepth 100000 in
theorem g853 : Cond.selects RX9 yX9_thrown yX9_thrown ∈ gT := gW 853 rfl rfl
theorem vL_92 : vOk RL mX9_thrown 92 0 9 := ⟨⟨g854, rfl⟩, g73, g851, g852, g853, dkX9_thrown, _, rfl, rfl⟩
set_option maxRecDepth 100000 in
theorem g859 : Cond.code yX9_init cX9_init 2 none ∈ gT := gW 859 rfl rfl
set_option maxRecDepth 100000 in
theorem g857 : Cond.methodLink RL 85 yX9_init ∈ gT := gW 857 rfl rfl
theorem dkX9_init : dOk mX9_init 0 := by unfold dOk; decide +kernel
set_option maxRecDepth 100000 in
theorem g858 : Cond.instanceMethod yX9_init ∈ gT := gW 858 rfl rfl
theorem iL_85 : iOk RL mX9_init 85 0 := ⟨⟨g859, rfl⟩, g73, g857, g858, dkX9_init, rfl, rfl⟩
set_option maxRecDepth 100000 in
theorem g1027 : Cond.code yX9_give cX9_give 3 (some .int) ∈ gT := gW 1027 rfl rfl
set_option maxRecDepth 100000 in
theorem g1024 : Cond.methodLink RL 91 yX9_give ∈ gT := gW 1024 rfl rfl
theorem dkX9_give : dOk mX9_give 2 := by unfold dOk; decide +kernel
set_option maxRecDepth 100000 in
theorem g1025 : Cond.instanceMethod yX9_give ∈ gT := gW 1025 rfl rfl
set_option maxRecDepth 100000 in
theorem g1026 : Cond.selects RX9 yX9_give yX9_give ∈ gT := gW 1026 rfl rfl
theorem vL_91 : vOk RL mX9_give 91 2 9 := ⟨⟨g1027, rfl⟩, g73, g1024, g1025, g1026, dkX9_give, _, rfl, rfl⟩
set_option maxRecDepth 100000 in
theorem g1031 : Cond.code yX9_operand cX9_operand 5 (some .int) ∈ gT := gW 1031 rfl rfl
set_option maxRecDepth 100000 in
theorem g1028 : Cond.methodLink RX9 160 yX9_operand ∈ gT := gW 1028 rfl rfl
theorem dkX9_operand : dOk mX9_operand 4 := by unfold dOk; decide +kernel
set_option maxRecDepth 100000 in
theorem g1030 : Cond.instanceMethod yX9_operand ∈ gT := gW 1030 rfl rfl
set_option maxRecDepth 100000 in
theorem g31 : Cond.selects RX9 yX9_operand yX9_operand ∈ gT := gW 31 rfl rfl
theorem vX9_160 : vOk RX9 mX9_operand 160 4 9 := ⟨⟨g1031, rfl⟩, g73, g1028, g1030, g31, dkX9_operand, _, rfl, rfl⟩
set_option maxRecDepth 100000 in
theorem g1034 : Cond.code yX9_isName cX9_isName 1 (some .boolean) ∈ gT := gW 1034 rfl rfl
set_option maxRecDepth 100000 in
theorem g1032 : Cond.methodLink RX9 148 yX9_isName ∈ gT := gW 1032 rfl rfl
theorem dkX9_isName : dOk mX9_isName 1 := by unfold dOk; decide +kernel
set_option maxRecDepth 100000 in
theorem g1033 : Cond.static yX9_isName ∈ gT := gW 1033 rfl rfl
theorem sX9_148 : sOk RX9 mX9_isName 148 1 := ⟨⟨g1034, rfl⟩, g73, g1032, g1033, dkX9_isName⟩
set_option maxRecDepth 100000 in
theorem g1038 : Cond.code yX9_refuse cX9_refuse 2 (some .int) ∈ gT := gW 1038 rfl rfl
set_option maxRecDepth 100000 in
theorem g1035 : Cond.methodLink RX9 152 yX9_refuse ∈ gT := gW 1035 rfl rfl
theorem dkX9_refuse : dOk mX9_refuse 1 := by unfold dOk; decide +kernel
set_option maxRecDepth 100000 in
theorem g1037 : Cond.instanceMethod yX9_refuse ∈ gT := gW 1037 rfl rfl
set_option maxRecDepth 100000 in
theorem g32 : Cond.selects RX9 yX9_refuse yX9_refuse ∈ gT := gW 32 rfl rfl
theorem vX9_152 : vOk RX9 mX9_refuse 152 1 9 := ⟨⟨g1038, rfl⟩, g73, g1035, g1037, g32, dkX9_refuse, _, rfl, rfl⟩
set_option maxRecDepth 100000 in
theorem g1042 : Cond.code yX9_made cX9_made 7 (some .int) ∈ gT := gW 1042 rfl rfl
set_option maxRecDepth 100000 in
theorem g1039 : Cond.methodLink RX9 156 yX9_made ∈ gT := gW 1039 rfl rfl
theorem dkX9_made : dOk mX9_made 6 := by unfold dOk; decide +kernel
set_option maxRecDepth 100000 in
theorem g1041 : Cond.instanceMethod yX9_made ∈ gT := gW 1041 rfl rfl
set_option maxRecDepth 100000 in
theorem g33 : Cond.selects RX9 yX9_made yX9_made ∈ gT := gW 33 rfl rfl
theorem vX9_156 : vOk RX9 mX9_made 156 6 9 := ⟨⟨g1042, rfl⟩, g73, g1039, g1041, g33, dkX9_made, _, rfl, rfl⟩
set_option maxRecDepth 100000 in
theorem g1046 : Cond.code yX9_above cX9_above 3 (some .int) ∈ gT := gW 1046 rfl rfl
set_option maxRecDepth 100000 in
theorem g1043 : Cond.methodLink RX9 144 yX9_above ∈ gT := gW 1043 rfl rfl
theorem dkX9_above : dOk mX9_above 2 := by unfold dOk; decide +kernel
set_option maxRecDepth 100000 in
theorem g1045 : Cond.instanceMethod yX9_above ∈ gT := gW 1045 rfl rfl
set_option maxRecDepth 100000 in
theorem g34 : Cond.selects RX9 yX9_above yX9_above ∈ gT := gW 34 rfl rfl
theorem vX9_144 : vOk RX9 mX9_above 144 2 9 := ⟨⟨g1046, rfl⟩, g73, g1043, g1045, g34, dkX9_above, _, rfl, rfl⟩
set_option maxRecDepth 100000 in
theorem g1050 : Cond.code yX9_of cX9_of 4 (some .int) ∈ gT := gW 1050 rfl rfl
set_option maxRecDepth 100000 in
theorem g1047 : Cond.methodLink RL 98 yX9_of ∈ gT := gW 1047 rfl rfl
theorem dkX9_of : dOk mX9_of 3 := by unfold dOk; decide +kernel
set_option maxRecDepth 100000 in
theorem g1048 : Cond.instanceMethod yX9_of ∈ gT := gW 1048 rfl rfl
set_option maxRecDepth 100000 in
theorem g1049 : Cond.selects RX9 yX9_of yX9_of ∈ gT := gW 1049 rfl rfl
theorem vL_98 : vOk RL mX9_of 98 3 9 := ⟨⟨g1050, rfl⟩, g73, g1047, g1048, g1049, dkX9_of, _, rfl, rfl⟩
set_option maxRecDepth 100000 in
theorem g1054 : Cond.code yX9_read cX9_read 1 (some .int) ∈ gT := gW 1054 rfl rfl
set_option maxRecDepth 100000 in
theorem g1051 : Cond.methodLink RL 102 yX9_read ∈ gT := gW 1051 rfl rfl
theorem dkX9_read : dOk mX9_read 0 := by unfold dOk; decide +kernel
set_option maxRecDepth 100000 in
theorem g1052 : Cond.instanceMethod yX9_read ∈ gT := gW 1052 rfl rfl
set_option maxRecDepth 100000 in
theorem g1053 : Cond.selects RX9 yX9_read yX9_read ∈ gT := gW 1053 rfl rfl
theorem vL_102 : vOk RL mX9_read 102 0 9 := ⟨⟨g1054, rfl⟩, g73, g1051, g1052, g1053, dkX9_read, _, rfl, rfl⟩
set_option maxRecDepth 100000 in
theorem g1058 : Cond.code yX9_write cX9_write 3 (some .int) ∈ gT := gW 1058 rfl rfl
set_option maxRecDepth 100000 in
theorem g1055 : Cond.methodLink RL 105 yX9_write ∈ gT := gW 1055 rfl rfl
theorem dkX9_write : dOk mX9_write 2 := by unfold dOk; decide +kernel
set_option maxRecDepth 100000 in
theorem g1056 : Cond.instanceMethod yX9_write ∈ gT := gW 1056 rfl rfl
set_option maxRecDepth 100000 in
theorem g1057 : Cond.selects RX9 yX9_write yX9_write ∈ gT := gW 1057 rfl rfl
theorem vL_105 : vOk RL mX9_write 105 2 9 := ⟨⟨g1058, rfl⟩, g73, g1055, g1056, g1057, dkX9_write, _, rfl, rfl⟩
set_option maxRecDepth 100000 in
theorem g1062 : Cond.code yX9_say cX9_say 3 (some .int) ∈ gT := gW 1062 rfl rfl
set_option maxRecDepth 100000 in
theorem g1059 : Cond.methodLink RL 108 yX9_say ∈ gT := gW 1059 rfl rfl
theorem dkX9_say : dOk mX9_say 2 := by unfold dOk; decide +kernel
set_option maxRecDepth 100000 in
theorem g1060 : Cond.instanceMethod yX9_say ∈ gT := gW 1060 rfl rfl
set_option maxRecDepth 100000 in
theorem g1061 : Cond.selects RX9 yX9_say yX9_say ∈ gT := gW 1061 rfl rfl
theorem vL_108 : vOk RL mX9_say 108 2 9 := ⟨⟨g1062, rfl⟩, g73, g1059, g1060, g1061, dkX9_say, _, rfl, rfl⟩
set_option maxRecDepth 100000 in
theorem g1066 : Cond.code yX9_fail cX9_fail 3 (some .int) ∈ gT := gW 1066 rfl rfl
set_option maxRecDepth 100000 in
theorem g1063 : Cond.methodLink RL 111 yX9_fail ∈ gT := gW 1063 rfl rfl
theorem dkX9_fail : dOk mX9_fail 2 := by unfold dOk; decide +kernel
set_option maxRecDepth 100000 in
theorem g1064 : Cond.instanceMethod yX9_fail ∈ gT := gW 1064 rfl rfl
set_option maxRecDepth 100000 in
theorem g1065 : Cond.selects RX9 yX9_fail yX9_fail ∈ gT := gW 1065 rfl rfl
theorem vL_111 : vOk RL mX9_fail 111 2 9 := ⟨⟨g1066, rfl⟩, g73, g1063, g1064, g1065, dkX9_fail, _, rfl, rfl⟩
set_option maxRecDepth 100000 in
theorem g1070 : Cond.code yX9_none cX9_none 1 (some .int) ∈ gT := gW 1070 rfl rfl
set_option maxRecDepth 100000 in
theorem g1067 : Cond.methodLink RL 114 yX9_none ∈ gT := gW 1067 rfl rfl
theorem dkX9_none : dOk mX9_none 0 := by unfold dOk; decide +kernel
set_option maxRecDepth 100000 in
theorem g1068 : Cond.instanceMethod yX9_none ∈ gT := gW 1068 rfl rfl
set_option maxRecDepth 100000 in
theorem g1069 : Cond.selects RX9 yX9_none yX9_none ∈ gT := gW 1069 rfl rfl
theorem vL_114 : vOk RL mX9_none 114 0 9 := ⟨⟨g1070, rfl⟩, g73, g1067, g1068, g1069, dkX9_none, _, rfl, rfl⟩
set_option maxRecDepth 100000 in
theorem g1074 : Cond.code yX9_either cX9_either 3 (some .int) ∈ gT := gW 1074 rfl rfl
set_option maxRecDepth 100000 in
theorem g1071 : Cond.methodLink RL 118 yX9_either ∈ gT := gW 1071 rfl rfl
theorem dkX9_either : dOk mX9_either 2 := by unfold dOk; decide +kernel
set_option maxRecDepth 100000 in
theorem g1072 : Cond.instanceMethod yX9_either ∈ gT := gW 1072 rfl rfl
set_option maxRecDepth 100000 in
theorem g1073 : Cond.selects RX9 yX9_either yX9_either ∈ gT := gW 1073 rfl rfl
theorem vL_118 : vOk RL mX9_either 118 2 9 := ⟨⟨g1074, rfl⟩, g73, g1071, g1072, g1073, dkX9_either, _, rfl, rfl⟩
set_option maxRecDepth 100000 in
theorem g1078 : Cond.code yX9_isTerm cX9_isTerm 2 (some .boolean) ∈ gT := gW 1078 rfl rfl
set_option maxRecDepth 100000 in
theorem g1075 : Cond.methodLink RX9 164 yX9_isTerm ∈ gT := gW 1075 rfl rfl
theorem dkX9_isTerm : dOk mX9_isTerm 1 := by unfold dOk; decide +kernel
set_option maxRecDepth 100000 in
theorem g1077 : Cond.instanceMethod yX9_isTerm ∈ gT := gW 1077 rfl rfl
set_option maxRecDepth 100000 in
theorem g35 : Cond.selects RX9 yX9_isTerm yX9_isTerm ∈ gT := gW 35 rfl rfl
theorem vX9_164 : vOk RX9 mX9_isTerm 164 1 9 := ⟨⟨g1078, rfl⟩, g73, g1075, g1077, g35, dkX9_isTerm, _, rfl, rfl⟩
set_option maxRecDepth 100000 in
theorem g1082 : Cond.code yX9_isFull cX9_isFull 3 (some .boolean) ∈ gT := gW 1082 rfl rfl
set_option maxRecDepth 100000 in
theorem g1079 : Cond.methodLink RX9 167 yX9_isFull ∈ gT := gW 1079 rfl rfl
theorem dkX9_isFull : dOk mX9_isFull 2 := by unfold dOk; decide +kernel
set_option maxRecDepth 100000 in
theorem g1081 : Cond.instanceMethod yX9_isFull ∈ gT := gW 1081 rfl rfl
set_option maxRecDepth 100000 in
theorem g36 : Cond.selects RX9 yX9_isFull yX9_isFull ∈ gT := gW 36 rfl rfl
theorem vX9_167 : vOk RX9 mX9_isFull 167 2 9 := ⟨⟨g1082, rfl⟩, g73, g1079, g1081, g36, dkX9_isFull, _, rfl, rfl⟩
set_option maxRecDepth 100000 in
theorem g1086 : Cond.code yX9_then cX9_then 4 (some .int) ∈ gT := gW 1086 rfl rfl
set_option maxRecDepth 100000 in
theorem g1083 : Cond.methodLink RL 121 yX9_then ∈ gT := gW 1083 rfl rfl
theorem dkX9_then : dOk mX9_then 3 := by unfold dOk; decide +kernel
set_option maxRecDepth 100000 in
theorem g1084 : Cond.instanceMethod yX9_then ∈ gT := gW 1084 rfl rfl
set_option maxRecDepth 100000 in
theorem g1085 : Cond.selects RX9 yX9_then yX9_then ∈ gT := gW 1085 rfl rfl
theorem vL_121 : vOk RL mX9_then 121 3 9 := ⟨⟨g1086, rfl⟩, g73, g1083, g1084, g1085, dkX9_then, _, rfl, rfl⟩
set_option maxRecDepth 100000 in
theorem g1090 : Cond.code yX9_three cX9_three 6 (some .int) ∈ gT := gW 1090 rfl rfl
set_option maxRecDepth 100000 in
theorem g1087 : Cond.methodLink RX9 171 yX9_three ∈ gT := gW 1087 rfl rfl
theorem dkX9_three : dOk mX9_three 5 := by unfold dOk; decide +kernel
set_option maxRecDepth 100000 in
theorem g1089 : Cond.instanceMethod yX9_three ∈ gT := gW 1089 rfl rfl
set_option maxRecDepth 100000 in
theorem g37 : Cond.selects RX9 yX9_three yX9_three ∈ gT := gW 37 rfl rfl
theorem vX9_171 : vOk RX9 mX9_three 171 5 9 := ⟨⟨g1090, rfl⟩, g73, g1087, g1089, g37, dkX9_three, _, rfl, rfl⟩
set_option maxRecDepth 100000 in
theorem g1094 : Cond.code yX9_saved cX9_saved 4 (some .int) ∈ gT := gW 1094 rfl rfl
set_option maxRecDepth 100000 in
theorem g1091 : Cond.methodLink RL 124 yX9_saved ∈ gT := gW 1091 rfl rfl
theorem dkX9_saved : dOk mX9_saved 3 := by unfold dOk; decide +kernel
set_option maxRecDepth 100000 in
theorem g1092 : Cond.instanceMethod yX9_saved ∈ gT := gW 1092 rfl rfl
set_option maxRecDepth 100000 in
theorem g1093 : Cond.selects RX9 yX9_saved yX9_saved ∈ gT := gW 1093 rfl rfl
theorem vL_124 : vOk RL mX9_saved 124 3 9 := ⟨⟨g1094, rfl⟩, g73, g1091, g1092, g1093, dkX9_saved, _, rfl, rfl⟩
set_option maxRecDepth 100000 in
theorem g1098 : Cond.code yX9_when cX9_when 4 (some .int) ∈ gT := gW 1098 rfl rfl
set_option maxRecDepth 100000 in
theorem g1095 : Cond.methodLink RL 127 yX9_when ∈ gT := gW 1095 rfl rfl
theorem dkX9_when : dOk mX9_when 3 := by unfold dOk; decide +kernel
set_option maxRecDepth 100000 in
theorem g1096 : Cond.instanceMethod yX9_when ∈ gT := gW 1096 rfl rfl
set_option maxRecDepth 100000 in
theorem g1097 : Cond.selects RX9 yX9_when yX9_when ∈ gT := gW 1097 rfl rfl
theorem vL_127 : vOk RL mX9_when 127 3 9 := ⟨⟨g1098, rfl⟩, g73, g1095, g1096, g1097, dkX9_when, _, rfl, rfl⟩
set_option maxRecDepth 100000 in
theorem g1102 : Cond.code yX9_times cX9_times 4 (some .int) ∈ gT := gW 1102 rfl rfl
set_option maxRecDepth 100000 in
theorem g1099 : Cond.methodLink RL 131 yX9_times ∈ gT := gW 1099 rfl rfl
theorem dkX9_times : dOk mX9_times 3 := by unfold dOk; decide +kernel
set_option maxRecDepth 100000 in
theorem g1100 : Cond.instanceMethod yX9_times ∈ gT := gW 1100 rfl rfl
set_option maxRecDepth 100000 in
theorem g1101 : Cond.selects RX9 yX9_times yX9_times ∈ gT := gW 1101 rfl rfl
theorem vL_131 : vOk RL mX9_times 131 3 9 := ⟨⟨g1102, rfl⟩, g73, g1099, g1100, g1101, dkX9_times, _, rfl, rfl⟩
set_option maxRecDepth 100000 in
theorem g1106 : Cond.code yX9_as cX9_as 3 (some .int) ∈ gT := gW 1106 rfl rfl
set_option maxRecDepth 100000 in
theorem g1103 : Cond.methodLink RL 134 yX9_as ∈ gT := gW 1103 rfl rfl
theorem dkX9_as : dOk mX9_as 2 := by unfold dOk; decide +kernel
set_option maxRecDepth 100000 in
theorem g1104 : Cond.instanceMethod yX9_as ∈ gT := gW 1104 rfl rfl
set_option maxRecDepth 100000 in
theorem g1105 : Cond.selects RX9 yX9_as yX9_as ∈ gT := gW 1105 rfl rfl
theorem vL_134 : vOk RL mX9_as 134 2 9 := ⟨⟨g1106, rfl⟩, g73, g1103, g1104, g1105, dkX9_as, _, rfl, rfl⟩
set_option maxRecDepth 100000 in
theorem g1110 : Cond.code yX9_terms cX9_terms 1 (some .int) ∈ gT := gW 1110 rfl rfl
set_option maxRecDepth 100000 in
theorem g1107 : Cond.methodLink RL 158 yX9_terms ∈ gT := gW 1107 rfl rfl
theorem dkX9_terms : dOk mX9_terms 0 := by unfold dOk; decide +kernel
set_option maxRecDepth 100000 in
theorem g1108 : Cond.instanceMethod yX9_terms ∈ gT := gW 1108 rfl rfl
set_option maxRecDepth 100000 in
theorem g1109 : Cond.selects RX9 yX9_terms yX9_terms ∈ gT := gW 1109 rfl rfl
theorem vL_158 : vOk RL mX9_terms 158 0 9 := ⟨⟨g1110, rfl⟩, g73, g1107, g1108, g1109, dkX9_terms, _, rfl, rfl⟩
set_option maxRecDepth 100000 in
theorem g1114 : Cond.code yX9_needs cX9_needs 2 (some .int) ∈ gT := gW 1114 rfl rfl
set_option maxRecDepth 100000 in
theorem g1111 : Cond.methodLink RL 142 yX9_needs ∈ gT := gW 1111 rfl rfl
theorem dkX9_needs : dOk mX9_needs 1 := by unfold dOk; decide +kernel
set_option maxRecDepth 100000 in
theorem g1112 : Cond.instanceMethod yX9_needs ∈ gT := gW 1112 rfl rfl
set_option maxRecDepth 100000 in
theorem g1113 : Cond.selects RX9 yX9_needs yX9_needs ∈ gT := gW 1113 rfl rfl
theorem vL_142 : vOk RL mX9_needs 142 1 9 := ⟨⟨g1114, rfl⟩, g73, g1111, g1112, g1113, dkX9_needs, _, rfl, rfl⟩
set_option maxRecDepth 100000 in
theorem g1118 : Cond.code yX9_order cX9_order 9 (some .int) ∈ gT := gW 1118 rfl rfl
set_option maxRecDepth 100000 in
theorem g1115 : Cond.methodLink RL 138 yX9_order ∈ gT := gW 1115 rfl rfl
theorem dkX9_order : dOk mX9_order 4 := by unfold dOk; decide +kernel
set_option maxRecDepth 100000 in
theorem g1116 : Cond.instanceMethod yX9_order ∈ gT := gW 1116 rfl rfl
set_option maxRecDepth 100000 in
theorem g1117 : Cond.selects RX9 yX9_order yX9_order ∈ gT := gW 1117 rfl rfl
theorem vL_138 : vOk RL mX9_order 138 4 9 := ⟨⟨g1118, rfl⟩, g73, g1115, g1116, g1117, dkX9_order, _, rfl, rfl⟩
set_option maxRecDepth 100000 in
theorem g1122 : Cond.code yX9_run cX9_run 4 (some .int) ∈ gT := gW 1122 rfl rfl
set_option maxRecDepth 100000 in
theorem g1119 : Cond.methodLink RL 145 yX9_run ∈ gT := gW 1119 rfl rfl
theorem dkX9_run : dOk mX9_run 3 := by unfold dOk; decide +kernel
set_option maxRecDepth 100000 in
theorem g1120 : Cond.instanceMethod yX9_run ∈ gT := gW 1120 rfl rfl
set_option maxRecDepth 100000 in
theorem g1121 : Cond.selects RX9 yX9_run yX9_run ∈ gT := gW 1121 rfl rfl
theorem vL_145 : vOk RL mX9_run 145 3 9 := ⟨⟨g1122, rfl⟩, g73, g1119, g1120, g1121, dkX9_run, _, rfl, rfl⟩
set_option maxRecDepth 100000 in
theorem g1126 : Cond.code yX9_lacks cX9_lacks 4 (some .boolean) ∈ gT := gW 1126 rfl rfl
set_option maxRecDepth 100000 in
theorem g1123 : Cond.methodLink RX9 278 yX9_lacks ∈ gT := gW 1123 rfl rfl
theorem dkX9_lacks : dOk mX9_lacks 1 := by unfold dOk; decide +kernel
set_option maxRecDepth 100000 in
theorem g1125 : Cond.instanceMethod yX9_lacks ∈ gT := gW 1125 rfl rfl
set_option maxRecDepth 100000 in
theorem g38 : Cond.selects RX9 yX9_lacks yX9_lacks ∈ gT := gW 38 rfl rfl
theorem vX9_278 : vOk RX9 mX9_lacks 278 1 9 := ⟨⟨g1126, rfl⟩, g73, g1123, g1125, g38, dkX9_lacks, _, rfl, rfl⟩
set_option maxRecDepth 100000 in
theorem g1130 : Cond.code yX9_has cX9_has 2 (some .boolean) ∈ gT := gW 1130 rfl rfl
set_option maxRecDepth 100000 in
theorem g1127 : Cond.methodLink RX9 175 yX9_has ∈ gT := gW 1127 rfl rfl
theorem dkX9_has : dOk mX9_has 1 := by unfold dOk; decide +kernel
set_option maxRecDepth 100000 in
theorem g1129 : Cond.instanceMethod yX9_has ∈ gT := gW 1129 rfl rfl
set_option maxRecDepth 100000 in
theorem g39 : Cond.selects RX9 yX9_has yX9_has ∈ gT := gW 39 rfl rfl
theorem vX9_175 : vOk RX9 mX9_has 175 1 9 := ⟨⟨g1130, rfl⟩, g73, g1127, g1129, g39, dkX9_has, _, rfl, rfl⟩
set_option maxRecDepth 100000 in
theorem g1134 : Cond.code yX9_doIt cX9_doIt 4 none ∈ gT := gW 1134 rfl rfl
set_option maxRecDepth 100000 in
theorem g1131 : Cond.methodLink RX9 281 yX9_doIt ∈ gT := gW 1131 rfl rfl
theorem dkX9_doIt : dOk mX9_doIt 3 := by unfold dOk; decide +kernel
set_option maxRecDepth 100000 in
theorem g1133 : Cond.instanceMethod yX9_doIt ∈ gT := gW 1133 rfl rfl
set_option maxRecDepth 100000 in
theorem g40 : Cond.selects RX9 yX9_doIt yX9_doIt ∈ gT := gW 40 rfl rfl
theorem vX9_281 : vOk RX9 mX9_doIt 281 3 9 := ⟨⟨g1134, rfl⟩, g73, g1131, g1133, g40, dkX9_doIt, _, rfl, rfl⟩
set_option maxRecDepth 100000 in
theorem g1138 : Cond.code yX9_push cX9_push 8 none ∈ gT := gW 1138 rfl rfl
set_option maxRecDepth 100000 in
theorem g1135 : Cond.methodLink RX9 237 yX9_push ∈ gT := gW 1135 rfl rfl
theorem dkX9_push : dOk mX9_push 6 := by unfold dOk; decide +kernel
set_option maxRecDepth 100000 in
theorem g1137 : Cond.instanceMethod yX9_push ∈ gT := gW 1137 rfl rfl
set_option maxRecDepth 100000 in
theorem g41 : Cond.selects RX9 yX9_push yX9_push ∈ gT := gW 41 rfl rfl
theorem vX9_237 : vOk RX9 mX9_push 237 6 9 := ⟨⟨g1138, rfl⟩, g73, g1135, g1137, g41, dkX9_push, _, rfl, rfl⟩
set_option maxRecDepth 100000 in
theorem g1142 : Cond.code yX9_go cX9_go 3 none ∈ gT := gW 1142 rfl rfl
set_option maxRecDepth 100000 in
theorem g1139 : Cond.methodLink RX9 271 yX9_go ∈ gT := gW 1139 rfl rfl
theorem dkX9_go : dOk mX9_go 0 := by unfold dOk; decide +kernel
set_option maxRecDepth 100000 in
theorem g1141 : Cond.instanceMethod yX9_go ∈ gT := gW 1141 rfl rfl
set_option maxRecDepth 100000 in
theorem g42 : Cond.selects RX9 yX9_go yX9_go ∈ gT := gW 42 rfl rfl
theorem vX9_271 : vOk RX9 mX9_go 271 0 9 := ⟨⟨g1142, rfl⟩, g73, g1139, g1141, g42, dkX9_go, _, rfl, rfl⟩
set_option maxRecDepth 100000 in
theorem g1146 : Cond.code yX9_leaf cX9_leaf 7 none ∈ gT := gW 1146 rfl rfl
set_option maxRecDepth 100000 in
theorem g1143 : Cond.methodLink RX9 241 yX9_leaf ∈ gT := gW 1143 rfl rfl
theorem dkX9_leaf : dOk mX9_leaf 1 := by unfold dOk; decide +kernel
set_option maxRecDepth 100000 in
theorem g1145 : Cond.instanceMethod yX9_leaf ∈ gT := gW 1145 rfl rfl
set_option maxRecDepth 100000 in
theorem g43 : Cond.selects RX9 yX9_leaf yX9_leaf ∈ gT := gW 43 rfl rfl
theorem vX9_241 : vOk RX9 mX9_leaf 241 1 9 := ⟨⟨g1146, rfl⟩, g73, g1143, g1145, g43, dkX9_leaf, _, rfl, rfl⟩
set_option maxRecDepth 100000 in
theorem g1150 : Cond.code yX9_value cX9_value 4 (some .int) ∈ gT := gW 1150 rfl rfl
set_option maxRecDepth 100000 in
theorem g1147 : Cond.methodLink RX9 210 yX9_value ∈ gT := gW 1147 rfl rfl
theorem dkX9_value : dOk mX9_value 3 := by unfold dOk; decide +kernel
set_option maxRecDepth 100000 in
theorem g1149 : Cond.instanceMethod yX9_value ∈ gT := gW 1149 rfl rfl
set_option maxRecDepth 100000 in
theorem g44 : Cond.selects RX9 yX9_value yX9_value ∈ gT := gW 44 rfl rfl
theorem vX9_210 : vOk RX9 mX9_value 210 3 9 := ⟨⟨g1150, rfl⟩, g73, g1147, g1149, g44, dkX9_value, _, rfl, rfl⟩
set_option maxRecDepth 100000 in
theorem g1153 : Cond.code yX9_op cX9_op 3 (some .int) ∈ gT := gW 1153 rfl rfl
set_option maxRecDepth 100000 in
theorem g1151 : Cond.methodLink RX9 214 yX9_op ∈ gT := gW 1151 rfl rfl
theorem dkX9_op : dOk mX9_op 3 := by unfold dOk; decide +kernel
set_option maxRecDepth 100000 in
theorem g1152 : Cond.static yX9_op ∈ gT := gW 1152 rfl rfl
theorem sX9_214 : sOk RX9 mX9_op 214 3 := ⟨⟨g1153, rfl⟩, g73, g1151, g1152, dkX9_op⟩
set_option maxRecDepth 100000 in
theorem g1157 : Cond.code yX9_isOwn cX9_isOwn 2 (some .boolean) ∈ gT := gW 1157 rfl rfl
set_option maxRecDepth 100000 in
theorem g1154 : Cond.methodLink RX9 178 yX9_isOwn ∈ gT := gW 1154 rfl rfl
theorem dkX9_isOwn : dOk mX9_isOwn 1 := by unfold dOk; decide +kernel
set_option maxRecDepth 100000 in
theorem g1156 : Cond.instanceMethod yX9_isOwn ∈ gT := gW 1156 rfl rfl
set_option maxRecDepth 100000 in
theorem g45 : Cond.selects RX9 yX9_isOwn yX9_isOwn ∈ gT := gW 45 rfl rfl
theorem vX9_178 : vOk RX9 mX9_isOwn 178 1 9 := ⟨⟨g1157, rfl⟩, g73, g1154, g1156, g45, dkX9_isOwn, _, rfl, rfl⟩
set_option maxRecDepth 100000 in
theorem g1161 : Cond.code yX9_longer cX9_longer 3 (some .int) ∈ gT := gW 1161 rfl rfl
set_option maxRecDepth 100000 in
theorem g1158 : Cond.methodLink RX9 218 yX9_longer ∈ gT := gW 1158 rfl rfl
theorem dkX9_longer : dOk mX9_longer 2 := by unfold dOk; decide +kernel
set_option maxRecDepth 100000 in
theorem g1160 : Cond.instanceMethod yX9_longer ∈ gT := gW 1160 rfl rfl
set_option maxRecDepth 100000 in
theorem g46 : Cond.selects RX9 yX9_longer yX9_longer ∈ gT := gW 46 rfl rfl
theorem vX9_218 : vOk RX9 mX9_longer 218 2 9 := ⟨⟨g1161, rfl⟩, g73, g1158, g1160, g46, dkX9_longer, _, rfl, rfl⟩
set_option maxRecDepth 100000 in
theorem g1165 : Cond.code yX9_isShared cX9_isShared 2 (some .boolean) ∈ gT := gW 1165 rfl rfl
set_option maxRecDepth 100000 in
theorem g1162 : Cond.methodLink RX9 221 yX9_isShared ∈ gT := gW 1162 rfl rfl
theorem dkX9_isShared : dOk mX9_isShared 1 := by unfold dOk; decide +kernel
set_option maxRecDepth 100000 in
theorem g1164 : Cond.instanceMethod yX9_isShared ∈ gT := gW 1164 rfl rfl
set_option maxRecDepth 100000 in
theorem g47 : Cond.selects RX9 yX9_isShared yX9_isShared ∈ gT := gW 47 rfl rfl
theorem vX9_221 : vOk RX9 mX9_isShared 221 1 9 := ⟨⟨g1165, rfl⟩, g73, g1162, g1164, g47, dkX9_isShared, _, rfl, rfl⟩
set_option maxRecDepth 100000 in
theorem g1169 : Cond.code yX9_unwind cX9_unwind 3 none ∈ gT := gW 1169 rfl rfl
set_option maxRecDepth 100000 in
theorem g1166 : Cond.methodLink RX9 224 yX9_unwind ∈ gT := gW 1166 rfl rfl
theorem dkX9_unwind : dOk mX9_unwind 1 := by unfold dOk; decide +kernel
set_option maxRecDepth 100000 in
theorem g1168 : Cond.instanceMethod yX9_unwind ∈ gT := gW 1168 rfl rfl
set_option maxRecDepth 100000 in
theorem g48 : Cond.selects RX9 yX9_unwind yX9_unwind ∈ gT := gW 48 rfl rfl
theorem vX9_224 : vOk RX9 mX9_unwind 224 1 9 := ⟨⟨g1169, rfl⟩, g73, g1166, g1168, g48, dkX9_unwind, _, rfl, rfl⟩
set_option maxRecDepth 100000 in
theorem g1173 : Cond.code yX9_isOutside cX9_isOutside 2 (some .boolean) ∈ gT := gW 1173 rfl rfl
set_option maxRecDepth 100000 in
theorem g1170 : Cond.methodLink RX9 234 yX9_isOutside ∈ gT := gW 1170 rfl rfl
theorem dkX9_isOutside : dOk mX9_isOutside 1 := by unfold dOk; decide +kernel
set_option maxRecDepth 100000 in
theorem g1172 : Cond.instanceMethod yX9_isOutside ∈ gT := gW 1172 rfl rfl
set_option maxRecDepth 100000 in
theorem g49 : Cond.selects RX9 yX9_isOutside yX9_isOutside ∈ gT := gW 49 rfl rfl
theorem vX9_234 : vOk RX9 mX9_isOutside 234 1 9 := ⟨⟨g1173, rfl⟩, g73, g1170, g1172, g49, dkX9_isOutside, _, rfl, rfl⟩
set_option maxRecDepth 100000 in
theorem g1177 : Cond.code yX9_tell cX9_tell 7 none ∈ gT := gW 1177 rfl rfl
set_option maxRecDepth 100000 in
theorem g1174 : Cond.methodLink RX9 203 yX9_tell ∈ gT := gW 1174 rfl rfl
theorem dkX9_tell : dOk mX9_tell 5 := by unfold dOk; decide +kernel
set_option maxRecDepth 100000 in
theorem g1176 : Cond.instanceMethod yX9_tell ∈ gT := gW 1176 rfl rfl
set_option maxRecDepth 100000 in
theorem g50 : Cond.selects RX9 yX9_tell yX9_tell ∈ gT := gW 50 rfl rfl
theorem vX9_203 : vOk RX9 mX9_tell 203 5 9 := ⟨⟨g1177, rfl⟩, g73, g1174, g1176, g50, dkX9_tell, _, rfl, rfl⟩
set_option maxRecDepth 100000 in
theorem g1181 : Cond.code yX9_row cX9_row 3 (some .int) ∈ gT := gW 1181 rfl rfl
set_option maxRecDepth 100000 in
theorem g1178 : Cond.methodLink RX9 200 yX9_row ∈ gT := gW 1178 rfl rfl
theorem dkX9_row : dOk mX9_row 2 := by unfold dOk; decide +kernel
set_option maxRecDepth 100000 in
theorem g1180 : Cond.instanceMethod yX9_row ∈ gT := gW 1180 rfl rfl
set_option maxRecDepth 100000 in
theorem g51 : Cond.selects RX9 yX9_row yX9_row ∈ gT := gW 51 rfl rfl
theorem vX9_200 : vOk RX9 mX9_row 200 2 9 := ⟨⟨g1181, rfl⟩, g73, g1178, g1180, g51, dkX9_row, _, rfl, rfl⟩
set_option maxRecDepth 100000 in
theorem g1185 : Cond.code yX9_either_ cX9_either_ 2 none ∈ gT := gW 1185 rfl rfl
set_option maxRecDepth 100000 in
theorem g1182 : Cond.methodLink RX9 244 yX9_either_ ∈ gT := gW 1182 rfl rfl
theorem dkX9_either_ : dOk mX9_either_ 1 := by unfold dOk; decide +kernel
set_option maxRecDepth 100000 in
theorem g1184 : Cond.instanceMethod yX9_either_ ∈ gT := gW 1184 rfl rfl
set_option maxRecDepth 100000 in
theorem g52 : Cond.selects RX9 yX9_either_ yX9_either_ ∈ gT := gW 52 rfl rfl
theorem vX9_244 : vOk RX9 mX9_either_ 244 1 9 := ⟨⟨g1185, rfl⟩, g73, g1182, g1184, g52, dkX9_either_, _, rfl, rfl⟩
set_option maxRecDepth 100000 in
theorem g1189 : Cond.code yX9_gather cX9_gather 4 none ∈ gT := gW 1189 rfl rfl
set_option maxRecDepth 100000 in
theorem g1186 : Cond.methodLink RX9 259 yX9_gather ∈ gT := gW 1186 rfl rfl
theorem dkX9_gather : dOk mX9_gather 1 := by unfold dOk; decide +kernel
set_option maxRecDepth 100000 in
theorem g1188 : Cond.instanceMethod yX9_gather ∈ gT := gW 1188 rfl rfl
set_option maxRecDepth 100000 in
theorem g53 : Cond.selects RX9 yX9_gather yX9_gather ∈ gT := gW 53 rfl rfl
theorem vX9_259 : vOk RX9 mX9_gather 259 1 9 := ⟨⟨g1189, rfl⟩, g73, g1186, g1188, g53, dkX9_gather, _, rfl, rfl⟩
set_option maxRecDepth 100000 in
theorem g1193 : Cond.code yX9_finish cX9_finish 1 none ∈ gT := gW 1193 rfl rfl
set_option maxRecDepth 100000 in
theorem g1190 : Cond.methodLink RX9 262 yX9_finish ∈ gT := gW 1190 rfl rfl
theorem dkX9_finish : dOk mX9_finish 0 := by unfold dOk; decide +kernel
set_option maxRecDepth 100000 in
theorem g1192 : Cond.instanceMethod yX9_finish ∈ gT := gW 1192 rfl rfl
set_option maxRecDepth 100000 in
theorem g54 : Cond.selects RX9 yX9_finish yX9_finish ∈ gT := gW 54 rfl rfl
theorem vX9_262 : vOk RX9 mX9_finish 262 0 9 := ⟨⟨g1193, rfl⟩, g73, g1190, g1192, g54, dkX9_finish, _, rfl, rfl⟩
set_option maxRecDepth 100000 in
theorem g1197 : Cond.code yX9_along cX9_along 8 none ∈ gT := gW 1197 rfl rfl
set_option maxRecDepth 100000 in
theorem g1194 : Cond.methodLink RX9 247 yX9_along ∈ gT := gW 1194 rfl rfl
theorem dkX9_along : dOk mX9_along 1 := by unfold dOk; decide +kernel
set_option maxRecDepth 100000 in
theorem g1196 : Cond.instanceMethod yX9_along ∈ gT := gW 1196 rfl rfl
set_option maxRecDepth 100000 in
theorem g55 : Cond.selects RX9 yX9_along yX9_along ∈ gT := gW 55 rfl rfl
theorem vX9_247 : vOk RX9 mX9_along 247 1 9 := ⟨⟨g1197, rfl⟩, g73, g1194, g1196, g55, dkX9_along, _, rfl, rfl⟩
set_option maxRecDepth 100000 in
theorem g1201 : Cond.code yX9_gatherNext cX9_gatherNext 2 none ∈ gT := gW 1201 rfl rfl
set_option maxRecDepth 100000 in
theorem g1198 : Cond.methodLink RX9 265 yX9_gatherNext ∈ gT := gW 1198 rfl rfl
theorem dkX9_gatherNext : dOk mX9_gatherNext 1 := by unfold dOk; decide +kernel
set_option maxRecDepth 100000 in
theorem g1200 : Cond.instanceMethod yX9_gatherNext ∈ gT := gW 1200 rfl rfl
set_option maxRecDepth 100000 in
theorem g56 : Cond.selects RX9 yX9_gatherNext yX9_gatherNext ∈ gT := gW 56 rfl rfl
theorem vX9_265 : vOk RX9 mX9_gatherNext 265 1 9 := ⟨⟨g1201, rfl⟩, g73, g1198, g1200, g56, dkX9_gatherNext, _, rfl, rfl⟩
set_option maxRecDepth 100000 in
theorem g1205 : Cond.code yX9_turn cX9_turn 5 none ∈ gT := gW 1205 rfl rfl
set_option maxRecDepth 100000 in
theorem g1202 : Cond.methodLink RX9 268 yX9_turn ∈ gT := gW 1202 rfl rfl
theorem dkX9_turn : dOk mX9_turn 1 := by unfold dOk; decide +kernel
set_option maxRecDepth 100000 in
theorem g1204 : Cond.instanceMethod yX9_turn ∈ gT := gW 1204 rfl rfl
set_option maxRecDepth 100000 in
theorem g57 : Cond.selects RX9 yX9_turn yX9_turn ∈ gT := gW 57 rfl rfl
theorem vX9_268 : vOk RX9 mX9_turn 268 1 9 := ⟨⟨g1205, rfl⟩, g73, g1202, g1204, g57, dkX9_turn, _, rfl, rfl⟩
set_option maxRecDepth 100000 in
theorem g1209 : Cond.code yX9_choose cX9_choose 3 none ∈ gT := gW 1209 rfl rfl
set_option maxRecDepth 100000 in
theorem g1206 : Cond.methodLink RX9 250 yX9_choose ∈ gT := gW 1206 rfl rfl
theorem dkX9_choose : dOk mX9_choose 1 := by unfold dOk; decide +kernel
set_option maxRecDepth 100000 in
theorem g1208 : Cond.instanceMethod yX9_choose ∈ gT := gW 1208 rfl rfl
set_option maxRecDepth 100000 in
theorem g58 : Cond.selects RX9 yX9_choose yX9_choose ∈ gT := gW 58 rfl rfl
theorem vX9_250 : vOk RX9 mX9_choose 250 1 9 := ⟨⟨g1209, rfl⟩, g73, g1206, g1208, g58, dkX9_choose, _, rfl, rfl⟩
set_option maxRecDepth 100000 in
theorem g1213 : Cond.code yX9_again cX9_again 4 none ∈ gT := gW 1213 rfl rfl
set_option maxRecDepth 100000 in
theorem g1210 : Cond.methodLink RX9 253 yX9_again ∈ gT := gW 1210 rfl rfl
theorem dkX9_again : dOk mX9_again 1 := by unfold dOk; decide +kernel
set_option maxRecDepth 100000 in
theorem g1212 : Cond.instanceMethod yX9_again ∈ gT := gW 1212 rfl rfl
set_option maxRecDepth 100000 in
theorem g59 : Cond.selects RX9 yX9_again yX9_again ∈ gT := gW 59 rfl rfl
theorem vX9_253 : vOk RX9 mX9_again 253 1 9 := ⟨⟨g1213, rfl⟩, g73, g1210, g1212, g59, dkX9_again, _, rfl, rfl⟩
set_option maxRecDepth 100000 in
theorem g1217 : Cond.code yX9_within cX9_within 6 none ∈ gT := gW 1217 rfl rfl
set_option maxRecDepth 100000 in
theorem g1214 : Cond.methodLink RX9 256 yX9_within ∈ gT := gW 1214 rfl rfl
theorem dkX9_within : dOk mX9_within 1 := by unfold dOk; decide +kernel
set_option maxRecDepth 100000 in
theorem g1216 : Cond.instanceMethod yX9_within ∈ gT := gW 1216 rfl rfl
set_option maxRecDepth 100000 in
theorem g60 : Cond.selects RX9 yX9_within yX9_within ∈ gT := gW 60 rfl rfl
theorem vX9_256 : vOk RX9 mX9_within 256 1 9 := ⟨⟨g1217, rfl⟩, g73, g1214, g1216, g60, dkX9_within, _, rfl, rfl⟩
set_option maxRecDepth 100000 in
theorem g1221 : Cond.code yX9_keep cX9_keep 7 none ∈ gT := gW 1221 rfl rfl
set_option maxRecDepth 100000 in
theorem g1218 : Cond.methodLink RX9 285 yX9_keep ∈ gT := gW 1218 rfl rfl
theorem dkX9_keep : dOk mX9_keep 1 := by unfold dOk; decide +kernel
set_option maxRecDepth 100000 in
theorem g1220 : Cond.instanceMethod yX9_keep ∈ gT := gW 1220 rfl rfl
set_option maxRecDepth 100000 in
theorem g61 : Cond.selects RX9 yX9_keep yX9_keep ∈ gT := gW 61 rfl rfl
theorem vX9_285 : vOk RX9 mX9_keep 285 1 9 := ⟨⟨g1221, rfl⟩, g73, g1218, g1220, g61, dkX9_keep, _, rfl, rfl⟩
set_option maxRecDepth 100000 in
theorem g1225 : Cond.code yX9_writeLog cX9_writeLog 6 none ∈ gT := gW 1225 rfl rfl
set_option maxRecDepth 100000 in
theorem g1222 : Cond.methodLink RX9 274 yX9_writeLog ∈ gT := gW 1222 rfl rfl
theorem dkX9_writeLog : dOk mX9_writeLog 3 := by unfold dOk; decide +kernel
set_option maxRecDepth 100000 in
theorem g1224 : Cond.instanceMethod yX9_writeLog ∈ gT := gW 1224 rfl rfl
set_option maxRecDepth 100000 in
theorem g62 : Cond.selects RX9 yX9_writeLog yX9_writeLog ∈ gT := gW 62 rfl rfl
theorem vX9_274 : vOk RX9 mX9_writeLog 274 3 9 := ⟨⟨g1225, rfl⟩, g73, g1222, g1224, g62, dkX9_writeLog, _, rfl, rfl⟩
set_option maxRecDepth 100000 in
theorem g1229 : Cond.code yX9_result cX9_result 3 (some .int) ∈ gT := gW 1229 rfl rfl
set_option maxRecDepth 100000 in
theorem g1226 : Cond.methodLink RL 148 yX9_result ∈ gT := gW 1226 rfl rfl
theorem dkX9_result : dOk mX9_result 2 := by unfold dOk; decide +kernel
set_option maxRecDepth 100000 in
theorem g1227 : Cond.instanceMethod yX9_result ∈ gT := gW 1227 rfl rfl
set_option maxRecDepth 100000 in
theorem g1228 : Cond.selects RX9 yX9_result yX9_result ∈ gT := gW 1228 rfl rfl
theorem vL_148 : vOk RL mX9_result 148 2 9 := ⟨⟨g1229, rfl⟩, g73, g1226, g1227, g1228, dkX9_result, _, rfl, rfl⟩
set_option maxRecDepth 100000 in
theorem g1233 : Cond.code yX9_shared cX9_shared 2 (some .int) ∈ gT := gW 1233 rfl rfl
set_option maxRecDepth 100000 in
theorem g1230 : Cond.methodLink RL 151 yX9_shared ∈ gT := gW 1230 rfl rfl
theorem dkX9_shared : dOk mX9_shared 1 := by unfold dOk; decide +kernel
set_option maxRecDepth 100000 in
theorem g1231 : Cond.instanceMethod yX9_shared ∈ gT := gW 1231 rfl rfl
set_option maxRecDepth 100000 in
theorem g1232 : Cond.selects RX9 yX9_shared yX9_shared ∈ gT := gW 1232 rfl rfl
theorem vL_151 : vOk RL mX9_shared 151 1 9 := ⟨⟨g1233, rfl⟩, g73, g1230, g1231, g1232, dkX9_shared, _, rfl, rfl⟩
set_option maxRecDepth 100000 in
theorem g1237 : Cond.code yX9_alike cX9_alike 5 (some .boolean) ∈ gT := gW 1237 rfl rfl
set_option maxRecDepth 100000 in
theorem g1234 : Cond.methodLink RL 154 yX9_alike ∈ gT := gW 1234 rfl rfl
theorem dkX9_alike : dOk mX9_alike 4 := by unfold dOk; decide +kernel
set_option maxRecDepth 100000 in
theorem g1235 : Cond.instanceMethod yX9_alike ∈ gT := gW 1235 rfl rfl
set_option maxRecDepth 100000 in
theorem g1236 : Cond.selects RX9 yX9_alike yX9_alike ∈ gT := gW 1236 rfl rfl
theorem vL_154 : vOk RL mX9_alike 154 4 9 := ⟨⟨g1237, rfl⟩, g73, g1234, g1235, g1236, dkX9_alike, _, rfl, rfl⟩
set_option maxRecDepth 100000 in
theorem g1241 : Cond.code yX9_lay cX9_lay 4 none ∈ gT := gW 1241 rfl rfl
set_option maxRecDepth 100000 in
theorem g1238 : Cond.methodLink RX9 291 yX9_lay ∈ gT := gW 1238 rfl rfl
theorem dkX9_lay : dOk mX9_lay 0 := by unfold dOk; decide +kernel
set_option maxRecDepth 100000 in
theorem g1240 : Cond.instanceMethod yX9_lay ∈ gT := gW 1240 rfl rfl
set_option maxRecDepth 100000 in
theorem g63 : Cond.selects RX9 yX9_lay yX9_lay ∈ gT := gW 63 rfl rfl
theorem vX9_291 : vOk RX9 mX9_lay 291 0 9 := ⟨⟨g1241, rfl⟩, g73, g1238, g1240, g63, dkX9_lay, _, rfl, rfl⟩
set_option maxRecDepth 100000 in
theorem g1245 : Cond.code yX9_isAsLaid cX9_isAsLaid 5 (some .boolean) ∈ gT := gW 1245 rfl rfl
set_option maxRecDepth 100000 in
theorem g1242 : Cond.methodLink RX9 294 yX9_isAsLaid ∈ gT := gW 1242 rfl rfl
theorem dkX9_isAsLaid : dOk mX9_isAsLaid 0 := by unfold dOk; decide +kernel
set_option maxRecDepth 100000 in
theorem g1244 : Cond.instanceMethod yX9_isAsLaid ∈ gT := gW 1244 rfl rfl
set_option maxRecDepth 100000 in
theorem g64 : Cond.selects RX9 yX9_isAsLaid yX9_isAsLaid ∈ gT := gW 64 rfl rfl
theorem vX9_294 : vOk RX9 mX9_isAsLaid 294 0 9 := ⟨⟨g1245, rfl⟩, g73, g1242, g1244, g64, dkX9_isAsLaid, _, rfl, rfl⟩
end
section
/-! calls, as they are used -/
section Use2
variable {M N : aM} {d d' kc ks kc' ks' : Nat} {Q Q' : aQ} {pc idx n ci i : Nat} {own : String} {lo : List (Option aV)} {st As av : List aV} {g g' : aG} {I I' : aI} {L L' : aL} {v : Option aV}
theorem vOk.c (ok : vOk own N idx n ci) (ho : M.y.cls = own) : cOk M N idx n := by
  subst ho
  obtain ⟨h1, h2, h3, h4, h5, h6, -⟩ := ok
  exact ⟨h1, h2, h3, h6.1, h6.2⟩
theorem sOk.c (ok : sOk own N idx n) (ho : M.y.cls = own) : cOk M N idx n := by
  subst ho
  obtain ⟨h1, h2, h3, h4, h6⟩ := ok
  exact ⟨h1, h2, h3, h6.1, h6.2⟩
theorem iOk.c (ok : iOk own N idx n) (ho : M.y.cls = own) : cOk M N idx n := by
  subst ho
  obtain ⟨h1, h2, h3, h4, h6, -⟩ := ok
  exact ⟨h1, h2, h3, h6.1, h6.2⟩
theorem sHOk.c (ok : sHOk own N idx n) (ho : M.y.cls = own) : hOk M N idx n := by
  subst ho
  obtain ⟨h1, h2, h3, h4, h6⟩ := ok
  exact ⟨h1, h2, h3, h6.1, h6.2⟩
/-- an instance method: any outcome -/
theorem Ex_cV (ok : vOk own N idx n ci) (ho : M.y.cls = own) (hn : As.length = n) (hi : g.2.1 i = some (.inl ci)) (hM : Mx N d' kc' ks' (vS i :: As) g I L Q') (hd' : d' + 1 ≤ d) (hst : Nat.ble (catL st) 8 = true) (hd : decode M.cc pc = .ok (.invokevirtual idx, 3))
    (kk : ∀ v g' I' L', Q' (.inl v) g' I' L' → Ex M d kc ks Q (pc + 3) lo (v.toList ++ st) g' I' L') (kx : ∀ E g' I' L', Q' (.inr E) g' I' L' → Xx M d kc ks Q pc lo E g' I' L') : Ex M d (kc + kc') (ks + ks') Q pc lo (As.reverse ++ vS i :: st) g I L := by
  subst hn
  have ok1 := ok.c (M := M) ho
  obtain ⟨h1, h2, h3, h4, h5, h6, q, h7, h8⟩ := ok
  exact Ex_callV ok1 h4 h5 h7 h8 hi hM hd' (Nat.le_of_ble_eq_true hst) hd kk kx
/-- an instance method that returns -/
theorem Ex_v (ok : vOk own N idx n ci) (ho : M.y.cls = own) (hn : As.length = n) (hM : Mx N d' 0 0 (vS i :: As) g I L (qV v g' I' L')) (hi : g.2.1 i = some (.inl ci)) (hd' : d' + 1 ≤ d) (hst : Nat.ble (catL st) 8 = true) (hd : decode M.cc pc = .ok (.invokevirtual idx, 3))
    (kk : Ex M d kc ks Q (pc + 3) lo (v.toList ++ st) g' I' L') : Ex M d kc ks Q pc lo (As.reverse ++ vS i :: st) g I L := by
  refine Ex_cV (kc := kc) (ks := ks) (kc' := 0) (ks' := 0) ok ho hn hi hM hd' hst hd ?_ ?_
  · rintro _ _ _ _ ⟨e, rfl, rfl, rfl⟩
    cases e
    exact kk
  · rintro _ _ _ _ ⟨e, -⟩
    cases e
theorem Ex_cS (ok : sOk own N idx n) (ho : M.y.cls = own) (hn : As.length = n) (hM : Mx N d' kc' ks' As g I L Q') (hd' : d' + 1 ≤ d) (hst : Nat.ble (catL st) 8 = true) (hd : decode M.cc pc = .ok (.invokestatic idx, 3))
    (kk : ∀ v g' I' L', Q' (.inl v) g' I' L' → Ex M d kc ks Q (pc + 3) lo (v.toList ++ st) g' I' L') (kx : ∀ E g' I' L', Q' (.inr E) g' I' L' → Xx M d kc ks Q pc lo E g' I' L') : Ex M d (kc + kc') (ks + ks') Q pc lo (As.reverse ++ st) g I L := by
  subst hn
  exact Ex_callS (ok.c ho) ok.2.2.2.1 hM hd' (Nat.le_of_ble_eq_true hst) hd kk kx
theorem Ex_s (ok : sOk own N idx n) (ho : M.y.cls = own) (hn : As.length = n) (hM : Mx N d' 0 0 As g I L (qV v g' I' L')) (hd' : d' + 1 ≤ d) (hst : Nat.ble (catL st) 8 = true) (hd : decode M.cc pc = .ok (.invokestatic idx, 3))
    (kk : Ex M d kc ks Q (pc + 3) lo (v.toList ++ st) g' I' L') : Ex M d kc ks Q pc lo (As.reverse ++ st) g I L := by
  refine Ex_cS (kc := kc) (ks := ks) (kc' := 0) (ks' := 0) ok ho hn hM hd' hst hd ?_ ?_
  · rintro _ _ _ _ ⟨e, rfl, rfl, rfl⟩
    cases e
    exact kk
  · rintro _ _ _ _ ⟨e, -⟩
    cases e
theorem Ex_ctor (ok : iOk own N idx n) (ho : M.y.cls = own) (hn : As.length = n) (hM : Mx N d' kc' ks' (vD (some i) :: As) g I L (qV none g' I' L')) (hd' : d' + 1 ≤ d) (hst : Nat.ble (catL st) 8 = true) (hd : decode M.cc pc = .ok (.invokespecial idx, 3))
    (kk : Ex M d kc ks Q (pc + 3) lo st g' I' L') : Ex M d (kc + kc') (ks + ks') Q pc lo (As.reverse ++ vD (some i) :: st) g I L := by
  subst hn
  refine Ex_callI (ok.c ho) ok.2.2.2.2.2.1 ok.2.2.2.2.2.2 ok.2.2.2.1 hM (fun E g I L h => by cases h.1) hd' (Nat.le_of_ble_eq_true hst) hd ?_
  rintro _ _ _ _ ⟨e, rfl, rfl, rfl⟩
  cases e
  exact kk
theorem Mx_d {av : List aV} (h : Mx N d kc ks av g I L Q) : Mx N d kc ks av g I L Q := h
/-- the decode of a row of code -/
def dc (M : aM) (pc : Nat) : Option (Instr × Nat) := match fr M.code pc with
  | [] => none
  | r :: _ => some (r.2.1, r.2.2.1)
theorem dc_ok {M : aM} {i : Instr} {n : Nat} (hM : cB M M.code = true) (h : dc M pc = some (i, n)) : decode M.cc pc = .ok (i, n) := by
  unfold dc at h
  obtain ⟨h1, h2⟩ := fr_ok (M := M) M.code pc hM
  cases hf : fr M.code pc with
  | nil => rw [hf] at h; cases h
  | cons r l =>
    rw [hf] at h h1
    have e := h2 r l hf
    unfold cB at h1
    simp only [Bool.and_eq_true] at h1
    have hr := h1.1
    unfold rB at hr
    simp only [Bool.and_eq_true, decide_eq_true_eq] at hr
    rw [← e, hr.1]
    have h3 : (r.2.1, r.2.2.1) = (i, n) := Option.some.inj h
    cases h3
    rfl
end Use2
end
section
/-! methods of classes some of whose methods are the machine's own -/
theorem vx_ofWF {l : Launch} {y : MethodName} {ws ws' : List Cond} {rm : Room} {Pc : Array Value → State → Prop} {Qc : Array Value → State → Outcome → State → Prop} {XC : String → State → State → Prop} {mc ms : Nat} {free : Addr → Prop} {cc : ByteArray} {maxL : Nat} {ret : Option FieldType}
    (hy : plainFor y = true) (hw : ws = Cond.code y cc maxL ret :: ws')
    (body : ∀ p e s m args below meth c s₁, BodyLoose p l y (headSpec ws rm) cc maxL ret e s m args below meth c s₁ → c.maxLocals = maxL → (∀ x ∈ c.exceptionTable.toList, False) → Pc args s →
      W p l e (headSpec ws rm).room s m args below meth c s.heap [] 0 0 (vx_MQ below Qc XC args s mc ms free) (entryFrame m args maxL)) : vx_Met l y ws rm Pc Qc XC mc ms free := by
  refine MetFree.of_bodyRF (code := cc) (maxLocals := maxL) (ret := ret) hy ?_ ?_
  · intro args s m h hn
    obtain ⟨meth, c, h1, h2, h3, h4, h5, h6, -, -⟩ := Cond.code_spec hn (atoms_spec (ws := ws) h _ (by rw [hw]; exact List.mem_cons_self))
    exact ⟨meth, c, h1, h2, h3, h4, h5, h6⟩
  · intro p e s m args below meth c s₁ B hml hP _ hst
    have hh0 : s₁.heap = s.heap := by rw [B.state]; rfl
    have ht : ∀ x ∈ c.exceptionTable.toList, False := by
      obtain ⟨meth9, c9, h1, h2, -, -, -, -, h7, -⟩ := Cond.code_spec B.named (atoms_spec (ws := ws) B.pre _ (by rw [hw]; exact List.mem_cons_self))
      cases Option.some.inj (h1.symm.trans B.method)
      cases Option.some.inj (h2.symm.trans (Stand.of_body B).code)
      intro x hx
      rw [Array.isEmpty_iff.mp h7] at hx
      cases hx
    obtain ⟨t, a1, o, b1, b2, b3⟩ := body p e s m args below meth c s₁ B hml ht hP s₁ hh0 (Stand.of_body B)
    exact ⟨t, o, hst.trans a1, b1, b2, b3⟩
theorem Mx_inF {M : aM} {d kc ks : Nat} {Q : aQ} {av : List aV} {g : aG} {I : aI} {L : aL} (hy : plainFor M.y = true) (hh : M.hh = []) (hc : noJ av = true) (hn : Nat.ble av.length M.nL = true) (k : Ex M d kc ks Q 0 (lo0 av M.nL) [] g I L) : Mx M d kc ks av g I L Q := by
  intro D K b b0 SA l hl
  refine vx_ofWF (cc := M.cc) (maxL := M.nL) (ret := M.ret) (ws' := gT) hy (by unfold aM.ws; rw [if_pos hh]) ?_
  intro p e s m args below meth c s₁ B hml ht hP
  obtain ⟨rfl, hz, hb, hKv, hKh⟩ := hP
  have hts := atoms_spec (ws := M.ws) B.pre
  have he : c.exceptionTable.toList = tableOf M.hh := by
    rw [hh]
    cases h9 : c.exceptionTable.toList with
    | nil => rfl
    | cons x r => rw [h9] at ht; exact absurd (ht x List.mem_cons_self) id
  have C : Cx D K b b0 SA M d p l (rm d kc ks) s m (av.map (cv (qa b b0))).toArray meth c kc ks :=
    ⟨⟨B.exec, B.bytes, hml, B.returns, B.notSynchronized, findClass_of_methodNamed B.named, (name_of_methodNamed B.named B.method).1⟩, fun w hw => hts w (List.mem_cons_of_mem _ hw), hl, ⟨Nat.le_refl _, Nat.le_refl _, Nat.le_refl _, Nat.le_refl _⟩, he, hb, hKv, hKh⟩
  rw [lg_entry_eq]
  exact k D K b b0 SA p l e (rm d kc ks) s m _ below meth c s.heap [] 0 0 kc ks _ C (by omega) (by omega) hz va_S.rf (lH_entry (noJ_ok av hc) (Nat.le_of_ble_eq_true hn))
end
section
/-! numbers and heaps -/
theorem up2_s {α : Type} {I : Nat → Nat → α} {i k : Nat} {v : α} : up2 I i k v i k = v := by simp [up2]
theorem up2_n {α : Type} {I : Nat → Nat → α} {i k j m : Nat} {v : α} (h : j ≠ i ∨ m ≠ k) : up2 I i k v j m = I j m := by
  unfold up2
  rw [if_neg]
  rintro ⟨rfl, rfl⟩
  rcases h with h | h <;> exact h rfl
theorem up2_i {α : Type} {I : Nat → Nat → α} {i k j m : Nat} {v : α} (h : j ≠ i) : up2 I i k v j m = I j m := up2_n (Or.inl h)
theorem up2_k {α : Type} {I : Nat → Nat → α} {i k j m : Nat} {v : α} (h : m ≠ k) : up2 I i k v j m = I j m := up2_n (Or.inr h)
theorem up2_self {α : Type} {I : Nat → Nat → α} {i k : Nat} {v : α} (h : I i k = v) : up2 I i k v = I := by
  funext j m
  unfold up2
  by_cases c : j = i ∧ m = k
  · rw [if_pos c, c.1, c.2, h]
  · rw [if_neg c]
theorem ltN {a b : Nat} (c : nI a < nI b) (ha : a < 2 ^ 31) (hb : b < 2 ^ 31) : a < b := (nI_ltI ha hb).mp c
theorem leN {a b : Nat} (c : nI a ≤ nI b) (ha : a < 2 ^ 31) (hb : b < 2 ^ 31) : a ≤ b := (nI_leI ha hb).mp c
theorem eqN {a b : Nat} (c : nI a = nI b) (ha : a < 2 ^ 31) (hb : b < 2 ^ 31) : a = b := (nI_eq ha hb).mp c
theorem inN {k n : Nat} (h : k < n) (hn : n < 2 ^ 31) : vp_in (nI k) n := vp_in_nI h hn
theorem clN {k : Nat} (h : k < 2 ^ 31) : (nI k).toNatClampNeg = k := nI_clamp h
def bz (x : Int32) : Int32 := if x = 0 then 0 else 1
theorem bz_01 {x : Int32} (h : x = 0 ∨ x = 1) : bz x = x := by rcases h with rfl | rfl <;> rfl
theorem bz_or (x : Int32) : bz x = 0 ∨ bz x = 1 := by unfold bz; split <;> simp
end
section
/-! Results, Math -/
section Res
variable {lx ly : Nat} {g : aG} {I : aI} {L : aL} {d t k : Nat}
theorem e_max {x y : Int32} (hw : WS lx ly g) : Mx mJ9_max_7cf53 d 0 0 [vI x, vI y] g I L (qV (some (vI (if x < y then y else x))) g I L) := by
  refine Mx_inF (by decide +kernel) rfl rfl rfl (Ex_wx [] 9 oJ9_max_7cf53 hw ?_)
  refine And.intro (fun c => ?_) (fun c => ?_)
  · exact ⟨by rw [if_pos c], rfl, rfl, rfl⟩
  · exact ⟨by rw [if_neg c], rfl, rfl, rfl⟩
theorem e_min {x y : Int32} (hw : WS lx ly g) : Mx mJ9_min_7cf53 d 0 0 [vI x, vI y] g I L (qV (some (vI (if y < x then y else x))) g I L) := by
  refine Mx_inF (by decide +kernel) rfl rfl rfl (Ex_wx [] 9 oJ9_min_7cf53 hw ?_)
  refine And.intro (fun c => ?_) (fun c => ?_)
  · exact ⟨by rw [if_pos c], rfl, rfl, rfl⟩
  · exact ⟨by rw [if_neg c], rfl, rfl, rfl⟩
theorem e5_size (hw : WS lx ly g) : Mx mX5_size d 0 0 [vS 4] g I L (qV (some (vI (I 4 4))) g I L) := by
  refine Mx_in (by decide +kernel) rfl rfl (Ex_blk oX5_size hw ?_)
  exact ⟨rfl, rfl, rfl, rfl⟩
theorem e5_has (hw : WS lx ly g) (ht : I 4 4 = nI t) (h3 : t ≤ 3100) (hk : k < t) : Mx mX5_has d 0 0 [vS 4, vI (nI k)] g I L (qV (some (vI 1)) g I L) := by
  refine Mx_in (by decide +kernel) rfl rfl (Ex_wx [] 9 oX5_has hw ?_)
  refine And.intro (fun c => absurd c (nI_pos (by omega))) (fun _ => ?_)
  refine And.intro (fun c => absurd (leN (ht ▸ c) (by omega) (by omega)) (by omega)) (fun _ => ?_)
  refine And.intro (fun c => absurd (leN (a := 3100) c (by omega) (by omega)) (by omega)) (fun _ => ?_)
  exact ⟨Or.inr rfl, rfl, rfl, rfl, rfl⟩
theorem e5_numberOf (hw : WS lx ly g) (ht : I 4 4 = nI t) (h3 : t ≤ 3100) (hk : k < t) (hd : 1 ≤ d) : Mx mX5_numberOf d 0 0 [vS 4, vI (nI k)] g I L (qV (some (vI (I 5 k))) g I L) := by
  refine Mx_in (by decide +kernel) rfl rfl (Ex_wx [] 9 oX5_numberOf hw ?_)
  refine Ex_v (As := [vI (nI k)]) (st := []) (d' := 0) vX5_29 rfl rfl (e5_has hw ht h3 hk) (hw 4 _ rfl).2.1 hd rfl (dc_ok oX5_numberOf rfl) ?_
  refine Ex_wx [] 9 oX5_numberOf hw ?_
  refine And.intro (fun c => absurd c (by decide)) (fun _ => ?_)
  refine And.intro (inN (by omega) (by omega)) ?_
  exact ⟨by rw [clN (by omega)], rfl, rfl, rfl⟩
theorem e5_stateOf (hw : WS lx ly g) (ht : I 4 4 = nI t) (h3 : t ≤ 3100) (hk : k < t) (hd : 1 ≤ d) : Mx mX5_stateOf d 0 0 [vS 4, vI (nI k)] g I L (qV (some (vI (I 7 k))) g I L) := by
  refine Mx_in (by decide +kernel) rfl rfl (Ex_wx [] 9 oX5_stateOf hw ?_)
  refine Ex_v (As := [vI (nI k)]) (st := []) (d' := 0) vX5_29 rfl rfl (e5_has hw ht h3 hk) (hw 4 _ rfl).2.1 hd rfl (dc_ok oX5_stateOf rfl) ?_
  refine Ex_wx [] 9 oX5_stateOf hw ?_
  refine And.intro (fun c => absurd c (by decide)) (fun _ => ?_)
  refine And.intro (inN (by omega) (by omega)) ?_
  exact ⟨by rw [clN (by omega)], rfl, rfl, rfl⟩
theorem e5_logOf (hw : WS lx ly g) (ht : I 4 4 = nI t) (h3 : t ≤ 3100) (hk : k < t) (hd : 1 ≤ d) : Mx mX5_logOf d 0 0 [vS 4, vI (nI k)] g I L (qV (some (vI (I 8 k))) g I L) := by
  refine Mx_in (by decide +kernel) rfl rfl (Ex_wx [] 9 oX5_logOf hw ?_)
  refine Ex_v (As := [vI (nI k)]) (st := []) (d' := 0) vX5_29 rfl rfl (e5_has hw ht h3 hk) (hw 4 _ rfl).2.1 hd rfl (dc_ok oX5_logOf rfl) ?_
  refine Ex_wx [] 9 oX5_logOf hw ?_
  refine And.intro (fun c => absurd c (by decide)) (fun _ => ?_)
  refine And.intro (inN (by omega) (by omega)) ?_
  exact ⟨by rw [clN (by omega)], rfl, rfl, rfl⟩
theorem e5_isError (hw : WS lx ly g) (ht : I 4 4 = nI t) (h3 : t ≤ 3100) (hk : k < t) (hd : 1 ≤ d) : Mx mX5_isError d 0 0 [vS 4, vI (nI k)] g I L (qV (some (vI (bz (I 6 k)))) g I L) := by
  refine Mx_in (by decide +kernel) rfl rfl (Ex_wx [] 9 oX5_isError hw ?_)
  refine Ex_v (As := [vI (nI k)]) (st := []) (d' := 0) vX5_29 rfl rfl (e5_has hw ht h3 hk) (hw 4 _ rfl).2.1 hd rfl (dc_ok oX5_isError rfl) ?_
  refine Ex_wx [] 9 oX5_isError hw ?_
  refine And.intro (fun c => absurd c (by decide)) (fun _ => ?_)
  refine And.intro (inN (by omega) (by omega)) ?_
  refine And.intro (fun c => ?_) (fun c => ?_)
  · rw [clN (by omega)] at c
    exact ⟨Or.inl rfl, by simp [bz, c], rfl, rfl, rfl⟩
  · rw [clN (by omega)] at c
    exact ⟨Or.inr rfl, by simp [bz, c], rfl, rfl, rfl⟩
theorem e5_setNumber {x : Int32} (hw : WS lx ly g) (ht : I 4 4 = nI t) (h3 : t ≤ 3100) (hk : k < t) (hd : 1 ≤ d) : Mx mX5_setNumber d 0 0 [vS 4, vI (nI k), vI x] g I L (qV none g (up2 I 5 k x) L) := by
  refine Mx_in (by decide +kernel) rfl rfl (Ex_wx [] 9 oX5_setNumber hw ?_)
  refine Ex_v (As := [vI (nI k)]) (st := []) (d' := 0) vX5_29 rfl rfl (e5_has hw ht h3 hk) (hw 4 _ rfl).2.1 hd rfl (dc_ok oX5_setNumber rfl) ?_
  refine Ex_wx [] 9 oX5_setNumber hw ?_
  refine And.intro (fun c => absurd c (by decide)) (fun _ => ?_)
  refine And.intro (inN (by omega) (by omega)) ?_
  exact ⟨rfl, rfl, by rw [clN (by omega)], rfl⟩
theorem e5_setState {x : Int32} (hw : WS lx ly g) (ht : I 4 4 = nI t) (h3 : t ≤ 3100) (hk : k < t) (hd : 1 ≤ d) : Mx mX5_setState d 0 0 [vS 4, vI (nI k), vI x] g I L (qV none g (up2 I 7 k x) L) := by
  refine Mx_in (by decide +kernel) rfl rfl (Ex_wx [] 9 oX5_setState hw ?_)
  refine Ex_v (As := [vI (nI k)]) (st := []) (d' := 0) vX5_29 rfl rfl (e5_has hw ht h3 hk) (hw 4 _ rfl).2.1 hd rfl (dc_ok oX5_setState rfl) ?_
  refine Ex_wx [] 9 oX5_setState hw ?_
  refine And.intro (fun c => absurd c (by decide)) (fun _ => ?_)
  refine And.intro (inN (by omega) (by omega)) ?_
  exact ⟨rfl, rfl, by rw [clN (by omega)], rfl⟩
theorem e5_setLog {x : Int32} (hw : WS lx ly g) (ht : I 4 4 = nI t) (h3 : t ≤ 3100) (hk : k < t) (hd : 1 ≤ d) : Mx mX5_setLog d 0 0 [vS 4, vI (nI k), vI x] g I L (qV none g (up2 I 8 k x) L) := by
  refine Mx_in (by decide +kernel) rfl rfl (Ex_wx [] 9 oX5_setLog hw ?_)
  refine Ex_v (As := [vI (nI k)]) (st := []) (d' := 0) vX5_29 rfl rfl (e5_has hw ht h3 hk) (hw 4 _ rfl).2.1 hd rfl (dc_ok oX5_setLog rfl) ?_
  refine Ex_wx [] 9 oX5_setLog hw ?_
  refine And.intro (fun c => absurd c (by decide)) (fun _ => ?_)
  refine And.intro (inN (by omega) (by omega)) ?_
  exact ⟨rfl, rfl, by rw [clN (by omega)], rfl⟩
/-- the heap with one more RESULT -/
def pushI (I : aI) (t : Nat) (x e s l : Int32) : aI := up2 (up2 (up2 (up2 (up2 I 5 t x) 6 t e) 7 t s) 8 t l) 4 4 (nI (t + 1))
theorem e5_push {x e s l : Int32} (hw : WS lx ly g) (ht : I 4 4 = nI t) (h3 : t < 3100) (he : e = 0 ∨ e = 1) : Mx mX5_push d 0 0 [vS 4, vI x, vI e, vI s, vI l] g I L (qV (some (vI 1)) g (pushI I t x e s l) L) := by
  refine Mx_in (by decide +kernel) rfl rfl (Ex_wx [19] 9 oX5_push hw ?_)
  refine And.intro (fun c => absurd (ht ▸ c) (nI_pos (by omega))) (fun _ => ?_)
  refine And.intro (fun c => ?_) (fun c => absurd (ht ▸ nI_lt (a := t) (b := 3100) (by omega) (by omega)) c)
  refine Ex_wx [] 9 oX5_push hw ?_
  have q5 : (I 4 4).toNatClampNeg = t := by rw [ht]; exact clN (by omega)
  have qi : vp_in (I 4 4) 3100 := by rw [ht]; exact inN (by omega) (by omega)
  refine And.intro qi ?_
  refine And.intro ⟨qi, he⟩ ?_
  refine And.intro qi ?_
  refine And.intro qi ?_
  refine ⟨Or.inr rfl, rfl, rfl, ?_, rfl⟩
  show up2 (up2 (up2 (up2 (up2 I 5 (I 4 4).toNatClampNeg x) 6 (I 4 4).toNatClampNeg e) 7 (I 4 4).toNatClampNeg s) 8 (I 4 4).toNatClampNeg l) 4 4 (I 4 4 + 1) = _
  rw [q5, ht, nI_1]
  rfl
theorem e5_pushAgain (hw : WS lx ly g) (ht : I 4 4 = nI t) (h3 : t < 3100) (hk : k < t) (hd : 2 ≤ d) : Mx mX5_pushAgain d 0 0 [vS 4, vI (nI k)] g I L (qV (some (vI 1)) g (pushI I t (I 5 k) (bz (I 6 k)) (I 7 k) (I 8 k)) L) := by
  have h4 := (hw 4 _ rfl).2.1
  refine Mx_in (by decide +kernel) rfl rfl (Ex_wx [] 9 oX5_pushAgain hw ?_)
  refine Ex_v (As := [vI (nI k)]) (st := [vS 4]) (d' := 1) vX5_35 rfl rfl (e5_numberOf hw ht (by omega) hk (by omega)) h4 (by omega) rfl (dc_ok oX5_pushAgain rfl) ?_
  refine Ex_wx [] 9 oX5_pushAgain hw ?_
  refine Ex_v (As := [vI (nI k)]) (st := [vI (I 5 k), vS 4]) (d' := 1) vX5_39 rfl rfl (e5_isError hw ht (by omega) hk (by omega)) h4 (by omega) rfl (dc_ok oX5_pushAgain rfl) ?_
  refine Ex_wx [] 9 oX5_pushAgain hw ?_
  refine Ex_v (As := [vI (nI k)]) (st := [vI (bz (I 6 k)), vI (I 5 k), vS 4]) (d' := 1) vX5_42 rfl rfl (e5_stateOf hw ht (by omega) hk (by omega)) h4 (by omega) rfl (dc_ok oX5_pushAgain rfl) ?_
  refine Ex_wx [] 9 oX5_pushAgain hw ?_
  refine Ex_v (As := [vI (nI k)]) (st := [vI (I 7 k), vI (bz (I 6 k)), vI (I 5 k), vS 4]) (d' := 1) vX5_45 rfl rfl (e5_logOf hw ht (by omega) hk (by omega)) h4 (by omega) rfl (dc_ok oX5_pushAgain rfl) ?_
  refine Ex_v (As := [vI (I 5 k), vI (bz (I 6 k)), vI (I 7 k), vI (I 8 k)]) (st := []) (d' := 1) vX5_48 rfl rfl (e5_push hw ht h3 (bz_or _)) h4 (by omega) rfl (dc_ok oX5_pushAgain rfl) ?_
  refine Ex_wx [] 9 oX5_pushAgain hw ?_
  exact ⟨Or.inr rfl, rfl, rfl, rfl, rfl⟩
theorem e5_cutTo (hw : WS lx ly g) (ht : I 4 4 = nI t) (h3 : t ≤ 3100) (hk : k ≤ t) : Mx mX5_cutTo d 0 0 [vS 4, vI (nI k)] g I L (qV none g (up2 I 4 4 (nI k)) L) := by
  refine Mx_in (by decide +kernel) rfl rfl (Ex_wx [] 9 oX5_cutTo hw ?_)
  refine And.intro (fun c => absurd c (nI_pos (by omega))) (fun _ => ?_)
  refine And.intro (fun c => ?_) (fun c => ?_)
  · have h5 := leN (ht ▸ c) (by omega) (by omega)
    have h6 : k = t := by omega
    exact ⟨rfl, rfl, by rw [up2_self (by rw [ht, h6])], rfl⟩
  · exact ⟨rfl, rfl, rfl, rfl⟩
end Res
end
section
/-! Logs -/
def gtL (f : Nat → Int32) (us : Nat) (l : Int32) : Int32 := if 0 < l ∧ l < nI us then f l.toNatClampNeg else 0
section Lgs
variable {lx ly : Nat} {g : aG} {I : aI} {L : aL} {d us : Nat} {l x : Int32}
theorem e2_clear (hw : WS lx ly g) : Mx mX2_clear d 0 0 [vS 9] g I L (qV none g (up2 I 9 3 1) L) := by
  refine Mx_in (by decide +kernel) rfl rfl (Ex_wx [] 9 oX2_clear hw ?_)
  exact ⟨rfl, rfl, rfl, rfl⟩
theorem e2_has (hw : WS lx ly g) (hu : I 9 3 = nI us) (h2 : us ≤ 2001) : Mx mX2_has d 0 0 [vS 9, vI l] g I L (qV (some (vI (if 0 < l ∧ l < nI us then 1 else 0))) g I L) := by
  refine Mx_in (by decide +kernel) rfl rfl (Ex_wx [] 9 oX2_has hw ?_)
  refine And.intro (fun c => ?_) (fun c => ?_)
  · exact ⟨Or.inl rfl, by rw [if_neg (fun h => Int32.not_lt.mpr c h.1)], rfl, rfl, rfl⟩
  refine And.intro (fun c2 => ?_) (fun c2 => ?_)
  · exact ⟨Or.inl rfl, by rw [if_neg (fun h => Int32.not_lt.mpr (hu ▸ c2) h.2)], rfl, rfl, rfl⟩
  refine And.intro (fun c3 => ?_) (fun c3 => ?_)
  · exfalso
    have h1 : l < nI us := by rw [hu] at c2; exact Int32.not_le.mp c2
    have h3 : nI 2001 ≤ l := c3
    have h4 : nI 2001 < nI us := Int32.lt_of_le_of_lt h3 h1
    exact absurd (ltN h4 (by omega) (by omega)) (by omega)
  · exact ⟨Or.inr rfl, by rw [if_pos ⟨Int32.not_le.mp c, by rw [hu] at c2; exact Int32.not_le.mp c2⟩], rfl, rfl, rfl⟩
theorem in_log (h2 : us ≤ 2001) (h : 0 < l ∧ l < nI us) : vp_in l 2001 := by
  refine vp_in_iff.mpr ?_
  have h1 := Int32.lt_iff_toInt_lt.mp h.1
  have h3 := Int32.lt_iff_toInt_lt.mp h.2
  rw [nI_toInt (by omega)] at h3
  simp only [Int32.toInt_zero] at h1
  omega
theorem e2_lengthOf (hw : WS lx ly g) (hu : I 9 3 = nI us) (h2 : us ≤ 2001) (hd : 1 ≤ d) : Mx mX2_lengthOf d 0 0 [vS 9, vI l] g I L (qV (some (vI (gtL (I 12) us l))) g I L) := by
  refine Mx_in (by decide +kernel) rfl rfl (Ex_wx [] 9 oX2_lengthOf hw ?_)
  refine Ex_v (As := [vI l]) (st := []) (d' := 0) vX2_25 rfl rfl (e2_has hw hu h2) (hw 9 _ rfl).2.1 hd rfl (dc_ok oX2_lengthOf rfl) ?_
  by_cases h : 0 < l ∧ l < nI us
  · rw [if_pos h]
    refine Ex_wx [] 9 oX2_lengthOf hw ?_
    refine And.intro (fun c => absurd c (by decide)) (fun _ => ?_)
    refine And.intro (in_log h2 h) ?_
    exact ⟨by unfold gtL; rw [if_pos h], rfl, rfl, rfl⟩
  · rw [if_neg h]
    refine Ex_wx [] 9 oX2_lengthOf hw ?_
    refine And.intro (fun c => ?_) (fun c => absurd rfl c)
    exact ⟨by unfold gtL; rw [if_neg h], rfl, rfl, rfl⟩
theorem e2_lastOf (hw : WS lx ly g) (hu : I 9 3 = nI us) (h2 : us ≤ 2001) (hd : 1 ≤ d) : Mx mX2_lastOf d 0 0 [vS 9, vI l] g I L (qV (some (vI (gtL (I 10) us l))) g I L) := by
  refine Mx_in (by decide +kernel) rfl rfl (Ex_wx [] 9 oX2_lastOf hw ?_)
  refine Ex_v (As := [vI l]) (st := []) (d' := 0) vX2_25 rfl rfl (e2_has hw hu h2) (hw 9 _ rfl).2.1 hd rfl (dc_ok oX2_lastOf rfl) ?_
  by_cases h : 0 < l ∧ l < nI us
  · rw [if_pos h]
    refine Ex_wx [] 9 oX2_lastOf hw ?_
    refine And.intro (fun c => absurd c (by decide)) (fun _ => ?_)
    refine And.intro (in_log h2 h) ?_
    exact ⟨by unfold gtL; rw [if_pos h], rfl, rfl, rfl⟩
  · rw [if_neg h]
    refine Ex_wx [] 9 oX2_lastOf hw ?_
    refine And.intro (fun c => ?_) (fun c => absurd rfl c)
    exact ⟨by unfold gtL; rw [if_neg h], rfl, rfl, rfl⟩
theorem e2_withoutLast (hw : WS lx ly g) (hu : I 9 3 = nI us) (h2 : us ≤ 2001) (hd : 1 ≤ d) : Mx mX2_withoutLast d 0 0 [vS 9, vI l] g I L (qV (some (vI (gtL (I 11) us l))) g I L) := by
  refine Mx_in (by decide +kernel) rfl rfl (Ex_wx [] 9 oX2_withoutLast hw ?_)
  refine Ex_v (As := [vI l]) (st := []) (d' := 0) vX2_25 rfl rfl (e2_has hw hu h2) (hw 9 _ rfl).2.1 hd rfl (dc_ok oX2_withoutLast rfl) ?_
  by_cases h : 0 < l ∧ l < nI us
  · rw [if_pos h]
    refine Ex_wx [] 9 oX2_withoutLast hw ?_
    refine And.intro (fun c => absurd c (by decide)) (fun _ => ?_)
    refine And.intro (in_log h2 h) ?_
    exact ⟨by unfold gtL; rw [if_pos h], rfl, rfl, rfl⟩
  · rw [if_neg h]
    refine Ex_wx [] 9 oX2_withoutLast hw ?_
    refine And.intro (fun c => ?_) (fun c => absurd rfl c)
    exact ⟨by unfold gtL; rw [if_neg h], rfl, rfl, rfl⟩
def withI (I : aI) (us : Nat) (l x n : Int32) : aI := up2 (up2 (up2 (up2 I 10 us x) 11 us l) 12 us n) 9 3 (nI (us + 1))
theorem e2_with (hw : WS lx ly g) (hu : I 9 3 = nI us) (h1 : 1 ≤ us) (h2 : us ≤ 2000) (hd : 2 ≤ d) (h60 : ¬ 60 < gtL (I 12) us l + 1) : Mx mX2_with d 0 0 [vS 9, vI l, vI x] g I L (qV (some (vI (nI us))) g (withI I us l x (gtL (I 12) us l + 1)) L) := by
  refine Mx_in (by decide +kernel) rfl rfl (Ex_wx [] 9 oX2_with hw ?_)
  refine Ex_v (As := [vI l]) (st := []) (d' := 1) vX2_29 rfl rfl (e2_lengthOf hw hu (by omega) (by omega)) (hw 9 _ rfl).2.1 (by omega) rfl (dc_ok oX2_with rfl) ?_
  refine Ex_wx [34] 9 oX2_with hw ?_
  refine And.intro (fun c => absurd c h60) (fun _ => ?_)
  refine And.intro (fun c => absurd (ltN (b := 1) (hu ▸ c) (by omega) (by omega)) (by omega)) (fun _ => ?_)
  refine And.intro (fun c => ?_) (fun c => absurd (hu ▸ nI_lt (a := us) (b := 2001) (by omega) (by omega)) c)
  refine Ex_wx [] 9 oX2_with hw ?_
  have q5 : (I 9 3).toNatClampNeg = us := by rw [hu]; exact clN (by omega)
  have qi : vp_in (I 9 3) 2001 := by rw [hu]; exact inN (by omega) (by omega)
  refine And.intro qi ?_
  refine And.intro qi ?_
  refine And.intro qi ?_
  refine ⟨?_, rfl, ?_, rfl⟩
  · show (Sum.inl (some (vI (I 9 3 + 1 - 1))) : aO) = _
    rw [hu, nI_1, nI_pred]
  · show up2 (up2 (up2 (up2 I 10 (I 9 3).toNatClampNeg x) 11 (I 9 3).toNatClampNeg l) 12 (I 9 3).toNatClampNeg (gtL (I 12) us l + 1)) 9 3 (I 9 3 + 1) = _
    rw [q5, hu, nI_1]
    rfl
theorem e2_without (hw : WS lx ly g) (hu : I 9 3 = nI us) (h2 : us ≤ 2001) (hd : 2 ≤ d) (h60 : 60 < gtL (I 12) us l + 1) : Mx mX2_with d 0 0 [vS 9, vI l, vI x] g I L (qV (some (vI (-1))) g I L) := by
  refine Mx_in (by decide +kernel) rfl rfl (Ex_wx [] 9 oX2_with hw ?_)
  refine Ex_v (As := [vI l]) (st := []) (d' := 1) vX2_29 rfl rfl (e2_lengthOf hw hu (by omega) (by omega)) (hw 9 _ rfl).2.1 (by omega) rfl (dc_ok oX2_with rfl) ?_
  refine Ex_wx [34] 9 oX2_with hw ?_
  refine And.intro (fun _ => ?_) (fun c => absurd h60 c)
  exact ⟨rfl, rfl, rfl, rfl⟩
end Lgs
end
section
/-! closeGap -/
abbrev mR : Type := Int32 × Int32 × Int32 × Int32
def resAt (I : aI) (k : Nat) : mR := (I 5 k, I 6 k, I 7 k, I 8 k)
theorem resAt_push {I : aI} {t k : Nat} {x e s l : Int32} : resAt (pushI I t x e s l) k = if k = t then (x, e, s, l) else resAt I k := by
  unfold resAt pushI up2
  by_cases h : k = t <;> simp [h]
theorem push_top {I : aI} {t : Nat} {x e s l : Int32} : pushI I t x e s l 4 4 = nI (t + 1) := by simp [pushI, up2]
theorem push_else {I : aI} {t i : Nat} {x e s l : Int32} (h : i < 4 ∨ 8 < i) : pushI I t x e s l i = I i := by
  funext k
  unfold pushI up2
  rw [if_neg (by omega), if_neg (by omega), if_neg (by omega), if_neg (by omega), if_neg (by omega)]
theorem cut_res {I : aI} {k : Nat} {x : Int32} : resAt (up2 I 4 4 x) k = resAt I k := by simp [resAt, up2]
theorem cut_else {I : aI} {i : Nat} {x : Int32} (h : i < 4 ∨ 8 < i) : up2 I 4 4 x i = I i := by
  funext k
  unfold up2
  rw [if_neg (by omega)]
def gapP (I I' : aI) (base fr t : Nat) : Prop := I' 4 4 = nI (base + (t - fr)) ∧ (∀ k, k < base → resAt I' k = resAt I k) ∧ (∀ j, j < t - fr → resAt I' (base + j) = resAt I (fr + j)) ∧ ∀ i, i < 4 ∨ 8 < i → I' i = I i
section Gap
variable {lx ly : Nat} {g : aG} {I : aI} {L : aL} {d t base fr : Nat}
theorem e5_gapL (hw : WS lx ly g) (h3 : t ≤ 3100) (hb : base ≤ fr) (hd : 1 ≤ d) (he : ∀ k, fr ≤ k → k < t → I 6 k = 0 ∨ I 6 k = 1) : ∀ (n i : Nat) (I1 : aI), t - i = n → fr ≤ i → i ≤ t → I1 4 4 = nI (base + (i - fr)) → (∀ k, k < base → resAt I1 k = resAt I k) → (∀ j, j < i - fr → resAt I1 (base + j) = resAt I (fr + j)) → (∀ k, i ≤ k → resAt I1 k = resAt I k) → (∀ i, i < 4 ∨ 8 < i → I1 i = I i) →
    Ex mX5_closeGap d 0 0 (fun o g' I' L' => o = .inl none ∧ g' = g ∧ L' = L ∧ gapP I I' base fr t) 23 [some (vS 4), some (vI (nI base)), some (vI (nI fr)), some (vI (nI t)), some (vI (nI i))] [] g I1 L := by
  intro n
  induction n with
  | zero =>
    intro i I1 hn hi1 hi2 j1 j2 j3 j4 j5
    have : i = t := by omega
    subst this
    refine Ex_wx [] 9 oX5_closeGap hw ?_
    refine And.intro (fun _ => ?_) (fun c => absurd (Int32.le_refl _) c)
    exact ⟨rfl, rfl, rfl, j1, j2, j3, j5⟩
  | succ n ih =>
    intro i I1 hn hi1 hi2 j1 j2 j3 j4 j5
    refine Ex_wx [] 9 oX5_closeGap hw ?_
    refine And.intro (fun c => absurd (leN c (by omega) (by omega)) (by omega)) (fun _ => ?_)
    have hc : (nI i).toNatClampNeg = i := clN (by omega)
    have hv : vp_in (nI i) 3100 := inN (by omega) (by omega)
    refine And.intro hv (And.intro hv (And.intro hv (And.intro hv ?_)))
    have h6 : I1 6 i = 0 ∨ I1 6 i = 1 := by
      have h7 := j4 i (Nat.le_refl i)
      have h8 : I1 6 i = I 6 i := congrArg (fun r : mR => r.2.1) h7
      rw [h8]; exact he i hi1 (by omega)
    refine Ex_v (As := [vI (I1 5 (nI i).toNatClampNeg), vI (I1 6 (nI i).toNatClampNeg), vI (I1 7 (nI i).toNatClampNeg), vI (I1 8 (nI i).toNatClampNeg)]) (st := []) (d' := 0) vX5_48 rfl rfl (e5_push hw j1 (by omega) (by rw [hc]; exact h6)) (hw 4 _ rfl).2.1 hd rfl (dc_ok oX5_closeGap rfl) ?_
    rw [hc]
    refine Ex_wx [23] 9 oX5_closeGap hw ?_
    have e1 : nI i + 1 = nI (i + 1) := nI_1 i
    show Ex mX5_closeGap d 0 0 _ 23 [some (vS 4), some (vI (nI base)), some (vI (nI fr)), some (vI (nI t)), some (vI (nI i + 1))] [] g (pushI I1 (base + (i - fr)) (I1 5 i) (I1 6 i) (I1 7 i) (I1 8 i)) L
    rw [e1]
    refine ih (i + 1) _ (by omega) (by omega) (by omega) ?_ ?_ ?_ ?_ ?_
    · rw [push_top]; congr 1; omega
    · intro k hk; rw [resAt_push, if_neg (by omega)]; exact j2 k hk
    · intro j hj
      rw [resAt_push]
      by_cases hj2 : base + j = base + (i - fr)
      · rw [if_pos hj2]
        have : j = i - fr := by omega
        subst this
        rw [show fr + (i - fr) = i by omega]
        exact j4 i (Nat.le_refl i)
      · rw [if_neg hj2]; exact j3 j (by omega)
    · intro k hk; rw [resAt_push, if_neg (by omega)]; exact j4 k (by omega)
    · intro i' hi'; rw [push_else hi']; exact j5 i' hi'
theorem e5_closeGap (hw : WS lx ly g) (ht : I 4 4 = nI t) (h3 : t ≤ 3100) (hb : base ≤ fr) (hf : fr ≤ t) (hd : 1 ≤ d) (he : ∀ k, fr ≤ k → k < t → I 6 k = 0 ∨ I 6 k = 1) : Mx mX5_closeGap d 0 0 [vS 4, vI (nI base), vI (nI fr)] g I L (fun o g' I' L' => o = .inl none ∧ g' = g ∧ L' = L ∧ gapP I I' base fr t) := by
  refine Mx_in (by decide +kernel) rfl rfl (Ex_wx [] 9 oX5_closeGap hw ?_)
  refine Ex_s (As := [vI (I 4 4), vI 3100]) (st := []) (d' := 0) sX5_52 rfl rfl (e_min hw) hd rfl (dc_ok oX5_closeGap rfl) ?_
  rw [if_neg (by rw [ht]; exact nI_nlt (b := t) (a := 3100) h3 (by omega)), ht]
  refine Ex_wx [] 9 oX5_closeGap hw ?_
  refine Ex_v (As := [vI (nI base)]) (st := []) (d' := 0) vX5_58 rfl rfl (e5_cutTo hw ht h3 (by omega)) (hw 4 _ rfl).2.1 hd rfl (dc_ok oX5_closeGap rfl) ?_
  refine Ex_wx [] 9 oX5_closeGap hw ?_
  refine Ex_s (As := [vI 0, vI (nI fr)]) (st := []) (d' := 0) sX5_62 rfl rfl (e_max hw) hd rfl (dc_ok oX5_closeGap rfl) ?_
  have hm : (if (0 : Int32) < nI fr then nI fr else 0) = nI fr := by
    by_cases h0 : fr = 0
    · subst h0; rfl
    · rw [if_pos (show (0 : Int32) < nI fr from nI_lt (a := 0) (b := fr) (by omega) (by omega))]
  rw [hm]
  refine Ex_bn 1 oX5_closeGap hw ?_
  refine e5_gapL hw h3 hb hd he (t - fr) fr _ rfl (Nat.le_refl _) hf ?_ ?_ ?_ ?_ ?_
  · rw [Nat.sub_self]; exact up2_s
  · intro k _; exact cut_res
  · intro j hj; omega
  · intro k _; exact cut_res
  · intro i hi; exact cut_else hi
end Gap
end
section
/-! what doing a TERM comes to: the middle between the class and the reference -/
/-- spent, used, numbers, befores, lengths, state, log, the error's number -/
abbrev mE : Type := Nat × Nat × (Nat → Int32) × (Nat → Int32) × (Nat → Int32) × Int32 × Int32 × Int32
abbrev mE.sp (e : mE) : Nat := e.1
abbrev mE.us (e : mE) : Nat := e.2.1
abbrev mE.nu (e : mE) : Nat → Int32 := e.2.2.1
abbrev mE.be (e : mE) : Nat → Int32 := e.2.2.2.1
abbrev mE.le (e : mE) : Nat → Int32 := e.2.2.2.2.1
abbrev mE.s (e : mE) : Int32 := e.2.2.2.2.2.1
abbrev mE.l (e : mE) : Int32 := e.2.2.2.2.2.2.1
abbrev mE.en (e : mE) : Int32 := e.2.2.2.2.2.2.2
/-- own state, own log, own error, an error loses the state, the log -/
abbrev mF : Type := Bool × Bool × Bool × Bool × Bool
/-- kind, named, operand, name, first, second -/
abbrev mB : Type := Nat → Nat × Int32 × Int32 × Int32 × Nat × Nat
abbrev mO : Type := Nat × List mR × mE
def nmF (env : Nat → Int32) (n : Int32) : Int32 := if 0 ≤ n ∧ n < 8 then env n.toNatClampNeg else 0
def upE (env : Nat → Int32) (n v : Int32) : Nat → Int32 := if 0 ≤ n ∧ n < 8 then up1 env n.toNatClampNeg v else env
def opF (env : Nat → Int32) (named x : Int32) : Int32 := if named = 0 then x else nmF env x
def rkF (k : Nat) (p q : Int32) : Int32 := if k = 14 then p + q else if k = 15 then p - q else if k = 16 then p * q else if k = 17 then (if p < q then 1 else 0) else (if p = q then 1 else 0)
def own2 (F : mF) (e : mE) (s l : Int32) : mE := (e.sp, e.us, e.nu, e.be, e.le, if F.1 = true then s else e.s, if F.2.1 = true then l else e.l, e.en)
def setSL (e : mE) (s l : Int32) : mE := (e.sp, e.us, e.nu, e.be, e.le, s, l, e.en)
def ansF (x : Int32) (e : mE) : mO := (0, [(x, 0, e.s, e.l)], e)
def lenF (e : mE) (l : Int32) : Int32 := gtL e.le e.us l
def sayF (e : mE) (x : Int32) : mE := (e.sp, e.us + 1, up1 e.nu e.us x, up1 e.be e.us e.l, up1 e.le e.us (lenF e e.l + 1), e.s, nI e.us, e.en)
def eachF (F : mF) (go : (Nat → Int32) → mE → mO) (oe nm : Int32) (env : Nat → Int32) : List mR → List mR → mE → mO
  | [], acc, e => (0, acc, e)
  | r :: rs, acc, e =>
    let q : mO := if r.2.1 = oe then go (upE env nm r.1) (own2 F e r.2.2.1 r.2.2.2) else (0, [r], e)
    if q.1 ≠ 0 then (q.1, [], q.2.2) else if 50 < (acc ++ q.2.1).length then (2, [], q.2.2) else eachF F go oe nm env rs (acc ++ q.2.1) q.2.2
def timesF (F : mF) (go : (Nat → Int32) → mE → mO) (env : Nat → Int32) : Nat → List mR → mE → mO
  | 0, rs, e => (0, rs, e)
  | n + 1, rs, e =>
    let q := eachF F go 0 (-1) env rs [] e
    if q.1 ≠ 0 then (q.1, [], q.2.2) else timesF F go env n q.2.1 q.2.2
def clampF (x : Int32) : Nat := if x < 0 then 0 else if 8 < x then 8 else x.toNatClampNeg
def eitherF (F : mF) (e : mE) (a : mO) (go : mE → mO) : mO :=
  if a.1 ≠ 0 then (a.1, [], a.2.2) else
    let q := go (own2 F a.2.2 e.s e.l)
    if q.1 ≠ 0 then (q.1, [], q.2.2) else if 50 < (a.2.1 ++ q.2.1).length then (2, [], q.2.2) else (0, a.2.1 ++ q.2.1, q.2.2)
def savedM (F : mF) (e : mE) (r : mR) : mR := if r.2.1 = 0 then r else (r.1, r.2.1, if F.2.2.2.1 = true then e.s else r.2.2.1, if F.2.2.2.2 = true then e.l else r.2.2.2)
def savedF (F : mF) (e : mE) (a : mO) (go : (Nat → Int32) → mE → mO) (nm : Int32) (env : Nat → Int32) : mO :=
  if a.1 = 1 then go (upE env nm a.2.2.en) (setSL a.2.2 (if F.2.2.2.1 = true then e.s else a.2.2.s) (if F.2.2.2.2 = true then e.l else a.2.2.l))
  else if a.1 ≠ 0 then (a.1, [], a.2.2) else eachF F go 1 nm env (a.2.1.map (savedM F e)) [] a.2.2
def heardM (F : mF) (len0 : Int32) (e : mE) (r : mR) : mR := if r.2.1 = 0 then (lenF e (if F.2.1 = true then r.2.2.2 else e.l) - len0, r.2.1, r.2.2.1, r.2.2.2) else r
def hiddenM (l : Int32) (r : mR) : mR := (r.1, r.2.1, r.2.2.1, l)
def ev (F : mF) (B : mB) (lim : Nat) : Nat → Nat → (Nat → Int32) → mE → mO
  | 0, _, _, e => (2, [], e)
  | f + 1, t, env, e0 =>
    if lim ≤ e0.sp then (2, [], e0) else
    let e : mE := (e0.sp + 1, e0.2)
    let x := opF env (B t).2.1 (B t).2.2.1
    let nm := (B t).2.2.2.1
    let a := (B t).2.2.2.2.1
    let b := (B t).2.2.2.2.2
    match (B t).1 with
    | 0 => ansF x e
    | 1 => ansF e.s e
    | 2 => ansF e.s (setSL e x e.l) 
    | 3 => if 60 < lenF e e.l + 1 then (2, [], e) else ansF x (sayF e x)
    | 4 => if F.2.2.1 = true then (0, [(x, 1, e.s, e.l)], e) else (1, [], (e.sp, e.us, e.nu, e.be, e.le, e.s, e.l, x))
    | 5 => (0, [], e)
    | 6 => eitherF F e (ev F B lim f a env e) (ev F B lim f b env)
    | 7 => let q := ev F B lim f a env e
      if q.1 ≠ 0 then (q.1, [], q.2.2) else eachF F (ev F B lim f b) 0 nm env q.2.1 [] q.2.2
    | 8 => savedF F e (ev F B lim f a env e) (ev F B lim f b) nm env
    | 9 => ev F B lim f (if nmF env nm = 0 then b else a) env e
    | 10 => timesF F (ev F B lim f a) env (clampF x) [(0, 0, e.s, e.l)] e
    | 11 => let q := ev F B lim f a env e
      if q.1 ≠ 0 then (q.1, [], q.2.2) else (0, q.2.1.take 1, q.2.2)
    | 12 => let q := ev F B lim f a env e
      if q.1 ≠ 0 then (q.1, [], q.2.2) else (0, q.2.1.map (heardM F (lenF e e.l) q.2.2), q.2.2)
    | 13 => let q := ev F B lim f a env e
      if q.1 ≠ 0 then (q.1, [], q.2.2) else (0, q.2.1.map (hiddenM e.l), setSL q.2.2 q.2.2.s e.l)
    | k => ansF (rkF k x (nmF env nm)) e
end
section
/-! the evaluator's own laws -/
def invE (lim : Nat) (e : mE) : Prop := 1 ≤ e.us ∧ e.us ≤ e.sp + 1 ∧ e.sp ≤ lim
def errR (rs : List mR) : Prop := ∀ r ∈ rs, r.2.1 = 0 ∨ r.2.1 = 1
def okO (lim : Nat) (q : mO) : Prop := q.1 ≤ 2 ∧ invE lim q.2.2 ∧ (q.1 = 0 → q.2.1.length ≤ 50 ∧ errR q.2.1)
def okG (lim : Nat) (go : (Nat → Int32) → mE → mO) : Prop := ∀ env e, invE lim e → okO lim (go env e)
theorem own2_inv {lim : Nat} {F : mF} {e : mE} {s l : Int32} (h : invE lim e) : invE lim (own2 F e s l) := h
theorem setSL_inv {lim : Nat} {e : mE} {s l : Int32} (h : invE lim e) : invE lim (setSL e s l) := h
theorem errR_app {a b : List mR} (ha : errR a) (hb : errR b) : errR (a ++ b) := fun r hr => (List.mem_append.mp hr).elim (ha r) (hb r)
theorem each_ok {lim : Nat} {F : mF} {go : (Nat → Int32) → mE → mO} {oe nm : Int32} {env : Nat → Int32} (hg : okG lim go) : ∀ (rs acc : List mR) (e : mE), invE lim e → errR rs → errR acc → acc.length ≤ 50 → okO lim (eachF F go oe nm env rs acc e) := by
  intro rs
  induction rs with
  | nil => intro acc e h1 h2 h3 h4; exact ⟨Nat.zero_le _, h1, fun _ => ⟨h4, h3⟩⟩
  | cons r rs ih =>
    intro acc e h1 h2 h3 h4
    simp only [eachF]
    generalize hq : (if r.2.1 = oe then go (upE env nm r.1) (own2 F e r.2.2.1 r.2.2.2) else (0, [r], e) : mO) = q
    have hqo : okO lim q := by
      rw [← hq]
      split
      · exact hg _ _ (own2_inv h1)
      · exact ⟨Nat.zero_le _, h1, fun _ => ⟨by simp, fun x hx => by rw [List.mem_singleton.mp hx]; exact h2 r List.mem_cons_self⟩⟩
    split
    · rename_i hne
      exact ⟨hqo.1, hqo.2.1, fun h => absurd h hne⟩
    · rename_i hne
      have hz : q.1 = 0 := Decidable.not_not.mp hne
      split
      · exact ⟨Nat.le_refl _, hqo.2.1, fun h => by cases h⟩
      · rename_i hl
        exact ih _ _ hqo.2.1 (fun x hx => h2 x (List.mem_cons_of_mem _ hx)) (errR_app h3 (hqo.2.2 hz).2) (Nat.le_of_not_lt hl)
theorem times_ok {lim : Nat} {F : mF} {go : (Nat → Int32) → mE → mO} {env : Nat → Int32} (hg : okG lim go) : ∀ (n : Nat) (rs : List mR) (e : mE), invE lim e → errR rs → rs.length ≤ 50 → okO lim (timesF F go env n rs e) := by
  intro n
  induction n with
  | zero => intro rs e h1 h2 h3; exact ⟨Nat.zero_le _, h1, fun _ => ⟨h3, h2⟩⟩
  | succ n ih =>
    intro rs e h1 h2 h3
    simp only [timesF]
    have hq := each_ok (F := F) (oe := 0) (nm := -1) (env := env) hg rs [] e h1 h2 (fun x hx => by cases hx) (by simp)
    split
    · rename_i hne
      exact ⟨hq.1, hq.2.1, fun h => absurd h hne⟩
    · rename_i hne
      have hz := Decidable.not_not.mp hne
      exact ih _ _ hq.2.1 (hq.2.2 hz).2 (hq.2.2 hz).1
theorem ans_ok {lim : Nat} {x : Int32} {e : mE} (h : invE lim e) : okO lim (ansF x e) := ⟨Nat.zero_le _, h, fun _ => ⟨by simp [ansF], fun r hr => by simp only [ansF, List.mem_singleton] at hr; rw [hr]; exact Or.inl rfl⟩⟩
theorem ev_ok {F : mF} {B : mB} {lim : Nat} : ∀ (f t : Nat) (env : Nat → Int32) (e : mE), invE lim e → okO lim (ev F B lim f t env e) := by
  intro f
  induction f with
  | zero => intro t env e h; exact ⟨Nat.le_refl _, h, fun h => by cases h⟩
  | succ f ih =>
    intro t env e0 h0
    simp only [ev]
    split
    · exact ⟨Nat.le_refl _, h0, fun h => by cases h⟩
    · rename_i hsp
      generalize he : ((e0.sp + 1, e0.2) : mE) = e
      have h : invE lim e := by
        rw [← he]
        obtain ⟨h1, h2, h3⟩ := h0
        exact ⟨h1, by show e0.us ≤ e0.sp + 1 + 1; omega, by show e0.sp + 1 ≤ lim; omega⟩
      have hsu : mE.us e ≤ mE.sp e := by
        rw [← he]; exact h0.2.1
      have hgo : ∀ t, okG lim (ev F B lim f t) := fun t env e h => ih t env e h
      have hne : ∀ (q : mO), okO lim q → q.1 ≠ 0 → okO lim (q.1, [], q.2.2) := fun q hq hn => ⟨hq.1, hq.2.1, fun h => absurd h hn⟩
      split
      · exact ans_ok h
      · exact ans_ok h
      · exact ans_ok (setSL_inv h)
      · split
        · exact ⟨Nat.le_refl _, h, fun h => by cases h⟩
        · refine ans_ok ⟨?_, ?_, h.2.2⟩
          · show 1 ≤ mE.us e + 1; omega
          · show mE.us e + 1 ≤ mE.sp e + 1; omega
      · split
        · exact ⟨Nat.zero_le _, h, fun _ => ⟨by simp, fun r hr => by rw [List.mem_singleton.mp hr]; exact Or.inr rfl⟩⟩
        · exact ⟨by simp, h, fun h => by cases h⟩
      · exact ⟨Nat.zero_le _, h, fun _ => ⟨by simp, fun r hr => by cases hr⟩⟩
      · unfold eitherF
        have ha := ih (B t).2.2.2.2.1 env e h
        split
        · rename_i hn; exact hne _ ha hn
        · rename_i hn
          have hz := Decidable.not_not.mp hn
          have hb := ih (B t).2.2.2.2.2 env _ (own2_inv (F := F) (s := mE.s e) (l := mE.l e) ha.2.1)
          simp only
          split
          · rename_i hn2; exact hne _ hb hn2
          · rename_i hn2
            have hz2 := Decidable.not_not.mp hn2
            split
            · exact ⟨Nat.le_refl _, hb.2.1, fun h => by cases h⟩
            · rename_i hl
              exact ⟨Nat.zero_le _, hb.2.1, fun _ => ⟨Nat.le_of_not_lt hl, errR_app (ha.2.2 hz).2 (hb.2.2 hz2).2⟩⟩
      · have ha := ih (B t).2.2.2.2.1 env e h
        split
        · rename_i hn; exact hne _ ha hn
        · rename_i hn
          have hz := Decidable.not_not.mp hn
          exact each_ok (hgo _) _ _ _ ha.2.1 (ha.2.2 hz).2 (fun x hx => by cases hx) (by simp)
      · unfold savedF
        have ha := ih (B t).2.2.2.2.1 env e h
        split
        · exact ih _ _ _ (setSL_inv ha.2.1)
        · split
          · rename_i hn; exact hne _ ha hn
          · rename_i hn
            have hz := Decidable.not_not.mp hn
            refine each_ok (hgo _) _ _ _ ha.2.1 ?_ (fun x hx => by cases hx) (by simp)
            intro r hr
            obtain ⟨r', hr', rfl⟩ := List.mem_map.mp hr
            have := (ha.2.2 hz).2 r' hr'
            unfold savedM
            split <;> exact this
      · exact ih _ _ _ h
      · exact times_ok (hgo _) _ _ _ h (fun r hr => by rw [List.mem_singleton.mp hr]; exact Or.inl rfl) (by simp)
      · have ha := ih (B t).2.2.2.2.1 env e h
        split
        · rename_i hn; exact hne _ ha hn
        · rename_i hn
          have hz := Decidable.not_not.mp hn
          refine ⟨Nat.zero_le _, ha.2.1, fun _ => ⟨?_, fun r hr => (ha.2.2 hz).2 r (List.mem_of_mem_take hr)⟩⟩
          have := (ha.2.2 hz).1
          simp only [List.length_take]
          omega
      · have ha := ih (B t).2.2.2.2.1 env e h
        split
        · rename_i hn; exact hne _ ha hn
        · rename_i hn
          have hz := Decidable.not_not.mp hn
          refine ⟨Nat.zero_le _, ha.2.1, fun _ => ⟨by simp only [List.length_map]; exact (ha.2.2 hz).1, fun r hr => ?_⟩⟩
          obtain ⟨r', hr', rfl⟩ := List.mem_map.mp hr
          have := (ha.2.2 hz).2 r' hr'
          unfold heardM
          split <;> exact this
      · have ha := ih (B t).2.2.2.2.1 env e h
        split
        · rename_i hn; exact hne _ ha hn
        · rename_i hn
          have hz := Decidable.not_not.mp hn
          refine ⟨Nat.zero_le _, setSL_inv ha.2.1, fun _ => ⟨by simp only [List.length_map]; exact (ha.2.2 hz).1, fun r hr => ?_⟩⟩
          obtain ⟨r', hr', rfl⟩ := List.mem_map.mp hr
          exact (ha.2.2 hz).2 r' hr'
      · exact ans_ok h
end
section
/-! the machine's small methods -/
def bI (b : Bool) : Int32 := if b = true then 1 else 0
theorem bI_0 {b : Bool} : bI b = 0 ↔ b = false := by cases b <;> simp [bI]
def Mch (I : aI) (lim : Nat) (e : mE) (env : Nat → Int32) (top : Nat) : Prop :=
  I 3 7 = nI (mE.sp e) ∧ I 3 6 = nI lim ∧ I 3 4 = mE.s e ∧ I 3 5 = mE.l e ∧ I 3 8 = mE.en e ∧ I 9 3 = nI (mE.us e) ∧ I 10 = mE.nu e ∧ I 11 = mE.be e ∧ I 12 = mE.le e ∧ (∀ k, k < 8 → I 13 k = env k) ∧ I 4 4 = nI top
def Lay (I : aI) (ly : Nat) (F : mF) : Prop := I ly 1 = bI F.1 ∧ I ly 2 = bI F.2.1 ∧ I ly 3 = bI F.2.2.1 ∧ I ly 6 = bI F.2.2.2.1 ∧ I ly 7 = bI F.2.2.2.2
def Cm (lx ly : Nat) (g : aG) : Prop := WS lx ly g ∧ g.2.1 ly = some (.inl 1) ∧ 13 < ly
def Rows (I : aI) (base : Nat) (rs : List mR) : Prop := ∀ (j : Nat) (r : mR), rs[j]? = some r → resAt I (base + j) = r
def Keep (I I' : aI) (base : Nat) : Prop := ∀ k, k < base → resAt I' k = resAt I k
def Frm (I I' : aI) : Prop := ∀ i, i < 3 ∨ 13 < i → I' i = I i
theorem Frm.refl {I : aI} : Frm I I := fun _ _ => rfl
theorem Frm.trans {I I' I'' : aI} (h : Frm I I') (h' : Frm I' I'') : Frm I I'' := fun i hi => (h' i hi).trans (h i hi)
theorem Keep.refl {I : aI} {b : Nat} : Keep I I b := fun _ _ => rfl
theorem Keep.trans {I I' I'' : aI} {b : Nat} (h : Keep I I' b) (h' : Keep I' I'' b) : Keep I I'' b := fun i hi => (h' i hi).trans (h i hi)
theorem Keep.mono {I I' : aI} {b b' : Nat} (h : Keep I I' b) (hb : b' ≤ b) : Keep I I' b' := fun i hi => h i (by omega)
theorem Lay.frm {I I' : aI} {ly : Nat} {F : mF} (h : Lay I ly F) (hf : Frm I I') (hl : 13 < ly) : Lay I' ly F := by
  unfold Lay
  rw [hf ly (Or.inr hl)]
  exact h
theorem push_frm {I : aI} {t : Nat} {x e s l : Int32} : Frm I (pushI I t x e s l) := fun i hi => push_else (by omega)
theorem push_keep {I : aI} {t : Nat} {x e s l : Int32} : Keep I (pushI I t x e s l) t := fun k hk => by rw [resAt_push, if_neg (by omega)]
theorem push_rows {I : aI} {t : Nat} {x e s l : Int32} : Rows (pushI I t x e s l) t [(x, e, s, l)] := by
  intro j r h
  cases j with
  | zero =>
    have h2 : (x, e, s, l) = r := Option.some.inj h
    rw [Nat.add_zero, resAt_push, if_pos rfl]; exact h2
  | succ j => simp at h
theorem Mch.push {I : aI} {lim : Nat} {e : mE} {env : Nat → Int32} {t : Nat} {x er s l : Int32} (h : Mch I lim e env t) : Mch (pushI I t x er s l) lim e env (t + 1) := by
  obtain ⟨h1, h2, h3, h4, h5, h6, h7, h8, h9, h10, h11⟩ := h
  have q : ∀ i, i < 4 ∨ 8 < i → pushI I t x er s l i = I i := fun i hi => push_else hi
  refine ⟨?_, ?_, ?_, ?_, ?_, ?_, ?_, ?_, ?_, ?_, push_top⟩
  · rw [q 3 (by omega)]; exact h1
  · rw [q 3 (by omega)]; exact h2
  · rw [q 3 (by omega)]; exact h3
  · rw [q 3 (by omega)]; exact h4
  · rw [q 3 (by omega)]; exact h5
  · rw [q 9 (by omega)]; exact h6
  · rw [q 10 (by omega)]; exact h7
  · rw [q 11 (by omega)]; exact h8
  · rw [q 12 (by omega)]; exact h9
  · intro k hk; rw [q 13 (by omega)]; exact h10 k hk
theorem Mch.cut {I : aI} {lim : Nat} {e : mE} {env : Nat → Int32} {t t' : Nat} (h : Mch I lim e env t) : Mch (up2 I 4 4 (nI t')) lim e env t' := by
  obtain ⟨h1, h2, h3, h4, h5, h6, h7, h8, h9, h10, h11⟩ := h
  have q : ∀ i, i < 4 ∨ 8 < i → up2 I 4 4 (nI t') i = I i := fun i hi => cut_else hi
  refine ⟨?_, ?_, ?_, ?_, ?_, ?_, ?_, ?_, ?_, ?_, up2_s⟩
  · rw [q 3 (by omega)]; exact h1
  · rw [q 3 (by omega)]; exact h2
  · rw [q 3 (by omega)]; exact h3
  · rw [q 3 (by omega)]; exact h4
  · rw [q 3 (by omega)]; exact h5
  · rw [q 9 (by omega)]; exact h6
  · rw [q 10 (by omega)]; exact h7
  · rw [q 11 (by omega)]; exact h8
  · rw [q 12 (by omega)]; exact h9
  · intro k hk; rw [q 13 (by omega)]; exact h10 k hk
/-- the results change alone: the machine else is as it was -/
theorem Mch.res {I I' : aI} {lim : Nat} {e : mE} {env : Nat → Int32} {t t' : Nat} (h : Mch I lim e env t) (q : ∀ i, i < 4 ∨ 8 < i → I' i = I i) (ht : I' 4 4 = nI t') : Mch I' lim e env t' := by
  obtain ⟨h1, h2, h3, h4, h5, h6, h7, h8, h9, h10, h11⟩ := h
  refine ⟨?_, ?_, ?_, ?_, ?_, ?_, ?_, ?_, ?_, ?_, ht⟩
  · rw [q 3 (by omega)]; exact h1
  · rw [q 3 (by omega)]; exact h2
  · rw [q 3 (by omega)]; exact h3
  · rw [q 3 (by omega)]; exact h4
  · rw [q 3 (by omega)]; exact h5
  · rw [q 9 (by omega)]; exact h6
  · rw [q 10 (by omega)]; exact h7
  · rw [q 11 (by omega)]; exact h8
  · rw [q 12 (by omega)]; exact h9
  · intro k hk; rw [q 13 (by omega)]; exact h10 k hk
def ownI (F : mF) (I : aI) (s l : Int32) : aI := if F.2.1 = true then up2 (if F.1 = true then up2 I 3 4 s else I) 3 5 l else (if F.1 = true then up2 I 3 4 s else I)
theorem own_else {F : mF} {I : aI} {s l : Int32} {i : Nat} (h : i ≠ 3) : ownI F I s l i = I i := by
  funext k
  unfold ownI
  cases F.1 <;> cases F.2.1 <;> simp [up2, h]
theorem own_frm {F : mF} {I : aI} {s l : Int32} : Frm I (ownI F I s l) := fun i hi => own_else (by omega)
theorem own_res {F : mF} {I : aI} {s l : Int32} {k : Nat} : resAt (ownI F I s l) k = resAt I k := by
  unfold resAt
  rw [own_else (by omega), own_else (by omega), own_else (by omega), own_else (by omega)]
theorem Mch.own {F : mF} {I : aI} {lim : Nat} {e : mE} {env : Nat → Int32} {t : Nat} {s l : Int32} (h : Mch I lim e env t) : Mch (ownI F I s l) lim (own2 F e s l) env t := by
  obtain ⟨h1, h2, h3, h4, h5, h6, h7, h8, h9, h10, h11⟩ := h
  refine ⟨?_, ?_, ?_, ?_, ?_, ?_, ?_, ?_, ?_, ?_, ?_⟩
  · have : ownI F I s l 3 7 = I 3 7 := by unfold ownI; cases F.1 <;> cases F.2.1 <;> simp [up2]
    rw [this]; exact h1
  · have : ownI F I s l 3 6 = I 3 6 := by unfold ownI; cases F.1 <;> cases F.2.1 <;> simp [up2]
    rw [this]; exact h2
  · show ownI F I s l 3 4 = if F.1 = true then s else mE.s e
    rw [← h3]; unfold ownI; cases F.1 <;> cases F.2.1 <;> simp [up2]
  · show ownI F I s l 3 5 = if F.2.1 = true then l else mE.l e
    rw [← h4]; unfold ownI; cases F.1 <;> cases F.2.1 <;> simp [up2]
  · have : ownI F I s l 3 8 = I 3 8 := by unfold ownI; cases F.1 <;> cases F.2.1 <;> simp [up2]
    rw [this]; exact h5
  · rw [own_else (by omega)]; exact h6
  · rw [own_else (by omega)]; exact h7
  · rw [own_else (by omega)]; exact h8
  · rw [own_else (by omega)]; exact h9
  · intro k hk; rw [own_else (by omega)]; exact h10 k hk
  · rw [own_else (by omega)]; exact h11
section Mac
variable {lx ly : Nat} {g : aG} {I : aI} {L : aL} {d t base lim : Nat} {e : mE} {env : Nat → Int32} {F : mF}
theorem e3_takeOwn {s l : Int32} (hC : Cm lx ly g) (hL : Lay I ly F) : Mx mX3_takeOwn d 0 0 [vS 3, vI s, vI l] g I L (qV none g (ownI F I s l) L) := by
  obtain ⟨hw, hly, hl13⟩ := hC
  have hl3 : ¬ ly = 3 := by omega
  refine Mx_in (by decide +kernel) rfl rfl (Ex_wx [10, 15] 9 oX3_takeOwn hw ?_)
  refine And.intro hly ?_
  have tail : ∀ I1 : aI, I1 = (if F.1 = true then up2 I 3 4 s else I) → Ex mX3_takeOwn d 0 0 (qV none g (ownI F I s l) L) 15 [some (vS 3), some (vI s), some (vI l)] [] g I1 L := by
    intro I1 hI1
    have hly2 : I1 ly 2 = bI F.2.1 := by
      rw [hI1, ← hL.2.1]; split
      · exact up2_i hl3
      · rfl
    refine Ex_wx [] 9 oX3_takeOwn hw ?_
    refine And.intro hly ?_
    refine And.intro (fun c => ?_) (fun c => ?_)
    · rw [hly2] at c
      refine ⟨rfl, rfl, ?_, rfl⟩
      unfold ownI; rw [bI_0.mp c, if_neg (by decide)]; exact hI1
    · rw [hly2] at c
      have : F.2.1 = true := by cases h : F.2.1 with | true => rfl | false => exact absurd (bI_0.mpr h) c
      refine ⟨rfl, rfl, ?_, rfl⟩
      unfold ownI; rw [if_pos this, hI1]
  refine And.intro (fun c => ?_) (fun c => ?_)
  · rw [hL.1] at c
    exact tail I (by rw [bI_0.mp c, if_neg (by decide)])
  · rw [hL.1] at c
    have : F.1 = true := by cases h : F.1 with | true => rfl | false => exact absurd (bI_0.mpr h) c
    exact Ex_bn 3 oX3_takeOwn hw (tail _ (by rw [if_pos this]))
theorem e3_isTooMany (hC : Cm lx ly g) (ht : I 4 4 = nI t) (h3 : t ≤ 3100) (hb : base ≤ t) (hd : 1 ≤ d) : Mx mX3_isTooMany d 0 0 [vS 3, vI (nI base)] g I L (qV (some (vI (if 50 < t - base then 1 else 0))) g I L) := by
  refine Mx_in (by decide +kernel) rfl rfl (Ex_wx [] 9 oX3_isTooMany hC.1 ?_)
  refine Ex_v (As := []) (st := []) (d' := 0) vX3_52 rfl rfl (e5_size hC.1) (hC.1 4 _ rfl).2.1 hd rfl (dc_ok oX3_isTooMany rfl) ?_
  have e1 : I 4 4 - nI base = nI (t - base) := by rw [ht]; exact pk_sub hb
  refine Ex_wx [] 9 oX3_isTooMany hC.1 ?_
  refine And.intro (fun c => ?_) (fun c => ?_)
  · rw [e1] at c
    have c2 := leN (b := 50) c (by omega) (by omega)
    exact ⟨Or.inl rfl, by rw [if_neg (by omega)], rfl, rfl, rfl⟩
  · rw [e1] at c
    have c2 : ¬ (t - base ≤ 50) := fun h => c (nI_le (b := 50) h (by omega))
    exact ⟨Or.inr rfl, by rw [if_pos (by omega)], rfl, rfl, rfl⟩
theorem e3_numberOf {n : Int32} (hC : Cm lx ly g) (he : ∀ k, k < 8 → I 13 k = env k) : Mx mX3_numberOf d 0 0 [vS 3, vI n] g I L (qV (some (vI (nmF env n))) g I L) := by
  refine Mx_in (by decide +kernel) rfl rfl (Ex_wx [] 9 oX3_numberOf hC.1 ?_)
  refine And.intro (fun c => ?_) (fun c => ?_)
  · exact ⟨by unfold nmF; rw [if_neg (fun h => absurd h.1 (Int32.not_le.mpr c))], rfl, rfl, rfl⟩
  refine And.intro (fun c2 => ?_) (fun c2 => ?_)
  · exact ⟨by unfold nmF; rw [if_neg (fun h => absurd h.2 (Int32.not_lt.mpr c2))], rfl, rfl, rfl⟩
  · have h0 : 0 ≤ n := Int32.not_lt.mp c
    have h8 : n < 8 := Int32.not_le.mp c2
    have hv : vp_in n 8 := by
      refine vp_in_iff.mpr ?_
      have h1 := Int32.le_iff_toInt_le.mp h0
      have h3 := Int32.lt_iff_toInt_lt.mp h8
      simp only [Int32.toInt_zero] at h1
      have h9 : (8 : Int32).toInt = 8 := by decide
      omega
    refine And.intro hv ?_
    obtain ⟨j, hj, rfl⟩ := vp_in_of hv (by omega)
    refine ⟨?_, rfl, rfl, rfl⟩
    unfold nmF
    rw [if_pos ⟨h0, h8⟩, clN (by omega), he j hj]
theorem e3_operandOf {q : Nat} (hC : Cm lx ly g) (he : ∀ k, k < 8 → I 13 k = env k) (hq : g.2.1 q = some (.inl 7)) (hd : 1 ≤ d) : Mx mX3_operandOf d 0 0 [vS 3, vD (some q)] g I L (qV (some (vI (opF env (I q 1) (I q 2)))) g I L) := by
  refine Mx_in (by decide +kernel) rfl rfl (Ex_wx [] 9 oX3_operandOf hC.1 ?_)
  refine And.intro hq ?_
  refine And.intro (fun c => ?_) (fun c => ?_)
  · refine And.intro hq ?_
    exact ⟨by unfold opF; rw [if_pos c], rfl, rfl, rfl⟩
  · refine And.intro hq ?_
    refine Ex_v (As := [vI (I q 2)]) (st := []) (d' := 0) vX3_173 rfl rfl (e3_numberOf hC he) (hC.1 3 _ rfl).2.1 hd rfl (dc_ok oX3_operandOf rfl) ?_
    refine Ex_wx [] 9 oX3_operandOf hC.1 ?_
    exact ⟨by unfold opF; rw [if_neg c], rfl, rfl, rfl⟩
theorem e3_answer {x : Int32} (hC : Cm lx ly g) (hM : Mch I lim e env t) (h3 : t < 3100) (hd : 1 ≤ d) : Mx mX3_answer d 0 0 [vS 3, vI x] g I L (qV (some (vI 0)) g (pushI I t x 0 (mE.s e) (mE.l e)) L) := by
  refine Mx_in (by decide +kernel) rfl rfl (Ex_wx [] 9 oX3_answer hC.1 ?_)
  refine Ex_v (As := [vI x, vI 0, vI (I 3 4), vI (I 3 5)]) (st := []) (d' := 0) vX3_203 rfl rfl (e5_push hC.1 hM.2.2.2.2.2.2.2.2.2.2 h3 (Or.inl rfl)) (hC.1 4 _ rfl).2.1 hd rfl (dc_ok oX3_answer rfl) ?_
  rw [hM.2.2.1, hM.2.2.2.1]
  refine Ex_wx [] 9 oX3_answer hC.1 ?_
  refine And.intro (fun c => absurd c (by decide)) (fun _ => ?_)
  exact ⟨rfl, rfl, rfl, rfl⟩
end Mac
end
section
/-! perform: its contract, and what goes round it -/
def Tb (g : aG) (I : aI) (τ : Nat → Nat) (B : mB) (hg : Nat → Nat) (cnt : Nat) : Prop := ∀ t, t < cnt → 13 < τ t ∧ g.2.1 (τ t) = some (.inl 7) ∧ (I (τ t) 0 = nI (B t).1 ∧ (B t).1 ≤ 18 ∧ I (τ t) 1 = (B t).2.1 ∧ I (τ t) 2 = (B t).2.2.1 ∧ I (τ t) 3 = (B t).2.2.2.1) ∧ 1 ≤ hg t ∧
  (6 ≤ (B t).1 → (B t).1 ≤ 13 → (B t).2.2.2.2.1 < cnt ∧ hg (B t).2.2.2.2.1 < hg t ∧ g.2.2 (τ t) 4 = some (τ (B t).2.2.2.2.1)) ∧ (6 ≤ (B t).1 → (B t).1 ≤ 9 → (B t).2.2.2.2.2 < cnt ∧ hg (B t).2.2.2.2.2 < hg t ∧ g.2.2 (τ t) 5 = some (τ (B t).2.2.2.2.2))
theorem Tb.frm {g : aG} {I I' : aI} {τ : Nat → Nat} {B : mB} {hg : Nat → Nat} {cnt : Nat} (h : Tb g I τ B hg cnt) (hf : Frm I I') : Tb g I' τ B hg cnt := by
  intro t ht
  obtain ⟨h1, h2, h3, h4⟩ := h t ht
  rw [hf (τ t) (Or.inr h1)]
  exact ⟨h1, h2, h3, h4⟩
def outP (q : mO) (o : aO) (I I' : aI) (lim : Nat) (env : Nat → Int32) (base : Nat) : Prop :=
  (q.1 = 0 ∧ o = .inl (some (vI 0)) ∧ Mch I' lim q.2.2 env (base + q.2.1.length) ∧ Rows I' base q.2.1 ∧ Keep I I' base) ∨
  (q.1 = 1 ∧ o = .inl (some (vI (-2))) ∧ (∃ top, base ≤ top ∧ top ≤ 3100 ∧ Mch I' lim q.2.2 env top) ∧ Keep I I' base) ∨
  (q.1 = 2 ∧ o = .inl (some (vI (-3))) ∧ ∃ top, top ≤ 3100 ∧ I' 4 4 = nI top)
def pfQ (q : mO) (g : aG) (I : aI) (L : aL) (lim : Nat) (env : Nat → Int32) (base : Nat) : aQ := fun o g' I' L' => g' = g ∧ L' = L ∧ Frm I I' ∧ outP q o I I' lim env base
theorem pfQ_no {q : mO} {g g' : aG} {I I' : aI} {L L' : aL} {lim : Nat} {env : Nat → Int32} {base : Nat} {E : String} : ¬ pfQ q g I L lim env base (.inr E) g' I' L' := by
  rintro ⟨-, -, -, h⟩
  rcases h with ⟨-, h, -⟩ | ⟨-, h, -⟩ | ⟨-, h, -⟩ <;> cases h
/-- perform, at fuel f -/
def pfC (lx ly : Nat) (g : aG) (τ : Nat → Nat) (B : mB) (hg : Nat → Nat) (cnt : Nat) (F : mF) (lim f : Nat) : Prop := ∀ (t : Nat) (env : Nat → Int32) (e : mE) (base : Nat) (I : aI) (L : aL), t < cnt → hg t ≤ f → Tb g I τ B hg cnt → Lay I ly F → Mch I lim e env base → invE lim e → base + 100 * f ≤ 3100 →
  Mx mX3_perform (4 * f + 4) 0 0 [vS 3, vD (some (τ t))] g I L (pfQ (ev F B lim f t env e) g I L lim env base)
theorem name_cases (n : Int32) : (¬ (0 ≤ n ∧ n < 8) ∧ (n < 0 ∨ 8 ≤ n)) ∨ ∃ j, j < 8 ∧ n = nI j := by
  by_cases h : 0 ≤ n ∧ n < 8
  · right
    have hv : vp_in n 8 := by
      refine vp_in_iff.mpr ?_
      have h1 := Int32.le_iff_toInt_le.mp h.1
      have h3 := Int32.lt_iff_toInt_lt.mp h.2
      simp only [Int32.toInt_zero] at h1
      have h9 : (8 : Int32).toInt = 8 := by decide
      omega
    exact vp_in_of hv (by omega)
  · left
    refine ⟨h, ?_⟩
    by_cases h0 : n < 0
    · exact Or.inl h0
    · exact Or.inr (Int32.not_lt.mp (fun h8 => h ⟨Int32.not_lt.mp h0, h8⟩))
theorem nm_ok {j : Nat} (h : j < 8) : 0 ≤ nI j ∧ nI j < 8 := ⟨nI_pos' (by omega), nI_lt (b := 8) h (by omega)⟩
section Perf
variable {lx ly : Nat} {g : aG} {τ : Nat → Nat} {B : mB} {hg : Nat → Nat} {cnt : Nat} {F : mF} {lim f : Nat}
variable {t : Nat} {env : Nat → Int32} {e : mE} {base : Nat} {I : aI} {L : aL}
theorem Mch.name {j : Nat} {v : Int32} {top : Nat} (h : Mch I lim e env top) (hj : j < 8) : Mch (up2 I 13 j v) lim e (up1 env j v) top := by
  obtain ⟨h1, h2, h3, h4, h5, h6, h7, h8, h9, h10, h11⟩ := h
  have q : ∀ i, i ≠ 13 → up2 I 13 j v i = I i := fun i hi => by funext k; exact up2_i hi
  refine ⟨?_, ?_, ?_, ?_, ?_, ?_, ?_, ?_, ?_, ?_, ?_⟩
  · rw [q 3 (by omega)]; exact h1
  · rw [q 3 (by omega)]; exact h2
  · rw [q 3 (by omega)]; exact h3
  · rw [q 3 (by omega)]; exact h4
  · rw [q 3 (by omega)]; exact h5
  · rw [q 9 (by omega)]; exact h6
  · rw [q 10 (by omega)]; exact h7
  · rw [q 11 (by omega)]; exact h8
  · rw [q 12 (by omega)]; exact h9
  · intro k hk
    unfold up1
    by_cases hkj : k = j
    · subst hkj; rw [if_pos rfl]; exact up2_s
    · rw [if_neg hkj, up2_k hkj]; exact h10 k hk
  · rw [q 4 (by omega)]; exact h11
theorem Mch.envs {env' : Nat → Int32} {top : Nat} (h : Mch I lim e env top) (he : ∀ k, k < 8 → env k = env' k) : Mch I lim e env' top := by
  obtain ⟨h1, h2, h3, h4, h5, h6, h7, h8, h9, h10, h11⟩ := h
  exact ⟨h1, h2, h3, h4, h5, h6, h7, h8, h9, fun k hk => (h10 k hk).trans (he k hk), h11⟩
theorem up13_frm {j : Nat} {v : Int32} : Frm I (up2 I 13 j v) := fun i hi => by funext k; exact up2_i (by omega)
theorem up13_res {j k : Nat} {v : Int32} : resAt (up2 I 13 j v) k = resAt I k := by simp [resAt, up2]
theorem outP.rest {q : mO} {o : aO} {I1 I' : aI} {j : Nat} {v w : Int32} (hj : j < 8) (hw : I 13 j = w) (hE : ∀ k, k < 8 → I 13 k = env k) (h : outP q o (up2 I 13 j v) I' lim (up1 env j v) base) : outP q o I (up2 I' 13 j w) lim env base := by
  have hk : ∀ {b}, Keep (up2 I 13 j v) I' b → Keep I (up2 I' 13 j w) b := fun hk k hkb => by rw [up13_res, hk k hkb, up13_res]
  have hm : ∀ {e top}, Mch I' lim e (up1 env j v) top → Mch (up2 I' 13 j w) lim e env top := fun hm => (hm.name (v := w) hj).envs (fun k hk => by
    unfold up1
    by_cases hkj : k = j
    · rw [if_pos hkj, hkj, ← hw]; exact hE j hj
    · rw [if_neg hkj, if_neg hkj])
  rcases h with ⟨h1, h2, h3, h4, h5⟩ | ⟨h1, h2, ⟨top, h3, h4, h5⟩, h6⟩ | ⟨h1, h2, top, h3, h4⟩
  · exact Or.inl ⟨h1, h2, hm h3, fun j r hr => by rw [up13_res]; exact h4 j r hr, hk h5⟩
  · exact Or.inr (Or.inl ⟨h1, h2, ⟨top, h3, h4, hm h5⟩, hk h6⟩)
  · exact Or.inr (Or.inr ⟨h1, h2, top, h3, by rw [up2_i (by omega)]; exact h4⟩)
theorem e3_naming {nm v : Int32} (hC : Cm lx ly g) (hP : pfC lx ly g τ B hg cnt F lim f) (ht : t < cnt) (hh : hg t ≤ f) (hT : Tb g I τ B hg cnt) (hL : Lay I ly F) (hM : Mch I lim e env base) (hi : invE lim e) (hb : base + 100 * f ≤ 3100) :
    Mx mX3_performNaming (4 * f + 5) 0 0 [vS 3, vI nm, vI v, vD (some (τ t))] g I L (pfQ (ev F B lim f t (upE env nm v) e) g I L lim env base) := by
  have h3 := (hC.1 3 _ rfl).2.1
  refine Mx_in (by decide +kernel) rfl rfl (Ex_wx [10, 16] 9 oX3_performNaming hC.1 ?_)
  have bad : ¬ (0 ≤ nm ∧ nm < 8) → Ex mX3_performNaming (4 * f + 5) 0 0 (pfQ (ev F B lim f t (upE env nm v) e) g I L lim env base) 10 [some (vS 3), some (vI nm), some (vI v), some (vD (some (τ t))), none, none] [] g I L := by
    intro hn
    refine Ex_wx [] 9 oX3_performNaming hC.1 ?_
    refine Ex_cV (kc := 0) (ks := 0) (kc' := 0) (ks' := 0) (As := [vD (some (τ t))]) (st := []) vX3_48 rfl rfl h3 (hP t env e base I L ht hh hT hL hM hi hb) (by omega) rfl (dc_ok oX3_performNaming rfl) ?_ (fun E g' I' L' hq => absurd hq pfQ_no)
    rintro w g' I' L' ⟨rfl, rfl, hf, ho⟩
    have hu : upE env nm v = env := by unfold upE; rw [if_neg hn]
    rw [hu]
    have hw : ∃ x, w = some (vI x) := by rcases ho with ⟨-, h, -⟩ | ⟨-, h, -⟩ | ⟨-, h, -⟩ <;> (cases h; exact ⟨_, rfl⟩)
    obtain ⟨x, rfl⟩ := hw
    refine Ex_wx [] 9 oX3_performNaming hC.1 ?_
    exact ⟨rfl, rfl, hf, ho⟩
  rcases name_cases nm with ⟨hn, hc⟩ | ⟨j, hj, rfl⟩
  · refine And.intro (fun _ => bad hn) (fun c => ?_)
    refine And.intro (fun c2 => absurd ⟨Int32.not_lt.mp c, c2⟩ hn) (fun _ => bad hn)
  · refine And.intro (fun c => absurd c (nI_pos (by omega))) (fun _ => ?_)
    refine And.intro (fun _ => ?_) (fun c => absurd (nm_ok hj).2 c)
    refine Ex_wx [] 9 oX3_performNaming hC.1 ?_
    have hcl : (nI j).toNatClampNeg = j := clN (by omega)
    have hin : vp_in (nI j) 8 := inN hj (by omega)
    refine And.intro hin (And.intro hin ?_)
    have hu : upE env (nI j) v = up1 env j v := by unfold upE; rw [if_pos (nm_ok hj), hcl]
    rw [hu]
    have hx := hP t (up1 env j v) e base (up2 I 13 j v) L ht hh (hT.frm up13_frm) (hL.frm up13_frm hC.2.2) (hM.name hj) hi hb
    have hE := hM.2.2.2.2.2.2.2.2.2.1
    refine Ex_cV (kc := 0) (ks := 0) (kc' := 0) (ks' := 0) (As := [vD (some (τ t))]) (st := []) (I := up2 I 13 (nI j).toNatClampNeg v) vX3_48 rfl rfl h3 (by rw [hcl]; exact hx) (by omega) rfl (dc_ok oX3_performNaming rfl) ?_ (fun E g' I' L' hq => absurd hq pfQ_no)
    rintro w g' I' L' ⟨rfl, rfl, hf, ho⟩
    have hw : ∃ x, w = some (vI x) := by rcases ho with ⟨-, h, -⟩ | ⟨-, h, -⟩ | ⟨-, h, -⟩ <;> (cases h; exact ⟨_, rfl⟩)
    obtain ⟨x, rfl⟩ := hw
    refine Ex_wx [] 9 oX3_performNaming hC.1 ?_
    refine And.intro hin ?_
    refine ⟨rfl, rfl, ?_, ?_⟩
    · rw [hcl]; exact (up13_frm.trans hf).trans up13_frm
    · rw [hcl]; exact outP.rest (I1 := I) hj rfl hE ho
end Perf
end
section
/-! performEach -/
section EachEq
variable {F : mF} {go : (Nat → Int32) → mE → mO} {oe nm : Int32} {env : Nat → Int32} {r : mR} {rs acc : List mR} {e : mE}
def stepF (F : mF) (go : (Nat → Int32) → mE → mO) (oe nm : Int32) (env : Nat → Int32) (r : mR) (e : mE) : mO := if r.2.1 = oe then go (upE env nm r.1) (own2 F e r.2.2.1 r.2.2.2) else (0, [r], e)
theorem each_stop (h : (stepF F go oe nm env r e).1 ≠ 0) : eachF F go oe nm env (r :: rs) acc e = ((stepF F go oe nm env r e).1, [], (stepF F go oe nm env r e).2.2) := by
  simp only [eachF]; unfold stepF at h ⊢; rw [if_pos h]
theorem each_many (h : (stepF F go oe nm env r e).1 = 0) (h2 : 50 < (acc ++ (stepF F go oe nm env r e).2.1).length) : eachF F go oe nm env (r :: rs) acc e = (2, [], (stepF F go oe nm env r e).2.2) := by
  simp only [eachF]; unfold stepF at h h2 ⊢; rw [if_neg (fun q => q h), if_pos h2]
theorem each_go (h : (stepF F go oe nm env r e).1 = 0) (h2 : ¬ 50 < (acc ++ (stepF F go oe nm env r e).2.1).length) : eachF F go oe nm env (r :: rs) acc e = eachF F go oe nm env rs (acc ++ (stepF F go oe nm env r e).2.1) (stepF F go oe nm env r e).2.2 := by
  conv => lhs; simp only [eachF]
  unfold stepF at h h2 ⊢; rw [if_neg (fun q => q h), if_neg h2]
end EachEq
theorem Rows.app {I : aI} {b : Nat} {a c : List mR} (h1 : Rows I b a) (h2 : Rows I (b + a.length) c) : Rows I b (a ++ c) := by
  intro j r h
  by_cases hj : j < a.length
  · rw [List.getElem?_append_left hj] at h; exact h1 j r h
  · rw [List.getElem?_append_right (by omega)] at h
    have h3 := h2 _ r h
    rw [show b + a.length + (j - a.length) = b + j by omega] at h3
    exact h3
theorem Rows.keep {I I' : aI} {b n : Nat} {rs : List mR} (h : Rows I b rs) (hk : Keep I I' n) (hn : b + rs.length ≤ n) : Rows I' b rs := by
  intro j r hj
  have hl : j < rs.length := (List.getElem?_eq_some_iff.mp hj).1
  rw [hk (b + j) (by omega)]
  exact h j r hj
theorem out_val {q : mO} {v : Option aV} {I I' : aI} {lim : Nat} {env : Nat → Int32} {base : Nat} (h : outP q (.inl v) I I' lim env base) : ∃ x, v = some (vI x) := by
  rcases h with ⟨-, h, -⟩ | ⟨-, h, -⟩ | ⟨-, h, -⟩ <;> (cases h; exact ⟨_, rfl⟩)
section Each
variable {lx ly : Nat} {g : aG} {τ : Nat → Nat} {B : mB} {hg : Nat → Nat} {cnt : Nat} {F : mF} {lim f : Nat}
variable {t : Nat} {env : Nat → Int32} {base : Nat} {I : aI} {L : aL} {oe nm : Int32} {rs : List mR}
theorem e3_eachL (hC : Cm lx ly g) (hP : pfC lx ly g τ B hg cnt F lim f) (ht : t < cnt) (hh : hg t ≤ f) (hT : Tb g I τ B hg cnt) (hL : Lay I ly F) (hr50 : rs.length ≤ 50) (hre : errR rs) (hb : base + 100 * (f + 1) ≤ 3100) (hlim : lim ≤ 2000) :
    ∀ (rs2 : List mR) (j : Nat) (acc : List mR) (e1 : mE) (I1 : aI) (h7 : Option aV), rs.drop j = rs2 → j ≤ rs.length → Mch I1 lim e1 env (base + rs.length + acc.length) → Rows I1 base rs → Rows I1 (base + rs.length) acc → Keep I I1 base → Frm I I1 → invE lim e1 → errR acc → acc.length ≤ 50 →
    Ex mX3_performEach (4 * f + 6) 0 0 (pfQ (eachF F (ev F B lim f t) oe nm env rs2 acc e1) g I L lim env base) 12 [some (vS 3), some (vI (nI base)), some (vI oe), some (vI nm), some (vD (some (τ t))), some (vI (nI (base + rs.length))), some (vI (nI (base + j))), h7] [] g I1 L := by
  have h3 := (hC.1 3 _ rfl).2.1
  have h4 := (hC.1 4 _ rfl).2.1
  have hf1 : 1 ≤ f := Nat.le_trans (hT t ht).2.2.2.1 hh
  intro rs2
  induction rs2 with
  | nil =>
    intro j acc e1 I1 h7 hd hj hM hR1 hR2 hK hF hi he ha
    have hjl : j = rs.length := by
      have := congrArg List.length hd
      simp at this
      omega
    subst hjl
    refine Ex_wx [] 9 oX3_performEach hC.1 ?_
    refine And.intro (fun _ => ?_) (fun c => absurd (Int32.le_refl _) c)
    have herr : ∀ k, base + rs.length ≤ k → k < base + rs.length + acc.length → I1 6 k = 0 ∨ I1 6 k = 1 := by
      intro k hk1 hk2
      have hlt : k - (base + rs.length) < acc.length := by omega
      have h9 := hR2 (k - (base + rs.length)) _ (List.getElem?_eq_getElem hlt)
      rw [show base + rs.length + (k - (base + rs.length)) = k by omega] at h9
      have h10 : I1 6 k = (acc[k - (base + rs.length)]).2.1 := congrArg (fun r : mR => r.2.1) h9
      rw [h10]; exact he _ (List.getElem_mem hlt)
    refine Ex_cV (kc := 0) (ks := 0) (kc' := 0) (ks' := 0) (As := [vI (nI base), vI (nI (base + rs.length))]) (st := []) (d' := 1) vX3_249 rfl rfl h4 (e5_closeGap hC.1 hM.2.2.2.2.2.2.2.2.2.2 (by omega) (by omega) (by omega) (by omega) herr) (by omega) rfl (dc_ok oX3_performEach rfl) ?_ (fun E g' I' L' hq => by cases hq.1)
    rintro w g' I' L' ⟨hw, rfl, rfl, h1, h2, h5, h6⟩
    cases hw
    refine Ex_wx [] 9 oX3_performEach hC.1 ?_
    refine ⟨rfl, rfl, hF.trans (fun i hi => h6 i (by omega)), Or.inl ⟨rfl, rfl, ?_, ?_, hK.trans (fun k hk => h2 k hk)⟩⟩
    · refine hM.res h6 ?_
      rw [h1]; congr 1; show base + _ = base + acc.length; omega
    · intro j r hjr
      have hl : j < acc.length := (List.getElem?_eq_some_iff.mp hjr).1
      rw [h5 j (by omega)]
      exact hR2 j r hjr
  | cons r rs2 ih =>
    intro j acc e1 I1 h7 hd hj hM hR1 hR2 hK hF hi he ha
    have hjl : j < rs.length := by
      have := congrArg List.length hd
      simp at this
      omega
    have hrj : rs[j]? = some r := by
      have h9 : (rs.drop j)[0]? = some r := by rw [hd]; rfl
      rw [List.getElem?_drop] at h9
      exact h9
    have hd2 : rs.drop (j + 1) = rs2 := by rw [← List.drop_drop, hd]; rfl
    have hat := hR1 j r hrj
    have q5 : I1 5 (base + j) = r.1 := congrArg (fun r : mR => r.1) hat
    have q6 : I1 6 (base + j) = r.2.1 := congrArg (fun r : mR => r.2.1) hat
    have q7 : I1 7 (base + j) = r.2.2.1 := congrArg (fun r : mR => r.2.2.1) hat
    have q8 : I1 8 (base + j) = r.2.2.2 := congrArg (fun r : mR => r.2.2.2) hat
    have hr01 : r.2.1 = 0 ∨ r.2.1 = 1 := hre r (List.mem_of_getElem? hrj)
    have htop := hM.2.2.2.2.2.2.2.2.2.2
    have hLay1 : Lay I1 ly F := hL.frm hF hC.2.2
    -- behind the part: at 95, with how in local 7
    have tail : ∀ (I2 : aI) (h : Int32) (o : aO), o = .inl (some (vI h)) → Frm I I2 → Keep I1 I2 (base + rs.length + acc.length) ∨ (stepF F (ev F B lim f t) oe nm env r e1).1 = 2 → outP (stepF F (ev F B lim f t) oe nm env r e1) o I1 I2 lim env (base + rs.length + acc.length) →
        Ex mX3_performEach (4 * f + 6) 0 0 (pfQ (eachF F (ev F B lim f t) oe nm env (r :: rs2) acc e1) g I L lim env base) 95 [some (vS 3), some (vI (nI base)), some (vI oe), some (vI nm), some (vD (some (τ t))), some (vI (nI (base + rs.length))), some (vI (nI (base + j))), some (vI h)] [] g I2 L := by
      intro I2 h o ho hF2 hK2 hout
      have hok : okO lim (stepF F (ev F B lim f t) oe nm env r e1) := by
        unfold stepF
        split
        · exact ev_ok f t _ _ (own2_inv hi)
        · exact ⟨Nat.zero_le _, hi, fun _ => ⟨by simp, fun x hx => by rw [List.mem_singleton.mp hx]; exact hr01⟩⟩
      rcases hout with ⟨h1, h2, hm, hrw, hkp⟩ | ⟨h1, h2, ⟨top, ht1, ht2, hm⟩, hkp⟩ | ⟨h1, h2, top, ht1, ht2⟩
      · rw [ho] at h2
        have hh0 : h = 0 := by cases h2; rfl
        subst hh0
        refine Ex_wx [103] 9 oX3_performEach hC.1 ?_
        refine And.intro (fun _ => ?_) (fun c => absurd rfl c)
        have hol := (hok.2.2 h1).1
        refine Ex_wx [] 9 oX3_performEach hC.1 ?_
        refine Ex_v (As := [vI (nI (base + rs.length))]) (st := []) (d' := 1) vX3_217 rfl rfl (e3_isTooMany hC hm.2.2.2.2.2.2.2.2.2.2 (by omega) (by omega) (by omega)) h3 (by omega) rfl (dc_ok oX3_performEach rfl) ?_
        by_cases hmany : 50 < (acc ++ (stepF F (ev F B lim f t) oe nm env r e1).2.1).length
        · rw [if_pos (by rw [List.length_append] at hmany; omega), each_many h1 hmany]
          refine Ex_wx [] 9 oX3_performEach hC.1 ?_
          refine And.intro (fun c => absurd c (by decide)) (fun _ => ?_)
          exact ⟨rfl, rfl, hF2, Or.inr (Or.inr ⟨rfl, rfl, _, by omega, hm.2.2.2.2.2.2.2.2.2.2⟩)⟩
        · rw [if_neg (by rw [List.length_append] at hmany; omega), each_go h1 hmany]
          refine Ex_wx [12] 9 oX3_performEach hC.1 ?_
          refine And.intro (fun _ => ?_) (fun c => absurd rfl c)
          show Ex mX3_performEach (4 * f + 6) 0 0 _ 12 [some (vS 3), some (vI (nI base)), some (vI oe), some (vI nm), some (vD (some (τ t))), some (vI (nI (base + rs.length))), some (vI (nI (base + j) + 1)), some (vI 0)] [] g I2 L
          rw [nI_1, show base + j + 1 = base + (j + 1) by omega]
          refine ih (j + 1) _ _ I2 _ hd2 (by omega) ?_ (hR1.keep hkp (by omega)) ?_ (hK.trans (hkp.mono (by omega))) hF2 hok.2.1 (errR_app he (hok.2.2 h1).2) (Nat.le_of_not_lt hmany)
          · rw [List.length_append]
            rw [show base + rs.length + (acc.length + (stepF F (ev F B lim f t) oe nm env r e1).2.1.length) = base + rs.length + acc.length + (stepF F (ev F B lim f t) oe nm env r e1).2.1.length by omega]
            exact hm
          · exact (hR2.keep hkp (Nat.le_refl _)).app hrw
      · rw [ho] at h2
        have hh0 : h = -2 := by cases h2; rfl
        subst hh0
        rw [each_stop (by rw [h1]; decide)]
        refine Ex_wx [103] 9 oX3_performEach hC.1 ?_
        refine And.intro (fun c => absurd c (by decide)) (fun _ => ?_)
        exact ⟨rfl, rfl, hF2, Or.inr (Or.inl ⟨h1, rfl, ⟨top, by omega, ht2, hm⟩, hK.trans (hkp.mono (by omega))⟩)⟩
      · rw [ho] at h2
        have hh0 : h = -3 := by cases h2; rfl
        subst hh0
        rw [each_stop (by rw [h1]; decide)]
        refine Ex_wx [103] 9 oX3_performEach hC.1 ?_
        refine And.intro (fun c => absurd c (by decide)) (fun _ => ?_)
        exact ⟨rfl, rfl, hF2, Or.inr (Or.inr ⟨h1, rfl, top, ht1, ht2⟩)⟩
    refine Ex_wx [] 9 oX3_performEach hC.1 ?_
    refine And.intro (fun c => absurd (leN c (by omega) (by omega)) (by omega)) (fun _ => ?_)
    refine Ex_v (As := [vI (nI (base + j))]) (st := []) (d' := 1) vX3_122 rfl rfl (e5_isError hC.1 htop (by omega) (by omega) (by omega)) h4 (by omega) rfl (dc_ok oX3_performEach rfl) ?_
    rw [q6, bz_01 hr01]
    refine Ex_wx [32, 75] 9 oX3_performEach hC.1 ?_
    refine And.intro (fun c => ?_) (fun c => ?_)
    · refine Ex_wx [] 9 oX3_performEach hC.1 ?_
      refine Ex_v (As := [vI (nI (base + j))]) (st := [vS 3]) (d' := 1) vX3_133 rfl rfl (e5_stateOf hC.1 htop (by omega) (by omega) (by omega)) h4 (by omega) rfl (dc_ok oX3_performEach rfl) ?_
      refine Ex_wx [] 9 oX3_performEach hC.1 ?_
      refine Ex_v (As := [vI (nI (base + j))]) (st := [vI (I1 7 (base + j)), vS 3]) (d' := 1) vX3_139 rfl rfl (e5_logOf hC.1 htop (by omega) (by omega) (by omega)) h4 (by omega) rfl (dc_ok oX3_performEach rfl) ?_
      rw [q7, q8]
      refine Ex_v (As := [vI r.2.2.1, vI r.2.2.2]) (st := []) (d' := 1) vX3_214 rfl rfl (e3_takeOwn hC hLay1) h3 (by omega) rfl (dc_ok oX3_performEach rfl) ?_
      refine Ex_wx [] 9 oX3_performEach hC.1 ?_
      have htop2 : ownI F I1 r.2.2.1 r.2.2.2 4 4 = nI (base + rs.length + acc.length) := by rw [own_else (by omega)]; exact htop
      refine Ex_v (As := [vI (nI (base + j))]) (st := [vI nm, vS 3]) (d' := 1) vX3_126 rfl rfl (e5_numberOf hC.1 htop2 (by omega) (by omega) (by omega)) h4 (by omega) rfl (dc_ok oX3_performEach rfl) ?_
      refine Ex_wx [] 9 oX3_performEach hC.1 ?_
      rw [show ownI F I1 r.2.2.1 r.2.2.2 5 (base + j) = r.1 by rw [own_else (by omega)]; exact q5]
      have hs : stepF F (ev F B lim f t) oe nm env r e1 = ev F B lim f t (upE env nm r.1) (own2 F e1 r.2.2.1 r.2.2.2) := by unfold stepF; rw [if_pos c]
      have hN := e3_naming (L := L) (nm := nm) (v := r.1) (I := ownI F I1 r.2.2.1 r.2.2.2) hC hP ht hh (hT.frm (hF.trans own_frm)) (hLay1.frm own_frm hC.2.2) (hM.own (F := F) (s := r.2.2.1) (l := r.2.2.2)) (own2_inv hi) (by omega)
      refine Ex_cV (kc := 0) (ks := 0) (kc' := 0) (ks' := 0) (As := [vI nm, vI r.1, vD (some (τ t))]) (st := []) vX3_224 rfl rfl h3 hN (by omega) rfl (dc_ok oX3_performEach rfl) ?_ (fun E g' I' L' hq => absurd hq pfQ_no)
      rintro w g' I' L' ⟨rfl, rfl, hf, ho⟩
      obtain ⟨x, rfl⟩ := out_val ho
      refine Ex_wx [95] 9 oX3_performEach hC.1 ?_
      rw [← hs] at ho
      refine tail I' x _ rfl (hF.trans (own_frm.trans hf)) ?_ ?_
      · rcases ho with ⟨-, -, -, -, h⟩ | ⟨-, -, -, h⟩ | ⟨h, -⟩
        · exact Or.inl (fun k hk => by rw [h k hk, own_res])
        · exact Or.inl (fun k hk => by rw [h k hk, own_res])
        · exact Or.inr h
      · rcases ho with ⟨h1, h2, h3, h4, h⟩ | ⟨h1, h2, h3, h⟩ | h
        · exact Or.inl ⟨h1, h2, h3, h4, fun k hk => by rw [h k hk, own_res]⟩
        · exact Or.inr (Or.inl ⟨h1, h2, h3, fun k hk => by rw [h k hk, own_res]⟩)
        · exact Or.inr (Or.inr h)
    · refine Ex_wx [] 9 oX3_performEach hC.1 ?_
      refine Ex_v (As := [vI (nI (base + j))]) (st := []) (d' := 2) vX3_246 rfl rfl (e5_pushAgain hC.1 htop (by omega) (by omega) (by omega)) h4 (by omega) rfl (dc_ok oX3_performEach rfl) ?_
      rw [q5, q6, q7, q8, bz_01 hr01]
      have hs : stepF F (ev F B lim f t) oe nm env r e1 = (0, [r], e1) := by unfold stepF; rw [if_neg c]
      refine Ex_wx [93] 9 oX3_performEach hC.1 ?_
      refine And.intro (fun c => absurd c (by decide)) (fun _ => ?_)
      refine Ex_bn 1 oX3_performEach hC.1 ?_
      refine tail _ 0 _ rfl (hF.trans push_frm) (Or.inl push_keep) ?_
      rw [hs]
      exact Or.inl ⟨rfl, rfl, hM.push, push_rows, push_keep⟩
theorem e3_each {e : mE} (hC : Cm lx ly g) (hP : pfC lx ly g τ B hg cnt F lim f) (ht : t < cnt) (hh : hg t ≤ f) (hT : Tb g I τ B hg cnt) (hL : Lay I ly F) (hr50 : rs.length ≤ 50) (hre : errR rs) (hb : base + 100 * (f + 1) ≤ 3100) (hlim : lim ≤ 2000) (hM : Mch I lim e env (base + rs.length)) (hR : Rows I base rs) (hi : invE lim e) :
    Mx mX3_performEach (4 * f + 6) 0 0 [vS 3, vI (nI base), vI oe, vI nm, vD (some (τ t))] g I L (pfQ (eachF F (ev F B lim f t) oe nm env rs [] e) g I L lim env base) := by
  refine Mx_in (by decide +kernel) rfl rfl (Ex_wx [] 9 oX3_performEach hC.1 ?_)
  refine Ex_v (As := []) (st := []) (d' := 0) vX3_52 rfl rfl (e5_size hC.1) (hC.1 4 _ rfl).2.1 (by omega) rfl (dc_ok oX3_performEach rfl) ?_
  rw [hM.2.2.2.2.2.2.2.2.2.2]
  refine Ex_bn 3 oX3_performEach hC.1 ?_
  exact e3_eachL hC hP ht hh hT hL hr50 hre hb hlim rs 0 [] e I none rfl (Nat.zero_le _) hM hR (fun j r h => by cases h) Keep.refl Frm.refl hi (fun x hx => by cases hx) (by simp)
end Each
end
section
/-! the acts -/
theorem outP.stop {q : mO} {o : aO} {I I1 I2 : aI} {lim : Nat} {env : Nat → Int32} {base b' : Nat} (h : outP q o I1 I2 lim env b') (hq : q.1 ≠ 0) (hb : base ≤ b') (hk : Keep I I1 base) : outP (q.1, [], q.2.2) o I I2 lim env base := by
  rcases h with ⟨h1, -⟩ | ⟨h1, h2, ⟨top, h3, h4, h5⟩, h6⟩ | ⟨h1, h2, h3⟩
  · exact absurd h1 hq
  · exact Or.inr (Or.inl ⟨h1, h2, ⟨top, by omega, h4, h5⟩, hk.trans (h6.mono hb)⟩)
  · exact Or.inr (Or.inr ⟨h1, h2, h3⟩)
theorem out_split {q : mO} {o : aO} {I1 I2 : aI} {lim : Nat} {env : Nat → Int32} {b' : Nat} (h : outP q o I1 I2 lim env b') :
    (q.1 = 0 ∧ o = .inl (some (vI 0)) ∧ Mch I2 lim q.2.2 env (b' + q.2.1.length) ∧ Rows I2 b' q.2.1 ∧ Keep I1 I2 b') ∨
    (q.1 ≠ 0 ∧ ∃ x : Int32, o = .inl (some (vI x)) ∧ x ≠ 0 ∧ ∀ (I : aI) (base : Nat), base ≤ b' → Keep I I1 base → outP (q.1, [], q.2.2) o I I2 lim env base) := by
  rcases h with h | h | h
  · exact Or.inl h
  · have hn : q.1 ≠ 0 := by rw [h.1]; decide
    exact Or.inr ⟨hn, -2, h.2.1, by decide, fun I base hb hk => outP.stop (Or.inr (Or.inl h)) hn hb hk⟩
  · have hn : q.1 ≠ 0 := by rw [h.1]; decide
    exact Or.inr ⟨hn, -3, h.2.1, by decide, fun I base hb hk => outP.stop (I1 := I1) (b' := b') (Or.inr (Or.inr h)) hn hb hk⟩
section Acts
variable {lx ly : Nat} {g : aG} {τ : Nat → Nat} {B : mB} {hg : Nat → Nat} {cnt : Nat} {F : mF} {lim f : Nat}
variable {t a b : Nat} {env : Nat → Int32} {e : mE} {base d : Nat} {I : aI} {L : aL} {x nm : Int32}
theorem e3_write (hC : Cm lx ly g) (hM : Mch I lim e env base) (h3 : base < 3100) (hd : 2 ≤ d) : Mx mX3_performWrite d 0 0 [vS 3, vI x] g I L (pfQ (ansF (mE.s e) (setSL e x (mE.l e))) g I L lim env base) := by
  have hM2 : Mch (up2 I 3 4 x) lim (setSL e x (mE.l e)) env base := by
    obtain ⟨h1, h2, h3, h4, h5, h6, h7, h8, h9, h10, h11⟩ := hM
    have q : ∀ i, i ≠ 3 → up2 I 3 4 x i = I i := fun i hi => by funext k; exact up2_i hi
    exact ⟨by rw [up2_k (by omega)]; exact h1, by rw [up2_k (by omega)]; exact h2, up2_s, by rw [up2_k (by omega)]; exact h4, by rw [up2_k (by omega)]; exact h5, by rw [q 9 (by omega)]; exact h6, by rw [q 10 (by omega)]; exact h7, by rw [q 11 (by omega)]; exact h8, by rw [q 12 (by omega)]; exact h9, fun k hk => by rw [q 13 (by omega)]; exact h10 k hk, by rw [q 4 (by omega)]; exact h11⟩
  refine Mx_in (by decide +kernel) rfl rfl (Ex_wx [] 9 oX3_performWrite hC.1 ?_)
  refine Ex_v (As := [vI (I 3 4)]) (st := []) (d' := 1) vX3_150 rfl rfl (e3_answer hC hM2 h3 (by omega)) (hC.1 3 _ rfl).2.1 (by omega) rfl (dc_ok oX3_performWrite rfl) ?_
  rw [hM.2.2.1]
  refine Ex_wx [] 9 oX3_performWrite hC.1 ?_
  refine ⟨rfl, rfl, ?_, Or.inl ⟨rfl, rfl, hM2.push, push_rows, ?_⟩⟩
  · exact Frm.trans (fun i hi => by funext k; exact up2_i (by omega)) push_frm
  · exact Keep.trans (fun k hk => by simp [resAt, up2]) push_keep
theorem e3_say (hC : Cm lx ly g) (hM : Mch I lim e env base) (hi : invE lim e) (hsu : mE.us e ≤ mE.sp e) (hlim : lim ≤ 2000) (h3 : base < 3100) (hd : 3 ≤ d) : Mx mX3_performSay d 0 0 [vS 3, vI x] g I L (pfQ (if 60 < lenF e (mE.l e) + 1 then (2, [], e) else ansF x (sayF e x)) g I L lim env base) := by
  have q3 := (hC.1 3 _ rfl).2.1
  have q9 := (hC.1 9 _ rfl).2.1
  have hu := hM.2.2.2.2.2.1
  have hlen : gtL (I 12) (mE.us e) (I 3 5) = lenF e (mE.l e) := by rw [hM.2.2.2.2.2.2.2.2.1, hM.2.2.2.1]; rfl
  have hus : mE.us e ≤ 2000 := Nat.le_trans hsu (Nat.le_trans hi.2.2 hlim)
  refine Mx_in (by decide +kernel) rfl rfl (Ex_wx [] 9 oX3_performSay hC.1 ?_)
  by_cases h60 : 60 < lenF e (mE.l e) + 1
  · rw [if_pos h60]
    refine Ex_v (As := [vI (I 3 5), vI x]) (st := []) (d' := 2) vX3_207 rfl rfl (e2_without hC.1 hu (by omega) (by omega) (by rw [hlen]; exact h60)) q9 (by omega) rfl (dc_ok oX3_performSay rfl) ?_
    refine Ex_wx [] 9 oX3_performSay hC.1 ?_
    refine And.intro (fun _ => ?_) (fun c => absurd rfl c)
    exact ⟨rfl, rfl, Frm.refl, Or.inr (Or.inr ⟨rfl, rfl, base, by omega, hM.2.2.2.2.2.2.2.2.2.2⟩)⟩
  · rw [if_neg h60]
    refine Ex_v (As := [vI (I 3 5), vI x]) (st := []) (d' := 2) vX3_207 rfl rfl (e2_with hC.1 hu hi.1 hus (by omega) (by rw [hlen]; exact h60)) q9 (by omega) rfl (dc_ok oX3_performSay rfl) ?_
    rw [hlen]
    have hne : ¬ nI (mE.us e) = -1 := by
      intro h
      have h1 := congrArg Int32.toInt h
      rw [nI_toInt (by omega)] at h1
      have h2 : (-1 : Int32).toInt = -1 := by decide
      omega
    refine Ex_wx [] 9 oX3_performSay hC.1 ?_
    refine And.intro (fun c => absurd c hne) (fun _ => ?_)
    have hM2 : Mch (up2 (withI I (mE.us e) (I 3 5) x (lenF e (mE.l e) + 1)) 3 5 (nI (mE.us e))) lim (sayF e x) env base := by
      obtain ⟨h1, h2, h3, h4, h5, h6, h7, h8, h9, h10, h11⟩ := hM
      refine ⟨?_, ?_, ?_, ?_, ?_, ?_, ?_, ?_, ?_, ?_, ?_⟩
      · exact (by simp [up2, withI] : up2 (withI I (mE.us e) (I 3 5) x (lenF e (mE.l e) + 1)) 3 5 (nI (mE.us e)) 3 7 = I 3 7).trans h1
      · exact (by simp [up2, withI] : up2 (withI I (mE.us e) (I 3 5) x (lenF e (mE.l e) + 1)) 3 5 (nI (mE.us e)) 3 6 = I 3 6).trans h2
      · exact (by simp [up2, withI] : up2 (withI I (mE.us e) (I 3 5) x (lenF e (mE.l e) + 1)) 3 5 (nI (mE.us e)) 3 4 = I 3 4).trans h3
      · exact up2_s
      · exact (by simp [up2, withI] : up2 (withI I (mE.us e) (I 3 5) x (lenF e (mE.l e) + 1)) 3 5 (nI (mE.us e)) 3 8 = I 3 8).trans h5
      · show up2 (withI I (mE.us e) (I 3 5) x (lenF e (mE.l e) + 1)) 3 5 (nI (mE.us e)) 9 3 = nI (mE.us e + 1)
        simp [up2, withI]
      · show _ = up1 (mE.nu e) (mE.us e) x
        rw [← h7]; funext k; simp [up2, withI, up1]
      · show _ = up1 (mE.be e) (mE.us e) (mE.l e)
        rw [← h8, ← h4]; funext k; simp [up2, withI, up1]
      · show _ = up1 (mE.le e) (mE.us e) (lenF e (mE.l e) + 1)
        rw [← h9]; funext k; simp [up2, withI, up1]
      · intro k hk
        exact (by simp [up2, withI] : up2 (withI I (mE.us e) (I 3 5) x (lenF e (mE.l e) + 1)) 3 5 (nI (mE.us e)) 13 k = I 13 k).trans (h10 k hk)
      · exact (by simp [up2, withI] : up2 (withI I (mE.us e) (I 3 5) x (lenF e (mE.l e) + 1)) 3 5 (nI (mE.us e)) 4 4 = I 4 4).trans h11
    refine Ex_v (As := [vI x]) (st := []) (d' := 2) vX3_150 rfl rfl (e3_answer hC hM2 h3 (by omega)) q3 (by omega) rfl (dc_ok oX3_performSay rfl) ?_
    refine Ex_wx [] 9 oX3_performSay hC.1 ?_
    refine ⟨rfl, rfl, ?_, Or.inl ⟨rfl, rfl, hM2.push, push_rows, ?_⟩⟩
    · refine Frm.trans (fun i hi => ?_) push_frm
      funext k
      unfold withI
      rw [up2_i (by omega), up2_i (by omega), up2_i (by omega), up2_i (by omega), up2_i (by omega)]
    · exact Keep.trans (fun k hk => by simp [resAt, up2, withI]) push_keep
theorem e3_fail (hC : Cm lx ly g) (hL : Lay I ly F) (hM : Mch I lim e env base) (h3 : base < 3100) (hd : 1 ≤ d) : Mx mX3_performFail d 0 0 [vS 3, vI x] g I L (pfQ (if F.2.2.1 = true then (0, [(x, 1, mE.s e, mE.l e)], e) else (1, [], (mE.sp e, mE.us e, mE.nu e, mE.be e, mE.le e, mE.s e, mE.l e, x))) g I L lim env base) := by
  refine Mx_in (by decide +kernel) rfl rfl (Ex_wx [] 9 oX3_performFail hC.1 ?_)
  refine And.intro hC.2.1 ?_
  have hl := hL.2.2.1
  refine And.intro (fun c => ?_) (fun c => ?_)
  · rw [hl] at c
    rw [bI_0.mp c, if_neg (by decide)]
    refine ⟨rfl, rfl, fun i hi => by funext k; exact up2_i (by omega), Or.inr (Or.inl ⟨rfl, rfl, ⟨base, Nat.le_refl _, by omega, ?_⟩, fun k hk => by simp [resAt, up2]⟩)⟩
    obtain ⟨h1, h2, h3, h4, h5, h6, h7, h8, h9, h10, h11⟩ := hM
    have q : ∀ i, i ≠ 3 → up2 I 3 8 x i = I i := fun i hi => by funext k; exact up2_i hi
    exact ⟨by rw [up2_k (by omega)]; exact h1, by rw [up2_k (by omega)]; exact h2, by rw [up2_k (by omega)]; exact h3, by rw [up2_k (by omega)]; exact h4, up2_s, by rw [q 9 (by omega)]; exact h6, by rw [q 10 (by omega)]; exact h7, by rw [q 11 (by omega)]; exact h8, by rw [q 12 (by omega)]; exact h9, fun k hk => by rw [q 13 (by omega)]; exact h10 k hk, by rw [q 4 (by omega)]; exact h11⟩
  · rw [hl] at c
    have hF : F.2.2.1 = true := by cases h : F.2.2.1 with | true => rfl | false => exact absurd (bI_0.mpr h) c
    rw [if_pos hF]
    refine Ex_v (As := [vI x, vI 1, vI (I 3 4), vI (I 3 5)]) (st := []) (d' := 0) vX3_203 rfl rfl (e5_push hC.1 hM.2.2.2.2.2.2.2.2.2.2 h3 (Or.inr rfl)) (hC.1 4 _ rfl).2.1 hd rfl (dc_ok oX3_performFail rfl) ?_
    rw [hM.2.2.1, hM.2.2.2.1]
    refine Ex_wx [] 9 oX3_performFail hC.1 ?_
    refine And.intro (fun c => absurd c (by decide)) (fun _ => ?_)
    exact ⟨rfl, rfl, push_frm, Or.inl ⟨rfl, rfl, hM.push, push_rows, push_keep⟩⟩
theorem e3_either (hC : Cm lx ly g) (hP : pfC lx ly g τ B hg cnt F lim f) (hq : g.2.1 (τ t) = some (.inl 7)) (ha : a < cnt) (hha : hg a ≤ f) (hA : g.2.2 (τ t) 4 = some (τ a)) (hb : b < cnt) (hhb : hg b ≤ f) (hB : g.2.2 (τ t) 5 = some (τ b)) (hT : Tb g I τ B hg cnt) (hL : Lay I ly F) (hM : Mch I lim e env base) (hi : invE lim e) (hbs : base + 100 * (f + 1) ≤ 3100) :
    Mx mX3_performEither (4 * f + 7) 0 0 [vS 3, vD (some (τ t))] g I L (pfQ (eitherF F e (ev F B lim f a env e) (ev F B lim f b env)) g I L lim env base) := by
  have h3 := (hC.1 3 _ rfl).2.1
  have h4 := (hC.1 4 _ rfl).2.1
  have hf1 : 1 ≤ f := Nat.le_trans (hT a ha).2.2.2.1 hha
  refine Mx_in (by decide +kernel) rfl rfl (Ex_wx [] 9 oX3_performEither hC.1 ?_)
  refine Ex_v (As := []) (st := []) (d' := 0) vX3_52 rfl rfl (e5_size hC.1) h4 (by omega) rfl (dc_ok oX3_performEither rfl) ?_
  rw [hM.2.2.2.2.2.2.2.2.2.2]
  refine Ex_wx [] 9 oX3_performEither hC.1 ?_
  refine And.intro hq ?_
  have hx := hP a env e base I L ha hha hT hL hM hi (by omega)
  refine Ex_cV (kc := 0) (ks := 0) (kc' := 0) (ks' := 0) (As := [vD (g.2.2 (τ t) 4)]) (st := []) vX3_48 rfl rfl h3 (by rw [hA]; exact hx) (by omega) rfl (dc_ok oX3_performEither rfl) ?_ (fun E g' I' L' hq => absurd hq pfQ_no)
  rintro w g I1 L ⟨rfl, rfl, hf, ho⟩
  have hok := ev_ok (F := F) (B := B) f a env e hi
  unfold eitherF
  rcases ho with ⟨h1, h2, hm, hrw, hkp⟩ | ho | ho
  · cases h2
    rw [if_neg (fun q => q h1)]
    refine Ex_wx [37] 9 oX3_performEither hC.1 ?_
    refine And.intro (fun _ => ?_) (fun c => absurd rfl c)
    refine Ex_wx [] 9 oX3_performEither hC.1 ?_
    rw [hM.2.2.1, hM.2.2.2.1]
    refine Ex_v (As := [vI (mE.s e), vI (mE.l e)]) (st := []) (d' := 1) vX3_214 rfl rfl (e3_takeOwn hC (hL.frm hf hC.2.2)) h3 (by omega) rfl (dc_ok oX3_performEither rfl) ?_
    refine Ex_wx [] 9 oX3_performEither hC.1 ?_
    refine And.intro hq ?_
    have h50 := (hok.2.2 h1).1
    have hy := hP b env _ _ (ownI F I1 (mE.s e) (mE.l e)) L hb hhb (hT.frm (hf.trans own_frm)) (hL.frm (hf.trans own_frm) hC.2.2) (hm.own (F := F) (s := mE.s e) (l := mE.l e)) (own2_inv hok.2.1) (by omega)
    refine Ex_cV (kc := 0) (ks := 0) (kc' := 0) (ks' := 0) (As := [vD (g.2.2 (τ t) 5)]) (st := []) vX3_48 rfl rfl h3 (by rw [hB]; exact hy) (by omega) rfl (dc_ok oX3_performEither rfl) ?_ (fun E g' I' L' hq => absurd hq pfQ_no)
    rintro w g I2 L ⟨rfl, rfl, hf2, ho⟩
    have hok2 := ev_ok (F := F) (B := B) f b env _ (own2_inv (F := F) (s := mE.s e) (l := mE.l e) hok.2.1)
    have hkp2 : ∀ {n}, Keep (ownI F I1 (mE.s e) (mE.l e)) I2 n → Keep I1 I2 n := fun h k hk => by rw [h k hk, own_res]
    rcases ho with ⟨g1, g2, gm, grw, gkp⟩ | ho | ho
    · cases g2
      simp only
      rw [if_neg (fun q => q g1)]
      refine Ex_wx [] 9 oX3_performEither hC.1 ?_
      refine And.intro (fun _ => ?_) (fun c => absurd rfl c)
      have h50b := (hok2.2.2 g1).1
      refine Ex_v (As := [vI (nI base)]) (st := []) (d' := 1) vX3_217 rfl rfl (e3_isTooMany hC gm.2.2.2.2.2.2.2.2.2.2 (by omega) (by omega) (by omega)) h3 (by omega) rfl (dc_ok oX3_performEither rfl) ?_
      by_cases hmany : 50 < ((ev F B lim f a env e).2.1 ++ (ev F B lim f b env (own2 F (ev F B lim f a env e).2.2 (mE.s e) (mE.l e))).2.1).length
      · rw [if_pos hmany, if_pos (by rw [List.length_append] at hmany; omega)]
        refine Ex_wx [] 9 oX3_performEither hC.1 ?_
        refine And.intro (fun c => absurd c (by decide)) (fun _ => ?_)
        exact ⟨rfl, rfl, hf.trans (own_frm.trans hf2), Or.inr (Or.inr ⟨rfl, rfl, _, by omega, gm.2.2.2.2.2.2.2.2.2.2⟩)⟩
      · rw [if_neg hmany, if_neg (by rw [List.length_append] at hmany; omega)]
        refine Ex_wx [] 9 oX3_performEither hC.1 ?_
        refine And.intro (fun _ => ?_) (fun c => absurd rfl c)
        refine ⟨rfl, rfl, hf.trans (own_frm.trans hf2), Or.inl ⟨rfl, rfl, ?_, (hrw.keep (hkp2 gkp) (Nat.le_refl _)).app grw, hkp.trans ((hkp2 gkp).mono (by omega))⟩⟩
        rw [List.length_append, ← Nat.add_assoc]
        exact gm
    · have hn : (ev F B lim f b env (own2 F (ev F B lim f a env e).2.2 (mE.s e) (mE.l e))).1 ≠ 0 := by rw [ho.1]; decide
      have ho2 := outP.stop (I := I) (base := base) (Or.inr (Or.inl ho)) hn (by omega) (hkp.trans (fun k hk => own_res))
      cases ho.2.1
      simp only
      rw [if_pos hn]
      refine Ex_wx [] 9 oX3_performEither hC.1 ?_
      refine And.intro (fun c => absurd c (by decide)) (fun _ => ?_)
      exact ⟨rfl, rfl, hf.trans (own_frm.trans hf2), ho2⟩
    · have hn : (ev F B lim f b env (own2 F (ev F B lim f a env e).2.2 (mE.s e) (mE.l e))).1 ≠ 0 := by rw [ho.1]; decide
      have ho2 := outP.stop (I := I) (I1 := I) (lim := lim) (env := env) (base := base) (b' := base) (Or.inr (Or.inr ho)) hn (Nat.le_refl _) Keep.refl
      cases ho.2.1
      simp only
      rw [if_pos hn]
      refine Ex_wx [] 9 oX3_performEither hC.1 ?_
      refine And.intro (fun c => absurd c (by decide)) (fun _ => ?_)
      exact ⟨rfl, rfl, hf.trans (own_frm.trans hf2), ho2⟩
  · have hn : (ev F B lim f a env e).1 ≠ 0 := by rw [ho.1]; decide
    have ho2 := outP.stop (I := I) (base := base) (Or.inr (Or.inl ho)) hn (Nat.le_refl _) Keep.refl
    cases ho.2.1
    rw [if_pos hn]
    refine Ex_wx [37] 9 oX3_performEither hC.1 ?_
    refine And.intro (fun c => absurd c (by decide)) (fun _ => ?_)
    exact ⟨rfl, rfl, hf, ho2⟩
  · have hn : (ev F B lim f a env e).1 ≠ 0 := by rw [ho.1]; decide
    have ho2 := outP.stop (I := I) (I1 := I) (lim := lim) (env := env) (base := base) (b' := base) (Or.inr (Or.inr ho)) hn (Nat.le_refl _) Keep.refl
    cases ho.2.1
    rw [if_pos hn]
    refine Ex_wx [37] 9 oX3_performEither hC.1 ?_
    refine And.intro (fun c => absurd c (by decide)) (fun _ => ?_)
    exact ⟨rfl, rfl, hf, ho2⟩
end Acts
end
section
/-! more acts -/
theorem outP.pre {q : mO} {o : aO} {I I1 I2 : aI} {lim : Nat} {env : Nat → Int32} {base : Nat} (h : outP q o I1 I2 lim env base) (hk : Keep I I1 base) : outP q o I I2 lim env base := by
  rcases h with ⟨h1, h2, h3, h4, h5⟩ | ⟨h1, h2, h3, h5⟩ | h
  · exact Or.inl ⟨h1, h2, h3, h4, hk.trans h5⟩
  · exact Or.inr (Or.inl ⟨h1, h2, h3, hk.trans h5⟩)
  · exact Or.inr (Or.inr h)
theorem e5_cutN {lx ly : Nat} {g : aG} {I : aI} {L : aL} {d t k : Nat} (hw : WS lx ly g) (ht : I 4 4 = nI t) (h3 : t ≤ 3100) (hk : t ≤ k) (hk2 : k < 2 ^ 31) : Mx mX5_cutTo d 0 0 [vS 4, vI (nI k)] g I L (qV none g I L) := by
  refine Mx_in (by decide +kernel) rfl rfl (Ex_wx [] 9 oX5_cutTo hw ?_)
  refine And.intro (fun c => absurd c (nI_pos (by omega))) (fun _ => ?_)
  refine And.intro (fun c => ?_) (fun c => absurd (ht ▸ nI_le hk hk2) c)
  exact ⟨rfl, rfl, rfl, rfl⟩
section Acts2
variable {lx ly : Nat} {g : aG} {τ : Nat → Nat} {B : mB} {hg : Nat → Nat} {cnt : Nat} {F : mF} {lim f : Nat}
variable {t a b : Nat} {env : Nat → Int32} {e : mE} {base d : Nat} {I : aI} {L : aL} {x nm : Int32}
theorem e3_then (hC : Cm lx ly g) (hP : pfC lx ly g τ B hg cnt F lim f) (ht : t < cnt) (hnm : I (τ t) 3 = nm) (ha : a < cnt) (hha : hg a ≤ f) (hA : g.2.2 (τ t) 4 = some (τ a)) (hb : b < cnt) (hhb : hg b ≤ f) (hB : g.2.2 (τ t) 5 = some (τ b)) (hT : Tb g I τ B hg cnt) (hL : Lay I ly F) (hM : Mch I lim e env base) (hi : invE lim e) (hlim : lim ≤ 2000) (hbs : base + 100 * (f + 1) ≤ 3100) :
    Mx mX3_performThen (4 * f + 7) 0 0 [vS 3, vD (some (τ t))] g I L (pfQ (if (ev F B lim f a env e).1 ≠ 0 then ((ev F B lim f a env e).1, [], (ev F B lim f a env e).2.2) else eachF F (ev F B lim f b) 0 nm env (ev F B lim f a env e).2.1 [] (ev F B lim f a env e).2.2) g I L lim env base) := by
  have h3 := (hC.1 3 _ rfl).2.1
  have h4 := (hC.1 4 _ rfl).2.1
  have hq := (hT t ht).2.1
  have h13 := (hT t ht).1
  refine Mx_in (by decide +kernel) rfl rfl (Ex_wx [] 9 oX3_performThen hC.1 ?_)
  refine Ex_v (As := []) (st := []) (d' := 0) vX3_52 rfl rfl (e5_size hC.1) h4 (by omega) rfl (dc_ok oX3_performThen rfl) ?_
  rw [hM.2.2.2.2.2.2.2.2.2.2]
  refine Ex_wx [] 9 oX3_performThen hC.1 ?_
  refine And.intro hq ?_
  have hx := hP a env e base I L ha hha hT hL hM hi (by omega)
  refine Ex_cV (kc := 0) (ks := 0) (kc' := 0) (ks' := 0) (As := [vD (g.2.2 (τ t) 4)]) (st := []) vX3_48 rfl rfl h3 (by rw [hA]; exact hx) (by omega) rfl (dc_ok oX3_performThen rfl) ?_ (fun E g' I' L' hq => absurd hq pfQ_no)
  rintro w g I1 L ⟨rfl, rfl, hf, ho⟩
  have hok := ev_ok (F := F) (B := B) f a env e hi
  rcases out_split ho with ⟨h1, h2, hm, hrw, hkp⟩ | ⟨h1, x, h2, hx0, hst⟩
  · cases h2
    rw [if_neg (fun q => q h1)]
    refine Ex_wx [] 9 oX3_performThen hC.1 ?_
    refine And.intro (fun _ => ?_) (fun c => absurd rfl c)
    refine And.intro hq (And.intro hq ?_)
    have hE := e3_each (L := L) (oe := 0) (nm := nm) (I := I1) hC hP hb hhb (hT.frm hf) (hL.frm hf hC.2.2) (hok.2.2 h1).1 (hok.2.2 h1).2 hbs hlim hm hrw hok.2.1
    refine Ex_cV (kc := 0) (ks := 0) (kc' := 0) (ks' := 0) (As := [vI (nI base), vI 0, vI (I1 (τ t) 3), vD (g.2.2 (τ t) 5)]) (st := []) vX3_220 rfl rfl h3 (by rw [hf (τ t) (Or.inr h13), hnm, hB]; exact hE) (by omega) rfl (dc_ok oX3_performThen rfl) ?_ (fun E g' I' L' hq => absurd hq pfQ_no)
    rintro w g I2 L ⟨rfl, rfl, hf2, ho2⟩
    obtain ⟨y, rfl⟩ := out_val ho2
    refine Ex_wx [] 9 oX3_performThen hC.1 ?_
    exact ⟨rfl, rfl, hf.trans hf2, ho2.pre hkp⟩
  · cases h2
    rw [if_pos h1]
    refine Ex_wx [] 9 oX3_performThen hC.1 ?_
    refine And.intro (fun c => absurd c hx0) (fun _ => ?_)
    exact ⟨rfl, rfl, hf, hst I base (Nat.le_refl _) Keep.refl⟩
theorem e3_once (hC : Cm lx ly g) (hP : pfC lx ly g τ B hg cnt F lim f) (ht : t < cnt) (ha : a < cnt) (hha : hg a ≤ f) (hA : g.2.2 (τ t) 4 = some (τ a)) (hT : Tb g I τ B hg cnt) (hL : Lay I ly F) (hM : Mch I lim e env base) (hi : invE lim e) (hbs : base + 100 * (f + 1) ≤ 3100) :
    Mx mX3_performOnce (4 * f + 7) 0 0 [vS 3, vD (some (τ t))] g I L (pfQ (if (ev F B lim f a env e).1 ≠ 0 then ((ev F B lim f a env e).1, [], (ev F B lim f a env e).2.2) else (0, (ev F B lim f a env e).2.1.take 1, (ev F B lim f a env e).2.2)) g I L lim env base) := by
  have h3 := (hC.1 3 _ rfl).2.1
  have h4 := (hC.1 4 _ rfl).2.1
  have hq := (hT t ht).2.1
  refine Mx_in (by decide +kernel) rfl rfl (Ex_wx [] 9 oX3_performOnce hC.1 ?_)
  refine Ex_v (As := []) (st := []) (d' := 0) vX3_52 rfl rfl (e5_size hC.1) h4 (by omega) rfl (dc_ok oX3_performOnce rfl) ?_
  rw [hM.2.2.2.2.2.2.2.2.2.2]
  refine Ex_wx [] 9 oX3_performOnce hC.1 ?_
  refine And.intro hq ?_
  have hx := hP a env e base I L ha hha hT hL hM hi (by omega)
  refine Ex_cV (kc := 0) (ks := 0) (kc' := 0) (ks' := 0) (As := [vD (g.2.2 (τ t) 4)]) (st := []) vX3_48 rfl rfl h3 (by rw [hA]; exact hx) (by omega) rfl (dc_ok oX3_performOnce rfl) ?_ (fun E g' I' L' hq => absurd hq pfQ_no)
  rintro w g I1 L ⟨rfl, rfl, hf, ho⟩
  have hok := ev_ok (F := F) (B := B) f a env e hi
  rcases out_split ho with ⟨h1, h2, hm, hrw, hkp⟩ | ⟨h1, x, h2, hx0, hst⟩
  · cases h2
    rw [if_neg (fun q => q h1)]
    have h50 := (hok.2.2 h1).1
    refine Ex_wx [] 9 oX3_performOnce hC.1 ?_
    refine And.intro (fun _ => ?_) (fun c => absurd rfl c)
    cases hr : (ev F B lim f a env e).2.1 with
    | nil =>
      rw [hr] at hm
      refine Ex_v (As := [vI (nI base + 1)]) (st := []) (d' := 0) vX3_75 rfl rfl (by rw [nI_1]; exact e5_cutN hC.1 hm.2.2.2.2.2.2.2.2.2.2 (by simp only [List.length_nil]; omega) (by simp only [List.length_nil]; omega) (by omega)) h4 (by omega) rfl (dc_ok oX3_performOnce rfl) ?_
      refine Ex_wx [] 9 oX3_performOnce hC.1 ?_
      exact ⟨rfl, rfl, hf, Or.inl ⟨rfl, rfl, hm, fun j r h => by simp at h, hkp⟩⟩
    | cons r rs =>
      rw [hr] at hm hrw h50
      refine Ex_v (As := [vI (nI base + 1)]) (st := []) (d' := 0) vX3_75 rfl rfl (by rw [nI_1]; exact e5_cutTo hC.1 hm.2.2.2.2.2.2.2.2.2.2 (by simp only [List.length_cons] at h50 ⊢; omega) (by simp only [List.length_cons]; omega)) h4 (by omega) rfl (dc_ok oX3_performOnce rfl) ?_
      refine Ex_wx [] 9 oX3_performOnce hC.1 ?_
      refine ⟨rfl, rfl, hf.trans (fun i hi => cut_else (by omega)), Or.inl ⟨rfl, rfl, hm.cut, fun j r' h => ?_, hkp.trans (fun k hk => cut_res)⟩⟩
      rw [cut_res]
      cases j with
      | zero => exact hrw 0 r' h
      | succ j => simp at h
  · cases h2
    rw [if_pos h1]
    refine Ex_wx [] 9 oX3_performOnce hC.1 ?_
    refine And.intro (fun c => absurd c hx0) (fun _ => ?_)
    exact ⟨rfl, rfl, hf, hst I base (Nat.le_refl _) Keep.refl⟩
/-- the first j of the rows are changed by h -/
def MapR (I : aI) (base : Nat) (rs : List mR) (j : Nat) (h : mR → mR) : Prop := ∀ k r, rs[k]? = some r → resAt I (base + k) = if k < j then h r else r
theorem MapR.zero {rs : List mR} {h : mR → mR} (hr : Rows I base rs) : MapR I base rs 0 h := fun k r hk => by rw [if_neg (by omega)]; exact hr k r hk
theorem MapR.rows {rs : List mR} {h : mR → mR} (hm : MapR I base rs rs.length h) : Rows I base (rs.map h) := by
  intro j r hj
  rw [List.getElem?_map] at hj
  cases hq : rs[j]? with
  | none => rw [hq] at hj; cases hj
  | some q =>
    rw [hq] at hj
    cases hj
    have hl : j < rs.length := (List.getElem?_eq_some_iff.mp hq).1
    rw [hm j q hq, if_pos hl]
theorem MapR.step {I' : aI} {rs : List mR} {j : Nat} {h : mR → mR} {r : mR} (hm : MapR I base rs j h) (hr : rs[j]? = some r) (hs : resAt I' (base + j) = h r) (ho : ∀ k, k ≠ base + j → resAt I' k = resAt I k) : MapR I' base rs (j + 1) h := by
  intro k q hk
  by_cases e : k = j
  · subst e
    have e2 : q = r := Option.some.inj (hk.symm.trans hr)
    rw [if_pos (by omega), hs, e2]
  · rw [ho (base + k) (by omega), hm k q hk]
    by_cases h2 : k < j
    · rw [if_pos h2, if_pos (by omega)]
    · rw [if_neg h2, if_neg (by omega)]
end Acts2
end
section
/-! acts that go over their RESULTS -/
theorem set5_res {I : aI} {k m : Nat} {x : Int32} : resAt (up2 I 5 k x) m = if m = k then (x, I 6 m, I 7 m, I 8 m) else resAt I m := by
  by_cases h : m = k <;> simp [resAt, up2, h]
theorem set7_res {I : aI} {k m : Nat} {x : Int32} : resAt (up2 I 7 k x) m = if m = k then (I 5 m, I 6 m, x, I 8 m) else resAt I m := by
  by_cases h : m = k <;> simp [resAt, up2, h]
theorem set8_res {I : aI} {k m : Nat} {x : Int32} : resAt (up2 I 8 k x) m = if m = k then (I 5 m, I 6 m, I 7 m, x) else resAt I m := by
  by_cases h : m = k <;> simp [resAt, up2, h]
theorem setR_else {I : aI} {a k : Nat} {x : Int32} (ha : 5 ≤ a ∧ a ≤ 8) : ∀ i, i < 4 ∨ 8 < i → up2 I a k x i = I i := fun i hi => by funext m; exact up2_i (by omega)
theorem setR_frm {I : aI} {a k : Nat} {x : Int32} (ha : 5 ≤ a ∧ a ≤ 8) : Frm I (up2 I a k x) := fun i hi => setR_else ha i (by omega)
theorem Mch.setR {I : aI} {lim : Nat} {e : mE} {env : Nat → Int32} {t a k : Nat} {x : Int32} (h : Mch I lim e env t) (ha : 5 ≤ a ∧ a ≤ 8) : Mch (up2 I a k x) lim e env t := h.res (setR_else ha) (by rw [up2_i (by omega)]; exact h.2.2.2.2.2.2.2.2.2.2)
section Acts3
variable {lx ly : Nat} {g : aG} {τ : Nat → Nat} {B : mB} {hg : Nat → Nat} {cnt : Nat} {F : mF} {lim f : Nat}
variable {t a b : Nat} {env : Nat → Int32} {e : mE} {base d : Nat} {I : aI} {L : aL} {x nm : Int32}
theorem e3_hiddenL {rs : List mR} {e2 : mE} {l0 : Int32} {v1 : Option aV} (hC : Cm lx ly g) (hd : 3 ≤ d) (h31 : base + rs.length ≤ 3100) : ∀ (n j : Nat) (I1 : aI), rs.length - j = n → j ≤ rs.length → Mch I1 lim e2 env (base + rs.length) → MapR I1 base rs j (hiddenM l0) → Keep I I1 base → Frm I I1 →
    Ex mX3_performHidden d 0 0 (pfQ (0, rs.map (hiddenM l0), e2) g I L lim env base) 39 [some (vS 3), v1, some (vI (nI base)), some (vI l0), some (vI 0), some (vI (nI (base + j)))] [] g I1 L := by
  have h4 := (hC.1 4 _ rfl).2.1
  intro n
  induction n with
  | zero =>
    intro j I1 hn hj hM hR hK hF
    have : j = rs.length := by omega
    subst this
    refine Ex_wx [] 9 oX3_performHidden hC.1 ?_
    refine Ex_v (As := []) (st := [vI (nI (base + rs.length))]) (d' := 0) vX3_52 rfl rfl (e5_size hC.1) h4 (by omega) rfl (dc_ok oX3_performHidden rfl) ?_
    rw [hM.2.2.2.2.2.2.2.2.2.2]
    refine Ex_wx [] 9 oX3_performHidden hC.1 ?_
    refine And.intro (fun _ => ?_) (fun c => absurd (Int32.le_refl _) c)
    exact ⟨rfl, rfl, hF, Or.inl ⟨rfl, rfl, by rw [List.length_map]; exact hM, hR.rows, hK⟩⟩
  | succ n ih =>
    intro j I1 hn hj hM hR hK hF
    have hjl : j < rs.length := by omega
    have htop := hM.2.2.2.2.2.2.2.2.2.2
    refine Ex_wx [] 9 oX3_performHidden hC.1 ?_
    refine Ex_v (As := []) (st := [vI (nI (base + j))]) (d' := 0) vX3_52 rfl rfl (e5_size hC.1) h4 (by omega) rfl (dc_ok oX3_performHidden rfl) ?_
    rw [htop]
    refine Ex_wx [] 9 oX3_performHidden hC.1 ?_
    refine And.intro (fun c => absurd (leN c (by omega) (by omega)) (by omega)) (fun _ => ?_)
    refine Ex_v (As := [vI (nI (base + j)), vI l0]) (st := []) (d' := 1) vX3_230 rfl rfl (e5_setLog hC.1 htop (by omega) (by omega) (by omega)) h4 (by omega) rfl (dc_ok oX3_performHidden rfl) ?_
    refine Ex_wx [39] 9 oX3_performHidden hC.1 ?_
    show Ex mX3_performHidden d 0 0 _ 39 [some (vS 3), v1, some (vI (nI base)), some (vI l0), some (vI 0), some (vI (nI (base + j) + 1))] [] g (up2 I1 8 (base + j) l0) L
    rw [nI_1, show base + j + 1 = base + (j + 1) by omega]
    have hrj := List.getElem?_eq_getElem hjl
    have hat := hR j _ hrj
    rw [if_neg (by omega)] at hat
    refine ih (j + 1) _ (by omega) (by omega) (hM.setR (by omega)) (hR.step hrj ?_ (fun k hk => by rw [set8_res, if_neg hk])) (hK.trans (fun k hk => by rw [set8_res, if_neg (by omega)])) (hF.trans (setR_frm (by omega)))
    rw [set8_res, if_pos rfl]
    show (I1 5 (base + j), I1 6 (base + j), I1 7 (base + j), l0) = hiddenM l0 rs[j]
    rw [← hat]
    rfl
theorem e3_hidden (hC : Cm lx ly g) (hP : pfC lx ly g τ B hg cnt F lim f) (ht : t < cnt) (ha : a < cnt) (hha : hg a ≤ f) (hA : g.2.2 (τ t) 4 = some (τ a)) (hT : Tb g I τ B hg cnt) (hL : Lay I ly F) (hM : Mch I lim e env base) (hi : invE lim e) (hbs : base + 100 * (f + 1) ≤ 3100) :
    Mx mX3_performHidden (4 * f + 7) 0 0 [vS 3, vD (some (τ t))] g I L (pfQ (if (ev F B lim f a env e).1 ≠ 0 then ((ev F B lim f a env e).1, [], (ev F B lim f a env e).2.2) else (0, (ev F B lim f a env e).2.1.map (hiddenM (mE.l e)), setSL (ev F B lim f a env e).2.2 (mE.s (ev F B lim f a env e).2.2) (mE.l e))) g I L lim env base) := by
  have h3 := (hC.1 3 _ rfl).2.1
  have h4 := (hC.1 4 _ rfl).2.1
  have hq := (hT t ht).2.1
  refine Mx_in (by decide +kernel) rfl rfl (Ex_wx [] 9 oX3_performHidden hC.1 ?_)
  refine Ex_v (As := []) (st := []) (d' := 0) vX3_52 rfl rfl (e5_size hC.1) h4 (by omega) rfl (dc_ok oX3_performHidden rfl) ?_
  rw [hM.2.2.2.2.2.2.2.2.2.2]
  refine Ex_wx [] 9 oX3_performHidden hC.1 ?_
  refine And.intro hq ?_
  have hx := hP a env e base I L ha hha hT hL hM hi (by omega)
  refine Ex_cV (kc := 0) (ks := 0) (kc' := 0) (ks' := 0) (As := [vD (g.2.2 (τ t) 4)]) (st := []) vX3_48 rfl rfl h3 (by rw [hA]; exact hx) (by omega) rfl (dc_ok oX3_performHidden rfl) ?_ (fun E g' I' L' hq => absurd hq pfQ_no)
  rw [hM.2.2.2.1]
  rintro w g I1 L ⟨rfl, rfl, hf, ho⟩
  have hok := ev_ok (F := F) (B := B) f a env e hi
  rcases out_split ho with ⟨h1, h2, hm, hrw, hkp⟩ | ⟨h1, x, h2, hx0, hst⟩
  · cases h2
    rw [if_neg (fun q => q h1)]
    have h50 := (hok.2.2 h1).1
    refine Ex_wx [31] 9 oX3_performHidden hC.1 ?_
    refine And.intro (fun _ => ?_) (fun c => absurd rfl c)
    refine Ex_bn 5 oX3_performHidden hC.1 ?_
    have hm2 : Mch (up2 I1 3 5 (mE.l e)) lim (setSL (ev F B lim f a env e).2.2 (mE.s (ev F B lim f a env e).2.2) (mE.l e)) env (base + (ev F B lim f a env e).2.1.length) := by
      obtain ⟨h1, h2, h3, h4, h5, h6, h7, h8, h9, h10, h11⟩ := hm
      have q : ∀ i, i ≠ 3 → up2 I1 3 5 (mE.l e) i = I1 i := fun i hi => by funext k; exact up2_i hi
      exact ⟨by rw [up2_k (by omega)]; exact h1, by rw [up2_k (by omega)]; exact h2, by rw [up2_k (by omega)]; exact h3, up2_s, by rw [up2_k (by omega)]; exact h5, by rw [q 9 (by omega)]; exact h6, by rw [q 10 (by omega)]; exact h7, by rw [q 11 (by omega)]; exact h8, by rw [q 12 (by omega)]; exact h9, fun k hk => by rw [q 13 (by omega)]; exact h10 k hk, by rw [q 4 (by omega)]; exact h11⟩
    have hres : ∀ k, resAt (up2 I1 3 5 (mE.l e)) k = resAt I1 k := fun k => by simp [resAt, up2]
    exact e3_hiddenL hC (by omega) (by omega) _ 0 _ rfl (Nat.zero_le _) hm2 (MapR.zero (fun j r h => by rw [hres]; exact hrw j r h)) (hkp.trans (fun k hk => hres k)) (hf.trans (fun i hi => by funext k; exact up2_i (by omega)))
  · cases h2
    rw [if_pos h1]
    refine Ex_wx [31] 9 oX3_performHidden hC.1 ?_
    refine And.intro (fun c => absurd c hx0) (fun _ => ?_)
    exact ⟨rfl, rfl, hf, hst I base (Nat.le_refl _) Keep.refl⟩
theorem e3_heardL {rs : List mR} {e2 : mE} {len0 : Int32} {v1 : Option aV} (hC : Cm lx ly g) (hL : Lay I ly F) (hre : errR rs) (hi : invE lim e2) (hlim : lim ≤ 2000) (hd : 3 ≤ d) (h31 : base + rs.length ≤ 3100) : ∀ (n j : Nat) (I1 : aI) (v6 : Option aV), rs.length - j = n → j ≤ rs.length → Mch I1 lim e2 env (base + rs.length) → MapR I1 base rs j (heardM F len0 e2) → Keep I I1 base → Frm I I1 →
    Ex mX3_performHeard d 0 0 (pfQ (0, rs.map (heardM F len0 e2), e2) g I L lim env base) 41 [some (vS 3), v1, some (vI (nI base)), some (vI len0), some (vI 0), some (vI (nI (base + j))), v6] [] g I1 L := by
  have h4 := (hC.1 4 _ rfl).2.1
  have h9 := (hC.1 9 _ rfl).2.1
  intro n
  induction n with
  | zero =>
    intro j I1 v6 hn hj hM hR hK hF
    have : j = rs.length := by omega
    subst this
    refine Ex_wx [] 9 oX3_performHeard hC.1 ?_
    refine Ex_v (As := []) (st := [vI (nI (base + rs.length))]) (d' := 0) vX3_52 rfl rfl (e5_size hC.1) h4 (by omega) rfl (dc_ok oX3_performHeard rfl) ?_
    rw [hM.2.2.2.2.2.2.2.2.2.2]
    refine Ex_wx [] 9 oX3_performHeard hC.1 ?_
    refine And.intro (fun _ => ?_) (fun c => absurd (Int32.le_refl _) c)
    exact ⟨rfl, rfl, hF, Or.inl ⟨rfl, rfl, by rw [List.length_map]; exact hM, hR.rows, hK⟩⟩
  | succ n ih =>
    intro j I1 v6 hn hj hM hR hK hF
    have hjl : j < rs.length := by omega
    have htop := hM.2.2.2.2.2.2.2.2.2.2
    have hrj := List.getElem?_eq_getElem hjl
    have hat := hR j _ hrj
    rw [if_neg (by omega)] at hat
    have q6 : I1 6 (base + j) = rs[j].2.1 := congrArg (fun r : mR => r.2.1) hat
    have q8 : I1 8 (base + j) = rs[j].2.2.2 := congrArg (fun r : mR => r.2.2.2) hat
    have hr01 := hre _ (List.getElem_mem hjl)
    have hLay1 : Lay I1 ly F := hL.frm hF hC.2.2
    refine Ex_wx [] 9 oX3_performHeard hC.1 ?_
    refine Ex_v (As := []) (st := [vI (nI (base + j))]) (d' := 0) vX3_52 rfl rfl (e5_size hC.1) h4 (by omega) rfl (dc_ok oX3_performHeard rfl) ?_
    rw [htop]
    refine Ex_wx [] 9 oX3_performHeard hC.1 ?_
    refine And.intro (fun c => absurd (leN c (by omega) (by omega)) (by omega)) (fun _ => ?_)
    refine Ex_v (As := [vI (nI (base + j))]) (st := []) (d' := 1) vX3_122 rfl rfl (e5_isError hC.1 htop (by omega) (by omega) (by omega)) h4 (by omega) rfl (dc_ok oX3_performHeard rfl) ?_
    rw [q6, bz_01 hr01]
    -- at 113
    have nxt : ∀ (I2 : aI) (v6 : Option aV), Mch I2 lim e2 env (base + rs.length) → MapR I2 base rs (j + 1) (heardM F len0 e2) → Keep I I2 base → Frm I I2 →
        Ex mX3_performHeard d 0 0 (pfQ (0, rs.map (heardM F len0 e2), e2) g I L lim env base) 113 [some (vS 3), v1, some (vI (nI base)), some (vI len0), some (vI 0), some (vI (nI (base + j))), v6] [] g I2 L := by
      intro I2 v6 m1 m2 m3 m4
      refine Ex_wx [41] 9 oX3_performHeard hC.1 ?_
      show Ex mX3_performHeard d 0 0 _ 41 [some (vS 3), v1, some (vI (nI base)), some (vI len0), some (vI 0), some (vI (nI (base + j) + 1)), v6] [] g I2 L
      rw [nI_1, show base + j + 1 = base + (j + 1) by omega]
      exact ih (j + 1) I2 v6 (by omega) (by omega) m1 m2 m3 m4
    -- at 91, with its log on the stack
    have mid : rs[j].2.1 = 0 → ∀ lg : Int32, lg = (if F.2.1 = true then rs[j].2.2.2 else mE.l e2) → Ex mX3_performHeard d 0 0 (pfQ (0, rs.map (heardM F len0 e2), e2) g I L lim env base) 91 [some (vS 3), v1, some (vI (nI base)), some (vI len0), some (vI 0), some (vI (nI (base + j))), v6] [vI lg] g I1 L := by
      intro hz lg hlg
      refine Ex_wx [] 9 oX3_performHeard hC.1 ?_
      have hus : mE.us e2 ≤ 2001 := Nat.le_trans hi.2.1 (by have := hi.2.2; omega)
      refine Ex_v (As := [vI lg]) (st := [vI (nI (base + j)), vS 4]) (d' := 1) vX3_240 rfl rfl (e2_lengthOf hC.1 hM.2.2.2.2.2.1 hus (by omega)) h9 (by omega) rfl (dc_ok oX3_performHeard rfl) ?_
      refine Ex_wx [] 9 oX3_performHeard hC.1 ?_
      refine Ex_v (As := [vI (nI (base + j)), vI (gtL (I1 12) (mE.us e2) lg - len0)]) (st := []) (d' := 1) vX3_243 rfl rfl (e5_setNumber hC.1 htop (by omega) (by omega) (by omega)) h4 (by omega) rfl (dc_ok oX3_performHeard rfl) ?_
      refine nxt _ _ (hM.setR (by omega)) (hR.step hrj ?_ (fun k hk => by rw [set5_res, if_neg hk])) (hK.trans (fun k hk => by rw [set5_res, if_neg (by omega)])) (hF.trans (setR_frm (by omega)))
      rw [set5_res, if_pos rfl]
      unfold heardM
      rw [if_pos hz]
      show (gtL (I1 12) (mE.us e2) lg - len0, I1 6 (base + j), I1 7 (base + j), I1 8 (base + j)) = _
      have q7 : I1 7 (base + j) = rs[j].2.2.1 := congrArg (fun r : mR => r.2.2.1) hat
      rw [q6, q7, q8, hM.2.2.2.2.2.2.2.2.1, hlg]
      rfl
    refine Ex_wx [65, 113] 9 oX3_performHeard hC.1 ?_
    refine And.intro (fun c => ?_) (fun c => ?_)
    · refine Ex_wx [75, 87, 91] 9 oX3_performHeard hC.1 ?_
      refine And.intro hC.2.1 ?_
      have hl := hLay1.2.1
      refine And.intro (fun c2 => ?_) (fun c2 => ?_)
      · rw [hl] at c2
        refine Ex_bn 2 oX3_performHeard hC.1 ?_
        refine mid c _ ?_
        rw [if_neg (by rw [bI_0.mp c2]; decide)]
        exact hM.2.2.2.1
      · rw [hl] at c2
        have hF2 : F.2.1 = true := by cases h : F.2.1 with | true => rfl | false => exact absurd (bI_0.mpr h) c2
        refine Ex_wx [] 9 oX3_performHeard hC.1 ?_
        refine Ex_v (As := [vI (nI (base + j))]) (st := []) (d' := 1) vX3_139 rfl rfl (e5_logOf hC.1 htop (by omega) (by omega) (by omega)) h4 (by omega) rfl (dc_ok oX3_performHeard rfl) ?_
        refine Ex_wx [91] 9 oX3_performHeard hC.1 ?_
        refine mid c _ ?_
        rw [if_pos hF2]
        exact q8
    · refine nxt I1 v6 hM (hR.step hrj ?_ (fun k hk => rfl)) hK hF
      rw [hat]
      unfold heardM
      rw [if_neg c]
theorem e3_heard (hC : Cm lx ly g) (hP : pfC lx ly g τ B hg cnt F lim f) (ht : t < cnt) (ha : a < cnt) (hha : hg a ≤ f) (hA : g.2.2 (τ t) 4 = some (τ a)) (hT : Tb g I τ B hg cnt) (hL : Lay I ly F) (hM : Mch I lim e env base) (hi : invE lim e) (hlim : lim ≤ 2000) (hbs : base + 100 * (f + 1) ≤ 3100) :
    Mx mX3_performHeard (4 * f + 7) 0 0 [vS 3, vD (some (τ t))] g I L (pfQ (if (ev F B lim f a env e).1 ≠ 0 then ((ev F B lim f a env e).1, [], (ev F B lim f a env e).2.2) else (0, (ev F B lim f a env e).2.1.map (heardM F (lenF e (mE.l e)) (ev F B lim f a env e).2.2), (ev F B lim f a env e).2.2)) g I L lim env base) := by
  have h3 := (hC.1 3 _ rfl).2.1
  have h4 := (hC.1 4 _ rfl).2.1
  have h9 := (hC.1 9 _ rfl).2.1
  have hq := (hT t ht).2.1
  have hus : mE.us e ≤ 2001 := Nat.le_trans hi.2.1 (by have := hi.2.2; omega)
  refine Mx_in (by decide +kernel) rfl rfl (Ex_wx [] 9 oX3_performHeard hC.1 ?_)
  refine Ex_v (As := []) (st := []) (d' := 0) vX3_52 rfl rfl (e5_size hC.1) h4 (by omega) rfl (dc_ok oX3_performHeard rfl) ?_
  rw [hM.2.2.2.2.2.2.2.2.2.2]
  refine Ex_wx [] 9 oX3_performHeard hC.1 ?_
  refine Ex_v (As := [vI (I 3 5)]) (st := []) (d' := 1) vX3_240 rfl rfl (e2_lengthOf hC.1 hM.2.2.2.2.2.1 hus (by omega)) h9 (by omega) rfl (dc_ok oX3_performHeard rfl) ?_
  rw [show gtL (I 12) (mE.us e) (I 3 5) = lenF e (mE.l e) by rw [hM.2.2.2.2.2.2.2.2.1, hM.2.2.2.1]; rfl]
  refine Ex_wx [] 9 oX3_performHeard hC.1 ?_
  refine And.intro hq ?_
  have hx := hP a env e base I L ha hha hT hL hM hi (by omega)
  refine Ex_cV (kc := 0) (ks := 0) (kc' := 0) (ks' := 0) (As := [vD (g.2.2 (τ t) 4)]) (st := []) vX3_48 rfl rfl h3 (by rw [hA]; exact hx) (by omega) rfl (dc_ok oX3_performHeard rfl) ?_ (fun E g' I' L' hq => absurd hq pfQ_no)
  rintro w g I1 L ⟨rfl, rfl, hf, ho⟩
  have hok := ev_ok (F := F) (B := B) f a env e hi
  rcases out_split ho with ⟨h1, h2, hm, hrw, hkp⟩ | ⟨h1, x, h2, hx0, hst⟩
  · cases h2
    rw [if_neg (fun q => q h1)]
    have h50 := (hok.2.2 h1).1
    refine Ex_wx [38] 9 oX3_performHeard hC.1 ?_
    refine And.intro (fun _ => ?_) (fun c => absurd rfl c)
    refine Ex_bn 2 oX3_performHeard hC.1 ?_
    exact e3_heardL hC hL (hok.2.2 h1).2 hok.2.1 hlim (by omega) (by omega) _ 0 _ _ rfl (Nat.zero_le _) hm (MapR.zero hrw) hkp hf
  · cases h2
    rw [if_pos h1]
    refine Ex_wx [38] 9 oX3_performHeard hC.1 ?_
    refine And.intro (fun c => absurd c hx0) (fun _ => ?_)
    exact ⟨rfl, rfl, hf, hst I base (Nat.le_refl _) Keep.refl⟩
end Acts3
end
section
/-! SAVED and TIMES -/
section Acts4
variable {lx ly : Nat} {g : aG} {τ : Nat → Nat} {B : mB} {hg : Nat → Nat} {cnt : Nat} {F : mF} {lim f : Nat}
variable {t a b : Nat} {env : Nat → Int32} {e : mE} {base d : Nat} {I : aI} {L : aL} {x nm : Int32}
theorem Mch.sl {s' l' : Int32} {top : Nat} (hm : Mch I lim e env top) : Mch (up2 (up2 I 3 4 s') 3 5 l') lim (setSL e s' l') env top := by
  obtain ⟨h1, h2, h3, h4, h5, h6, h7, h8, h9, h10, h11⟩ := hm
  have q : ∀ i, i ≠ 3 → up2 (up2 I 3 4 s') 3 5 l' i = I i := fun i hi => by funext k; rw [up2_i hi, up2_i hi]
  exact ⟨by rw [up2_k (by omega), up2_k (by omega)]; exact h1, by rw [up2_k (by omega), up2_k (by omega)]; exact h2, by rw [up2_k (by omega)]; exact up2_s, up2_s, by rw [up2_k (by omega), up2_k (by omega)]; exact h5, by rw [q 9 (by omega)]; exact h6, by rw [q 10 (by omega)]; exact h7, by rw [q 11 (by omega)]; exact h8, by rw [q 12 (by omega)]; exact h9, fun k hk => by rw [q 13 (by omega)]; exact h10 k hk, by rw [q 4 (by omega)]; exact h11⟩
theorem bI_cases (b : Bool) : (b = true ∧ ¬ bI b = 0) ∨ (b = false ∧ bI b = 0) := by cases b <;> simp [bI]
theorem e3_savedL {rs : List mR} {e2 : mE} {v1 : Option aV} {Q : aQ} (hC : Cm lx ly g) (hL : Lay I ly F) (hre : errR rs) (hd : 3 ≤ d) (h31 : base + rs.length ≤ 3100)
    (K : ∀ (I2 : aI), Mch I2 lim e2 env (base + rs.length) → Rows I2 base (rs.map (savedM F e)) → Keep I I2 base → Frm I I2 → Ex mX3_performSaved d 0 0 Q 212 [some (vS 3), v1, some (vI (nI base)), some (vI (mE.s e)), some (vI (mE.l e)), some (vI 0), some (vI (nI (base + rs.length)))] [] g I2 L) :
    ∀ (n j : Nat) (I1 : aI), rs.length - j = n → j ≤ rs.length → Mch I1 lim e2 env (base + rs.length) → MapR I1 base rs j (savedM F e) → Keep I I1 base → Frm I I1 →
    Ex mX3_performSaved d 0 0 Q 117 [some (vS 3), v1, some (vI (nI base)), some (vI (mE.s e)), some (vI (mE.l e)), some (vI 0), some (vI (nI (base + j)))] [] g I1 L := by
  have h4 := (hC.1 4 _ rfl).2.1
  intro n
  induction n with
  | zero =>
    intro j I1 hn hj hM hR hK hF
    have : j = rs.length := by omega
    subst this
    refine Ex_wx [] 9 oX3_performSaved hC.1 ?_
    refine Ex_v (As := []) (st := [vI (nI (base + rs.length))]) (d' := 0) vX3_52 rfl rfl (e5_size hC.1) h4 (by omega) rfl (dc_ok oX3_performSaved rfl) ?_
    rw [hM.2.2.2.2.2.2.2.2.2.2]
    refine Ex_wx [212] 9 oX3_performSaved hC.1 ?_
    refine And.intro (fun _ => ?_) (fun c => absurd (Int32.le_refl _) c)
    exact K I1 hM hR.rows hK hF
  | succ n ih =>
    intro j I1 hn hj hM hR hK hF
    have hjl : j < rs.length := by omega
    have htop := hM.2.2.2.2.2.2.2.2.2.2
    have hrj := List.getElem?_eq_getElem hjl
    have hat := hR j _ hrj
    rw [if_neg (by omega)] at hat
    have q5 : I1 5 (base + j) = rs[j].1 := congrArg (fun r : mR => r.1) hat
    have q6 : I1 6 (base + j) = rs[j].2.1 := congrArg (fun r : mR => r.2.1) hat
    have q7 : I1 7 (base + j) = rs[j].2.2.1 := congrArg (fun r : mR => r.2.2.1) hat
    have q8 : I1 8 (base + j) = rs[j].2.2.2 := congrArg (fun r : mR => r.2.2.2) hat
    have hr01 := hre _ (List.getElem_mem hjl)
    have hLay1 : Lay I1 ly F := hL.frm hF hC.2.2
    refine Ex_wx [] 9 oX3_performSaved hC.1 ?_
    refine Ex_v (As := []) (st := [vI (nI (base + j))]) (d' := 0) vX3_52 rfl rfl (e5_size hC.1) h4 (by omega) rfl (dc_ok oX3_performSaved rfl) ?_
    rw [htop]
    refine Ex_wx [] 9 oX3_performSaved hC.1 ?_
    refine And.intro (fun c => absurd (leN c (by omega) (by omega)) (by omega)) (fun _ => ?_)
    refine Ex_v (As := [vI (nI (base + j))]) (st := []) (d' := 1) vX3_122 rfl rfl (e5_isError hC.1 htop (by omega) (by omega) (by omega)) h4 (by omega) rfl (dc_ok oX3_performSaved rfl) ?_
    rw [q6, bz_01 hr01]
    have nxt : ∀ (I2 : aI), Mch I2 lim e2 env (base + rs.length) → MapR I2 base rs (j + 1) (savedM F e) → Keep I I2 base → Frm I I2 →
        Ex mX3_performSaved d 0 0 Q 206 [some (vS 3), v1, some (vI (nI base)), some (vI (mE.s e)), some (vI (mE.l e)), some (vI 0), some (vI (nI (base + j)))] [] g I2 L := by
      intro I2 m1 m2 m3 m4
      refine Ex_wx [117] 9 oX3_performSaved hC.1 ?_
      show Ex mX3_performSaved d 0 0 _ 117 [some (vS 3), v1, some (vI (nI base)), some (vI (mE.s e)), some (vI (mE.l e)), some (vI 0), some (vI (nI (base + j) + 1))] [] g I2 L
      rw [nI_1, show base + j + 1 = base + (j + 1) by omega]
      exact ih (j + 1) I2 (by omega) (by omega) m1 m2 m3 m4
    refine Ex_wx [141, 206] 9 oX3_performSaved hC.1 ?_
    refine And.intro (fun c => ?_) (fun c => ?_)
    · refine nxt I1 hM (hR.step hrj ?_ (fun k hk => rfl)) hK hF
      rw [hat]
      unfold savedM
      rw [if_pos c]
    · have at203 : ∀ (s' l' : Int32) (I2 : aI), I2 = up2 I1 7 (base + j) s' → s' = (if F.2.2.2.1 = true then mE.s e else rs[j].2.2.1) → l' = (if F.2.2.2.2 = true then mE.l e else rs[j].2.2.2) →
          Ex mX3_performSaved d 0 0 Q 203 [some (vS 3), v1, some (vI (nI base)), some (vI (mE.s e)), some (vI (mE.l e)), some (vI 0), some (vI (nI (base + j)))] [vI l', vI (nI (base + j)), vS 4] g I2 L := by
        intro s' l' I2 hI2 hs' hl'
        have hM2 : Mch I2 lim e2 env (base + rs.length) := by rw [hI2]; exact hM.setR (by omega)
        refine Ex_v (As := [vI (nI (base + j)), vI l']) (st := []) (d' := 1) vX3_230 rfl rfl (e5_setLog hC.1 hM2.2.2.2.2.2.2.2.2.2.2 (by omega) (by omega) (by omega)) h4 (by omega) rfl (dc_ok oX3_performSaved rfl) ?_
        refine nxt _ (hM2.setR (by omega)) (hR.step hrj ?_ (fun k hk => by rw [set8_res, if_neg hk, hI2, set7_res, if_neg hk])) (hK.trans (fun k hk => by rw [set8_res, if_neg (by omega), hI2, set7_res, if_neg (by omega)])) ?_
        · rw [set8_res, if_pos rfl, hI2]
          unfold savedM
          rw [if_neg c, ← hs', ← hl']
          rw [up2_i (by omega), up2_i (by omega), up2_s, q5, q6]
        · rw [hI2]; exact hF.trans ((setR_frm (by omega)).trans (setR_frm (by omega)))
      have at170 : ∀ (s' : Int32), s' = (if F.2.2.2.1 = true then mE.s e else rs[j].2.2.1) →
          Ex mX3_performSaved d 0 0 Q 170 [some (vS 3), v1, some (vI (nI base)), some (vI (mE.s e)), some (vI (mE.l e)), some (vI 0), some (vI (nI (base + j)))] [vI s', vI (nI (base + j)), vS 4] g I1 L := by
        intro s' hs'
        refine Ex_v (As := [vI (nI (base + j)), vI s']) (st := []) (d' := 1) vX3_228 rfl rfl (e5_setState hC.1 htop (by omega) (by omega) (by omega)) h4 (by omega) rfl (dc_ok oX3_performSaved rfl) ?_
        refine Ex_wx [189, 194, 203] 9 oX3_performSaved hC.1 ?_
        refine And.intro hC.2.1 ?_
        have hl : up2 I1 7 (base + j) s' ly 7 = bI F.2.2.2.2 := by rw [up2_i (by have := hC.2.2; omega)]; exact hLay1.2.2.2.2
        rcases bI_cases F.2.2.2.2 with ⟨hb1, hb2⟩ | ⟨hb1, hb2⟩
        · refine And.intro (fun c2 => absurd (hl ▸ c2) hb2) (fun _ => ?_)
          refine Ex_wx [203] 9 oX3_performSaved hC.1 ?_
          exact at203 s' _ _ rfl hs' (by rw [if_pos hb1])
        · refine And.intro (fun _ => ?_) (fun c2 => absurd (hl.trans hb2) c2)
          refine Ex_wx [] 9 oX3_performSaved hC.1 ?_
          have htop2 : up2 I1 7 (base + j) s' 4 4 = nI (base + rs.length) := by rw [up2_i (by omega)]; exact htop
          refine Ex_v (As := [vI (nI (base + j))]) (st := [vI (nI (base + j)), vS 4]) (d' := 1) vX3_139 rfl rfl (e5_logOf hC.1 htop2 (by omega) (by omega) (by omega)) h4 (by omega) rfl (dc_ok oX3_performSaved rfl) ?_
          refine at203 s' _ _ rfl hs' ?_
          rw [if_neg (by rw [hb1]; decide), up2_i (by omega)]
          exact q8
      refine Ex_wx [157, 161, 170] 9 oX3_performSaved hC.1 ?_
      refine And.intro hC.2.1 ?_
      have hl := hLay1.2.2.2.1
      rcases bI_cases F.2.2.2.1 with ⟨hb1, hb2⟩ | ⟨hb1, hb2⟩
      · refine And.intro (fun c2 => absurd (hl ▸ c2) hb2) (fun _ => ?_)
        refine Ex_wx [170] 9 oX3_performSaved hC.1 ?_
        exact at170 _ (by rw [if_pos hb1])
      · refine And.intro (fun _ => ?_) (fun c2 => absurd (hl.trans hb2) c2)
        refine Ex_wx [] 9 oX3_performSaved hC.1 ?_
        refine Ex_v (As := [vI (nI (base + j))]) (st := [vI (nI (base + j)), vS 4]) (d' := 1) vX3_133 rfl rfl (e5_stateOf hC.1 htop (by omega) (by omega) (by omega)) h4 (by omega) rfl (dc_ok oX3_performSaved rfl) ?_
        refine at170 _ ?_
        rw [if_neg (by rw [hb1]; decide)]
        exact q7
theorem e3_saved (hC : Cm lx ly g) (hP : pfC lx ly g τ B hg cnt F lim f) (ht : t < cnt) (hnm : I (τ t) 3 = nm) (ha : a < cnt) (hha : hg a ≤ f) (hA : g.2.2 (τ t) 4 = some (τ a)) (hb : b < cnt) (hhb : hg b ≤ f) (hB : g.2.2 (τ t) 5 = some (τ b)) (hT : Tb g I τ B hg cnt) (hL : Lay I ly F) (hM : Mch I lim e env base) (hi : invE lim e) (hlim : lim ≤ 2000) (hbs : base + 100 * (f + 1) ≤ 3100) :
    Mx mX3_performSaved (4 * f + 7) 0 0 [vS 3, vD (some (τ t))] g I L (pfQ (savedF F e (ev F B lim f a env e) (ev F B lim f b) nm env) g I L lim env base) := by
  have h3 := (hC.1 3 _ rfl).2.1
  have h4 := (hC.1 4 _ rfl).2.1
  have hq := (hT t ht).2.1
  have h13 := (hT t ht).1
  refine Mx_in (by decide +kernel) rfl rfl (Ex_wx [] 9 oX3_performSaved hC.1 ?_)
  refine Ex_v (As := []) (st := []) (d' := 0) vX3_52 rfl rfl (e5_size hC.1) h4 (by omega) rfl (dc_ok oX3_performSaved rfl) ?_
  rw [hM.2.2.2.2.2.2.2.2.2.2]
  refine Ex_wx [] 9 oX3_performSaved hC.1 ?_
  refine And.intro hq ?_
  have hx := hP a env e base I L ha hha hT hL hM hi (by omega)
  refine Ex_cV (kc := 0) (ks := 0) (kc' := 0) (ks' := 0) (As := [vD (g.2.2 (τ t) 4)]) (st := []) vX3_48 rfl rfl h3 (by rw [hA]; exact hx) (by omega) rfl (dc_ok oX3_performSaved rfl) ?_ (fun E g' I' L' hq => absurd hq pfQ_no)
  rw [hM.2.2.1, hM.2.2.2.1]
  rintro w g I1 L ⟨rfl, rfl, hf, ho⟩
  have hok := ev_ok (F := F) (B := B) f a env e hi
  unfold savedF
  rcases ho with ⟨h1, h2, hm, hrw, hkp⟩ | ⟨h1, h2, ⟨top, ht1, ht2, hm⟩, hkp⟩ | ⟨h1, h2, h5⟩
  · cases h2
    rw [if_neg (by rw [h1]; decide), if_neg (fun q => q h1)]
    have h50 := (hok.2.2 h1).1
    refine Ex_wx [106] 9 oX3_performSaved hC.1 ?_
    refine And.intro (fun c => absurd c (by decide)) (fun _ => ?_)
    refine Ex_wx [114] 9 oX3_performSaved hC.1 ?_
    refine And.intro (fun _ => ?_) (fun c => absurd rfl c)
    refine Ex_bn 2 oX3_performSaved hC.1 ?_
    refine e3_savedL (e := e) hC hL (hok.2.2 h1).2 (by omega) (by omega) ?_ _ 0 _ rfl (Nat.zero_le _) hm (MapR.zero hrw) hkp hf
    intro I2 m1 m2 m3 m4
    refine Ex_wx [] 9 oX3_performSaved hC.1 ?_
    refine And.intro hq (And.intro hq ?_)
    have hre : errR ((ev F B lim f a env e).2.1.map (savedM F e)) := by
      intro r hr
      obtain ⟨r', hr', rfl⟩ := List.mem_map.mp hr
      have := (hok.2.2 h1).2 r' hr'
      unfold savedM
      split <;> exact this
    have hE := e3_each (L := L) (oe := 1) (nm := nm) (I := I2) hC hP hb hhb (hT.frm m4) (hL.frm m4 hC.2.2) (by rw [List.length_map]; exact h50) hre hbs hlim (by rw [List.length_map]; exact m1) m2 hok.2.1
    refine Ex_cV (kc := 0) (ks := 0) (kc' := 0) (ks' := 0) (As := [vI (nI base), vI 1, vI (I2 (τ t) 3), vD (g.2.2 (τ t) 5)]) (st := []) vX3_220 rfl rfl h3 (by rw [m4 (τ t) (Or.inr h13), hnm, hB]; exact hE) (by omega) rfl (dc_ok oX3_performSaved rfl) ?_ (fun E g' I' L' hq => absurd hq pfQ_no)
    rintro w g I3 L ⟨rfl, rfl, hf2, ho2⟩
    obtain ⟨y, rfl⟩ := out_val ho2
    refine Ex_wx [] 9 oX3_performSaved hC.1 ?_
    exact ⟨rfl, rfl, m4.trans hf2, ho2.pre m3⟩
  · cases h2
    rw [if_pos h1]
    refine Ex_wx [106] 9 oX3_performSaved hC.1 ?_
    refine And.intro (fun _ => ?_) (fun c => absurd rfl c)
    refine Ex_v (As := [vI (nI base)]) (st := []) (d' := 0) vX3_75 rfl rfl (e5_cutTo hC.1 hm.2.2.2.2.2.2.2.2.2.2 ht2 ht1) h4 (by omega) rfl (dc_ok oX3_performSaved rfl) ?_
    have hm2 : Mch (up2 I1 4 4 (nI base)) lim (ev F B lim f a env e).2.2 env base := hm.cut
    have hf2 : Frm I (up2 I1 4 4 (nI base)) := hf.trans (fun i hi => cut_else (by omega))
    have hk2 : Keep I (up2 I1 4 4 (nI base)) base := hkp.trans (fun k hk => cut_res)
    generalize up2 I1 4 4 (nI base) = I2 at hm2 hf2 hk2 ⊢
    have hLay : Lay I2 ly F := hL.frm hf2 hC.2.2
    have at86 : ∀ (s' l' : Int32), s' = (if F.2.2.2.1 = true then mE.s e else mE.s (ev F B lim f a env e).2.2) → l' = (if F.2.2.2.2 = true then mE.l e else mE.l (ev F B lim f a env e).2.2) →
        Ex mX3_performSaved (4 * f + 7) 0 0 (pfQ (ev F B lim f b (upE env nm (mE.en (ev F B lim f a env e).2.2)) (setSL (ev F B lim f a env e).2.2 (if F.2.2.2.1 = true then mE.s e else mE.s (ev F B lim f a env e).2.2) (if F.2.2.2.2 = true then mE.l e else mE.l (ev F B lim f a env e).2.2))) g I L lim env base) 86 [some (vS 3), some (vD (some (τ t))), some (vI (nI base)), some (vI (mE.s e)), some (vI (mE.l e)), some (vI (-2)), none] [vI l', vS 3] g (up2 I2 3 4 s') L := by
      intro s' l' hs' hl'
      rw [← hs', ← hl']
      refine Ex_wx [] 9 oX3_performSaved hC.1 ?_
      refine And.intro hq (And.intro hq ?_)
      have hm3 := hm2.sl (s' := s') (l' := l')
      have hf3 : Frm I (up2 (up2 I2 3 4 s') 3 5 l') := hf2.trans (fun i hi => by funext k; rw [up2_i (by omega), up2_i (by omega)])
      have hN := e3_naming (L := L) (nm := nm) (v := mE.en (ev F B lim f a env e).2.2) (I := up2 (up2 I2 3 4 s') 3 5 l') hC hP hb hhb (hT.frm hf3) (hL.frm hf3 hC.2.2) hm3 (setSL_inv hok.2.1) (by omega)
      refine Ex_cV (kc := 0) (ks := 0) (kc' := 0) (ks' := 0) (As := [vI (up2 (up2 I2 3 4 s') 3 5 l' (τ t) 3), vI (up2 (up2 I2 3 4 s') 3 5 l' 3 8), vD (g.2.2 (τ t) 5)]) (st := []) vX3_224 rfl rfl h3 (by rw [hf3 (τ t) (Or.inr h13), hnm, hB, hm3.2.2.2.2.1]; exact hN) (by omega) rfl (dc_ok oX3_performSaved rfl) ?_ (fun E g' I' L' hq => absurd hq pfQ_no)
      rintro w g I3 L ⟨rfl, rfl, hf4, ho2⟩
      obtain ⟨y, rfl⟩ := out_val ho2
      refine Ex_wx [] 9 oX3_performSaved hC.1 ?_
      exact ⟨rfl, rfl, hf3.trans hf4, ho2.pre (hk2.trans (fun k hk => by simp [resAt, up2]))⟩
    have at63 : ∀ (s' : Int32), s' = (if F.2.2.2.1 = true then mE.s e else mE.s (ev F B lim f a env e).2.2) →
        Ex mX3_performSaved (4 * f + 7) 0 0 (pfQ (ev F B lim f b (upE env nm (mE.en (ev F B lim f a env e).2.2)) (setSL (ev F B lim f a env e).2.2 (if F.2.2.2.1 = true then mE.s e else mE.s (ev F B lim f a env e).2.2) (if F.2.2.2.2 = true then mE.l e else mE.l (ev F B lim f a env e).2.2))) g I L lim env base) 63 [some (vS 3), some (vD (some (τ t))), some (vI (nI base)), some (vI (mE.s e)), some (vI (mE.l e)), some (vI (-2)), none] [vI s', vS 3] g I2 L := by
      intro s' hs'
      refine Ex_wx [77, 82, 86] 9 oX3_performSaved hC.1 ?_
      refine And.intro hC.2.1 ?_
      have hl : up2 I2 3 4 s' ly 7 = bI F.2.2.2.2 := by rw [up2_i (by have := hC.2.2; omega)]; exact hLay.2.2.2.2
      rcases bI_cases F.2.2.2.2 with ⟨hb1, hb2⟩ | ⟨hb1, hb2⟩
      · refine And.intro (fun c2 => absurd (hl ▸ c2) hb2) (fun _ => ?_)
        refine Ex_wx [86] 9 oX3_performSaved hC.1 ?_
        exact at86 s' _ hs' (by rw [if_pos hb1])
      · refine And.intro (fun _ => ?_) (fun c2 => absurd (hl.trans hb2) c2)
        refine Ex_bn 2 oX3_performSaved hC.1 ?_
        refine at86 s' _ hs' ?_
        rw [if_neg (by rw [hb1]; decide), up2_k (by omega)]
        exact hm2.2.2.2.1
    refine Ex_wx [55, 59, 63] 9 oX3_performSaved hC.1 ?_
    refine And.intro hC.2.1 ?_
    have hl := hLay.2.2.2.1
    rcases bI_cases F.2.2.2.1 with ⟨hb1, hb2⟩ | ⟨hb1, hb2⟩
    · refine And.intro (fun c2 => absurd (hl ▸ c2) hb2) (fun _ => ?_)
      refine Ex_wx [63] 9 oX3_performSaved hC.1 ?_
      exact at63 _ (by rw [if_pos hb1])
    · refine And.intro (fun _ => ?_) (fun c2 => absurd (hl.trans hb2) c2)
      refine Ex_bn 2 oX3_performSaved hC.1 ?_
      refine at63 _ ?_
      rw [if_neg (by rw [hb1]; decide)]
      exact hm2.2.2.1
  · cases h2
    rw [if_neg (by rw [h1]; decide), if_pos (by rw [h1]; decide)]
    refine Ex_wx [106] 9 oX3_performSaved hC.1 ?_
    refine And.intro (fun c => absurd c (by decide)) (fun _ => ?_)
    refine Ex_wx [] 9 oX3_performSaved hC.1 ?_
    refine And.intro (fun c => absurd c (by decide)) (fun _ => ?_)
    exact ⟨rfl, rfl, hf, Or.inr (Or.inr ⟨h1, rfl, h5⟩)⟩
end Acts4
end
section
/-! TIMES, OF, and perform itself -/
theorem clamp_ok (x : Int32) : (if (0 : Int32) < (if x < 8 then x else 8) then (if x < 8 then x else 8) else 0) = nI (clampF x) ∧ clampF x ≤ 8 := by
  unfold clampF
  by_cases h0 : x < 0
  · have h8 : x < 8 := Int32.lt_trans h0 (by decide)
    rw [if_pos h8, if_pos h0, if_neg (fun h => Int32.lt_irrefl (Int32.lt_trans h0 h))]
    exact ⟨rfl, by omega⟩
  · rw [if_neg h0]
    by_cases h8 : 8 < x
    · rw [if_pos h8, if_neg (fun h => Int32.lt_irrefl (Int32.lt_trans h8 h)), if_pos (by decide)]
      exact ⟨rfl, by omega⟩
    · rw [if_neg h8]
      obtain ⟨j, hj, rfl⟩ := nI_of2 (M := 8) (n := 8) (by decide) h0 (Int32.not_lt.mp h8)
      rw [clN (by omega)]
      refine ⟨?_, hj⟩
      by_cases hj8 : j = 8
      · subst hj8; rfl
      · rw [if_pos (show nI j < 8 from nI_lt (a := j) (b := 8) (by omega) (by omega))]
        by_cases hj0 : j = 0
        · subst hj0; rfl
        · rw [if_pos (show (0 : Int32) < nI j from nI_lt (a := 0) (by omega) (by omega))]
section Perf2
variable {lx ly : Nat} {g : aG} {τ : Nat → Nat} {B : mB} {hg : Nat → Nat} {cnt : Nat} {F : mF} {lim f : Nat}
variable {t a b : Nat} {env : Nat → Int32} {e : mE} {base d : Nat} {I : aI} {L : aL} {x nm : Int32}
theorem e3_timesL {n : Nat} (hn8 : n ≤ 8) (hC : Cm lx ly g) (hP : pfC lx ly g τ B hg cnt F lim f) (ht : t < cnt) (ha : a < cnt) (hha : hg a ≤ f) (hA : g.2.2 (τ t) 4 = some (τ a)) (hT : Tb g I τ B hg cnt) (hL : Lay I ly F) (hlim : lim ≤ 2000) (hbs : base + 100 * (f + 1) ≤ 3100) :
    ∀ (m i : Nat) (rs : List mR) (e1 : mE) (I1 : aI), n - i = m → i ≤ n → Mch I1 lim e1 env (base + rs.length) → Rows I1 base rs → Keep I I1 base → Frm I I1 → invE lim e1 → errR rs → rs.length ≤ 50 →
    Ex mX3_performTimes (4 * f + 7) 0 0 (pfQ (timesF F (ev F B lim f a) env m rs e1) g I L lim env base) 33 [some (vS 3), some (vD (some (τ t))), some (vI (nI base)), some (vI (nI n)), some (vI 0), some (vI (nI i))] [] g I1 L := by
  have h3 := (hC.1 3 _ rfl).2.1
  have hq := (hT t ht).2.1
  intro m
  induction m with
  | zero =>
    intro i rs e1 I1 hm hi hM hR hK hF hin hre h50
    have : i = n := by omega
    subst this
    refine Ex_wx [] 9 oX3_performTimes hC.1 ?_
    refine And.intro (fun _ => ?_) (fun c => absurd (Int32.le_refl _) c)
    exact ⟨rfl, rfl, hF, Or.inl ⟨rfl, rfl, hM, hR, hK⟩⟩
  | succ m ih =>
    intro i rs e1 I1 hm hi hM hR hK hF hin hre h50
    refine Ex_wx [] 9 oX3_performTimes hC.1 ?_
    refine And.intro (fun c => absurd (leN c (by omega) (by omega)) (by omega)) (fun _ => ?_)
    refine And.intro (fun _ => ?_) (fun c => absurd rfl c)
    refine And.intro hq ?_
    have hE := e3_each (L := L) (oe := 0) (nm := -1) (I := I1) hC hP ha hha (hT.frm hF) (hL.frm hF hC.2.2) h50 hre hbs hlim hM hR hin
    refine Ex_cV (kc := 0) (ks := 0) (kc' := 0) (ks' := 0) (As := [vI (nI base), vI 0, vI (-1), vD (g.2.2 (τ t) 4)]) (st := []) vX3_220 rfl rfl h3 (by rw [hA]; exact hE) (by omega) rfl (dc_ok oX3_performTimes rfl) ?_ (fun E g' I' L' hq => absurd hq pfQ_no)
    rintro w g I2 L ⟨rfl, rfl, hf, ho⟩
    have hok := each_ok (F := F) (oe := 0) (nm := -1) (env := env) (fun env e h => ev_ok (F := F) (B := B) (lim := lim) f a env e h) rs [] e1 hin hre (fun x hx => by cases hx) (by simp)
    simp only [timesF]
    rcases out_split ho with ⟨h1, h2, hm2, hrw, hkp⟩ | ⟨h1, x, h2, hx0, hst⟩
    · cases h2
      rw [if_neg (fun q => q h1)]
      refine Ex_wx [33] 9 oX3_performTimes hC.1 ?_
      show Ex mX3_performTimes (4 * f + 7) 0 0 _ 33 [some (vS 3), some (vD (some (τ t))), some (vI (nI base)), some (vI (nI n)), some (vI 0), some (vI (nI i + 1))] [] g I2 L
      rw [nI_1]
      exact ih (i + 1) _ _ I2 (by omega) (by omega) hm2 hrw (hK.trans hkp) (hF.trans hf) hok.2.1 (hok.2.2 h1).2 (hok.2.2 h1).1
    · cases h2
      rw [if_pos h1]
      have hend := hst I base (Nat.le_refl _) hK
      refine Ex_wx [33] 9 oX3_performTimes hC.1 ?_
      refine Ex_wx [] 9 oX3_performTimes hC.1 ?_
      refine And.intro (fun _ => ?_) (fun _ => ?_)
      · exact ⟨rfl, rfl, hF.trans hf, hend⟩
      · refine And.intro (fun c => absurd c hx0) (fun _ => ?_)
        exact ⟨rfl, rfl, hF.trans hf, hend⟩
theorem e3_times (hC : Cm lx ly g) (hP : pfC lx ly g τ B hg cnt F lim f) (ht : t < cnt) (ha : a < cnt) (hha : hg a ≤ f) (hA : g.2.2 (τ t) 4 = some (τ a)) (hT : Tb g I τ B hg cnt) (hL : Lay I ly F) (hM : Mch I lim e env base) (hi : invE lim e) (hlim : lim ≤ 2000) (hbs : base + 100 * (f + 1) ≤ 3100) :
    Mx mX3_performTimes (4 * f + 7) 0 0 [vS 3, vD (some (τ t))] g I L (pfQ (timesF F (ev F B lim f a) env (clampF (opF env (I (τ t) 1) (I (τ t) 2))) [(0, 0, mE.s e, mE.l e)] e) g I L lim env base) := by
  have h3 := (hC.1 3 _ rfl).2.1
  have h4 := (hC.1 4 _ rfl).2.1
  have hq := (hT t ht).2.1
  refine Mx_in (by decide +kernel) rfl rfl (Ex_wx [] 9 oX3_performTimes hC.1 ?_)
  refine Ex_v (As := []) (st := []) (d' := 0) vX3_52 rfl rfl (e5_size hC.1) h4 (by omega) rfl (dc_ok oX3_performTimes rfl) ?_
  rw [hM.2.2.2.2.2.2.2.2.2.2]
  refine Ex_wx [] 9 oX3_performTimes hC.1 ?_
  refine Ex_v (As := [vD (some (τ t))]) (st := [vI 8, vI 0]) (d' := 1) vX3_147 rfl rfl (e3_operandOf hC hM.2.2.2.2.2.2.2.2.2.1 hq (by omega)) h3 (by omega) rfl (dc_ok oX3_performTimes rfl) ?_
  refine Ex_s (As := [vI 8, vI (opF env (I (τ t) 1) (I (τ t) 2))]) (st := [vI 0]) (d' := 0) sX3_232 rfl rfl (e_min hC.1) (by omega) rfl (dc_ok oX3_performTimes rfl) ?_
  refine Ex_s (As := [vI 0, vI (if opF env (I (τ t) 1) (I (τ t) 2) < 8 then opF env (I (τ t) 1) (I (τ t) 2) else 8)]) (st := []) (d' := 0) sX3_237 rfl rfl (e_max hC.1) (by omega) rfl (dc_ok oX3_performTimes rfl) ?_
  obtain ⟨hcl, hc8⟩ := clamp_ok (opF env (I (τ t) 1) (I (τ t) 2))
  rw [hcl]
  refine Ex_wx [] 9 oX3_performTimes hC.1 ?_
  refine Ex_v (As := [vI 0]) (st := []) (d' := 1) vX3_150 rfl rfl (e3_answer hC hM (by omega) (by omega)) h3 (by omega) rfl (dc_ok oX3_performTimes rfl) ?_
  refine Ex_bn 3 oX3_performTimes hC.1 ?_
  exact e3_timesL hc8 hC hP ht ha hha hA hT hL hlim hbs _ 0 _ e _ rfl (Nat.zero_le _) hM.push push_rows push_keep push_frm hi (fun r hr => by rw [List.mem_singleton.mp hr]; exact Or.inl rfl) (by simp)
theorem e3_reckon {k : Nat} {p q : Int32} (hC : Cm lx ly g) (h1 : 14 ≤ k) (h2 : k ≤ 18) : Mx mX3_reckon d 0 0 [vI (nI k), vI p, vI q] g I L (qV (some (vI (rkF k p q))) g I L) := by
  refine Mx_in (by decide +kernel) rfl rfl (Ex_bn 1 oX3_reckon hC.1 ?_)
  have hk : k = 14 ∨ k = 15 ∨ k = 16 ∨ k = 17 ∨ k = 18 := by omega
  rcases hk with rfl | rfl | rfl | rfl | rfl
  · refine Ex_tableIn (tgt := 32) (off := 31) (dc_ok oX3_reckon rfl) (by decide) (by decide) (by decide) (by decide) ?_
    refine Ex_wx [] 9 oX3_reckon hC.1 ?_
    exact ⟨rfl, rfl, rfl, rfl⟩
  · refine Ex_tableIn (tgt := 36) (off := 35) (dc_ok oX3_reckon rfl) (by decide) (by decide) (by decide) (by decide) ?_
    refine Ex_wx [] 9 oX3_reckon hC.1 ?_
    exact ⟨rfl, rfl, rfl, rfl⟩
  · refine Ex_tableIn (tgt := 40) (off := 39) (dc_ok oX3_reckon rfl) (by decide) (by decide) (by decide) (by decide) ?_
    refine Ex_wx [] 9 oX3_reckon hC.1 ?_
    exact ⟨rfl, rfl, rfl, rfl⟩
  · refine Ex_tableIn (tgt := 44) (off := 43) (dc_ok oX3_reckon rfl) (by decide) (by decide) (by decide) (by decide) ?_
    refine Ex_wx [] 9 oX3_reckon hC.1 ?_
    refine And.intro (fun c => ?_) (fun c => ?_)
    · exact ⟨by show _ = (Sum.inl (some (vI (if p < q then 1 else 0))) : aO); rw [if_neg (Int32.not_lt.mpr c)], rfl, rfl, rfl⟩
    · exact ⟨by show _ = (Sum.inl (some (vI (if p < q then 1 else 0))) : aO); rw [if_pos (Int32.not_le.mp c)], rfl, rfl, rfl⟩
  · refine Ex_tableOut (tgt := 55) (dc_ok oX3_reckon rfl) (by decide) (by decide) ?_
    refine Ex_wx [] 9 oX3_reckon hC.1 ?_
    refine And.intro (fun c => ?_) (fun c => ?_)
    · exact ⟨by show _ = (Sum.inl (some (vI (if p = q then 1 else 0))) : aO); rw [if_pos c], rfl, rfl, rfl⟩
    · exact ⟨by show _ = (Sum.inl (some (vI (if p = q then 1 else 0))) : aO); rw [if_neg c], rfl, rfl, rfl⟩
end Perf2
end
section
/-! perform -/
theorem pfQ.lift {q : mO} {g g' : aG} {I I1 I' : aI} {L L' : aL} {lim : Nat} {env : Nat → Int32} {base : Nat} {v : aO} (h : pfQ q g I1 L lim env base v g' I' L') (hf : Frm I I1) (hk : Keep I I1 base) : pfQ q g I L lim env base v g' I' L' := ⟨h.1, h.2.1, hf.trans h.2.2.1, h.2.2.2.pre hk⟩
theorem pfQ.val {q : mO} {g g' : aG} {I I' : aI} {L L' : aL} {lim : Nat} {env : Nat → Int32} {base : Nat} {v : Option aV} (h : pfQ q g I L lim env base (.inl v) g' I' L') : ∃ x, v = some (vI x) := out_val h.2.2.2
section Perf3
variable {lx ly : Nat} {g : aG} {τ : Nat → Nat} {B : mB} {hg : Nat → Nat} {cnt : Nat} {F : mF} {lim : Nat}
theorem e3_perform (hC : Cm lx ly g) (hlim : lim ≤ 2000) : ∀ f, pfC lx ly g τ B hg cnt F lim f := by
  have h3 := (hC.1 3 _ rfl).2.1
  intro f
  induction f with
  | zero =>
    intro t env e base I L ht hh hT
    have := (hT t ht).2.2.2.1
    omega
  | succ f ih =>
    intro t env e base I L ht hh hT hL hM hi hb
    obtain ⟨h13, hq, ⟨hk0, hk18, hk1, hk2, hk3⟩, hh1, hA, hB⟩ := id (hT t ht)
    refine Mx_in (by decide +kernel) rfl rfl (Ex_wx [15, 18] 9 oX3_perform hC.1 ?_)
    refine And.intro (fun c => ?_) (fun c => ?_)
    · have hsp : mE.sp e < lim := by
        rw [hM.1, hM.2.1] at c
        exact ltN c (by have := hi.2.2; omega) (by omega)
      have hns : ¬ lim ≤ mE.sp e := by omega
      refine Ex_bn 8 oX3_perform hC.1 ?_
      refine And.intro hq ?_
      show Ex mX3_perform (4 * (f + 1) + 4) 0 0 (pfQ (ev F B lim (f + 1) t env e) g I L lim env base) 32 [some (vS 3), some (vD (some (τ t)))] [vI (up2 I 3 7 (I 3 7 + 1) (τ t) 0)] g (up2 I 3 7 (I 3 7 + 1)) L
      have hM1 : Mch (up2 I 3 7 (I 3 7 + 1)) lim ((mE.sp e + 1, e.2) : mE) env base := by
        obtain ⟨h1, h2, h3, h4, h5, h6, h7, h8, h9, h10, h11⟩ := hM
        have q : ∀ i, i ≠ 3 → up2 I 3 7 (I 3 7 + 1) i = I i := fun i hi => by funext k; exact up2_i hi
        exact ⟨by rw [up2_s, h1]; exact nI_1 _, by rw [up2_k (by omega)]; exact h2, by rw [up2_k (by omega)]; exact h3, by rw [up2_k (by omega)]; exact h4, by rw [up2_k (by omega)]; exact h5, by rw [q 9 (by omega)]; exact h6, by rw [q 10 (by omega)]; exact h7, by rw [q 11 (by omega)]; exact h8, by rw [q 12 (by omega)]; exact h9, fun k hk => by rw [q 13 (by omega)]; exact h10 k hk, by rw [q 4 (by omega)]; exact h11⟩
      have hF1 : Frm I (up2 I 3 7 (I 3 7 + 1)) := fun i hi => by funext k; exact up2_i (by omega)
      have hK1 : Keep I (up2 I 3 7 (I 3 7 + 1)) base := fun k hk => by simp [resAt, up2]
      have hi1 : invE lim ((mE.sp e + 1, e.2) : mE) := ⟨hi.1, by have := hi.2.1; show mE.us e ≤ mE.sp e + 1 + 1; omega, by show mE.sp e + 1 ≤ lim; omega⟩
      have hsu : mE.us ((mE.sp e + 1, e.2) : mE) ≤ mE.sp ((mE.sp e + 1, e.2) : mE) := hi.2.1
      generalize up2 I 3 7 (I 3 7 + 1) = I1 at hM1 hF1 hK1 ⊢
      have hT1 := hT.frm hF1
      have hL1 := hL.frm hF1 hC.2.2
      have hE1 := hM1.2.2.2.2.2.2.2.2.2.1
      have k0 : I1 (τ t) 0 = nI (B t).1 := by rw [hF1 (τ t) (Or.inr h13)]; exact hk0
      have k1 : I1 (τ t) 1 = (B t).2.1 := by rw [hF1 (τ t) (Or.inr h13)]; exact hk1
      have k2 : I1 (τ t) 2 = (B t).2.2.1 := by rw [hF1 (τ t) (Or.inr h13)]; exact hk2
      have k3 : I1 (τ t) 3 = (B t).2.2.2.1 := by rw [hF1 (τ t) (Or.inr h13)]; exact hk3
      rw [k0]
      obtain ⟨k, hk⟩ : ∃ k, (B t).1 = k := ⟨_, rfl⟩
      rw [hk] at hk18 hA hB ⊢
      have hcs : k = 0 ∨ k = 1 ∨ k = 2 ∨ k = 3 ∨ k = 4 ∨ k = 5 ∨ k = 6 ∨ k = 7 ∨ k = 8 ∨ k = 9 ∨ k = 10 ∨ k = 11 ∨ k = 12 ∨ k = 13 ∨ (14 ≤ k ∧ k ≤ 18) := by omega
      rcases hcs with rfl | rfl | rfl | rfl | rfl | rfl | rfl | rfl | rfl | rfl | rfl | rfl | rfl | rfl | ⟨hka, hkb⟩
      · have hev : ev F B lim (f + 1) t env e = ansF (opF env (B t).2.1 (B t).2.2.1) ((mE.sp e + 1, e.2) : mE) := by
          simp only [ev]
          rw [if_neg hns, hk]
          rfl
        rw [hev]
        refine Ex_tableIn (tgt := 104) (off := 72) (dc_ok oX3_perform rfl) (by decide) (by decide) (by decide) (by decide) ?_
        refine Ex_wx [] 9 oX3_perform hC.1 ?_
        refine Ex_v (As := [vD (some (τ t))]) (st := [vS 3]) (d' := 1) vX3_147 rfl rfl (e3_operandOf hC hE1 hq (by omega)) h3 (by omega) rfl (dc_ok oX3_perform rfl) ?_
        rw [k1, k2]
        refine Ex_v (As := [vI (opF env (B t).2.1 (B t).2.2.1)]) (st := []) (d' := 1) vX3_150 rfl rfl (e3_answer hC hM1 (by omega) (by omega)) h3 (by omega) rfl (dc_ok oX3_perform rfl) ?_
        refine Ex_wx [] 9 oX3_perform hC.1 ?_
        exact ⟨rfl, rfl, hF1.trans push_frm, Or.inl ⟨rfl, rfl, hM1.push, push_rows, hK1.trans push_keep⟩⟩
      · have hev : ev F B lim (f + 1) t env e = ansF (mE.s ((mE.sp e + 1, e.2) : mE)) ((mE.sp e + 1, e.2) : mE) := by
          simp only [ev]
          rw [if_neg hns, hk]
          rfl
        rw [hev]
        refine Ex_tableIn (tgt := 114) (off := 82) (dc_ok oX3_perform rfl) (by decide) (by decide) (by decide) (by decide) ?_
        refine Ex_wx [] 9 oX3_perform hC.1 ?_
        refine Ex_v (As := [vI (I1 3 4)]) (st := []) (d' := 1) vX3_150 rfl rfl (e3_answer hC hM1 (by omega) (by omega)) h3 (by omega) rfl (dc_ok oX3_perform rfl) ?_
        rw [hM1.2.2.1]
        refine Ex_wx [] 9 oX3_perform hC.1 ?_
        exact ⟨rfl, rfl, hF1.trans push_frm, Or.inl ⟨rfl, rfl, hM1.push, push_rows, hK1.trans push_keep⟩⟩
      · have hev : ev F B lim (f + 1) t env e = ansF (mE.s ((mE.sp e + 1, e.2) : mE)) (setSL ((mE.sp e + 1, e.2) : mE) (opF env (B t).2.1 (B t).2.2.1) (mE.l ((mE.sp e + 1, e.2) : mE))) := by
          simp only [ev]
          rw [if_neg hns, hk]
          rfl
        rw [hev]
        refine Ex_tableIn (tgt := 123) (off := 91) (dc_ok oX3_perform rfl) (by decide) (by decide) (by decide) (by decide) ?_
        refine Ex_wx [] 9 oX3_perform hC.1 ?_
        refine Ex_v (As := [vD (some (τ t))]) (st := [vS 3]) (d' := 1) vX3_147 rfl rfl (e3_operandOf hC hE1 hq (by omega)) h3 (by omega) rfl (dc_ok oX3_perform rfl) ?_
        rw [k1, k2]
        refine Ex_cV (kc := 0) (ks := 0) (kc' := 0) (ks' := 0) (As := [vI (opF env (B t).2.1 (B t).2.2.1)]) (st := []) vX3_152 rfl rfl h3 (e3_write (d := 2) hC hM1 (by omega) (by omega)) (by omega) rfl (dc_ok oX3_perform rfl) ?_ (fun E g' I' L' hq => absurd hq pfQ_no)
        intro w g2 I2 L2 h2
        obtain ⟨y, rfl⟩ := h2.val
        refine Ex_wx [] 9 oX3_perform (by rw [h2.1]; exact hC.1) ?_
        exact h2.lift hF1 hK1
      · have hev : ev F B lim (f + 1) t env e = if 60 < lenF ((mE.sp e + 1, e.2) : mE) (mE.l ((mE.sp e + 1, e.2) : mE)) + 1 then (2, [], ((mE.sp e + 1, e.2) : mE)) else ansF (opF env (B t).2.1 (B t).2.2.1) (sayF ((mE.sp e + 1, e.2) : mE) (opF env (B t).2.1 (B t).2.2.1)) := by
          simp only [ev]
          rw [if_neg hns, hk]
          rfl
        rw [hev]
        refine Ex_tableIn (tgt := 133) (off := 101) (dc_ok oX3_perform rfl) (by decide) (by decide) (by decide) (by decide) ?_
        refine Ex_wx [] 9 oX3_perform hC.1 ?_
        refine Ex_v (As := [vD (some (τ t))]) (st := [vS 3]) (d' := 1) vX3_147 rfl rfl (e3_operandOf hC hE1 hq (by omega)) h3 (by omega) rfl (dc_ok oX3_perform rfl) ?_
        rw [k1, k2]
        refine Ex_cV (kc := 0) (ks := 0) (kc' := 0) (ks' := 0) (As := [vI (opF env (B t).2.1 (B t).2.2.1)]) (st := []) vX3_155 rfl rfl h3 (e3_say (d := 3) hC hM1 hi1 hsu hlim (by omega) (by omega)) (by omega) rfl (dc_ok oX3_perform rfl) ?_ (fun E g' I' L' hq => absurd hq pfQ_no)
        intro w g2 I2 L2 h2
        obtain ⟨y, rfl⟩ := h2.val
        refine Ex_wx [] 9 oX3_perform (by rw [h2.1]; exact hC.1) ?_
        exact h2.lift hF1 hK1
      · have hev : ev F B lim (f + 1) t env e = if F.2.2.1 = true then (0, [(opF env (B t).2.1 (B t).2.2.1, 1, mE.s ((mE.sp e + 1, e.2) : mE), mE.l ((mE.sp e + 1, e.2) : mE))], ((mE.sp e + 1, e.2) : mE)) else (1, [], (mE.sp ((mE.sp e + 1, e.2) : mE), mE.us ((mE.sp e + 1, e.2) : mE), mE.nu ((mE.sp e + 1, e.2) : mE), mE.be ((mE.sp e + 1, e.2) : mE), mE.le ((mE.sp e + 1, e.2) : mE), mE.s ((mE.sp e + 1, e.2) : mE), mE.l ((mE.sp e + 1, e.2) : mE), opF env (B t).2.1 (B t).2.2.1)) := by
          simp only [ev]
          rw [if_neg hns, hk]
          rfl
        rw [hev]
        refine Ex_tableIn (tgt := 143) (off := 111) (dc_ok oX3_perform rfl) (by decide) (by decide) (by decide) (by decide) ?_
        refine Ex_wx [] 9 oX3_perform hC.1 ?_
        refine Ex_v (As := [vD (some (τ t))]) (st := [vS 3]) (d' := 1) vX3_147 rfl rfl (e3_operandOf hC hE1 hq (by omega)) h3 (by omega) rfl (dc_ok oX3_perform rfl) ?_
        rw [k1, k2]
        refine Ex_cV (kc := 0) (ks := 0) (kc' := 0) (ks' := 0) (As := [vI (opF env (B t).2.1 (B t).2.2.1)]) (st := []) vX3_158 rfl rfl h3 (e3_fail (d := 1) hC hL1 hM1 (by omega) (by omega)) (by omega) rfl (dc_ok oX3_perform rfl) ?_ (fun E g' I' L' hq => absurd hq pfQ_no)
        intro w g2 I2 L2 h2
        obtain ⟨y, rfl⟩ := h2.val
        refine Ex_wx [] 9 oX3_perform (by rw [h2.1]; exact hC.1) ?_
        exact h2.lift hF1 hK1
      · have hev : ev F B lim (f + 1) t env e = (0, [], ((mE.sp e + 1, e.2) : mE)) := by
          simp only [ev]
          rw [if_neg hns, hk]
          rfl
        rw [hev]
        refine Ex_tableIn (tgt := 153) (off := 121) (dc_ok oX3_perform rfl) (by decide) (by decide) (by decide) (by decide) ?_
        refine Ex_wx [] 9 oX3_perform hC.1 ?_
        exact ⟨rfl, rfl, hF1, Or.inl ⟨rfl, rfl, hM1, fun j r h => by simp at h, hK1⟩⟩
      · have hev : ev F B lim (f + 1) t env e = eitherF F ((mE.sp e + 1, e.2) : mE) (ev F B lim f (B t).2.2.2.2.1 env ((mE.sp e + 1, e.2) : mE)) (ev F B lim f (B t).2.2.2.2.2 env) := by
          simp only [ev]
          rw [if_neg hns, hk]
          rfl
        rw [hev]
        refine Ex_tableIn (tgt := 155) (off := 123) (dc_ok oX3_perform rfl) (by decide) (by decide) (by decide) (by decide) ?_
        obtain ⟨ha1, ha2, ha3⟩ := hA (by decide) (by decide)
        obtain ⟨hb1, hb2, hb3⟩ := hB (by decide) (by decide)
        refine Ex_wx [] 9 oX3_perform hC.1 ?_
        refine Ex_cV (kc := 0) (ks := 0) (kc' := 0) (ks' := 0) (As := [vD (some (τ t))]) (st := []) vX3_161 rfl rfl h3 (e3_either hC ih hq ha1 (by omega) ha3 hb1 (by omega) hb3 hT1 hL1 hM1 hi1 (by omega)) (by omega) rfl (dc_ok oX3_perform rfl) ?_ (fun E g' I' L' hq => absurd hq pfQ_no)
        intro w g2 I2 L2 h2
        obtain ⟨y, rfl⟩ := h2.val
        refine Ex_wx [] 9 oX3_perform (by rw [h2.1]; exact hC.1) ?_
        exact h2.lift hF1 hK1
      · have hev : ev F B lim (f + 1) t env e = if (ev F B lim f (B t).2.2.2.2.1 env ((mE.sp e + 1, e.2) : mE)).1 ≠ 0 then ((ev F B lim f (B t).2.2.2.2.1 env ((mE.sp e + 1, e.2) : mE)).1, [], (ev F B lim f (B t).2.2.2.2.1 env ((mE.sp e + 1, e.2) : mE)).2.2) else eachF F (ev F B lim f (B t).2.2.2.2.2) 0 (B t).2.2.2.1 env (ev F B lim f (B t).2.2.2.2.1 env ((mE.sp e + 1, e.2) : mE)).2.1 [] (ev F B lim f (B t).2.2.2.2.1 env ((mE.sp e + 1, e.2) : mE)).2.2 := by
          simp only [ev]
          rw [if_neg hns, hk]
          rfl
        rw [hev]
        refine Ex_tableIn (tgt := 161) (off := 129) (dc_ok oX3_perform rfl) (by decide) (by decide) (by decide) (by decide) ?_
        obtain ⟨ha1, ha2, ha3⟩ := hA (by decide) (by decide)
        obtain ⟨hb1, hb2, hb3⟩ := hB (by decide) (by decide)
        refine Ex_wx [] 9 oX3_perform hC.1 ?_
        refine Ex_cV (kc := 0) (ks := 0) (kc' := 0) (ks' := 0) (As := [vD (some (τ t))]) (st := []) vX3_164 rfl rfl h3 (e3_then hC ih ht k3 ha1 (by omega) ha3 hb1 (by omega) hb3 hT1 hL1 hM1 hi1 hlim (by omega)) (by omega) rfl (dc_ok oX3_perform rfl) ?_ (fun E g' I' L' hq => absurd hq pfQ_no)
        intro w g2 I2 L2 h2
        obtain ⟨y, rfl⟩ := h2.val
        refine Ex_wx [] 9 oX3_perform (by rw [h2.1]; exact hC.1) ?_
        exact h2.lift hF1 hK1
      · have hev : ev F B lim (f + 1) t env e = savedF F ((mE.sp e + 1, e.2) : mE) (ev F B lim f (B t).2.2.2.2.1 env ((mE.sp e + 1, e.2) : mE)) (ev F B lim f (B t).2.2.2.2.2) (B t).2.2.2.1 env := by
          simp only [ev]
          rw [if_neg hns, hk]
          rfl
        rw [hev]
        refine Ex_tableIn (tgt := 167) (off := 135) (dc_ok oX3_perform rfl) (by decide) (by decide) (by decide) (by decide) ?_
        obtain ⟨ha1, ha2, ha3⟩ := hA (by decide) (by decide)
        obtain ⟨hb1, hb2, hb3⟩ := hB (by decide) (by decide)
        refine Ex_wx [] 9 oX3_perform hC.1 ?_
        refine Ex_cV (kc := 0) (ks := 0) (kc' := 0) (ks' := 0) (As := [vD (some (τ t))]) (st := []) vX3_167 rfl rfl h3 (e3_saved hC ih ht k3 ha1 (by omega) ha3 hb1 (by omega) hb3 hT1 hL1 hM1 hi1 hlim (by omega)) (by omega) rfl (dc_ok oX3_perform rfl) ?_ (fun E g' I' L' hq => absurd hq pfQ_no)
        intro w g2 I2 L2 h2
        obtain ⟨y, rfl⟩ := h2.val
        refine Ex_wx [] 9 oX3_perform (by rw [h2.1]; exact hC.1) ?_
        exact h2.lift hF1 hK1
      · have hev : ev F B lim (f + 1) t env e = ev F B lim f (if nmF env (B t).2.2.2.1 = 0 then (B t).2.2.2.2.2 else (B t).2.2.2.2.1) env ((mE.sp e + 1, e.2) : mE) := by
          simp only [ev]
          rw [if_neg hns, hk]
          rfl
        rw [hev]
        refine Ex_tableIn (tgt := 173) (off := 141) (dc_ok oX3_perform rfl) (by decide) (by decide) (by decide) (by decide) ?_
        obtain ⟨ha1, ha2, ha3⟩ := hA (by decide) (by decide)
        obtain ⟨hb1, hb2, hb3⟩ := hB (by decide) (by decide)
        refine Ex_wx [] 9 oX3_perform hC.1 ?_
        refine And.intro hq ?_
        rw [k3]
        refine Ex_v (As := [vI (B t).2.2.2.1]) (st := [vS 3]) (d' := 0) vX3_173 rfl rfl (e3_numberOf hC hE1) h3 (by omega) rfl (dc_ok oX3_perform rfl) ?_
        have fin : ∀ (r : Option Nat) (c : Nat), r = some (τ c) → c < cnt → hg c ≤ f → c = (if nmF env (B t).2.2.2.1 = 0 then (B t).2.2.2.2.2 else (B t).2.2.2.2.1) → Ex mX3_perform (4 * (f + 1) + 4) 0 0 (pfQ (ev F B lim f (if nmF env (B t).2.2.2.1 = 0 then (B t).2.2.2.2.2 else (B t).2.2.2.2.1) env ((mE.sp e + 1, e.2) : mE)) g I L lim env base) 196 [some (vS 3), some (vD (some (τ t)))] [vD r, vS 3] g I1 L := by
          intro r c hr hc hhc hce
          rw [← hce]
          subst hr
          refine Ex_cV (kc := 0) (ks := 0) (kc' := 0) (ks' := 0) (As := [vD (some (τ c))]) (st := []) vX3_48 rfl rfl h3 (ih c env _ base I1 L hc hhc hT1 hL1 hM1 hi1 (by omega)) (by omega) rfl (dc_ok oX3_perform rfl) ?_ (fun E g' I' L' hq => absurd hq pfQ_no)
          intro w g2 I2 L2 h2
          obtain ⟨y, rfl⟩ := h2.val
          refine Ex_wx [] 9 oX3_perform (by rw [h2.1]; exact hC.1) ?_
          exact h2.lift hF1 hK1
        refine Ex_wx [185, 192, 196] 9 oX3_perform hC.1 ?_
        refine And.intro (fun c => ?_) (fun c => ?_)
        · refine Ex_bn 2 oX3_perform hC.1 ?_
          refine And.intro hq ?_
          exact fin _ _ hb3 hb1 (by omega) (by rw [if_pos c])
        · refine Ex_wx [196] 9 oX3_perform hC.1 ?_
          refine And.intro hq ?_
          exact fin _ _ ha3 ha1 (by omega) (by rw [if_neg c])
      · have hev : ev F B lim (f + 1) t env e = timesF F (ev F B lim f (B t).2.2.2.2.1) env (clampF (opF env (B t).2.1 (B t).2.2.1)) [(0, 0, mE.s ((mE.sp e + 1, e.2) : mE), mE.l ((mE.sp e + 1, e.2) : mE))] ((mE.sp e + 1, e.2) : mE) := by
          simp only [ev]
          rw [if_neg hns, hk]
          rfl
        rw [hev]
        refine Ex_tableIn (tgt := 200) (off := 168) (dc_ok oX3_perform rfl) (by decide) (by decide) (by decide) (by decide) ?_
        obtain ⟨ha1, ha2, ha3⟩ := hA (by decide) (by decide)
        have hX := e3_times (L := L) hC ih ht ha1 (by omega) ha3 hT1 hL1 hM1 hi1 hlim (by omega)
        rw [k1, k2] at hX
        refine Ex_wx [] 9 oX3_perform hC.1 ?_
        refine Ex_cV (kc := 0) (ks := 0) (kc' := 0) (ks' := 0) (As := [vD (some (τ t))]) (st := []) vX3_181 rfl rfl h3 (hX) (by omega) rfl (dc_ok oX3_perform rfl) ?_ (fun E g' I' L' hq => absurd hq pfQ_no)
        intro w g2 I2 L2 h2
        obtain ⟨y, rfl⟩ := h2.val
        refine Ex_wx [] 9 oX3_perform (by rw [h2.1]; exact hC.1) ?_
        exact h2.lift hF1 hK1
      · have hev : ev F B lim (f + 1) t env e = if (ev F B lim f (B t).2.2.2.2.1 env ((mE.sp e + 1, e.2) : mE)).1 ≠ 0 then ((ev F B lim f (B t).2.2.2.2.1 env ((mE.sp e + 1, e.2) : mE)).1, [], (ev F B lim f (B t).2.2.2.2.1 env ((mE.sp e + 1, e.2) : mE)).2.2) else (0, (ev F B lim f (B t).2.2.2.2.1 env ((mE.sp e + 1, e.2) : mE)).2.1.take 1, (ev F B lim f (B t).2.2.2.2.1 env ((mE.sp e + 1, e.2) : mE)).2.2) := by
          simp only [ev]
          rw [if_neg hns, hk]
          rfl
        rw [hev]
        refine Ex_tableIn (tgt := 206) (off := 174) (dc_ok oX3_perform rfl) (by decide) (by decide) (by decide) (by decide) ?_
        obtain ⟨ha1, ha2, ha3⟩ := hA (by decide) (by decide)
        refine Ex_wx [] 9 oX3_perform hC.1 ?_
        refine Ex_cV (kc := 0) (ks := 0) (kc' := 0) (ks' := 0) (As := [vD (some (τ t))]) (st := []) vX3_184 rfl rfl h3 (e3_once hC ih ht ha1 (by omega) ha3 hT1 hL1 hM1 hi1 (by omega)) (by omega) rfl (dc_ok oX3_perform rfl) ?_ (fun E g' I' L' hq => absurd hq pfQ_no)
        intro w g2 I2 L2 h2
        obtain ⟨y, rfl⟩ := h2.val
        refine Ex_wx [] 9 oX3_perform (by rw [h2.1]; exact hC.1) ?_
        exact h2.lift hF1 hK1
      · have hev : ev F B lim (f + 1) t env e = if (ev F B lim f (B t).2.2.2.2.1 env ((mE.sp e + 1, e.2) : mE)).1 ≠ 0 then ((ev F B lim f (B t).2.2.2.2.1 env ((mE.sp e + 1, e.2) : mE)).1, [], (ev F B lim f (B t).2.2.2.2.1 env ((mE.sp e + 1, e.2) : mE)).2.2) else (0, (ev F B lim f (B t).2.2.2.2.1 env ((mE.sp e + 1, e.2) : mE)).2.1.map (heardM F (lenF ((mE.sp e + 1, e.2) : mE) (mE.l ((mE.sp e + 1, e.2) : mE))) (ev F B lim f (B t).2.2.2.2.1 env ((mE.sp e + 1, e.2) : mE)).2.2), (ev F B lim f (B t).2.2.2.2.1 env ((mE.sp e + 1, e.2) : mE)).2.2) := by
          simp only [ev]
          rw [if_neg hns, hk]
          rfl
        rw [hev]
        refine Ex_tableIn (tgt := 212) (off := 180) (dc_ok oX3_perform rfl) (by decide) (by decide) (by decide) (by decide) ?_
        obtain ⟨ha1, ha2, ha3⟩ := hA (by decide) (by decide)
        refine Ex_wx [] 9 oX3_perform hC.1 ?_
        refine Ex_cV (kc := 0) (ks := 0) (kc' := 0) (ks' := 0) (As := [vD (some (τ t))]) (st := []) vX3_187 rfl rfl h3 (e3_heard hC ih ht ha1 (by omega) ha3 hT1 hL1 hM1 hi1 hlim (by omega)) (by omega) rfl (dc_ok oX3_perform rfl) ?_ (fun E g' I' L' hq => absurd hq pfQ_no)
        intro w g2 I2 L2 h2
        obtain ⟨y, rfl⟩ := h2.val
        refine Ex_wx [] 9 oX3_perform (by rw [h2.1]; exact hC.1) ?_
        exact h2.lift hF1 hK1
      · have hev : ev F B lim (f + 1) t env e = if (ev F B lim f (B t).2.2.2.2.1 env ((mE.sp e + 1, e.2) : mE)).1 ≠ 0 then ((ev F B lim f (B t).2.2.2.2.1 env ((mE.sp e + 1, e.2) : mE)).1, [], (ev F B lim f (B t).2.2.2.2.1 env ((mE.sp e + 1, e.2) : mE)).2.2) else (0, (ev F B lim f (B t).2.2.2.2.1 env ((mE.sp e + 1, e.2) : mE)).2.1.map (hiddenM (mE.l ((mE.sp e + 1, e.2) : mE))), setSL (ev F B lim f (B t).2.2.2.2.1 env ((mE.sp e + 1, e.2) : mE)).2.2 (mE.s (ev F B lim f (B t).2.2.2.2.1 env ((mE.sp e + 1, e.2) : mE)).2.2) (mE.l ((mE.sp e + 1, e.2) : mE))) := by
          simp only [ev]
          rw [if_neg hns, hk]
          rfl
        rw [hev]
        refine Ex_tableIn (tgt := 218) (off := 186) (dc_ok oX3_perform rfl) (by decide) (by decide) (by decide) (by decide) ?_
        obtain ⟨ha1, ha2, ha3⟩ := hA (by decide) (by decide)
        refine Ex_wx [] 9 oX3_perform hC.1 ?_
        refine Ex_cV (kc := 0) (ks := 0) (kc' := 0) (ks' := 0) (As := [vD (some (τ t))]) (st := []) vX3_190 rfl rfl h3 (e3_hidden hC ih ht ha1 (by omega) ha3 hT1 hL1 hM1 hi1 (by omega)) (by omega) rfl (dc_ok oX3_perform rfl) ?_ (fun E g' I' L' hq => absurd hq pfQ_no)
        intro w g2 I2 L2 h2
        obtain ⟨y, rfl⟩ := h2.val
        refine Ex_wx [] 9 oX3_perform (by rw [h2.1]; exact hC.1) ?_
        exact h2.lift hF1 hK1
      · have hev : ev F B lim (f + 1) t env e = ansF (rkF k (opF env (B t).2.1 (B t).2.2.1) (nmF env (B t).2.2.2.1)) ((mE.sp e + 1, e.2) : mE) := by
          simp only [ev]
          rw [if_neg hns, hk]
          have h14 : k = 14 ∨ k = 15 ∨ k = 16 ∨ k = 17 ∨ k = 18 := by omega
          rcases h14 with rfl | rfl | rfl | rfl | rfl <;> rfl
        rw [hev]
        refine Ex_tableOut (tgt := 224) (dc_ok oX3_perform rfl) (Or.inr (by rw [nI_toInt (by omega)]; omega)) (by decide) ?_
        refine Ex_wx [] 9 oX3_perform hC.1 ?_
        refine And.intro hq ?_
        rw [k0, hk]
        refine Ex_v (As := [vD (some (τ t))]) (st := [vI (nI k), vS 3]) (d' := 1) vX3_147 rfl rfl (e3_operandOf hC hE1 hq (by omega)) h3 (by omega) rfl (dc_ok oX3_perform rfl) ?_
        rw [k1, k2]
        refine Ex_wx [] 9 oX3_perform hC.1 ?_
        refine And.intro hq ?_
        rw [k3]
        refine Ex_v (As := [vI (B t).2.2.2.1]) (st := [vI (opF env (B t).2.1 (B t).2.2.1), vI (nI k), vS 3]) (d' := 0) vX3_173 rfl rfl (e3_numberOf hC hE1) h3 (by omega) rfl (dc_ok oX3_perform rfl) ?_
        refine Ex_s (As := [vI (nI k), vI (opF env (B t).2.1 (B t).2.2.1), vI (nmF env (B t).2.2.2.1)]) (st := [vS 3]) (d' := 0) sX3_193 rfl rfl (e3_reckon hC hka hkb) (by omega) rfl (dc_ok oX3_perform rfl) ?_
        refine Ex_v (As := [vI (rkF k (opF env (B t).2.1 (B t).2.2.1) (nmF env (B t).2.2.2.1))]) (st := []) (d' := 1) vX3_150 rfl rfl (e3_answer hC hM1 (by omega) (by omega)) h3 (by omega) rfl (dc_ok oX3_perform rfl) ?_
        refine Ex_wx [] 9 oX3_perform hC.1 ?_
        exact ⟨rfl, rfl, hF1.trans push_frm, Or.inl ⟨rfl, rfl, hM1.push, push_rows, hK1.trans push_keep⟩⟩
    · have hns : lim ≤ mE.sp e := by
        rw [hM.1, hM.2.1] at c
        rcases Nat.lt_or_ge (mE.sp e) lim with h | h
        · exact absurd (nI_lt h (by omega)) c
        · exact h
      have hev : ev F B lim (f + 1) t env e = (2, [], e) := by
        simp only [ev]
        rw [if_pos hns]
      rw [hev]
      refine Ex_wx [] 9 oX3_perform hC.1 ?_
      exact ⟨rfl, rfl, Frm.refl, Or.inr (Or.inr ⟨rfl, rfl, base, by omega, hM.2.2.2.2.2.2.2.2.2.2⟩)⟩
end Perf3
end
section
/-! the evaluator's LOGs -/
theorem nI_mul (a b : Nat) : nI a * nI b = nI (a * b) := (Int32.ofNat_mul a b).symm
def inL (us : Nat) (l : Int32) : Prop := ∃ j, j < us ∧ l = nI j
def invL (e : mE) : Prop := (∀ k, 1 ≤ k → k < e.us → (∃ j, j < k ∧ e.be k = nI j) ∧ ∃ n, n ≤ 60 ∧ e.le k = nI n) ∧ inL e.us e.l
def grow (e e' : mE) : Prop := e.us ≤ e'.us ∧ ∀ k, k < e.us → e'.nu k = e.nu k ∧ e'.be k = e.be k ∧ e'.le k = e.le k
def rowL (us : Nat) (rs : List mR) : Prop := ∀ r ∈ rs, inL us r.2.2.2
def okL (e : mE) (q : mO) : Prop := invL q.2.2 ∧ grow e q.2.2 ∧ rowL q.2.2.us q.2.1
def lgG (lim : Nat) (go : (Nat → Int32) → mE → mO) : Prop := ∀ env e, invE lim e → invL e → okL e (go env e)
theorem inL.mono {us us' : Nat} {l : Int32} (h : inL us l) (hu : us ≤ us') : inL us' l := by
  obtain ⟨j, hj, rfl⟩ := h
  exact ⟨j, by omega, rfl⟩
theorem rowL.mono {us us' : Nat} {rs : List mR} (h : rowL us rs) (hu : us ≤ us') : rowL us' rs := fun r hr => (h r hr).mono hu
theorem rowL.nil {us : Nat} : rowL us [] := fun r hr => by cases hr
theorem rowL.app {us : Nat} {a b : List mR} (ha : rowL us a) (hb : rowL us b) : rowL us (a ++ b) := fun r hr => (List.mem_append.mp hr).elim (ha r) (hb r)
theorem grow.refl {e : mE} : grow e e := ⟨Nat.le_refl _, fun _ _ => ⟨rfl, rfl, rfl⟩⟩
theorem grow.trans {e e1 e2 : mE} (h : grow e e1) (h' : grow e1 e2) : grow e e2 := ⟨Nat.le_trans h.1 h'.1, fun k hk => by
  have a := h.2 k hk
  have b := h'.2 k (Nat.lt_of_lt_of_le hk h.1)
  exact ⟨b.1.trans a.1, b.2.1.trans a.2.1, b.2.2.trans a.2.2⟩⟩
theorem own2_invL {F : mF} {e : mE} {s l : Int32} (h : invL e) (hl : inL e.us l) : invL (own2 F e s l) := by
  refine ⟨h.1, ?_⟩
  show inL e.us (if F.2.1 = true then l else e.l)
  split
  · exact hl
  · exact h.2
theorem setSL_invL {e : mE} {s l : Int32} (h : invL e) (hl : inL e.us l) : invL (setSL e s l) := ⟨h.1, hl⟩
theorem ans_okL {e : mE} {x : Int32} (h : invL e) : okL e (ansF x e) := ⟨h, grow.refl, fun r hr => by
  simp only [ansF, List.mem_singleton] at hr
  rw [hr]; exact h.2⟩
theorem lenF_ok {e : mE} {l : Int32} (h : invL e) (hu : e.us ≤ 2001) (hl : inL e.us l) : ∃ n, n ≤ 60 ∧ lenF e l = nI n := by
  unfold lenF gtL
  split
  · rename_i c
    obtain ⟨j, hj, rfl⟩ := hl
    rw [clN (by omega)]
    refine (h.1 j ?_ hj).2
    by_cases h0 : j = 0
    · subst h0; exact absurd c.1 (by decide)
    · omega
  · exact ⟨0, by omega, rfl⟩
theorem each_log {lim : Nat} {F : mF} {go : (Nat → Int32) → mE → mO} {oe nm : Int32} {env : Nat → Int32} (hg : lgG lim go) (hk : okG lim go) : ∀ (rs acc : List mR) (e : mE), invE lim e → errR rs → invL e → rowL e.us rs → rowL e.us acc → okL e (eachF F go oe nm env rs acc e) := by
  intro rs
  induction rs with
  | nil => intro acc e h1 h0 h2 h3 h4; exact ⟨h2, grow.refl, h4⟩
  | cons r rs ih =>
    intro acc e h1 h0 h2 h3 h4
    simp only [eachF]
    generalize hq : (if r.2.1 = oe then go (upE env nm r.1) (own2 F e r.2.2.1 r.2.2.2) else (0, [r], e) : mO) = q
    have hr := h3 r List.mem_cons_self
    have hqo : okL e q ∧ okO lim q := by
      rw [← hq]
      split
      · exact ⟨hg _ _ (own2_inv h1) (own2_invL h2 hr), hk _ _ (own2_inv h1)⟩
      · exact ⟨⟨h2, grow.refl, fun x hx => by rw [List.mem_singleton.mp hx]; exact hr⟩, Nat.zero_le _, h1, fun _ => ⟨by simp, fun x hx => by rw [List.mem_singleton.mp hx]; exact h0 r List.mem_cons_self⟩⟩
    split
    · exact ⟨hqo.1.1, hqo.1.2.1, rowL.nil⟩
    · split
      · exact ⟨hqo.1.1, hqo.1.2.1, rowL.nil⟩
      · have h9 := ih (acc ++ q.2.1) q.2.2 hqo.2.2.1 (fun x hx => h0 x (List.mem_cons_of_mem _ hx)) hqo.1.1 (fun x hx => (h3 x (List.mem_cons_of_mem _ hx)).mono hqo.1.2.1.1) ((h4.mono hqo.1.2.1.1).app hqo.1.2.2)
        exact ⟨h9.1, hqo.1.2.1.trans h9.2.1, h9.2.2⟩
theorem times_log {lim : Nat} {F : mF} {go : (Nat → Int32) → mE → mO} {env : Nat → Int32} (hg : lgG lim go) (hk : okG lim go) : ∀ (n : Nat) (rs : List mR) (e : mE), invE lim e → errR rs → invL e → rowL e.us rs → okL e (timesF F go env n rs e) := by
  intro n
  induction n with
  | zero => intro rs e h1 h0 h2 h3; exact ⟨h2, grow.refl, h3⟩
  | succ n ih =>
    intro rs e h1 h0 h2 h3
    simp only [timesF]
    have hq := each_log (F := F) (oe := 0) (nm := -1) (env := env) hg hk rs [] e h1 h0 h2 h3 rowL.nil
    have hq2 := each_ok (F := F) (oe := 0) (nm := -1) (env := env) hk rs [] e h1 h0 (fun x hx => by cases hx) (by simp)
    split
    · exact ⟨hq.1, hq.2.1, rowL.nil⟩
    · rename_i hne
      have hz := Decidable.not_not.mp hne
      have h9 := ih _ _ hq2.2.1 (hq2.2.2 hz).2 hq.1 hq.2.2
      exact ⟨h9.1, hq.2.1.trans h9.2.1, h9.2.2⟩
theorem ev_log {F : mF} {B : mB} {lim : Nat} (hlim : lim ≤ 2000) : ∀ (f t : Nat) (env : Nat → Int32) (e : mE), invE lim e → invL e → okL e (ev F B lim f t env e) := by
  intro f
  induction f with
  | zero => intro t env e h hl; exact ⟨hl, grow.refl, rowL.nil⟩
  | succ f ih =>
    intro t env e0 h0 hl0
    simp only [ev]
    split
    · exact ⟨hl0, grow.refl, rowL.nil⟩
    · rename_i hsp
      have hge : grow e0 ((e0.sp + 1, e0.2) : mE) := ⟨Nat.le_refl _, fun _ _ => ⟨rfl, rfl, rfl⟩⟩
      have hl : invL ((e0.sp + 1, e0.2) : mE) := hl0
      generalize he : ((e0.sp + 1, e0.2) : mE) = e at hge hl
      have h : invE lim e := by
        rw [← he]
        obtain ⟨h1, h2, h3⟩ := h0
        exact ⟨h1, by show e0.us ≤ e0.sp + 1 + 1; omega, by show e0.sp + 1 ≤ lim; omega⟩
      have hsu : mE.us e ≤ mE.sp e := by
        rw [← he]; exact h0.2.1
      have hu : mE.us e ≤ 2001 := by have := h.2.2; omega
      have hk : ∀ t, okG lim (ev F B lim f t) := fun t env e h => ev_ok f t env e h
      have hgo : ∀ t, lgG lim (ev F B lim f t) := fun t env e h hl => ih t env e h hl
      suffices hX : ∀ q : mO, okL e q → okL e0 q by
        apply hX
        have hne : ∀ (q : mO), okL e q → okL e (q.1, [], q.2.2) := fun q hq => ⟨hq.1, hq.2.1, rowL.nil⟩
        split
        · exact ans_okL hl
        · exact ans_okL hl
        · exact ans_okL (e := setSL e _ _) (setSL_invL hl hl.2)
        · split
          · exact ⟨hl, grow.refl, rowL.nil⟩
          · rename_i c
            obtain ⟨n, hn, hle⟩ := lenF_ok hl hu hl.2
            have hn2 : n + 1 ≤ 60 := by
              rw [hle, nI_1] at c
              rcases Nat.lt_or_ge 60 (n + 1) with h9 | h9
              · exact absurd (nI_lt (a := 60) h9 (by omega)) c
              · exact h9
            have hiv : invL (sayF e (opF env (B t).2.1 (B t).2.2.1)) := by
              refine ⟨?_, ⟨mE.us e, by show mE.us e < mE.us e + 1; omega, rfl⟩⟩
              intro k hk1 hk2
              show (∃ j, j < k ∧ up1 (mE.be e) (mE.us e) (mE.l e) k = nI j) ∧ ∃ n, n ≤ 60 ∧ up1 (mE.le e) (mE.us e) (lenF e (mE.l e) + 1) k = nI n
              unfold up1
              by_cases hku : k = mE.us e
              · rw [if_pos hku, if_pos hku]
                obtain ⟨j, hj, hj2⟩ := hl.2
                exact ⟨⟨j, by omega, hj2⟩, n + 1, hn2, by rw [hle, nI_1]⟩
              · rw [if_neg hku, if_neg hku]
                have hk3 : k < mE.us e + 1 := hk2
                exact hl.1 k hk1 (by omega)
            have ha := ans_okL (x := opF env (B t).2.1 (B t).2.2.1) hiv
            refine ⟨ha.1, ⟨by show mE.us e ≤ mE.us e + 1; omega, fun k hk => ?_⟩, ha.2.2⟩
            show up1 (mE.nu e) (mE.us e) _ k = _ ∧ up1 (mE.be e) (mE.us e) _ k = _ ∧ up1 (mE.le e) (mE.us e) _ k = _
            unfold up1
            rw [if_neg (by omega), if_neg (by omega), if_neg (by omega)]
            exact ⟨rfl, rfl, rfl⟩
        · split
          · exact ⟨hl, grow.refl, fun r hr => by rw [List.mem_singleton.mp hr]; exact hl.2⟩
          · exact ⟨hl, grow.refl, rowL.nil⟩
        · exact ⟨hl, grow.refl, rowL.nil⟩
        · unfold eitherF
          have ha := ih (B t).2.2.2.2.1 env e h hl
          have ha2 := ev_ok (F := F) (B := B) f (B t).2.2.2.2.1 env e h
          split
          · exact hne _ ha
          · have hb := ih (B t).2.2.2.2.2 env _ (own2_inv (F := F) (s := mE.s e) (l := mE.l e) ha2.2.1) (own2_invL ha.1 (hl.2.mono ha.2.1.1))
            simp only
            split
            · exact ⟨hb.1, ha.2.1.trans hb.2.1, rowL.nil⟩
            · split
              · exact ⟨hb.1, ha.2.1.trans hb.2.1, rowL.nil⟩
              · exact ⟨hb.1, ha.2.1.trans hb.2.1, (ha.2.2.mono hb.2.1.1).app hb.2.2⟩
        · have ha := ih (B t).2.2.2.2.1 env e h hl
          have ha2 := ev_ok (F := F) (B := B) f (B t).2.2.2.2.1 env e h
          split
          · exact hne _ ha
          · rename_i hn
            have hz := Decidable.not_not.mp hn
            have h9 := each_log (F := F) (oe := 0) (nm := (B t).2.2.2.1) (env := env) (hgo (B t).2.2.2.2.2) (hk _) _ [] _ ha2.2.1 (ha2.2.2 hz).2 ha.1 ha.2.2 rowL.nil
            exact ⟨h9.1, ha.2.1.trans h9.2.1, h9.2.2⟩
        · unfold savedF
          have ha := ih (B t).2.2.2.2.1 env e h hl
          have ha2 := ev_ok (F := F) (B := B) f (B t).2.2.2.2.1 env e h
          split
          · have h9 := ih (B t).2.2.2.2.2 (upE env (B t).2.2.2.1 (ev F B lim f (B t).2.2.2.2.1 env e).2.2.en) (setSL (ev F B lim f (B t).2.2.2.2.1 env e).2.2 (if F.2.2.2.1 = true then mE.s e else mE.s (ev F B lim f (B t).2.2.2.2.1 env e).2.2) (if F.2.2.2.2 = true then mE.l e else mE.l (ev F B lim f (B t).2.2.2.2.1 env e).2.2)) (setSL_inv ha2.2.1) (setSL_invL ha.1 (by split; exact hl.2.mono ha.2.1.1; exact ha.1.2))
            exact ⟨h9.1, ha.2.1.trans h9.2.1, h9.2.2⟩
          · split
            · exact hne _ ha
            · rename_i hn
              have hz := Decidable.not_not.mp hn
              have h9 := each_log (F := F) (oe := 1) (nm := (B t).2.2.2.1) (env := env) (hgo (B t).2.2.2.2.2) (hk _) ((ev F B lim f (B t).2.2.2.2.1 env e).2.1.map (savedM F e)) [] _ ha2.2.1 (by
                intro r hr
                obtain ⟨r', hr', rfl⟩ := List.mem_map.mp hr
                have := (ha2.2.2 hz).2 r' hr'
                unfold savedM
                split <;> exact this) ha.1 (by
                intro r hr
                obtain ⟨r', hr', rfl⟩ := List.mem_map.mp hr
                have := ha.2.2 r' hr'
                unfold savedM
                split
                · exact this
                · show inL _ (if F.2.2.2.2 = true then mE.l e else r'.2.2.2)
                  split
                  · exact hl.2.mono ha.2.1.1
                  · exact this) rowL.nil
              exact ⟨h9.1, ha.2.1.trans h9.2.1, h9.2.2⟩
        · exact ih _ _ _ h hl
        · exact times_log (hgo _) (hk _) _ _ _ h (fun r hr => by rw [List.mem_singleton.mp hr]; exact Or.inl rfl) hl (fun r hr => by rw [List.mem_singleton.mp hr]; exact hl.2)
        · have ha := ih (B t).2.2.2.2.1 env e h hl
          split
          · exact hne _ ha
          · exact ⟨ha.1, ha.2.1, fun r hr => ha.2.2 r (List.mem_of_mem_take hr)⟩
        · have ha := ih (B t).2.2.2.2.1 env e h hl
          split
          · exact hne _ ha
          · refine ⟨ha.1, ha.2.1, fun r hr => ?_⟩
            obtain ⟨r', hr', rfl⟩ := List.mem_map.mp hr
            have h9 := ha.2.2 r' hr'
            have h8 : (heardM F (lenF e (mE.l e)) (ev F B lim f (B t).2.2.2.2.1 env e).2.2 r').2.2.2 = r'.2.2.2 := by
              unfold heardM
              by_cases c : r'.2.1 = 0
              · rw [if_pos c]
              · rw [if_neg c]
            rw [h8]
            exact h9
        · have ha := ih (B t).2.2.2.2.1 env e h hl
          split
          · exact hne _ ha
          · refine ⟨setSL_invL ha.1 (hl.2.mono ha.2.1.1), ha.2.1, fun r hr => ?_⟩
            obtain ⟨r', hr', rfl⟩ := List.mem_map.mp hr
            exact hl.2.mono ha.2.1.1
        · exact ans_okL hl
      intro q hq
      exact ⟨hq.1, hge.trans hq.2.1, hq.2.2⟩
end
section
/-! the reference: what it asks of the layers, and its small methods -/
def hsF (p : Nat → Int32) (l : Nat) : Bool := decide (p l ≠ -1)
def owF (p : Nat → Int32) (l : Nat) : Bool := hsF p l && (!hsF p 3 || decide (p l < p 3))
def shF (p : Nat → Int32) (l : Nat) : Bool := hsF p l && !owF p l
def ouF (p : Nat → Int32) (l : Nat) : Bool := hsF p l && (hsF p 2 && decide (p l < p 2))
def flF (p : Nat → Int32) : mF := (owF p 0, owF p 1, owF p 2, ouF p 0, ouF p 1)
/-- it returns nothing; then P of the heap -/
def rQ (g : aG) (L : aL) (P : aI → Prop) : aQ := fun o g' I' L' => o = .inl none ∧ g' = g ∧ L' = L ∧ P I'
theorem rQ_no {g g' : aG} {I' : aI} {L L' : aL} {P : aI → Prop} {E : String} : ¬ rQ g L P (.inr E) g' I' L' := fun h => by cases h.1
theorem bI_ne {b : Bool} (h : ¬ bI b = 0) : b = true := by cases b <;> simp [bI] at h ⊢
theorem bI_eq {b : Bool} (h : bI b = 0) : b = false := by cases b <;> simp [bI] at h ⊢
theorem bI_or (b : Bool) : bI b = 0 ∨ bI b = 1 := by cases b <;> simp [bI]
section Ref1
variable {lx ly : Nat} {g : aG} {I : aI} {L : aL} {d : Nat} {x : Int32} {l : Nat}
theorem r_has (hw : WS lx ly g) (hx : x = nI l) (hl : l < 4) : Mx mX9_has d 0 0 [vS 328, vI x] g I L (qV (some (vI (bI (hsF (I 336) l)))) g I L) := by
  subst hx
  refine Mx_in (by decide +kernel) rfl rfl (Ex_wx [] 9 oX9_has hw ?_)
  refine And.intro (inN hl (by omega)) ?_
  refine And.intro (fun c => ?_) (fun c => ?_)
  · rw [clN (by omega)] at c
    exact ⟨Or.inl rfl, by simp [hsF, c, bI], rfl, rfl, rfl⟩
  · rw [clN (by omega)] at c
    exact ⟨Or.inr rfl, by simp [hsF, c, bI], rfl, rfl, rfl⟩
theorem r_isOwn (hw : WS lx ly g) (hx : x = nI l) (hl : l < 4) (hd : 1 ≤ d) : Mx mX9_isOwn d 0 0 [vS 328, vI x] g I L (qV (some (vI (bI (owF (I 336) l)))) g I L) := by
  subst hx
  have h0 := (hw 328 _ rfl).2.1
  refine Mx_in (by decide +kernel) rfl rfl (Ex_wx [] 9 oX9_isOwn hw ?_)
  refine Ex_v (As := [vI (nI l)]) (st := []) (d' := 0) vX9_175 rfl rfl (r_has hw rfl hl) h0 hd rfl (dc_ok oX9_isOwn rfl) ?_
  refine Ex_wx [8] 9 oX9_isOwn hw ?_
  refine And.intro (fun c => ?_) (fun c => ?_)
  · have c1 := bI_eq c
    exact ⟨Or.inl rfl, by simp [owF, c1, bI], rfl, rfl, rfl⟩
  · have c1 := bI_ne c
    refine Ex_wx [] 9 oX9_isOwn hw ?_
    refine Ex_v (As := [vI 3]) (st := []) (d' := 0) vX9_175 rfl rfl (r_has hw (l := 3) rfl (by omega)) h0 hd rfl (dc_ok oX9_isOwn rfl) ?_
    refine Ex_wx [16] 9 oX9_isOwn hw ?_
    refine And.intro (fun c => ?_) (fun c => ?_)
    · have c2 := bI_eq c
      exact ⟨Or.inr rfl, by simp [owF, c1, c2, bI], rfl, rfl, rfl⟩
    · have c2 := bI_ne c
      refine Ex_wx [] 9 oX9_isOwn hw ?_
      refine And.intro (inN hl (by omega)) ?_
      refine And.intro (show vp_in (nI 3) 4 from inN (by omega) (by omega)) ?_
      refine And.intro (fun c => ?_) (fun c => ?_)
      · rw [clN (by omega)] at c
        have c3 : ¬ I 336 l < I 336 3 := Int32.not_lt.mpr c
        exact ⟨Or.inl rfl, by simp [owF, c1, c2, c3, bI], rfl, rfl, rfl⟩
      · rw [clN (by omega)] at c
        have c3 : I 336 l < I 336 3 := Int32.not_le.mp c
        exact ⟨Or.inr rfl, by simp [owF, c1, c2, c3, bI], rfl, rfl, rfl⟩
theorem r_isShared (hw : WS lx ly g) (hx : x = nI l) (hl : l < 4) (hd : 2 ≤ d) : Mx mX9_isShared d 0 0 [vS 328, vI x] g I L (qV (some (vI (bI (shF (I 336) l)))) g I L) := by
  subst hx
  have h0 := (hw 328 _ rfl).2.1
  refine Mx_in (by decide +kernel) rfl rfl (Ex_wx [] 9 oX9_isShared hw ?_)
  refine Ex_v (As := [vI (nI l)]) (st := []) (d' := 0) vX9_175 rfl rfl (r_has hw rfl hl) h0 (by omega) rfl (dc_ok oX9_isShared rfl) ?_
  refine Ex_wx [8] 9 oX9_isShared hw ?_
  refine And.intro (fun c => ?_) (fun c => ?_)
  · have c1 := bI_eq c
    exact ⟨Or.inl rfl, by simp [shF, c1, bI], rfl, rfl, rfl⟩
  · have c1 := bI_ne c
    refine Ex_wx [] 9 oX9_isShared hw ?_
    refine Ex_v (As := [vI (nI l)]) (st := []) (d' := 1) vX9_178 rfl rfl (r_isOwn hw rfl hl (by omega)) h0 (by omega) rfl (dc_ok oX9_isShared rfl) ?_
    refine Ex_wx [] 9 oX9_isShared hw ?_
    refine And.intro (fun c => ?_) (fun c => ?_)
    · have c2 := bI_eq c
      exact ⟨Or.inr rfl, by simp [shF, c1, c2, bI], rfl, rfl, rfl⟩
    · have c2 := bI_ne c
      exact ⟨Or.inl rfl, by simp [shF, c1, c2, bI], rfl, rfl, rfl⟩
theorem r_isOutside (hw : WS lx ly g) (hx : x = nI l) (hl : l < 4) (hd : 1 ≤ d) : Mx mX9_isOutside d 0 0 [vS 328, vI x] g I L (qV (some (vI (bI (ouF (I 336) l)))) g I L) := by
  subst hx
  have h0 := (hw 328 _ rfl).2.1
  refine Mx_in (by decide +kernel) rfl rfl (Ex_wx [] 9 oX9_isOutside hw ?_)
  refine Ex_v (As := [vI (nI l)]) (st := []) (d' := 0) vX9_175 rfl rfl (r_has hw rfl hl) h0 hd rfl (dc_ok oX9_isOutside rfl) ?_
  refine Ex_wx [8] 9 oX9_isOutside hw ?_
  refine And.intro (fun c => ?_) (fun c => ?_)
  · have c1 := bI_eq c
    exact ⟨Or.inl rfl, by simp [ouF, c1, bI], rfl, rfl, rfl⟩
  · have c1 := bI_ne c
    refine Ex_wx [] 9 oX9_isOutside hw ?_
    refine Ex_v (As := [vI 2]) (st := []) (d' := 0) vX9_175 rfl rfl (r_has hw (l := 2) rfl (by omega)) h0 hd rfl (dc_ok oX9_isOutside rfl) ?_
    refine Ex_wx [16] 9 oX9_isOutside hw ?_
    refine And.intro (fun c => ?_) (fun c => ?_)
    · have c2 := bI_eq c
      exact ⟨Or.inl rfl, by simp [ouF, c1, c2, bI], rfl, rfl, rfl⟩
    · have c2 := bI_ne c
      refine Ex_wx [] 9 oX9_isOutside hw ?_
      refine And.intro (inN hl (by omega)) ?_
      refine And.intro (show vp_in (nI 2) 4 from inN (by omega) (by omega)) ?_
      refine And.intro (fun c => ?_) (fun c => ?_)
      · rw [clN (by omega)] at c
        have c3 : ¬ I 336 l < I 336 2 := Int32.not_lt.mpr c
        exact ⟨Or.inl rfl, by simp [ouF, c1, c2, c3, bI], rfl, rfl, rfl⟩
      · rw [clN (by omega)] at c
        have c3 : I 336 l < I 336 2 := Int32.not_le.mp c
        exact ⟨Or.inr rfl, by simp [ouF, c1, c2, c3, bI], rfl, rfl, rfl⟩
theorem r_row {h : Nat} (hw : WS lx ly g) (hx : x = nI l) : Mx mX9_row d 0 0 [vS 328, vI (nI h), vI x] g I L (qV (some (vI (nI (100 * h + 50 * l)))) g I L) := by
  subst hx
  refine Mx_in (by decide +kernel) rfl rfl (Ex_wx [] 9 oX9_row hw ?_)
  refine ⟨?_, rfl, rfl, rfl⟩
  have : (50 : Int32) * (2 * nI h + nI l) = nI (100 * h + 50 * l) := by
    rw [show (2 : Int32) * nI h = nI (2 * h) from nI_mul 2 h, nI_add, show (50 : Int32) * nI (2 * h + l) = nI (50 * (2 * h + l)) from nI_mul 50 _]
    congr 1; omega
  rw [this]
theorem nm_eq {env : Nat → Int32} {j : Nat} (h : j < 8) : nmF env (nI j) = env j := by
  unfold nmF
  rw [if_pos (nm_ok h), clN (by omega)]
theorem r_value {h : Nat} {env : Nat → Int32} {nd : Int32} (hw : WS lx ly g) (hh : h < 32) (he : ∀ k, k < 8 → I 348 (8 * h + k) = env k) (hn : nd = 0 ∨ (nd = 1 ∧ ∃ j, j < 8 ∧ x = nI j)) : Mx mX9_value d 0 0 [vS 328, vI (nI h), vI x, vI nd] g I L (qV (some (vI (opF env nd x))) g I L) := by
  refine Mx_in (by decide +kernel) rfl rfl (Ex_wx [] 9 oX9_value hw ?_)
  rcases hn with rfl | ⟨rfl, j, hj, rfl⟩
  · refine And.intro (fun _ => ?_) (fun c => absurd rfl c)
    exact ⟨by rw [opF, if_pos rfl], rfl, rfl, rfl⟩
  · refine And.intro (fun c => absurd c (by decide)) (fun _ => ?_)
    have e1 : (8 : Int32) * nI h + nI j = nI (8 * h + j) := by rw [show (8 : Int32) * nI h = nI (8 * h) from nI_mul 8 h, nI_add]
    refine And.intro (by rw [e1]; exact inN (by omega) (by omega)) ?_
    exact ⟨by rw [e1, clN (by omega), he j hj, opF, if_neg (by decide), nm_eq hj], rfl, rfl, rfl⟩
theorem r_op {k : Nat} {p q : Int32} (hw : WS lx ly g) (hk : 14 ≤ k) (hk2 : k ≤ 18) : Mx mX9_op d 0 0 [vI (nI (k - 14)), vI p, vI q] g I L (qV (some (vI (rkF k p q))) g I L) := by
  have h14 : k = 14 ∨ k = 15 ∨ k = 16 ∨ k = 17 ∨ k = 18 := by omega
  refine Mx_in (by decide +kernel) rfl rfl (Ex_wx [] 9 oX9_op hw ?_)
  rcases h14 with rfl | rfl | rfl | rfl | rfl
  · refine And.intro (fun _ => ?_) (fun c => absurd rfl c)
    exact ⟨rfl, rfl, rfl, rfl⟩
  · refine And.intro (fun c => absurd c (by decide)) (fun _ => ?_)
    refine And.intro (fun _ => ?_) (fun c => absurd rfl c)
    exact ⟨rfl, rfl, rfl, rfl⟩
  · refine And.intro (fun c => absurd c (by decide)) (fun _ => ?_)
    refine And.intro (fun c => absurd c (by decide)) (fun _ => ?_)
    refine And.intro (fun _ => ?_) (fun c => absurd rfl c)
    exact ⟨rfl, rfl, rfl, rfl⟩
  · refine And.intro (fun c => absurd c (by decide)) (fun _ => ?_)
    refine And.intro (fun c => absurd c (by decide)) (fun _ => ?_)
    refine And.intro (fun c => absurd c (by decide)) (fun _ => ?_)
    refine And.intro (fun _ => ?_) (fun c => absurd rfl c)
    refine And.intro (fun c => ?_) (fun c => ?_)
    · exact ⟨by simp [rkF, Int32.not_lt.mpr c], rfl, rfl, rfl⟩
    · exact ⟨by simp [rkF, Int32.not_le.mp c], rfl, rfl, rfl⟩
  · refine And.intro (fun c => absurd c (by decide)) (fun _ => ?_)
    refine And.intro (fun c => absurd c (by decide)) (fun _ => ?_)
    refine And.intro (fun c => absurd c (by decide)) (fun _ => ?_)
    refine And.intro (fun c => absurd c (by decide)) (fun _ => ?_)
    refine And.intro (fun c => ?_) (fun c => ?_)
    · exact ⟨by simp [rkF, c], rfl, rfl, rfl⟩
    · exact ⟨by simp [rkF, c], rfl, rfl, rfl⟩
theorem r_finish {h : Nat} (hw : WS lx ly g) (h14 : I 328 14 = nI (h + 1)) : Mx mX9_finish d 0 0 [vS 328] g I L (qV none g (up2 I 328 14 (nI h)) L) := by
  refine Mx_in (by decide +kernel) rfl rfl (Ex_wx [] 9 oX9_finish hw ?_)
  exact ⟨rfl, rfl, by rw [h14, nI_pred], rfl⟩
/-- the heap with one more RESULT told -/
def tellI (I : aI) (h m : Nat) (er v st lg : Int32) : aI := up2 (up2 (up2 (up2 (up2 I 350 (100 * h + 50 + m) er) 351 (100 * h + 50 + m) v) 352 (100 * h + 50 + m) st) 353 (100 * h + 50 + m) lg) 349 (2 * h + 1) (nI (m + 1))
theorem r_tell {h m : Nat} {er v st lg : Int32} (hw : WS lx ly g) (hh : h < 32) (hm : I 349 (2 * h + 1) = nI m) (hm2 : m ≤ 50) (he : er = 0 ∨ er = 1) (hd : 1 ≤ d) : Mx mX9_tell d 0 0 [vS 328, vI (nI h), vI er, vI v, vI st, vI lg] g I L (qV none g (if m = 50 then up2 I 328 33 1 else tellI I h m er v st lg) L) := by
  have h0 := (hw 328 _ rfl).2.1
  have e1 : (2 : Int32) * nI h + 1 = nI (2 * h + 1) := by rw [show (2 : Int32) * nI h = nI (2 * h) from nI_mul 2 h, nI_1]
  have v1 : vp_in ((2 : Int32) * nI h + 1) 64 := by rw [e1]; exact inN (by omega) (by omega)
  have c1 : ((2 : Int32) * nI h + 1).toNatClampNeg = 2 * h + 1 := by rw [e1]; exact clN (by omega)
  refine Mx_in (by decide +kernel) rfl rfl (Ex_wx [21] 9 oX9_tell hw ?_)
  refine And.intro v1 ?_
  refine And.intro (fun c => ?_) (fun c => ?_)
  · rw [c1, hm] at c
    have := eqN (b := 50) c (by omega) (by omega)
    refine ⟨Or.inr rfl, rfl, rfl, ?_, rfl⟩
    rw [if_pos this]
  · rw [c1, hm] at c
    have hne : m ≠ 50 := fun q => c (by rw [q]; rfl)
    rw [if_neg hne]
    refine Ex_wx [] 9 oX9_tell hw ?_
    refine Ex_v (As := [vI (nI h), vI 1]) (st := []) (d' := 0) vX9_200 rfl rfl (r_row hw (l := 1) rfl) h0 hd rfl (dc_ok oX9_tell rfl) ?_
    refine Ex_bn 10 oX9_tell hw ?_
    refine And.intro v1 ?_
    show Ex mX9_tell d 0 0 _ 40 [some (vS 328), some (vI (nI h)), some (vI er), some (vI v), some (vI st), some (vI lg), some (vI (nI (100 * h + 50 * 1) + I 349 ((2 : Int32) * nI h + 1).toNatClampNeg))] [] g I L
    rw [c1, hm, nI_add, show 100 * h + 50 * 1 + m = 100 * h + 50 + m by omega]
    refine Ex_wx [] 9 oX9_tell hw ?_
    have v2 : vp_in (nI (100 * h + 50 + m)) 3200 := inN (by omega) (by omega)
    have c2 : (nI (100 * h + 50 + m)).toNatClampNeg = 100 * h + 50 + m := clN (by omega)
    refine And.intro ⟨v2, he⟩ ?_
    refine And.intro v2 ?_
    refine And.intro v2 ?_
    refine And.intro v2 ?_
    refine And.intro v1 ?_
    refine And.intro v1 ?_
    refine ⟨rfl, rfl, ?_, rfl⟩
    rw [c1, c2]
    have e2 : up2 (up2 (up2 (up2 I 350 (100 * h + 50 + m) er) 351 (100 * h + 50 + m) v) 352 (100 * h + 50 + m) st) 353 (100 * h + 50 + m) lg 349 (2 * h + 1) = nI m := by
      rw [up2_i (by omega), up2_i (by omega), up2_i (by omega), up2_i (by omega)]; exact hm
    rw [e2, nI_1]
    rfl
end Ref1
end
section
/-! the reference: its state against the evaluator's -/
def kp (h i k : Nat) : Prop := (340 ≤ i ∧ i ≤ 347 ∧ k < h) ∨ (i = 348 ∧ k < 8 * h) ∨ (i = 349 ∧ k < 2 * h) ∨ (350 ≤ i ∧ i ≤ 353 ∧ k < 100 * h) ∨ (i ≠ 328 ∧ (i < 337 ∨ 353 < i)) ∨ (i = 328 ∧ (k < 10 ∨ k = 32 ∨ 35 < k))
def Bl (I I' : aI) (h : Nat) : Prop := ∀ i k, kp h i k → I' i k = I i k
theorem Bl.refl {I : aI} {h : Nat} : Bl I I h := fun _ _ _ => rfl
theorem Bl.trans {I I' I'' : aI} {h : Nat} (a : Bl I I' h) (b : Bl I' I'' h) : Bl I I'' h := fun i k q => (b i k q).trans (a i k q)
theorem Bl.mono {I I' : aI} {h h' : Nat} (a : Bl I I' h) (q : h' ≤ h) : Bl I I' h' := fun i k hk => a i k (by unfold kp at hk ⊢; omega)
theorem Bl.id {I I' : aI} {h i : Nat} (a : Bl I I' h) (q : i ≠ 328 ∧ (i < 337 ∨ 353 < i)) : I' i = I i := by
  funext k
  exact a i k (by unfold kp; omega)
/-- the cells that frame h may change -/
def mt (h i k : Nat) : Prop := (341 ≤ i ∧ i ≤ 343 ∧ k = h) ∨ (i = 349 ∧ (k = 2 * h ∨ k = 2 * h + 1)) ∨ (350 ≤ i ∧ i ≤ 353 ∧ 100 * h ≤ k ∧ k < 100 * h + 100)
def At (I I' : aI) (h : Nat) : Prop := ∀ i k, ¬ mt h i k → I' i k = I i k
theorem At.refl {I : aI} {h : Nat} : At I I h := fun _ _ _ => rfl
theorem At.trans {I I' I'' : aI} {h : Nat} (a : At I I' h) (b : At I' I'' h) : At I I'' h := fun i k q => (b i k q).trans (a i k q)
theorem At.bl {I I' : aI} {h : Nat} (a : At I I' h) : Bl I I' h := fun i k hk => a i k (by unfold kp at hk; unfold mt; omega)
/-- the cells of what is told in frame h -/
def cb (h i k : Nat) : Prop := (i = 349 ∧ k = 2 * h + 1) ∨ (350 ≤ i ∧ i ≤ 353 ∧ 100 * h + 50 ≤ k ∧ k < 100 * h + 100)
theorem cb_at {I I' : aI} {h : Nat} (a : ∀ i k, ¬ cb h i k → I' i k = I i k) : At I I' h := fun i k hk => a i k (by unfold mt at hk; unfold cb; omega)
def Lr (F : mF) (I : aI) (e : mE) : Prop := I 328 10 = nI (e.us - 1) ∧ (I 337 0 = 0 ∧ I 338 0 = 0 ∧ I 339 0 = 0) ∧ (∀ k, 1 ≤ k → k < e.us → I 338 k = e.nu k ∧ I 337 k = e.be k ∧ I 339 k = e.le k) ∧ (F.1 = false → I 328 29 = e.s) ∧ (F.2.1 = false → I 328 30 = e.l)
def Sr (F : mF) (I : aI) (lim : Nat) (e : mE) (hi : Nat) : Prop := (I 328 14 = nI hi ∧ I 328 31 = nI e.sp ∧ I 328 32 = nI lim ∧ I 328 33 = 0 ∧ I 328 34 = 0 ∧ I 328 35 = 0) ∧ Lr F I e
def OutS (F : mF) (I : aI) : Prop := I 328 33 = 1 ∧ ∃ e : mE, invL e ∧ 1 ≤ e.us ∧ e.us ≤ 2001 ∧ Lr F I e
def Fr (F : mF) (I : aI) (h t : Nat) (env : Nat → Int32) (s0 l0 : Int32) : Prop := I 340 h = nI t ∧ (∀ k, k < 8 → I 348 (8 * h + k) = env k) ∧ (F.1 = true → I 344 h = s0) ∧ (F.1 = false → I 346 h = s0) ∧ (F.2.1 = true → I 345 h = l0) ∧ (F.2.1 = false → I 347 h = l0)
def Rr (F : mF) (I : aI) (b : Nat) (rs : List mR) : Prop := ∀ j r, rs[j]? = some r → I 351 (b + j) = r.1 ∧ I 350 (b + j) = r.2.1 ∧ (F.1 = true → I 352 (b + j) = r.2.2.1) ∧ (F.2.1 = true → I 353 (b + j) = r.2.2.2)
theorem Lr.eq {F : mF} {I I' : aI} {e : mE} (h : Lr F I e) (a : ∀ i k, (i = 328 ∧ (k = 10 ∨ k = 29 ∨ k = 30)) ∨ (337 ≤ i ∧ i ≤ 339) → I' i k = I i k) : Lr F I' e := by
  obtain ⟨h1, ⟨h2, h3, h4⟩, h5, h6, h7⟩ := h
  refine ⟨by rw [a _ _ (by omega)]; exact h1, ⟨by rw [a _ _ (by omega)]; exact h2, by rw [a _ _ (by omega)]; exact h3, by rw [a _ _ (by omega)]; exact h4⟩, fun k k1 k2 => ?_, fun c => ?_, fun c => ?_⟩
  · rw [a _ _ (by omega), a _ _ (by omega), a _ _ (by omega)]; exact h5 k k1 k2
  · rw [a _ _ (by omega)]; exact h6 c
  · rw [a _ _ (by omega)]; exact h7 c
theorem Sr.eq {F : mF} {I I' : aI} {lim hi : Nat} {e : mE} (h : Sr F I lim e hi) (a : ∀ i k, i = 328 ∨ (337 ≤ i ∧ i ≤ 339) → I' i k = I i k) : Sr F I' lim e hi := by
  obtain ⟨⟨h1, h2, h3, h4, h5, h6⟩, h7⟩ := h
  refine ⟨⟨?_, ?_, ?_, ?_, ?_, ?_⟩, h7.eq (fun i k q => a i k (by omega))⟩ <;> rw [a _ _ (by omega)] <;> assumption
theorem Sr.at {F : mF} {I I' : aI} {lim hi h : Nat} {e : mE} (q : Sr F I lim e hi) (a : At I I' h) : Sr F I' lim e hi := q.eq (fun i k c => a i k (by unfold mt; omega))
theorem Fr.eq {F : mF} {I I' : aI} {h t : Nat} {env : Nat → Int32} {s0 l0 : Int32} (q : Fr F I h t env s0 l0) (a : ∀ i k, (i = 340 ∨ (344 ≤ i ∧ i ≤ 347)) ∧ k = h ∨ i = 348 ∧ k < 8 * h + 8 → I' i k = I i k) : Fr F I' h t env s0 l0 := by
  obtain ⟨h1, h2, h3, h4, h5, h6⟩ := q
  refine ⟨by rw [a _ _ (by omega)]; exact h1, fun k hk => by rw [a _ _ (by omega)]; exact h2 k hk, fun c => ?_, fun c => ?_, fun c => ?_, fun c => ?_⟩
  · rw [a _ _ (by omega)]; exact h3 c
  · rw [a _ _ (by omega)]; exact h4 c
  · rw [a _ _ (by omega)]; exact h5 c
  · rw [a _ _ (by omega)]; exact h6 c
theorem Fr.at {F : mF} {I I' : aI} {h t : Nat} {env : Nat → Int32} {s0 l0 : Int32} (q : Fr F I h t env s0 l0) (a : At I I' h) : Fr F I' h t env s0 l0 := q.eq (fun i k c => a i k (by unfold mt; omega))
theorem Fr.bl {F : mF} {I I' : aI} {h t : Nat} {env : Nat → Int32} {s0 l0 : Int32} (q : Fr F I h t env s0 l0) (a : Bl I I' (h + 1)) : Fr F I' h t env s0 l0 := q.eq (fun i k c => a i k (by unfold kp; omega))
theorem Rr.eq {F : mF} {I I' : aI} {b : Nat} {rs : List mR} (q : Rr F I b rs) (a : ∀ i k, 350 ≤ i → i ≤ 353 → b ≤ k → k < b + rs.length → I' i k = I i k) : Rr F I' b rs := by
  intro j r hj
  have hl : j < rs.length := (List.getElem?_eq_some_iff.mp hj).1
  obtain ⟨h1, h2, h3, h4⟩ := q j r hj
  refine ⟨by rw [a _ _ (by omega) (by omega) (by omega) (by omega)]; exact h1, by rw [a _ _ (by omega) (by omega) (by omega) (by omega)]; exact h2, fun c => ?_, fun c => ?_⟩
  · rw [a _ _ (by omega) (by omega) (by omega) (by omega)]; exact h3 c
  · rw [a _ _ (by omega) (by omega) (by omega) (by omega)]; exact h4 c
theorem Rr.nil {F : mF} {I : aI} {b : Nat} : Rr F I b [] := fun j r h => by cases h
theorem Sr.len {F : mF} {I : aI} {e : mE} {l : Int32} (h : Lr F I e) (hu : e.us ≤ 2001) {j : Nat} (hj : j < e.us) : I 339 j = lenF e (nI j) := by
  unfold lenF gtL
  by_cases h0 : j = 0
  · subst h0
    rw [if_neg (fun c => absurd c.1 (by decide))]
    exact h.2.1.2.2
  · rw [if_pos ⟨nI_lt (a := 0) (by omega) (by omega), nI_lt hj (by omega)⟩, clN (by omega)]
    exact (h.2.2.1 j (by omega) hj).2.2
theorem tell_cb {I : aI} {h m : Nat} {er v st lg : Int32} (hm : m < 50) : ∀ i k, ¬ cb h i k → tellI I h m er v st lg i k = I i k := by
  intro i k c
  unfold cb at c
  unfold tellI
  rw [up2_n (by omega), up2_n (by omega), up2_n (by omega), up2_n (by omega), up2_n (by omega)]
theorem tell_many {I : aI} {h m : Nat} {er v st lg : Int32} : tellI I h m er v st lg 349 (2 * h + 1) = nI (m + 1) := up2_s
theorem tell_rows {F : mF} {I : aI} {h m : Nat} {er v st lg s1 l1 : Int32} {acc : List mR} (q : Rr F I (100 * h + 50) acc) (hm : acc.length = m) (hs : F.1 = true → st = s1) (hl : F.2.1 = true → lg = l1) : Rr F (tellI I h m er v st lg) (100 * h + 50) (acc ++ [(v, er, s1, l1)]) := by
  intro j r hj
  have hlen : j < (acc ++ [(v, er, s1, l1)]).length := (List.getElem?_eq_some_iff.mp hj).1
  rw [List.length_append, List.length_singleton] at hlen
  by_cases hjm : j < acc.length
  · rw [List.getElem?_append_left hjm] at hj
    obtain ⟨h1, h2, h3, h4⟩ := q j r hj
    have hn : ∀ i, 350 ≤ i → i ≤ 353 → tellI I h m er v st lg i (100 * h + 50 + j) = I i (100 * h + 50 + j) := by
      intro i h1 h2
      unfold tellI
      rw [up2_n (by omega), up2_n (by omega), up2_n (by omega), up2_n (by omega), up2_n (by omega)]
    rw [hn 351 (by omega) (by omega), hn 350 (by omega) (by omega), hn 352 (by omega) (by omega), hn 353 (by omega) (by omega)]
    exact ⟨h1, h2, h3, h4⟩
  · have : j = m := by omega
    subst this
    rw [List.getElem?_append_right (by omega), hm, Nat.sub_self] at hj
    have hr : (v, er, s1, l1) = r := Option.some.inj hj
    subst hr
    have a1 : tellI I h j er v st lg 351 (100 * h + 50 + j) = v := by
      unfold tellI
      rw [up2_i (by omega), up2_i (by omega), up2_i (by omega)]; exact up2_s
    have a2 : tellI I h j er v st lg 350 (100 * h + 50 + j) = er := by
      unfold tellI
      rw [up2_i (by omega), up2_i (by omega), up2_i (by omega), up2_i (by omega)]; exact up2_s
    have a3 : tellI I h j er v st lg 352 (100 * h + 50 + j) = st := by
      unfold tellI
      rw [up2_i (by omega), up2_i (by omega)]; exact up2_s
    have a4 : tellI I h j er v st lg 353 (100 * h + 50 + j) = lg := by
      unfold tellI
      rw [up2_i (by omega)]; exact up2_s
    rw [a1, a2, a3, a4]
    exact ⟨rfl, rfl, hs, hl⟩
def GaP (F : mF) (I : aI) (h : Nat) (acc cs : List mR) (I' : aI) : Prop :=
  (50 < (acc ++ cs).length ∧ I' 328 33 = 1 ∧ ∀ i k, ¬ cb h i k → ¬ (i = 328 ∧ k = 33) → I' i k = I i k) ∨
  ((acc ++ cs).length ≤ 50 ∧ I' 349 (2 * h + 1) = nI (acc ++ cs).length ∧ Rr F I' (100 * h + 50) (acc ++ cs) ∧ ∀ i k, ¬ cb h i k → I' i k = I i k)
section Ref2
variable {lx ly : Nat} {g : aG} {I : aI} {L : aL} {d h : Nat} {F : mF} {acc cs : List mR}
theorem r_gatherL (hw : WS lx ly g) (hh : h < 31) (hd : 2 ≤ d) (hcm : I 349 (2 * h + 3) = nI cs.length) (hc : Rr F I (100 * h + 150) cs) (hce : errR cs) (hc5 : cs.length ≤ 50) (ho : I 328 33 = 0) :
    ∀ (n j : Nat) (I1 : aI), cs.length - j = n → j ≤ cs.length → I1 349 (2 * h + 1) = nI (acc ++ cs.take j).length → (acc ++ cs.take j).length ≤ 50 → Rr F I1 (100 * h + 50) (acc ++ cs.take j) → (∀ i k, ¬ cb h i k → I1 i k = I i k) →
    Ex mX9_gather d 0 0 (rQ g L (GaP F I h acc cs)) 11 [some (vS 328), some (vI (nI h)), some (vI (nI (100 * h + 150))), some (vI (nI j))] [] g I1 L := by
  have h0 := (hw 328 _ rfl).2.1
  have e1 : (2 : Int32) * nI h + 3 = nI (2 * h + 3) := by rw [show (2 : Int32) * nI h = nI (2 * h) from nI_mul 2 h]; exact nI_add _ 3
  have v1 : vp_in ((2 : Int32) * nI h + 3) 64 := by rw [e1]; exact inN (by omega) (by omega)
  have c1 : ((2 : Int32) * nI h + 3).toNatClampNeg = 2 * h + 3 := by rw [e1]; exact clN (by omega)
  intro n
  induction n with
  | zero =>
    intro j I1 hn hj hm hm5 hr ha
    have : j = cs.length := by omega
    subst this
    rw [List.take_length] at hm hm5 hr
    refine Ex_wx [] 9 oX9_gather hw ?_
    refine And.intro v1 ?_
    rw [c1, ha 349 _ (by unfold cb; omega), hcm]
    refine And.intro (fun _ => ?_) (fun c => absurd (Int32.le_refl _) c)
    exact ⟨rfl, rfl, rfl, Or.inr ⟨hm5, hm, hr, ha⟩⟩
  | succ n ih =>
    intro j I1 hn hj hm hm5 hr ha
    have hjl : j < cs.length := by omega
    have hcj : cs[j]? = some cs[j] := List.getElem?_eq_getElem hjl
    have htk : cs.take (j + 1) = cs.take j ++ [cs[j]] := List.take_succ_eq_append_getElem hjl
    refine Ex_wx [25] 9 oX9_gather hw ?_
    refine And.intro v1 ?_
    rw [c1, ha 349 _ (by unfold cb; omega), hcm]
    refine And.intro (fun c => absurd (leN c (by omega) (by omega)) (by omega)) (fun _ => ?_)
    refine Ex_wx [] 9 oX9_gather hw ?_
    refine And.intro (fun _ => ?_) (fun c => absurd (by rw [ha 328 _ (by unfold cb; omega)]; exact ho) c)
    have e2 : nI (100 * h + 150) + nI j = nI (100 * h + 150 + j) := nI_add _ _
    have v2 : vp_in (nI (100 * h + 150) + nI j) 3200 := by rw [e2]; exact inN (by omega) (by omega)
    have c2 : (nI (100 * h + 150) + nI j).toNatClampNeg = 100 * h + 150 + j := by rw [e2]; exact clN (by omega)
    refine And.intro v2 (And.intro v2 (And.intro v2 (And.intro v2 ?_)))
    rw [c2]
    obtain ⟨r1, r2, r3, r4⟩ := hc j _ hcj
    have her : I1 350 (100 * h + 150 + j) = 0 ∨ I1 350 (100 * h + 150 + j) = 1 := by
      rw [ha 350 _ (by unfold cb; omega), r2]; exact hce _ (List.getElem_mem hjl)
    refine Ex_v (As := [vI (nI h), vI (I1 350 (100 * h + 150 + j)), vI (I1 351 (100 * h + 150 + j)), vI (I1 352 (100 * h + 150 + j)), vI (I1 353 (100 * h + 150 + j))]) (st := []) (d' := 1) vX9_203 rfl rfl (r_tell hw (by omega) hm hm5 her (by omega)) h0 (by omega) rfl (dc_ok oX9_gather rfl) ?_
    rw [ha 350 _ (by unfold cb; omega), ha 351 _ (by unfold cb; omega), ha 352 _ (by unfold cb; omega), ha 353 _ (by unfold cb; omega)]
    refine Ex_bn 2 oX9_gather hw ?_
    show Ex mX9_gather d 0 0 _ 11 [some (vS 328), some (vI (nI h)), some (vI (nI (100 * h + 150))), some (vI (nI j + 1))] [] g _ L
    rw [nI_1]
    by_cases hfull : (acc ++ cs.take j).length = 50
    · rw [if_pos hfull]
      have hlen : 50 < (acc ++ cs).length := by
        rw [List.length_append, List.length_take] at hfull
        rw [List.length_append]; omega
      have hfin : rQ g L (GaP F I h acc cs) (.inl none) g (up2 I1 328 33 1) L := by
        refine ⟨rfl, rfl, rfl, Or.inl ⟨hlen, up2_s, fun i k c1 c2 => ?_⟩⟩
        rw [up2_n (by omega)]; exact ha i k c1
      refine Ex_wx [25] 9 oX9_gather hw ?_
      refine And.intro v1 ?_
      refine And.intro (fun c => hfin) (fun c => ?_)
      refine Ex_wx [] 9 oX9_gather hw ?_
      refine And.intro (fun c => absurd c (by rw [up2_s]; decide)) (fun _ => hfin)
    · rw [if_neg hfull]
      have hlt : (acc ++ cs.take j).length < 50 := by omega
      have hap : acc ++ cs.take (j + 1) = (acc ++ cs.take j) ++ [cs[j]] := by rw [htk, List.append_assoc]
      refine ih (j + 1) _ (by omega) (by omega) ?_ ?_ ?_ ?_
      · rw [tell_many, hap, List.length_append (bs := [cs[j]]), List.length_singleton]
      · rw [hap, List.length_append (bs := [cs[j]]), List.length_singleton]; omega
      · rw [hap, r1, r2]
        exact tell_rows hr rfl r3 r4
      · intro i k c
        rw [tell_cb hlt i k c]; exact ha i k c
theorem r_gather (hw : WS lx ly g) (hh : h < 31) (hd : 2 ≤ d) (hm : I 349 (2 * h + 1) = nI acc.length) (hm5 : acc.length ≤ 50) (hr : Rr F I (100 * h + 50) acc) (hcm : I 349 (2 * h + 3) = nI cs.length) (hc : Rr F I (100 * h + 150) cs) (hce : errR cs) (hc5 : cs.length ≤ 50) (ho : I 328 33 = 0) :
    Mx mX9_gather d 0 0 [vS 328, vI (nI h)] g I L (rQ g L (GaP F I h acc cs)) := by
  have h0 := (hw 328 _ rfl).2.1
  refine Mx_in (by decide +kernel) rfl rfl (Ex_wx [] 9 oX9_gather hw ?_)
  refine Ex_v (As := [vI (nI h + 1), vI 1]) (st := []) (d' := 0) vX9_200 rfl rfl (by rw [nI_1]; exact r_row hw (l := 1) rfl) h0 (by omega) rfl (dc_ok oX9_gather rfl) ?_
  refine Ex_bn 3 oX9_gather hw ?_
  rw [show 100 * (h + 1) + 50 * 1 = 100 * h + 150 by omega]
  refine r_gatherL hw hh hd hcm hc hce hc5 ho _ 0 I rfl (Nat.zero_le _) ?_ ?_ ?_ (fun _ _ _ => rfl)
  · rw [List.take_zero, List.append_nil]; exact hm
  · rw [List.take_zero, List.append_nil]; exact hm5
  · rw [List.take_zero, List.append_nil]; exact hr
end Ref2
end
section
/-! the reference: turn, longer, push -/
def ct (h i k : Nat) : Prop := (i = 349 ∧ (k = 2 * h ∨ k = 2 * h + 1)) ∨ (i = 342 ∧ k = h) ∨ (350 ≤ i ∧ i ≤ 353 ∧ 100 * h ≤ k ∧ k < 100 * h + 50)
theorem ct_at {I I' : aI} {h : Nat} (a : ∀ i k, ¬ ct h i k → I' i k = I i k) : At I I' h := fun i k hk => a i k (by unfold mt at hk; unfold ct; omega)
def TuP (I : aI) (h m : Nat) (I' : aI) : Prop := I' 349 (2 * h) = nI m ∧ I' 349 (2 * h + 1) = 0 ∧ I' 342 h = 0 ∧ (∀ i j, 350 ≤ i → i ≤ 353 → j < m → I' i (100 * h + j) = I i (100 * h + 50 + j)) ∧ ∀ i k, ¬ ct h i k → I' i k = I i k
section Ref3
variable {lx ly : Nat} {g : aG} {I : aI} {L : aL} {d h m : Nat} {F : mF}
theorem r_turnL (hw : WS lx ly g) (hh : h < 32) (hm5 : m ≤ 50) (he : ∀ j, j < m → I 350 (100 * h + 50 + j) = 0 ∨ I 350 (100 * h + 50 + j) = 1) :
    ∀ (n j : Nat) (I1 : aI), m - j = n → j ≤ m → I1 349 (2 * h) = nI m → (∀ i k, 350 ≤ i → i ≤ 353 → k < j → I1 i (100 * h + k) = I i (100 * h + 50 + k)) → (∀ i k, ¬ (i = 349 ∧ k = 2 * h) → ¬ (350 ≤ i ∧ i ≤ 353 ∧ 100 * h ≤ k ∧ k < 100 * h + 50) → I1 i k = I i k) →
    Ex mX9_turn d 0 0 (rQ g L (TuP I h m)) 35 [some (vS 328), some (vI (nI h)), some (vI (nI (100 * h))), some (vI (nI (100 * h + 50))), some (vI (nI j))] [] g I1 L := by
  have e1 : (2 : Int32) * nI h = nI (2 * h) := nI_mul 2 h
  have v1 : vp_in ((2 : Int32) * nI h) 64 := by rw [e1]; exact inN (by omega) (by omega)
  have c1 : ((2 : Int32) * nI h).toNatClampNeg = 2 * h := by rw [e1]; exact clN (by omega)
  have e3 : (2 : Int32) * nI h + 1 = nI (2 * h + 1) := by rw [e1, nI_1]
  have v3 : vp_in ((2 : Int32) * nI h + 1) 64 := by rw [e3]; exact inN (by omega) (by omega)
  have c3 : ((2 : Int32) * nI h + 1).toNatClampNeg = 2 * h + 1 := by rw [e3]; exact clN (by omega)
  intro n
  induction n with
  | zero =>
    intro j I1 hn hj hm hc ha
    have : j = m := by omega
    subst this
    refine Ex_wx [126] 9 oX9_turn hw ?_
    refine And.intro v1 ?_
    rw [c1, hm]
    refine And.intro (fun _ => ?_) (fun c => absurd (Int32.le_refl _) c)
    refine Ex_wx [] 9 oX9_turn hw ?_
    refine And.intro v3 ?_
    refine And.intro (inN hh (by omega)) ?_
    refine ⟨rfl, rfl, rfl, ?_, ?_, ?_, ?_, ?_⟩
    · rw [c3, up2_i (by omega), up2_k (by omega)]; exact hm
    · rw [c3, up2_i (by omega)]; exact up2_s
    · rw [clN (by omega)]; exact up2_s
    · intro i k h1 h2 h3
      rw [up2_i (by omega), up2_i (by omega)]; exact hc i k h1 h2 h3
    · intro i k c
      unfold ct at c
      rw [clN (by omega), c3, up2_n (by omega), up2_n (by omega)]
      exact ha i k (by omega) (by omega)
  | succ n ih =>
    intro j I1 hn hj hm hc ha
    have hjm : j < m := by omega
    refine Ex_wx [35] 9 oX9_turn hw ?_
    refine And.intro v1 ?_
    rw [c1, hm]
    refine And.intro (fun c => absurd (leN c (by omega) (by omega)) (by omega)) (fun _ => ?_)
    have ea : nI (100 * h) + nI j = nI (100 * h + j) := nI_add _ _
    have va : vp_in (nI (100 * h) + nI j) 3200 := by rw [ea]; exact inN (by omega) (by omega)
    have ca : (nI (100 * h) + nI j).toNatClampNeg = 100 * h + j := by rw [ea]; exact clN (by omega)
    have eb : nI (100 * h + 50) + nI j = nI (100 * h + 50 + j) := nI_add _ _
    have vb : vp_in (nI (100 * h + 50) + nI j) 3200 := by rw [eb]; exact inN (by omega) (by omega)
    have cb : (nI (100 * h + 50) + nI j).toNatClampNeg = 100 * h + 50 + j := by rw [eb]; exact clN (by omega)
    have q : ∀ i, 350 ≤ i → i ≤ 353 → I1 i (100 * h + 50 + j) = I i (100 * h + 50 + j) := fun i h1 h2 => ha i _ (by omega) (by omega)
    refine And.intro vb ?_
    refine And.intro ⟨va, by rw [cb, q 350 (by omega) (by omega)]; exact he j hjm⟩ ?_
    refine And.intro vb (And.intro va ?_)
    refine And.intro vb (And.intro va ?_)
    refine And.intro vb (And.intro va ?_)
    rw [ca, cb]
    show Ex mX9_turn d 0 0 _ 35 [some (vS 328), some (vI (nI h)), some (vI (nI (100 * h))), some (vI (nI (100 * h + 50))), some (vI (nI j + 1))] [] g (up2 (up2 (up2 (up2 I1 350 (100 * h + j) (I1 350 (100 * h + 50 + j))) 351 (100 * h + j) (up2 I1 350 (100 * h + j) (I1 350 (100 * h + 50 + j)) 351 (100 * h + 50 + j))) 352 (100 * h + j) (up2 (up2 I1 350 (100 * h + j) (I1 350 (100 * h + 50 + j))) 351 (100 * h + j) (up2 I1 350 (100 * h + j) (I1 350 (100 * h + 50 + j)) 351 (100 * h + 50 + j)) 352 (100 * h + 50 + j))) 353 (100 * h + j) (up2 (up2 (up2 I1 350 (100 * h + j) (I1 350 (100 * h + 50 + j))) 351 (100 * h + j) (up2 I1 350 (100 * h + j) (I1 350 (100 * h + 50 + j)) 351 (100 * h + 50 + j))) 352 (100 * h + j) (up2 (up2 I1 350 (100 * h + j) (I1 350 (100 * h + 50 + j))) 351 (100 * h + j) (up2 I1 350 (100 * h + j) (I1 350 (100 * h + 50 + j)) 351 (100 * h + 50 + j)) 352 (100 * h + 50 + j)) 353 (100 * h + 50 + j))) L
    have u1 : up2 I1 350 (100 * h + j) (I1 350 (100 * h + 50 + j)) 351 (100 * h + 50 + j) = I1 351 (100 * h + 50 + j) := up2_i (by omega)
    rw [u1]
    have u2 : up2 (up2 I1 350 (100 * h + j) (I1 350 (100 * h + 50 + j))) 351 (100 * h + j) (I1 351 (100 * h + 50 + j)) 352 (100 * h + 50 + j) = I1 352 (100 * h + 50 + j) := by rw [up2_i (by omega), up2_i (by omega)]
    rw [u2]
    have u3 : up2 (up2 (up2 I1 350 (100 * h + j) (I1 350 (100 * h + 50 + j))) 351 (100 * h + j) (I1 351 (100 * h + 50 + j))) 352 (100 * h + j) (I1 352 (100 * h + 50 + j)) 353 (100 * h + 50 + j) = I1 353 (100 * h + 50 + j) := by rw [up2_i (by omega), up2_i (by omega), up2_i (by omega)]
    rw [u3, nI_1, q 350 (by omega) (by omega), q 351 (by omega) (by omega), q 352 (by omega) (by omega), q 353 (by omega) (by omega)]
    refine ih (j + 1) _ (by omega) (by omega) ?_ ?_ ?_
    · rw [up2_i (by omega), up2_i (by omega), up2_i (by omega), up2_i (by omega)]; exact hm
    · intro i k h1 h2 h3
      by_cases hkj : k = j
      · subst hkj
        have h4 : i = 350 ∨ i = 351 ∨ i = 352 ∨ i = 353 := by omega
        rcases h4 with rfl | rfl | rfl | rfl
        · rw [up2_i (by omega), up2_i (by omega), up2_i (by omega)]; exact up2_s
        · rw [up2_i (by omega), up2_i (by omega)]; exact up2_s
        · rw [up2_i (by omega)]; exact up2_s
        · exact up2_s
      · rw [up2_k (by omega), up2_k (by omega), up2_k (by omega), up2_k (by omega)]
        exact hc i k h1 h2 (by omega)
    · intro i k h1 h2
      rw [up2_n (by omega), up2_n (by omega), up2_n (by omega), up2_n (by omega)]
      exact ha i k h1 h2
theorem r_turn (hw : WS lx ly g) (hh : h < 32) (hd : 1 ≤ d) (hm : I 349 (2 * h + 1) = nI m) (hm5 : m ≤ 50) (he : ∀ j, j < m → I 350 (100 * h + 50 + j) = 0 ∨ I 350 (100 * h + 50 + j) = 1) : Mx mX9_turn d 0 0 [vS 328, vI (nI h)] g I L (rQ g L (TuP I h m)) := by
  have h0 := (hw 328 _ rfl).2.1
  have e1 : (2 : Int32) * nI h = nI (2 * h) := nI_mul 2 h
  have v1 : vp_in ((2 : Int32) * nI h) 64 := by rw [e1]; exact inN (by omega) (by omega)
  have c1 : ((2 : Int32) * nI h).toNatClampNeg = 2 * h := by rw [e1]; exact clN (by omega)
  have e3 : (2 : Int32) * nI h + 1 = nI (2 * h + 1) := by rw [e1, nI_1]
  have v3 : vp_in ((2 : Int32) * nI h + 1) 64 := by rw [e3]; exact inN (by omega) (by omega)
  have c3 : ((2 : Int32) * nI h + 1).toNatClampNeg = 2 * h + 1 := by rw [e3]; exact clN (by omega)
  refine Mx_in (by decide +kernel) rfl rfl (Ex_wx [] 9 oX9_turn hw ?_)
  refine Ex_v (As := [vI (nI h), vI 0]) (st := []) (d' := 0) vX9_200 rfl rfl (r_row hw (l := 0) rfl) h0 hd rfl (dc_ok oX9_turn rfl) ?_
  refine Ex_wx [] 9 oX9_turn hw ?_
  refine Ex_v (As := [vI (nI h), vI 1]) (st := []) (d' := 0) vX9_200 rfl rfl (r_row hw (l := 1) rfl) h0 hd rfl (dc_ok oX9_turn rfl) ?_
  refine Ex_bn 17 oX9_turn hw ?_
  refine And.intro v3 (And.intro v1 ?_)
  show Ex mX9_turn d 0 0 _ 35 [some (vS 328), some (vI (nI h)), some (vI (nI (100 * h + 50 * 0))), some (vI (nI (100 * h + 50 * 1))), some (vI (nI 0))] [] g (up2 I 349 ((2 : Int32) * nI h).toNatClampNeg (I 349 ((2 : Int32) * nI h + 1).toNatClampNeg)) L
  rw [c1, c3, hm, Nat.mul_zero, Nat.mul_one, Nat.add_zero]
  refine r_turnL hw hh hm5 he _ 0 _ rfl (Nat.zero_le _) up2_s (fun i k _ _ h => by omega) ?_
  intro i k h1 h2
  exact up2_n (by omega)
def longI (I : aI) (us : Nat) (lg v n : Int32) : aI := up2 (up2 (up2 (up2 I 328 10 (nI us)) 337 us lg) 338 us v) 339 us n
theorem r_longer {e : mE} {j : Nat} {v : Int32} (hw : WS lx ly g) (hL : Lr F I e) (hi : invL e) (hu1 : 1 ≤ e.us) (hu : e.us ≤ 2000) (hj : j < e.us) : Mx mX9_longer d 0 0 [vS 328, vI (nI j), vI v] g I L (qV (some (vI (if lenF e (nI j) = 60 then nI j else nI e.us))) g (if lenF e (nI j) = 60 then up2 I 328 33 1 else longI I e.us (nI j) v (lenF e (nI j) + 1)) L) := by
  have hlen := Sr.len (l := 0) hL (by omega) hj
  refine Mx_in (by decide +kernel) rfl rfl (Ex_wx [18] 9 oX9_longer hw ?_)
  refine And.intro (inN (by omega) (by omega)) ?_
  rw [clN (by omega), hlen]
  refine And.intro (fun c => ?_) (fun c => ?_)
  · rw [if_pos c, if_pos c]
    exact ⟨Or.inr rfl, rfl, rfl, rfl, rfl⟩
  · rw [if_neg c, if_neg c]
    refine Ex_bn 6 oX9_longer hw ?_
    have e1 : I 328 10 + 1 = nI e.us := by
      rw [hL.1, nI_1]; congr 1; omega
    show Ex mX9_longer d 0 0 _ 28 [some (vS 328), some (vI (nI j)), some (vI v)] [] g (up2 I 328 10 (I 328 10 + 1)) L
    rw [e1]
    refine Ex_wx [] 9 oX9_longer hw ?_
    have v1 : vp_in (nI e.us) 2002 := inN (by omega) (by omega)
    have c1 : (nI e.us).toNatClampNeg = e.us := clN (by omega)
    have a1 : up2 I 328 10 (nI e.us) 328 10 = nI e.us := up2_s
    have a2 : ∀ k w, up2 (up2 I 328 10 (nI e.us)) 337 k w 328 10 = nI e.us := fun k w => by rw [up2_i (by omega)]; exact a1
    have a3 : ∀ k w k' w', up2 (up2 (up2 I 328 10 (nI e.us)) 337 k w) 338 k' w' 328 10 = nI e.us := fun k w k' w' => by rw [up2_i (by omega)]; exact a2 k w
    have a4 : ∀ k w k' w' k'' w'', up2 (up2 (up2 (up2 I 328 10 (nI e.us)) 337 k w) 338 k' w') 339 k'' w'' 328 10 = nI e.us := fun k w k' w' k'' w'' => by rw [up2_i (by omega)]; exact a3 k w k' w'
    have a5 : ∀ k w k' w', up2 (up2 (up2 I 328 10 (nI e.us)) 337 k w) 338 k' w' 339 j = lenF e (nI j) := fun k w k' w' => by rw [up2_i (by omega), up2_i (by omega), up2_i (by omega)]; exact hlen
    refine And.intro (by rw [a1]; exact v1) ?_
    refine And.intro (by rw [a2]; exact v1) ?_
    refine And.intro (inN (by omega) (by omega)) ?_
    refine And.intro (by rw [a3]; exact v1) ?_
    refine ⟨?_, rfl, ?_, rfl⟩
    · rw [a4]
    · rw [a3, a2, a1, c1, clN (by omega), a5]
      rfl
end Ref3
end
section
/-! the reference: push -/
theorem up2_x {J : aI} {i k m : Nat} {w : Int32} (h : i ≠ 328) : up2 J i k w 328 m = J 328 m := up2_i (fun q => h q.symm)
def Fresh (F : mF) (I : aI) (h t : Nat) (env : Nat → Int32) (s0 l0 : Int32) : Prop := Fr F I h t env s0 l0 ∧ I 341 h = 0 ∧ I 342 h = 0 ∧ I 343 h = 0 ∧ I 349 (2 * h) = 0 ∧ I 349 (2 * h + 1) = 0
def PushP (F : mF) (I : aI) (lim : Nat) (e : mE) (hi t : Nat) (env : Nat → Int32) (I' : aI) : Prop :=
  (lim ≤ mE.sp e ∧ I' 328 33 = 1 ∧ ∀ i k, ¬ (i = 328 ∧ k = 33) → I' i k = I i k) ∨
  (mE.sp e < lim ∧ Sr F I' lim ((mE.sp e + 1, e.2) : mE) (hi + 1) ∧ Fresh F I' hi t env (mE.s e) (mE.l e) ∧ Bl I I' hi)
section Push
variable {lx ly : Nat} {g : aG} {I : aI} {L : aL} {d hi t lim : Nat} {F : mF} {fr n v st lg : Int32} {src : Nat → Int32} {e : mE} {Q : aQ}
theorem r_pushL (hw : WS lx ly g) (hh : hi < 32) (h14 : I 328 14 = nI hi) (hf : (fr = -1 ∧ ∀ k, src k = 0) ∨ ∃ h, h < hi ∧ fr = nI h ∧ ∀ k, k < 8 → I 348 (8 * h + k) = src k)
    (K : ∀ I1 : aI, (∀ j, j < 8 → I1 348 (8 * hi + j) = src j) → (∀ i m, ¬ (i = 348 ∧ 8 * hi ≤ m ∧ m < 8 * hi + 8) → I1 i m = I i m) → Ex mX9_push d 0 0 Q 79 [some (vS 328), some (vI (nI t)), some (vI fr), some (vI n), some (vI v), some (vI st), some (vI lg), some (vI (nI 8))] [] g I1 L) :
    ∀ (c k : Nat) (I1 : aI), 8 - k = c → k ≤ 8 → (∀ j, j < k → I1 348 (8 * hi + j) = src j) → (∀ i m, ¬ (i = 348 ∧ 8 * hi ≤ m ∧ m < 8 * hi + 8) → I1 i m = I i m) → Ex mX9_push d 0 0 Q 30 [some (vS 328), some (vI (nI t)), some (vI fr), some (vI n), some (vI v), some (vI st), some (vI lg), some (vI (nI k))] [] g I1 L := by
  intro c
  induction c with
  | zero =>
    intro k I1 hc hk ha hb
    have : k = 8 := by omega
    subst this
    refine Ex_wx [79] 9 oX9_push hw ?_
    refine And.intro (fun _ => K I1 ha hb) (fun c => absurd (Int32.le_refl _) c)
  | succ c ih =>
    intro k I1 hc hk ha hb
    have q14 : I1 328 14 = nI hi := by rw [hb _ _ (by omega)]; exact h14
    have e1 : (8 : Int32) * I1 328 14 + nI k = nI (8 * hi + k) := by rw [q14, show (8 : Int32) * nI hi = nI (8 * hi) from nI_mul 8 hi, nI_add]
    have v1 : vp_in ((8 : Int32) * I1 328 14 + nI k) 256 := by rw [e1]; exact inN (by omega) (by omega)
    have c1 : ((8 : Int32) * I1 328 14 + nI k).toNatClampNeg = 8 * hi + k := by rw [e1]; exact clN (by omega)
    have fin : ∀ w : Int32, w = src k → Ex mX9_push d 0 0 Q 30 [some (vS 328), some (vI (nI t)), some (vI fr), some (vI n), some (vI v), some (vI st), some (vI lg), some (vI (nI k + 1))] [] g (up2 I1 348 ((8 : Int32) * I1 328 14 + nI k).toNatClampNeg w) L := by
      intro w hwv
      rw [c1, nI_1]
      refine ih (k + 1) _ (by omega) (by omega) ?_ ?_
      · intro j hj
        by_cases hjk : j = k
        · subst hjk; rw [up2_s]; exact hwv
        · rw [up2_k (by omega)]; exact ha j (by omega)
      · intro i m hm
        rw [up2_n (by omega)]; exact hb i m hm
    refine Ex_wx [30] 9 oX9_push hw ?_
    refine And.intro (fun c => absurd (leN (a := 8) c (by omega) (by omega)) (by omega)) (fun _ => ?_)
    rcases hf with ⟨rfl, hs⟩ | ⟨h, hhi, rfl, hs⟩
    · refine And.intro (fun _ => ?_) (fun c => absurd rfl c)
      refine And.intro v1 ?_
      exact fin 0 (hs k).symm
    · refine And.intro (fun c => ?_) (fun _ => ?_)
      · exact absurd (by rw [c]; decide : nI h < 0) (nI_pos (by omega))
      · have e2 : (8 : Int32) * nI h + nI k = nI (8 * h + k) := by rw [show (8 : Int32) * nI h = nI (8 * h) from nI_mul 8 h, nI_add]
        refine And.intro (by rw [e2]; exact inN (by omega) (by omega)) ?_
        refine And.intro v1 ?_
        exact fin _ (by rw [e2, clN (by omega), hb _ _ (by omega)]; exact hs k (by omega))
theorem r_pushT {env : Nat → Int32} {I2 : aI} (hw : WS lx ly g) (hh : hi < 32) (hS : Sr F I lim e hi) (hsp : mE.sp e < lim) (hs : F.1 = true → st = mE.s e) (hl : F.2.1 = true → lg = mE.l e)
    (ha : ∀ j, j < 8 → I2 348 (8 * hi + j) = env j) (hb : ∀ i m, ¬ (i = 348 ∧ 8 * hi ≤ m ∧ m < 8 * hi + 8) → I2 i m = up2 I 328 31 (nI (mE.sp e + 1)) i m) {w : Option aV} :
    Ex mX9_push d 0 0 (rQ g L (PushP F I lim e hi t env)) 100 [some (vS 328), some (vI (nI t)), some (vI fr), some (vI n), some (vI v), some (vI st), some (vI lg), w] [] g I2 L := by
  obtain ⟨⟨s1, s2, s3, s4, s5, s6⟩, l1, l2, l3, l4, l5⟩ := hS
  have q14 : I2 328 14 = nI hi := by rw [hb _ _ (by omega), up2_k (by omega)]; exact s1
  have hc : (nI hi).toNatClampNeg = hi := clN (by omega)
  have hv : vp_in (nI hi) 32 := inN hh (by omega)
  have e1 : (2 : Int32) * nI hi = nI (2 * hi) := nI_mul 2 hi
  have hv2 : vp_in (nI (2 * hi)) 64 := inN (by omega) (by omega)
  have hc2 : (nI (2 * hi)).toNatClampNeg = 2 * hi := clN (by omega)
  have hv3 : vp_in (nI (2 * hi + 1)) 64 := inN (by omega) (by omega)
  have hc3 : (nI (2 * hi + 1)).toNatClampNeg = 2 * hi + 1 := clN (by omega)
  refine Ex_wx [] 9 oX9_push hw ?_
  refine And.intro (by rw [q14]; exact hv) ?_
  refine And.intro (by simp only [up2_x (i := 340) (by decide)]; rw [q14]; exact hv) ?_
  refine And.intro (by simp only [up2_x (i := 340) (by decide), up2_x (i := 341) (by decide)]; rw [q14]; exact hv) ?_
  refine And.intro (by simp only [up2_x (i := 340) (by decide), up2_x (i := 341) (by decide), up2_x (i := 342) (by decide)]; rw [q14]; exact hv) ?_
  refine And.intro (by simp only [up2_x (i := 340) (by decide), up2_x (i := 341) (by decide), up2_x (i := 342) (by decide), up2_x (i := 343) (by decide)]; rw [q14]; exact hv) ?_
  refine And.intro (by simp only [up2_x (i := 340) (by decide), up2_x (i := 341) (by decide), up2_x (i := 342) (by decide), up2_x (i := 343) (by decide), up2_x (i := 344) (by decide)]; rw [q14]; exact hv) ?_
  refine And.intro (by simp only [up2_x (i := 340) (by decide), up2_x (i := 341) (by decide), up2_x (i := 342) (by decide), up2_x (i := 343) (by decide), up2_x (i := 344) (by decide), up2_x (i := 345) (by decide)]; rw [q14]; exact hv) ?_
  refine And.intro (by simp only [up2_x (i := 340) (by decide), up2_x (i := 341) (by decide), up2_x (i := 342) (by decide), up2_x (i := 343) (by decide), up2_x (i := 344) (by decide), up2_x (i := 345) (by decide), up2_x (i := 346) (by decide)]; rw [q14]; exact hv) ?_
  refine And.intro (by simp only [up2_x (i := 340) (by decide), up2_x (i := 341) (by decide), up2_x (i := 342) (by decide), up2_x (i := 343) (by decide), up2_x (i := 344) (by decide), up2_x (i := 345) (by decide), up2_x (i := 346) (by decide), up2_x (i := 347) (by decide)]; rw [q14, e1]; exact hv2) ?_
  refine And.intro (by simp only [up2_x (i := 340) (by decide), up2_x (i := 341) (by decide), up2_x (i := 342) (by decide), up2_x (i := 343) (by decide), up2_x (i := 344) (by decide), up2_x (i := 345) (by decide), up2_x (i := 346) (by decide), up2_x (i := 347) (by decide), up2_x (i := 349) (by decide)]; rw [q14, e1, nI_1]; exact hv3) ?_
  refine ⟨rfl, rfl, rfl, Or.inr ?_⟩
  simp only [up2_x (i := 340) (by decide), up2_x (i := 341) (by decide), up2_x (i := 342) (by decide), up2_x (i := 343) (by decide), up2_x (i := 344) (by decide), up2_x (i := 345) (by decide), up2_x (i := 346) (by decide), up2_x (i := 347) (by decide), up2_x (i := 349) (by decide), q14, e1, nI_1, hc, hc2, hc3]
  have q29 : I2 328 29 = I 328 29 := by rw [hb _ _ (by omega), up2_k (by omega)]
  have q30 : I2 328 30 = I 328 30 := by rw [hb _ _ (by omega), up2_k (by omega)]
  rw [q29, q30]
  have ot : ∀ i k, ¬ (340 ≤ i ∧ i ≤ 347 ∧ k = hi) → ¬ (i = 349 ∧ (k = 2 * hi ∨ k = 2 * hi + 1)) → ¬ (i = 328 ∧ k = 14) → up2 (up2 (up2 (up2 (up2 (up2 (up2 (up2 (up2 (up2 (up2 I2 340 hi (nI t)) 341 hi 0) 342 hi 0) 343 hi 0) 344 hi st) 345 hi lg) 346 hi (I 328 29)) 347 hi (I 328 30)) 349 (2 * hi) 0) 349 (2 * hi + 1) 0) 328 14 (nI (hi + 1)) i k = I2 i k := by
    intro i k h1 h2 h3
    rw [up2_n (by omega), up2_n (by omega), up2_n (by omega), up2_n (by omega), up2_n (by omega), up2_n (by omega), up2_n (by omega), up2_n (by omega), up2_n (by omega), up2_n (by omega), up2_n (by omega)]
  refine ⟨hsp, ?_, ?_, ?_⟩
  · refine ⟨⟨up2_s, ?_, ?_, ?_, ?_, ?_⟩, ?_⟩
    · rw [ot _ _ (by omega) (by omega) (by omega), hb _ _ (by omega)]; exact up2_s
    · rw [ot _ _ (by omega) (by omega) (by omega), hb _ _ (by omega), up2_k (by omega)]; exact s3
    · rw [ot _ _ (by omega) (by omega) (by omega), hb _ _ (by omega), up2_k (by omega)]; exact s4
    · rw [ot _ _ (by omega) (by omega) (by omega), hb _ _ (by omega), up2_k (by omega)]; exact s5
    · rw [ot _ _ (by omega) (by omega) (by omega), hb _ _ (by omega), up2_k (by omega)]; exact s6
    · refine Lr.eq (I := I) (e := ((mE.sp e + 1, e.2) : mE)) ⟨l1, l2, l3, l4, l5⟩ ?_
      intro i k c
      rw [ot _ _ (by omega) (by omega) (by omega), hb _ _ (by omega), up2_n (by omega)]
  · refine ⟨⟨?_, ?_, ?_, ?_, ?_, ?_⟩, ?_, ?_, ?_, ?_, ?_⟩
    · rw [up2_i (by omega), up2_i (by omega), up2_i (by omega), up2_i (by omega), up2_i (by omega), up2_i (by omega), up2_i (by omega), up2_i (by omega), up2_i (by omega), up2_i (by omega)]; exact up2_s
    · intro k hk
      rw [ot _ _ (by omega) (by omega) (by omega)]; exact ha k hk
    · intro c
      rw [up2_i (by omega), up2_i (by omega), up2_i (by omega), up2_i (by omega), up2_i (by omega), up2_i (by omega), up2_s]; exact hs c
    · intro c
      rw [up2_i (by omega), up2_i (by omega), up2_i (by omega), up2_i (by omega), up2_s]; exact l4 c
    · intro c
      rw [up2_i (by omega), up2_i (by omega), up2_i (by omega), up2_i (by omega), up2_i (by omega), up2_s]; exact hl c
    · intro c
      rw [up2_i (by omega), up2_i (by omega), up2_i (by omega), up2_s]; exact l5 c
    · rw [up2_i (by omega), up2_i (by omega), up2_i (by omega), up2_i (by omega), up2_i (by omega), up2_i (by omega), up2_i (by omega), up2_i (by omega), up2_i (by omega)]; exact up2_s
    · rw [up2_i (by omega), up2_i (by omega), up2_i (by omega), up2_i (by omega), up2_i (by omega), up2_i (by omega), up2_i (by omega), up2_i (by omega)]; exact up2_s
    · rw [up2_i (by omega), up2_i (by omega), up2_i (by omega), up2_i (by omega), up2_i (by omega), up2_i (by omega), up2_i (by omega)]; exact up2_s
    · rw [up2_i (by omega), up2_k (by omega)]; exact up2_s
    · rw [up2_i (by omega)]; exact up2_s
  · intro i k hk
    unfold kp at hk
    rw [ot _ _ (by omega) (by omega) (by omega), hb _ _ (by omega), up2_n (by omega)]
theorem r_push (hw : WS lx ly g) (hh : hi < 32) (hS : Sr F I lim e hi) (hspl : mE.sp e ≤ lim) (hlim : lim ≤ 2000) (hf : (fr = -1 ∧ ∀ k, src k = 0) ∨ ∃ h, h < hi ∧ fr = nI h ∧ ∀ k, k < 8 → I 348 (8 * h + k) = src k) (hn : n = -1 ∨ ∃ j, j < 8 ∧ n = nI j) (hs : F.1 = true → st = mE.s e) (hl : F.2.1 = true → lg = mE.l e) :
    Mx mX9_push d 0 0 [vS 328, vI (nI t), vI fr, vI n, vI v, vI st, vI lg] g I L (rQ g L (PushP F I lim e hi t (upE src n v))) := by
  have s1 := hS.1.1
  have s2 := hS.1.2.1
  have s3 := hS.1.2.2.1
  refine Mx_in (by decide +kernel) rfl rfl (Ex_wx [17] 9 oX9_push hw ?_)
  refine And.intro (fun c => ?_) (fun c => ?_)
  · rw [s2, s3] at c
    have := eqN c (by omega) (by omega)
    refine ⟨Or.inr rfl, rfl, rfl, rfl, Or.inl ⟨by omega, up2_s, fun i k h => up2_n (by omega)⟩⟩
  · rw [s2, s3] at c
    have hlt : mE.sp e < lim := by
      rcases Nat.lt_or_ge (mE.sp e) lim with h | h
      · exact h
      · exact absurd (by rw [show mE.sp e = lim by omega]) c
    refine Ex_bn 8 oX9_push hw ?_
    show Ex mX9_push d 0 0 _ 30 [some (vS 328), some (vI (nI t)), some (vI fr), some (vI n), some (vI v), some (vI st), some (vI lg), some (vI (nI 0))] [] g (up2 I 328 31 (I 328 31 + 1)) L
    rw [s2, nI_1]
    refine r_pushL (I := up2 I 328 31 (nI (mE.sp e + 1))) (src := src) hw hh (by rw [up2_k (by omega)]; exact s1) ?_ ?_ 8 0 _ rfl (by omega) (fun j hj => by omega) (fun _ _ _ => rfl)
    · rcases hf with h | ⟨h, h1, h2, h3⟩
      · exact Or.inl h
      · exact Or.inr ⟨h, h1, h2, fun k hk => by rw [up2_i (by omega)]; exact h3 k hk⟩
    · intro I1 ha hb
      rcases hn with rfl | ⟨j, hj, rfl⟩
      · refine Ex_wx [100] 9 oX9_push hw ?_
        refine And.intro (fun _ => ?_) (fun c => absurd rfl c)
        exact r_pushT hw hh hS hlt hs hl (fun j hj => by rw [ha j hj, upE, if_neg (by decide)]) hb
      · refine Ex_wx [100, 84] 9 oX9_push hw ?_
        refine And.intro (fun c => ?_) (fun c => ?_)
        · exact absurd (by rw [c]; decide : nI j < 0) (nI_pos (by omega))
        · have q14 : I1 328 14 = nI hi := by rw [hb _ _ (by omega), up2_k (by omega)]; exact s1
          have e1 : (8 : Int32) * I1 328 14 + nI j = nI (8 * hi + j) := by rw [q14, show (8 : Int32) * nI hi = nI (8 * hi) from nI_mul 8 hi, nI_add]
          refine Ex_bn 10 oX9_push hw ?_
          refine And.intro (by rw [e1]; exact inN (by omega) (by omega)) ?_
          show Ex mX9_push d 0 0 _ 100 [some (vS 328), some (vI (nI t)), some (vI fr), some (vI (nI j)), some (vI v), some (vI st), some (vI lg), some (vI (nI 8))] [] g (up2 I1 348 ((8 : Int32) * I1 328 14 + nI j).toNatClampNeg v) L
          rw [e1, clN (by omega)]
          refine r_pushT hw hh hS hlt hs hl ?_ ?_
          · intro k hk
            rw [upE, if_pos (nm_ok hj), clN (by omega), up1]
            by_cases hkj : k = j
            · subst hkj; rw [if_pos rfl]; exact up2_s
            · rw [if_neg hkj, up2_k (by omega)]; exact ha k hk
          · intro i m hm
            rw [up2_n (by omega)]; exact hb i m hm
end Push
end
section
/-! the reference's run against the evaluator: what is to be shown -/
def kR (k : Nat) : Nat := if k = 0 then 0 else if k ≤ 13 then k + 1 else 1
def TrT (I : aI) (b : Nat × Int32 × Int32 × Int32 × Nat × Nat) (t : Nat) : Prop :=
  I 329 t = nI (kR b.1) ∧
  (b.1 ≤ 5 → I 330 t = b.2.2.1 ∧ I 333 t = b.2.1 ∧ (b.2.1 = 0 ∨ (b.2.1 = 1 ∧ ∃ j, j < 8 ∧ b.2.2.1 = nI j))) ∧
  (14 ≤ b.1 → b.2.1 = 1 ∧ I 333 t = 0 ∧ I 332 t = nI (b.1 - 14) ∧ I 330 t = b.2.2.1 ∧ I 331 t = b.2.2.2.1 ∧ (∃ j, j < 8 ∧ b.2.2.1 = nI j) ∧ ∃ j, j < 8 ∧ b.2.2.2.1 = nI j) ∧
  (6 ≤ b.1 → b.1 ≤ 13 → I 330 t = nI b.2.2.2.2.1) ∧
  (6 ≤ b.1 → b.1 ≤ 9 → I 331 t = nI b.2.2.2.2.2) ∧
  (7 ≤ b.1 → b.1 ≤ 9 → I 332 t = b.2.2.2.1 ∧ ∃ j, j < 8 ∧ b.2.2.2.1 = nI j) ∧
  (b.1 = 10 → I 331 t = b.2.2.1 ∧ I 333 t = b.2.1 ∧ (b.2.1 = 0 ∨ (b.2.1 = 1 ∧ ∃ j, j < 8 ∧ b.2.2.1 = nI j)))
def Tr (I : aI) (p : Nat → Int32) (B : mB) (cnt : Nat) : Prop := I 336 = p ∧ ∀ t, t < cnt → TrT I (B t) t
theorem Tr.bl {I I' : aI} {p : Nat → Int32} {B : mB} {cnt h : Nat} (q : Tr I p B cnt) (a : Bl I I' h) : Tr I' p B cnt := by
  have e0 : I' 336 = I 336 := a.id (by omega)
  have e1 : I' 329 = I 329 := a.id (by omega)
  have e2 : I' 330 = I 330 := a.id (by omega)
  have e3 : I' 331 = I 331 := a.id (by omega)
  have e4 : I' 332 = I 332 := a.id (by omega)
  have e5 : I' 333 = I 333 := a.id (by omega)
  refine ⟨e0.trans q.1, fun t ht => ?_⟩
  have h9 := q.2 t ht
  unfold TrT at h9 ⊢
  rw [e1, e2, e3, e4, e5]
  exact h9
def Bw (B : mB) (hg : Nat → Nat) (cnt : Nat) : Prop := ∀ t, t < cnt → (B t).1 ≤ 18 ∧ 1 ≤ hg t ∧ (6 ≤ (B t).1 → (B t).1 ≤ 13 → (B t).2.2.2.2.1 < cnt ∧ hg (B t).2.2.2.2.1 < hg t) ∧ (6 ≤ (B t).1 → (B t).1 ≤ 9 → (B t).2.2.2.2.2 < cnt ∧ hg (B t).2.2.2.2.2 < hg t)
def okB (p : Nat → Int32) (B : mB) (cnt : Nat) (okT : Nat → Prop) : Prop := ∀ t, t < cnt → okT t → ((B t).1 = 4 ∨ (B t).1 = 8 → hsF p 2 = true) ∧ ((B t).1 = 13 → hsF p 1 = true) ∧ (6 ≤ (B t).1 → (B t).1 ≤ 13 → okT (B t).2.2.2.2.1) ∧ (6 ≤ (B t).1 → (B t).1 ≤ 9 → okT (B t).2.2.2.2.2)
def Wd (lx ly : Nat) (g : aG) (p : Nat → Int32) (B : mB) (hg : Nat → Nat) (cnt lim : Nat) (okT : Nat → Prop) : Prop := WS lx ly g ∧ lim ≤ 2000 ∧ cnt ≤ 80 ∧ Bw B hg cnt ∧ okB p B cnt okT
def stepR (g : aG) (L : aL) (Run : aI → Prop) : Prop := ∀ (I : aI) (hi : Nat), I 328 14 = nI (hi + 1) → hi < 31 → I 328 33 = 0 → Mx mX9_go 6 0 0 [vS 328] g I L (rQ g L Run) → Run I
def UR (g : aG) (L : aL) (Run : aI → Prop) (I : aI) (v : Int32) : Prop := Ex mX9_unwind 4 0 0 (rQ g L Run) 10 [some (vS 328), some (vI v), none] [] g I L
def Cont (g : aG) (L : aL) (F : mF) (lim : Nat) (Run : aI → Prop) (q : mO) (I : aI) (h : Nat) : Prop :=
  (q.1 = 0 → ∀ I', Sr F I' lim q.2.2 h → I' 349 (2 * h + 1) = nI q.2.1.length → Rr F I' (100 * h + 50) q.2.1 → Bl I I' h → Run I') ∧
  (q.1 = 1 → ∀ I', Sr F I' lim q.2.2 h → Bl I I' h → UR g L Run I' (mE.en q.2.2)) ∧
  (q.1 = 2 → ∀ I', OutS F I' → Bl I I' 0 → Run I')
theorem Cont.bl {g : aG} {L : aL} {F : mF} {lim : Nat} {Run : aI → Prop} {q : mO} {I I1 : aI} {h : Nat} (c : Cont g L F lim Run q I h) (b : Bl I I1 h) : Cont g L F lim Run q I1 h :=
  ⟨fun q0 I' a1 a2 a3 a4 => c.1 q0 I' a1 a2 a3 (b.trans a4), fun q0 I' a1 a2 => c.2.1 q0 I' a1 (b.trans a2), fun q0 I' a1 a2 => c.2.2 q0 I' a1 ((b.mono (Nat.zero_le _)).trans a2)⟩
def Pd (F : mF) (lim : Nat) (e : mE) (h t : Nat) (env : Nat → Int32) (I : aI) : Prop := (lim ≤ mE.sp e ∧ OutS F I) ∨ (mE.sp e < lim ∧ Sr F I lim ((mE.sp e + 1, e.2) : mE) (h + 1) ∧ Fresh F I h t env (mE.s e) (mE.l e))
def simC (g : aG) (L : aL) (p : Nat → Int32) (B : mB) (hg : Nat → Nat) (cnt lim : Nat) (okT : Nat → Prop) (Run : aI → Prop) (f : Nat) : Prop := ∀ (t h : Nat) (env : Nat → Int32) (e : mE) (I : aI), t < cnt → hg t ≤ f → okT t → h + hg t ≤ 30 → invE lim e → invL e → Tr I p B cnt → Pd (flF p) lim e h t env I → Cont g L (flF p) lim Run (ev (flF p) B lim f t env e) I h → Run I
theorem invE.us {lim : Nat} {e : mE} (h : invE lim e) (hl : lim ≤ 2000) : mE.us e ≤ 2001 := by
  have h1 := h.2.1
  have h2 := h.2.2
  omega
theorem Sr.out {F : mF} {I I' : aI} {lim hi : Nat} {e : mE} (h : Sr F I lim e hi) (h1 : I' 328 33 = 1) (a : ∀ i k, (i = 328 ∧ (k = 10 ∨ k = 29 ∨ k = 30)) ∨ (337 ≤ i ∧ i ≤ 339) → I' i k = I i k) (hl : invL e) (hE : invE lim e) (hlim : lim ≤ 2000) : OutS F I' := ⟨h1, e, hl, hE.1, hE.us hlim, h.2.eq a⟩
theorem PushP.pd {F : mF} {I I' : aI} {lim hi t : Nat} {e : mE} {env : Nat → Int32} (h : PushP F I lim e hi t env I') (hS : Sr F I lim e hi) (hl : invL e) (hE : invE lim e) (hlim : lim ≤ 2000) : Pd F lim e hi t env I' ∧ Bl I I' hi := by
  rcases h with ⟨h1, h2, h3⟩ | ⟨h1, h2, h3, h4⟩
  · exact ⟨Or.inl ⟨h1, hS.out h2 (fun i k c => h3 i k (by omega)) hl hE hlim⟩, fun i k c => h3 i k (by unfold kp at c; omega)⟩
  · exact ⟨Or.inr ⟨h1, h2, h3⟩, h4⟩
theorem Sr.own_s {F : mF} {I : aI} {lim hi : Nat} {e : mE} {x : Int32} (c : F.1 = true) (h : Sr F I lim e hi) : Sr F I lim (setSL e x (mE.l e)) hi := ⟨h.1, h.2.1, h.2.2.1, h.2.2.2.1, fun q => (by rw [c] at q; cases q), h.2.2.2.2.2⟩
theorem Sr.put_s {F : mF} {I : aI} {lim hi : Nat} {e : mE} {x : Int32} (h : Sr F I lim e hi) : Sr F (up2 I 328 29 x) lim (setSL e x (mE.l e)) hi := by
  obtain ⟨⟨h1, h2, h3, h4, h5, h6⟩, l1, ⟨l2, l3, l4⟩, l5, l6, l7⟩ := h
  refine ⟨⟨?_, ?_, ?_, ?_, ?_, ?_⟩, ?_, ⟨?_, ?_, ?_⟩, fun k k1 k2 => ?_, fun _ => up2_s, fun c => ?_⟩
  · rw [up2_k (by omega)]; exact h1
  · rw [up2_k (by omega)]; exact h2
  · rw [up2_k (by omega)]; exact h3
  · rw [up2_k (by omega)]; exact h4
  · rw [up2_k (by omega)]; exact h5
  · rw [up2_k (by omega)]; exact h6
  · rw [up2_k (by omega)]; exact l1
  · rw [up2_i (by omega)]; exact l2
  · rw [up2_i (by omega)]; exact l3
  · rw [up2_i (by omega)]; exact l4
  · rw [up2_i (by omega), up2_i (by omega), up2_i (by omega)]; exact l5 k k1 k2
  · rw [up2_k (by omega)]; exact l7 c
theorem long_else {I : aI} {us i k : Nat} {lg v n : Int32} (h : ¬ (i = 328 ∧ k = 10) ∧ ¬ (337 ≤ i ∧ i ≤ 339 ∧ k = us)) : longI I us lg v n i k = I i k := by
  unfold longI
  rw [up2_n (by omega), up2_n (by omega), up2_n (by omega), up2_n (by omega)]
theorem Sr.say {F : mF} {I : aI} {lim hi : Nat} {e : mE} {x : Int32} (h : Sr F I lim e hi) (hu : 1 ≤ mE.us e) (c : F.2.1 = true) : Sr F (longI I (mE.us e) (mE.l e) x (lenF e (mE.l e) + 1)) lim (sayF e x) hi := by
  obtain ⟨⟨h1, h2, h3, h4, h5, h6⟩, l1, ⟨l2, l3, l4⟩, l5, l6, l7⟩ := h
  refine ⟨⟨?_, ?_, ?_, ?_, ?_, ?_⟩, ?_, ⟨?_, ?_, ?_⟩, fun k k1 k2 => ?_, fun c => ?_, fun q => (by rw [c] at q; cases q)⟩
  · rw [long_else (by omega)]; exact h1
  · rw [long_else (by omega)]; exact h2
  · rw [long_else (by omega)]; exact h3
  · rw [long_else (by omega)]; exact h4
  · rw [long_else (by omega)]; exact h5
  · rw [long_else (by omega)]; exact h6
  · show longI I (mE.us e) (mE.l e) x (lenF e (mE.l e) + 1) 328 10 = nI (mE.us e + 1 - 1)
    rw [Nat.add_sub_cancel]
    unfold longI
    rw [up2_i (by omega), up2_i (by omega), up2_i (by omega)]; exact up2_s
  · rw [long_else (by omega)]; exact l2
  · rw [long_else (by omega)]; exact l3
  · rw [long_else (by omega)]; exact l4
  · have k3 : k < mE.us e + 1 := k2
    show _ = up1 (mE.nu e) (mE.us e) x k ∧ _ = up1 (mE.be e) (mE.us e) (mE.l e) k ∧ _ = up1 (mE.le e) (mE.us e) (lenF e (mE.l e) + 1) k
    unfold up1
    by_cases hk : k = mE.us e
    · subst hk
      rw [if_pos rfl, if_pos rfl, if_pos rfl]
      unfold longI
      refine ⟨?_, ?_, up2_s⟩
      · rw [up2_i (by omega)]; exact up2_s
      · rw [up2_i (by omega), up2_i (by omega)]; exact up2_s
    · rw [if_neg hk, if_neg hk, if_neg hk, long_else (by omega), long_else (by omega), long_else (by omega)]
      exact l5 k k1 (by omega)
  · rw [long_else (by omega)]; exact l6 c
theorem Sr.sayS {F : mF} {I : aI} {lim hi : Nat} {e : mE} {x : Int32} (h : Sr F I lim e hi) (hu : 1 ≤ mE.us e) : Sr F (up2 (longI I (mE.us e) (mE.l e) x (lenF e (mE.l e) + 1)) 328 30 (nI (mE.us e))) lim (sayF e x) hi := by
  have h9 := Sr.say (F := (F.1, true, F.2.2)) (x := x) (I := I) (lim := lim) (hi := hi) (e := e) ⟨h.1, h.2.1, h.2.2.1, h.2.2.2.1, h.2.2.2.2.1, fun q => by cases q⟩ hu rfl
  obtain ⟨⟨h1, h2, h3, h4, h5, h6⟩, l1, ⟨l2, l3, l4⟩, l5, l6, l7⟩ := h9
  refine ⟨⟨?_, ?_, ?_, ?_, ?_, ?_⟩, ?_, ⟨?_, ?_, ?_⟩, fun k k1 k2 => ?_, fun c => ?_, fun _ => up2_s⟩
  · rw [up2_k (by omega)]; exact h1
  · rw [up2_k (by omega)]; exact h2
  · rw [up2_k (by omega)]; exact h3
  · rw [up2_k (by omega)]; exact h4
  · rw [up2_k (by omega)]; exact h5
  · rw [up2_k (by omega)]; exact h6
  · rw [up2_k (by omega)]; exact l1
  · rw [up2_i (by omega)]; exact l2
  · rw [up2_i (by omega)]; exact l3
  · rw [up2_i (by omega)]; exact l4
  · rw [up2_i (by omega), up2_i (by omega), up2_i (by omega)]; exact l5 k k1 k2
  · rw [up2_k (by omega)]; exact l6 c
theorem Sr.high {F : mF} {I : aI} {lim hi hi' : Nat} {e : mE} (h : Sr F I lim e hi) : Sr F (up2 I 328 14 (nI hi')) lim e hi' := by
  obtain ⟨⟨h1, h2, h3, h4, h5, h6⟩, l⟩ := h
  refine ⟨⟨up2_s, ?_, ?_, ?_, ?_, ?_⟩, l.eq (fun i k c => up2_n (by omega))⟩
  · rw [up2_k (by omega)]; exact h2
  · rw [up2_k (by omega)]; exact h3
  · rw [up2_k (by omega)]; exact h4
  · rw [up2_k (by omega)]; exact h5
  · rw [up2_k (by omega)]; exact h6
theorem high_bl {I : aI} {h : Nat} {x : Int32} : Bl I (up2 I 328 14 x) h := fun i k c => up2_n (by unfold kp at c; omega)
theorem Ex_r {M N : aM} {d d' : Nat} {Q : aQ} {pc idx n ci i : Nat} {own : String} {lo : List (Option aV)} {st As : List aV} {g : aG} {I : aI} {L : aL} {P : aI → Prop} (ok : vOk own N idx n ci) (ho : M.y.cls = own) (hn : As.length = n) (hM : Mx N d' 0 0 (vS i :: As) g I L (rQ g L P)) (hi : g.2.1 i = some (.inl ci)) (hd' : d' + 1 ≤ d) (hst : Nat.ble (catL st) 8 = true) (hd : decode M.cc pc = .ok (.invokevirtual idx, 3))
    (kk : ∀ I1, P I1 → Ex M d 0 0 Q (pc + 3) lo st g I1 L) : Ex M d 0 0 Q pc lo (As.reverse ++ vS i :: st) g I L := by
  refine Ex_cV (kc := 0) (ks := 0) (kc' := 0) (ks' := 0) ok ho hn hi hM hd' hst hd ?_ (fun E g' I' L' hq => absurd hq rQ_no)
  rintro w g' I1 L' ⟨h1, rfl, rfl, hP⟩
  cases h1
  exact kk I1 hP
section Go
variable {lx ly : Nat} {g : aG} {I : aI} {L : aL} {h t k : Nat} {P : aI → Prop}
theorem r_goH (hw : WS lx ly g) (h14 : I 328 14 = nI (h + 1)) (hh : h < 32) (ht : I 340 h = nI t) (K : Ex mX9_go 6 0 0 (rQ g L P) 14 [some (vS 328), some (vI (nI h)), some (vI (nI t))] [] g I L) : Mx mX9_go 6 0 0 [vS 328] g I L (rQ g L P) := by
  have e1 : I 328 14 - 1 = nI h := by rw [h14, nI_pred]
  refine Mx_in (by decide +kernel) rfl rfl (Ex_bn 5 oX9_go hw ?_)
  show Ex mX9_go 6 0 0 _ 7 [some (vS 328), some (vI (I 328 14 - 1)), none] [] g I L
  rw [e1]
  refine Ex_bn 5 oX9_go hw ?_
  refine And.intro (inN hh (by omega)) ?_
  show Ex mX9_go 6 0 0 _ 14 [some (vS 328), some (vI (nI h)), some (vI (I 340 (nI h).toNatClampNeg))] [] g I L
  rw [clN (by omega), ht]
  exact K
theorem r_go_leaf (hw : WS lx ly g) (h14 : I 328 14 = nI (h + 1)) (hh : h < 32) (ht : I 340 h = nI t) (h80 : t < 80) (hk : I 329 t = nI k) (hk6 : k ≤ 6) (hM : Mx mX9_leaf 5 0 0 [vS 328, vI (nI h)] g I L (rQ g L P)) : Mx mX9_go 6 0 0 [vS 328] g I L (rQ g L P) := by
  have h0 := (hw 328 _ rfl).2.1
  have hk2 : I 329 (nI t).toNatClampNeg = nI k := by rw [clN (by omega)]; exact hk
  have hv : vp_in (nI t) 80 := inN h80 (by omega)
  refine r_goH hw h14 hh ht (Ex_wx [33] 9 oX9_go hw ?_)
  refine And.intro hv ?_
  refine And.intro (fun c => absurd (ltN (a := 6) (hk2 ▸ c) (by omega) (by omega)) (by omega)) (fun _ => ?_)
  refine Ex_r (As := [vI (nI h)]) (st := []) vX9_241 rfl rfl hM h0 (by omega) rfl (dc_ok oX9_go rfl) ?_
  intro I1 hP
  refine Ex_wx [] 9 oX9_go hw ?_
  exact ⟨rfl, rfl, rfl, hP⟩
theorem r_go_either (hw : WS lx ly g) (h14 : I 328 14 = nI (h + 1)) (hh : h < 32) (ht : I 340 h = nI t) (h80 : t < 80) (hk : I 329 t = nI 7) (hM : Mx mX9_either_ 5 0 0 [vS 328, vI (nI h)] g I L (rQ g L P)) : Mx mX9_go 6 0 0 [vS 328] g I L (rQ g L P) := by
  have h0 := (hw 328 _ rfl).2.1
  have hk2 : I 329 (nI t).toNatClampNeg = nI 7 := by rw [clN (by omega)]; exact hk
  have hv : vp_in (nI t) 80 := inN h80 (by omega)
  refine r_goH hw h14 hh ht (Ex_wx [] 9 oX9_go hw ?_)
  refine And.intro hv ?_
  refine And.intro (fun _ => ?_) (fun c => absurd (by rw [hk2]; decide) c)
  refine And.intro hv ?_
  refine And.intro (fun _ => ?_) (fun c => absurd hk2 c)
  refine Ex_r (As := [vI (nI h)]) (st := []) vX9_244 rfl rfl hM h0 (by omega) rfl (dc_ok oX9_go rfl) ?_
  intro I1 hP
  refine Ex_wx [] 9 oX9_go hw ?_
  exact ⟨rfl, rfl, rfl, hP⟩
theorem r_go_along (hw : WS lx ly g) (h14 : I 328 14 = nI (h + 1)) (hh : h < 32) (ht : I 340 h = nI t) (h80 : t < 80) (hk : I 329 t = nI k) (hk6 : k = 8 ∨ k = 9) (hM : Mx mX9_along 5 0 0 [vS 328, vI (nI h)] g I L (rQ g L P)) : Mx mX9_go 6 0 0 [vS 328] g I L (rQ g L P) := by
  have h0 := (hw 328 _ rfl).2.1
  have hk2 : I 329 (nI t).toNatClampNeg = nI k := by rw [clN (by omega)]; exact hk
  have hv : vp_in (nI t) 80 := inN h80 (by omega)
  have fin : Ex mX9_go 6 0 0 (rQ g L P) 74 [some (vS 328), some (vI (nI h)), some (vI (nI t))] [] g I L := by
    refine Ex_wx [] 9 oX9_go hw ?_
    refine Ex_r (As := [vI (nI h)]) (st := []) vX9_247 rfl rfl hM h0 (by omega) rfl (dc_ok oX9_go rfl) ?_
    intro I1 hP
    refine Ex_wx [] 9 oX9_go hw ?_
    exact ⟨rfl, rfl, rfl, hP⟩
  refine r_goH hw h14 hh ht (Ex_wx [74] 9 oX9_go hw ?_)
  refine And.intro hv ?_
  refine And.intro (fun _ => ?_) (fun c => absurd (by rw [hk2]; rcases hk6 with rfl | rfl <;> decide) c)
  refine And.intro hv ?_
  refine And.intro (fun c => absurd (hk2 ▸ c) (by rcases hk6 with rfl | rfl <;> decide)) (fun _ => ?_)
  refine And.intro hv ?_
  rcases hk6 with rfl | rfl
  · exact And.intro (fun _ => fin) (fun c => absurd hk2 c)
  · refine And.intro (fun _ => fin) (fun _ => ?_)
    refine And.intro hv ?_
    exact And.intro (fun _ => fin) (fun c => absurd hk2 c)
theorem r_go_choose (hw : WS lx ly g) (h14 : I 328 14 = nI (h + 1)) (hh : h < 32) (ht : I 340 h = nI t) (h80 : t < 80) (hk : I 329 t = nI 10) (hM : Mx mX9_choose 5 0 0 [vS 328, vI (nI h)] g I L (rQ g L P)) : Mx mX9_go 6 0 0 [vS 328] g I L (rQ g L P) := by
  have h0 := (hw 328 _ rfl).2.1
  have hk2 : I 329 (nI t).toNatClampNeg = nI 10 := by rw [clN (by omega)]; exact hk
  have hv : vp_in (nI t) 80 := inN h80 (by omega)
  refine r_goH hw h14 hh ht (Ex_wx [74] 9 oX9_go hw ?_)
  refine And.intro hv ?_
  refine And.intro (fun _ => ?_) (fun c => absurd (by rw [hk2]; decide) c)
  refine And.intro hv ?_
  refine And.intro (fun c => absurd (hk2 ▸ c) (by decide)) (fun _ => ?_)
  refine And.intro hv ?_
  refine And.intro (fun c => absurd (hk2 ▸ c) (by decide)) (fun _ => ?_)
  refine And.intro hv ?_
  refine And.intro (fun c => absurd (hk2 ▸ c) (by decide)) (fun _ => ?_)
  refine And.intro hv ?_
  refine And.intro (fun _ => ?_) (fun c => absurd hk2 c)
  refine Ex_r (As := [vI (nI h)]) (st := []) vX9_250 rfl rfl hM h0 (by omega) rfl (dc_ok oX9_go rfl) ?_
  intro I1 hP
  refine Ex_wx [] 9 oX9_go hw ?_
  exact ⟨rfl, rfl, rfl, hP⟩
theorem r_go_again (hw : WS lx ly g) (h14 : I 328 14 = nI (h + 1)) (hh : h < 32) (ht : I 340 h = nI t) (h80 : t < 80) (hk : I 329 t = nI 11) (hM : Mx mX9_again 5 0 0 [vS 328, vI (nI h)] g I L (rQ g L P)) : Mx mX9_go 6 0 0 [vS 328] g I L (rQ g L P) := by
  have h0 := (hw 328 _ rfl).2.1
  have hk2 : I 329 (nI t).toNatClampNeg = nI 11 := by rw [clN (by omega)]; exact hk
  have hv : vp_in (nI t) 80 := inN h80 (by omega)
  refine r_goH hw h14 hh ht (Ex_wx [74] 9 oX9_go hw ?_)
  refine And.intro hv ?_
  refine And.intro (fun _ => ?_) (fun c => absurd (by rw [hk2]; decide) c)
  refine And.intro hv ?_
  refine And.intro (fun c => absurd (hk2 ▸ c) (by decide)) (fun _ => ?_)
  refine And.intro hv ?_
  refine And.intro (fun c => absurd (hk2 ▸ c) (by decide)) (fun _ => ?_)
  refine And.intro hv ?_
  refine And.intro (fun c => absurd (hk2 ▸ c) (by decide)) (fun _ => ?_)
  refine And.intro hv ?_
  refine And.intro (fun c => absurd (hk2 ▸ c) (by decide)) (fun _ => ?_)
  refine And.intro hv ?_
  refine And.intro (fun _ => ?_) (fun c => absurd hk2 c)
  refine Ex_r (As := [vI (nI h)]) (st := []) vX9_253 rfl rfl hM h0 (by omega) rfl (dc_ok oX9_go rfl) ?_
  intro I1 hP
  refine Ex_wx [] 9 oX9_go hw ?_
  exact ⟨rfl, rfl, rfl, hP⟩
theorem r_go_within (hw : WS lx ly g) (h14 : I 328 14 = nI (h + 1)) (hh : h < 32) (ht : I 340 h = nI t) (h80 : t < 80) (hk : I 329 t = nI k) (hk6 : k = 12 ∨ k = 13 ∨ k = 14) (hM : Mx mX9_within 5 0 0 [vS 328, vI (nI h)] g I L (rQ g L P)) : Mx mX9_go 6 0 0 [vS 328] g I L (rQ g L P) := by
  have h0 := (hw 328 _ rfl).2.1
  have hk2 : I 329 (nI t).toNatClampNeg = nI k := by rw [clN (by omega)]; exact hk
  have hv : vp_in (nI t) 80 := inN h80 (by omega)
  refine r_goH hw h14 hh ht (Ex_wx [74] 9 oX9_go hw ?_)
  refine And.intro hv ?_
  refine And.intro (fun _ => ?_) (fun c => absurd (by rw [hk2]; rcases hk6 with rfl | rfl | rfl <;> decide) c)
  refine And.intro hv ?_
  refine And.intro (fun c => absurd (hk2 ▸ c) (by rcases hk6 with rfl | rfl | rfl <;> decide)) (fun _ => ?_)
  refine And.intro hv ?_
  refine And.intro (fun c => absurd (hk2 ▸ c) (by rcases hk6 with rfl | rfl | rfl <;> decide)) (fun _ => ?_)
  refine And.intro hv ?_
  refine And.intro (fun c => absurd (hk2 ▸ c) (by rcases hk6 with rfl | rfl | rfl <;> decide)) (fun _ => ?_)
  refine And.intro hv ?_
  refine And.intro (fun c => absurd (hk2 ▸ c) (by rcases hk6 with rfl | rfl | rfl <;> decide)) (fun _ => ?_)
  refine And.intro hv ?_
  refine And.intro (fun c => absurd (hk2 ▸ c) (by rcases hk6 with rfl | rfl | rfl <;> decide)) (fun _ => ?_)
  refine Ex_r (As := [vI (nI h)]) (st := []) vX9_256 rfl rfl hM h0 (by omega) rfl (dc_ok oX9_go rfl) ?_
  intro I1 hP
  refine Ex_wx [] 9 oX9_go hw ?_
  exact ⟨rfl, rfl, rfl, hP⟩
end Go
end
section
/-! the reference's leaves -/
section Leaf
variable {lx ly : Nat} {g : aG} {I I1 : aI} {L : aL} {p : Nat → Int32} {B : mB} {cnt lim h t k : Nat} {Run : aI → Prop} {env : Nat → Int32} {e e1 : mE} {F : mF} {nd x v st lg s1 l1 : Int32} {w : Option aV} {Q : aQ}
theorem lf_head (hw : WS lx ly g) (hh : h < 32) (ht : I 340 h = nI t) (h80 : t < 80) (he : ∀ k, k < 8 → I 348 (8 * h + k) = env k) (hx : I 330 t = x) (hnd : I 333 t = nd) (hn : nd = 0 ∨ (nd = 1 ∧ ∃ j, j < 8 ∧ x = nI j)) (hk : I 329 t = nI k)
    (K : Ex mX9_leaf 5 0 0 Q 47 [some (vS 328), some (vI (nI h)), some (vI (nI t)), some (vI (opF env nd x)), some (vI (I 344 h)), some (vI (I 345 h)), none] [vI (nI k)] g I L) : Mx mX9_leaf 5 0 0 [vS 328, vI (nI h)] g I L Q := by
  have h0 := (hw 328 _ rfl).2.1
  have ch : (nI h).toNatClampNeg = h := clN (by omega)
  have ct : (nI t).toNatClampNeg = t := clN (by omega)
  have vh : vp_in (nI h) 32 := inN hh (by omega)
  have vt : vp_in (nI t) 80 := inN h80 (by omega)
  refine Mx_in (by decide +kernel) rfl rfl (Ex_bn 5 oX9_leaf hw ?_)
  refine And.intro vh ?_
  show Ex mX9_leaf 5 0 0 Q 7 [some (vS 328), some (vI (nI h)), some (vI (I 340 (nI h).toNatClampNeg)), none, none, none, none] [] g I L
  rw [ch, ht]
  refine Ex_wx [] 9 oX9_leaf hw ?_
  refine And.intro vt (And.intro vt ?_)
  have hX : Mx mX9_value 0 0 0 [vS 328, vI (nI h), vI (I 330 (nI t).toNatClampNeg), vI (I 333 (nI t).toNatClampNeg)] g I L (qV (some (vI (opF env nd x))) g I L) := by
    rw [ct, hx, hnd]; exact r_value hw hh he hn
  refine Ex_v (As := [vI (nI h), vI (I 330 (nI t).toNatClampNeg), vI (I 333 (nI t).toNatClampNeg)]) (st := []) (d' := 0) vX9_210 rfl rfl hX h0 (by omega) rfl (dc_ok oX9_leaf rfl) ?_
  refine Ex_bn 15 oX9_leaf hw ?_
  refine And.intro vh (And.intro vh (And.intro vt ?_))
  show Ex mX9_leaf 5 0 0 Q 47 [some (vS 328), some (vI (nI h)), some (vI (nI t)), some (vI (opF env nd x)), some (vI (I 344 (nI h).toNatClampNeg)), some (vI (I 345 (nI h).toNatClampNeg)), none] [vI (I 329 (nI t).toNatClampNeg)] g I L
  rw [ch, ct, hk]
  exact K
theorem lf_end {er : Int32} (hS : Sr F I1 lim e1 (h + 1)) (hm : I1 349 (2 * h + 1) = 0) (hB : Bl I I1 h) (hs : F.1 = true → st = s1) (hl : F.2.1 = true → lg = l1) (K : Cont g L F lim Run (0, [(v, er, s1, l1)], e1) I h) : Run (up2 (tellI I1 h 0 er v st lg) 328 14 (tellI I1 h 0 er v st lg 328 14 - 1)) := by
  have q14 : tellI I1 h 0 er v st lg 328 14 - 1 = nI h := by
    rw [tell_cb (by omega) 328 14 (by unfold cb; omega), hS.1.1, nI_pred]
  rw [q14]
  have hA : At I1 (tellI I1 h 0 er v st lg) h := cb_at (tell_cb (by omega))
  refine K.1 rfl _ ((hS.at hA).high) ?_ ?_ ((hB.trans hA.bl).trans high_bl)
  · rw [up2_i (by omega), tell_many]; rfl
  · exact Rr.eq (tell_rows (acc := []) Rr.nil rfl hs hl) (fun i k h1 h2 _ _ => up2_i (by omega))
theorem lf_tail (hw : WS lx ly g) (hh : h < 32) (hS : Sr F I1 lim e1 (h + 1)) (hm : I1 349 (2 * h + 1) = 0) (hB : Bl I I1 h) (hs : F.1 = true → st = s1) (hl : F.2.1 = true → lg = l1) (K : Cont g L F lim Run (0, [(v, 0, s1, l1)], e1) I h) : Ex mX9_leaf 5 0 0 (rQ g L Run) 280 [some (vS 328), some (vI (nI h)), some (vI (nI t)), some (vI v), some (vI st), some (vI lg), w] [] g I1 L := by
  have h0 := (hw 328 _ rfl).2.1
  refine Ex_wx [] 9 oX9_leaf hw ?_
  refine Ex_v (As := [vI (nI h), vI 0, vI v, vI st, vI lg]) (st := []) (d' := 1) vX9_203 rfl rfl (r_tell (m := 0) hw hh hm (by omega) (Or.inl rfl) (by omega)) h0 (by omega) rfl (dc_ok oX9_leaf rfl) ?_
  rw [if_neg (by decide)]
  refine Ex_wx [] 9 oX9_leaf hw ?_
  exact ⟨rfl, rfl, rfl, lf_end hS hm hB hs hl K⟩
theorem lf_tailE (hw : WS lx ly g) (hh : h < 32) (hS : Sr F I1 lim e1 (h + 1)) (hm : I1 349 (2 * h + 1) = 0) (hB : Bl I I1 h) (hs : F.1 = true → st = s1) (hl : F.2.1 = true → lg = l1) (K : Cont g L F lim Run (0, [(v, 1, s1, l1)], e1) I h) : Ex mX9_leaf 5 0 0 (rQ g L Run) 247 [some (vS 328), some (vI (nI h)), some (vI (nI t)), some (vI v), some (vI st), some (vI lg), w] [] g I1 L := by
  have h0 := (hw 328 _ rfl).2.1
  refine Ex_wx [] 9 oX9_leaf hw ?_
  refine Ex_v (As := [vI (nI h), vI 1, vI v, vI st, vI lg]) (st := []) (d' := 1) vX9_203 rfl rfl (r_tell (m := 0) hw hh hm (by omega) (Or.inr rfl) (by omega)) h0 (by omega) rfl (dc_ok oX9_leaf rfl) ?_
  rw [if_neg (by decide)]
  refine Ex_wx [] 9 oX9_leaf hw ?_
  exact ⟨rfl, rfl, rfl, lf_end hS hm hB hs hl K⟩
end Leaf
section Leaf2
variable {lx ly : Nat} {g : aG} {I : aI} {L : aL} {p : Nat → Int32} {B : mB} {cnt lim h t : Nat} {Run : aI → Prop} {env : Nat → Int32} {e : mE}
/-- what holds at a frame that has just been pushed -/
def Lf (lx ly : Nat) (g : aG) (p : Nat → Int32) (B : mB) (cnt lim : Nat) (I : aI) (h t : Nat) (env : Nat → Int32) (e : mE) : Prop := WS lx ly g ∧ lim ≤ 2000 ∧ cnt ≤ 80 ∧ t < cnt ∧ h ≤ 29 ∧ invE lim e ∧ invL e ∧ mE.us e ≤ mE.sp e ∧ Tr I p B cnt ∧ Sr (flF p) I lim e (h + 1) ∧ Fresh (flF p) I h t env (mE.s e) (mE.l e)
theorem lf_give (H : Lf lx ly g p B cnt lim I h t env e) (hk : (B t).1 = 0) (K : Cont g L (flF p) lim Run (ansF (opF env (B t).2.1 (B t).2.2.1) e) I h) : Mx mX9_leaf 5 0 0 [vS 328, vI (nI h)] g I L (rQ g L Run) := by
  obtain ⟨hw, hlim, hc, ht, hh, hE, hl, hsu, hT, hS, hF⟩ := H
  obtain ⟨hk1, hk2, -⟩ := hT.2 t ht
  obtain ⟨a1, a2, a3⟩ := hk2 (by omega)
  refine lf_head hw (by omega) hF.1.1 (by omega) hF.1.2.1 a1 a2 a3 hk1 ?_
  rw [hk]
  refine Ex_tableIn (tgt := 84) (off := 37) (dc_ok oX9_leaf rfl) (by decide) (by decide) (by decide) (by decide) ?_
  refine Ex_wx [280] 9 oX9_leaf hw ?_
  exact lf_tail hw (by omega) hS hF.2.2.2.2.2 Bl.refl hF.1.2.2.1 hF.1.2.2.2.2.1 K
theorem lf_of (H : Lf lx ly g p B cnt lim I h t env e) (hk : 14 ≤ (B t).1) (hk8 : (B t).1 ≤ 18) (K : Cont g L (flF p) lim Run (ansF (rkF (B t).1 (opF env (B t).2.1 (B t).2.2.1) (nmF env (B t).2.2.2.1)) e) I h) : Mx mX9_leaf 5 0 0 [vS 328, vI (nI h)] g I L (rQ g L Run) := by
  obtain ⟨hw, hlim, hc, ht, hh, hE, hl, hsu, hT, hS, hF⟩ := H
  obtain ⟨hk1, -, hk3, -⟩ := hT.2 t ht
  obtain ⟨a1, a2, a3, a4, a5, ⟨j1, b1, b2⟩, j2, c1, c2⟩ := hk3 hk
  have h0 := (hw 328 _ rfl).2.1
  have ch : (nI h).toNatClampNeg = h := clN (by omega)
  have ct : (nI t).toNatClampNeg = t := clN (by omega)
  have vh : vp_in (nI h) 32 := inN (by omega) (by omega)
  have vt : vp_in (nI t) 80 := inN (by omega) (by omega)
  refine lf_head hw (by omega) hF.1.1 (by omega) hF.1.2.1 a4 a2 (Or.inl rfl) hk1 ?_
  have hkr : kR (B t).1 = 1 := by unfold kR; rw [if_neg (by omega), if_neg (by omega)]
  rw [hkr]
  refine Ex_tableIn (tgt := 87) (off := 40) (dc_ok oX9_leaf rfl) (by decide) (by decide) (by decide) (by decide) ?_
  refine Ex_wx [] 9 oX9_leaf hw ?_
  have e1 : (8 : Int32) * nI h + I 330 (nI t).toNatClampNeg = nI (8 * h + j1) := by rw [ct, a4, b2, show (8 : Int32) * nI h = nI (8 * h) from nI_mul 8 h, nI_add]
  have e2 : (8 : Int32) * nI h + I 331 (nI t).toNatClampNeg = nI (8 * h + j2) := by rw [ct, a5, c2, show (8 : Int32) * nI h = nI (8 * h) from nI_mul 8 h, nI_add]
  refine And.intro vt (And.intro vt ?_)
  refine And.intro (by rw [e1]; exact inN (by omega) (by omega)) ?_
  refine And.intro vt ?_
  refine And.intro (by rw [e2]; exact inN (by omega) (by omega)) ?_
  have r1 : opF env (B t).2.1 (B t).2.2.1 = env j1 := by rw [opF, if_neg (by rw [a1]; decide), b2, nm_eq b1]
  have r2 : nmF env (B t).2.2.2.1 = env j2 := by rw [c2, nm_eq c1]
  have hX : Mx mX9_op 0 0 0 [vI (I 332 (nI t).toNatClampNeg), vI (I 348 ((8 : Int32) * nI h + I 330 (nI t).toNatClampNeg).toNatClampNeg), vI (I 348 ((8 : Int32) * nI h + I 331 (nI t).toNatClampNeg).toNatClampNeg)] g I L (qV (some (vI (rkF (B t).1 (opF env (B t).2.1 (B t).2.2.1) (nmF env (B t).2.2.2.1)))) g I L) := by
    rw [e1, e2, clN (k := 8 * h + j1) (by omega), clN (k := 8 * h + j2) (by omega), hF.1.2.1 j1 b1, hF.1.2.1 j2 c1, r1, r2, ct, a3]
    exact r_op hw hk hk8
  refine Ex_s (As := [vI (I 332 (nI t).toNatClampNeg), vI (I 348 ((8 : Int32) * nI h + I 330 (nI t).toNatClampNeg).toNatClampNeg), vI (I 348 ((8 : Int32) * nI h + I 331 (nI t).toNatClampNeg).toNatClampNeg)]) (st := []) (d' := 0) sX9_214 rfl rfl hX (by omega) rfl (dc_ok oX9_leaf rfl) ?_
  refine Ex_wx [280] 9 oX9_leaf hw ?_
  exact lf_tail hw (by omega) hS hF.2.2.2.2.2 Bl.refl hF.1.2.2.1 hF.1.2.2.2.2.1 K
theorem lf_read (H : Lf lx ly g p B cnt lim I h t env e) (hk : (B t).1 = 1) (K : Cont g L (flF p) lim Run (ansF (mE.s e) e) I h) : Mx mX9_leaf 5 0 0 [vS 328, vI (nI h)] g I L (rQ g L Run) := by
  obtain ⟨hw, hlim, hc, ht, hh, hE, hl, hsu, hT, hS, hF⟩ := H
  obtain ⟨hk1, hk2, -⟩ := hT.2 t ht
  obtain ⟨a1, a2, a3⟩ := hk2 (by omega)
  have h0 := (hw 328 _ rfl).2.1
  refine lf_head hw (by omega) hF.1.1 (by omega) hF.1.2.1 a1 a2 a3 hk1 ?_
  rw [hk]
  refine Ex_tableIn (tgt := 132) (off := 85) (dc_ok oX9_leaf rfl) (by decide) (by decide) (by decide) (by decide) ?_
  refine Ex_wx [] 9 oX9_leaf hw ?_
  refine Ex_v (As := [vI 0]) (st := []) (d' := 1) vX9_178 rfl rfl (r_isOwn hw (l := 0) rfl (by omega) (by omega)) h0 (by omega) rfl (dc_ok oX9_leaf rfl) ?_
  rw [hT.1]
  refine Ex_wx [280] 9 oX9_leaf hw ?_
  refine And.intro (fun c => ?_) (fun c => ?_)
  · have c1 : (flF p).1 = false := bI_eq c
    have hsv := hS.2.2.2.2.1 c1
    show Ex mX9_leaf 5 0 0 (rQ g L Run) 280 [some (vS 328), some (vI (nI h)), some (vI (nI t)), some (vI (I 328 29)), some (vI (I 344 h)), some (vI (I 345 h)), none] [] g I L
    rw [hsv]
    exact lf_tail hw (by omega) hS hF.2.2.2.2.2 Bl.refl hF.1.2.2.1 hF.1.2.2.2.2.1 K
  · have c1 : (flF p).1 = true := bI_ne c
    have hsv := hF.1.2.2.1 c1
    show Ex mX9_leaf 5 0 0 (rQ g L Run) 280 [some (vS 328), some (vI (nI h)), some (vI (nI t)), some (vI (I 344 h)), some (vI (I 344 h)), some (vI (I 345 h)), none] [] g I L
    rw [hsv]
    exact lf_tail hw (by omega) hS hF.2.2.2.2.2 Bl.refl (fun _ => rfl) hF.1.2.2.2.2.1 K
theorem lf_none (H : Lf lx ly g p B cnt lim I h t env e) (hk : (B t).1 = 5) (K : Cont g L (flF p) lim Run (0, [], e) I h) : Mx mX9_leaf 5 0 0 [vS 328, vI (nI h)] g I L (rQ g L Run) := by
  obtain ⟨hw, hlim, hc, ht, hh, hE, hl, hsu, hT, hS, hF⟩ := H
  obtain ⟨hk1, hk2, -⟩ := hT.2 t ht
  obtain ⟨a1, a2, a3⟩ := hk2 (by omega)
  refine lf_head hw (by omega) hF.1.1 (by omega) hF.1.2.1 a1 a2 a3 hk1 ?_
  rw [hk]
  refine Ex_tableOut (tgt := 269) (dc_ok oX9_leaf rfl) (Or.inr (by decide)) (by decide) ?_
  refine Ex_wx [] 9 oX9_leaf hw ?_
  refine ⟨rfl, rfl, rfl, ?_⟩
  rw [hS.1.1, nI_pred]
  refine K.1 rfl _ hS.high ?_ Rr.nil high_bl
  rw [up2_i (by omega)]; exact hF.2.2.2.2.2
theorem lf_write (H : Lf lx ly g p B cnt lim I h t env e) (hk : (B t).1 = 2) (K : Cont g L (flF p) lim Run (ansF (mE.s e) (setSL e (opF env (B t).2.1 (B t).2.2.1) (mE.l e))) I h) : Mx mX9_leaf 5 0 0 [vS 328, vI (nI h)] g I L (rQ g L Run) := by
  obtain ⟨hw, hlim, hc, ht, hh, hE, hl, hsu, hT, hS, hF⟩ := H
  obtain ⟨hk1, hk2, -⟩ := hT.2 t ht
  obtain ⟨a1, a2, a3⟩ := hk2 (by omega)
  have h0 := (hw 328 _ rfl).2.1
  refine lf_head hw (by omega) hF.1.1 (by omega) hF.1.2.1 a1 a2 a3 hk1 ?_
  rw [hk]
  refine Ex_tableIn (tgt := 153) (off := 106) (dc_ok oX9_leaf rfl) (by decide) (by decide) (by decide) (by decide) ?_
  refine Ex_wx [] 9 oX9_leaf hw ?_
  refine Ex_v (As := [vI 0]) (st := []) (d' := 1) vX9_178 rfl rfl (r_isOwn hw (l := 0) rfl (by omega) (by omega)) h0 (by omega) rfl (dc_ok oX9_leaf rfl) ?_
  rw [hT.1]
  refine Ex_wx [] 9 oX9_leaf hw ?_
  refine And.intro (fun c => ?_) (fun c => ?_)
  · have c1 : (flF p).1 = false := bI_eq c
    have hsv := hS.2.2.2.2.1 c1
    refine Ex_v (As := [vI 0]) (st := []) (d' := 1) vX9_178 rfl rfl (r_isOwn hw (l := 0) rfl (by omega) (by omega)) h0 (by omega) rfl (dc_ok oX9_leaf rfl) ?_
    rw [hT.1]
    refine Ex_wx [280] 9 oX9_leaf hw ?_
    refine And.intro (fun _ => ?_) (fun c2 => absurd c c2)
    rw [hsv]
    exact lf_tail hw (by omega) hS.put_s (by rw [up2_i (by omega)]; exact hF.2.2.2.2.2) (fun i k c => up2_n (by unfold kp at c; omega)) (fun q => by rw [c1] at q; cases q) hF.1.2.2.2.2.1 K
  · have c1 : (flF p).1 = true := bI_ne c
    have hsv := hF.1.2.2.1 c1
    refine Ex_v (As := [vI 0]) (st := []) (d' := 1) vX9_178 rfl rfl (r_isOwn hw (l := 0) rfl (by omega) (by omega)) h0 (by omega) rfl (dc_ok oX9_leaf rfl) ?_
    rw [hT.1]
    refine Ex_wx [280] 9 oX9_leaf hw ?_
    refine And.intro (fun c2 => absurd c2 c) (fun _ => ?_)
    rw [hsv]
    exact lf_tail hw (by omega) (hS.own_s c1) hF.2.2.2.2.2 Bl.refl (fun _ => rfl) hF.1.2.2.2.2.1 K
theorem lf_fail (H : Lf lx ly g p B cnt lim I h t env e) (hk : (B t).1 = 4) (hp : hsF p 2 = true) (K : Cont g L (flF p) lim Run (if (flF p).2.2.1 = true then (0, [(opF env (B t).2.1 (B t).2.2.1, 1, mE.s e, mE.l e)], e) else (1, [], (mE.sp e, mE.us e, mE.nu e, mE.be e, mE.le e, mE.s e, mE.l e, opF env (B t).2.1 (B t).2.2.1))) I h) : Mx mX9_leaf 5 0 0 [vS 328, vI (nI h)] g I L (rQ g L Run) := by
  obtain ⟨hw, hlim, hc, ht, hh, hE, hl, hsu, hT, hS, hF⟩ := H
  obtain ⟨hk1, hk2, -⟩ := hT.2 t ht
  obtain ⟨a1, a2, a3⟩ := hk2 (by omega)
  have h0 := (hw 328 _ rfl).2.1
  refine lf_head hw (by omega) hF.1.1 (by omega) hF.1.2.1 a1 a2 a3 hk1 ?_
  rw [hk]
  refine Ex_tableIn (tgt := 233) (off := 186) (dc_ok oX9_leaf rfl) (by decide) (by decide) (by decide) (by decide) ?_
  refine Ex_wx [] 9 oX9_leaf hw ?_
  refine Ex_v (As := [vI 2]) (st := []) (d' := 2) vX9_221 rfl rfl (r_isShared hw (l := 2) rfl (by omega) (by omega)) h0 (by omega) rfl (dc_ok oX9_leaf rfl) ?_
  rw [hT.1]
  refine Ex_wx [247] 9 oX9_leaf hw ?_
  refine And.intro (fun c => ?_) (fun c => ?_)
  · have c1 : (flF p).2.2.1 = true := by
      have := bI_eq c
      simp only [shF, hp, Bool.true_and, Bool.not_eq_false'] at this
      exact this
    rw [if_pos c1] at K
    exact lf_tailE hw (by omega) hS hF.2.2.2.2.2 Bl.refl hF.1.2.2.1 hF.1.2.2.2.2.1 K
  · have c1 : ¬ (flF p).2.2.1 = true := by
      have := bI_ne c
      simp only [shF, hp, Bool.true_and, Bool.not_eq_true'] at this
      intro q
      have q2 : owF p 2 = true := q
      rw [q2] at this
      cases this
    rw [if_neg c1] at K
    have hX : Mx mX9_unwind 4 0 0 [vS 328, vI (opF env (B t).2.1 (B t).2.2.1)] g I L (rQ g L Run) := by
      refine Mx_in (by decide +kernel) rfl rfl (Ex_bn 6 oX9_unwind hw ?_)
      show Ex mX9_unwind 4 0 0 _ 10 [some (vS 328), some (vI (opF env (B t).2.1 (B t).2.2.1)), none] [] g (up2 I 328 14 (I 328 14 - 1)) L
      rw [hS.1.1, nI_pred]
      exact K.2.1 rfl _ hS.high high_bl
    refine Ex_r (As := [vI (opF env (B t).2.1 (B t).2.2.1)]) (st := []) vX9_224 rfl rfl hX h0 (by omega) rfl (dc_ok oX9_leaf rfl) ?_
    intro I1 hP
    refine Ex_wx [] 9 oX9_leaf hw ?_
    exact ⟨rfl, rfl, rfl, hP⟩
end Leaf2
end
section
/-! the reference's leaves: say -/
theorem OutS.eq {F : mF} {I I' : aI} (h : OutS F I) (a : ∀ i k, (i = 328 ∧ (k = 10 ∨ k = 29 ∨ k = 30 ∨ k = 33)) ∨ (337 ≤ i ∧ i ≤ 339) → I' i k = I i k) : OutS F I' := by
  obtain ⟨h1, e, h2, h3, h4, h5⟩ := h
  exact ⟨by rw [a _ _ (by omega)]; exact h1, e, h2, h3, h4, h5.eq (fun i k c => a i k (by omega))⟩
section Say
variable {lx ly : Nat} {g : aG} {I I1 : aI} {L : aL} {p : Nat → Int32} {B : mB} {cnt lim h t : Nat} {Run : aI → Prop} {env : Nat → Int32} {e : mE} {F : mF} {v st lg : Int32} {w : Option aV}
theorem lf_tailO (hw : WS lx ly g) (hh : h < 32) (hO : OutS F I1) (hm : I1 349 (2 * h + 1) = 0) (hB : Bl I I1 0) (K : ∀ I', OutS F I' → Bl I I' 0 → Run I') : Ex mX9_leaf 5 0 0 (rQ g L Run) 280 [some (vS 328), some (vI (nI h)), some (vI (nI t)), some (vI v), some (vI st), some (vI lg), w] [] g I1 L := by
  have h0 := (hw 328 _ rfl).2.1
  refine Ex_wx [] 9 oX9_leaf hw ?_
  refine Ex_v (As := [vI (nI h), vI 0, vI v, vI st, vI lg]) (st := []) (d' := 1) vX9_203 rfl rfl (r_tell (m := 0) hw hh hm (by omega) (Or.inl rfl) (by omega)) h0 (by omega) rfl (dc_ok oX9_leaf rfl) ?_
  rw [if_neg (by decide)]
  refine Ex_wx [] 9 oX9_leaf hw ?_
  have hA : At I1 (tellI I1 h 0 0 v st lg) h := cb_at (tell_cb (by omega))
  refine ⟨rfl, rfl, rfl, K _ ?_ ?_⟩
  · refine hO.eq (fun i k c => ?_)
    rw [up2_n (by omega)]; exact hA i k (by unfold mt; omega)
  · exact (hB.trans (hA.bl.mono (Nat.zero_le _))).trans high_bl
theorem lf_say (H : Lf lx ly g p B cnt lim I h t env e) (hk : (B t).1 = 3) (K : Cont g L (flF p) lim Run (if 60 < lenF e (mE.l e) + 1 then (2, [], e) else ansF (opF env (B t).2.1 (B t).2.2.1) (sayF e (opF env (B t).2.1 (B t).2.2.1))) I h) : Mx mX9_leaf 5 0 0 [vS 328, vI (nI h)] g I L (rQ g L Run) := by
  obtain ⟨hw, hlim, hc, ht, hh, hE, hl, hsu, hT, hS, hF⟩ := H
  obtain ⟨hk1, hk2, -⟩ := hT.2 t ht
  obtain ⟨a1, a2, a3⟩ := hk2 (by omega)
  have h0 := (hw 328 _ rfl).2.1
  have hu1 : 1 ≤ mE.us e := hE.1
  have hu : mE.us e ≤ 2000 := by have := hE.2.2; omega
  obtain ⟨n, hn, hle⟩ := lenF_ok hl (by omega) hl.2
  have hiff : lenF e (mE.l e) = 60 ↔ 60 < lenF e (mE.l e) + 1 := by
    rw [hle, nI_1]
    constructor
    · intro c
      have := eqN (b := 60) c (by omega) (by omega)
      exact nI_lt (a := 60) (by omega) (by omega)
    · intro c
      have := ltN (a := 60) c (by omega) (by omega)
      rw [show n = 60 by omega]; rfl
  obtain ⟨j, hj, hjl⟩ := hl.2
  have hX := r_longer (L := L) (d := 0) (v := opF env (B t).2.1 (B t).2.2.1) hw hS.2 hl hu1 hu hj
  rw [← hjl] at hX
  refine lf_head hw (by omega) hF.1.1 (by omega) hF.1.2.1 a1 a2 a3 hk1 ?_
  rw [hk]
  refine Ex_tableIn (tgt := 197) (off := 150) (dc_ok oX9_leaf rfl) (by decide) (by decide) (by decide) (by decide) ?_
  refine Ex_wx [] 9 oX9_leaf hw ?_
  refine Ex_v (As := [vI 1]) (st := []) (d' := 1) vX9_178 rfl rfl (r_isOwn hw (l := 1) rfl (by omega) (by omega)) h0 (by omega) rfl (dc_ok oX9_leaf rfl) ?_
  rw [hT.1]
  refine Ex_wx [] 9 oX9_leaf hw ?_
  by_cases c60 : lenF e (mE.l e) = 60
  · rw [if_pos (hiff.mp c60)] at K
    rw [if_pos c60, if_pos c60] at hX
    have hO : OutS (flF p) (up2 I 328 33 1) := hS.out up2_s (fun i k c => up2_n (by omega)) hl hE hlim
    refine And.intro (fun c => ?_) (fun c => ?_)
    · have c1 : (flF p).2.1 = false := bI_eq c
      have hsv := hS.2.2.2.2.2 c1
      refine Ex_v (As := [vI (I 328 30), vI (opF env (B t).2.1 (B t).2.2.1)]) (st := [vS 328]) (d' := 0) vX9_218 rfl rfl (by rw [hsv]; exact hX) h0 (by omega) rfl (dc_ok oX9_leaf rfl) ?_
      refine Ex_wx [280] 9 oX9_leaf hw ?_
      refine lf_tailO hw (by omega) ?_ ?_ ?_ (K.2.2 rfl)
      · refine hO.eq (fun i k c => ?_)
        by_cases ck : i = 328 ∧ k = 30
        · rw [ck.1, ck.2, up2_s, up2_k (by omega)]; exact hsv.symm
        · rw [up2_n (by omega)]
      · rw [up2_i (by omega), up2_i (by omega)]; exact hF.2.2.2.2.2
      · intro i k c
        unfold kp at c
        rw [up2_n (by omega), up2_n (by omega)]
    · have c1 : (flF p).2.1 = true := bI_ne c
      have hsv := hF.1.2.2.2.2.1 c1
      refine Ex_v (As := [vI (I 345 h), vI (opF env (B t).2.1 (B t).2.2.1)]) (st := []) (d' := 0) vX9_218 rfl rfl (by rw [hsv]; exact hX) h0 (by omega) rfl (dc_ok oX9_leaf rfl) ?_
      refine Ex_wx [280] 9 oX9_leaf hw ?_
      refine lf_tailO hw (by omega) hO ?_ ?_ (K.2.2 rfl)
      · rw [up2_i (by omega)]; exact hF.2.2.2.2.2
      · intro i k c
        unfold kp at c
        rw [up2_n (by omega)]
  · rw [if_neg (fun q => c60 (hiff.mpr q))] at K
    rw [if_neg c60, if_neg c60] at hX
    refine And.intro (fun c => ?_) (fun c => ?_)
    · have c1 : (flF p).2.1 = false := bI_eq c
      have hsv := hS.2.2.2.2.2 c1
      refine Ex_v (As := [vI (I 328 30), vI (opF env (B t).2.1 (B t).2.2.1)]) (st := [vS 328]) (d' := 0) vX9_218 rfl rfl (by rw [hsv]; exact hX) h0 (by omega) rfl (dc_ok oX9_leaf rfl) ?_
      refine Ex_wx [280] 9 oX9_leaf hw ?_
      refine lf_tail hw (by omega) (hS.sayS hu1) ?_ ?_ hF.1.2.2.1 (fun q => by rw [c1] at q; cases q) K
      · rw [up2_i (by omega), long_else (by omega)]; exact hF.2.2.2.2.2
      · intro i k c
        unfold kp at c
        rw [up2_n (by omega), long_else (by omega)]
    · have c1 : (flF p).2.1 = true := bI_ne c
      have hsv := hF.1.2.2.2.2.1 c1
      refine Ex_v (As := [vI (I 345 h), vI (opF env (B t).2.1 (B t).2.2.1)]) (st := []) (d' := 0) vX9_218 rfl rfl (by rw [hsv]; exact hX) h0 (by omega) rfl (dc_ok oX9_leaf rfl) ?_
      refine Ex_wx [280] 9 oX9_leaf hw ?_
      refine lf_tail hw (by omega) (hS.say hu1 c1) ?_ ?_ hF.1.2.2.1 (fun _ => rfl) K
      · rw [long_else (by omega)]; exact hF.2.2.2.2.2
      · intro i k c
        unfold kp at c
        rw [long_else (by omega)]
end Say
end
section
/-! the reference: a frame and its child; either, choose -/
theorem upE_no {env : Nat → Int32} {v : Int32} : upE env (-1) v = env := by
  rw [upE, if_neg (by decide)]
theorem Sr.own2 {F : mF} {I : aI} {lim hi : Nat} {e : mE} {s l : Int32} (h : Sr F I lim e hi) : Sr F I lim (own2 F e s l) hi := by
  refine ⟨h.1, h.2.1, h.2.2.1, h.2.2.2.1, fun c => ?_, fun c => ?_⟩
  · show I 328 29 = if F.1 = true then s else mE.s e
    rw [if_neg (by rw [c]; decide)]; exact h.2.2.2.2.1 c
  · show I 328 30 = if F.2.1 = true then l else mE.l e
    rw [if_neg (by rw [c]; decide)]; exact h.2.2.2.2.2 c
section Child
variable {lx ly : Nat} {g : aG} {I I2 : aI} {L : aL} {p : Nat → Int32} {B : mB} {hg : Nat → Nat} {cnt lim h t c f : Nat} {okT : Nat → Prop} {Run : aI → Prop} {env : Nat → Int32} {e e1 : mE} {v : Int32} {F : mF}
theorem sim_child (ih : simC g L p B hg cnt lim okT Run f) (hP : PushP (flF p) I lim e1 (h + 1) c env I2) (hS : Sr (flF p) I lim e1 (h + 1)) (hT : Tr I p B cnt) (hc : c < cnt) (hf : hg c ≤ f) (ho : okT c) (hh : h + 1 + hg c ≤ 30) (hE : invE lim e1) (hl : invL e1) (hlim : lim ≤ 2000) (K : Cont g L (flF p) lim Run (ev (flF p) B lim f c env e1) I (h + 1)) : Run I2 := by
  obtain ⟨hpd, hbl⟩ := hP.pd hS hl hE hlim
  exact ih c (h + 1) env e1 I2 hc hf ho hh hE hl (hT.bl hbl) hpd (K.bl hbl)
theorem ur_skip (hw : WS lx ly g) (hh : h < 32) (h14 : I 328 14 = nI (h + 1)) (ht : I 340 h = nI t) (h80 : t < 80) (hk : ¬ (I 329 t = nI 9 ∧ I 341 h = 1)) (K : UR g L Run (up2 I 328 14 (nI h)) v) : UR g L Run I v := by
  unfold UR
  have e1 : I 328 14 - 1 = nI h := by rw [h14, nI_pred]
  have v1 : vp_in (I 328 14 - 1) 32 := by rw [e1]; exact inN hh (by omega)
  have c1 : (I 328 14 - 1).toNatClampNeg = h := by rw [e1]; exact clN (by omega)
  have ct : (nI t).toNatClampNeg = t := clN (by omega)
  have fin : Ex mX9_unwind 4 0 0 (rQ g L Run) 10 [some (vS 328), some (vI v), none] [] g (up2 I 328 14 (I 328 14 - 1)) L := by
    rw [e1]; exact K
  refine Ex_wx [10, 66] 9 oX9_unwind hw ?_
  refine And.intro (fun c => absurd (h14 ▸ c) (nI_nle (by omega) (by omega))) (fun _ => ?_)
  refine And.intro v1 ?_
  refine And.intro (by rw [c1, ht]; exact inN h80 (by omega)) ?_
  rw [c1, ht, ct]
  refine And.intro (fun c2 => ?_) (fun c2 => fin)
  refine And.intro v1 ?_
  rw [c1]
  exact And.intro (fun c3 => absurd ⟨c2, c3⟩ hk) (fun _ => fin)
/-- how a child's end comes through, where nothing is caught: an ERROR that is SHARED, and OUT -/
theorem cont_err (hw : WS lx ly g) (hh : h ≤ 29) (h80 : t < 80) (hF : Fr F I h t env (mE.s e) (mE.l e)) (hk : ¬ (I 329 t = nI 9 ∧ I 341 h = 1)) {q q2 : mO} (K : Cont g L F lim Run q2 I h) (h1 : q.1 = 1 → q2.1 = 1 ∧ q2.2.2 = q.2.2) (h2 : q.1 = 2 → q2.1 = 2)
    (K0 : q.1 = 0 → ∀ I', Sr F I' lim q.2.2 (h + 1) → I' 349 (2 * h + 3) = nI q.2.1.length → Rr F I' (100 * h + 150) q.2.1 → Bl I I' (h + 1) → Run I') : Cont g L F lim Run q I (h + 1) := by
  refine ⟨fun q0 I' a1 a2 a3 a4 => ?_, fun q0 I' a1 a2 => ?_, fun q0 I' a1 a2 => K.2.2 (h2 q0) I' a1 a2⟩
  · refine K0 q0 I' a1 ?_ ?_ a4
    · rw [show 2 * h + 3 = 2 * (h + 1) + 1 by omega]; exact a2
    · rw [show 100 * h + 150 = 100 * (h + 1) + 50 by omega]; exact a3
  · obtain ⟨b1, b2⟩ := h1 q0
    have hF2 := hF.bl a2
    refine ur_skip hw (by omega) a1.1.1 hF2.1 h80 ?_ ?_
    · rw [a2 329 t (by unfold kp; omega), a2 341 h (by unfold kp; omega)]; exact hk
    · have h9 := K.2.1 b1 (up2 I' 328 14 (nI h)) (by rw [b2]; exact a1.high) ((a2.mono (by omega)).trans high_bl)
      rw [b2] at h9
      exact h9
/-- gather in a frame, then on with what came -/
theorem GaP.split {I I' : aI} {acc cs : List mR} (hG : GaP F I h acc cs I') (hS : Sr F I lim e (h + 1)) (hl : invL e) (hE : invE lim e) (hlim : lim ≤ 2000) :
    (50 < (acc ++ cs).length ∧ OutS F I' ∧ I' 328 33 = 1 ∧ ∀ i k, ¬ cb h i k → ¬ (i = 328 ∧ k = 33) → I' i k = I i k) ∨ ((acc ++ cs).length ≤ 50 ∧ Sr F I' lim e (h + 1) ∧ I' 349 (2 * h + 1) = nI (acc ++ cs).length ∧ Rr F I' (100 * h + 50) (acc ++ cs) ∧ At I I' h ∧ ∀ i k, ¬ cb h i k → I' i k = I i k) := by
  rcases hG with ⟨h1, h2, h3⟩ | ⟨h1, h2, h3, h4⟩
  · exact Or.inl ⟨h1, hS.out h2 (fun i k c => h3 i k (by unfold cb; omega) (by omega)) hl hE hlim, h2, h3⟩
  · exact Or.inr ⟨h1, hS.at (cb_at h4), h2, h3, cb_at h4, h4⟩
theorem OutS.put {I : aI} {i k : Nat} {x : Int32} (h : OutS F I) (hi : i ≠ 328 ∧ (i < 337 ∨ 339 < i)) : OutS F (up2 I i k x) := h.eq (fun j m c => up2_n (by omega))
end Child
section Either
variable {lx ly : Nat} {g : aG} {I : aI} {L : aL} {p : Nat → Int32} {B : mB} {hg : Nat → Nat} {cnt lim h t c f ph : Nat} {okT : Nat → Prop} {Run : aI → Prop} {env : Nat → Int32} {e e1 : mE} {F : mF} {s0 l0 : Int32}
theorem ei_step (hw : WS lx ly g) (hlim : lim ≤ 2000) (h80 : t < 80) (hh : h ≤ 29) (hS : Sr F I lim e1 (h + 1)) (hE : invE lim e1) (hF : Fr F I h t env s0 l0) (hph : I 341 h = nI ph) (hc : (ph = 0 ∧ I 330 t = nI c) ∨ (ph = 1 ∧ I 331 t = nI c)) (hs : F.1 = true → s0 = mE.s e1) (hl : F.2.1 = true → l0 = mE.l e1)
    (K : ∀ I2, PushP F (up2 I 341 h (nI (ph + 1))) lim e1 (h + 1) c env I2 → Run I2) : Ex mX9_either_ 5 0 0 (rQ g L Run) 14 [some (vS 328), some (vI (nI h))] [] g I L := by
  have h0 := (hw 328 _ rfl).2.1
  have ch : (nI h).toNatClampNeg = h := clN (by omega)
  have ct : (nI t).toNatClampNeg = t := clN (by omega)
  have vh : vp_in (nI h) 32 := inN (by omega) (by omega)
  have vt : vp_in (nI t) 80 := inN (by omega) (by omega)
  have hA : At I (up2 I 341 h (nI (ph + 1))) h := fun i k c => up2_n (by unfold mt at c; omega)
  refine Ex_bn 8 oX9_either_ hw ?_
  refine And.intro vh (And.intro vh ?_)
  show Ex mX9_either_ 5 0 0 (rQ g L Run) 24 [some (vS 328), some (vI (nI h))] [] g (up2 I 341 (nI h).toNatClampNeg (I 341 (nI h).toNatClampNeg + 1)) L
  rw [ch, hph, nI_1]
  have hS1 := hS.at hA
  have hF1 := hF.at hA
  have hp1 : up2 I 341 h (nI (ph + 1)) 341 h = nI (ph + 1) := up2_s
  have q330 : up2 I 341 h (nI (ph + 1)) 330 t = I 330 t := up2_i (by omega)
  have q331 : up2 I 341 h (nI (ph + 1)) 331 t = I 331 t := up2_i (by omega)
  generalize up2 I 341 h (nI (ph + 1)) = J at *
  refine Ex_wx [32] 9 oX9_either_ hw ?_
  refine And.intro (fun _ => ?_) (fun c => absurd hS1.1.2.2.2.1 c)
  refine Ex_wx [49] 9 oX9_either_ hw ?_
  refine And.intro vh ?_
  rw [ch, hp1]
  refine And.intro (fun c => absurd (eqN (b := 3) c (by omega) (by omega)) (by omega)) (fun _ => ?_)
  refine Ex_wx [60, 74] 9 oX9_either_ hw ?_
  refine And.intro vh ?_
  rw [ch, hp1]
  have hX := r_push (L := L) (d := 0) (t := c) (fr := nI h) (n := -1) (v := 0) (src := env) hw (by omega) hS1 hE.2.2 hlim (Or.inr ⟨h, by omega, rfl, hF1.2.1⟩) (Or.inl rfl) (fun c => (hF1.2.2.1 c).trans (hs c)) (fun c => (hF1.2.2.2.2.1 c).trans (hl c))
  rw [upE_no] at hX
  rcases hc with ⟨rfl, hc⟩ | ⟨rfl, hc⟩
  · refine And.intro (fun _ => ?_) (fun c => absurd rfl c)
    refine Ex_wx [] 9 oX9_either_ hw ?_
    refine And.intro vh ?_
    refine And.intro (by rw [ch, hF1.1]; exact vt) ?_
    refine And.intro vh (And.intro vh ?_)
    rw [ch, hF1.1, ct, q330, hc]
    refine Ex_r (As := [vI (nI c), vI (nI h), vI (-1), vI 0, vI (J 344 h), vI (J 345 h)]) (st := []) vX9_237 rfl rfl hX h0 (by omega) rfl (dc_ok oX9_either_ rfl) ?_
    intro I2 hP
    refine Ex_wx [] 9 oX9_either_ hw ?_
    exact ⟨rfl, rfl, rfl, K I2 hP⟩
  · refine And.intro (fun c => absurd (eqN (b := 1) c (by omega) (by omega)) (by omega)) (fun _ => ?_)
    refine Ex_wx [] 9 oX9_either_ hw ?_
    refine And.intro vh ?_
    refine And.intro (by rw [ch, hF1.1]; exact vt) ?_
    refine And.intro vh (And.intro vh ?_)
    rw [ch, hF1.1, ct, q331, hc]
    refine Ex_r (As := [vI (nI c), vI (nI h), vI (-1), vI 0, vI (J 344 h), vI (J 345 h)]) (st := []) vX9_237 rfl rfl hX h0 (by omega) rfl (dc_ok oX9_either_ rfl) ?_
    intro I2 hP
    refine Ex_wx [] 9 oX9_either_ hw ?_
    exact ⟨rfl, rfl, rfl, K I2 hP⟩
theorem sim_either (ih : simC g L p B hg cnt lim okT Run f) (hst : stepR g L Run) (hB : Bw B hg cnt) (hO : okB p B cnt okT) (H : Lf lx ly g p B cnt lim I h t env e) (ho : okT t) (hk : (B t).1 = 6) (hf : hg t ≤ f + 1) (hd : h + hg t ≤ 30)
    (K : Cont g L (flF p) lim Run (eitherF (flF p) e (ev (flF p) B lim f (B t).2.2.2.2.1 env e) (ev (flF p) B lim f (B t).2.2.2.2.2 env)) I h) : Mx mX9_either_ 5 0 0 [vS 328, vI (nI h)] g I L (rQ g L Run) := by
  obtain ⟨hw, hlim, hc, ht, hh, hE, hl, hsu, hT, hS, hF⟩ := H
  obtain ⟨hk1, -, -, hk4, hk5, -⟩ := hT.2 t ht
  have h330 := hk4 (by omega) (by omega)
  have h331 := hk5 (by omega) (by omega)
  rw [hk] at hk1
  obtain ⟨-, -, hb3, hb4⟩ := hB t ht
  obtain ⟨ha1, ha2⟩ := hb3 (by omega) (by omega)
  obtain ⟨hb1, hb2⟩ := hb4 (by omega) (by omega)
  obtain ⟨-, -, ho3, ho4⟩ := hO t ht ho
  have hoa := ho3 (by omega) (by omega)
  have hob := ho4 (by omega) (by omega)
  have h0 := (hw 328 _ rfl).2.1
  have ch : (nI h).toNatClampNeg = h := clN (by omega)
  have vh : vp_in (nI h) 32 := inN (by omega) (by omega)
  generalize hqa : ev (flF p) B lim f (B t).2.2.2.2.1 env e = qa at K
  have hla := ev_log (F := flF p) (B := B) hlim f (B t).2.2.2.2.1 env e hE hl
  have hka := ev_ok (F := flF p) (B := B) f (B t).2.2.2.2.1 env e hE
  rw [hqa] at hla hka
  generalize hqb : ev (flF p) B lim f (B t).2.2.2.2.2 env (own2 (flF p) qa.2.2 (mE.s e) (mE.l e)) = qb
  have hlb := ev_log (F := flF p) (B := B) hlim f (B t).2.2.2.2.2 env (own2 (flF p) qa.2.2 (mE.s e) (mE.l e)) (own2_inv hka.2.1) (own2_invL hla.1 (hl.2.mono hla.2.1.1))
  have hkb := ev_ok (F := flF p) (B := B) f (B t).2.2.2.2.2 env (own2 (flF p) qa.2.2 (mE.s e) (mE.l e)) (own2_inv hka.2.1)
  rw [hqb] at hlb hkb
  refine Mx_in (by decide +kernel) rfl rfl (Ex_wx [14] 9 oX9_either_ hw ?_)
  refine And.intro vh ?_
  rw [ch, hF.2.1]
  refine And.intro (fun _ => ?_) (fun c => absurd (by decide) c)
  refine ei_step (ph := 0) hw hlim (by omega) hh hS hE hF.1 hF.2.1 (Or.inl ⟨rfl, h330⟩) (fun _ => rfl) (fun _ => rfl) ?_
  intro I2 hP
  have hA : At I (up2 I 341 h (nI (0 + 1))) h := fun i k c => up2_n (by unfold mt at c; omega)
  refine sim_child ih hP (hS.at hA) (hT.bl hA.bl) ha1 (by omega) hoa (by omega) hE hl hlim ?_
  rw [hqa]
  refine cont_err (t := t) (q2 := eitherF (flF p) e qa (ev (flF p) B lim f (B t).2.2.2.2.2 env)) hw hh (by omega) (hF.1.at hA) ?_ (K.bl hA.bl) ?_ ?_ ?_
  · rw [up2_i (by omega), hk1]
    exact fun c => absurd c.1 (by decide)
  · intro q1
    unfold eitherF
    rw [if_pos (by rw [q1]; decide)]
    exact ⟨q1, rfl⟩
  · intro q1
    unfold eitherF
    rw [if_pos (by rw [q1]; decide)]
    exact q1
  intro q0 I3 sS sm sr sb
  unfold eitherF at K
  rw [if_neg (fun q => q q0), hqb] at K
  simp only at K
  have hT3 := (hT.bl hA.bl).bl sb
  have hF3 := (hF.1.at hA).bl sb
  have p3 : I3 341 h = nI 1 := by rw [sb 341 h (by unfold kp; omega)]; exact up2_s
  have m3 : I3 349 (2 * h + 1) = 0 := by rw [sb 349 _ (by unfold kp; omega), up2_i (by omega)]; exact hF.2.2.2.2.2
  have bl3 : Bl I I3 h := hA.bl.trans (sb.mono (by omega))
  refine hst I3 h sS.1.1 (by omega) sS.1.2.2.2.1 (r_go_either hw sS.1.1 (by omega) hF3.1 (by omega) (by rw [(hT3.2 t ht).1, hk]; rfl) ?_)
  refine Mx_in (by decide +kernel) rfl rfl (Ex_wx [9] 9 oX9_either_ hw ?_)
  refine And.intro vh ?_
  rw [ch, p3]
  refine And.intro (fun c => absurd c (by decide)) (fun _ => ?_)
  refine Ex_wx [] 9 oX9_either_ hw ?_
  refine Ex_r (As := [vI (nI h)]) (st := []) vX9_259 rfl rfl (r_gather (acc := []) (d := 4) (F := flF p) hw (by omega) (by omega) m3 (by simp) Rr.nil sm sr (hka.2.2 q0).2 (hka.2.2 q0).1 sS.1.2.2.2.1) h0 (by omega) rfl (dc_ok oX9_either_ rfl) ?_
  intro I4 hG
  rcases hG.split sS hla.1 hka.2.1 hlim with ⟨hbig, -⟩ | ⟨-, hS4, m4, r4, hA4, -⟩
  · rw [List.nil_append] at hbig
    exact absurd (hka.2.2 q0).1 (by omega)
  · rw [List.nil_append] at m4 r4
    have hF4 := hF3.at hA4
    have p4 : I4 341 h = nI 1 := by
      rcases hG with ⟨hbig, -⟩ | ⟨-, -, -, h4⟩
      · rw [List.nil_append] at hbig
        exact absurd (hka.2.2 q0).1 (by omega)
      · rw [h4 341 h (by unfold cb; omega)]; exact p3
    have hT4 := hT3.bl hA4.bl
    have e330 := (hT4.2 t ht).2.2.2.2.1 (by omega) (by omega)
    refine ei_step (ph := 1) (c := (B t).2.2.2.2.2) (e1 := own2 (flF p) qa.2.2 (mE.s e) (mE.l e)) hw hlim (by omega) hh hS4.own2 (own2_inv hka.2.1) hF4 p4 (Or.inr ⟨rfl, e330⟩) ?_ ?_ ?_
    · intro c
      show _ = if (flF p).1 = true then mE.s e else _
      rw [if_pos c]
    · intro c
      show _ = if (flF p).2.1 = true then mE.l e else _
      rw [if_pos c]
    intro I5 hP5
    have hA5 : At I4 (up2 I4 341 h (nI (1 + 1))) h := fun i k c => up2_n (by unfold mt at c; omega)
    have bl5 : Bl I (up2 I4 341 h (nI (1 + 1))) h := (bl3.trans hA4.bl).trans hA5.bl
    refine sim_child ih hP5 (hS4.own2.at hA5) (hT4.bl hA5.bl) hb1 (by omega) hob (by omega) (own2_inv hka.2.1) (own2_invL hla.1 (hl.2.mono hla.2.1.1)) hlim ?_
    rw [hqb]
    refine cont_err (t := t) hw hh (by omega) (hF4.at hA5) ?_ (K.bl bl5) ?_ ?_ ?_
    · rw [up2_i (by omega), (hT4.2 t ht).1, hk]
      exact fun c => absurd c.1 (by decide)
    · intro q1
      rw [if_pos (by rw [q1]; decide)]
      exact ⟨q1, rfl⟩
    · intro q1
      rw [if_pos (by rw [q1]; decide)]
      exact q1
    intro q0b I6 sS6 sm6 sr6 sb6
    rw [if_neg (fun q => q q0b)] at K
    have hT6 := (hT4.bl hA5.bl).bl sb6
    have hF6 := (hF4.at hA5).bl sb6
    have p6 : I6 341 h = nI 2 := by rw [sb6 341 h (by unfold kp; omega)]; exact up2_s
    have m6 : I6 349 (2 * h + 1) = nI qa.2.1.length := by rw [sb6 349 _ (by unfold kp; omega), up2_i (by omega)]; exact m4
    have r6 : Rr (flF p) I6 (100 * h + 50) qa.2.1 := r4.eq (fun i k h1 h2 h3 h4 => by
      have := (hka.2.2 q0).1
      rw [sb6 i k (by unfold kp; omega), up2_i (by omega)])
    have bl6 : Bl I I6 h := bl5.trans (sb6.mono (by omega))
    refine hst I6 h sS6.1.1 (by omega) sS6.1.2.2.2.1 (r_go_either hw sS6.1.1 (by omega) hF6.1 (by omega) (by rw [(hT6.2 t ht).1, hk]; rfl) ?_)
    refine Mx_in (by decide +kernel) rfl rfl (Ex_wx [9] 9 oX9_either_ hw ?_)
    refine And.intro vh ?_
    rw [ch, p6]
    refine And.intro (fun c => absurd c (by decide)) (fun _ => ?_)
    refine Ex_wx [] 9 oX9_either_ hw ?_
    refine Ex_r (As := [vI (nI h)]) (st := []) vX9_259 rfl rfl (r_gather (acc := qa.2.1) (d := 4) (F := flF p) hw (by omega) (by omega) m6 (hka.2.2 q0).1 r6 sm6 sr6 (hkb.2.2 q0b).2 (hkb.2.2 q0b).1 sS6.1.2.2.2.1) h0 (by omega) rfl (dc_ok oX9_either_ rfl) ?_
    intro I7 hG7
    rcases hG7.split sS6 hlb.1 hkb.2.1 hlim with ⟨hbig, hO7, o7, hx7⟩ | ⟨hsm, hS7, m7, r7, hA7, hx7⟩
    · rw [if_pos hbig] at K
      refine Ex_bn 8 oX9_either_ hw ?_
      refine And.intro vh (And.intro vh ?_)
      refine Ex_wx [] 9 oX9_either_ hw ?_
      refine And.intro (fun c => ?_) (fun _ => ?_)
      · rw [up2_i (by omega), o7] at c
        exact absurd c (by decide)
      · refine ⟨rfl, rfl, rfl, K.2.2 rfl _ (hO7.put (by omega)) ?_⟩
        intro i k c
        unfold kp at c
        rw [up2_n (by omega), hx7 i k (by unfold cb; omega) (by omega)]
        exact bl6 i k (by unfold kp; omega)
    · rw [if_neg (by omega)] at K
      refine Ex_bn 8 oX9_either_ hw ?_
      refine And.intro vh (And.intro vh ?_)
      show Ex mX9_either_ 5 0 0 (rQ g L Run) 24 [some (vS 328), some (vI (nI h))] [] g (up2 I7 341 (nI h).toNatClampNeg (I7 341 (nI h).toNatClampNeg + 1)) L
      have p7 : I7 341 h = nI 2 := by rw [hx7 341 h (by unfold cb; omega)]; exact p6
      rw [ch, p7, nI_1]
      have hA8 : At I7 (up2 I7 341 h (nI (2 + 1))) h := fun i k c => up2_n (by unfold mt at c; omega)
      have hS8 := hS7.at hA8
      refine Ex_wx [32] 9 oX9_either_ hw ?_
      refine And.intro (fun _ => ?_) (fun c => absurd hS8.1.2.2.2.1 c)
      refine Ex_wx [] 9 oX9_either_ hw ?_
      refine And.intro vh ?_
      rw [ch, up2_s]
      refine And.intro (fun _ => ?_) (fun c => absurd rfl c)
      refine Ex_v (As := []) (st := []) (d' := 0) vX9_262 rfl rfl (r_finish hw hS8.1.1) h0 (by omega) rfl (dc_ok oX9_either_ rfl) ?_
      refine Ex_wx [] 9 oX9_either_ hw ?_
      refine ⟨rfl, rfl, rfl, K.1 rfl _ hS8.high ?_ ?_ ((bl6.trans (hA7.bl.trans hA8.bl)).trans high_bl)⟩
      · rw [up2_i (by omega), up2_i (by omega)]; exact m7
      · exact r7.eq (fun i k h1 h2 h3 h4 => by rw [up2_i (by omega), up2_i (by omega)])
end Either
end
section
/-! the reference: choose -/
section Choose
variable {lx ly : Nat} {g : aG} {I : aI} {L : aL} {p : Nat → Int32} {B : mB} {hg : Nat → Nat} {cnt lim h t c f : Nat} {okT : Nat → Prop} {Run : aI → Prop} {env : Nat → Int32} {e : mE}
theorem sim_choose (ih : simC g L p B hg cnt lim okT Run f) (hst : stepR g L Run) (hB : Bw B hg cnt) (hO : okB p B cnt okT) (H : Lf lx ly g p B cnt lim I h t env e) (ho : okT t) (hk : (B t).1 = 9) (hf : hg t ≤ f + 1) (hd : h + hg t ≤ 30)
    (K : Cont g L (flF p) lim Run (ev (flF p) B lim f (if nmF env (B t).2.2.2.1 = 0 then (B t).2.2.2.2.2 else (B t).2.2.2.2.1) env e) I h) : Mx mX9_choose 5 0 0 [vS 328, vI (nI h)] g I L (rQ g L Run) := by
  obtain ⟨hw, hlim, hc, ht, hh, hE, hl, hsu, hT, hS, hF⟩ := H
  obtain ⟨hk1, -, -, hk4, hk5, hk6, -⟩ := hT.2 t ht
  have h330 := hk4 (by omega) (by omega)
  have h331 := hk5 (by omega) (by omega)
  obtain ⟨h332, jn, hjn, hjn2⟩ := hk6 (by omega) (by omega)
  rw [hk] at hk1
  obtain ⟨-, -, hb3, hb4⟩ := hB t ht
  obtain ⟨ha1, ha2⟩ := hb3 (by omega) (by omega)
  obtain ⟨hb1, hb2⟩ := hb4 (by omega) (by omega)
  obtain ⟨-, -, ho3, ho4⟩ := hO t ht ho
  have hoa := ho3 (by omega) (by omega)
  have hob := ho4 (by omega) (by omega)
  have h0 := (hw 328 _ rfl).2.1
  have ch : (nI h).toNatClampNeg = h := clN (by omega)
  have ct : (nI t).toNatClampNeg = t := clN (by omega)
  have vh : vp_in (nI h) 32 := inN (by omega) (by omega)
  have vt : vp_in (nI t) 80 := inN (by omega) (by omega)
  have hnm : nmF env (B t).2.2.2.1 = env jn := by rw [hjn2, nm_eq hjn]
  rw [hnm] at K
  have hA : At I (up2 I 341 h 1) h := fun i k c => up2_n (by unfold mt at c; omega)
  have hS1 := hS.at hA
  have hF1 := hF.1.at hA
  -- the part that is chosen
  have part : ∀ (c : Nat), c < cnt → hg c < hg t → okT c → Cont g L (flF p) lim Run (ev (flF p) B lim f c env e) I h → ∀ I2, PushP (flF p) (up2 I 341 h 1) lim e (h + 1) c env I2 → Run I2 := by
    intro c hc1 hc2 hc3 K I2 hP
    have hkc := ev_ok (F := flF p) (B := B) f c env e hE
    have hlc := ev_log (F := flF p) (B := B) hlim f c env e hE hl
    refine sim_child ih hP hS1 (hT.bl hA.bl) hc1 (by omega) hc3 (by omega) hE hl hlim ?_
    generalize ev (flF p) B lim f c env e = q at *
    refine cont_err (t := t) (q2 := q) hw hh (by omega) hF1 ?_ (K.bl hA.bl) (fun q1 => ⟨q1, rfl⟩) (fun q1 => q1) ?_
    · rw [up2_i (by omega), hk1]
      exact fun c => absurd c.1 (by decide)
    intro q0 I3 sS sm sr sb
    have hT3 := (hT.bl hA.bl).bl sb
    have hF3 := hF1.bl sb
    have p3 : I3 341 h = 1 := by rw [sb 341 h (by unfold kp; omega)]; exact up2_s
    have m3 : I3 349 (2 * h + 1) = 0 := by rw [sb 349 _ (by unfold kp; omega), up2_i (by omega)]; exact hF.2.2.2.2.2
    have bl3 : Bl I I3 h := hA.bl.trans (sb.mono (by omega))
    refine hst I3 h sS.1.1 (by omega) sS.1.2.2.2.1 (r_go_choose hw sS.1.1 (by omega) hF3.1 (by omega) (by rw [(hT3.2 t ht).1, hk]; rfl) ?_)
    refine Mx_in (by decide +kernel) rfl rfl (Ex_wx [27] 9 oX9_choose hw ?_)
    refine And.intro vh (And.intro vh ?_)
    rw [ch, p3]
    refine And.intro (fun _ => ?_) (fun c => absurd rfl c)
    refine Ex_r (As := [vI (nI h)]) (st := []) vX9_259 rfl rfl (r_gather (acc := []) (d := 4) (F := flF p) hw (by omega) (by omega) m3 (by simp) Rr.nil sm sr (hkc.2.2 q0).2 (hkc.2.2 q0).1 sS.1.2.2.2.1) h0 (by omega) rfl (dc_ok oX9_choose rfl) ?_
    intro I4 hG
    rcases hG.split sS hlc.1 hkc.2.1 hlim with ⟨hbig, -⟩ | ⟨-, hS4, m4, r4, hA4, -⟩
    · rw [List.nil_append] at hbig
      exact absurd (hkc.2.2 q0).1 (by omega)
    · rw [List.nil_append] at m4 r4
      refine Ex_wx [] 9 oX9_choose hw ?_
      refine Ex_v (As := []) (st := []) (d' := 0) vX9_262 rfl rfl (r_finish hw hS4.1.1) h0 (by omega) rfl (dc_ok oX9_choose rfl) ?_
      refine Ex_wx [] 9 oX9_choose hw ?_
      refine ⟨rfl, rfl, rfl, K.1 q0 _ hS4.high ?_ ?_ ((bl3.trans hA4.bl).trans high_bl)⟩
      · rw [up2_i (by omega)]; exact m4
      · exact r4.eq (fun i k h1 h2 h3 h4 => up2_i (by omega))
  refine Mx_in (by decide +kernel) rfl rfl (Ex_bn 5 oX9_choose hw ?_)
  refine And.intro vh ?_
  show Ex mX9_choose 5 0 0 (rQ g L Run) 7 [some (vS 328), some (vI (nI h)), some (vI (I 340 (nI h).toNatClampNeg))] [] g I L
  rw [ch, hF.1.1]
  refine Ex_wx [27] 9 oX9_choose hw ?_
  refine And.intro vh ?_
  rw [ch, hF.2.1]
  refine And.intro (fun c => absurd c (by decide)) (fun _ => ?_)
  refine Ex_bn 5 oX9_choose hw ?_
  refine And.intro vh ?_
  show Ex mX9_choose 5 0 0 (rQ g L Run) 34 [some (vS 328), some (vI (nI h)), some (vI (nI t))] [] g (up2 I 341 (nI h).toNatClampNeg 1) L
  rw [ch]
  have q330 : up2 I 341 h 1 330 t = nI (B t).2.2.2.2.1 := by rw [up2_i (by omega)]; exact h330
  have q331 : up2 I 341 h 1 331 t = nI (B t).2.2.2.2.2 := by rw [up2_i (by omega)]; exact h331
  have q332 : up2 I 341 h 1 332 t = nI jn := by rw [up2_i (by omega), h332]; exact hjn2
  have q348 := hF1.2.1 jn hjn
  generalize up2 I 341 h 1 = J at *
  have e1 : (8 : Int32) * nI h + J 332 (nI t).toNatClampNeg = nI (8 * h + jn) := by rw [ct, q332, show (8 : Int32) * nI h = nI (8 * h) from nI_mul 8 h, nI_add]
  refine Ex_wx [54, 63] 9 oX9_choose hw ?_
  refine And.intro vt ?_
  refine And.intro (by rw [e1]; exact inN (by omega) (by omega)) ?_
  rw [e1, clN (by omega), q348]
  have hX := fun (c : Nat) => r_push (L := L) (d := 0) (t := c) (fr := nI h) (n := -1) (v := 0) (src := env) hw (by omega) hS1 hE.2.2 hlim (Or.inr ⟨h, by omega, rfl, hF1.2.1⟩) (Or.inl rfl) hF1.2.2.1 hF1.2.2.2.2.1
  refine And.intro (fun c0 => ?_) (fun c0 => ?_)
  · rw [if_pos c0] at K
    refine Ex_wx [] 9 oX9_choose hw ?_
    refine And.intro vt (And.intro vh (And.intro vh ?_))
    rw [ch, ct, q331]
    have hY := hX (B t).2.2.2.2.2
    rw [upE_no] at hY
    refine Ex_r (As := [vI (nI (B t).2.2.2.2.2), vI (nI h), vI (-1), vI 0, vI (J 344 h), vI (J 345 h)]) (st := []) vX9_237 rfl rfl hY h0 (by omega) rfl (dc_ok oX9_choose rfl) ?_
    intro I2 hP
    refine Ex_wx [] 9 oX9_choose hw ?_
    exact ⟨rfl, rfl, rfl, part _ hb1 hb2 hob K I2 hP⟩
  · rw [if_neg c0] at K
    refine Ex_wx [] 9 oX9_choose hw ?_
    refine And.intro vt (And.intro vh (And.intro vh ?_))
    rw [ch, ct, q330]
    have hY := hX (B t).2.2.2.2.1
    rw [upE_no] at hY
    refine Ex_r (As := [vI (nI (B t).2.2.2.2.1), vI (nI h), vI (-1), vI 0, vI (J 344 h), vI (J 345 h)]) (st := []) vX9_237 rfl rfl hY h0 (by omega) rfl (dc_ok oX9_choose rfl) ?_
    intro I2 hP
    refine Ex_wx [] 9 oX9_choose hw ?_
    exact ⟨rfl, rfl, rfl, part _ ha1 ha2 hoa K I2 hP⟩
end Choose
end
section
/-! the reference: within -/
theorem lenF_grow {e e' : mE} {l : Int32} (hg : grow e e') (hu : mE.us e' ≤ 2001) (hl : inL (mE.us e) l) : lenF e' l = lenF e l := by
  obtain ⟨j, hj, rfl⟩ := hl
  have := hg.1
  unfold lenF gtL
  by_cases h0 : j = 0
  · subst h0
    rw [if_neg (fun c => absurd c.1 (by decide)), if_neg (fun c => absurd c.1 (by decide))]
  · rw [if_pos ⟨nI_lt (a := 0) (by omega) (by omega), nI_lt (by omega) (by omega)⟩, if_pos ⟨nI_lt (a := 0) (by omega) (by omega), nI_lt (by omega) (by omega)⟩, clN (by omega)]
    exact (hg.2 j hj).2.2
def RowAt (F : mF) (I : aI) (k : Nat) (r : mR) : Prop := I 351 k = r.1 ∧ I 350 k = r.2.1 ∧ (F.1 = true → I 352 k = r.2.2.1) ∧ (F.2.1 = true → I 353 k = r.2.2.2)
section Within
variable {lx ly : Nat} {g : aG} {I : aI} {L : aL} {p : Nat → Int32} {B : mB} {hg : Nat → Nat} {cnt lim h t c f : Nat} {okT : Nat → Prop} {Run : aI → Prop} {env : Nat → Int32} {e : mE}
theorem wi_front (ih : simC g L p B hg cnt lim okT Run f) (hst : stepR g L Run) (hB : Bw B hg cnt) (hO : okB p B cnt okT) (H : Lf lx ly g p B cnt lim I h t env e) (ho : okT t) (hk : 11 ≤ (B t).1) (hk2 : (B t).1 ≤ 13) (hf : hg t ≤ f + 1) (hd : h + hg t ≤ 30) {q q2 : mO} (hq : ev (flF p) B lim f (B t).2.2.2.2.1 env e = q)
    (K : Cont g L (flF p) lim Run q2 I h) (h1 : q.1 = 1 → q2.1 = 1 ∧ q2.2.2 = q.2.2) (h2 : q.1 = 2 → q2.1 = 2)
    (K0 : q.1 = 0 → ∀ I4, Sr (flF p) I4 lim q.2.2 (h + 1) → I4 349 (2 * h + 1) = nI q.2.1.length → Rr (flF p) I4 (100 * h + 50) q.2.1 → Fr (flF p) I4 h t env (mE.s e) (mE.l e) → Tr I4 p B cnt → Bl I I4 h → Ex mX9_within 5 0 0 (rQ g L Run) 54 [some (vS 328), some (vI (nI h)), some (vI (nI t)), none, none, none] [] g I4 L) : Mx mX9_within 5 0 0 [vS 328, vI (nI h)] g I L (rQ g L Run) := by
  obtain ⟨hw, hlim, hc, ht, hh, hE, hl, hsu, hT, hS, hF⟩ := H
  obtain ⟨hk1, -, -, hk4, -⟩ := hT.2 t ht
  have h330 := hk4 (by omega) (by omega)
  obtain ⟨-, -, hb3, -⟩ := hB t ht
  obtain ⟨ha1, ha2⟩ := hb3 (by omega) (by omega)
  obtain ⟨-, -, ho3, -⟩ := hO t ht ho
  have hoa := ho3 (by omega) (by omega)
  have h0 := (hw 328 _ rfl).2.1
  have ch : (nI h).toNatClampNeg = h := clN (by omega)
  have ct : (nI t).toNatClampNeg = t := clN (by omega)
  have vh : vp_in (nI h) 32 := inN (by omega) (by omega)
  have vt : vp_in (nI t) 80 := inN (by omega) (by omega)
  have hkr : kR (B t).1 = 12 ∨ kR (B t).1 = 13 ∨ kR (B t).1 = 14 := by
    have : (B t).1 = 11 ∨ (B t).1 = 12 ∨ (B t).1 = 13 := by omega
    rcases this with q | q | q <;> rw [q] <;> simp [kR]
  have hA : At I (up2 I 341 h 1) h := fun i k c => up2_n (by unfold mt at c; omega)
  have hS1 := hS.at hA
  have hF1 := hF.1.at hA
  have hkc := ev_ok (F := flF p) (B := B) f (B t).2.2.2.2.1 env e hE
  have hlc := ev_log (F := flF p) (B := B) hlim f (B t).2.2.2.2.1 env e hE hl
  rw [hq] at hkc hlc
  refine Mx_in (by decide +kernel) rfl rfl (Ex_bn 5 oX9_within hw ?_)
  refine And.intro vh ?_
  show Ex mX9_within 5 0 0 (rQ g L Run) 7 [some (vS 328), some (vI (nI h)), some (vI (I 340 (nI h).toNatClampNeg)), none, none, none] [] g I L
  rw [ch, hF.1.1]
  refine Ex_wx [16] 9 oX9_within hw ?_
  refine And.intro vh ?_
  rw [ch, hF.2.1]
  refine And.intro (fun _ => ?_) (fun c => absurd rfl c)
  refine Ex_bn 5 oX9_within hw ?_
  refine And.intro vh ?_
  show Ex mX9_within 5 0 0 (rQ g L Run) 23 [some (vS 328), some (vI (nI h)), some (vI (nI t)), none, none, none] [] g (up2 I 341 (nI h).toNatClampNeg 1) L
  rw [ch]
  have q330 : up2 I 341 h 1 330 t = nI (B t).2.2.2.2.1 := by rw [up2_i (by omega)]; exact h330
  have hX := r_push (L := L) (d := 0) (t := (B t).2.2.2.2.1) (fr := nI h) (n := -1) (v := 0) (src := env) hw (by omega) hS1 hE.2.2 hlim (Or.inr ⟨h, by omega, rfl, hF1.2.1⟩) (Or.inl rfl) hF1.2.2.1 hF1.2.2.2.2.1
  rw [upE_no] at hX
  refine Ex_wx [] 9 oX9_within hw ?_
  refine And.intro vt (And.intro vh (And.intro vh ?_))
  rw [ch, ct, q330]
  refine Ex_r (As := [vI (nI (B t).2.2.2.2.1), vI (nI h), vI (-1), vI 0, vI (up2 I 341 h 1 344 h), vI (up2 I 341 h 1 345 h)]) (st := []) vX9_237 rfl rfl hX h0 (by omega) rfl (dc_ok oX9_within rfl) ?_
  intro I2 hP
  refine Ex_wx [] 9 oX9_within hw ?_
  refine ⟨rfl, rfl, rfl, ?_⟩
  refine sim_child ih hP hS1 (hT.bl hA.bl) ha1 (by omega) hoa (by omega) hE hl hlim ?_
  rw [hq]
  refine cont_err (t := t) (q2 := q2) hw hh (by omega) hF1 ?_ (K.bl hA.bl) h1 h2 ?_
  · rw [up2_i (by omega), hk1]
    rcases hkr with q | q | q <;> rw [q] <;> exact fun c => absurd c.1 (by decide)
  intro q0 I3 sS sm sr sb
  have hT3 := (hT.bl hA.bl).bl sb
  have hF3 := hF1.bl sb
  have p3 : I3 341 h = 1 := by rw [sb 341 h (by unfold kp; omega)]; exact up2_s
  have m3 : I3 349 (2 * h + 1) = 0 := by rw [sb 349 _ (by unfold kp; omega), up2_i (by omega)]; exact hF.2.2.2.2.2
  have bl3 : Bl I I3 h := hA.bl.trans (sb.mono (by omega))
  refine hst I3 h sS.1.1 (by omega) sS.1.2.2.2.1 (r_go_within hw sS.1.1 (by omega) hF3.1 (by omega) (hT3.2 t ht).1 hkr ?_)
  refine Mx_in (by decide +kernel) rfl rfl (Ex_bn 5 oX9_within hw ?_)
  refine And.intro vh ?_
  show Ex mX9_within 5 0 0 (rQ g L Run) 7 [some (vS 328), some (vI (nI h)), some (vI (I3 340 (nI h).toNatClampNeg)), none, none, none] [] g I3 L
  rw [ch, hF3.1]
  refine Ex_wx [16] 9 oX9_within hw ?_
  refine And.intro vh ?_
  rw [ch, p3]
  refine And.intro (fun c => absurd c (by decide)) (fun _ => ?_)
  refine Ex_r (As := [vI (nI h)]) (st := []) vX9_259 rfl rfl (r_gather (acc := []) (d := 4) (F := flF p) hw (by omega) (by omega) m3 (by simp) Rr.nil sm sr (hkc.2.2 q0).2 (hkc.2.2 q0).1 sS.1.2.2.2.1) h0 (by omega) rfl (dc_ok oX9_within rfl) ?_
  intro I4 hG
  rcases hG.split sS hlc.1 hkc.2.1 hlim with ⟨hbig, -⟩ | ⟨-, hS4, m4, r4, hA4, -⟩
  · rw [List.nil_append] at hbig
    exact absurd (hkc.2.2 q0).1 (by omega)
  · rw [List.nil_append] at m4 r4
    exact K0 q0 I4 hS4 m4 r4 (hF3.at hA4) (hT3.bl hA4.bl) (bl3.trans hA4.bl)
theorem wi_once (ih : simC g L p B hg cnt lim okT Run f) (hst : stepR g L Run) (hB : Bw B hg cnt) (hO : okB p B cnt okT) (H : Lf lx ly g p B cnt lim I h t env e) (ho : okT t) (hk : (B t).1 = 11) (hf : hg t ≤ f + 1) (hd : h + hg t ≤ 30) {q : mO} (hq : ev (flF p) B lim f (B t).2.2.2.2.1 env e = q)
    (K : Cont g L (flF p) lim Run (if q.1 ≠ 0 then (q.1, [], q.2.2) else (0, q.2.1.take 1, q.2.2)) I h) : Mx mX9_within 5 0 0 [vS 328, vI (nI h)] g I L (rQ g L Run) := by
  refine wi_front ih hst hB hO H ho (by omega) (by omega) hf hd hq K ?_ ?_ ?_
  · intro q1; rw [if_pos (by rw [q1]; decide)]; exact ⟨q1, rfl⟩
  · intro q1; rw [if_pos (by rw [q1]; decide)]; exact q1
  intro q0 I4 hS4 m4 r4 hF4 hT4 bl4
  rw [if_neg (fun c => c q0)] at K
  obtain ⟨hw, hlim, hc, ht, hh, hE, hl, hsu, hT, hS, hF⟩ := H
  have hkc := ev_ok (F := flF p) (B := B) f (B t).2.2.2.2.1 env e hE
  rw [hq] at hkc
  have h5 := (hkc.2.2 q0).1
  have h0 := (hw 328 _ rfl).2.1
  have ct : (nI t).toNatClampNeg = t := clN (by omega)
  have vt : vp_in (nI t) 80 := inN (by omega) (by omega)
  have e3 : (2 : Int32) * nI h + 1 = nI (2 * h + 1) := by rw [show (2 : Int32) * nI h = nI (2 * h) from nI_mul 2 h, nI_1]
  have v3 : vp_in ((2 : Int32) * nI h + 1) 64 := by rw [e3]; exact inN (by omega) (by omega)
  have c3 : ((2 : Int32) * nI h + 1).toNatClampNeg = 2 * h + 1 := by rw [e3]; exact clN (by omega)
  have k4 : I4 329 t = nI 12 := by rw [(hT4.2 t ht).1, hk]; rfl
  -- the loop does nothing
  have loop : ∀ (n i : Nat) (I5 : aI), q.2.1.length - i = n → i ≤ q.2.1.length → I5 329 t = nI 12 → I5 328 14 = nI (h + 1) → Run (up2 I5 328 14 (nI h)) → Ex mX9_within 5 0 0 (rQ g L Run) 104 [some (vS 328), some (vI (nI h)), some (vI (nI t)), some (vI (nI (100 * h + 50))), some (vI (nI q.2.1.length)), some (vI (nI i))] [] g I5 L := by
    intro n
    induction n with
    | zero =>
      intro i I5 hn hi k5 h14 hR
      have : i = q.2.1.length := by omega
      subst this
      refine Ex_wx [] 9 oX9_within hw ?_
      refine And.intro (fun _ => ?_) (fun c => absurd (Int32.le_refl _) c)
      refine And.intro vt ?_
      rw [ct, k5]
      refine And.intro (fun c => absurd c (by decide)) (fun _ => ?_)
      refine Ex_v (As := []) (st := []) (d' := 0) vX9_262 rfl rfl (r_finish hw h14) h0 (by omega) rfl (dc_ok oX9_within rfl) ?_
      refine Ex_wx [] 9 oX9_within hw ?_
      exact ⟨rfl, rfl, rfl, hR⟩
    | succ n ihn =>
      intro i I5 hn hi k5 h14 hR
      refine Ex_wx [104] 9 oX9_within hw ?_
      refine And.intro (fun c => absurd (leN c (by omega) (by omega)) (by omega)) (fun _ => ?_)
      refine And.intro vt ?_
      rw [ct, k5]
      refine And.intro (fun c => absurd c (by decide)) (fun _ => ?_)
      refine And.intro vt ?_
      rw [ct, k5]
      refine And.intro (fun c => absurd c (by decide)) (fun _ => ?_)
      show Ex mX9_within 5 0 0 (rQ g L Run) 104 [some (vS 328), some (vI (nI h)), some (vI (nI t)), some (vI (nI (100 * h + 50))), some (vI (nI q.2.1.length)), some (vI (nI i + 1))] [] g I5 L
      rw [nI_1]
      exact ihn (i + 1) I5 (by omega) (by omega) k5 h14 hR
  refine Ex_wx [] 9 oX9_within hw ?_
  refine Ex_v (As := [vI (nI h), vI 1]) (st := []) (d' := 0) vX9_200 rfl rfl (r_row hw (l := 1) rfl) h0 (by omega) rfl (dc_ok oX9_within rfl) ?_
  rw [show 100 * h + 50 * 1 = 100 * h + 50 by omega]
  refine Ex_bn 10 oX9_within hw ?_
  refine And.intro v3 ?_
  show Ex mX9_within 5 0 0 (rQ g L Run) 73 [some (vS 328), some (vI (nI h)), some (vI (nI t)), some (vI (nI (100 * h + 50))), some (vI (I4 349 ((2 : Int32) * nI h + 1).toNatClampNeg)), none] [] g I4 L
  rw [c3, m4]
  refine Ex_wx [84, 90, 101] 9 oX9_within hw ?_
  refine And.intro vt ?_
  rw [ct, k4]
  refine And.intro (fun _ => ?_) (fun c => absurd rfl c)
  refine Ex_wx [90, 101] 9 oX9_within hw ?_
  refine And.intro (fun c => ?_) (fun c => ?_)
  · have hl1 := leN (b := 1) c (by omega) (by omega)
    refine Ex_bn 2 oX9_within hw ?_
    refine loop _ 0 I4 rfl (Nat.zero_le _) k4 hS4.1.1 ?_
    refine K.1 rfl _ hS4.high ?_ ?_ (bl4.trans high_bl)
    · rw [up2_i (by omega), m4, List.length_take, Nat.min_eq_right hl1]
    · rw [List.take_of_length_le hl1]
      exact r4.eq (fun i k h1 h2 h3 h4 => up2_i (by omega))
  · have hl1 : 1 < q.2.1.length := by
      rcases Nat.lt_or_ge 1 q.2.1.length with h9 | h9
      · exact h9
      · exact absurd (nI_le (b := 1) h9 (by omega)) c
    refine Ex_bn 9 oX9_within hw ?_
    refine And.intro v3 ?_
    show Ex mX9_within 5 0 0 (rQ g L Run) 101 [some (vS 328), some (vI (nI h)), some (vI (nI t)), some (vI (nI (100 * h + 50))), some (vI (nI q.2.1.length)), none] [] g (up2 I4 349 ((2 : Int32) * nI h + 1).toNatClampNeg 1) L
    rw [c3]
    have hA5 : At I4 (up2 I4 349 (2 * h + 1) 1) h := fun i k c => up2_n (by unfold mt at c; omega)
    refine Ex_bn 2 oX9_within hw ?_
    refine loop _ 0 _ rfl (Nat.zero_le _) (by rw [up2_i (by omega)]; exact k4) (hS4.at hA5).1.1 ?_
    refine K.1 rfl _ (hS4.at hA5).high ?_ ?_ ((bl4.trans hA5.bl).trans high_bl)
    · rw [up2_i (by omega), up2_s, List.length_take, Nat.min_eq_left (by omega)]; rfl
    · intro j r hj
      have hj2 : q.2.1[j]? = some r := by
        rw [List.getElem?_take] at hj
        split at hj
        · exact hj
        · cases hj
      have h9 := r4 j r hj2
      rw [up2_i (by omega), up2_i (by omega), up2_i (by omega), up2_i (by omega), up2_i (by omega), up2_i (by omega), up2_i (by omega), up2_i (by omega)]
      exact h9
end Within
end
section
/-! the reference: within, heard and hidden -/
def mixR (F : mF) (I : aI) (b i : Nat) (H : mR → mR) (cs : List mR) : Prop := ∀ j r, cs[j]? = some r → RowAt F I (b + j) (if j < i then H r else r)
theorem mixR_0 {F : mF} {I : aI} {b : Nat} {H : mR → mR} {cs : List mR} (h : Rr F I b cs) : mixR F I b 0 H cs := fun j r hj => by
  rw [if_neg (by omega)]; exact h j r hj
theorem mixR_end {F : mF} {I : aI} {b : Nat} {H : mR → mR} {cs : List mR} (h : mixR F I b cs.length H cs) : Rr F I b (cs.map H) := by
  intro j r hj
  rw [List.getElem?_map] at hj
  cases hc : cs[j]? with
  | none => rw [hc] at hj; cases hj
  | some r' =>
    rw [hc] at hj
    have h2 : H r' = r := Option.some.inj hj
    have h3 := h j r' hc
    have hlt : j < cs.length := (List.getElem?_eq_some_iff.mp hc).1
    rw [if_pos hlt, h2] at h3
    exact h3
section Heard
variable {lx ly : Nat} {g : aG} {I I4 : aI} {L : aL} {p : Nat → Int32} {B : mB} {hg : Nat → Nat} {cnt lim h t c f k n : Nat} {okT : Nat → Prop} {Run : aI → Prop} {env : Nat → Int32} {e : mE} {Q : aQ}
theorem wi_mid (hw : WS lx ly g) (hh : h ≤ 29) (h80 : t < 80) (k4 : I4 329 t = nI k) (hk : k = 13 ∨ k = 14) (m4 : I4 349 (2 * h + 1) = nI n) (K : Ex mX9_within 5 0 0 Q 104 [some (vS 328), some (vI (nI h)), some (vI (nI t)), some (vI (nI (100 * h + 50))), some (vI (nI n)), some (vI (nI 0))] [] g I4 L) : Ex mX9_within 5 0 0 Q 54 [some (vS 328), some (vI (nI h)), some (vI (nI t)), none, none, none] [] g I4 L := by
  have h0 := (hw 328 _ rfl).2.1
  have ct : (nI t).toNatClampNeg = t := clN (by omega)
  have vt : vp_in (nI t) 80 := inN (by omega) (by omega)
  have e3 : (2 : Int32) * nI h + 1 = nI (2 * h + 1) := by rw [show (2 : Int32) * nI h = nI (2 * h) from nI_mul 2 h, nI_1]
  have v3 : vp_in ((2 : Int32) * nI h + 1) 64 := by rw [e3]; exact inN (by omega) (by omega)
  have c3 : ((2 : Int32) * nI h + 1).toNatClampNeg = 2 * h + 1 := by rw [e3]; exact clN (by omega)
  refine Ex_wx [] 9 oX9_within hw ?_
  refine Ex_v (As := [vI (nI h), vI 1]) (st := []) (d' := 0) vX9_200 rfl rfl (r_row hw (l := 1) rfl) h0 (by omega) rfl (dc_ok oX9_within rfl) ?_
  rw [show 100 * h + 50 * 1 = 100 * h + 50 by omega]
  refine Ex_bn 10 oX9_within hw ?_
  refine And.intro v3 ?_
  show Ex mX9_within 5 0 0 Q 73 [some (vS 328), some (vI (nI h)), some (vI (nI t)), some (vI (nI (100 * h + 50))), some (vI (I4 349 ((2 : Int32) * nI h + 1).toNatClampNeg)), none] [] g I4 L
  rw [c3, m4]
  refine Ex_wx [84, 101] 9 oX9_within hw ?_
  refine And.intro vt ?_
  rw [ct, k4]
  refine And.intro (fun c => absurd c (by rcases hk with rfl | rfl <;> decide)) (fun _ => ?_)
  refine Ex_bn 2 oX9_within hw ?_
  exact K
theorem wi_heard (ih : simC g L p B hg cnt lim okT Run f) (hst : stepR g L Run) (hB : Bw B hg cnt) (hO : okB p B cnt okT) (H : Lf lx ly g p B cnt lim I h t env e) (ho : okT t) (hk : (B t).1 = 12) (hf : hg t ≤ f + 1) (hd : h + hg t ≤ 30) {q : mO} (hq : ev (flF p) B lim f (B t).2.2.2.2.1 env e = q)
    (K : Cont g L (flF p) lim Run (if q.1 ≠ 0 then (q.1, [], q.2.2) else (0, q.2.1.map (heardM (flF p) (lenF e (mE.l e)) q.2.2), q.2.2)) I h) : Mx mX9_within 5 0 0 [vS 328, vI (nI h)] g I L (rQ g L Run) := by
  refine wi_front ih hst hB hO H ho (by omega) (by omega) hf hd hq K ?_ ?_ ?_
  · intro q1; rw [if_pos (by rw [q1]; decide)]; exact ⟨q1, rfl⟩
  · intro q1; rw [if_pos (by rw [q1]; decide)]; exact q1
  intro q0 I4 hS4 m4 r4 hF4 hT4 bl4
  rw [if_neg (fun c => c q0)] at K
  obtain ⟨hw, hlim, hc, ht, hh, hE, hl, hsu, hT, hS, hF⟩ := H
  have hkc := ev_ok (F := flF p) (B := B) f (B t).2.2.2.2.1 env e hE
  have hlc := ev_log (F := flF p) (B := B) hlim f (B t).2.2.2.2.1 env e hE hl
  rw [hq] at hkc hlc
  have h5 := (hkc.2.2 q0).1
  have hus := hkc.2.1.us hlim
  have h0 := (hw 328 _ rfl).2.1
  have ch : (nI h).toNatClampNeg = h := clN (by omega)
  have ct : (nI t).toNatClampNeg = t := clN (by omega)
  have vh : vp_in (nI h) 32 := inN (by omega) (by omega)
  have vt : vp_in (nI t) 80 := inN (by omega) (by omega)
  have k4 : I4 329 t = nI 13 := by rw [(hT4.2 t ht).1, hk]; rfl
  refine wi_mid hw hh (by omega) k4 (Or.inl rfl) m4 ?_
  have loop : ∀ (n i : Nat) (I5 : aI), q.2.1.length - i = n → i ≤ q.2.1.length → mixR (flF p) I5 (100 * h + 50) i (heardM (flF p) (lenF e (mE.l e)) q.2.2) q.2.1 → (∀ a b, ¬ (a = 351 ∧ 100 * h + 50 ≤ b ∧ b < 100 * h + 100) → I5 a b = I4 a b) → Ex mX9_within 5 0 0 (rQ g L Run) 104 [some (vS 328), some (vI (nI h)), some (vI (nI t)), some (vI (nI (100 * h + 50))), some (vI (nI q.2.1.length)), some (vI (nI i))] [] g I5 L := by
    intro n
    induction n with
    | zero =>
      intro i I5 hn hi hm ha
      have : i = q.2.1.length := by omega
      subst this
      have hA5 : At I4 I5 h := fun i k c => ha i k (by unfold mt at c; omega)
      refine Ex_wx [] 9 oX9_within hw ?_
      refine And.intro (fun _ => ?_) (fun c => absurd (Int32.le_refl _) c)
      refine And.intro vt ?_
      rw [ct, ha _ _ (by omega), k4]
      refine And.intro (fun c => absurd c (by decide)) (fun _ => ?_)
      refine Ex_v (As := []) (st := []) (d' := 0) vX9_262 rfl rfl (r_finish hw (hS4.at hA5).1.1) h0 (by omega) rfl (dc_ok oX9_within rfl) ?_
      refine Ex_wx [] 9 oX9_within hw ?_
      refine ⟨rfl, rfl, rfl, K.1 rfl _ (hS4.at hA5).high ?_ ?_ ((bl4.trans hA5.bl).trans high_bl)⟩
      · rw [up2_i (by omega), ha _ _ (by omega), m4, List.length_map]
      · exact (mixR_end hm).eq (fun i k h1 h2 h3 h4 => up2_i (by omega))
    | succ n ihn =>
      intro i I5 hn hi hm ha
      have hil : i < q.2.1.length := by omega
      have hA5 : At I4 I5 h := fun i k c => ha i k (by unfold mt at c; omega)
      have hS5 := hS4.at hA5
      have hF5 := hF4.at hA5
      have hci : q.2.1[i]? = some q.2.1[i] := List.getElem?_eq_getElem hil
      obtain ⟨r1, r2, r3, r4'⟩ := hm i _ hci
      rw [if_neg (by omega)] at r1 r2 r3 r4'
      have hrl : inL (mE.us q.2.2) (q.2.1[i]).2.2.2 := hlc.2.2 _ (List.getElem_mem hil)
      have e2 : nI (100 * h + 50) + nI i = nI (100 * h + 50 + i) := nI_add _ _
      have v2 : vp_in (nI (100 * h + 50) + nI i) 3200 := by rw [e2]; exact inN (by omega) (by omega)
      have c2 : (nI (100 * h + 50) + nI i).toNatClampNeg = 100 * h + 50 + i := by rw [e2]; exact clN (by omega)
      have next : ∀ I6 : aI, mixR (flF p) I6 (100 * h + 50) (i + 1) (heardM (flF p) (lenF e (mE.l e)) q.2.2) q.2.1 → (∀ a b, ¬ (a = 351 ∧ 100 * h + 50 ≤ b ∧ b < 100 * h + 100) → I6 a b = I4 a b) → Ex mX9_within 5 0 0 (rQ g L Run) 104 [some (vS 328), some (vI (nI h)), some (vI (nI t)), some (vI (nI (100 * h + 50))), some (vI (nI q.2.1.length)), some (vI (nI i + 1))] [] g I6 L := by
        intro I6 a1 a2
        rw [nI_1]
        exact ihn (i + 1) I6 (by omega) (by omega) a1 a2
      have tell : ∀ val : Int32, (q.2.1[i]).2.1 = 0 → val = lenF q.2.2 (if (flF p).2.1 = true then (q.2.1[i]).2.2.2 else mE.l q.2.2) - lenF e (mE.l e) → Ex mX9_within 5 0 0 (rQ g L Run) 104 [some (vS 328), some (vI (nI h)), some (vI (nI t)), some (vI (nI (100 * h + 50))), some (vI (nI q.2.1.length)), some (vI (nI i + 1))] [] g (up2 I5 351 (100 * h + 50 + i) val) L := by
        intro val hz hval
        refine next _ ?_ ?_
        · intro j r hj
          by_cases hji : j = i
          · subst hji
            rw [hci] at hj
            have : q.2.1[j] = r := Option.some.inj hj
            subst this
            rw [if_pos (by omega)]
            unfold heardM
            rw [if_pos hz]
            refine ⟨?_, ?_, ?_, ?_⟩
            · rw [up2_s]; exact hval
            · rw [up2_i (by omega)]; exact r2
            · rw [up2_i (by omega)]; exact r3
            · rw [up2_i (by omega)]; exact r4'
          · have h9 := hm j r hj
            rw [show (if j < i + 1 then heardM (flF p) (lenF e (mE.l e)) q.2.2 r else r) = (if j < i then heardM (flF p) (lenF e (mE.l e)) q.2.2 r else r) by
              by_cases hl : j < i
              · rw [if_pos hl, if_pos (by omega)]
              · rw [if_neg hl, if_neg (by omega)]]
            unfold RowAt at h9 ⊢
            rw [up2_k (by omega), up2_i (by omega), up2_i (by omega), up2_i (by omega)]
            exact h9
        · intro a b hab
          rw [up2_n (by omega)]; exact ha a b hab
      refine Ex_wx [104, 134, 201] 9 oX9_within hw ?_
      refine And.intro (fun c => absurd (leN c (by omega) (by omega)) (by omega)) (fun _ => ?_)
      refine And.intro vt ?_
      rw [ct, ha _ _ (by omega), k4]
      refine And.intro (fun _ => ?_) (fun c => absurd rfl c)
      refine And.intro v2 ?_
      rw [c2, r2]
      have h201 : ∀ I6 : aI, I6 329 t = nI 13 → Ex mX9_within 5 0 0 (rQ g L Run) 104 [some (vS 328), some (vI (nI h)), some (vI (nI t)), some (vI (nI (100 * h + 50))), some (vI (nI q.2.1.length)), some (vI (nI i + 1))] [] g I6 L → Ex mX9_within 5 0 0 (rQ g L Run) 201 [some (vS 328), some (vI (nI h)), some (vI (nI t)), some (vI (nI (100 * h + 50))), some (vI (nI q.2.1.length)), some (vI (nI i))] [] g I6 L := by
        intro I6 k6 hE6
        refine Ex_wx [104] 9 oX9_within hw ?_
        refine And.intro vt ?_
        rw [ct, k6]
        exact And.intro (fun c => absurd c (by decide)) (fun _ => hE6)
      refine And.intro (fun hz => ?_) (fun hz => ?_)
      · refine Ex_wx [] 9 oX9_within hw ?_
        refine Ex_v (As := [vI 1]) (st := [vI (nI (100 * h + 50) + nI i), vS 351]) (d' := 1) vX9_178 rfl rfl (r_isOwn hw (l := 1) rfl (by omega) (by omega)) h0 (by omega) rfl (dc_ok oX9_within rfl) ?_
        have p5 : I5 336 = p := by rw [← hT4.1]; funext b; exact ha _ _ (by omega)
        rw [p5]
        refine Ex_wx [150, 179] 9 oX9_within hw ?_
        refine And.intro (fun c => ?_) (fun c => ?_)
        · have c1 : (flF p).2.1 = false := bI_eq c
          have hs30 := hS5.2.2.2.2.2 c1
          have hs47 := hF5.2.2.2.2.2 c1
          obtain ⟨ja, hja, hjae⟩ := hlc.1.2
          obtain ⟨jb, hjb, hjbe⟩ := hl.2
          have hga := hlc.2.1.1
          have la : I5 339 ja = lenF q.2.2 (mE.l q.2.2) := by rw [hjae]; exact Sr.len (l := 0) hS5.2 hus hja
          have lb : I5 339 jb = lenF e (mE.l e) := by
            rw [← lenF_grow hlc.2.1 hus hl.2, hjbe]; exact Sr.len (l := 0) hS5.2 hus (by omega)
          refine Ex_bn 14 oX9_within hw ?_
          refine And.intro (by rw [hs30, hjae]; exact inN (by omega) (by omega)) ?_
          refine And.intro vh ?_
          refine And.intro (by rw [ch, hs47, hjbe]; exact inN (by omega) (by omega)) ?_
          refine And.intro v2 ?_
          rw [c2, hs30, ch, hs47, hjae, hjbe, clN (k := ja) (by omega), clN (k := jb) (by omega), la, lb]
          refine h201 _ (by rw [up2_i (by omega), ha _ _ (by omega)]; exact k4) (tell _ hz ?_)
          rw [if_neg (by rw [c1]; decide)]
        · have c1 : (flF p).2.1 = true := bI_ne c
          have hs45 := hF5.2.2.2.2.1 c1
          have hrl2 := r4' c1
          obtain ⟨ja, hja, hjae⟩ := hrl
          obtain ⟨jb, hjb, hjbe⟩ := hl.2
          have hga := hlc.2.1.1
          have la : I5 339 ja = lenF q.2.2 (q.2.1[i]).2.2.2 := by rw [hjae]; exact Sr.len (l := 0) hS5.2 hus hja
          have lb : I5 339 jb = lenF e (mE.l e) := by
            rw [← lenF_grow hlc.2.1 hus hl.2, hjbe]; exact Sr.len (l := 0) hS5.2 hus (by omega)
          refine Ex_wx [200] 9 oX9_within hw ?_
          refine And.intro v2 ?_
          refine And.intro (by rw [c2, hrl2, hjae]; exact inN (by omega) (by omega)) ?_
          refine And.intro vh ?_
          refine And.intro (by rw [ch, hs45, hjbe]; exact inN (by omega) (by omega)) ?_
          refine Ex_bn 1 oX9_within hw ?_
          refine And.intro v2 ?_
          rw [c2, hrl2, ch, hs45, hjae, hjbe, clN (k := ja) (by omega), clN (k := jb) (by omega), la, lb]
          refine h201 _ (by rw [up2_i (by omega), ha _ _ (by omega)]; exact k4) (tell _ hz ?_)
          rw [if_pos c1]
      · refine h201 I5 (by rw [ha _ _ (by omega)]; exact k4) (next _ ?_ ha)
        intro j r hj
        have h9 := hm j r hj
        by_cases hji : j = i
        · subst hji
          rw [hci] at hj
          have : q.2.1[j] = r := Option.some.inj hj
          subst this
          rw [if_neg (by omega)] at h9
          rw [if_pos (by omega)]
          unfold heardM
          rw [if_neg hz]
          exact h9
        · rw [show (if j < i + 1 then heardM (flF p) (lenF e (mE.l e)) q.2.2 r else r) = (if j < i then heardM (flF p) (lenF e (mE.l e)) q.2.2 r else r) by
            by_cases hl : j < i
            · rw [if_pos hl, if_pos (by omega)]
            · rw [if_neg hl, if_neg (by omega)]]
          exact h9
  exact loop _ 0 I4 rfl (Nat.zero_le _) (mixR_0 r4) (fun _ _ _ => rfl)
theorem wi_hidden (ih : simC g L p B hg cnt lim okT Run f) (hst : stepR g L Run) (hB : Bw B hg cnt) (hO : okB p B cnt okT) (H : Lf lx ly g p B cnt lim I h t env e) (ho : okT t) (hk : (B t).1 = 13) (hf : hg t ≤ f + 1) (hd : h + hg t ≤ 30) {q : mO} (hq : ev (flF p) B lim f (B t).2.2.2.2.1 env e = q)
    (K : Cont g L (flF p) lim Run (if q.1 ≠ 0 then (q.1, [], q.2.2) else (0, q.2.1.map (hiddenM (mE.l e)), setSL q.2.2 (mE.s q.2.2) (mE.l e))) I h) : Mx mX9_within 5 0 0 [vS 328, vI (nI h)] g I L (rQ g L Run) := by
  refine wi_front ih hst hB hO H ho (by omega) (by omega) hf hd hq K ?_ ?_ ?_
  · intro q1; rw [if_pos (by rw [q1]; decide)]; exact ⟨q1, rfl⟩
  · intro q1; rw [if_pos (by rw [q1]; decide)]; exact q1
  intro q0 I4 hS4 m4 r4 hF4 hT4 bl4
  rw [if_neg (fun c => c q0)] at K
  obtain ⟨hw, hlim, hc, ht, hh, hE, hl, hsu, hT, hS, hF⟩ := H
  have hs1 : hsF p 1 = true := (hO t ht ho).2.1 hk
  have hkc := ev_ok (F := flF p) (B := B) f (B t).2.2.2.2.1 env e hE
  rw [hq] at hkc
  have h5 := (hkc.2.2 q0).1
  have h0 := (hw 328 _ rfl).2.1
  have ch : (nI h).toNatClampNeg = h := clN (by omega)
  have ct : (nI t).toNatClampNeg = t := clN (by omega)
  have vh : vp_in (nI h) 32 := inN (by omega) (by omega)
  have vt : vp_in (nI t) 80 := inN (by omega) (by omega)
  have k4 : I4 329 t = nI 14 := by rw [(hT4.2 t ht).1, hk]; rfl
  refine wi_mid hw hh (by omega) k4 (Or.inr rfl) m4 ?_
  have loop : ∀ (n i : Nat) (I5 : aI), q.2.1.length - i = n → i ≤ q.2.1.length → mixR (flF p) I5 (100 * h + 50) i (hiddenM (mE.l e)) q.2.1 → (∀ a b, ¬ (a = 353 ∧ 100 * h + 50 ≤ b ∧ b < 100 * h + 100) → I5 a b = I4 a b) → Ex mX9_within 5 0 0 (rQ g L Run) 104 [some (vS 328), some (vI (nI h)), some (vI (nI t)), some (vI (nI (100 * h + 50))), some (vI (nI q.2.1.length)), some (vI (nI i))] [] g I5 L := by
    intro n
    induction n with
    | zero =>
      intro i I5 hn hi hm ha
      have : i = q.2.1.length := by omega
      subst this
      have hA5 : At I4 I5 h := fun i k c => ha i k (by unfold mt at c; omega)
      have hS5 := hS4.at hA5
      have hF5 := hF4.at hA5
      have p5 : I5 336 = p := by rw [← hT4.1]; funext b; exact ha _ _ (by omega)
      have m5 : I5 349 (2 * h + 1) = nI (q.2.1.map (hiddenM (mE.l e))).length := by rw [ha _ _ (by omega), m4, List.length_map]
      refine Ex_wx [252] 9 oX9_within hw ?_
      refine And.intro (fun _ => ?_) (fun c => absurd (Int32.le_refl _) c)
      refine And.intro vt ?_
      rw [ct, ha _ _ (by omega), k4]
      refine And.intro (fun _ => ?_) (fun c => absurd rfl c)
      refine Ex_wx [] 9 oX9_within hw ?_
      refine Ex_v (As := [vI 1]) (st := []) (d' := 2) vX9_221 rfl rfl (r_isShared hw (l := 1) rfl (by omega) (by omega)) h0 (by omega) rfl (dc_ok oX9_within rfl) ?_
      rw [p5]
      refine Ex_wx [260] 9 oX9_within hw ?_
      refine And.intro (fun c => ?_) (fun c => ?_)
      · have c1 : (flF p).2.1 = true := by
          have := bI_eq c
          simp only [shF, hs1, Bool.true_and, Bool.not_eq_false'] at this
          exact this
        refine Ex_v (As := []) (st := []) (d' := 0) vX9_262 rfl rfl (r_finish hw hS5.1.1) h0 (by omega) rfl (dc_ok oX9_within rfl) ?_
        refine Ex_wx [] 9 oX9_within hw ?_
        have hS6 : Sr (flF p) I5 lim (setSL q.2.2 (mE.s q.2.2) (mE.l e)) (h + 1) := ⟨hS5.1, hS5.2.1, hS5.2.2.1, hS5.2.2.2.1, hS5.2.2.2.2.1, fun q => (by rw [c1] at q; cases q)⟩
        refine ⟨rfl, rfl, rfl, K.1 rfl _ hS6.high ?_ ?_ ((bl4.trans hA5.bl).trans high_bl)⟩
        · rw [up2_i (by omega)]; exact m5
        · exact (mixR_end hm).eq (fun i k h1 h2 h3 h4 => up2_i (by omega))
      · have c1 : (flF p).2.1 = false := by
          have := bI_ne c
          simp only [shF, hs1, Bool.true_and, Bool.not_eq_true'] at this
          exact this
        have hs47 := hF5.2.2.2.2.2 c1
        refine Ex_bn 6 oX9_within hw ?_
        refine And.intro vh ?_
        show Ex mX9_within 5 0 0 (rQ g L Run) 270 [some (vS 328), some (vI (nI h)), some (vI (nI t)), some (vI (nI (100 * h + 50))), some (vI (nI q.2.1.length)), some (vI (nI q.2.1.length))] [] g (up2 I5 328 30 (I5 347 (nI h).toNatClampNeg)) L
        rw [ch, hs47]
        have hS6 : Sr (flF p) (up2 I5 328 30 (mE.l e)) lim (setSL q.2.2 (mE.s q.2.2) (mE.l e)) (h + 1) := by
          obtain ⟨⟨h1, h2, h3, h4, h5, h6⟩, l1, ⟨l2, l3, l4⟩, l5, l6, l7⟩ := hS5
          refine ⟨⟨?_, ?_, ?_, ?_, ?_, ?_⟩, ?_, ⟨?_, ?_, ?_⟩, fun k k1 k2 => ?_, fun c => ?_, fun _ => up2_s⟩
          · rw [up2_k (by omega)]; exact h1
          · rw [up2_k (by omega)]; exact h2
          · rw [up2_k (by omega)]; exact h3
          · rw [up2_k (by omega)]; exact h4
          · rw [up2_k (by omega)]; exact h5
          · rw [up2_k (by omega)]; exact h6
          · rw [up2_k (by omega)]; exact l1
          · rw [up2_i (by omega)]; exact l2
          · rw [up2_i (by omega)]; exact l3
          · rw [up2_i (by omega)]; exact l4
          · rw [up2_i (by omega), up2_i (by omega), up2_i (by omega)]; exact l5 k k1 k2
          · rw [up2_k (by omega)]; exact l6 c
        refine Ex_wx [] 9 oX9_within hw ?_
        refine Ex_v (As := []) (st := []) (d' := 0) vX9_262 rfl rfl (r_finish hw hS6.1.1) h0 (by omega) rfl (dc_ok oX9_within rfl) ?_
        refine Ex_wx [] 9 oX9_within hw ?_
        have bl6 : Bl I5 (up2 I5 328 30 (mE.l e)) h := fun i k c => up2_n (by unfold kp at c; omega)
        refine ⟨rfl, rfl, rfl, K.1 rfl _ hS6.high ?_ ?_ (((bl4.trans hA5.bl).trans bl6).trans high_bl)⟩
        · rw [up2_i (by omega), up2_i (by omega)]; exact m5
        · exact (mixR_end hm).eq (fun i k h1 h2 h3 h4 => by rw [up2_i (by omega), up2_i (by omega)])
    | succ n ihn =>
      intro i I5 hn hi hm ha
      have hil : i < q.2.1.length := by omega
      have hA5 : At I4 I5 h := fun i k c => ha i k (by unfold mt at c; omega)
      have hF5 := hF4.at hA5
      have p5 : I5 336 = p := by rw [← hT4.1]; funext b; exact ha _ _ (by omega)
      have hci : q.2.1[i]? = some q.2.1[i] := List.getElem?_eq_getElem hil
      have e2 : nI (100 * h + 50) + nI i = nI (100 * h + 50 + i) := nI_add _ _
      have v2 : vp_in (nI (100 * h + 50) + nI i) 3200 := by rw [e2]; exact inN (by omega) (by omega)
      have c2 : (nI (100 * h + 50) + nI i).toNatClampNeg = 100 * h + 50 + i := by rw [e2]; exact clN (by omega)
      have next : ∀ I6 : aI, (∀ a b, ¬ (a = 353 ∧ 100 * h + 50 ≤ b ∧ b < 100 * h + 100) → I6 a b = I4 a b) → (∀ a b, ¬ (a = 353 ∧ b = 100 * h + 50 + i) → I6 a b = I5 a b) → ((flF p).2.1 = true → I6 353 (100 * h + 50 + i) = mE.l e) → Ex mX9_within 5 0 0 (rQ g L Run) 104 [some (vS 328), some (vI (nI h)), some (vI (nI t)), some (vI (nI (100 * h + 50))), some (vI (nI q.2.1.length)), some (vI (nI i + 1))] [] g I6 L := by
        intro I6 a1 a2 a3
        rw [nI_1]
        refine ihn (i + 1) I6 (by omega) (by omega) ?_ a1
        intro j r hj
        have h9 := hm j r hj
        by_cases hji : j = i
        · subst hji
          rw [if_neg (by omega)] at h9
          rw [if_pos (by omega)]
          refine ⟨by rw [a2 _ _ (by omega)]; exact h9.1, by rw [a2 _ _ (by omega)]; exact h9.2.1, fun c => by rw [a2 _ _ (by omega)]; exact h9.2.2.1 c, a3⟩
        · rw [show (if j < i + 1 then hiddenM (mE.l e) r else r) = (if j < i then hiddenM (mE.l e) r else r) by
            by_cases hl : j < i
            · rw [if_pos hl, if_pos (by omega)]
            · rw [if_neg hl, if_neg (by omega)]]
          unfold RowAt at h9 ⊢
          rw [a2 _ _ (by omega), a2 _ _ (by omega), a2 _ _ (by omega), a2 _ _ (by omega)]
          exact h9
      refine Ex_wx [212] 9 oX9_within hw ?_
      refine And.intro (fun c => absurd (leN c (by omega) (by omega)) (by omega)) (fun _ => ?_)
      refine And.intro vt ?_
      rw [ct, ha _ _ (by omega), k4]
      refine And.intro (fun c => absurd c (by decide)) (fun _ => ?_)
      refine And.intro vt ?_
      rw [ct, ha _ _ (by omega), k4]
      refine And.intro (fun _ => ?_) (fun c => absurd rfl c)
      refine Ex_wx [] 9 oX9_within hw ?_
      refine Ex_v (As := [vI 1]) (st := []) (d' := 1) vX9_178 rfl rfl (r_isOwn hw (l := 1) rfl (by omega) (by omega)) h0 (by omega) rfl (dc_ok oX9_within rfl) ?_
      rw [p5]
      refine Ex_wx [104] 9 oX9_within hw ?_
      refine And.intro (fun c => ?_) (fun c => ?_)
      · have c1 : (flF p).2.1 = false := bI_eq c
        exact next I5 ha (fun _ _ _ => rfl) (fun q => by rw [c1] at q; cases q)
      · have c1 : (flF p).2.1 = true := bI_ne c
        have hs45 := hF5.2.2.2.2.1 c1
        refine And.intro vh (And.intro v2 ?_)
        rw [c2, ch, hs45]
        refine next _ ?_ ?_ (fun _ => up2_s)
        · intro a b hab
          rw [up2_n (by omega)]; exact ha a b hab
        · intro a b hab
          rw [up2_n (by omega)]
  exact loop _ 0 I4 rfl (Nat.zero_le _) (mixR_0 r4) (fun _ _ _ => rfl)
end Heard
end
