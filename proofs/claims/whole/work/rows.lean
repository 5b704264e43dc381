section
/-! ===== BEGIN words of one list among another's, by their places ===== -/
theorem goodIn_r {big : List Cond} (ws : List Cond) (ps : List Nat) (hp : ws = ps.filterMap (fun i => big[i]?)) (h : ws.all goodWord = true) : GoodIn big ws := by
  intro w hw
  have h1 := List.all_eq_true.mp h w hw
  rw [hp] at hw
  obtain ⟨i, -, hi⟩ := List.mem_filterMap.mp hw
  have hm : w ∈ big := by first | exact List.mem_of_getElem? hi | exact List.getElem?_mem hi
  exact ⟨hm, good_of_word h1⟩
theorem goodIn_app {big a b : List Cond} (ha : GoodIn big a) (hb : GoodIn big b) : GoodIn big (a ++ b) := fun w h => (List.mem_append.mp h).elim (ha w) (hb w)
theorem goodIn_ca {big a b : List Cond} {c : Cond} (ha : GoodIn big (c :: a)) (hb : GoodIn big b) : GoodIn big (c :: (a ++ b)) := fun w h => (List.mem_cons.mp h).elim (fun e => ha w (List.mem_cons.mpr (Or.inl e))) (fun h => (List.mem_append.mp h).elim (fun h => ha w (List.mem_cons.mpr (Or.inr h))) (hb w))
theorem goodIn_sub {big ws : List Cond} (hm : ∀ w ∈ ws, w ∈ big) (h : ws.all goodWord = true) : GoodIn big ws := fun w hw => ⟨hm w hw, good_of_word (List.all_eq_true.mp h w hw)⟩
/-! ===== END ===== -/

/-! ===== BEGIN exceptions that leave a method, and their catching by the caller (launches without stack traces) ===== -/
section VXA
/-! The laws vx_back, vx_callV, vx_callS, vx_callSW, vx_throw0, vx_throwS follow proofs of the library, with one case more: JvmDerived/Free/Laws.lean (Back.of_free), Shelf42/LK1.lean (callV, callS), Shelf/KitTraced.lean (throwNew0V, throwNewS). -/
/-- where a method has thrown q: the class by its name, the cell, what was written, the world -/
def vx_T (XC : String → State → State → Prop) (st : State) (q : Addr) (t : State) (mc ms : Nat) (free : Addr → Prop) : Prop :=
  ∃ (E : String) (ce : Cell) (L : List Loc), XC E st t ∧ t.heap[q]? = some ce ∧ ce.vm = .none ∧ st.vm.findClass E = some ce.cls ∧ st.WarmedH t.vm ∧ st.sameButNew ({ t with vm := st.vm } : State) L mc ms ∧ ∀ z ∈ L, free z.base
def vx_Q (Qc : Array Value → State → Outcome → State → Prop) (XC : String → State → State → Prop) (mc ms : Nat) (free : Addr → Prop) : Array Value → State → Outcome → State → Prop := fun a st o t =>
  (Qc a st o t ∧ ∃ L, FrameEnd st o t L mc ms ∧ ∀ q ∈ L, free q.base) ∨ ∃ q, o = .threw q ∧ vx_T XC st q t mc ms free
/-- a callee that returns or throws -/
def vx_Met (l : Launch) (y : MethodName) (ws : List Cond) (rm : Room) (Pc : Array Value → State → Prop) (Qc : Array Value → State → Outcome → State → Prop) (XC : String → State → State → Prop) (mc ms : Nat) (free : Addr → Prop) : Prop :=
  MetFree l y (headSpec ws rm) Pc (fun _ _ _ _ _ => True) (vx_Q Qc XC mc ms free)
def vx_Post (XC : String → State → State → Prop) (mc ms : Nat) (free : Addr → Prop) : Pt → Array Value → Addr → Pt → Prop := fun A a q B =>
  ∃ (g : JFrame) (mk : MethodId) (t : State) (L : List Loc) (E : String) (ce : Cell), B.U.heap = t.heap ∧ B.U.vm = t.vm ∧ XC E (A.U.calling g mk a) t ∧ t.heap[q]? = some ce ∧ ce.vm = .none ∧ A.U.vm.findClass E = some ce.cls ∧ B.locs = A.locs ++ L ∧ (∀ z ∈ L, free z.base) ∧ B.cells = A.cells + mc ∧ B.slots = A.slots + ms
def vx_Back (l : Launch) (R : Room) (p : Program) (e : Env) (below : List Frame) (s : State) (sargs : Array Value) (y : MethodName) (len W9 : Nat)
    (Pre : Pt → Array Value → Prop) (Post : Pt → Array Value → Option Value → Pt → Prop) (PostX : Pt → Array Value → Addr → Pt → Prop) : Prop :=
  ∀ (m : MethodId) (meth : Method) (c : Code) (A : Pt) (g : JFrame) (ig : Instr) (mk : MethodId) (a : Array Value),
    Stand p l e R s m sargs below meth c A.U A.locs A.cells A.slots → g.method = m → g.locals.size = c.maxLocals → decode c.code g.pc = .ok (ig, len) →
    2 * g.monitorRoom + (g.stack.map fun v => v.category).sum ≤ W9 → A.U.methodNamed? y = some mk → Pre A a →
    (∃ (v : Option Value) (B : Pt), Stand p l e R s m sargs below meth c B.U B.locs B.cells B.slots ∧ Post A a v B ∧
      Steps p.tables e below (doInvoke e (A.U.setTop g) [] mk a).1 (B.U.setTop { g with pc := g.pc + len, stack := v.toList ++ g.stack })) ∨
    (∃ (q : Addr) (B : Pt), Stand p l e R s m sargs below meth c B.U B.locs B.cells B.slots ∧ PostX A a q B ∧
      Steps p.tables e below (doInvoke e (A.U.setTop g) [] mk a).1 ((B.U.setTop g).pushFrame (.throwing q)))
section Payer
variable {l : Launch} {R : Room} {p : Program} {e : Env} {below : List Frame} {s : State} {sargs : Array Value} {y : MethodName} {len W9 : Nat}
theorem vx_back {ws : List Cond} {rm : Room} {Pc : Array Value → State → Prop} {Qc : Array Value → State → Outcome → State → Prop} {XC : String → State → State → Prop} {mc ms : Nat} {free : Addr → Prop} {bytes : ByteArray} {maxL : Nat} {ret : Option FieldType}
    (hM : vx_Met l y ws rm Pc Qc XC mc ms free) (hblind : FrameBlind Pc) (hrc : rm.cells = mc) (hrs : rm.slots = ms)
    (hframes : rm.frames + 1 ≤ R.frames) (hlocals : W9 + (maxL + 11) + rm.locals ≤ R.locals)
    (hws : ∀ w ∈ ws, ∀ a' U, s.WarmedH U.vm → w.before a' U = true) (hcode : Cond.code y bytes maxL ret ∈ ws) (hinit : ∀ a' U, s.WarmedH U.vm → (Cond.initialized y.cls).before a' U = true) :
    vx_Back l R p e below s sargs y len W9 (PreOf R mc ms Pc) (PostOf Qc mc ms free) (vx_Post XC mc ms free) := by
  intro m meth c A g ig mk a X hg hsize hdg hW hn hp
  have h1 : (headSpec ws rm).pre.before a A.U = true := atoms_intro fun w hw => hws w hw _ _ X.warmed
  have h2 : (Cond.code y bytes maxL ret).before a A.U = true := hws _ hcode _ _ X.warmed
  have h3 : (Cond.initialized y.cls).before a A.U = true := hinit _ _ X.warmed
  have h4 : A.cells + (headSpec ws rm).room.cells ≤ R.cells := by rw [show (headSpec ws rm).room.cells = mc from hrc]; exact hp.1
  have h5 : A.slots + (headSpec ws rm).room.slots ≤ R.slots := by rw [show (headSpec ws rm).room.slots = ms from hrs]; exact hp.2.1
  have hPc : Pc a (A.U.calling g mk a) := hblind _ _ _ _ hp.2.2
  obtain ⟨U, Ls, c0, s0⟩ := A
  dsimp only [Pt.U, Pt.locs, Pt.cells, Pt.slots] at h1 h2 h3 h4 h5 X hn hPc ⊢
  obtain ⟨methY, cY, hmY, hcY, -, hlY, -, -, -, -⟩ := Cond.code_spec hn h2
  obtain ⟨kY, hkY, -⟩ := className_of_methodNamed hn
  have hinitY : kY.init = .initialized := Cond.initialized_spec (findClass_of_methodNamed hn) hkY h3
  have h : At U g.method c below := by rw [hg]; exact X.here
  have hlocals9 : W9 + (maxL + 11) + (headSpec ws rm).room.locals ≤ R.locals := hlocals
  have happ : (headSpec ws rm).appliesLoose y e.platform (U.calling g mk a) = true :=
    Spec.appliesLoose_calling (g := g) h hdg hn hkY hinitY
      (X.room_calling (g := g) (R' := (headSpec ws rm).room) hsize hmY hcY hframes (by rw [hlY]; omega) h4 h5) h1
  obtain ⟨mid, hmid⟩ := h.above
  have hfr : (U.setTop g).frames = (.java g :: mid) ++ below := by rw [State.frames_setTop' g h.top, hmid]; rfl
  obtain ⟨o, s₂, hsteps, -, hend, hq⟩ := Steps.callFree hM p X.admits X.cas X.clock (acts := []) hfr happ hPc trivial
  have hq' : vx_Q Qc XC mc ms free a (U.calling g mk a) o s₂ := hq
  rw [State.frames_setTop' g h.top] at hend
  obtain ⟨g₀, hg0⟩ := Option.isSome_iff_exists.mp h.top
  obtain ⟨r, hr⟩ := State.topJava?_eq_some.mp hg0
  have hr' : (({ U with heap := s₂.heap, slotsUsed := s₂.slotsUsed } : State).setVm s₂.vm).frames = .java g₀ :: r := hr
  rcases hq' with ⟨hqc, L, hfe, hL⟩ | ⟨q, rfl, E, ce, L, hx, hce, hcv, hcl, hW₂, hsm, hL⟩
  · obtain ⟨⟨v, rfl⟩, hW₂, e2, q2, q3, q4, q5, q6⟩ := id hfe
    have e3 : s₂ = ({ (U.calling g mk a).setFrames s₂.frames with heap := s₂.heap, slotsUsed := s₂.slotsUsed } : State).setVm s₂.vm := by
      have : s₂ = ({ s₂ with vm := (U.calling g mk a).vm } : State).setVm s₂.vm := rfl
      rw [e2] at this
      exact this
    obtain ⟨c₂, i₂, len₂, hc₂, hd₂, hf₂⟩ := hend
    have hW' : U.WarmedH s₂.vm := hW₂
    have hcc : c₂ = c := by
      have h1 : s₂.code? g.method = U.code? g.method := by
        rw [State.code?_eq, State.code?_eq, hW'.alike.method?]
      exact Option.some.inj (hc₂.symm.trans (h1.trans h.code))
    subst hcc
    have hlen : len₂ = len := by rw [hdg] at hd₂; cases hd₂; rfl
    subst hlen
    have hs₂ : s₂ = (({ U with heap := s₂.heap, slotsUsed := s₂.slotsUsed } : State).setVm s₂.vm).setTop { g with pc := g.pc + len₂, stack := v.toList ++ g.stack } := by
      refine e3.trans ?_
      rw [hf₂, State.calling_eq h.top, State.setFrames_setFrames, State.setTop_of_frames _ hr', hr]
      rfl
    have hsame : U.sameButNew ({ U with heap := s₂.heap, slotsUsed := s₂.slotsUsed } : State) L mc ms := by
      refine ⟨?_, q2, q3, q4, q5, q6⟩
      obtain ⟨t, ht, -⟩ := State.frames_cons hr
      show ({ U with heap := s₂.heap, slotsUsed := s₂.slotsUsed } : State) = { U.setFrames U.frames with heap := s₂.heap, slotsUsed := s₂.slotsUsed }
      rw [State.setFrames_self ht]
    subst hg
    refine Or.inl ⟨v, ⟨(({ U with heap := s₂.heap, slotsUsed := s₂.slotsUsed } : State).setVm s₂.vm), Ls ++ L, c0 + mc, s0 + ms⟩,
      ⟨X.admits, X.cas, X.clock, X.frames, X.room, X.hears, X.method, X.code, (X.here.setHeapUsed s₂.heap s₂.slotsUsed).setVm hW'.alike, X.tail, State.WarmedH.trans X.warmed hW', X.limits, X.bytes, X.same.trans (hsame.setVm s.vm)⟩,
      ⟨g, mk, s₂, L, rfl, rfl, hqc, rfl, hL, rfl, rfl⟩, ?_⟩
    show Steps p.tables e below _ ((({ U with heap := s₂.heap, slotsUsed := s₂.slotsUsed } : State).setVm s₂.vm).setTop { g with pc := g.pc + len₂, stack := v.toList ++ g.stack })
    rw [← hs₂]
    exact hsteps
  · obtain ⟨e2, q2, q3, q4, q5, q6⟩ := id hsm
    have e3 : s₂ = ({ (U.calling g mk a).setFrames s₂.frames with heap := s₂.heap, slotsUsed := s₂.slotsUsed } : State).setVm s₂.vm := by
      have : s₂ = ({ s₂ with vm := (U.calling g mk a).vm } : State).setVm s₂.vm := rfl
      rw [e2] at this
      exact this
    have hf₂ : s₂.frames = .throwing q :: .java g :: U.frames.tail := hend
    have hW' : U.WarmedH s₂.vm := hW₂
    have hs₂ : s₂ = ((({ U with heap := s₂.heap, slotsUsed := s₂.slotsUsed } : State).setVm s₂.vm).setTop g).pushFrame (.throwing q) := by
      refine e3.trans ?_
      rw [hf₂, State.calling_eq h.top, State.setFrames_setFrames, State.pushFrame, State.frames_setTop _ hr', State.setTop_of_frames _ hr', State.setFrames_setFrames, hr]
      rfl
    have hsame : U.sameButNew ({ U with heap := s₂.heap, slotsUsed := s₂.slotsUsed } : State) L mc ms := by
      refine ⟨?_, q2, q3, q4, q5, q6⟩
      obtain ⟨t, ht, -⟩ := State.frames_cons hr
      show ({ U with heap := s₂.heap, slotsUsed := s₂.slotsUsed } : State) = { U.setFrames U.frames with heap := s₂.heap, slotsUsed := s₂.slotsUsed }
      rw [State.setFrames_self ht]
    subst hg
    refine Or.inr ⟨q, ⟨(({ U with heap := s₂.heap, slotsUsed := s₂.slotsUsed } : State).setVm s₂.vm), Ls ++ L, c0 + mc, s0 + ms⟩,
      ⟨X.admits, X.cas, X.clock, X.frames, X.room, X.hears, X.method, X.code, (X.here.setHeapUsed s₂.heap s₂.slotsUsed).setVm hW'.alike, X.tail, State.WarmedH.trans X.warmed hW', X.limits, X.bytes, X.same.trans (hsame.setVm s.vm)⟩,
      ⟨g, mk, s₂, L, E, ce, rfl, rfl, hx, hce, hcv, hcl, rfl, hL, rfl, rfl⟩, ?_⟩
    show Steps p.tables e below _ (((({ U with heap := s₂.heap, slotsUsed := s₂.slotsUsed } : State).setVm s₂.vm).setTop g).pushFrame (.throwing q))
    rw [← hs₂]
    exact hsteps
end Payer
section Calls
variable {p : Program} {l : Launch} {e : Env} {R : Room} {s : State} {m : MethodId} {args : Array Value} {below : List Frame} {meth : Method} {c : Code} {T : State} {locs : List Loc} {cells slots : Nat}
theorem vx_callV (X : Stand p l e R s m args below meth c T locs cells slots) (hexec : p.tables.exec = Jvm.exec) {own C : String} {index : Nat} {y : MethodName} {bytes : ByteArray} {maxL : Nat} {ret : Option FieldType}
    (hown : s.vm.findClass own = some m.cls) (hlink : (Cond.methodLink own index y).before args s = true) (hinst : (Cond.instanceMethod y).before args s = true) (hsel : (Cond.selects C y y).before args s = true)
    (hcode : (Cond.code y bytes maxL ret).before args s = true) (hy : y.cls ≠ "java/lang/invoke/MethodHandle" ∧ y.cls ≠ "java/lang/invoke/VarHandle")
    {W9 : Nat} {Pre : Pt → Array Value → Prop} {Post : Pt → Array Value → Option Value → Pt → Prop} {PostX : Pt → Array Value → Addr → Pt → Prop} (hK : vx_Back l R p e below s args y 3 W9 Pre Post PostX)
    {b : Addr} {cellB : Cell} (hcell : T.heap[b]? = some cellB) (hobj : cellB.vm.isStatics = false) (hcls : s.vm.findClass C = some cellB.cls)
    {g : JFrame} (hg : g.method = m) (hsize : g.locals.size = c.maxLocals) {argsL rest : List Value} (hlen : ∀ sig, parseMethodDescriptor y.desc = some sig → argsL.length = sig.parameters.length)
    (hstack : g.stack = argsL.reverse ++ .ref b :: rest) (hW : 2 * g.monitorRoom + (rest.map fun v => v.category).sum ≤ W9) (hdg : decode c.code g.pc = .ok (.invokevirtual index, 3))
    (hpre : ∀ vm₁, s.WarmedH vm₁ → Pre ⟨T.setVm vm₁, locs, cells, slots⟩ (Value.ref b :: argsL).toArray) :
    (∃ (v : Option Value) (vm₁ : Vm) (B : Pt), s.WarmedH vm₁ ∧ Stand p l e R s m args below meth c B.U B.locs B.cells B.slots ∧ Post ⟨T.setVm vm₁, locs, cells, slots⟩ (Value.ref b :: argsL).toArray v B ∧
      ∀ target, Steps p.tables e below (B.U.setTop { g with pc := g.pc + 3, stack := v.toList ++ rest }) target → Steps p.tables e below (T.setTop g) target) ∨
    (∃ (q : Addr) (vm₁ : Vm) (B : Pt), s.WarmedH vm₁ ∧ Stand p l e R s m args below meth c B.U B.locs B.cells B.slots ∧ PostX ⟨T.setVm vm₁, locs, cells, slots⟩ (Value.ref b :: argsL).toArray q B ∧
      Steps p.tables e below (T.setTop g) ((B.U.setTop { g with stack := rest }).pushFrame (.throwing q))) := by
  obtain ⟨mk, methM, hnamed, hmethM, hstM, habM⟩ := Cond.instanceMethod_spec hinst
  obtain ⟨methM', cM, hmethM', -, -, -, -, -, -, hsigM⟩ := Cond.code_spec hnamed hcode
  cases hmethM.symm.trans hmethM'
  obtain ⟨c2, r2, m2, q1, q2, q3, q4, kP, hkP, hkPi⟩ := Cond.selects_spec hsel
  cases hcls.symm.trans q1
  cases (State.methodFound?_of_named hnamed hy).symm.trans q2
  cases hnamed.symm.trans q3
  have hselP : selectMethod e.platform s.vm cellB.cls mk = .method mk := by rw [Launch.admits_selectMethod X.admits]; exact q4
  obtain ⟨vm₁, X₁, hstep₁⟩ := X.invokevirtual hexec hown hlink hnamed hmethM hstM hkP hkPi hy (a := b) (cell := cellB) hcell
    (fun z h => by rw [h] at hobj; cases hobj) hselP hmethM habM hkP hkPi (g := g) hg (argsL := argsL) (rest := rest) (hlen _ hsigM) hstack hdg
  rcases hK m meth c ⟨T.setVm vm₁, locs, cells, slots⟩ { g with stack := rest } (.invokevirtual index) mk (Value.ref b :: argsL).toArray X₁ hg hsize hdg hW (X₁.named hnamed) (hpre vm₁ X₁.warmed) with ⟨v, B, X', hpost, hsteps⟩ | ⟨q, B, X', hpost, hsteps⟩
  · exact Or.inl ⟨v, vm₁, B, X₁.warmed, X', hpost, fun target h => hstep₁ _ fun acts => by rw [doInvoke_state]; exact hsteps.trans h⟩
  · exact Or.inr ⟨q, vm₁, B, X₁.warmed, X', hpost, hstep₁ _ fun acts => by rw [doInvoke_state]; exact hsteps⟩
theorem vx_callS (X : Stand p l e R s m args below meth c T locs cells slots) (hexec : p.tables.exec = Jvm.exec) {own : String} {index : Nat} {y : MethodName} {bytes : ByteArray} {maxL : Nat} {ret : Option FieldType}
    (hown : s.vm.findClass own = some m.cls) (hlink : (Cond.methodLink own index y).before args s = true) (hstat : (Cond.static y).before args s = true) (hinit : (Cond.initialized y.cls).before args s = true)
    (hcode : (Cond.code y bytes maxL ret).before args s = true) (hy : y.cls ≠ "java/lang/invoke/MethodHandle" ∧ y.cls ≠ "java/lang/invoke/VarHandle")
    {W9 : Nat} {Pre : Pt → Array Value → Prop} {Post : Pt → Array Value → Option Value → Pt → Prop} {PostX : Pt → Array Value → Addr → Pt → Prop} (hK : vx_Back l R p e below s args y 3 W9 Pre Post PostX)
    {g : JFrame} (hg : g.method = m) (hsize : g.locals.size = c.maxLocals) {argsL rest : List Value} (hlen : ∀ sig, parseMethodDescriptor y.desc = some sig → argsL.length = sig.parameters.length)
    (hstack : g.stack = argsL.reverse ++ rest) (hW : 2 * g.monitorRoom + (rest.map fun v => v.category).sum ≤ W9) (hdg : decode c.code g.pc = .ok (.invokestatic index, 3))
    (hpre : ∀ vm₁, s.WarmedH vm₁ → Pre ⟨T.setVm vm₁, locs, cells, slots⟩ argsL.toArray) :
    (∃ (v : Option Value) (vm₁ : Vm) (B : Pt), s.WarmedH vm₁ ∧ Stand p l e R s m args below meth c B.U B.locs B.cells B.slots ∧ Post ⟨T.setVm vm₁, locs, cells, slots⟩ argsL.toArray v B ∧
      ∀ target, Steps p.tables e below (B.U.setTop { g with pc := g.pc + 3, stack := v.toList ++ rest }) target → Steps p.tables e below (T.setTop g) target) ∨
    (∃ (q : Addr) (vm₁ : Vm) (B : Pt), s.WarmedH vm₁ ∧ Stand p l e R s m args below meth c B.U B.locs B.cells B.slots ∧ PostX ⟨T.setVm vm₁, locs, cells, slots⟩ argsL.toArray q B ∧
      Steps p.tables e below (T.setTop g) ((B.U.setTop { g with stack := rest }).pushFrame (.throwing q))) := by
  obtain ⟨mk, hnamed⟩ := Cond.code_named hcode
  obtain ⟨methM, cM, hmethM, -, -, -, -, -, -, hsigM⟩ := Cond.code_spec hnamed hcode
  have hstatic : methM.isStatic = true := Cond.static_spec hnamed hmethM hstat
  obtain ⟨kP, hkP, -⟩ := className_of_methodNamed hnamed
  have hinitP : kP.init = .initialized := Cond.initialized_spec (findClass_of_methodNamed hnamed) hkP hinit
  obtain ⟨vm₁, X₁, hstep₁⟩ := X.invokestatic hexec hown hlink hnamed hmethM hstatic hkP hinitP hy (g := g) hg (argsL := argsL) (rest := rest) (hlen _ hsigM) hstack hdg
  rcases hK m meth c ⟨T.setVm vm₁, locs, cells, slots⟩ { g with stack := rest } (.invokestatic index) mk argsL.toArray X₁ hg hsize hdg hW (X₁.named hnamed) (hpre vm₁ X₁.warmed) with ⟨v, B, X', hpost, hsteps⟩ | ⟨q, B, X', hpost, hsteps⟩
  · exact Or.inl ⟨v, vm₁, B, X₁.warmed, X', hpost, fun target h => hstep₁ _ fun acts => by rw [doInvoke_state]; exact hsteps.trans h⟩
  · exact Or.inr ⟨q, vm₁, B, X₁.warmed, X', hpost, hstep₁ _ fun acts => by rw [doInvoke_state]; exact hsteps⟩
end Calls
theorem vx_cls {s : State} {T : State} {vm₁ : Vm} {E : String} {k : ClassId} (hW : s.WarmedH vm₁) (h : (T.setVm vm₁).vm.findClass E = some k) : s.vm.findClass E = some k := by
  have h1 : vm₁.findClass E = some k := h
  rw [hW.alike.findClass] at h1
  exact h1
/-- the method's frame g, with q thrown over it -/
def vx_W (p : Program) (l : Launch) (e : Env) (R : Room) (s : State) (m : MethodId) (args : Array Value) (below : List Frame) (meth : Method) (c : Code) (H : Heap) (locs : List Loc) (cells slots : Nat) (Q : State → Prop) (g : JFrame) (q : Addr) : Prop :=
  ∀ T : State, T.heap = H → Stand p l e R s m args below meth c T locs cells slots → ∃ t, Steps p.tables e below ((T.setTop g).pushFrame (.throwing q)) t ∧ Q t
def vx_Run (p : Program) (l : Launch) (e : Env) (R : Room) (s : State) (m : MethodId) (args : Array Value) (below : List Frame) (meth : Method) (c : Code) (H : Heap) (locs : List Loc) (cells slots mc ms : Nat) (g : JFrame) (rest : List Value) (Qa : State → Outcome → State → Prop) (XC : String → State → State → Prop) (free : Addr → Prop) : Prop :=
  ∀ T : State, T.heap = H → Stand p l e R s m args below meth c T locs cells slots →
    (∃ (v : Option Value) (st₀ t T' : State) (L : List Loc), st₀.heap = H ∧ Stand p l e R s m args below meth c T' (locs ++ L) (cells + mc) (slots + ms) ∧ (∀ q ∈ L, free q.base) ∧ T'.heap = t.heap ∧ T'.vm = t.vm ∧ Qa st₀ (.returned v) t ∧
      Goes p e below T g T' { g with pc := g.pc + 3, stack := v.toList ++ rest }) ∨
    (∃ (q : Addr) (st₀ t T' : State) (L : List Loc) (E : String) (ce : Cell), st₀.heap = H ∧ Stand p l e R s m args below meth c T' (locs ++ L) (cells + mc) (slots + ms) ∧ (∀ z ∈ L, free z.base) ∧ T'.heap = t.heap ∧ T'.vm = t.vm ∧ XC E st₀ t ∧ t.heap[q]? = some ce ∧ ce.vm = .none ∧ s.vm.findClass E = some ce.cls ∧
      Steps p.tables e below (T.setTop g) ((T'.setTop { g with stack := rest }).pushFrame (.throwing q)))
def vx_X {S : Type} (px : S → Prop) (B : String → S → State → Prop) (A : Nat → Prop) : String → State → State → Prop := fun E st t => ∃ u : S, px u ∧ B E u t ∧ va_F A st t
section Runs
variable {p : Program} {l : Launch} {e : Env} {R : Room} {s : State} {m : MethodId} {args : Array Value} {below : List Frame} {meth : Method} {c : Code} {H : Heap} {locs : List Loc} {cells slots : Nat}
variable {y : MethodName} {bytes cc : ByteArray} {maxL nL mc ms n index : Nat} {ret : Option FieldType} {ws : List Cond} {rm : Room} {Pc : Array Value → State → Prop} {Qc : Array Value → State → Outcome → State → Prop} {XC : String → State → State → Prop} {free : Addr → Prop} {Ts : List Cond} {own C : String} {b : Addr} {As rest : List Value} {g : JFrame}
theorem vx_callBack (cb : CallB R s args own index y bytes maxL ret ws rm mc ms n) (hM : vx_Met l y ws rm Pc Qc XC mc ms free) (hbl : FrameBlind Pc) : vx_Back l R p e below s args y 3 8 (PreOf R mc ms Pc) (PostOf Qc mc ms free) (vx_Post XC mc ms free) := by
  obtain ⟨hrc, hrs, hfr, hlo, hws, hcw, -, hini, -⟩ := cb
  exact vx_back (bytes := bytes) (maxL := maxL) (ret := ret) hM hbl hrc hrs hfr hlo hws hcw (fun a' U hW => word_at hW (Or.inl (by first | rfl | simp [Cond.onTables, Cond.keeps, Cond.steady])) hini)
theorem vx_runV (S : CallFix p m c cc nL s args Ts own) (hM : vx_Met l y ws rm Pc Qc XC mc ms free) (cw : CallW R s args own C index y bytes maxL ret ws rm mc ms n) (hp : PreV s H C b Pc As)
    (hg : g.method = m) (hn : As.length = n) (hsize : g.locals.size = nL) (hstack : g.stack = As.reverse ++ .ref b :: rest) (hW : 2 * g.monitorRoom + (rest.map fun v => v.category).sum ≤ 8) (hdg : decode cc g.pc = .ok (.invokevirtual index, 3)) (hf : cells + mc ≤ R.cells ∧ slots + ms ≤ R.slots) :
    vx_Run p l e R s m args below meth c H locs cells slots mc ms g rest (Qc (Value.ref b :: As).toArray) XC free := by
  have hK : vx_Back l R p e below s args y 3 8 (PreOf R mc ms Pc) (PostOf Qc mc ms free) (vx_Post XC mc ms free) := vx_callBack cw.1 hM hp.1
  obtain ⟨⟨-, -, -, -, -, -, hcode, -, hy, hlen, hl⟩, hin, hse⟩ := cw
  obtain ⟨hx, hb, hml, ho, -⟩ := S
  obtain ⟨-, ⟨cellB, hcB, hoB, hclB⟩, hPc⟩ := hp
  intro T hT X
  rcases vx_callV X hx (C := C) (bytes := bytes) (maxL := maxL) (ret := ret) ho hl hin hse hcode hy hK (by rw [hT]; exact hcB) hoB hclB hg (hsize.trans hml.symm) (argsL := As) (rest := rest) (fun sig h => hn.trans (hlen sig h)) hstack hW (by rw [hb]; exact hdg)
    (fun vm₁ hW₁ => ⟨hf.1, hf.2, hPc (T.setVm vm₁) hT hW₁⟩) with ⟨v, vm₁, ⟨U', l2, c2, s2⟩, hW₁, X', ⟨g', mk, t, L, e1, e2, hq, h1, hL, h2, h3⟩, st⟩ | ⟨q, vm₁, ⟨U', l2, c2, s2⟩, hW₁, X', ⟨g', mk, t, L, E, ce, e1, e2, hq, hce, hcv, hcl, h1, hL, h2, h3⟩, st⟩
  · dsimp only [Pt.U, Pt.locs, Pt.cells, Pt.slots] at X' e1 e2 h1 h2 h3 st
    subst h1; subst h2; subst h3
    exact Or.inl ⟨v, (T.setVm vm₁).calling g' mk (Value.ref b :: As).toArray, t, U', L, hT, X', hL, e1, e2, hq, st⟩
  · dsimp only [Pt.U, Pt.locs, Pt.cells, Pt.slots] at X' e1 e2 h1 h2 h3 st hcl
    subst h1; subst h2; subst h3
    exact Or.inr ⟨q, (T.setVm vm₁).calling g' mk (Value.ref b :: As).toArray, t, U', L, E, ce, hT, X', hL, e1, e2, hq, hce, hcv, vx_cls hW₁ hcl, st⟩
theorem vx_runS (S : CallFix p m c cc nL s args Ts own) (hM : vx_Met l y ws rm Pc Qc XC mc ms free) (cw : CallB R s args own index y bytes maxL ret ws rm mc ms n ∧ (Cond.static y).before args s = true) (hp : PreS s H Pc As)
    (hg : g.method = m) (hn : As.length = n) (hsize : g.locals.size = nL) (hstack : g.stack = As.reverse ++ rest) (hW : 2 * g.monitorRoom + (rest.map fun v => v.category).sum ≤ 8) (hdg : decode cc g.pc = .ok (.invokestatic index, 3)) (hf : cells + mc ≤ R.cells ∧ slots + ms ≤ R.slots) :
    vx_Run p l e R s m args below meth c H locs cells slots mc ms g rest (Qc As.toArray) XC free := by
  have hK : vx_Back l R p e below s args y 3 8 (PreOf R mc ms Pc) (PostOf Qc mc ms free) (vx_Post XC mc ms free) := vx_callBack cw.1 hM hp.1
  obtain ⟨⟨-, -, -, -, -, -, hcode, hini, hy, hlen, hl⟩, hstt⟩ := cw
  obtain ⟨hx, hb, hml, ho, -⟩ := S
  intro T hT X
  rcases vx_callS X hx (bytes := bytes) (maxL := maxL) (ret := ret) ho hl hstt hini hcode hy hK hg (hsize.trans hml.symm) (argsL := As) (rest := rest) (fun sig h => hn.trans (hlen sig h)) hstack hW (by rw [hb]; exact hdg)
    (fun vm₁ hW₁ => ⟨hf.1, hf.2, hp.2 (T.setVm vm₁) hT hW₁⟩) with ⟨v, vm₁, ⟨U', l2, c2, s2⟩, hW₁, X', ⟨g', mk, t, L, e1, e2, hq, h1, hL, h2, h3⟩, st⟩ | ⟨q, vm₁, ⟨U', l2, c2, s2⟩, hW₁, X', ⟨g', mk, t, L, E, ce, e1, e2, hq, hce, hcv, hcl, h1, hL, h2, h3⟩, st⟩
  · dsimp only [Pt.U, Pt.locs, Pt.cells, Pt.slots] at X' e1 e2 h1 h2 h3 st
    subst h1; subst h2; subst h3
    exact Or.inl ⟨v, (T.setVm vm₁).calling g' mk As.toArray, t, U', L, hT, X', hL, e1, e2, hq, st⟩
  · dsimp only [Pt.U, Pt.locs, Pt.cells, Pt.slots] at X' e1 e2 h1 h2 h3 st hcl
    subst h1; subst h2; subst h3
    exact Or.inr ⟨q, (T.setVm vm₁).calling g' mk As.toArray, t, U', L, E, ce, hT, X', hL, e1, e2, hq, hce, hcv, vx_cls hW₁ hcl, st⟩
end Runs
section Rows
variable {p : Program} {l : Launch} {e : Env} {R : Room} {s : State} {m : MethodId} {args : Array Value} {below : List Frame} {meth : Method} {c : Code} {H : Heap} {locs : List Loc} {cells slots : Nat} {Q : State → Prop}
variable {mc ms : Nat} {free : Addr → Prop} {A0 A1 : Nat → Prop} {H0 : Heap} {a : Array Value} {pc : Nat} {ls : Array Slot} {st0 rest : List Value}
theorem vx_keep {st₀ t T' : State} {L : List Loc} (h0 : st₀.heap = H) (e1 : T'.heap = t.heap) (hS : va_S A0 H0 H locs) (hA : ∀ q, q < H.size → A1 q → A0 q) (hf : ∀ q, free q → A0 q) (hL : ∀ q ∈ L, free q.base) (hF : va_F A1 st₀ t) :
    H.size ≤ T'.heap.size ∧ (∀ q : Nat, q < H.size → ¬ A1 q → T'.heap[q]? = H[q]?) ∧ va_S A0 H0 T'.heap (locs ++ L) := by
  obtain ⟨hz, hk⟩ := hF
  rw [h0] at hz hk
  exact ⟨by rw [e1]; exact hz, fun q h1 h2 => by rw [e1]; exact hk q h1 h2,
    ⟨Nat.le_trans hS.1 (by rw [e1]; exact hz), fun q h1 h2 => by rw [e1, hk q (Nat.lt_of_lt_of_le h1 hS.1) (fun z => h2 (hA q (Nat.lt_of_lt_of_le h1 hS.1) z))]; exact hS.2.1 q h1 h2, fun q hq => by
      rcases List.mem_append.mp hq with h | h
      · exact hS.2.2 q h
      · exact hf _ (hL q h)⟩⟩
theorem vx_calli {S SX : Type} {post : Int32 → S → Prop} {px : SX → Prop} {B : S → State → Prop} {BX : String → SX → State → Prop} {AX : Nat → Prop} (hr : vx_Run p l e R s m args below meth c H locs cells slots mc ms (F0 m pc ls st0) rest (va_Qi post B A1 a) (vx_X px BX AX) free) (hS : va_S A0 H0 H locs) (hA : ∀ q, q < H.size → A1 q → A0 q) (hf : ∀ q, free q → A0 q) (hAX : ∀ q, q < H.size → AX q → A0 q)
    (kx : ∀ (E : String) (ce : Cell) (q9 : Addr) (u : SX) (t : State) (H1 : Heap) (locs1 : List Loc), t.heap = H1 → s.vm.Alike t.vm → px u → BX E u t → H.size ≤ H1.size → (∀ q : Nat, q < H.size → ¬ AX q → H1[q]? = H[q]?) → va_S A0 H0 H1 locs1 → H1[q9]? = some ce → ce.vm = .none → s.vm.findClass E = some ce.cls → vx_W p l e R s m args below meth c H1 locs1 (cells + mc) (slots + ms) Q (F0 m pc ls rest) q9)
    (kk : ∀ (r : Int32) (u : S) (t : State) (H1 : Heap) (locs1 : List Loc), t.heap = H1 → s.vm.Alike t.vm → post r u → B u t → H.size ≤ H1.size → (∀ q : Nat, q < H.size → ¬ A1 q → H1[q]? = H[q]?) → va_S A0 H0 H1 locs1 → W p l e R s m args below meth c H1 locs1 (cells + mc) (slots + ms) Q (F0 m (pc + 3) ls (.int r :: rest))) : W p l e R s m args below meth c H locs cells slots Q (F0 m pc ls st0) := by
  intro T hT X
  rcases hr T hT X with ⟨v, st₀, t, T', L, h0, X', hL, e1, e2, ⟨⟨r, u, hv, hp, hb⟩, hF⟩, st⟩ | ⟨q, st₀, t, T', L, E, ce, h0, X', hL, e1, e2, ⟨u, hp, hb, hF⟩, hce, hcv, hcl, st⟩
  · cases hv
    obtain ⟨k1, k2, k3⟩ := vx_keep h0 e1 hS hA hf hL hF
    obtain ⟨t2, a1, b1⟩ := kk r u t T'.heap (locs ++ L) e1.symm (by rw [← e2]; exact X'.warmed.alike) hp hb k1 k2 k3 T' rfl X'
    exact ⟨t2, st t2 a1, b1⟩
  · obtain ⟨k1, k2, k3⟩ := vx_keep h0 e1 hS hAX hf hL hF
    obtain ⟨t2, a1, b1⟩ := kx E ce q u t T'.heap (locs ++ L) e1.symm (by rw [← e2]; exact X'.warmed.alike) hp hb k1 k2 k3 (by rw [e1]; exact hce) hcv hcl T' rfl X'
    exact ⟨t2, st.trans a1, b1⟩
theorem vx_calll {S SX : Type} {post : Int64 → S → Prop} {px : SX → Prop} {B : S → State → Prop} {BX : String → SX → State → Prop} {AX : Nat → Prop} (hr : vx_Run p l e R s m args below meth c H locs cells slots mc ms (F0 m pc ls st0) rest (va_Ql post B A1 a) (vx_X px BX AX) free) (hS : va_S A0 H0 H locs) (hA : ∀ q, q < H.size → A1 q → A0 q) (hf : ∀ q, free q → A0 q) (hAX : ∀ q, q < H.size → AX q → A0 q)
    (kx : ∀ (E : String) (ce : Cell) (q9 : Addr) (u : SX) (t : State) (H1 : Heap) (locs1 : List Loc), t.heap = H1 → s.vm.Alike t.vm → px u → BX E u t → H.size ≤ H1.size → (∀ q : Nat, q < H.size → ¬ AX q → H1[q]? = H[q]?) → va_S A0 H0 H1 locs1 → H1[q9]? = some ce → ce.vm = .none → s.vm.findClass E = some ce.cls → vx_W p l e R s m args below meth c H1 locs1 (cells + mc) (slots + ms) Q (F0 m pc ls rest) q9)
    (kk : ∀ (r : Int64) (u : S) (t : State) (H1 : Heap) (locs1 : List Loc), t.heap = H1 → s.vm.Alike t.vm → post r u → B u t → H.size ≤ H1.size → (∀ q : Nat, q < H.size → ¬ A1 q → H1[q]? = H[q]?) → va_S A0 H0 H1 locs1 → W p l e R s m args below meth c H1 locs1 (cells + mc) (slots + ms) Q (F0 m (pc + 3) ls (.long r :: rest))) : W p l e R s m args below meth c H locs cells slots Q (F0 m pc ls st0) := by
  intro T hT X
  rcases hr T hT X with ⟨v, st₀, t, T', L, h0, X', hL, e1, e2, ⟨⟨r, u, hv, hp, hb⟩, hF⟩, st⟩ | ⟨q, st₀, t, T', L, E, ce, h0, X', hL, e1, e2, ⟨u, hp, hb, hF⟩, hce, hcv, hcl, st⟩
  · cases hv
    obtain ⟨k1, k2, k3⟩ := vx_keep h0 e1 hS hA hf hL hF
    obtain ⟨t2, a1, b1⟩ := kk r u t T'.heap (locs ++ L) e1.symm (by rw [← e2]; exact X'.warmed.alike) hp hb k1 k2 k3 T' rfl X'
    exact ⟨t2, st t2 a1, b1⟩
  · obtain ⟨k1, k2, k3⟩ := vx_keep h0 e1 hS hAX hf hL hF
    obtain ⟨t2, a1, b1⟩ := kx E ce q u t T'.heap (locs ++ L) e1.symm (by rw [← e2]; exact X'.warmed.alike) hp hb k1 k2 k3 (by rw [e1]; exact hce) hcv hcl T' rfl X'
    exact ⟨t2, st.trans a1, b1⟩
theorem vx_callf {S SX : Type} {post : UInt32 → S → Prop} {px : SX → Prop} {B : S → State → Prop} {BX : String → SX → State → Prop} {AX : Nat → Prop} (hr : vx_Run p l e R s m args below meth c H locs cells slots mc ms (F0 m pc ls st0) rest (va_Qf post B A1 a) (vx_X px BX AX) free) (hS : va_S A0 H0 H locs) (hA : ∀ q, q < H.size → A1 q → A0 q) (hf : ∀ q, free q → A0 q) (hAX : ∀ q, q < H.size → AX q → A0 q)
    (kx : ∀ (E : String) (ce : Cell) (q9 : Addr) (u : SX) (t : State) (H1 : Heap) (locs1 : List Loc), t.heap = H1 → s.vm.Alike t.vm → px u → BX E u t → H.size ≤ H1.size → (∀ q : Nat, q < H.size → ¬ AX q → H1[q]? = H[q]?) → va_S A0 H0 H1 locs1 → H1[q9]? = some ce → ce.vm = .none → s.vm.findClass E = some ce.cls → vx_W p l e R s m args below meth c H1 locs1 (cells + mc) (slots + ms) Q (F0 m pc ls rest) q9)
    (kk : ∀ (r : UInt32) (u : S) (t : State) (H1 : Heap) (locs1 : List Loc), t.heap = H1 → s.vm.Alike t.vm → post r u → B u t → H.size ≤ H1.size → (∀ q : Nat, q < H.size → ¬ A1 q → H1[q]? = H[q]?) → va_S A0 H0 H1 locs1 → W p l e R s m args below meth c H1 locs1 (cells + mc) (slots + ms) Q (F0 m (pc + 3) ls (.float r :: rest))) : W p l e R s m args below meth c H locs cells slots Q (F0 m pc ls st0) := by
  intro T hT X
  rcases hr T hT X with ⟨v, st₀, t, T', L, h0, X', hL, e1, e2, ⟨⟨r, u, hv, hp, hb⟩, hF⟩, st⟩ | ⟨q, st₀, t, T', L, E, ce, h0, X', hL, e1, e2, ⟨u, hp, hb, hF⟩, hce, hcv, hcl, st⟩
  · cases hv
    obtain ⟨k1, k2, k3⟩ := vx_keep h0 e1 hS hA hf hL hF
    obtain ⟨t2, a1, b1⟩ := kk r u t T'.heap (locs ++ L) e1.symm (by rw [← e2]; exact X'.warmed.alike) hp hb k1 k2 k3 T' rfl X'
    exact ⟨t2, st t2 a1, b1⟩
  · obtain ⟨k1, k2, k3⟩ := vx_keep h0 e1 hS hAX hf hL hF
    obtain ⟨t2, a1, b1⟩ := kx E ce q u t T'.heap (locs ++ L) e1.symm (by rw [← e2]; exact X'.warmed.alike) hp hb k1 k2 k3 (by rw [e1]; exact hce) hcv hcl T' rfl X'
    exact ⟨t2, st.trans a1, b1⟩
theorem vx_calld {S SX : Type} {post : UInt64 → S → Prop} {px : SX → Prop} {B : S → State → Prop} {BX : String → SX → State → Prop} {AX : Nat → Prop} (hr : vx_Run p l e R s m args below meth c H locs cells slots mc ms (F0 m pc ls st0) rest (va_Qd post B A1 a) (vx_X px BX AX) free) (hS : va_S A0 H0 H locs) (hA : ∀ q, q < H.size → A1 q → A0 q) (hf : ∀ q, free q → A0 q) (hAX : ∀ q, q < H.size → AX q → A0 q)
    (kx : ∀ (E : String) (ce : Cell) (q9 : Addr) (u : SX) (t : State) (H1 : Heap) (locs1 : List Loc), t.heap = H1 → s.vm.Alike t.vm → px u → BX E u t → H.size ≤ H1.size → (∀ q : Nat, q < H.size → ¬ AX q → H1[q]? = H[q]?) → va_S A0 H0 H1 locs1 → H1[q9]? = some ce → ce.vm = .none → s.vm.findClass E = some ce.cls → vx_W p l e R s m args below meth c H1 locs1 (cells + mc) (slots + ms) Q (F0 m pc ls rest) q9)
    (kk : ∀ (r : UInt64) (u : S) (t : State) (H1 : Heap) (locs1 : List Loc), t.heap = H1 → s.vm.Alike t.vm → post r u → B u t → H.size ≤ H1.size → (∀ q : Nat, q < H.size → ¬ A1 q → H1[q]? = H[q]?) → va_S A0 H0 H1 locs1 → W p l e R s m args below meth c H1 locs1 (cells + mc) (slots + ms) Q (F0 m (pc + 3) ls (.double r :: rest))) : W p l e R s m args below meth c H locs cells slots Q (F0 m pc ls st0) := by
  intro T hT X
  rcases hr T hT X with ⟨v, st₀, t, T', L, h0, X', hL, e1, e2, ⟨⟨r, u, hv, hp, hb⟩, hF⟩, st⟩ | ⟨q, st₀, t, T', L, E, ce, h0, X', hL, e1, e2, ⟨u, hp, hb, hF⟩, hce, hcv, hcl, st⟩
  · cases hv
    obtain ⟨k1, k2, k3⟩ := vx_keep h0 e1 hS hA hf hL hF
    obtain ⟨t2, a1, b1⟩ := kk r u t T'.heap (locs ++ L) e1.symm (by rw [← e2]; exact X'.warmed.alike) hp hb k1 k2 k3 T' rfl X'
    exact ⟨t2, st t2 a1, b1⟩
  · obtain ⟨k1, k2, k3⟩ := vx_keep h0 e1 hS hAX hf hL hF
    obtain ⟨t2, a1, b1⟩ := kx E ce q u t T'.heap (locs ++ L) e1.symm (by rw [← e2]; exact X'.warmed.alike) hp hb k1 k2 k3 (by rw [e1]; exact hce) hcv hcl T' rfl X'
    exact ⟨t2, st.trans a1, b1⟩
theorem vx_callv {S SX : Type} {post : S → Prop} {px : SX → Prop} {B : S → State → Prop} {BX : String → SX → State → Prop} {AX : Nat → Prop} (hr : vx_Run p l e R s m args below meth c H locs cells slots mc ms (F0 m pc ls st0) rest (va_Qv post B A1 a) (vx_X px BX AX) free) (hS : va_S A0 H0 H locs) (hA : ∀ q, q < H.size → A1 q → A0 q) (hf : ∀ q, free q → A0 q) (hAX : ∀ q, q < H.size → AX q → A0 q)
    (kx : ∀ (E : String) (ce : Cell) (q9 : Addr) (u : SX) (t : State) (H1 : Heap) (locs1 : List Loc), t.heap = H1 → s.vm.Alike t.vm → px u → BX E u t → H.size ≤ H1.size → (∀ q : Nat, q < H.size → ¬ AX q → H1[q]? = H[q]?) → va_S A0 H0 H1 locs1 → H1[q9]? = some ce → ce.vm = .none → s.vm.findClass E = some ce.cls → vx_W p l e R s m args below meth c H1 locs1 (cells + mc) (slots + ms) Q (F0 m pc ls rest) q9)
    (kk : ∀ (u : S) (t : State) (H1 : Heap) (locs1 : List Loc), t.heap = H1 → s.vm.Alike t.vm → post u → B u t → H.size ≤ H1.size → (∀ q : Nat, q < H.size → ¬ A1 q → H1[q]? = H[q]?) → va_S A0 H0 H1 locs1 → W p l e R s m args below meth c H1 locs1 (cells + mc) (slots + ms) Q (F0 m (pc + 3) ls (rest))) : W p l e R s m args below meth c H locs cells slots Q (F0 m pc ls st0) := by
  intro T hT X
  rcases hr T hT X with ⟨v, st₀, t, T', L, h0, X', hL, e1, e2, ⟨⟨u, hv, hp, hb⟩, hF⟩, st⟩ | ⟨q, st₀, t, T', L, E, ce, h0, X', hL, e1, e2, ⟨u, hp, hb, hF⟩, hce, hcv, hcl, st⟩
  · cases hv
    obtain ⟨k1, k2, k3⟩ := vx_keep h0 e1 hS hA hf hL hF
    obtain ⟨t2, a1, b1⟩ := kk u t T'.heap (locs ++ L) e1.symm (by rw [← e2]; exact X'.warmed.alike) hp hb k1 k2 k3 T' rfl X'
    exact ⟨t2, st t2 a1, b1⟩
  · obtain ⟨k1, k2, k3⟩ := vx_keep h0 e1 hS hAX hf hL hF
    obtain ⟨t2, a1, b1⟩ := kx E ce q u t T'.heap (locs ++ L) e1.symm (by rw [← e2]; exact X'.warmed.alike) hp hb k1 k2 k3 (by rw [e1]; exact hce) hcv hcl T' rfl X'
    exact ⟨t2, st.trans a1, b1⟩
/-- caught by the row x of this method's table; the rows ahead don't take it -/
theorem vx_catch {own name : String} {E : String} {ce : Cell} {q : Addr} (hown : s.vm.findClass own = some m.cls) (pre : List ExceptionTableEntry) (x : ExceptionTableEntry) (suf : List ExceptionTableEntry) (hsplit : c.exceptionTable.toList = pre ++ x :: suf)
    (hpass : ∀ z ∈ pre, covers z pc = false ∨ (z.catchType ≠ 0 ∧ ∃ nm : String, (Cond.classLink own z.catchType nm).before args s = true ∧ va_Nc E nm s)) (hx : covers x pc = true) (h0 : x.catchType ≠ 0)
    (hlink : (Cond.classLink own x.catchType name).before args s = true) (hcast : (Cond.castable E name).before args s = true) (hcell : H[q]? = some ce) (hv : ce.vm = .none) (hcl : s.vm.findClass E = some ce.cls)
    (kk : W p l e R s m args below meth c H locs cells slots Q (F0 m x.handlerPc ls [.ref q])) : vx_W p l e R s m args below meth c H locs cells slots Q (F0 m pc ls rest) q := by
  intro T hT X
  have hpl : e.platform.magicAccessors = ({} : Platform).magicAccessors := by rw [X.admits.platform]
  obtain ⟨c3, c4, hc3, hc4, hasg⟩ := Cond.castable_spec hcast
  cases Option.some.inj (hc3.symm.trans hcl)
  obtain ⟨c5, hc5, hcl5⟩ := Cond.classLink_spec hown hlink e.platform hpl
  cases Option.some.inj (hc4.symm.trans hc5)
  obtain ⟨vm', X', st⟩ := Stand.thenCaughtThrough X q (g := F0 m pc ls rest) rfl (Steps.refl _) (by rw [hT]; exact hcell) (by rw [hv]; rfl) (by obtain ⟨k9, h9, -⟩ := Vm.findClass_spec hcl; exact ⟨k9, h9⟩) pre x suf hsplit
    (fun z hz => by
      rcases hpass z hz with h | ⟨hz0, nm, hl1, hn1⟩
      · exact Or.inl h
      · obtain ⟨c6, hc6, hcl6⟩ := Cond.classLink_spec hown hl1 e.platform hpl
        obtain ⟨a8, b8, h1, h2, h3⟩ := hn1
        cases Option.some.inj (h1.symm.trans hcl)
        cases Option.some.inj (h2.symm.trans hc6)
        exact Or.inr ⟨hz0, _, hcl6, h3⟩) hx (Or.inr ⟨h0, c4, hcl5, hasg⟩)
  obtain ⟨t, a1, b1⟩ := kk (T.setVm vm') hT X'
  exact ⟨t, st.trans a1, b1⟩
end Rows
section Ends
variable {p : Program} {l : Launch} {e : Env} {R : Room} {s : State} {m : MethodId} {args : Array Value} {below : List Frame} {meth : Method} {c : Code} {H : Heap} {locs : List Loc} {cells slots : Nat} {Q : State → Prop}
variable {mc ms : Nat} {free : Addr → Prop} {A0 A1 : Nat → Prop} {H0 : Heap} {a : Array Value} {ls : Array Slot} {st0 rest : List Value}
variable {Qc : Array Value → State → Outcome → State → Prop} {XC : String → State → State → Prop}
/-- what a body that may throw owes at its end -/
def vx_MQ (below : List Frame) (Qc : Array Value → State → Outcome → State → Prop) (XC : String → State → State → Prop) (a : Array Value) (s : State) (mc ms : Nat) (free : Addr → Prop) : State → Prop := fun t =>
  ∃ o, t.status = .running ∧ Ended t below o ∧ vx_Q Qc XC mc ms free a s o t
theorem vx_ret {g : JFrame} {mc ms : Nat} (k : W p l e R s m args below meth c H locs cells slots (MQ below Qc args s mc ms free) g) : W p l e R s m args below meth c H locs cells slots (vx_MQ below Qc XC args s mc ms free) g := by
  intro T hT X
  obtain ⟨t, a1, o, b1, b2, b3, b4⟩ := k T hT X
  exact ⟨t, a1, o, b1, b2, Or.inl ⟨b3, b4⟩⟩
/-- not caught here: it goes on to the caller -/
theorem vx_widen {g : JFrame} {q : Addr} {k n : Nat} (h1 : cells ≤ k) (h2 : slots ≤ n) (kk : vx_W p l e R s m args below meth c H locs k n Q g q) : vx_W p l e R s m args below meth c H locs cells slots Q g q := fun T hT X => kk T hT (stand_widen X h1 h2)
theorem vx_out {pc : Nat} {E : String} {ce : Cell} {q : Addr} {mc ms : Nat} (hout : ∀ x ∈ c.exceptionTable.toList, covers x pc = false) (hlocks : meth.locks = false) (hcell : H[q]? = some ce) (hv : ce.vm = .none) (hcl : s.vm.findClass E = some ce.cls)
    (hx : ∀ t : State, t.heap = H → s.vm.Alike t.vm → XC E s t) (hf : ∀ z ∈ locs, free z.base) (hc : cells ≤ mc) (hs : slots ≤ ms) :
    vx_W p l e R s m args below meth c H locs cells slots (vx_MQ below Qc XC args s mc ms free) (F0 m pc ls rest) q := by
  intro T hT X
  obtain ⟨st1, hrun, hend, hW, hsm⟩ := X.leaveThrown q (g := F0 m pc ls rest) rfl rfl rfl hout hlocks
  have hcell9 : (T.setFrames (.throwing q :: below)).heap[q]? = some ce := by
    show T.heap[q]? = some ce
    rw [hT]; exact hcell
  exact ⟨_, st1, .threw q, hrun, hend, Or.inr ⟨q, rfl, E, ce, locs, hx _ hT hW.alike, hcell9, hv, hcl, hW, hsm.mono hc hs, hf⟩⟩
theorem vx_frame {U : State} {k n : Nat} (h : s.sameButNew ({ U with vm := s.vm } : State) locs k n) : s.heap.size ≤ U.heap.size ∧ ∀ q : Nat, q < s.heap.size → (∀ z ∈ locs, z.base ≠ q) → U.heap[q]? = s.heap[q]? := by
  obtain ⟨-, h2, -, -, -, h6⟩ := h
  refine ⟨h2, fun q hq hz => ?_⟩
  obtain ⟨c9, e1, e2, e3, e4⟩ := h6 q _ (Array.getElem?_eq_getElem hq)
  have hs : c9.slots = (s.heap[q]).slots := Array.ext_getElem? fun i => e4 i fun hm => hz _ hm rfl
  have h9 : c9 = s.heap[q] := by
    rw [hs] at e2
    exact e2
  have e5 : U.heap[q]? = some c9 := e1
  rw [e5, h9, Array.getElem?_eq_getElem hq]
/-- the words of a throw but the four that speak of the heap -/
def vx_no (w : Cond) : Bool := decide (w ≠ .isRef (.static Bundle.tN "UNASSIGNED_STACK" Bundle.steD)) && decide (w ≠ .isRef (.static Bundle.tN "SUPPRESSED_SENTINEL" Bundle.listD)) && decide (w ≠ .laysStatic Bundle.tN "UNASSIGNED_STACK" Bundle.steD) && decide (w ≠ .laysStatic Bundle.tN "SUPPRESSED_SENTINEL" Bundle.listD)
def vx_at0 (own : String) (ic : Nat) (X : String) (names : List String) : List Cond := (Bundle.ownAtoms0 own ic X names).filter vx_no
def vx_atS (own : String) (ic : Nat) (X : String) (names : List String) : List Cond := (Bundle.ownAtoms own ic X names).filter vx_no
/-- a word that the tables alone decide, or a good one -/
def vx_ot (w : Cond) : Bool := w.onTables || goodWord w
theorem vx_ot_at {args a' : Array Value} {s U : State} {w : Cond} (hW : s.WarmedH U.vm) (hvm : s.vm = U.vm) (hg : vx_ot w = true) (h : w.before args s = true) : w.before a' U = true := by
  simp only [vx_ot, Bool.or_eq_true] at hg
  rcases hg with hg | hg
  · exact va_tabs hg hvm h
  · exact word_at hW (good_of_word hg) h
/-- a list's words: the good ones out of the method's own list, the others by premises of their own -/
theorem vx_hat {args : Array Value} {s : State} {L B : List Cond} (h1 : ∀ w ∈ L.filter goodWord, w.before args s = true) (h2 : ∀ w ∈ L.filter (fun w => !goodWord w), w ∈ B) (h3 : ∀ w ∈ B, w.before args s = true) : ∀ w ∈ L, w.before args s = true := by
  intro w hw
  by_cases g : goodWord w = true
  · exact h1 w (List.mem_filter.mpr ⟨hw, g⟩)
  · refine h3 w (h2 w (List.mem_filter.mpr ⟨hw, ?_⟩))
    show (!goodWord w) = true
    cases hgw : goodWord w
    · rfl
    · exact absurd hgw g
theorem vx_c {args : Array Value} {s : State} {w : Cond} {B : List Cond} (h : w.before args s = true) (t : ∀ w ∈ B, w.before args s = true) : ∀ w' ∈ w :: B, w'.before args s = true := fun w' h' => (List.mem_cons.mp h').elim (fun e => by rw [e]; exact h) (t w')
theorem vx_n {args : Array Value} {s : State} : ∀ w ∈ ([] : List Cond), w.before args s = true := fun _ h => nomatch h
theorem vx_own {args : Array Value} {s : State} {L : List Cond} (h1 : ∀ w ∈ L.filter vx_no, w.before args s = true)
    (hU : (Cond.isRef (.static Bundle.tN "UNASSIGNED_STACK" Bundle.steD)).before args s = true) (hN : (Cond.isRef (.static Bundle.tN "SUPPRESSED_SENTINEL" Bundle.listD)).before args s = true)
    (lU : (Cond.laysStatic Bundle.tN "UNASSIGNED_STACK" Bundle.steD).before args s = true) (lN : (Cond.laysStatic Bundle.tN "SUPPRESSED_SENTINEL" Bundle.listD).before args s = true) : ∀ w ∈ L, w.before args s = true := by
  intro w hw
  by_cases e1 : w = .isRef (.static Bundle.tN "UNASSIGNED_STACK" Bundle.steD)
  · rw [e1]; exact hU
  · by_cases e2 : w = .isRef (.static Bundle.tN "SUPPRESSED_SENTINEL" Bundle.listD)
    · rw [e2]; exact hN
    · by_cases e3 : w = .laysStatic Bundle.tN "UNASSIGNED_STACK" Bundle.steD
      · rw [e3]; exact lU
      · by_cases e4 : w = .laysStatic Bundle.tN "SUPPRESSED_SENTINEL" Bundle.listD
        · rw [e4]; exact lN
        · exact h1 w (List.mem_filter.mpr ⟨hw, by unfold vx_no; rw [decide_eq_true e1, decide_eq_true e2, decide_eq_true e3, decide_eq_true e4]; rfl⟩)
/-- where a static field lies, its class's statics cell in H -/
def vx_L (C n d : String) (A : Nat → Prop) (U : State) (H : Heap) : Prop := ∃ (c : ClassId) (k : Class) (i : Nat) (f : Field) (a : Nat) (cell : Cell), U.vm.findClass C = some c ∧ U.fieldFound? C n d = some (c, k, i, f) ∧ f.isStatic = true ∧ k.statics = some a ∧ H[a]? = some cell ∧ cell.vm.isStatics = true ∧ cell.cls = c ∧ f.slot < cell.slots.size ∧ k.staticTypes[f.slot]? = some f.type ∧ ¬ A a
theorem vx_L.moved {C n d : String} {A : Nat → Prop} {u U : State} {H : Heap} (hvm : u.vm.Alike U.vm) (h : vx_L C n d A u H) : vx_L C n d A U H := by
  obtain ⟨c, k, i, f, a, cell, h1, h2, h3, h4, h5, h6, h7, h8, h9, h10⟩ := h
  obtain ⟨k', hi', he⟩ := State.fieldFound?_setVm hvm h2
  exact ⟨c, k', i, f, a, cell, by rw [hvm.findClass]; exact h1, hi', h3, by rw [he]; exact h4, h5, h6, h7, h8, by rw [he]; exact h9, h10⟩
theorem vx_L.kept {C n d : String} {A : Nat → Prop} {U : State} {H H1 : Heap} (h : vx_L C n d A U H) (hq : ∀ a : Nat, a < H.size → ¬ A a → H1[a]? = H[a]?) : vx_L C n d A U H1 := by
  obtain ⟨c, k, i, f, a, cell, h1, h2, h3, h4, h5, h6, h7, h8, h9, h10⟩ := h
  exact ⟨c, k, i, f, a, cell, h1, h2, h3, h4, by rw [hq a (Array.getElem?_eq_some_iff.mp h5).1 h10]; exact h5, h6, h7, h8, h9, h10⟩
theorem vx_L.narrow {C n d : String} {A B : Nat → Prop} {U : State} {H : Heap} (h : vx_L C n d A U H) (hAB : ∀ q, B q → A q) : vx_L C n d B U H := by
  obtain ⟨c, k, i, f, a, cell, h1, h2, h3, h4, h5, h6, h7, h8, h9, h10⟩ := h
  exact ⟨c, k, i, f, a, cell, h1, h2, h3, h4, h5, h6, h7, h8, h9, fun z => h10 (hAB _ z)⟩
theorem vx_L.word {C n d : String} {A : Nat → Prop} {s : State} {args : Array Value} (h : vx_L C n d A s s.heap) : (Cond.laysStatic C n d).before args s = true := by
  obtain ⟨c, k, i, f, a, cell, h1, h2, h3, h4, h5, h6, h7, h8, h9, -⟩ := h
  show (Cond.laysStatic C n d).holds args s none s [] = true
  exact Cond.laysStatic_of h1 h2 h3 h4 h5 h6 h7 h8 h9
/-- .. and what it holds: null or some reference -/
def vx_Zq (C n d : String) (A : Nat → Prop) (U : State) (H : Heap) : Prop := va_Zq C n d A U H ∧ vx_L C n d A U H
theorem vx_Zq.moved {C n d : String} {A : Nat → Prop} {u U : State} {H : Heap} (hvm : u.vm.Alike U.vm) (h : vx_Zq C n d A u H) : vx_Zq C n d A U H := ⟨va_Zq.moved hvm h.1, vx_L.moved hvm h.2⟩
theorem vx_Zq.kept {C n d : String} {A : Nat → Prop} {U : State} {H H1 : Heap} (h : vx_Zq C n d A U H) (hq : ∀ a : Nat, a < H.size → ¬ A a → H1[a]? = H[a]?) : vx_Zq C n d A U H1 := ⟨va_Zq.kept h.1 hq, vx_L.kept h.2 hq⟩
theorem vx_Zq.narrow {C n d : String} {A B : Nat → Prop} {U : State} {H : Heap} (h : vx_Zq C n d A U H) (hAB : ∀ q, B q → A q) : vx_Zq C n d B U H := ⟨va_Zq.narrow h.1 hAB, vx_L.narrow h.2 hAB⟩
theorem vx_Zqof {args : Array Value} {s : State} {C n d : String} {A : Nat → Prop} (hl : (Cond.laysStatic C n d).before args s = true) (hini : (Cond.initialized C).before args s = true) (h : (Cond.isRef (.static C n d)).before args s = true) (hA : ∀ a : Nat, a < s.heap.size → ¬ A a) : vx_Zq C n d A s s.heap := by
  refine ⟨va_Zqof hl hini h hA, ?_⟩
  obtain ⟨c, k, i, f, a, cell, h1, h2, h3, h4, h5, h6, h7, h8, h9⟩ := Cond.laysStatic_spec hl
  exact ⟨c, k, i, f, a, cell, h1, h2, h3, h4, h5, h6, h7, h8, h9, hA a (Array.getElem?_eq_some_iff.mp h5).1⟩
theorem vx_isRef {C n d : String} {v : Value} {A : Nat → Prop} {s : State} {args : Array Value} (h : va_Z C n d v A s s.heap) (hv : v.isRef = true) : (Cond.isRef (.static C n d)).before args s = true := by
  obtain ⟨cf, kf, fi, f, a, cell, h1, h2, h3, h4, h5, h6, h7, -⟩ := h
  have he : (Term.static C n d).eval args s none [] s = some v := by
    simp [Term.eval, State.fieldNamed?, h1, h2, h4, h5, h6, h7]
  simp only [Cond.before, Cond.holds, Cond.value, he]
  cases v <;> simp_all [Value.isRef]
theorem vx_isRefq {C n d : String} {A : Nat → Prop} {s : State} {args : Array Value} (h : va_Zq C n d A s s.heap) : (Cond.isRef (.static C n d)).before args s = true := by
  rcases h with h | ⟨t, h⟩
  · exact vx_isRef h rfl
  · exact vx_isRef h rfl
/-- the same frame, seen from here: as if the method were called anew in this heap -/
theorem vx_rebase {T : State} (X : Stand p l e R s m args below meth c T locs cells slots) {R' : Room} (hf : R'.frames ≤ R.frames) (hl : R'.locals ≤ R.locals) (hc : cells + R'.cells ≤ R.cells) (hs : slots + R'.slots ≤ R.slots) :
    Stand p l e R' ((T.setVm s.vm).setFrames (.invoking m args :: below)) m args below meth c T [] 0 0 := by
  have htop : (T.setVm s.vm).topJava?.isSome := X.here.top
  have hF : ((T.setVm s.vm).setFrames (.invoking m args :: below)).frames = .invoking m args :: below := State.frames_setFrames _ (State.cur_lt_of_top htop)
  obtain ⟨g₀, hg0⟩ := Option.isSome_iff_exists.mp htop
  obtain ⟨r, hr⟩ := State.topJava?_eq_some.mp hg0
  have hl9 : e.platform.stackLimits (T.setVm s.vm).me = e.platform.stackLimits s.me := X.limits
  have hb9 : (T.setVm s.vm).me.stackBytes = s.me.stackBytes := X.bytes
  refine ⟨X.admits, X.cas, X.clock, hF, ?_, X.hears, X.method, X.code, X.here, X.tail, X.warmed, ?_, ?_, ?_⟩
  · have h := X.room
    have hU : ((T.setVm s.vm).setFrames (.invoking m args :: below)).localsInUse = s.localsInUse := by
      rw [State.localsInUse_invoking hF (meth := meth) (c := c) X.method X.code, State.localsInUse_invoking X.frames X.method X.code]
    simp only [State.hasRoom, Bool.and_eq_true, decide_eq_true_eq] at h ⊢
    obtain ⟨⟨⟨⟨h1, h2, h3, h4, h5, h6⟩, h7⟩, h8⟩, h9⟩ := h
    rw [X.frames, List.length_cons] at h2 h3
    have q1 := X.heapSize
    have q2 := X.used
    simp only [hF, hU, List.length_cons, State.stackLimits_setFrames, State.stackBytes_setFrames, hl9, hb9]
    refine ⟨⟨⟨⟨by omega, by omega, by omega, by omega, by omega, h6⟩, ?_⟩, ?_⟩, X.book⟩
    · show T.heap.size + R'.cells ≤ e.platform.maxCells
      omega
    · show T.slotsUsed + R'.slots ≤ e.platform.maxSlots
      omega
  · rw [State.stackLimits_setFrames]; rfl
  · rw [State.stackBytes_setFrames]; rfl
  · refine ⟨?_, Nat.le_refl _, Nat.le_refl _, ?_, ?_, fun a c9 h9 => ⟨c9, h9, rfl, rfl, fun _ _ => rfl⟩⟩
    · obtain ⟨t, ht, -⟩ := State.frames_cons hr
      show T.setVm s.vm = { ((T.setVm s.vm).setFrames (.invoking m args :: below)).setFrames (T.setVm s.vm).frames with heap := T.heap, slotsUsed := T.slotsUsed }
      rw [State.setFrames_setFrames, State.setFrames_self ht]
      rfl
    · show T.slotsUsed = T.slotsUsed + ((T.heap.toList.drop T.heap.size).map (·.slots.size)).sum
      rw [List.drop_eq_nil_of_le (Nat.le_of_eq Array.length_toList)]
      rfl
    · show ((T.heap.toList.drop T.heap.size).map (·.slots.size)).sum ≤ 0
      rw [List.drop_eq_nil_of_le (Nat.le_of_eq Array.length_toList)]
      exact Nat.le_refl _
/-- 'throw new E()': new; dup; invokespecial; athrow -/
theorem vx_throw0 {cc : ByteArray} {pc : Nat} (hexec : p.tables.exec = Jvm.exec) (hb : c.code = cc) (hl : l.stackTraces = false) {own cls : String} {names : List String} {ik ic mc ms : Nat} {A : Nat → Prop}
    (hown : s.vm.findClass own = some m.cls) (hcls : Bundle.fit cls = true) (hnames : ∀ n ∈ names, Bundle.fit n = true)
    (hk : (Cond.classLink own ik cls).before args s = true) (hini : (Cond.initialized cls).before args s = true) (hat : ∀ w ∈ vx_at0 own ic cls names, w.before args s = true)
    (hgood : ∀ w ∈ Cond.classLink own ik cls :: Cond.initialized cls :: vx_at0 own ic cls names, vx_ot w = true)
    (hU : vx_Zq Bundle.tN "UNASSIGNED_STACK" Bundle.steD A s s.heap) (hN : vx_Zq Bundle.tN "SUPPRESSED_SENTINEL" Bundle.listD A s s.heap) (hS : va_S A s.heap H locs) (hsize : ls.size = c.maxLocals)
    (d0 : decode cc pc = .ok (.new ik, 3)) (d3 : decode cc (pc + 3) = .ok (.dup, 1)) (d4 : decode cc (pc + 4) = .ok (.invokespecial ic, 3)) (d7 : decode cc (pc + 7) = .ok (.athrow, 1))
    (hout : ∀ x ∈ c.exceptionTable.toList, covers x (pc + 7) = false)
    (hRframes : names.length + 3 < R.frames) (hRlocals : (rest.map fun v => v.category).sum + (13 * (names.length + 1) + 42) ≤ R.locals) (hRcells : cells + 1 ≤ R.cells) (hRslots : slots + 6 ≤ R.slots) (hlocks : meth.locks = false)
    (hx : ∀ t : State, s.vm.Alike t.vm → H.size ≤ t.heap.size → (∀ q : Nat, q < H.size → t.heap[q]? = H[q]?) → XC cls s t)
    (hf : ∀ z ∈ locs, free z.base) (hc : cells + 1 ≤ mc) (hs : slots + 6 ≤ ms) :
    W p l e R s m args below meth c H locs cells slots (vx_MQ below Qc XC args s mc ms free) (F0 m pc ls rest) := by
  intro T hT X
  have htr : e.platform.stackTraces = false := (show e.platform.stackTraces = l.stackTraces by rw [X.admits.platform]).trans hl
  have Y := vx_rebase X (R' := { frames := R.frames, locals := R.locals, cells := 1, slots := 6 }) (Nat.le_refl _) (Nat.le_refl _) hRcells hRslots
  obtain ⟨s', hA⟩ : ∃ z, z = (T.setVm s.vm).setFrames (.invoking m args :: below) := ⟨_, rfl⟩
  rw [← hA] at Y
  have hvm : s'.vm = s.vm := by rw [hA]; rfl
  have hhp : s'.heap = H := by rw [hA]; exact hT
  have hW0 : s.WarmedH s'.vm := by rw [hvm]; exact State.WarmedH.refl s
  have hat' : ∀ w ∈ vx_at0 own ic cls names, w.before args s' = true := fun w hw => vx_ot_at hW0 hvm.symm (hgood w (List.mem_cons_of_mem _ (List.mem_cons_of_mem _ hw))) (hat w hw)
  have hk' : (Cond.classLink own ik cls).before args s' = true := vx_ot_at hW0 hvm.symm (hgood _ List.mem_cons_self) hk
  have hini' : (Cond.initialized cls).before args s' = true := vx_ot_at hW0 hvm.symm (hgood _ (List.mem_cons_of_mem _ List.mem_cons_self)) hini
  have hU' : vx_Zq Bundle.tN "UNASSIGNED_STACK" Bundle.steD A s' s'.heap := by rw [hhp]; exact vx_Zq.moved hW0.alike (hU.kept hS.2.1)
  have hN' : vx_Zq Bundle.tN "SUPPRESSED_SENTINEL" Bundle.listD A s' s'.heap := by rw [hhp]; exact vx_Zq.moved hW0.alike (hN.kept hS.2.1)
  have h : ∀ w ∈ Bundle.ownAtoms0 own ic cls names, w.before args s' = true := vx_own hat' (vx_isRefq hU'.1) (vx_isRefq hN'.1) hU'.2.word hN'.2.word
  have hown' : s'.vm.findClass own = some m.cls := by rw [hvm]; exact hown
  have hins : (Cond.instantiable cls 6).before args s' = true := h _ (by simp [Bundle.ownAtoms0])
  obtain ⟨vm₁, cX, kX, hfX, hkX, -, -, X₁, st1⟩ := Y.newCold hexec (own := own) (C := cls) (index := ik) (n := 6) hown' hk' hins hini'
    (g := F0 m pc ls rest) rfl (by rw [hb]; exact d0) (Nat.le_refl _) (Nat.le_refl _)
  generalize hT1 : (T.setVm vm₁).pushCell { cls := cX, slots := kX.instanceTypes.map defaultValue, vm := .none } = T1 at X₁ st1
  have hcat : (Value.ref T.heap.size).category = 1 := rfl
  have hcellA : T1.heap[T.heap.size]? = some (freshCell cX kX) := by rw [← hT1]; exact State.heap_pushCell_size _ _
  have d3' : decode c.code (pc + 3) = .ok (.dup, 1) := by rw [hb]; exact d3
  obtain ⟨U, hsteps, hrun, hend, hW, hsame, ce, hce, hO⟩ := X₁.ctorThrow0 hexec htr (own := own) (cls := cls) (names := names) (ic := ic) hown' hcls hnames h (fun x hx => nomatch hx) hfX hkX hcellA (by rw [hhp, hT]; exact Nat.le_refl _)
    (g := { method := m, pc := pc + 4, locals := ls, stack := .ref T.heap.size :: .ref T.heap.size :: rest, locked := none }) rfl hsize rfl rfl (rest := rest) rfl
    (by rw [hb]; exact d4) (by rw [hb]; exact d7) hout hRframes (by simp only [List.map_cons, List.sum_cons, hcat]; omega) hlocks
  obtain ⟨f1, f2⟩ := vx_frame hsame
  rw [hhp] at f1 f2
  have hWs : s.WarmedH U.vm := State.WarmedH.trans hW0 hW
  have hcl : s.vm.findClass cls = some ce.cls := by
    have h9 := hO.cls
    rw [hvm] at h9
    exact h9
  have hall : s.sameButNew ({ U with vm := s.vm } : State) locs mc ms := by
    subst hA
    obtain ⟨e1, e2⟩ := hsame
    rw [State.setFrames_setFrames] at e1
    have h2 : (T.setVm s.vm).sameButNew ({ U with vm := s.vm } : State) [] (0 + 1) (0 + 6) := ⟨e1, e2⟩
    have h3 := X.same.trans h2
    rw [List.append_nil] at h3
    exact h3.mono hc hs
  refine ⟨U, ?_, .threw T.heap.size, hrun, hend, Or.inr ⟨T.heap.size, rfl, cls, ce, locs, hx U hWs.alike f1 (fun q hq => f2 q hq (fun z hz => nomatch hz)), hce, hO.vm, hcl, hWs, hall, hf⟩⟩
  refine st1 _ ?_
  show Steps p.tables e below (T1.setTop { method := m, pc := pc + 3, locals := ls, stack := .ref T.heap.size :: rest, locked := none }) _
  jvm_step X₁.here [X₁.here.top, hexec, d3', Value.category]
  exact hsteps
/-- 'throw new E("text")': new; dup; ldc; invokespecial; athrow -/
theorem vx_throwS {cc : ByteArray} {pc : Nat} (hexec : p.tables.exec = Jvm.exec) (hb : c.code = cc) (hl : l.stackTraces = false) {own cls text : String} {names : List String} {ik is ic mc ms sa : Nat} {A : Nat → Prop}
    (hown : s.vm.findClass own = some m.cls) (hcls : Bundle.fit cls = true) (hnames : ∀ n ∈ names, Bundle.fit n = true)
    (hk : (Cond.classLink own ik cls).before args s = true) (hini : (Cond.initialized cls).before args s = true) (hstr : vk_R own is text sa s) (hat : ∀ w ∈ vx_atS own ic cls names, w.before args s = true)
    (hgood : ∀ w ∈ Cond.classLink own ik cls :: Cond.initialized cls :: vx_atS own ic cls names, vx_ot w = true)
    (hU : vx_Zq Bundle.tN "UNASSIGNED_STACK" Bundle.steD A s s.heap) (hN : vx_Zq Bundle.tN "SUPPRESSED_SENTINEL" Bundle.listD A s s.heap) (hS : va_S A s.heap H locs) (hsize : ls.size = c.maxLocals)
    (d0 : decode cc pc = .ok (.new ik, 3)) (d3 : decode cc (pc + 3) = .ok (.dup, 1)) (d4 : decode cc (pc + 4) = .ok (.ldc is, 2)) (d6 : decode cc (pc + 6) = .ok (.invokespecial ic, 3)) (d9 : decode cc (pc + 9) = .ok (.athrow, 1))
    (hout : ∀ x ∈ c.exceptionTable.toList, covers x (pc + 9) = false)
    (hRframes : names.length + 3 < R.frames) (hRlocals : (rest.map fun v => v.category).sum + (13 * (names.length + 1) + 43) ≤ R.locals) (hRcells : cells + 1 ≤ R.cells) (hRslots : slots + 6 ≤ R.slots) (hlocks : meth.locks = false)
    (hx : ∀ t : State, s.vm.Alike t.vm → H.size ≤ t.heap.size → (∀ q : Nat, q < H.size → t.heap[q]? = H[q]?) → XC cls s t)
    (hf : ∀ z ∈ locs, free z.base) (hc : cells + 1 ≤ mc) (hs : slots + 6 ≤ ms) :
    W p l e R s m args below meth c H locs cells slots (vx_MQ below Qc XC args s mc ms free) (F0 m pc ls rest) := by
  intro T hT X
  have htr : e.platform.stackTraces = false := (show e.platform.stackTraces = l.stackTraces by rw [X.admits.platform]).trans hl
  have Y := vx_rebase X (R' := { frames := R.frames, locals := R.locals, cells := 1, slots := 6 }) (Nat.le_refl _) (Nat.le_refl _) hRcells hRslots
  obtain ⟨s', hA⟩ : ∃ z, z = (T.setVm s.vm).setFrames (.invoking m args :: below) := ⟨_, rfl⟩
  rw [← hA] at Y
  have hvm : s'.vm = s.vm := by rw [hA]; rfl
  have hhp : s'.heap = H := by rw [hA]; exact hT
  have hW0 : s.WarmedH s'.vm := by rw [hvm]; exact State.WarmedH.refl s
  have hat' : ∀ w ∈ vx_atS own ic cls names, w.before args s' = true := fun w hw => vx_ot_at hW0 hvm.symm (hgood w (List.mem_cons_of_mem _ (List.mem_cons_of_mem _ hw))) (hat w hw)
  have hk' : (Cond.classLink own ik cls).before args s' = true := vx_ot_at hW0 hvm.symm (hgood _ List.mem_cons_self) hk
  have hini' : (Cond.initialized cls).before args s' = true := vx_ot_at hW0 hvm.symm (hgood _ (List.mem_cons_of_mem _ List.mem_cons_self)) hini
  have hU' : vx_Zq Bundle.tN "UNASSIGNED_STACK" Bundle.steD A s' s'.heap := by rw [hhp]; exact vx_Zq.moved hW0.alike (hU.kept hS.2.1)
  have hN' : vx_Zq Bundle.tN "SUPPRESSED_SENTINEL" Bundle.listD A s' s'.heap := by rw [hhp]; exact vx_Zq.moved hW0.alike (hN.kept hS.2.1)
  have h : ∀ w ∈ Bundle.ownAtoms own ic cls names, w.before args s' = true := vx_own hat' (vx_isRefq hU'.1) (vx_isRefq hN'.1) hU'.2.word hN'.2.word
  have hown' : s'.vm.findClass own = some m.cls := by rw [hvm]; exact hown
  have hins : (Cond.instantiable cls 6).before args s' = true := h _ (by simp [Bundle.ownAtoms])
  obtain ⟨vm₁, cX, kX, hfX, hkX, -, -, X₁, st1⟩ := Y.newCold hexec (own := own) (C := cls) (index := ik) (n := 6) hown' hk' hins hini'
    (g := F0 m pc ls rest) rfl (by rw [hb]; exact d0) (Nat.le_refl _) (Nat.le_refl _)
  generalize hT1 : (T.setVm vm₁).pushCell { cls := cX, slots := kX.instanceTypes.map defaultValue, vm := .none } = T1 at X₁ st1
  have hcat : (Value.ref T.heap.size).category = 1 := rfl
  have hcellA : T1.heap[T.heap.size]? = some (freshCell cX kX) := by rw [← hT1]; exact State.heap_pushCell_size _ _
  have d3' : decode c.code (pc + 3) = .ok (.dup, 1) := by rw [hb]; exact d3
  have d4' : decode c.code (pc + 4) = .ok (.ldc is, 2) := by rw [hb]; exact d4
  have hstr' : vk_R own is text sa s' := vk_R.warm hW0 hstr
  obtain ⟨U, hsteps, hrun, hend, hW, hsame, ce, hce, hO⟩ := X₁.ctorThrowS hexec htr (own := own) (cls := cls) (names := names) (ic := ic) hown' hcls hnames h (fun x hx => nomatch hx) hfX hkX hcellA (by rw [hhp, hT]; exact Nat.le_refl _) (msg := .ref sa) rfl
    (g := { method := m, pc := pc + 6, locals := ls, stack := .ref sa :: .ref T.heap.size :: .ref T.heap.size :: rest, locked := none }) rfl hsize rfl rfl (rest := rest) rfl
    (by rw [hb]; exact d6) (by rw [hb]; exact d9) hout hRframes (by simp only [List.map_cons, List.sum_cons, hcat]; omega) hlocks
  obtain ⟨f1, f2⟩ := vx_frame hsame
  rw [hhp] at f1 f2
  have hWs : s.WarmedH U.vm := State.WarmedH.trans hW0 hW
  have hcl : s.vm.findClass cls = some ce.cls := by
    have h9 := hO.cls
    rw [hvm] at h9
    exact h9
  have hall : s.sameButNew ({ U with vm := s.vm } : State) locs mc ms := by
    subst hA
    obtain ⟨e1, e2⟩ := hsame
    rw [State.setFrames_setFrames] at e1
    have h2 : (T.setVm s.vm).sameButNew ({ U with vm := s.vm } : State) [] (0 + 1) (0 + 6) := ⟨e1, e2⟩
    have h3 := X.same.trans h2
    rw [List.append_nil] at h3
    exact h3.mono hc hs
  refine ⟨U, ?_, .threw T.heap.size, hrun, hend, Or.inr ⟨T.heap.size, rfl, cls, ce, locs, hx U hWs.alike f1 (fun q hq => f2 q hq (fun z hz => nomatch hz)), hce, hO.vm, hcl, hWs, hall, hf⟩⟩
  refine st1 _ ?_
  show Steps p.tables e below (T1.setTop { method := m, pc := pc + 3, locals := ls, stack := .ref T.heap.size :: rest, locked := none }) _
  jvm_step X₁.here [X₁.here.top, hexec, d3', Value.category]
  exact X₁.ldcString hexec (own := own) (text := text) (index := is) (a := sa) hown' hstr'.1 hstr'.2
    (g := { method := m, pc := pc + 4, locals := ls, stack := .ref T.heap.size :: .ref T.heap.size :: rest, locked := none }) rfl d4' _ hsteps
/-- 'throw new E("text")', the text by a wide index -/
theorem vx_throwSW {cc : ByteArray} {pc : Nat} (hexec : p.tables.exec = Jvm.exec) (hb : c.code = cc) (hl : l.stackTraces = false) {own cls text : String} {names : List String} {ik is ic mc ms sa : Nat} {A : Nat → Prop}
    (hown : s.vm.findClass own = some m.cls) (hcls : Bundle.fit cls = true) (hnames : ∀ n ∈ names, Bundle.fit n = true)
    (hk : (Cond.classLink own ik cls).before args s = true) (hini : (Cond.initialized cls).before args s = true) (hstr : vk_R own is text sa s) (hat : ∀ w ∈ vx_atS own ic cls names, w.before args s = true)
    (hgood : ∀ w ∈ Cond.classLink own ik cls :: Cond.initialized cls :: vx_atS own ic cls names, vx_ot w = true)
    (hU : vx_Zq Bundle.tN "UNASSIGNED_STACK" Bundle.steD A s s.heap) (hN : vx_Zq Bundle.tN "SUPPRESSED_SENTINEL" Bundle.listD A s s.heap) (hS : va_S A s.heap H locs) (hsize : ls.size = c.maxLocals)
    (d0 : decode cc pc = .ok (.new ik, 3)) (d3 : decode cc (pc + 3) = .ok (.dup, 1)) (d4 : decode cc (pc + 4) = .ok (.ldc_w is, 3)) (d7 : decode cc (pc + 7) = .ok (.invokespecial ic, 3)) (d10 : decode cc (pc + 10) = .ok (.athrow, 1))
    (hout : ∀ x ∈ c.exceptionTable.toList, covers x (pc + 10) = false)
    (hRframes : names.length + 3 < R.frames) (hRlocals : (rest.map fun v => v.category).sum + (13 * (names.length + 1) + 43) ≤ R.locals) (hRcells : cells + 1 ≤ R.cells) (hRslots : slots + 6 ≤ R.slots) (hlocks : meth.locks = false)
    (hx : ∀ t : State, s.vm.Alike t.vm → H.size ≤ t.heap.size → (∀ q : Nat, q < H.size → t.heap[q]? = H[q]?) → XC cls s t)
    (hf : ∀ z ∈ locs, free z.base) (hc : cells + 1 ≤ mc) (hs : slots + 6 ≤ ms) :
    W p l e R s m args below meth c H locs cells slots (vx_MQ below Qc XC args s mc ms free) (F0 m pc ls rest) := by
  intro T hT X
  have htr : e.platform.stackTraces = false := (show e.platform.stackTraces = l.stackTraces by rw [X.admits.platform]).trans hl
  have Y := vx_rebase X (R' := { frames := R.frames, locals := R.locals, cells := 1, slots := 6 }) (Nat.le_refl _) (Nat.le_refl _) hRcells hRslots
  obtain ⟨s', hA⟩ : ∃ z, z = (T.setVm s.vm).setFrames (.invoking m args :: below) := ⟨_, rfl⟩
  rw [← hA] at Y
  have hvm : s'.vm = s.vm := by rw [hA]; rfl
  have hhp : s'.heap = H := by rw [hA]; exact hT
  have hW0 : s.WarmedH s'.vm := by rw [hvm]; exact State.WarmedH.refl s
  have hat' : ∀ w ∈ vx_atS own ic cls names, w.before args s' = true := fun w hw => vx_ot_at hW0 hvm.symm (hgood w (List.mem_cons_of_mem _ (List.mem_cons_of_mem _ hw))) (hat w hw)
  have hk' : (Cond.classLink own ik cls).before args s' = true := vx_ot_at hW0 hvm.symm (hgood _ List.mem_cons_self) hk
  have hini' : (Cond.initialized cls).before args s' = true := vx_ot_at hW0 hvm.symm (hgood _ (List.mem_cons_of_mem _ List.mem_cons_self)) hini
  have hU' : vx_Zq Bundle.tN "UNASSIGNED_STACK" Bundle.steD A s' s'.heap := by rw [hhp]; exact vx_Zq.moved hW0.alike (hU.kept hS.2.1)
  have hN' : vx_Zq Bundle.tN "SUPPRESSED_SENTINEL" Bundle.listD A s' s'.heap := by rw [hhp]; exact vx_Zq.moved hW0.alike (hN.kept hS.2.1)
  have h : ∀ w ∈ Bundle.ownAtoms own ic cls names, w.before args s' = true := vx_own hat' (vx_isRefq hU'.1) (vx_isRefq hN'.1) hU'.2.word hN'.2.word
  have hown' : s'.vm.findClass own = some m.cls := by rw [hvm]; exact hown
  have hins : (Cond.instantiable cls 6).before args s' = true := h _ (by simp [Bundle.ownAtoms])
  obtain ⟨vm₁, cX, kX, hfX, hkX, -, -, X₁, st1⟩ := Y.newCold hexec (own := own) (C := cls) (index := ik) (n := 6) hown' hk' hins hini'
    (g := F0 m pc ls rest) rfl (by rw [hb]; exact d0) (Nat.le_refl _) (Nat.le_refl _)
  generalize hT1 : (T.setVm vm₁).pushCell { cls := cX, slots := kX.instanceTypes.map defaultValue, vm := .none } = T1 at X₁ st1
  have hcat : (Value.ref T.heap.size).category = 1 := rfl
  have hcellA : T1.heap[T.heap.size]? = some (freshCell cX kX) := by rw [← hT1]; exact State.heap_pushCell_size _ _
  have d3' : decode c.code (pc + 3) = .ok (.dup, 1) := by rw [hb]; exact d3
  have d4' : decode c.code (pc + 4) = .ok (.ldc_w is, 3) := by rw [hb]; exact d4
  have hstr' : vk_R own is text sa s' := vk_R.warm hW0 hstr
  obtain ⟨U, hsteps, hrun, hend, hW, hsame, ce, hce, hO⟩ := X₁.ctorThrowS hexec htr (own := own) (cls := cls) (names := names) (ic := ic) hown' hcls hnames h (fun x hx => nomatch hx) hfX hkX hcellA (by rw [hhp, hT]; exact Nat.le_refl _) (msg := .ref sa) rfl
    (g := { method := m, pc := pc + 7, locals := ls, stack := .ref sa :: .ref T.heap.size :: .ref T.heap.size :: rest, locked := none }) rfl hsize rfl rfl (rest := rest) rfl
    (by rw [hb]; exact d7) (by rw [hb]; exact d10) hout hRframes (by simp only [List.map_cons, List.sum_cons, hcat]; omega) hlocks
  obtain ⟨f1, f2⟩ := vx_frame hsame
  rw [hhp] at f1 f2
  have hWs : s.WarmedH U.vm := State.WarmedH.trans hW0 hW
  have hcl : s.vm.findClass cls = some ce.cls := by
    have h9 := hO.cls
    rw [hvm] at h9
    exact h9
  have hall : s.sameButNew ({ U with vm := s.vm } : State) locs mc ms := by
    subst hA
    obtain ⟨e1, e2⟩ := hsame
    rw [State.setFrames_setFrames] at e1
    have h2 : (T.setVm s.vm).sameButNew ({ U with vm := s.vm } : State) [] (0 + 1) (0 + 6) := ⟨e1, e2⟩
    have h3 := X.same.trans h2
    rw [List.append_nil] at h3
    exact h3.mono hc hs
  refine ⟨U, ?_, .threw T.heap.size, hrun, hend, Or.inr ⟨T.heap.size, rfl, cls, ce, locs, hx U hWs.alike f1 (fun q hq => f2 q hq (fun z hz => nomatch hz)), hce, hO.vm, hcl, hWs, hall, hf⟩⟩
  refine st1 _ ?_
  show Steps p.tables e below (T1.setTop { method := m, pc := pc + 3, locals := ls, stack := .ref T.heap.size :: rest, locked := none }) _
  jvm_step X₁.here [X₁.here.top, hexec, d3', Value.category]
  exact X₁.ldcStringW hexec (own := own) (text := text) (index := is) (a := sa) hown' hstr'.1 hstr'.2
    (g := { method := m, pc := pc + 4, locals := ls, stack := .ref T.heap.size :: .ref T.heap.size :: rest, locked := none }) rfl d4' _ hsteps
end Ends
section Bodies
variable {l : Launch}
theorem vx_ofW {y : MethodName} {ws ws' : List Cond} {rm : Room} {Pc : Array Value → State → Prop} {Qc : Array Value → State → Outcome → State → Prop} {XC : String → State → State → Prop} {mc ms : Nat} {free : Addr → Prop} {cc : ByteArray} {maxL : Nat} {ret : Option FieldType}
    (hy : plainName y.cls = true) (hw : ws = Cond.code y cc maxL ret :: ws')
    (body : ∀ p e s m args below meth c s₁, BodyLoose p l y (headSpec ws rm) cc maxL ret e s m args below meth c s₁ → c.maxLocals = maxL → (∀ x ∈ c.exceptionTable.toList, False) → Pc args s →
      W p l e (headSpec ws rm).room s m args below meth c s.heap [] 0 0 (vx_MQ below Qc XC args s mc ms free) (entryFrame m args maxL)) : vx_Met l y ws rm Pc Qc XC mc ms free := by
  refine MetFree.of_bodyS (code := cc) (maxLocals := maxL) (ret := ret) hy ?_ ?_
  · intro args s m h hn
    obtain ⟨meth, c, h1, h2, h3, h4, h5, h6, -, -⟩ := Cond.code_spec hn (atoms_spec (ws := ws) h _ (by rw [hw]; exact List.mem_cons_self))
    exact ⟨meth, c, h1, h2, h3, h4, h5, h6⟩
  · intro p e s m args below meth c s₁ B hml hP _
    have hh0 : s₁.heap = s.heap := by rw [B.state]; rfl
    have ht : ∀ x ∈ c.exceptionTable.toList, False := by
      obtain ⟨meth9, c9, h1, h2, -, -, -, -, h7, -⟩ := Cond.code_spec B.named (atoms_spec (ws := ws) B.pre _ (by rw [hw]; exact List.mem_cons_self))
      cases Option.some.inj (h1.symm.trans B.method)
      cases Option.some.inj (h2.symm.trans (Stand.of_body B).code)
      intro x hx
      rw [Array.isEmpty_iff.mp h7] at hx
      cases hx
    obtain ⟨t, a1, o, b1, b2, b3⟩ := body p e s m args below meth c s₁ B hml ht hP s₁ hh0 (Stand.of_body B)
    exact ⟨t, o, a1, b1, b2, b3⟩
/-- the table of a body with handlers -/
theorem vx_table {p : Program} {x y : MethodName} {S : Spec} {cc bytes : ByteArray} {maxL maxL' : Nat} {ret ret' : Option FieldType} {e : Env} {s s₁ : State} {m : MethodId} {args : Array Value} {below : List Frame} {meth : Method} {c : Code} {hh : List (Nat × Nat × Nat × Nat)}
    (B : BodyLoose p l y S cc maxL ret e s m args below meth c s₁) (h : (Cond.codeWith y bytes maxL' ret' hh).before args s = true) : c.exceptionTable.toList = tableOf hh := by
  obtain ⟨m9, meth9, c9, hn9, h1, h2, -, -, h6, -⟩ := Cond.codeWith_spec h
  cases Option.some.inj (hn9.symm.trans B.named)
  cases Option.some.inj (h1.symm.trans B.method)
  cases Option.some.inj (h2.symm.trans (Stand.of_body B).code)
  rw [← h6, table_eq]
end Bodies
end VXA
/-! ===== END ===== -/
/-! ===== BEGIN a static call of a method with an exception table ===== -/
section VXS
variable {p : Program} {l : Launch} {e : Env} {R : Room} {s : State} {m : MethodId} {args : Array Value} {below : List Frame} {meth : Method} {c : Code} {T : State} {H : Heap} {locs : List Loc} {cells slots : Nat}
abbrev vx_CSW (R : Room) (s : State) (args : Array Value) (own : String) (index : Nat) (y : MethodName) (bytes : ByteArray) (maxL : Nat) (ret : Option FieldType) (hh : List (Nat × Nat × Nat × Nat)) (ws : List Cond) (rm : Room) (mc ms n : Nat) : Prop :=
  (rm.cells = mc ∧ rm.slots = ms ∧ rm.frames + 1 ≤ R.frames ∧ 8 + (maxL + 11) + rm.locals ≤ R.locals ∧ (∀ w ∈ ws, ∀ (a' : Array Value) (U : State), s.WarmedH U.vm → w.before a' U = true) ∧ Cond.codeWith y bytes maxL ret hh ∈ ws) ∧
  (Cond.codeWith y bytes maxL ret hh).before args s = true ∧ (Cond.initialized y.cls).before args s = true ∧ (y.cls ≠ "java/lang/invoke/MethodHandle" ∧ y.cls ≠ "java/lang/invoke/VarHandle") ∧
  (∀ sig, parseMethodDescriptor y.desc = some sig → n = sig.parameters.length) ∧ (Cond.methodLink own index y).before args s = true ∧ (Cond.static y).before args s = true
theorem vx_cwSW {own : String} {index maxL mc ms : Nat} {y : MethodName} {bytes : ByteArray} {ret : Option FieldType} {hh : List (Nat × Nat × Nat × Nat)} {Ts ws ws' : List Cond} {rm : Room} (n : Nat) (ht : ∀ w ∈ Ts, w.before args s = true) (hT : GoodIn Ts (va_wsS own index y ws)) (hw : ws = Cond.codeWith y bytes maxL ret hh :: ws') (hrc : rm.cells = mc) (hrs : rm.slots = ms)
    (hd : y.cls ≠ "java/lang/invoke/MethodHandle" ∧ y.cls ≠ "java/lang/invoke/VarHandle" ∧ (parseMethodDescriptor y.desc).map (fun d => d.parameters.length) = some n) (hR : rm.frames + 1 ≤ R.frames ∧ 8 + (maxL + 11) + rm.locals ≤ R.locals) :
    vx_CSW R s args own index y bytes maxL ret hh ws rm mc ms n := by
  have ok : ∀ w ∈ va_wsS own index y ws, w.before args s = true := fun w h => ht w (hT w h).1
  have hG : GoodIn Ts ws := fun w h => hT w (by unfold va_wsS; exact List.mem_append_right _ h)
  have hc : Cond.codeWith y bytes maxL ret hh ∈ ws := by rw [hw]; exact List.mem_cons_self
  refine ⟨⟨hrc, hrs, hR.1, hR.2, pay_in ht hG, hc⟩, ht _ (hG _ hc).1, ok _ (by simp [va_wsS]), ⟨hd.1, hd.2.1⟩, fun sig h => ?_, ok _ (by simp [va_wsS]), ok _ (by simp [va_wsS])⟩
  have h2 := hd.2.2
  rw [h] at h2
  exact (Option.some.inj h2).symm
theorem vx_callSW (X : Stand p l e R s m args below meth c T locs cells slots) (hexec : p.tables.exec = Jvm.exec) {own : String} {index : Nat} {y : MethodName} {bytes : ByteArray} {maxL : Nat} {ret : Option FieldType} {hh : List (Nat × Nat × Nat × Nat)}
    (hown : s.vm.findClass own = some m.cls) (hlink : (Cond.methodLink own index y).before args s = true) (hstat : (Cond.static y).before args s = true) (hinit : (Cond.initialized y.cls).before args s = true)
    (hcode : (Cond.codeWith y bytes maxL ret hh).before args s = true) (hy : y.cls ≠ "java/lang/invoke/MethodHandle" ∧ y.cls ≠ "java/lang/invoke/VarHandle")
    {W9 : Nat} {Pre : Pt → Array Value → Prop} {Post : Pt → Array Value → Option Value → Pt → Prop} (hK : Back l R p e below s args y 3 W9 Pre Post)
    {g : JFrame} (hg : g.method = m) (hsize : g.locals.size = c.maxLocals) {argsL rest : List Value} (hlen : ∀ sig, parseMethodDescriptor y.desc = some sig → argsL.length = sig.parameters.length)
    (hstack : g.stack = argsL.reverse ++ rest) (hW : 2 * g.monitorRoom + (rest.map fun v => v.category).sum ≤ W9) (hdg : decode c.code g.pc = .ok (.invokestatic index, 3))
    (hpre : ∀ vm₁, s.WarmedH vm₁ → Pre ⟨T.setVm vm₁, locs, cells, slots⟩ argsL.toArray) :
    ∃ (v : Option Value) (vm₁ : Vm) (B : Pt), s.WarmedH vm₁ ∧ Stand p l e R s m args below meth c B.U B.locs B.cells B.slots ∧ Post ⟨T.setVm vm₁, locs, cells, slots⟩ argsL.toArray v B ∧
      ∀ target, Steps p.tables e below (B.U.setTop { g with pc := g.pc + 3, stack := v.toList ++ rest }) target → Steps p.tables e below (T.setTop g) target := by
  obtain ⟨mk, methM, cM, hnamed, hmethM, -, -, -, -, -, -, hsigM⟩ := Cond.codeWith_spec hcode
  have hstatic : methM.isStatic = true := Cond.static_spec hnamed hmethM hstat
  obtain ⟨kP, hkP, -⟩ := className_of_methodNamed hnamed
  have hinitP : kP.init = .initialized := Cond.initialized_spec (findClass_of_methodNamed hnamed) hkP hinit
  obtain ⟨vm₁, X₁, hstep₁⟩ := X.invokestatic hexec hown hlink hnamed hmethM hstatic hkP hinitP hy (g := g) hg (argsL := argsL) (rest := rest) (hlen _ hsigM) hstack hdg
  obtain ⟨v, B, X', hpost, hsteps⟩ := hK m meth c ⟨T.setVm vm₁, locs, cells, slots⟩ { g with stack := rest } (.invokestatic index) mk argsL.toArray X₁ hg hsize hdg hW (X₁.named hnamed) (hpre vm₁ X₁.warmed)
  exact ⟨v, vm₁, B, X₁.warmed, X', hpost, fun target h => hstep₁ _ fun acts => by rw [doInvoke_state]; exact hsteps.trans h⟩
theorem vx_runSW {y : MethodName} {bytes cc : ByteArray} {maxL nL mc ms n index : Nat} {ret : Option FieldType} {hh : List (Nat × Nat × Nat × Nat)} {ws : List Cond} {rm : Room} {Pc : Array Value → State → Prop} {Qc : Array Value → State → Outcome → State → Prop} {free : Addr → Prop} {Ts : List Cond} {own : String} {As rest : List Value} {g : JFrame}
    (S : CallFix p m c cc nL s args Ts own) (hM : Met l y ws rm Pc Qc mc ms free) (cw : vx_CSW R s args own index y bytes maxL ret hh ws rm mc ms n) (hp : PreS s H Pc As)
    (hg : g.method = m) (hn : As.length = n) (hsize : g.locals.size = nL) (hstack : g.stack = As.reverse ++ rest) (hW : 2 * g.monitorRoom + (rest.map fun v => v.category).sum ≤ 8) (hdg : decode cc g.pc = .ok (.invokestatic index, 3)) (hf : cells + mc ≤ R.cells ∧ slots + ms ≤ R.slots) :
    va_Run p l e R s m args below meth c H locs cells slots mc ms g rest (Qc As.toArray) (free) := by
  obtain ⟨⟨hrc, hrs, hfr, hlo, hws, hcw⟩, hcode, hini, hy, hlen, hl, hstt⟩ := cw
  have hK : Back l R p e below s args y 3 8 (PreOf R mc ms Pc) (PostOf Qc mc ms free) := va_backW (hh := hh) (bytes := bytes) (maxL := maxL) (ret := ret) hM hp.1 hrc hrs hfr hlo hws hcw (fun a' U hW => word_at hW (Or.inl (by first | rfl | simp [Cond.onTables, Cond.keeps, Cond.steady])) hini)
  obtain ⟨hx, hb, hml, ho, -⟩ := S
  intro T hT X
  obtain ⟨v, vm₁, ⟨U', l2, c2, s2⟩, hW₁, X', ⟨g', mk, t, L, e1, e2, hq, h1, hL, h2, h3⟩, st⟩ := vx_callSW X hx (hh := hh) (bytes := bytes) (maxL := maxL) (ret := ret) ho hl hstt hini hcode hy hK hg (hsize.trans hml.symm) (argsL := As) (rest := rest) (fun sig h => hn.trans (hlen sig h)) hstack hW (by rw [hb]; exact hdg)
    (fun vm₁ hW₁ => ⟨hf.1, hf.2, hp.2 (T.setVm vm₁) hT hW₁⟩)
  dsimp only [Pt.U, Pt.locs, Pt.cells, Pt.slots] at X' e1 e2 h1 h2 h3 st
  subst h1; subst h2; subst h3
  exact ⟨v, (T.setVm vm₁).calling g' mk As.toArray, t, U', L, hT, X', hL, e1, e2, hq, st⟩
/-- not caught here, past rows that name other classes: it goes on to the caller -/
theorem vx_outP {p : Program} {l : Launch} {e : Env} {R : Room} {s : State} {m : MethodId} {args : Array Value} {below : List Frame} {meth : Method} {c : Code} {H : Heap} {locs : List Loc} {cells slots : Nat} {free : Addr → Prop} {ls : Array Slot} {rest : List Value} {Qc : Array Value → State → Outcome → State → Prop} {XC : String → State → State → Prop}
    {pc : Nat} {own E : String} {ce : Cell} {q : Addr} {mc ms : Nat} (hown : s.vm.findClass own = some m.cls) (hlocks : meth.locks = false)
    (hpass : ∀ z ∈ c.exceptionTable.toList, covers z pc = false ∨ (z.catchType ≠ 0 ∧ ∃ nm : String, (Cond.classLink own z.catchType nm).before args s = true ∧ va_Nc E nm s)) (hcell : H[q]? = some ce) (hv : ce.vm = .none) (hcl : s.vm.findClass E = some ce.cls)
    (hx : ∀ t : State, t.heap = H → s.vm.Alike t.vm → XC E s t) (hf : ∀ z ∈ locs, free z.base) (hc : cells ≤ mc) (hs : slots ≤ ms) :
    vx_W p l e R s m args below meth c H locs cells slots (vx_MQ below Qc XC args s mc ms free) (F0 m pc ls rest) q := by
  intro T hT X
  have hpl : e.platform.magicAccessors = ({} : Platform).magicAccessors := by rw [X.admits.platform]
  obtain ⟨vm', hW', X', st⟩ := Stand.outThrough X hlocks q (g := F0 m pc ls rest) rfl rfl rfl (cell := ce) (by rw [hT]; exact hcell) (by rw [hv]; rfl)
    (by obtain ⟨k9, h9, -⟩ := Vm.findClass_spec hcl; exact ⟨k9, h9⟩) (fun z hz => by
      rcases hpass z hz with h | ⟨hz0, nm, hl1, hn1⟩
      · exact Or.inl h
      · obtain ⟨c6, hc6, hcl6⟩ := Cond.classLink_spec hown hl1 e.platform hpl
        obtain ⟨a8, b8, h1, h2, h3⟩ := hn1
        cases Option.some.inj (h1.symm.trans hcl)
        cases Option.some.inj (h2.symm.trans hc6)
        exact Or.inr ⟨hz0, _, hcl6, h3⟩)
  obtain ⟨g₀, hfr⟩ := X'.frames_eq
  have hcell9 : ((T.setVm vm').setFrames (.throwing q :: below)).heap[q]? = some ce := by
    show T.heap[q]? = some ce
    rw [hT]; exact hcell
  have hend : Ended ((T.setVm vm').setFrames (.throwing q :: below)) below (.threw q) := State.frames_setFrames _ (State.cur_lt_of_frames hfr)
  refine ⟨(T.setVm vm').setFrames (.throwing q :: below), ?_, .threw q, X'.here.running, hend, Or.inr ⟨q, rfl, E, ce, locs, hx _ hT (X'.ends _).1.alike, hcell9, hv, hcl, (X'.ends _).1, (X'.ends _).2.mono hc hs, hf⟩⟩
  rw [X.pushThrowing_eq]
  exact st
/-- a thing of a world lies in the heap -/
theorem vx_lt {D : va_G} {cl : List vw_C} {ws : va_W} {H1 : Heap} (h : va_P D cl ws H1) {k : Nat} {q : Nat × va_E} (hk : ws[k]? = some q) : q.1 < H1.size := (h k q hk).lt
end VXS
/-! ===== END ===== -/
/-! ===== BEGIN methods with a table of their own: called by a name, returning or throwing ===== -/
section VXH
/-! vx_backW, vx_callVX, vx_callSX, vx_callVW, vx_runVW, vx_runVX, vx_runSX, vx_ofWH follow the same proofs as their sisters above (Free/Laws.lean, Shelf42/LK1.lean); vx_outP calls Shelf42/NT130.lean (outThrough). -/
section
variable {l : Launch} {R : Room} {p : Program} {e : Env} {below : List Frame} {s : State} {sargs : Array Value} {y : MethodName} {len W9 : Nat}
theorem vx_backW {ws : List Cond} {rm : Room} {Pc : Array Value → State → Prop} {Qc : Array Value → State → Outcome → State → Prop} {XC : String → State → State → Prop} {mc ms : Nat} {free : Addr → Prop} {bytes : ByteArray} {maxL : Nat} {ret : Option FieldType} {hh : List (Nat × Nat × Nat × Nat)}
    (hM : vx_Met l y ws rm Pc Qc XC mc ms free) (hblind : FrameBlind Pc) (hrc : rm.cells = mc) (hrs : rm.slots = ms)
    (hframes : rm.frames + 1 ≤ R.frames) (hlocals : W9 + (maxL + 11) + rm.locals ≤ R.locals)
    (hws : ∀ w ∈ ws, ∀ a' U, s.WarmedH U.vm → w.before a' U = true) (hcode : Cond.codeWith y bytes maxL ret hh ∈ ws) (hinit : ∀ a' U, s.WarmedH U.vm → (Cond.initialized y.cls).before a' U = true) :
    vx_Back l R p e below s sargs y len W9 (PreOf R mc ms Pc) (PostOf Qc mc ms free) (vx_Post XC mc ms free) := by
  intro m meth c A g ig mk a X hg hsize hdg hW hn hp
  have h1 : (headSpec ws rm).pre.before a A.U = true := atoms_intro fun w hw => hws w hw _ _ X.warmed
  have h2 : (Cond.codeWith y bytes maxL ret hh).before a A.U = true := hws _ hcode _ _ X.warmed
  have h3 : (Cond.initialized y.cls).before a A.U = true := hinit _ _ X.warmed
  have h4 : A.cells + (headSpec ws rm).room.cells ≤ R.cells := by rw [show (headSpec ws rm).room.cells = mc from hrc]; exact hp.1
  have h5 : A.slots + (headSpec ws rm).room.slots ≤ R.slots := by rw [show (headSpec ws rm).room.slots = ms from hrs]; exact hp.2.1
  have hPc : Pc a (A.U.calling g mk a) := hblind _ _ _ _ hp.2.2
  obtain ⟨U, Ls, c0, s0⟩ := A
  dsimp only [Pt.U, Pt.locs, Pt.cells, Pt.slots] at h1 h2 h3 h4 h5 X hn hPc ⊢
  obtain ⟨m9, methY, cY, hn9, hmY, hcY, -, hlY, -⟩ := Cond.codeWith_spec h2
  cases Option.some.inj (hn9.symm.trans hn)
  obtain ⟨kY, hkY, -⟩ := className_of_methodNamed hn
  have hinitY : kY.init = .initialized := Cond.initialized_spec (findClass_of_methodNamed hn) hkY h3
  have h : At U g.method c below := by rw [hg]; exact X.here
  have hlocals9 : W9 + (maxL + 11) + (headSpec ws rm).room.locals ≤ R.locals := hlocals
  have happ : (headSpec ws rm).appliesLoose y e.platform (U.calling g mk a) = true :=
    Spec.appliesLoose_calling (g := g) h hdg hn hkY hinitY
      (X.room_calling (g := g) (R' := (headSpec ws rm).room) hsize hmY hcY hframes (by rw [hlY]; omega) h4 h5) h1
  obtain ⟨mid, hmid⟩ := h.above
  have hfr : (U.setTop g).frames = (.java g :: mid) ++ below := by rw [State.frames_setTop' g h.top, hmid]; rfl
  obtain ⟨o, s₂, hsteps, -, hend, hq⟩ := Steps.callFree hM p X.admits X.cas X.clock (acts := []) hfr happ hPc trivial
  have hq' : vx_Q Qc XC mc ms free a (U.calling g mk a) o s₂ := hq
  rw [State.frames_setTop' g h.top] at hend
  obtain ⟨g₀, hg0⟩ := Option.isSome_iff_exists.mp h.top
  obtain ⟨r, hr⟩ := State.topJava?_eq_some.mp hg0
  have hr' : (({ U with heap := s₂.heap, slotsUsed := s₂.slotsUsed } : State).setVm s₂.vm).frames = .java g₀ :: r := hr
  rcases hq' with ⟨hqc, L, hfe, hL⟩ | ⟨q, rfl, E, ce, L, hx, hce, hcv, hcl, hW₂, hsm, hL⟩
  · obtain ⟨⟨v, rfl⟩, hW₂, e2, q2, q3, q4, q5, q6⟩ := id hfe
    have e3 : s₂ = ({ (U.calling g mk a).setFrames s₂.frames with heap := s₂.heap, slotsUsed := s₂.slotsUsed } : State).setVm s₂.vm := by
      have : s₂ = ({ s₂ with vm := (U.calling g mk a).vm } : State).setVm s₂.vm := rfl
      rw [e2] at this
      exact this
    obtain ⟨c₂, i₂, len₂, hc₂, hd₂, hf₂⟩ := hend
    have hW' : U.WarmedH s₂.vm := hW₂
    have hcc : c₂ = c := by
      have h1 : s₂.code? g.method = U.code? g.method := by
        rw [State.code?_eq, State.code?_eq, hW'.alike.method?]
      exact Option.some.inj (hc₂.symm.trans (h1.trans h.code))
    subst hcc
    have hlen : len₂ = len := by rw [hdg] at hd₂; cases hd₂; rfl
    subst hlen
    have hs₂ : s₂ = (({ U with heap := s₂.heap, slotsUsed := s₂.slotsUsed } : State).setVm s₂.vm).setTop { g with pc := g.pc + len₂, stack := v.toList ++ g.stack } := by
      refine e3.trans ?_
      rw [hf₂, State.calling_eq h.top, State.setFrames_setFrames, State.setTop_of_frames _ hr', hr]
      rfl
    have hsame : U.sameButNew ({ U with heap := s₂.heap, slotsUsed := s₂.slotsUsed } : State) L mc ms := by
      refine ⟨?_, q2, q3, q4, q5, q6⟩
      obtain ⟨t, ht, -⟩ := State.frames_cons hr
      show ({ U with heap := s₂.heap, slotsUsed := s₂.slotsUsed } : State) = { U.setFrames U.frames with heap := s₂.heap, slotsUsed := s₂.slotsUsed }
      rw [State.setFrames_self ht]
    subst hg
    refine Or.inl ⟨v, ⟨(({ U with heap := s₂.heap, slotsUsed := s₂.slotsUsed } : State).setVm s₂.vm), Ls ++ L, c0 + mc, s0 + ms⟩,
      ⟨X.admits, X.cas, X.clock, X.frames, X.room, X.hears, X.method, X.code, (X.here.setHeapUsed s₂.heap s₂.slotsUsed).setVm hW'.alike, X.tail, State.WarmedH.trans X.warmed hW', X.limits, X.bytes, X.same.trans (hsame.setVm s.vm)⟩,
      ⟨g, mk, s₂, L, rfl, rfl, hqc, rfl, hL, rfl, rfl⟩, ?_⟩
    show Steps p.tables e below _ ((({ U with heap := s₂.heap, slotsUsed := s₂.slotsUsed } : State).setVm s₂.vm).setTop { g with pc := g.pc + len₂, stack := v.toList ++ g.stack })
    rw [← hs₂]
    exact hsteps
  · obtain ⟨e2, q2, q3, q4, q5, q6⟩ := id hsm
    have e3 : s₂ = ({ (U.calling g mk a).setFrames s₂.frames with heap := s₂.heap, slotsUsed := s₂.slotsUsed } : State).setVm s₂.vm := by
      have : s₂ = ({ s₂ with vm := (U.calling g mk a).vm } : State).setVm s₂.vm := rfl
      rw [e2] at this
      exact this
    have hf₂ : s₂.frames = .throwing q :: .java g :: U.frames.tail := hend
    have hW' : U.WarmedH s₂.vm := hW₂
    have hs₂ : s₂ = ((({ U with heap := s₂.heap, slotsUsed := s₂.slotsUsed } : State).setVm s₂.vm).setTop g).pushFrame (.throwing q) := by
      refine e3.trans ?_
      rw [hf₂, State.calling_eq h.top, State.setFrames_setFrames, State.pushFrame, State.frames_setTop _ hr', State.setTop_of_frames _ hr', State.setFrames_setFrames, hr]
      rfl
    have hsame : U.sameButNew ({ U with heap := s₂.heap, slotsUsed := s₂.slotsUsed } : State) L mc ms := by
      refine ⟨?_, q2, q3, q4, q5, q6⟩
      obtain ⟨t, ht, -⟩ := State.frames_cons hr
      show ({ U with heap := s₂.heap, slotsUsed := s₂.slotsUsed } : State) = { U.setFrames U.frames with heap := s₂.heap, slotsUsed := s₂.slotsUsed }
      rw [State.setFrames_self ht]
    subst hg
    refine Or.inr ⟨q, ⟨(({ U with heap := s₂.heap, slotsUsed := s₂.slotsUsed } : State).setVm s₂.vm), Ls ++ L, c0 + mc, s0 + ms⟩,
      ⟨X.admits, X.cas, X.clock, X.frames, X.room, X.hears, X.method, X.code, (X.here.setHeapUsed s₂.heap s₂.slotsUsed).setVm hW'.alike, X.tail, State.WarmedH.trans X.warmed hW', X.limits, X.bytes, X.same.trans (hsame.setVm s.vm)⟩,
      ⟨g, mk, s₂, L, E, ce, rfl, rfl, hx, hce, hcv, hcl, rfl, hL, rfl, rfl⟩, ?_⟩
    show Steps p.tables e below _ (((({ U with heap := s₂.heap, slotsUsed := s₂.slotsUsed } : State).setVm s₂.vm).setTop g).pushFrame (.throwing q))
    rw [← hs₂]
    exact hsteps
end
variable {p : Program} {l : Launch} {e : Env} {R : Room} {s : State} {m : MethodId} {args : Array Value} {below : List Frame} {meth : Method} {c : Code} {T : State} {H : Heap} {locs : List Loc} {cells slots : Nat}
theorem vx_callVX (X : Stand p l e R s m args below meth c T locs cells slots) (hexec : p.tables.exec = Jvm.exec) {own C : String} {index : Nat} {y : MethodName} {bytes : ByteArray} {maxL : Nat} {ret : Option FieldType} {hh : List (Nat × Nat × Nat × Nat)}
    (hown : s.vm.findClass own = some m.cls) (hlink : (Cond.methodLink own index y).before args s = true) (hinst : (Cond.instanceMethod y).before args s = true) (hsel : (Cond.selects C y y).before args s = true)
    (hcode : (Cond.codeWith y bytes maxL ret hh).before args s = true) (hy : y.cls ≠ "java/lang/invoke/MethodHandle" ∧ y.cls ≠ "java/lang/invoke/VarHandle")
    {W9 : Nat} {Pre : Pt → Array Value → Prop} {Post : Pt → Array Value → Option Value → Pt → Prop} {PostX : Pt → Array Value → Addr → Pt → Prop} (hK : vx_Back l R p e below s args y 3 W9 Pre Post PostX)
    {b : Addr} {cellB : Cell} (hcell : T.heap[b]? = some cellB) (hobj : cellB.vm.isStatics = false) (hcls : s.vm.findClass C = some cellB.cls)
    {g : JFrame} (hg : g.method = m) (hsize : g.locals.size = c.maxLocals) {argsL rest : List Value} (hlen : ∀ sig, parseMethodDescriptor y.desc = some sig → argsL.length = sig.parameters.length)
    (hstack : g.stack = argsL.reverse ++ .ref b :: rest) (hW : 2 * g.monitorRoom + (rest.map fun v => v.category).sum ≤ W9) (hdg : decode c.code g.pc = .ok (.invokevirtual index, 3))
    (hpre : ∀ vm₁, s.WarmedH vm₁ → Pre ⟨T.setVm vm₁, locs, cells, slots⟩ (Value.ref b :: argsL).toArray) :
    (∃ (v : Option Value) (vm₁ : Vm) (B : Pt), s.WarmedH vm₁ ∧ Stand p l e R s m args below meth c B.U B.locs B.cells B.slots ∧ Post ⟨T.setVm vm₁, locs, cells, slots⟩ (Value.ref b :: argsL).toArray v B ∧
      ∀ target, Steps p.tables e below (B.U.setTop { g with pc := g.pc + 3, stack := v.toList ++ rest }) target → Steps p.tables e below (T.setTop g) target) ∨
    (∃ (q : Addr) (vm₁ : Vm) (B : Pt), s.WarmedH vm₁ ∧ Stand p l e R s m args below meth c B.U B.locs B.cells B.slots ∧ PostX ⟨T.setVm vm₁, locs, cells, slots⟩ (Value.ref b :: argsL).toArray q B ∧
      Steps p.tables e below (T.setTop g) ((B.U.setTop { g with stack := rest }).pushFrame (.throwing q))) := by
  obtain ⟨mk, methM, hnamed, hmethM, hstM, habM⟩ := Cond.instanceMethod_spec hinst
  obtain ⟨m8, methM', cM, hn8, hmethM', -, -, -, -, -, -, hsigM⟩ := Cond.codeWith_spec hcode
  cases Option.some.inj (hn8.symm.trans hnamed)
  cases hmethM.symm.trans hmethM'
  obtain ⟨c2, r2, m2, q1, q2, q3, q4, kP, hkP, hkPi⟩ := Cond.selects_spec hsel
  cases hcls.symm.trans q1
  cases (State.methodFound?_of_named hnamed hy).symm.trans q2
  cases hnamed.symm.trans q3
  have hselP : selectMethod e.platform s.vm cellB.cls mk = .method mk := by rw [Launch.admits_selectMethod X.admits]; exact q4
  obtain ⟨vm₁, X₁, hstep₁⟩ := X.invokevirtual hexec hown hlink hnamed hmethM hstM hkP hkPi hy (a := b) (cell := cellB) hcell
    (fun z h => by rw [h] at hobj; cases hobj) hselP hmethM habM hkP hkPi (g := g) hg (argsL := argsL) (rest := rest) (hlen _ hsigM) hstack hdg
  rcases hK m meth c ⟨T.setVm vm₁, locs, cells, slots⟩ { g with stack := rest } (.invokevirtual index) mk (Value.ref b :: argsL).toArray X₁ hg hsize hdg hW (X₁.named hnamed) (hpre vm₁ X₁.warmed) with ⟨v, B, X', hpost, hsteps⟩ | ⟨q, B, X', hpost, hsteps⟩
  · exact Or.inl ⟨v, vm₁, B, X₁.warmed, X', hpost, fun target h => hstep₁ _ fun acts => by rw [doInvoke_state]; exact hsteps.trans h⟩
  · exact Or.inr ⟨q, vm₁, B, X₁.warmed, X', hpost, hstep₁ _ fun acts => by rw [doInvoke_state]; exact hsteps⟩
theorem vx_callSX (X : Stand p l e R s m args below meth c T locs cells slots) (hexec : p.tables.exec = Jvm.exec) {own : String} {index : Nat} {y : MethodName} {bytes : ByteArray} {maxL : Nat} {ret : Option FieldType} {hh : List (Nat × Nat × Nat × Nat)}
    (hown : s.vm.findClass own = some m.cls) (hlink : (Cond.methodLink own index y).before args s = true) (hstat : (Cond.static y).before args s = true) (hinit : (Cond.initialized y.cls).before args s = true)
    (hcode : (Cond.codeWith y bytes maxL ret hh).before args s = true) (hy : y.cls ≠ "java/lang/invoke/MethodHandle" ∧ y.cls ≠ "java/lang/invoke/VarHandle")
    {W9 : Nat} {Pre : Pt → Array Value → Prop} {Post : Pt → Array Value → Option Value → Pt → Prop} {PostX : Pt → Array Value → Addr → Pt → Prop} (hK : vx_Back l R p e below s args y 3 W9 Pre Post PostX)
    {g : JFrame} (hg : g.method = m) (hsize : g.locals.size = c.maxLocals) {argsL rest : List Value} (hlen : ∀ sig, parseMethodDescriptor y.desc = some sig → argsL.length = sig.parameters.length)
    (hstack : g.stack = argsL.reverse ++ rest) (hW : 2 * g.monitorRoom + (rest.map fun v => v.category).sum ≤ W9) (hdg : decode c.code g.pc = .ok (.invokestatic index, 3))
    (hpre : ∀ vm₁, s.WarmedH vm₁ → Pre ⟨T.setVm vm₁, locs, cells, slots⟩ argsL.toArray) :
    (∃ (v : Option Value) (vm₁ : Vm) (B : Pt), s.WarmedH vm₁ ∧ Stand p l e R s m args below meth c B.U B.locs B.cells B.slots ∧ Post ⟨T.setVm vm₁, locs, cells, slots⟩ argsL.toArray v B ∧
      ∀ target, Steps p.tables e below (B.U.setTop { g with pc := g.pc + 3, stack := v.toList ++ rest }) target → Steps p.tables e below (T.setTop g) target) ∨
    (∃ (q : Addr) (vm₁ : Vm) (B : Pt), s.WarmedH vm₁ ∧ Stand p l e R s m args below meth c B.U B.locs B.cells B.slots ∧ PostX ⟨T.setVm vm₁, locs, cells, slots⟩ argsL.toArray q B ∧
      Steps p.tables e below (T.setTop g) ((B.U.setTop { g with stack := rest }).pushFrame (.throwing q))) := by
  obtain ⟨mk, methM, cM, hnamed, hmethM, -, -, -, -, -, -, hsigM⟩ := Cond.codeWith_spec hcode
  have hstatic : methM.isStatic = true := Cond.static_spec hnamed hmethM hstat
  obtain ⟨kP, hkP, -⟩ := className_of_methodNamed hnamed
  have hinitP : kP.init = .initialized := Cond.initialized_spec (findClass_of_methodNamed hnamed) hkP hinit
  obtain ⟨vm₁, X₁, hstep₁⟩ := X.invokestatic hexec hown hlink hnamed hmethM hstatic hkP hinitP hy (g := g) hg (argsL := argsL) (rest := rest) (hlen _ hsigM) hstack hdg
  rcases hK m meth c ⟨T.setVm vm₁, locs, cells, slots⟩ { g with stack := rest } (.invokestatic index) mk argsL.toArray X₁ hg hsize hdg hW (X₁.named hnamed) (hpre vm₁ X₁.warmed) with ⟨v, B, X', hpost, hsteps⟩ | ⟨q, B, X', hpost, hsteps⟩
  · exact Or.inl ⟨v, vm₁, B, X₁.warmed, X', hpost, fun target h => hstep₁ _ fun acts => by rw [doInvoke_state]; exact hsteps.trans h⟩
  · exact Or.inr ⟨q, vm₁, B, X₁.warmed, X', hpost, hstep₁ _ fun acts => by rw [doInvoke_state]; exact hsteps⟩
theorem vx_callVW (X : Stand p l e R s m args below meth c T locs cells slots) (hexec : p.tables.exec = Jvm.exec) {own C : String} {index : Nat} {y : MethodName} {bytes : ByteArray} {maxL : Nat} {ret : Option FieldType} {hh : List (Nat × Nat × Nat × Nat)}
    (hown : s.vm.findClass own = some m.cls) (hlink : (Cond.methodLink own index y).before args s = true) (hinst : (Cond.instanceMethod y).before args s = true) (hsel : (Cond.selects C y y).before args s = true)
    (hcode : (Cond.codeWith y bytes maxL ret hh).before args s = true) (hy : y.cls ≠ "java/lang/invoke/MethodHandle" ∧ y.cls ≠ "java/lang/invoke/VarHandle")
    {W9 : Nat} {Pre : Pt → Array Value → Prop} {Post : Pt → Array Value → Option Value → Pt → Prop} (hK : Back l R p e below s args y 3 W9 Pre Post)
    {b : Addr} {cellB : Cell} (hcell : T.heap[b]? = some cellB) (hobj : cellB.vm.isStatics = false) (hcls : s.vm.findClass C = some cellB.cls)
    {g : JFrame} (hg : g.method = m) (hsize : g.locals.size = c.maxLocals) {argsL rest : List Value} (hlen : ∀ sig, parseMethodDescriptor y.desc = some sig → argsL.length = sig.parameters.length)
    (hstack : g.stack = argsL.reverse ++ .ref b :: rest) (hW : 2 * g.monitorRoom + (rest.map fun v => v.category).sum ≤ W9) (hdg : decode c.code g.pc = .ok (.invokevirtual index, 3))
    (hpre : ∀ vm₁, s.WarmedH vm₁ → Pre ⟨T.setVm vm₁, locs, cells, slots⟩ (Value.ref b :: argsL).toArray) :
    ∃ (v : Option Value) (vm₁ : Vm) (B : Pt), s.WarmedH vm₁ ∧ Stand p l e R s m args below meth c B.U B.locs B.cells B.slots ∧ Post ⟨T.setVm vm₁, locs, cells, slots⟩ (Value.ref b :: argsL).toArray v B ∧
      ∀ target, Steps p.tables e below (B.U.setTop { g with pc := g.pc + 3, stack := v.toList ++ rest }) target → Steps p.tables e below (T.setTop g) target := by
  obtain ⟨mk, methM, hnamed, hmethM, hstM, habM⟩ := Cond.instanceMethod_spec hinst
  obtain ⟨m8, methM', cM, hn8, hmethM', -, -, -, -, -, -, hsigM⟩ := Cond.codeWith_spec hcode
  cases Option.some.inj (hn8.symm.trans hnamed)
  cases hmethM.symm.trans hmethM'
  obtain ⟨c2, r2, m2, q1, q2, q3, q4, kP, hkP, hkPi⟩ := Cond.selects_spec hsel
  cases hcls.symm.trans q1
  cases (State.methodFound?_of_named hnamed hy).symm.trans q2
  cases hnamed.symm.trans q3
  have hselP : selectMethod e.platform s.vm cellB.cls mk = .method mk := by rw [Launch.admits_selectMethod X.admits]; exact q4
  obtain ⟨vm₁, X₁, hstep₁⟩ := X.invokevirtual hexec hown hlink hnamed hmethM hstM hkP hkPi hy (a := b) (cell := cellB) hcell
    (fun z h => by rw [h] at hobj; cases hobj) hselP hmethM habM hkP hkPi (g := g) hg (argsL := argsL) (rest := rest) (hlen _ hsigM) hstack hdg
  obtain ⟨v, B, X', hpost, hsteps⟩ := hK m meth c ⟨T.setVm vm₁, locs, cells, slots⟩ { g with stack := rest } (.invokevirtual index) mk (Value.ref b :: argsL).toArray X₁ hg hsize hdg hW (X₁.named hnamed) (hpre vm₁ X₁.warmed)
  exact ⟨v, vm₁, B, X₁.warmed, X', hpost, fun target h => hstep₁ _ fun acts => by rw [doInvoke_state]; exact hsteps.trans h⟩
abbrev vx_CVW (R : Room) (s : State) (args : Array Value) (own C : String) (index : Nat) (y : MethodName) (bytes : ByteArray) (maxL : Nat) (ret : Option FieldType) (hh : List (Nat × Nat × Nat × Nat)) (ws : List Cond) (rm : Room) (mc ms n : Nat) : Prop :=
  (rm.cells = mc ∧ rm.slots = ms ∧ rm.frames + 1 ≤ R.frames ∧ 8 + (maxL + 11) + rm.locals ≤ R.locals ∧ (∀ w ∈ ws, ∀ (a' : Array Value) (U : State), s.WarmedH U.vm → w.before a' U = true) ∧ Cond.codeWith y bytes maxL ret hh ∈ ws) ∧
  (Cond.codeWith y bytes maxL ret hh).before args s = true ∧ (Cond.initialized y.cls).before args s = true ∧ (y.cls ≠ "java/lang/invoke/MethodHandle" ∧ y.cls ≠ "java/lang/invoke/VarHandle") ∧
  (∀ sig, parseMethodDescriptor y.desc = some sig → n = sig.parameters.length) ∧ (Cond.methodLink own index y).before args s = true ∧ (Cond.instanceMethod y).before args s = true ∧ (Cond.selects C y y).before args s = true
theorem vx_cwVW {own C : String} {index maxL mc ms : Nat} {y : MethodName} {bytes : ByteArray} {ret : Option FieldType} {hh : List (Nat × Nat × Nat × Nat)} {Ts ws ws' : List Cond} {rm : Room} (n : Nat) (ht : ∀ w ∈ Ts, w.before args s = true) (hT : GoodIn Ts (wsV own index C y ws)) (hw : ws = Cond.codeWith y bytes maxL ret hh :: ws') (hrc : rm.cells = mc) (hrs : rm.slots = ms)
    (hd : y.cls = C ∧ y.cls ≠ "java/lang/invoke/MethodHandle" ∧ y.cls ≠ "java/lang/invoke/VarHandle" ∧ (parseMethodDescriptor y.desc).map (fun d => d.parameters.length) = some n) (hR : rm.frames + 1 ≤ R.frames ∧ 8 + (maxL + 11) + rm.locals ≤ R.locals) :
    vx_CVW R s args own C index y bytes maxL ret hh ws rm mc ms n := by
  obtain ⟨hC, hd⟩ := hd
  subst hC
  have ok : ∀ w ∈ wsV own index y.cls y ws, w.before args s = true := fun w h => ht w (hT w h).1
  have hG : GoodIn Ts ws := fun w h => hT w (by unfold wsV; exact List.mem_append_right _ h)
  have hc : Cond.codeWith y bytes maxL ret hh ∈ ws := by rw [hw]; exact List.mem_cons_self
  refine ⟨⟨hrc, hrs, hR.1, hR.2, pay_in ht hG, hc⟩, ht _ (hG _ hc).1, ok _ (by simp [wsV]), ⟨hd.1, hd.2.1⟩, fun sig h => ?_, ok _ (by simp [wsV]), ok _ (by simp [wsV]), ok _ (by simp [wsV])⟩
  have h2 := hd.2.2
  rw [h] at h2
  exact (Option.some.inj h2).symm
theorem vx_runVW {y : MethodName} {bytes cc : ByteArray} {maxL nL mc ms n index : Nat} {ret : Option FieldType} {hh : List (Nat × Nat × Nat × Nat)} {ws : List Cond} {rm : Room} {Pc : Array Value → State → Prop} {Qc : Array Value → State → Outcome → State → Prop} {free : Addr → Prop} {Ts : List Cond} {own C : String} {b : Addr} {As rest : List Value} {g : JFrame}
    (S : CallFix p m c cc nL s args Ts own) (hM : Met l y ws rm Pc Qc mc ms free) (cw : vx_CVW R s args own C index y bytes maxL ret hh ws rm mc ms n) (hp : PreV s H C b Pc As)
    (hg : g.method = m) (hn : As.length = n) (hsize : g.locals.size = nL) (hstack : g.stack = As.reverse ++ .ref b :: rest) (hW : 2 * g.monitorRoom + (rest.map fun v => v.category).sum ≤ 8) (hdg : decode cc g.pc = .ok (.invokevirtual index, 3)) (hf : cells + mc ≤ R.cells ∧ slots + ms ≤ R.slots) :
    va_Run p l e R s m args below meth c H locs cells slots mc ms g rest (Qc (Value.ref b :: As).toArray) free := by
  obtain ⟨⟨hrc, hrs, hfr, hlo, hws, hcw⟩, hcode, hini, hy, hlen, hl, hin, hse⟩ := cw
  have hK : Back l R p e below s args y 3 8 (PreOf R mc ms Pc) (PostOf Qc mc ms free) := va_backW (hh := hh) (bytes := bytes) (maxL := maxL) (ret := ret) hM hp.1 hrc hrs hfr hlo hws hcw (fun a' U hW => word_at hW (Or.inl (by first | rfl | simp [Cond.onTables, Cond.keeps, Cond.steady])) hini)
  obtain ⟨hx, hb, hml, ho, -⟩ := S
  obtain ⟨-, ⟨cellB, hcB, hoB, hclB⟩, hPc⟩ := hp
  intro T hT X
  obtain ⟨v, vm₁, ⟨U', l2, c2, s2⟩, hW₁, X', ⟨g', mk, t, L, e1, e2, hq, h1, hL, h2, h3⟩, st⟩ := vx_callVW X hx (C := C) (hh := hh) (bytes := bytes) (maxL := maxL) (ret := ret) ho hl hin hse hcode hy hK (by rw [hT]; exact hcB) hoB hclB hg (hsize.trans hml.symm) (argsL := As) (rest := rest) (fun sig h => hn.trans (hlen sig h)) hstack hW (by rw [hb]; exact hdg)
    (fun vm₁ hW₁ => ⟨hf.1, hf.2, hPc (T.setVm vm₁) hT hW₁⟩)
  dsimp only [Pt.U, Pt.locs, Pt.cells, Pt.slots] at X' e1 e2 h1 h2 h3 st
  subst h1; subst h2; subst h3
  exact ⟨v, (T.setVm vm₁).calling g' mk (Value.ref b :: As).toArray, t, U', L, hT, X', hL, e1, e2, hq, st⟩
section
variable {y : MethodName} {bytes cc : ByteArray} {maxL nL mc ms n index : Nat} {ret : Option FieldType} {ws : List Cond} {rm : Room} {Pc : Array Value → State → Prop} {Qc : Array Value → State → Outcome → State → Prop} {XC : String → State → State → Prop} {free : Addr → Prop} {Ts : List Cond} {own C : String} {b : Addr} {As rest : List Value} {g : JFrame}
theorem vx_runVX {hh : List (Nat × Nat × Nat × Nat)} (S : CallFix p m c cc nL s args Ts own) (hM : vx_Met l y ws rm Pc Qc XC mc ms free) (cw : vx_CVW R s args own C index y bytes maxL ret hh ws rm mc ms n) (hp : PreV s H C b Pc As)
    (hg : g.method = m) (hn : As.length = n) (hsize : g.locals.size = nL) (hstack : g.stack = As.reverse ++ .ref b :: rest) (hW : 2 * g.monitorRoom + (rest.map fun v => v.category).sum ≤ 8) (hdg : decode cc g.pc = .ok (.invokevirtual index, 3)) (hf : cells + mc ≤ R.cells ∧ slots + ms ≤ R.slots) :
    vx_Run p l e R s m args below meth c H locs cells slots mc ms g rest (Qc (Value.ref b :: As).toArray) XC free := by
  obtain ⟨⟨hrc, hrs, hfr, hlo, hws, hcw⟩, hcode, hini, hy, hlen, hl, hin, hse⟩ := cw
  have hK : vx_Back l R p e below s args y 3 8 (PreOf R mc ms Pc) (PostOf Qc mc ms free) (vx_Post XC mc ms free) := vx_backW (hh := hh) (bytes := bytes) (maxL := maxL) (ret := ret) hM hp.1 hrc hrs hfr hlo hws hcw (fun a' U hW => word_at hW (Or.inl (by first | rfl | simp [Cond.onTables, Cond.keeps, Cond.steady])) hini)
  obtain ⟨hx, hb, hml, ho, -⟩ := S
  obtain ⟨-, ⟨cellB, hcB, hoB, hclB⟩, hPc⟩ := hp
  intro T hT X
  rcases vx_callVX X hx (C := C) (hh := hh) (bytes := bytes) (maxL := maxL) (ret := ret) ho hl hin hse hcode hy hK (by rw [hT]; exact hcB) hoB hclB hg (hsize.trans hml.symm) (argsL := As) (rest := rest) (fun sig h => hn.trans (hlen sig h)) hstack hW (by rw [hb]; exact hdg)
    (fun vm₁ hW₁ => ⟨hf.1, hf.2, hPc (T.setVm vm₁) hT hW₁⟩) with ⟨v, vm₁, ⟨U', l2, c2, s2⟩, hW₁, X', ⟨g', mk, t, L, e1, e2, hq, h1, hL, h2, h3⟩, st⟩ | ⟨q, vm₁, ⟨U', l2, c2, s2⟩, hW₁, X', ⟨g', mk, t, L, E, ce, e1, e2, hq, hce, hcv, hcl, h1, hL, h2, h3⟩, st⟩
  · dsimp only [Pt.U, Pt.locs, Pt.cells, Pt.slots] at X' e1 e2 h1 h2 h3 st
    subst h1; subst h2; subst h3
    exact Or.inl ⟨v, (T.setVm vm₁).calling g' mk (Value.ref b :: As).toArray, t, U', L, hT, X', hL, e1, e2, hq, st⟩
  · dsimp only [Pt.U, Pt.locs, Pt.cells, Pt.slots] at X' e1 e2 h1 h2 h3 st hcl
    subst h1; subst h2; subst h3
    exact Or.inr ⟨q, (T.setVm vm₁).calling g' mk (Value.ref b :: As).toArray, t, U', L, E, ce, hT, X', hL, e1, e2, hq, hce, hcv, vx_cls hW₁ hcl, st⟩
theorem vx_runSX {hh : List (Nat × Nat × Nat × Nat)} (S : CallFix p m c cc nL s args Ts own) (hM : vx_Met l y ws rm Pc Qc XC mc ms free) (cw : vx_CSW R s args own index y bytes maxL ret hh ws rm mc ms n) (hp : PreS s H Pc As)
    (hg : g.method = m) (hn : As.length = n) (hsize : g.locals.size = nL) (hstack : g.stack = As.reverse ++ rest) (hW : 2 * g.monitorRoom + (rest.map fun v => v.category).sum ≤ 8) (hdg : decode cc g.pc = .ok (.invokestatic index, 3)) (hf : cells + mc ≤ R.cells ∧ slots + ms ≤ R.slots) :
    vx_Run p l e R s m args below meth c H locs cells slots mc ms g rest (Qc As.toArray) XC free := by
  obtain ⟨⟨hrc, hrs, hfr, hlo, hws, hcw⟩, hcode, hini, hy, hlen, hl, hstt⟩ := cw
  have hK : vx_Back l R p e below s args y 3 8 (PreOf R mc ms Pc) (PostOf Qc mc ms free) (vx_Post XC mc ms free) := vx_backW (hh := hh) (bytes := bytes) (maxL := maxL) (ret := ret) hM hp.1 hrc hrs hfr hlo hws hcw (fun a' U hW => word_at hW (Or.inl (by first | rfl | simp [Cond.onTables, Cond.keeps, Cond.steady])) hini)
  obtain ⟨hx, hb, hml, ho, -⟩ := S
  intro T hT X
  rcases vx_callSX X hx (hh := hh) (bytes := bytes) (maxL := maxL) (ret := ret) ho hl hstt hini hcode hy hK hg (hsize.trans hml.symm) (argsL := As) (rest := rest) (fun sig h => hn.trans (hlen sig h)) hstack hW (by rw [hb]; exact hdg)
    (fun vm₁ hW₁ => ⟨hf.1, hf.2, hp.2 (T.setVm vm₁) hT hW₁⟩) with ⟨v, vm₁, ⟨U', l2, c2, s2⟩, hW₁, X', ⟨g', mk, t, L, e1, e2, hq, h1, hL, h2, h3⟩, st⟩ | ⟨q, vm₁, ⟨U', l2, c2, s2⟩, hW₁, X', ⟨g', mk, t, L, E, ce, e1, e2, hq, hce, hcv, hcl, h1, hL, h2, h3⟩, st⟩
  · dsimp only [Pt.U, Pt.locs, Pt.cells, Pt.slots] at X' e1 e2 h1 h2 h3 st
    subst h1; subst h2; subst h3
    exact Or.inl ⟨v, (T.setVm vm₁).calling g' mk As.toArray, t, U', L, hT, X', hL, e1, e2, hq, st⟩
  · dsimp only [Pt.U, Pt.locs, Pt.cells, Pt.slots] at X' e1 e2 h1 h2 h3 st hcl
    subst h1; subst h2; subst h3
    exact Or.inr ⟨q, (T.setVm vm₁).calling g' mk As.toArray, t, U', L, E, ce, hT, X', hL, e1, e2, hq, hce, hcv, vx_cls hW₁ hcl, st⟩
end
end VXH
theorem vx_ofWH {l : Launch} {y : MethodName} {ws ws' : List Cond} {rm : Room} {Pc : Array Value → State → Prop} {Qc : Array Value → State → Outcome → State → Prop} {XC : String → State → State → Prop} {mc ms : Nat} {free : Addr → Prop} {cc : ByteArray} {maxL : Nat} {ret : Option FieldType} {hh : List (Nat × Nat × Nat × Nat)}
    (hy : plainName y.cls = true) (hw : ws = Cond.codeWith y cc maxL ret hh :: ws')
    (body : ∀ p e s m args below meth c s₁, BodyLoose p l y (headSpec ws rm) cc maxL ret e s m args below meth c s₁ → c.maxLocals = maxL → Pc args s →
      W p l e (headSpec ws rm).room s m args below meth c s.heap [] 0 0 (vx_MQ below Qc XC args s mc ms free) (entryFrame m args maxL)) : vx_Met l y ws rm Pc Qc XC mc ms free := by
  refine MetFree.of_bodyS (code := cc) (maxLocals := maxL) (ret := ret) hy ?_ ?_
  · intro args s m h hn
    obtain ⟨m9, meth, c, hn9, h1, h2, h3, h4, -, h5, h6, -⟩ := Cond.codeWith_spec (atoms_spec (ws := ws) h _ (by rw [hw]; exact List.mem_cons_self))
    cases hn.symm.trans hn9
    exact ⟨meth, c, h1, h2, h3, h4, h5, h6⟩
  · intro p e s m args below meth c s₁ B hml hP _
    have hh0 : s₁.heap = s.heap := by rw [B.state]; rfl
    obtain ⟨t, a1, o, b1, b2, b3⟩ := body p e s m args below meth c s₁ B hml hP s₁ hh0 (Stand.of_body B)
    exact ⟨t, o, a1, b1, b2, b3⟩
/-! ===== END ===== -/
end
section
-- ===== PART A: goes FIRST, ahead of the names: the tables' words, and 'selects' of the private methods out of them =====
/-- a private method of a class that the tables say can be made, by its rows of tables_1 -/
def lw_okq (q : MethodName × Nat) : Prop := (q.1.cls ≠ "java/lang/invoke/MethodHandle" ∧ q.1.cls ≠ "java/lang/invoke/VarHandle") ∧ Cond.instantiable q.1.cls q.2 ∈ tables_1 ∧ Cond.privateMethod q.1 ∈ tables_1 ∧ Cond.instanceMethod q.1 ∈ tables_1
theorem lw_p0 : lw_okq (⟨"LayeredActs", "keepAct", "(IZI)I"⟩, 7) := ⟨⟨by decide +kernel, by decide +kernel⟩, List.mem_of_getElem? (i := 21) (by decide +kernel), List.mem_of_getElem? (i := 222) (by decide +kernel), List.mem_of_getElem? (i := 223) (by decide +kernel)⟩
theorem lw_p1 : lw_okq (⟨"LayeredActs", "requireOperand", "(ZI)V"⟩, 7) := ⟨⟨by decide +kernel, by decide +kernel⟩, List.mem_of_getElem? (i := 21) (by decide +kernel), List.mem_of_getElem? (i := 226) (by decide +kernel), List.mem_of_getElem? (i := 227) (by decide +kernel)⟩
theorem lw_p2 : lw_okq (⟨"java/lang/Throwable", "fillInStackTrace", "(I)Ljava/lang/Throwable;"⟩, 6) := ⟨⟨by decide +kernel, by decide +kernel⟩, List.mem_of_getElem? (i := 272) (by decide +kernel), List.mem_of_getElem? (i := 270) (by decide +kernel), List.mem_of_getElem? (i := 271) (by decide +kernel)⟩
theorem lw_p3 : lw_okq (⟨"LayeredActs", "keep", "(LLayeredActs$Term;)I"⟩, 7) := ⟨⟨by decide +kernel, by decide +kernel⟩, List.mem_of_getElem? (i := 21) (by decide +kernel), List.mem_of_getElem? (i := 352) (by decide +kernel), List.mem_of_getElem? (i := 353) (by decide +kernel)⟩
theorem lw_p4 : lw_okq (⟨"LayeredActs", "termAt", "(I)LLayeredActs$Term;"⟩, 7) := ⟨⟨by decide +kernel, by decide +kernel⟩, List.mem_of_getElem? (i := 21) (by decide +kernel), List.mem_of_getElem? (i := 438) (by decide +kernel), List.mem_of_getElem? (i := 439) (by decide +kernel)⟩
theorem lw_p5 : lw_okq (⟨"LayeredActs", "keepNaming", "(IIII)I"⟩, 7) := ⟨⟨by decide +kernel, by decide +kernel⟩, List.mem_of_getElem? (i := 21) (by decide +kernel), List.mem_of_getElem? (i := 450) (by decide +kernel), List.mem_of_getElem? (i := 451) (by decide +kernel)⟩
theorem lw_p6 : lw_okq (⟨"LayeredActs", "requireLayers", "(I)V"⟩, 7) := ⟨⟨by decide +kernel, by decide +kernel⟩, List.mem_of_getElem? (i := 21) (by decide +kernel), List.mem_of_getElem? (i := 519) (by decide +kernel), List.mem_of_getElem? (i := 520) (by decide +kernel)⟩
theorem lw_p7 : lw_okq (⟨"LayeredActs$Machine", "clear", "()V"⟩, 9) := ⟨⟨by decide +kernel, by decide +kernel⟩, List.mem_of_getElem? (i := 31) (by decide +kernel), List.mem_of_getElem? (i := 543) (by decide +kernel), List.mem_of_getElem? (i := 544) (by decide +kernel)⟩
theorem lw_p8 : lw_okq (⟨"LayeredActs$Machine", "perform", "(LLayeredActs$Term;)I"⟩, 9) := ⟨⟨by decide +kernel, by decide +kernel⟩, List.mem_of_getElem? (i := 31) (by decide +kernel), List.mem_of_getElem? (i := 555) (by decide +kernel), List.mem_of_getElem? (i := 556) (by decide +kernel)⟩
theorem lw_p9 : lw_okq (⟨"LayeredActs$Machine", "operandOf", "(LLayeredActs$Term;)I"⟩, 9) := ⟨⟨by decide +kernel, by decide +kernel⟩, List.mem_of_getElem? (i := 31) (by decide +kernel), List.mem_of_getElem? (i := 559) (by decide +kernel), List.mem_of_getElem? (i := 560) (by decide +kernel)⟩
theorem lw_p10 : lw_okq (⟨"LayeredActs$Machine", "numberOf", "(I)I"⟩, 9) := ⟨⟨by decide +kernel, by decide +kernel⟩, List.mem_of_getElem? (i := 31) (by decide +kernel), List.mem_of_getElem? (i := 563) (by decide +kernel), List.mem_of_getElem? (i := 564) (by decide +kernel)⟩
theorem lw_p11 : lw_okq (⟨"LayeredActs$Machine", "answer", "(I)I"⟩, 9) := ⟨⟨by decide +kernel, by decide +kernel⟩, List.mem_of_getElem? (i := 31) (by decide +kernel), List.mem_of_getElem? (i := 567) (by decide +kernel), List.mem_of_getElem? (i := 568) (by decide +kernel)⟩
theorem lw_p12 : lw_okq (⟨"LayeredActs$Machine", "performWrite", "(I)I"⟩, 9) := ⟨⟨by decide +kernel, by decide +kernel⟩, List.mem_of_getElem? (i := 31) (by decide +kernel), List.mem_of_getElem? (i := 575) (by decide +kernel), List.mem_of_getElem? (i := 576) (by decide +kernel)⟩
theorem lw_p13 : lw_okq (⟨"LayeredActs$Machine", "performSay", "(I)I"⟩, 9) := ⟨⟨by decide +kernel, by decide +kernel⟩, List.mem_of_getElem? (i := 31) (by decide +kernel), List.mem_of_getElem? (i := 579) (by decide +kernel), List.mem_of_getElem? (i := 580) (by decide +kernel)⟩
theorem lw_p14 : lw_okq (⟨"LayeredActs$Logs", "has", "(I)Z"⟩, 4) := ⟨⟨by decide +kernel, by decide +kernel⟩, List.mem_of_getElem? (i := 61) (by decide +kernel), List.mem_of_getElem? (i := 591) (by decide +kernel), List.mem_of_getElem? (i := 592) (by decide +kernel)⟩
theorem lw_p15 : lw_okq (⟨"LayeredActs$Machine", "performFail", "(I)I"⟩, 9) := ⟨⟨by decide +kernel, by decide +kernel⟩, List.mem_of_getElem? (i := 31) (by decide +kernel), List.mem_of_getElem? (i := 595) (by decide +kernel), List.mem_of_getElem? (i := 596) (by decide +kernel)⟩
def lw_privs_1 : List (MethodName × Nat) := [(⟨"LayeredActs", "keepAct", "(IZI)I"⟩, 7), (⟨"LayeredActs", "requireOperand", "(ZI)V"⟩, 7), (⟨"java/lang/Throwable", "fillInStackTrace", "(I)Ljava/lang/Throwable;"⟩, 6), (⟨"LayeredActs", "keep", "(LLayeredActs$Term;)I"⟩, 7), (⟨"LayeredActs", "termAt", "(I)LLayeredActs$Term;"⟩, 7), (⟨"LayeredActs", "keepNaming", "(IIII)I"⟩, 7), (⟨"LayeredActs", "requireLayers", "(I)V"⟩, 7), (⟨"LayeredActs$Machine", "clear", "()V"⟩, 9), (⟨"LayeredActs$Machine", "perform", "(LLayeredActs$Term;)I"⟩, 9), (⟨"LayeredActs$Machine", "operandOf", "(LLayeredActs$Term;)I"⟩, 9), (⟨"LayeredActs$Machine", "numberOf", "(I)I"⟩, 9), (⟨"LayeredActs$Machine", "answer", "(I)I"⟩, 9), (⟨"LayeredActs$Machine", "performWrite", "(I)I"⟩, 9), (⟨"LayeredActs$Machine", "performSay", "(I)I"⟩, 9), (⟨"LayeredActs$Logs", "has", "(I)Z"⟩, 4), (⟨"LayeredActs$Machine", "performFail", "(I)I"⟩, 9)]
theorem lw_r1 : ∀ q ∈ lw_privs_1, lw_okq q := List.forall_mem_cons.mpr ⟨lw_p0, List.forall_mem_cons.mpr ⟨lw_p1, List.forall_mem_cons.mpr ⟨lw_p2, List.forall_mem_cons.mpr ⟨lw_p3, List.forall_mem_cons.mpr ⟨lw_p4, List.forall_mem_cons.mpr ⟨lw_p5, List.forall_mem_cons.mpr ⟨lw_p6, List.forall_mem_cons.mpr ⟨lw_p7, List.forall_mem_cons.mpr ⟨lw_p8, List.forall_mem_cons.mpr ⟨lw_p9, List.forall_mem_cons.mpr ⟨lw_p10, List.forall_mem_cons.mpr ⟨lw_p11, List.forall_mem_cons.mpr ⟨lw_p12, List.forall_mem_cons.mpr ⟨lw_p13, List.forall_mem_cons.mpr ⟨lw_p14, List.forall_mem_cons.mpr ⟨lw_p15, fun _ h => absurd h List.not_mem_nil⟩⟩⟩⟩⟩⟩⟩⟩⟩⟩⟩⟩⟩⟩⟩⟩
theorem lw_p16 : lw_okq (⟨"LayeredActs$Machine", "performEither", "(LLayeredActs$Term;)I"⟩, 9) := ⟨⟨by decide +kernel, by decide +kernel⟩, List.mem_of_getElem? (i := 31) (by decide +kernel), List.mem_of_getElem? (i := 599) (by decide +kernel), List.mem_of_getElem? (i := 600) (by decide +kernel)⟩
theorem lw_p17 : lw_okq (⟨"LayeredActs$Machine", "takeOwn", "(II)V"⟩, 9) := ⟨⟨by decide +kernel, by decide +kernel⟩, List.mem_of_getElem? (i := 31) (by decide +kernel), List.mem_of_getElem? (i := 607) (by decide +kernel), List.mem_of_getElem? (i := 608) (by decide +kernel)⟩
theorem lw_p18 : lw_okq (⟨"LayeredActs$Machine", "isTooMany", "(I)Z"⟩, 9) := ⟨⟨by decide +kernel, by decide +kernel⟩, List.mem_of_getElem? (i := 31) (by decide +kernel), List.mem_of_getElem? (i := 611) (by decide +kernel), List.mem_of_getElem? (i := 612) (by decide +kernel)⟩
theorem lw_p19 : lw_okq (⟨"LayeredActs$Machine", "performThen", "(LLayeredActs$Term;)I"⟩, 9) := ⟨⟨by decide +kernel, by decide +kernel⟩, List.mem_of_getElem? (i := 31) (by decide +kernel), List.mem_of_getElem? (i := 615) (by decide +kernel), List.mem_of_getElem? (i := 616) (by decide +kernel)⟩
theorem lw_p20 : lw_okq (⟨"LayeredActs$Machine", "performEach", "(IZILLayeredActs$Term;)I"⟩, 9) := ⟨⟨by decide +kernel, by decide +kernel⟩, List.mem_of_getElem? (i := 31) (by decide +kernel), List.mem_of_getElem? (i := 619) (by decide +kernel), List.mem_of_getElem? (i := 620) (by decide +kernel)⟩
theorem lw_p21 : lw_okq (⟨"LayeredActs$Results", "has", "(I)Z"⟩, 5) := ⟨⟨by decide +kernel, by decide +kernel⟩, List.mem_of_getElem? (i := 37) (by decide +kernel), List.mem_of_getElem? (i := 627) (by decide +kernel), List.mem_of_getElem? (i := 628) (by decide +kernel)⟩
theorem lw_p22 : lw_okq (⟨"LayeredActs$Machine", "performNaming", "(IILLayeredActs$Term;)I"⟩, 9) := ⟨⟨by decide +kernel, by decide +kernel⟩, List.mem_of_getElem? (i := 31) (by decide +kernel), List.mem_of_getElem? (i := 643) (by decide +kernel), List.mem_of_getElem? (i := 644) (by decide +kernel)⟩
theorem lw_p23 : lw_okq (⟨"LayeredActs$Machine", "performSaved", "(LLayeredActs$Term;)I"⟩, 9) := ⟨⟨by decide +kernel, by decide +kernel⟩, List.mem_of_getElem? (i := 31) (by decide +kernel), List.mem_of_getElem? (i := 665) (by decide +kernel), List.mem_of_getElem? (i := 666) (by decide +kernel)⟩
theorem lw_p24 : lw_okq (⟨"LayeredActs$Machine", "performTimes", "(LLayeredActs$Term;)I"⟩, 9) := ⟨⟨by decide +kernel, by decide +kernel⟩, List.mem_of_getElem? (i := 31) (by decide +kernel), List.mem_of_getElem? (i := 677) (by decide +kernel), List.mem_of_getElem? (i := 678) (by decide +kernel)⟩
theorem lw_p25 : lw_okq (⟨"LayeredActs$Machine", "performOnce", "(LLayeredActs$Term;)I"⟩, 9) := ⟨⟨by decide +kernel, by decide +kernel⟩, List.mem_of_getElem? (i := 31) (by decide +kernel), List.mem_of_getElem? (i := 683) (by decide +kernel), List.mem_of_getElem? (i := 684) (by decide +kernel)⟩
theorem lw_p26 : lw_okq (⟨"LayeredActs$Machine", "performHeard", "(LLayeredActs$Term;)I"⟩, 9) := ⟨⟨by decide +kernel, by decide +kernel⟩, List.mem_of_getElem? (i := 31) (by decide +kernel), List.mem_of_getElem? (i := 687) (by decide +kernel), List.mem_of_getElem? (i := 688) (by decide +kernel)⟩
theorem lw_p27 : lw_okq (⟨"LayeredActs$Machine", "performHidden", "(LLayeredActs$Term;)I"⟩, 9) := ⟨⟨by decide +kernel, by decide +kernel⟩, List.mem_of_getElem? (i := 31) (by decide +kernel), List.mem_of_getElem? (i := 696) (by decide +kernel), List.mem_of_getElem? (i := 697) (by decide +kernel)⟩
theorem lw_p28 : lw_okq (⟨"LayeredActs$Machine", "tell", "(LLayeredActs$Outcome;)V"⟩, 9) := ⟨⟨by decide +kernel, by decide +kernel⟩, List.mem_of_getElem? (i := 31) (by decide +kernel), List.mem_of_getElem? (i := 703) (by decide +kernel), List.mem_of_getElem? (i := 704) (by decide +kernel)⟩
theorem lw_p29 : lw_okq (⟨"LayeredActs$Machine", "tellCommon", "(LLayeredActs$Row;Z)V"⟩, 9) := ⟨⟨by decide +kernel, by decide +kernel⟩, List.mem_of_getElem? (i := 31) (by decide +kernel), List.mem_of_getElem? (i := 707) (by decide +kernel), List.mem_of_getElem? (i := 708) (by decide +kernel)⟩
theorem lw_p30 : lw_okq (⟨"LayeredActs$Machine", "tellResult", "(LLayeredActs$Row;I)V"⟩, 9) := ⟨⟨by decide +kernel, by decide +kernel⟩, List.mem_of_getElem? (i := 31) (by decide +kernel), List.mem_of_getElem? (i := 733) (by decide +kernel), List.mem_of_getElem? (i := 734) (by decide +kernel)⟩
theorem lw_p31 : lw_okq (⟨"LayeredActsModel", "operand", "(IZII)I"⟩, 54) := ⟨⟨by decide +kernel, by decide +kernel⟩, List.mem_of_getElem? (i := 791) (by decide +kernel), List.mem_of_getElem? (i := 964) (by decide +kernel), List.mem_of_getElem? (i := 965) (by decide +kernel)⟩
def lw_privs_2 : List (MethodName × Nat) := [(⟨"LayeredActs$Machine", "performEither", "(LLayeredActs$Term;)I"⟩, 9), (⟨"LayeredActs$Machine", "takeOwn", "(II)V"⟩, 9), (⟨"LayeredActs$Machine", "isTooMany", "(I)Z"⟩, 9), (⟨"LayeredActs$Machine", "performThen", "(LLayeredActs$Term;)I"⟩, 9), (⟨"LayeredActs$Machine", "performEach", "(IZILLayeredActs$Term;)I"⟩, 9), (⟨"LayeredActs$Results", "has", "(I)Z"⟩, 5), (⟨"LayeredActs$Machine", "performNaming", "(IILLayeredActs$Term;)I"⟩, 9), (⟨"LayeredActs$Machine", "performSaved", "(LLayeredActs$Term;)I"⟩, 9), (⟨"LayeredActs$Machine", "performTimes", "(LLayeredActs$Term;)I"⟩, 9), (⟨"LayeredActs$Machine", "performOnce", "(LLayeredActs$Term;)I"⟩, 9), (⟨"LayeredActs$Machine", "performHeard", "(LLayeredActs$Term;)I"⟩, 9), (⟨"LayeredActs$Machine", "performHidden", "(LLayeredActs$Term;)I"⟩, 9), (⟨"LayeredActs$Machine", "tell", "(LLayeredActs$Outcome;)V"⟩, 9), (⟨"LayeredActs$Machine", "tellCommon", "(LLayeredActs$Row;Z)V"⟩, 9), (⟨"LayeredActs$Machine", "tellResult", "(LLayeredActs$Row;I)V"⟩, 9), (⟨"LayeredActsModel", "operand", "(IZII)I"⟩, 54)]
theorem lw_r2 : ∀ q ∈ lw_privs_2, lw_okq q := List.forall_mem_cons.mpr ⟨lw_p16, List.forall_mem_cons.mpr ⟨lw_p17, List.forall_mem_cons.mpr ⟨lw_p18, List.forall_mem_cons.mpr ⟨lw_p19, List.forall_mem_cons.mpr ⟨lw_p20, List.forall_mem_cons.mpr ⟨lw_p21, List.forall_mem_cons.mpr ⟨lw_p22, List.forall_mem_cons.mpr ⟨lw_p23, List.forall_mem_cons.mpr ⟨lw_p24, List.forall_mem_cons.mpr ⟨lw_p25, List.forall_mem_cons.mpr ⟨lw_p26, List.forall_mem_cons.mpr ⟨lw_p27, List.forall_mem_cons.mpr ⟨lw_p28, List.forall_mem_cons.mpr ⟨lw_p29, List.forall_mem_cons.mpr ⟨lw_p30, List.forall_mem_cons.mpr ⟨lw_p31, fun _ h => absurd h List.not_mem_nil⟩⟩⟩⟩⟩⟩⟩⟩⟩⟩⟩⟩⟩⟩⟩⟩
theorem lw_p32 : lw_okq (⟨"LayeredActsModel", "refuse", "(I)I"⟩, 54) := ⟨⟨by decide +kernel, by decide +kernel⟩, List.mem_of_getElem? (i := 791) (by decide +kernel), List.mem_of_getElem? (i := 971) (by decide +kernel), List.mem_of_getElem? (i := 972) (by decide +kernel)⟩
theorem lw_p33 : lw_okq (⟨"LayeredActsModel", "made", "(IIIIZI)I"⟩, 54) := ⟨⟨by decide +kernel, by decide +kernel⟩, List.mem_of_getElem? (i := 791) (by decide +kernel), List.mem_of_getElem? (i := 975) (by decide +kernel), List.mem_of_getElem? (i := 976) (by decide +kernel)⟩
theorem lw_p34 : lw_okq (⟨"LayeredActsModel", "above", "(II)I"⟩, 54) := ⟨⟨by decide +kernel, by decide +kernel⟩, List.mem_of_getElem? (i := 791) (by decide +kernel), List.mem_of_getElem? (i := 979) (by decide +kernel), List.mem_of_getElem? (i := 980) (by decide +kernel)⟩
theorem lw_p35 : lw_okq (⟨"LayeredActsModel", "isTerm", "(I)Z"⟩, 54) := ⟨⟨by decide +kernel, by decide +kernel⟩, List.mem_of_getElem? (i := 791) (by decide +kernel), List.mem_of_getElem? (i := 1011) (by decide +kernel), List.mem_of_getElem? (i := 1012) (by decide +kernel)⟩
theorem lw_p36 : lw_okq (⟨"LayeredActsModel", "isFull", "(II)Z"⟩, 54) := ⟨⟨by decide +kernel, by decide +kernel⟩, List.mem_of_getElem? (i := 791) (by decide +kernel), List.mem_of_getElem? (i := 1015) (by decide +kernel), List.mem_of_getElem? (i := 1016) (by decide +kernel)⟩
theorem lw_p37 : lw_okq (⟨"LayeredActsModel", "three", "(IIIII)I"⟩, 54) := ⟨⟨by decide +kernel, by decide +kernel⟩, List.mem_of_getElem? (i := 791) (by decide +kernel), List.mem_of_getElem? (i := 1023) (by decide +kernel), List.mem_of_getElem? (i := 1024) (by decide +kernel)⟩
theorem lw_p38 : lw_okq (⟨"LayeredActsModel", "lacks", "(I)Z"⟩, 54) := ⟨⟨by decide +kernel, by decide +kernel⟩, List.mem_of_getElem? (i := 791) (by decide +kernel), List.mem_of_getElem? (i := 1059) (by decide +kernel), List.mem_of_getElem? (i := 1060) (by decide +kernel)⟩
theorem lw_p39 : lw_okq (⟨"LayeredActsModel", "has", "(I)Z"⟩, 54) := ⟨⟨by decide +kernel, by decide +kernel⟩, List.mem_of_getElem? (i := 791) (by decide +kernel), List.mem_of_getElem? (i := 1063) (by decide +kernel), List.mem_of_getElem? (i := 1064) (by decide +kernel)⟩
theorem lw_p40 : lw_okq (⟨"LayeredActsModel", "doIt", "(III)V"⟩, 54) := ⟨⟨by decide +kernel, by decide +kernel⟩, List.mem_of_getElem? (i := 791) (by decide +kernel), List.mem_of_getElem? (i := 1067) (by decide +kernel), List.mem_of_getElem? (i := 1068) (by decide +kernel)⟩
theorem lw_p41 : lw_okq (⟨"LayeredActsModel", "push", "(IIIIII)V"⟩, 54) := ⟨⟨by decide +kernel, by decide +kernel⟩, List.mem_of_getElem? (i := 791) (by decide +kernel), List.mem_of_getElem? (i := 1071) (by decide +kernel), List.mem_of_getElem? (i := 1072) (by decide +kernel)⟩
theorem lw_p42 : lw_okq (⟨"LayeredActsModel", "go", "()V"⟩, 54) := ⟨⟨by decide +kernel, by decide +kernel⟩, List.mem_of_getElem? (i := 791) (by decide +kernel), List.mem_of_getElem? (i := 1075) (by decide +kernel), List.mem_of_getElem? (i := 1076) (by decide +kernel)⟩
theorem lw_p43 : lw_okq (⟨"LayeredActsModel", "leaf", "(I)V"⟩, 54) := ⟨⟨by decide +kernel, by decide +kernel⟩, List.mem_of_getElem? (i := 791) (by decide +kernel), List.mem_of_getElem? (i := 1079) (by decide +kernel), List.mem_of_getElem? (i := 1080) (by decide +kernel)⟩
theorem lw_p44 : lw_okq (⟨"LayeredActsModel", "value", "(IIZ)I"⟩, 54) := ⟨⟨by decide +kernel, by decide +kernel⟩, List.mem_of_getElem? (i := 791) (by decide +kernel), List.mem_of_getElem? (i := 1083) (by decide +kernel), List.mem_of_getElem? (i := 1084) (by decide +kernel)⟩
theorem lw_p45 : lw_okq (⟨"LayeredActsModel", "isOwn", "(I)Z"⟩, 54) := ⟨⟨by decide +kernel, by decide +kernel⟩, List.mem_of_getElem? (i := 791) (by decide +kernel), List.mem_of_getElem? (i := 1090) (by decide +kernel), List.mem_of_getElem? (i := 1091) (by decide +kernel)⟩
theorem lw_p46 : lw_okq (⟨"LayeredActsModel", "longer", "(II)I"⟩, 54) := ⟨⟨by decide +kernel, by decide +kernel⟩, List.mem_of_getElem? (i := 791) (by decide +kernel), List.mem_of_getElem? (i := 1094) (by decide +kernel), List.mem_of_getElem? (i := 1095) (by decide +kernel)⟩
theorem lw_p47 : lw_okq (⟨"LayeredActsModel", "isShared", "(I)Z"⟩, 54) := ⟨⟨by decide +kernel, by decide +kernel⟩, List.mem_of_getElem? (i := 791) (by decide +kernel), List.mem_of_getElem? (i := 1098) (by decide +kernel), List.mem_of_getElem? (i := 1099) (by decide +kernel)⟩
def lw_privs_3 : List (MethodName × Nat) := [(⟨"LayeredActsModel", "refuse", "(I)I"⟩, 54), (⟨"LayeredActsModel", "made", "(IIIIZI)I"⟩, 54), (⟨"LayeredActsModel", "above", "(II)I"⟩, 54), (⟨"LayeredActsModel", "isTerm", "(I)Z"⟩, 54), (⟨"LayeredActsModel", "isFull", "(II)Z"⟩, 54), (⟨"LayeredActsModel", "three", "(IIIII)I"⟩, 54), (⟨"LayeredActsModel", "lacks", "(I)Z"⟩, 54), (⟨"LayeredActsModel", "has", "(I)Z"⟩, 54), (⟨"LayeredActsModel", "doIt", "(III)V"⟩, 54), (⟨"LayeredActsModel", "push", "(IIIIII)V"⟩, 54), (⟨"LayeredActsModel", "go", "()V"⟩, 54), (⟨"LayeredActsModel", "leaf", "(I)V"⟩, 54), (⟨"LayeredActsModel", "value", "(IIZ)I"⟩, 54), (⟨"LayeredActsModel", "isOwn", "(I)Z"⟩, 54), (⟨"LayeredActsModel", "longer", "(II)I"⟩, 54), (⟨"LayeredActsModel", "isShared", "(I)Z"⟩, 54)]
theorem lw_r3 : ∀ q ∈ lw_privs_3, lw_okq q := List.forall_mem_cons.mpr ⟨lw_p32, List.forall_mem_cons.mpr ⟨lw_p33, List.forall_mem_cons.mpr ⟨lw_p34, List.forall_mem_cons.mpr ⟨lw_p35, List.forall_mem_cons.mpr ⟨lw_p36, List.forall_mem_cons.mpr ⟨lw_p37, List.forall_mem_cons.mpr ⟨lw_p38, List.forall_mem_cons.mpr ⟨lw_p39, List.forall_mem_cons.mpr ⟨lw_p40, List.forall_mem_cons.mpr ⟨lw_p41, List.forall_mem_cons.mpr ⟨lw_p42, List.forall_mem_cons.mpr ⟨lw_p43, List.forall_mem_cons.mpr ⟨lw_p44, List.forall_mem_cons.mpr ⟨lw_p45, List.forall_mem_cons.mpr ⟨lw_p46, List.forall_mem_cons.mpr ⟨lw_p47, fun _ h => absurd h List.not_mem_nil⟩⟩⟩⟩⟩⟩⟩⟩⟩⟩⟩⟩⟩⟩⟩⟩
theorem lw_p48 : lw_okq (⟨"LayeredActsModel", "unwind", "(I)V"⟩, 54) := ⟨⟨by decide +kernel, by decide +kernel⟩, List.mem_of_getElem? (i := 791) (by decide +kernel), List.mem_of_getElem? (i := 1102) (by decide +kernel), List.mem_of_getElem? (i := 1103) (by decide +kernel)⟩
theorem lw_p49 : lw_okq (⟨"LayeredActsModel", "isOutside", "(I)Z"⟩, 54) := ⟨⟨by decide +kernel, by decide +kernel⟩, List.mem_of_getElem? (i := 791) (by decide +kernel), List.mem_of_getElem? (i := 1106) (by decide +kernel), List.mem_of_getElem? (i := 1107) (by decide +kernel)⟩
theorem lw_p50 : lw_okq (⟨"LayeredActsModel", "tell", "(IZIII)V"⟩, 54) := ⟨⟨by decide +kernel, by decide +kernel⟩, List.mem_of_getElem? (i := 791) (by decide +kernel), List.mem_of_getElem? (i := 1110) (by decide +kernel), List.mem_of_getElem? (i := 1111) (by decide +kernel)⟩
theorem lw_p51 : lw_okq (⟨"LayeredActsModel", "row", "(II)I"⟩, 54) := ⟨⟨by decide +kernel, by decide +kernel⟩, List.mem_of_getElem? (i := 791) (by decide +kernel), List.mem_of_getElem? (i := 1114) (by decide +kernel), List.mem_of_getElem? (i := 1115) (by decide +kernel)⟩
theorem lw_p52 : lw_okq (⟨"LayeredActsModel", "either", "(I)V"⟩, 54) := ⟨⟨by decide +kernel, by decide +kernel⟩, List.mem_of_getElem? (i := 791) (by decide +kernel), List.mem_of_getElem? (i := 1118) (by decide +kernel), List.mem_of_getElem? (i := 1119) (by decide +kernel)⟩
theorem lw_p53 : lw_okq (⟨"LayeredActsModel", "gather", "(I)V"⟩, 54) := ⟨⟨by decide +kernel, by decide +kernel⟩, List.mem_of_getElem? (i := 791) (by decide +kernel), List.mem_of_getElem? (i := 1122) (by decide +kernel), List.mem_of_getElem? (i := 1123) (by decide +kernel)⟩
theorem lw_p54 : lw_okq (⟨"LayeredActsModel", "finish", "()V"⟩, 54) := ⟨⟨by decide +kernel, by decide +kernel⟩, List.mem_of_getElem? (i := 791) (by decide +kernel), List.mem_of_getElem? (i := 1126) (by decide +kernel), List.mem_of_getElem? (i := 1127) (by decide +kernel)⟩
theorem lw_p55 : lw_okq (⟨"LayeredActsModel", "along", "(I)V"⟩, 54) := ⟨⟨by decide +kernel, by decide +kernel⟩, List.mem_of_getElem? (i := 791) (by decide +kernel), List.mem_of_getElem? (i := 1130) (by decide +kernel), List.mem_of_getElem? (i := 1131) (by decide +kernel)⟩
theorem lw_p56 : lw_okq (⟨"LayeredActsModel", "gatherNext", "(I)V"⟩, 54) := ⟨⟨by decide +kernel, by decide +kernel⟩, List.mem_of_getElem? (i := 791) (by decide +kernel), List.mem_of_getElem? (i := 1134) (by decide +kernel), List.mem_of_getElem? (i := 1135) (by decide +kernel)⟩
theorem lw_p57 : lw_okq (⟨"LayeredActsModel", "turn", "(I)V"⟩, 54) := ⟨⟨by decide +kernel, by decide +kernel⟩, List.mem_of_getElem? (i := 791) (by decide +kernel), List.mem_of_getElem? (i := 1138) (by decide +kernel), List.mem_of_getElem? (i := 1139) (by decide +kernel)⟩
theorem lw_p58 : lw_okq (⟨"LayeredActsModel", "choose", "(I)V"⟩, 54) := ⟨⟨by decide +kernel, by decide +kernel⟩, List.mem_of_getElem? (i := 791) (by decide +kernel), List.mem_of_getElem? (i := 1142) (by decide +kernel), List.mem_of_getElem? (i := 1143) (by decide +kernel)⟩
theorem lw_p59 : lw_okq (⟨"LayeredActsModel", "again", "(I)V"⟩, 54) := ⟨⟨by decide +kernel, by decide +kernel⟩, List.mem_of_getElem? (i := 791) (by decide +kernel), List.mem_of_getElem? (i := 1146) (by decide +kernel), List.mem_of_getElem? (i := 1147) (by decide +kernel)⟩
theorem lw_p60 : lw_okq (⟨"LayeredActsModel", "within", "(I)V"⟩, 54) := ⟨⟨by decide +kernel, by decide +kernel⟩, List.mem_of_getElem? (i := 791) (by decide +kernel), List.mem_of_getElem? (i := 1150) (by decide +kernel), List.mem_of_getElem? (i := 1151) (by decide +kernel)⟩
theorem lw_p61 : lw_okq (⟨"LayeredActsModel", "keep", "(I)V"⟩, 54) := ⟨⟨by decide +kernel, by decide +kernel⟩, List.mem_of_getElem? (i := 791) (by decide +kernel), List.mem_of_getElem? (i := 1154) (by decide +kernel), List.mem_of_getElem? (i := 1155) (by decide +kernel)⟩
theorem lw_p62 : lw_okq (⟨"LayeredActsModel", "writeLog", "(I[II)V"⟩, 54) := ⟨⟨by decide +kernel, by decide +kernel⟩, List.mem_of_getElem? (i := 791) (by decide +kernel), List.mem_of_getElem? (i := 1158) (by decide +kernel), List.mem_of_getElem? (i := 1159) (by decide +kernel)⟩
theorem lw_p63 : lw_okq (⟨"LayeredActsModel", "lay", "()V"⟩, 54) := ⟨⟨by decide +kernel, by decide +kernel⟩, List.mem_of_getElem? (i := 791) (by decide +kernel), List.mem_of_getElem? (i := 1174) (by decide +kernel), List.mem_of_getElem? (i := 1175) (by decide +kernel)⟩
def lw_privs_4 : List (MethodName × Nat) := [(⟨"LayeredActsModel", "unwind", "(I)V"⟩, 54), (⟨"LayeredActsModel", "isOutside", "(I)Z"⟩, 54), (⟨"LayeredActsModel", "tell", "(IZIII)V"⟩, 54), (⟨"LayeredActsModel", "row", "(II)I"⟩, 54), (⟨"LayeredActsModel", "either", "(I)V"⟩, 54), (⟨"LayeredActsModel", "gather", "(I)V"⟩, 54), (⟨"LayeredActsModel", "finish", "()V"⟩, 54), (⟨"LayeredActsModel", "along", "(I)V"⟩, 54), (⟨"LayeredActsModel", "gatherNext", "(I)V"⟩, 54), (⟨"LayeredActsModel", "turn", "(I)V"⟩, 54), (⟨"LayeredActsModel", "choose", "(I)V"⟩, 54), (⟨"LayeredActsModel", "again", "(I)V"⟩, 54), (⟨"LayeredActsModel", "within", "(I)V"⟩, 54), (⟨"LayeredActsModel", "keep", "(I)V"⟩, 54), (⟨"LayeredActsModel", "writeLog", "(I[II)V"⟩, 54), (⟨"LayeredActsModel", "lay", "()V"⟩, 54)]
theorem lw_r4 : ∀ q ∈ lw_privs_4, lw_okq q := List.forall_mem_cons.mpr ⟨lw_p48, List.forall_mem_cons.mpr ⟨lw_p49, List.forall_mem_cons.mpr ⟨lw_p50, List.forall_mem_cons.mpr ⟨lw_p51, List.forall_mem_cons.mpr ⟨lw_p52, List.forall_mem_cons.mpr ⟨lw_p53, List.forall_mem_cons.mpr ⟨lw_p54, List.forall_mem_cons.mpr ⟨lw_p55, List.forall_mem_cons.mpr ⟨lw_p56, List.forall_mem_cons.mpr ⟨lw_p57, List.forall_mem_cons.mpr ⟨lw_p58, List.forall_mem_cons.mpr ⟨lw_p59, List.forall_mem_cons.mpr ⟨lw_p60, List.forall_mem_cons.mpr ⟨lw_p61, List.forall_mem_cons.mpr ⟨lw_p62, List.forall_mem_cons.mpr ⟨lw_p63, fun _ h => absurd h List.not_mem_nil⟩⟩⟩⟩⟩⟩⟩⟩⟩⟩⟩⟩⟩⟩⟩⟩
theorem lw_p64 : lw_okq (⟨"LayeredActsModel", "isAsLaid", "()Z"⟩, 54) := ⟨⟨by decide +kernel, by decide +kernel⟩, List.mem_of_getElem? (i := 791) (by decide +kernel), List.mem_of_getElem? (i := 1178) (by decide +kernel), List.mem_of_getElem? (i := 1179) (by decide +kernel)⟩
def lw_privs_5 : List (MethodName × Nat) := [(⟨"LayeredActsModel", "isAsLaid", "()Z"⟩, 54)]
theorem lw_r5 : ∀ q ∈ lw_privs_5, lw_okq q := List.forall_mem_cons.mpr ⟨lw_p64, fun _ h => absurd h List.not_mem_nil⟩
def lw_privs : List (MethodName × Nat) := lw_privs_1 ++ (lw_privs_2 ++ (lw_privs_3 ++ (lw_privs_4 ++ (lw_privs_5))))
def lw_tbl : List Cond := k2_sels lw_privs ++ tables_1
theorem lw_privs_ok : ∀ q ∈ lw_privs, lw_okq q := by
  show ∀ q ∈ lw_privs_1 ++ (lw_privs_2 ++ (lw_privs_3 ++ (lw_privs_4 ++ (lw_privs_5)))), lw_okq q
  exact List.forall_mem_append.mpr ⟨lw_r1, List.forall_mem_append.mpr ⟨lw_r2, List.forall_mem_append.mpr ⟨lw_r3, List.forall_mem_append.mpr ⟨lw_r4, lw_r5⟩⟩⟩⟩
end
section
def RX0 : String := "LayeredActs$Kind"
def TX0 : u_T := fun k => match k with
  | _ => ("", "", "", false)
def tyX0 : Nat → FieldType := fun k => match k with
  | _ => .int
abbrev wsX00 : List Cond := u_ws RX0 TX0 0
theorem nmX0 : ∀ a, a < 0 → ∀ b, b < 0 → a ≠ b → (TX0 a).2.1 ≠ (TX0 b).2.1 := by decide +kernel
theorem tyX0_ok : ∀ k, k < 0 → parseFieldDescriptor (TX0 k).2.2.1 = some (tyX0 k) := by decide +kernel
abbrev cX0_layersOf : ByteArray := prog_2_method_2_code
def yX0_layersOf : MethodName := ⟨RX0, "layersOf", "(I)I"⟩
def RX1 : String := "LayeredActs$Layering"
def TX1 : u_T := fun k => match k with
  | 0 => ("LayeredActs$Layering", "layers", "I", true)
  | 1 => ("LayeredActs$Layering", "ownState", "Z", true)
  | 2 => ("LayeredActs$Layering", "ownLog", "Z", true)
  | 3 => ("LayeredActs$Layering", "ownError", "Z", true)
  | 4 => ("LayeredActs$Layering", "sharedState", "Z", true)
  | 5 => ("LayeredActs$Layering", "sharedLog", "Z", true)
  | 6 => ("LayeredActs$Layering", "errorLosesState", "Z", true)
  | _ => ("LayeredActs$Layering", "errorLosesLog", "Z", true)
def tyX1 : Nat → FieldType := fun k => match k with
  | 0 => .int
  | 1 => .boolean
  | 2 => .boolean
  | 3 => .boolean
  | 4 => .boolean
  | 5 => .boolean
  | 6 => .boolean
  | _ => .boolean
abbrev wsX10 : List Cond := u_ws RX1 TX1 8
theorem nmX1 : ∀ a, a < 8 → ∀ b, b < 8 → a ≠ b → (TX1 a).2.1 ≠ (TX1 b).2.1 := by decide +kernel
theorem tyX1_ok : ∀ k, k < 8 → parseFieldDescriptor (TX1 k).2.2.1 = some (tyX1 k) := by decide +kernel
abbrev cX1_init : ByteArray := prog_3_method_1_code
def yX1_init : MethodName := ⟨RX1, "<init>", "(IIII)V"⟩
abbrev cX1_placeOf : ByteArray := prog_3_method_2_code
def yX1_placeOf : MethodName := ⟨RX1, "placeOf", "(IIIII)I"⟩
abbrev cX1_bitAt : ByteArray := prog_3_method_3_code
def yX1_bitAt : MethodName := ⟨RX1, "bitAt", "(II)I"⟩
def RX2 : String := "LayeredActs$Logs"
def TX2 : u_T := fun k => match k with
  | 0 => ("LayeredActs$Logs", "number", "[I", true)
  | 1 => ("LayeredActs$Logs", "before", "[I", true)
  | 2 => ("LayeredActs$Logs", "length", "[I", true)
  | _ => ("LayeredActs$Logs", "used", "I", false)
def tyX2 : Nat → FieldType := fun k => match k with
  | 0 => .array .int
  | 1 => .array .int
  | 2 => .array .int
  | _ => .int
abbrev wsX20 : List Cond := u_ws RX2 TX2 4
theorem nmX2 : ∀ a, a < 4 → ∀ b, b < 4 → a ≠ b → (TX2 a).2.1 ≠ (TX2 b).2.1 := by decide +kernel
theorem tyX2_ok : ∀ k, k < 4 → parseFieldDescriptor (TX2 k).2.2.1 = some (tyX2 k) := by decide +kernel
abbrev cX2_init : ByteArray := prog_4_method_1_code
def yX2_init : MethodName := ⟨RX2, "<init>", "()V"⟩
abbrev cX2_clear : ByteArray := prog_4_method_2_code
def yX2_clear : MethodName := ⟨RX2, "clear", "()V"⟩
abbrev cX2_has : ByteArray := prog_4_method_3_code
def yX2_has : MethodName := ⟨RX2, "has", "(I)Z"⟩
abbrev cX2_lengthOf : ByteArray := prog_4_method_4_code
def yX2_lengthOf : MethodName := ⟨RX2, "lengthOf", "(I)I"⟩
abbrev cX2_lastOf : ByteArray := prog_4_method_5_code
def yX2_lastOf : MethodName := ⟨RX2, "lastOf", "(I)I"⟩
abbrev cX2_withoutLast : ByteArray := prog_4_method_6_code
def yX2_withoutLast : MethodName := ⟨RX2, "withoutLast", "(I)I"⟩
abbrev cX2_with : ByteArray := prog_4_method_7_code
def yX2_with : MethodName := ⟨RX2, "with", "(II)I"⟩
def RX3 : String := "LayeredActs$Machine"
def TX3 : u_T := fun k => match k with
  | 0 => ("LayeredActs$Machine", "results", "LLayeredActs$Results;", true)
  | 1 => ("LayeredActs$Machine", "logs", "LLayeredActs$Logs;", true)
  | 2 => ("LayeredActs$Machine", "names", "[I", true)
  | 3 => ("LayeredActs$Machine", "layering", "LLayeredActs$Layering;", false)
  | 4 => ("LayeredActs$Machine", "state", "I", false)
  | 5 => ("LayeredActs$Machine", "log", "I", false)
  | 6 => ("LayeredActs$Machine", "limit", "I", false)
  | 7 => ("LayeredActs$Machine", "spent", "I", false)
  | _ => ("LayeredActs$Machine", "errorNumber", "I", false)
def tyX3 : Nat → FieldType := fun k => match k with
  | 0 => .object "LayeredActs$Results"
  | 1 => .object "LayeredActs$Logs"
  | 2 => .array .int
  | 3 => .object "LayeredActs$Layering"
  | 4 => .int
  | 5 => .int
  | 6 => .int
  | 7 => .int
  | _ => .int
abbrev wsX30 : List Cond := u_ws RX3 TX3 9
theorem nmX3 : ∀ a, a < 9 → ∀ b, b < 9 → a ≠ b → (TX3 a).2.1 ≠ (TX3 b).2.1 := by decide +kernel
theorem tyX3_ok : ∀ k, k < 9 → parseFieldDescriptor (TX3 k).2.2.1 = some (tyX3 k) := by decide +kernel
abbrev cX3_init : ByteArray := prog_5_method_1_code
def yX3_init : MethodName := ⟨RX3, "<init>", "()V"⟩
abbrev cX3_carryOut : ByteArray := prog_5_method_2_code
def yX3_carryOut : MethodName := ⟨RX3, "carryOut", "(LLayeredActs$Term;LLayeredActs$Layering;IILLayeredActs$Outcome;)V"⟩
abbrev cX3_clear : ByteArray := prog_5_method_3_code
def yX3_clear : MethodName := ⟨RX3, "clear", "()V"⟩
abbrev cX3_tell : ByteArray := prog_5_method_4_code
def yX3_tell : MethodName := ⟨RX3, "tell", "(LLayeredActs$Outcome;)V"⟩
abbrev cX3_tellCommon : ByteArray := prog_5_method_5_code
def yX3_tellCommon : MethodName := ⟨RX3, "tellCommon", "(LLayeredActs$Row;Z)V"⟩
abbrev cX3_tellResult : ByteArray := prog_5_method_6_code
def yX3_tellResult : MethodName := ⟨RX3, "tellResult", "(LLayeredActs$Row;I)V"⟩
abbrev cX3_perform : ByteArray := prog_5_method_7_code
def yX3_perform : MethodName := ⟨RX3, "perform", "(LLayeredActs$Term;)I"⟩
abbrev cX3_numberOf : ByteArray := prog_5_method_8_code
def yX3_numberOf : MethodName := ⟨RX3, "numberOf", "(I)I"⟩
abbrev cX3_operandOf : ByteArray := prog_5_method_9_code
def yX3_operandOf : MethodName := ⟨RX3, "operandOf", "(LLayeredActs$Term;)I"⟩
abbrev cX3_reckon : ByteArray := prog_5_method_10_code
def yX3_reckon : MethodName := ⟨RX3, "reckon", "(III)I"⟩
abbrev cX3_answer : ByteArray := prog_5_method_11_code
def yX3_answer : MethodName := ⟨RX3, "answer", "(I)I"⟩
abbrev cX3_performWrite : ByteArray := prog_5_method_12_code
def yX3_performWrite : MethodName := ⟨RX3, "performWrite", "(I)I"⟩
abbrev cX3_performSay : ByteArray := prog_5_method_13_code
def yX3_performSay : MethodName := ⟨RX3, "performSay", "(I)I"⟩
abbrev cX3_performFail : ByteArray := prog_5_method_14_code
def yX3_performFail : MethodName := ⟨RX3, "performFail", "(I)I"⟩
abbrev cX3_performEither : ByteArray := prog_5_method_15_code
def yX3_performEither : MethodName := ⟨RX3, "performEither", "(LLayeredActs$Term;)I"⟩
abbrev cX3_performThen : ByteArray := prog_5_method_16_code
def yX3_performThen : MethodName := ⟨RX3, "performThen", "(LLayeredActs$Term;)I"⟩
abbrev cX3_performSaved : ByteArray := prog_5_method_17_code
def yX3_performSaved : MethodName := ⟨RX3, "performSaved", "(LLayeredActs$Term;)I"⟩
abbrev cX3_performTimes : ByteArray := prog_5_method_18_code
def yX3_performTimes : MethodName := ⟨RX3, "performTimes", "(LLayeredActs$Term;)I"⟩
abbrev cX3_performOnce : ByteArray := prog_5_method_19_code
def yX3_performOnce : MethodName := ⟨RX3, "performOnce", "(LLayeredActs$Term;)I"⟩
abbrev cX3_performHeard : ByteArray := prog_5_method_20_code
def yX3_performHeard : MethodName := ⟨RX3, "performHeard", "(LLayeredActs$Term;)I"⟩
abbrev cX3_performHidden : ByteArray := prog_5_method_21_code
def yX3_performHidden : MethodName := ⟨RX3, "performHidden", "(LLayeredActs$Term;)I"⟩
abbrev cX3_performEach : ByteArray := prog_5_method_22_code
def yX3_performEach : MethodName := ⟨RX3, "performEach", "(IZILLayeredActs$Term;)I"⟩
abbrev cX3_performNaming : ByteArray := prog_5_method_23_code
def yX3_performNaming : MethodName := ⟨RX3, "performNaming", "(IILLayeredActs$Term;)I"⟩
abbrev cX3_takeOwn : ByteArray := prog_5_method_24_code
def yX3_takeOwn : MethodName := ⟨RX3, "takeOwn", "(II)V"⟩
abbrev cX3_isTooMany : ByteArray := prog_5_method_25_code
def yX3_isTooMany : MethodName := ⟨RX3, "isTooMany", "(I)Z"⟩
def RX4 : String := "LayeredActs$Outcome"
def TX4 : u_T := fun k => match k with
  | 0 => ("LayeredActs$Outcome", "answer", "I", false)
  | 1 => ("LayeredActs$Outcome", "common", "LLayeredActs$Row;", true)
  | _ => ("LayeredActs$Outcome", "rows", "[LLayeredActs$Row;", true)
def tyX4 : Nat → FieldType := fun k => match k with
  | 0 => .int
  | 1 => .object "LayeredActs$Row"
  | _ => .array (.object "LayeredActs$Row")
abbrev wsX40 : List Cond := u_ws RX4 TX4 3
theorem nmX4 : ∀ a, a < 3 → ∀ b, b < 3 → a ≠ b → (TX4 a).2.1 ≠ (TX4 b).2.1 := by decide +kernel
theorem tyX4_ok : ∀ k, k < 3 → parseFieldDescriptor (TX4 k).2.2.1 = some (tyX4 k) := by decide +kernel
abbrev cX4_init : ByteArray := prog_6_method_1_code
def yX4_init : MethodName := ⟨RX4, "<init>", "()V"⟩
abbrev cX4_rowOf : ByteArray := prog_6_method_2_code
def yX4_rowOf : MethodName := ⟨RX4, "rowOf", "(I)LLayeredActs$Row;"⟩
abbrev cX4_isLike : ByteArray := prog_6_method_3_code
def yX4_isLike : MethodName := ⟨RX4, "isLike", "(LLayeredActs$Outcome;)Z"⟩
def RX5 : String := "LayeredActs$Results"
def TX5 : u_T := fun k => match k with
  | 0 => ("LayeredActs$Results", "number", "[I", true)
  | 1 => ("LayeredActs$Results", "error", "[Z", true)
  | 2 => ("LayeredActs$Results", "state", "[I", true)
  | 3 => ("LayeredActs$Results", "log", "[I", true)
  | _ => ("LayeredActs$Results", "top", "I", false)
def tyX5 : Nat → FieldType := fun k => match k with
  | 0 => .array .int
  | 1 => .array .boolean
  | 2 => .array .int
  | 3 => .array .int
  | _ => .int
abbrev wsX50 : List Cond := u_ws RX5 TX5 5
theorem nmX5 : ∀ a, a < 5 → ∀ b, b < 5 → a ≠ b → (TX5 a).2.1 ≠ (TX5 b).2.1 := by decide +kernel
theorem tyX5_ok : ∀ k, k < 5 → parseFieldDescriptor (TX5 k).2.2.1 = some (tyX5 k) := by decide +kernel
abbrev cX5_init : ByteArray := prog_7_method_1_code
def yX5_init : MethodName := ⟨RX5, "<init>", "()V"⟩
abbrev cX5_size : ByteArray := prog_7_method_2_code
def yX5_size : MethodName := ⟨RX5, "size", "()I"⟩
abbrev cX5_has : ByteArray := prog_7_method_3_code
def yX5_has : MethodName := ⟨RX5, "has", "(I)Z"⟩
abbrev cX5_numberOf : ByteArray := prog_7_method_4_code
def yX5_numberOf : MethodName := ⟨RX5, "numberOf", "(I)I"⟩
abbrev cX5_isError : ByteArray := prog_7_method_5_code
def yX5_isError : MethodName := ⟨RX5, "isError", "(I)Z"⟩
abbrev cX5_stateOf : ByteArray := prog_7_method_6_code
def yX5_stateOf : MethodName := ⟨RX5, "stateOf", "(I)I"⟩
abbrev cX5_logOf : ByteArray := prog_7_method_7_code
def yX5_logOf : MethodName := ⟨RX5, "logOf", "(I)I"⟩
abbrev cX5_setNumber : ByteArray := prog_7_method_8_code
def yX5_setNumber : MethodName := ⟨RX5, "setNumber", "(II)V"⟩
abbrev cX5_setState : ByteArray := prog_7_method_9_code
def yX5_setState : MethodName := ⟨RX5, "setState", "(II)V"⟩
abbrev cX5_setLog : ByteArray := prog_7_method_10_code
def yX5_setLog : MethodName := ⟨RX5, "setLog", "(II)V"⟩
abbrev cX5_push : ByteArray := prog_7_method_11_code
def yX5_push : MethodName := ⟨RX5, "push", "(IZII)Z"⟩
abbrev cX5_pushAgain : ByteArray := prog_7_method_12_code
def yX5_pushAgain : MethodName := ⟨RX5, "pushAgain", "(I)Z"⟩
abbrev cX5_cutTo : ByteArray := prog_7_method_13_code
def yX5_cutTo : MethodName := ⟨RX5, "cutTo", "(I)V"⟩
abbrev cX5_closeGap : ByteArray := prog_7_method_14_code
def yX5_closeGap : MethodName := ⟨RX5, "closeGap", "(II)V"⟩
def RX6 : String := "LayeredActs$Row"
def TX6 : u_T := fun k => match k with
  | _ => ("LayeredActs$Row", "told", "[I", true)
def tyX6 : Nat → FieldType := fun k => match k with
  | _ => .array .int
abbrev wsX60 : List Cond := u_ws RX6 TX6 1
theorem nmX6 : ∀ a, a < 1 → ∀ b, b < 1 → a ≠ b → (TX6 a).2.1 ≠ (TX6 b).2.1 := by decide +kernel
theorem tyX6_ok : ∀ k, k < 1 → parseFieldDescriptor (TX6 k).2.2.1 = some (tyX6 k) := by decide +kernel
abbrev cX6_init : ByteArray := prog_8_method_1_code
def yX6_init : MethodName := ⟨RX6, "<init>", "()V"⟩
abbrev cX6_tells : ByteArray := prog_8_method_2_code
def yX6_tells : MethodName := ⟨RX6, "tells", "(I)Z"⟩
abbrev cX6_at : ByteArray := prog_8_method_3_code
def yX6_at : MethodName := ⟨RX6, "at", "(I)I"⟩
abbrev cX6_setHead : ByteArray := prog_8_method_4_code
def yX6_setHead : MethodName := ⟨RX6, "setHead", "(II)V"⟩
abbrev cX6_setState : ByteArray := prog_8_method_5_code
def yX6_setState : MethodName := ⟨RX6, "setState", "(ZI)V"⟩
abbrev cX6_setLog : ByteArray := prog_8_method_6_code
def yX6_setLog : MethodName := ⟨RX6, "setLog", "(ZLLayeredActs$Logs;I)V"⟩
abbrev cX6_isLike : ByteArray := prog_8_method_7_code
def yX6_isLike : MethodName := ⟨RX6, "isLike", "(LLayeredActs$Row;I)Z"⟩
def RX7 : String := "LayeredActs$Term"
def TX7 : u_T := fun k => match k with
  | 0 => ("LayeredActs$Term", "kind", "I", true)
  | 1 => ("LayeredActs$Term", "named", "Z", true)
  | 2 => ("LayeredActs$Term", "operand", "I", true)
  | 3 => ("LayeredActs$Term", "name", "I", true)
  | 4 => ("LayeredActs$Term", "first", "LLayeredActs$Term;", true)
  | 5 => ("LayeredActs$Term", "second", "LLayeredActs$Term;", true)
  | 6 => ("LayeredActs$Term", "height", "I", true)
  | _ => ("LayeredActs$Term", "layers", "I", true)
def tyX7 : Nat → FieldType := fun k => match k with
  | 0 => .int
  | 1 => .boolean
  | 2 => .int
  | 3 => .int
  | 4 => .object "LayeredActs$Term"
  | 5 => .object "LayeredActs$Term"
  | 6 => .int
  | _ => .int
abbrev wsX70 : List Cond := u_ws RX7 TX7 8
theorem nmX7 : ∀ a, a < 8 → ∀ b, b < 8 → a ≠ b → (TX7 a).2.1 ≠ (TX7 b).2.1 := by decide +kernel
theorem tyX7_ok : ∀ k, k < 8 → parseFieldDescriptor (TX7 k).2.2.1 = some (tyX7 k) := by decide +kernel
abbrev cX7_init : ByteArray := prog_9_method_1_code
def yX7_init : MethodName := ⟨RX7, "<init>", "(IZIILLayeredActs$Term;LLayeredActs$Term;)V"⟩
abbrev cX7_heightOf : ByteArray := prog_9_method_2_code
def yX7_heightOf : MethodName := ⟨RX7, "heightOf", "(LLayeredActs$Term;)I"⟩
abbrev cX7_layersOf : ByteArray := prog_9_method_3_code
def yX7_layersOf : MethodName := ⟨RX7, "layersOf", "(LLayeredActs$Term;)I"⟩
def RX8 : String := "LayeredActs"
def TX8 : u_T := fun k => match k with
  | 0 => ("LayeredActs", "made", "[LLayeredActs$Term;", true)
  | 1 => ("LayeredActs", "machine", "LLayeredActs$Machine;", true)
  | 2 => ("LayeredActs", "latest", "LLayeredActs$Outcome;", true)
  | 3 => ("LayeredActs", "oneSide", "LLayeredActs$Outcome;", true)
  | 4 => ("LayeredActs", "otherSide", "LLayeredActs$Outcome;", true)
  | 5 => ("LayeredActs", "count", "I", false)
  | _ => ("LayeredActs", "layering", "LLayeredActs$Layering;", false)
def tyX8 : Nat → FieldType := fun k => match k with
  | 0 => .array (.object "LayeredActs$Term")
  | 1 => .object "LayeredActs$Machine"
  | 2 => .object "LayeredActs$Outcome"
  | 3 => .object "LayeredActs$Outcome"
  | 4 => .object "LayeredActs$Outcome"
  | 5 => .int
  | _ => .object "LayeredActs$Layering"
abbrev wsX80 : List Cond := u_ws RX8 TX8 7
theorem nmX8 : ∀ a, a < 7 → ∀ b, b < 7 → a ≠ b → (TX8 a).2.1 ≠ (TX8 b).2.1 := by decide +kernel
theorem tyX8_ok : ∀ k, k < 7 → parseFieldDescriptor (TX8 k).2.2.1 = some (tyX8 k) := by decide +kernel
abbrev cX8_init : ByteArray := prog_1_method_1_code
def yX8_init : MethodName := ⟨RX8, "<init>", "()V"⟩
abbrev cX8_give : ByteArray := prog_1_method_2_code
def yX8_give : MethodName := ⟨RX8, "give", "(ZI)I"⟩
abbrev cX8_of : ByteArray := prog_1_method_3_code
def yX8_of : MethodName := ⟨RX8, "of", "(III)I"⟩
abbrev cX8_read : ByteArray := prog_1_method_4_code
def yX8_read : MethodName := ⟨RX8, "read", "()I"⟩
abbrev cX8_write : ByteArray := prog_1_method_5_code
def yX8_write : MethodName := ⟨RX8, "write", "(ZI)I"⟩
abbrev cX8_say : ByteArray := prog_1_method_6_code
def yX8_say : MethodName := ⟨RX8, "say", "(ZI)I"⟩
abbrev cX8_fail : ByteArray := prog_1_method_7_code
def yX8_fail : MethodName := ⟨RX8, "fail", "(ZI)I"⟩
abbrev cX8_none : ByteArray := prog_1_method_8_code
def yX8_none : MethodName := ⟨RX8, "none", "()I"⟩
abbrev cX8_either : ByteArray := prog_1_method_9_code
def yX8_either : MethodName := ⟨RX8, "either", "(II)I"⟩
abbrev cX8_then : ByteArray := prog_1_method_10_code
def yX8_then : MethodName := ⟨RX8, "then", "(III)I"⟩
abbrev cX8_saved : ByteArray := prog_1_method_11_code
def yX8_saved : MethodName := ⟨RX8, "saved", "(III)I"⟩
abbrev cX8_when : ByteArray := prog_1_method_12_code
def yX8_when : MethodName := ⟨RX8, "when", "(III)I"⟩
abbrev cX8_times : ByteArray := prog_1_method_13_code
def yX8_times : MethodName := ⟨RX8, "times", "(ZII)I"⟩
abbrev cX8_as : ByteArray := prog_1_method_14_code
def yX8_as : MethodName := ⟨RX8, "as", "(II)I"⟩
abbrev cX8_order : ByteArray := prog_1_method_15_code
def yX8_order : MethodName := ⟨RX8, "order", "(IIII)I"⟩
abbrev cX8_needs : ByteArray := prog_1_method_16_code
def yX8_needs : MethodName := ⟨RX8, "needs", "(I)I"⟩
abbrev cX8_run : ByteArray := prog_1_method_17_code
def yX8_run : MethodName := ⟨RX8, "run", "(III)I"⟩
abbrev cX8_result : ByteArray := prog_1_method_18_code
def yX8_result : MethodName := ⟨RX8, "result", "(II)I"⟩
abbrev cX8_shared : ByteArray := prog_1_method_19_code
def yX8_shared : MethodName := ⟨RX8, "shared", "(I)I"⟩
abbrev cX8_alike : ByteArray := prog_1_method_20_code
def yX8_alike : MethodName := ⟨RX8, "alike", "(IIII)Z"⟩
abbrev cX8_terms : ByteArray := prog_1_method_21_code
def yX8_terms : MethodName := ⟨RX8, "terms", "()I"⟩
abbrev cX8_keepAct : ByteArray := prog_1_method_22_code
def yX8_keepAct : MethodName := ⟨RX8, "keepAct", "(IZI)I"⟩
abbrev cX8_keepNaming : ByteArray := prog_1_method_23_code
def yX8_keepNaming : MethodName := ⟨RX8, "keepNaming", "(IIII)I"⟩
abbrev cX8_keep : ByteArray := prog_1_method_24_code
def yX8_keep : MethodName := ⟨RX8, "keep", "(LLayeredActs$Term;)I"⟩
abbrev cX8_termAt : ByteArray := prog_1_method_25_code
def yX8_termAt : MethodName := ⟨RX8, "termAt", "(I)LLayeredActs$Term;"⟩
abbrev cX8_requireOperand : ByteArray := prog_1_method_26_code
def yX8_requireOperand : MethodName := ⟨RX8, "requireOperand", "(ZI)V"⟩
abbrev cX8_requireName : ByteArray := prog_1_method_27_code
def yX8_requireName : MethodName := ⟨RX8, "requireName", "(I)V"⟩
abbrev cX8_requireSteps : ByteArray := prog_1_method_28_code
def yX8_requireSteps : MethodName := ⟨RX8, "requireSteps", "(I)V"⟩
abbrev cX8_requireLayers : ByteArray := prog_1_method_29_code
def yX8_requireLayers : MethodName := ⟨RX8, "requireLayers", "(I)V"⟩
abbrev cX8_withLayer : ByteArray := prog_1_method_30_code
def yX8_withLayer : MethodName := ⟨RX8, "withLayer", "(II)I"⟩
abbrev cX8_tellOf : ByteArray := prog_1_method_31_code
def yX8_tellOf : MethodName := ⟨RX8, "tellOf", "(LLayeredActs$Row;I)I"⟩
def RX9 : String := "LayeredActsModel"
def TX9 : u_T := fun k => match k with
  | 0 => ("LayeredActsModel", "thrown", "I", false)
  | 1 => ("LayeredActsModel", "terms", "I", false)
  | 2 => ("LayeredActsModel", "kind", "[I", true)
  | 3 => ("LayeredActsModel", "one", "[I", true)
  | 4 => ("LayeredActsModel", "two", "[I", true)
  | 5 => ("LayeredActsModel", "name", "[I", true)
  | 6 => ("LayeredActsModel", "isNamed", "[Z", true)
  | 7 => ("LayeredActsModel", "needed", "[I", true)
  | 8 => ("LayeredActsModel", "height", "[I", true)
  | 9 => ("LayeredActsModel", "place", "[I", true)
  | 10 => ("LayeredActsModel", "logs", "I", false)
  | 11 => ("LayeredActsModel", "before", "[I", true)
  | 12 => ("LayeredActsModel", "said", "[I", true)
  | 13 => ("LayeredActsModel", "logLength", "[I", true)
  | 14 => ("LayeredActsModel", "high", "I", false)
  | 15 => ("LayeredActsModel", "term", "[I", true)
  | 16 => ("LayeredActsModel", "phase", "[I", true)
  | 17 => ("LayeredActsModel", "at", "[I", true)
  | 18 => ("LayeredActsModel", "round", "[I", true)
  | 19 => ("LayeredActsModel", "state0", "[I", true)
  | 20 => ("LayeredActsModel", "log0", "[I", true)
  | 21 => ("LayeredActsModel", "shared0", "[I", true)
  | 22 => ("LayeredActsModel", "sharedLog0", "[I", true)
  | 23 => ("LayeredActsModel", "env", "[I", true)
  | 24 => ("LayeredActsModel", "many", "[I", true)
  | 25 => ("LayeredActsModel", "isError", "[Z", true)
  | 26 => ("LayeredActsModel", "number", "[I", true)
  | 27 => ("LayeredActsModel", "state", "[I", true)
  | 28 => ("LayeredActsModel", "log", "[I", true)
  | 29 => ("LayeredActsModel", "sharedState", "I", false)
  | 30 => ("LayeredActsModel", "sharedLog", "I", false)
  | 31 => ("LayeredActsModel", "spent", "I", false)
  | 32 => ("LayeredActsModel", "steps", "I", false)
  | 33 => ("LayeredActsModel", "out", "Z", false)
  | 34 => ("LayeredActsModel", "ended", "Z", false)
  | 35 => ("LayeredActsModel", "endedBy", "I", false)
  | 36 => ("LayeredActsModel", "keptMany", "[I", true)
  | 37 => ("LayeredActsModel", "keptError", "[Z", true)
  | 38 => ("LayeredActsModel", "keptNumber", "[I", true)
  | 39 => ("LayeredActsModel", "keptHas", "[Z", true)
  | 40 => ("LayeredActsModel", "keptState", "[I", true)
  | 41 => ("LayeredActsModel", "keptLog", "[I", true)
  | 42 => ("LayeredActsModel", "keptRow", "[I", true)
  | 43 => ("LayeredActsModel", "told", "[I", true)
  | 44 => ("LayeredActsModel", "toldLog", "[I", true)
  | 45 => ("LayeredActsModel", "ran", "Z", false)
  | 46 => ("LayeredActsModel", "spareTold", "[I", true)
  | 47 => ("LayeredActsModel", "spareLog", "[I", true)
  | 48 => ("LayeredActsModel", "spareError", "[Z", true)
  | 49 => ("LayeredActsModel", "spareNumber", "[I", true)
  | 50 => ("LayeredActsModel", "spareHas", "[Z", true)
  | 51 => ("LayeredActsModel", "spareState", "[I", true)
  | 52 => ("LayeredActsModel", "spareLength", "[I", true)
  | _ => ("LayeredActsModel", "spareRow", "[I", true)
def tyX9 : Nat → FieldType := fun k => match k with
  | 0 => .int
  | 1 => .int
  | 2 => .array .int
  | 3 => .array .int
  | 4 => .array .int
  | 5 => .array .int
  | 6 => .array .boolean
  | 7 => .array .int
  | 8 => .array .int
  | 9 => .array .int
  | 10 => .int
  | 11 => .array .int
  | 12 => .array .int
  | 13 => .array .int
  | 14 => .int
  | 15 => .array .int
  | 16 => .array .int
  | 17 => .array .int
  | 18 => .array .int
  | 19 => .array .int
  | 20 => .array .int
  | 21 => .array .int
  | 22 => .array .int
  | 23 => .array .int
  | 24 => .array .int
  | 25 => .array .boolean
  | 26 => .array .int
  | 27 => .array .int
  | 28 => .array .int
  | 29 => .int
  | 30 => .int
  | 31 => .int
  | 32 => .int
  | 33 => .boolean
  | 34 => .boolean
  | 35 => .int
  | 36 => .array .int
  | 37 => .array .boolean
  | 38 => .array .int
  | 39 => .array .boolean
  | 40 => .array .int
  | 41 => .array .int
  | 42 => .array .int
  | 43 => .array .int
  | 44 => .array .int
  | 45 => .boolean
  | 46 => .array .int
  | 47 => .array .int
  | 48 => .array .boolean
  | 49 => .array .int
  | 50 => .array .boolean
  | 51 => .array .int
  | 52 => .array .int
  | _ => .array .int
abbrev wsX90 : List Cond := u_ws RX9 TX9 54
theorem nmX9 : ∀ a, a < 54 → ∀ b, b < 54 → a ≠ b → (TX9 a).2.1 ≠ (TX9 b).2.1 := by decide +kernel
theorem tyX9_ok : ∀ k, k < 54 → parseFieldDescriptor (TX9 k).2.2.1 = some (tyX9 k) := by decide +kernel
abbrev cX9_thrown : ByteArray := prog_11_method_1_code
def yX9_thrown : MethodName := ⟨RX9, "thrown", "()I"⟩
abbrev cX9_refuse : ByteArray := prog_11_method_2_code
def yX9_refuse : MethodName := ⟨RX9, "refuse", "(I)I"⟩
abbrev cX9_init : ByteArray := prog_11_method_3_code
def yX9_init : MethodName := ⟨RX9, "<init>", "()V"⟩
abbrev cX9_above : ByteArray := prog_11_method_4_code
def yX9_above : MethodName := ⟨RX9, "above", "(II)I"⟩
abbrev cX9_isFull : ByteArray := prog_11_method_5_code
def yX9_isFull : MethodName := ⟨RX9, "isFull", "(II)Z"⟩
abbrev cX9_isTerm : ByteArray := prog_11_method_6_code
def yX9_isTerm : MethodName := ⟨RX9, "isTerm", "(I)Z"⟩
abbrev cX9_isName : ByteArray := prog_11_method_7_code
def yX9_isName : MethodName := ⟨RX9, "isName", "(I)Z"⟩
abbrev cX9_made : ByteArray := prog_11_method_8_code
def yX9_made : MethodName := ⟨RX9, "made", "(IIIIZI)I"⟩
abbrev cX9_operand : ByteArray := prog_11_method_9_code
def yX9_operand : MethodName := ⟨RX9, "operand", "(IZII)I"⟩
abbrev cX9_give : ByteArray := prog_11_method_10_code
def yX9_give : MethodName := ⟨RX9, "give", "(ZI)I"⟩
abbrev cX9_of : ByteArray := prog_11_method_11_code
def yX9_of : MethodName := ⟨RX9, "of", "(III)I"⟩
abbrev cX9_read : ByteArray := prog_11_method_12_code
def yX9_read : MethodName := ⟨RX9, "read", "()I"⟩
abbrev cX9_write : ByteArray := prog_11_method_13_code
def yX9_write : MethodName := ⟨RX9, "write", "(ZI)I"⟩
abbrev cX9_say : ByteArray := prog_11_method_14_code
def yX9_say : MethodName := ⟨RX9, "say", "(ZI)I"⟩
abbrev cX9_fail : ByteArray := prog_11_method_15_code
def yX9_fail : MethodName := ⟨RX9, "fail", "(ZI)I"⟩
abbrev cX9_none : ByteArray := prog_11_method_16_code
def yX9_none : MethodName := ⟨RX9, "none", "()I"⟩
abbrev cX9_either : ByteArray := prog_11_method_17_code
def yX9_either : MethodName := ⟨RX9, "either", "(II)I"⟩
abbrev cX9_three : ByteArray := prog_11_method_18_code
def yX9_three : MethodName := ⟨RX9, "three", "(IIIII)I"⟩
abbrev cX9_then : ByteArray := prog_11_method_19_code
def yX9_then : MethodName := ⟨RX9, "then", "(III)I"⟩
abbrev cX9_saved : ByteArray := prog_11_method_20_code
def yX9_saved : MethodName := ⟨RX9, "saved", "(III)I"⟩
abbrev cX9_when : ByteArray := prog_11_method_21_code
def yX9_when : MethodName := ⟨RX9, "when", "(III)I"⟩
abbrev cX9_times : ByteArray := prog_11_method_22_code
def yX9_times : MethodName := ⟨RX9, "times", "(ZII)I"⟩
abbrev cX9_as : ByteArray := prog_11_method_23_code
def yX9_as : MethodName := ⟨RX9, "as", "(II)I"⟩
abbrev cX9_terms : ByteArray := prog_11_method_24_code
def yX9_terms : MethodName := ⟨RX9, "terms", "()I"⟩
abbrev cX9_needs : ByteArray := prog_11_method_25_code
def yX9_needs : MethodName := ⟨RX9, "needs", "(I)I"⟩
abbrev cX9_order : ByteArray := prog_11_method_26_code
def yX9_order : MethodName := ⟨RX9, "order", "(IIII)I"⟩
abbrev cX9_has : ByteArray := prog_11_method_27_code
def yX9_has : MethodName := ⟨RX9, "has", "(I)Z"⟩
abbrev cX9_isOwn : ByteArray := prog_11_method_28_code
def yX9_isOwn : MethodName := ⟨RX9, "isOwn", "(I)Z"⟩
abbrev cX9_isShared : ByteArray := prog_11_method_29_code
def yX9_isShared : MethodName := ⟨RX9, "isShared", "(I)Z"⟩
abbrev cX9_isOutside : ByteArray := prog_11_method_30_code
def yX9_isOutside : MethodName := ⟨RX9, "isOutside", "(I)Z"⟩
abbrev cX9_lacks : ByteArray := prog_11_method_31_code
def yX9_lacks : MethodName := ⟨RX9, "lacks", "(I)Z"⟩
abbrev cX9_row : ByteArray := prog_11_method_32_code
def yX9_row : MethodName := ⟨RX9, "row", "(II)I"⟩
abbrev cX9_push : ByteArray := prog_11_method_33_code
def yX9_push : MethodName := ⟨RX9, "push", "(IIIIII)V"⟩
abbrev cX9_tell : ByteArray := prog_11_method_34_code
def yX9_tell : MethodName := ⟨RX9, "tell", "(IZIII)V"⟩
abbrev cX9_gather : ByteArray := prog_11_method_35_code
def yX9_gather : MethodName := ⟨RX9, "gather", "(I)V"⟩
abbrev cX9_turn : ByteArray := prog_11_method_36_code
def yX9_turn : MethodName := ⟨RX9, "turn", "(I)V"⟩
abbrev cX9_value : ByteArray := prog_11_method_37_code
def yX9_value : MethodName := ⟨RX9, "value", "(IIZ)I"⟩
abbrev cX9_longer : ByteArray := prog_11_method_38_code
def yX9_longer : MethodName := ⟨RX9, "longer", "(II)I"⟩
abbrev cX9_leaf : ByteArray := prog_11_method_39_code
def yX9_leaf : MethodName := ⟨RX9, "leaf", "(I)V"⟩
abbrev cX9_op : ByteArray := prog_11_method_40_code
def yX9_op : MethodName := ⟨RX9, "op", "(III)I"⟩
abbrev cX9_unwind : ByteArray := prog_11_method_41_code
def yX9_unwind : MethodName := ⟨RX9, "unwind", "(I)V"⟩
abbrev cX9_finish : ByteArray := prog_11_method_42_code
def yX9_finish : MethodName := ⟨RX9, "finish", "()V"⟩
abbrev cX9_go : ByteArray := prog_11_method_43_code
def yX9_go : MethodName := ⟨RX9, "go", "()V"⟩
abbrev cX9_either_ : ByteArray := prog_11_method_44_code
def yX9_either_ : MethodName := ⟨RX9, "either", "(I)V"⟩
abbrev cX9_choose : ByteArray := prog_11_method_45_code
def yX9_choose : MethodName := ⟨RX9, "choose", "(I)V"⟩
abbrev cX9_along : ByteArray := prog_11_method_46_code
def yX9_along : MethodName := ⟨RX9, "along", "(I)V"⟩
abbrev cX9_gatherNext : ByteArray := prog_11_method_47_code
def yX9_gatherNext : MethodName := ⟨RX9, "gatherNext", "(I)V"⟩
abbrev cX9_again : ByteArray := prog_11_method_48_code
def yX9_again : MethodName := ⟨RX9, "again", "(I)V"⟩
abbrev cX9_within : ByteArray := prog_11_method_49_code
def yX9_within : MethodName := ⟨RX9, "within", "(I)V"⟩
abbrev cX9_doIt : ByteArray := prog_11_method_50_code
def yX9_doIt : MethodName := ⟨RX9, "doIt", "(III)V"⟩
abbrev cX9_writeLog : ByteArray := prog_11_method_51_code
def yX9_writeLog : MethodName := ⟨RX9, "writeLog", "(I[II)V"⟩
abbrev cX9_keep : ByteArray := prog_11_method_52_code
def yX9_keep : MethodName := ⟨RX9, "keep", "(I)V"⟩
abbrev cX9_run : ByteArray := prog_11_method_53_code
def yX9_run : MethodName := ⟨RX9, "run", "(III)I"⟩
abbrev cX9_result : ByteArray := prog_11_method_54_code
def yX9_result : MethodName := ⟨RX9, "result", "(II)I"⟩
abbrev cX9_shared : ByteArray := prog_11_method_55_code
def yX9_shared : MethodName := ⟨RX9, "shared", "(I)I"⟩
abbrev cX9_alike : ByteArray := prog_11_method_56_code
def yX9_alike : MethodName := ⟨RX9, "alike", "(IIII)Z"⟩
abbrev cX9_lay : ByteArray := prog_11_method_57_code
def yX9_lay : MethodName := ⟨RX9, "lay", "()V"⟩
abbrev cX9_isAsLaid : ByteArray := prog_11_method_58_code
def yX9_isAsLaid : MethodName := ⟨RX9, "isAsLaid", "()Z"⟩
def RJ6 : String := "java/lang/Integer"
def TJ6 : u_T := fun k => match k with
  | _ => ("", "", "", false)
def tyJ6 : Nat → FieldType := fun k => match k with
  | _ => .int
abbrev wsJ60 : List Cond := u_ws RJ6 TJ6 0
theorem nmJ6 : ∀ a, a < 0 → ∀ b, b < 0 → a ≠ b → (TJ6 a).2.1 ≠ (TJ6 b).2.1 := by decide +kernel
theorem tyJ6_ok : ∀ k, k < 0 → parseFieldDescriptor (TJ6 k).2.2.1 = some (tyJ6 k) := by decide +kernel
abbrev cJ6_bitCount_0f7a4 : ByteArray := prog_16_method_49_code
def yJ6_bitCount_0f7a4 : MethodName := ⟨RJ6, "bitCount", "(I)I"⟩
def RJ9 : String := "java/lang/Math"
def TJ9 : u_T := fun k => match k with
  | _ => ("", "", "", false)
def tyJ9 : Nat → FieldType := fun k => match k with
  | _ => .int
abbrev wsJ90 : List Cond := u_ws RJ9 TJ9 0
theorem nmJ9 : ∀ a, a < 0 → ∀ b, b < 0 → a ≠ b → (TJ9 a).2.1 ≠ (TJ9 b).2.1 := by decide +kernel
theorem tyJ9_ok : ∀ k, k < 0 → parseFieldDescriptor (TJ9 k).2.2.1 = some (tyJ9 k) := by decide +kernel
abbrev cJ9_max_7cf53 : ByteArray := prog_17_method_65_code
def yJ9_max_7cf53 : MethodName := ⟨RJ9, "max", "(II)I"⟩
abbrev cJ9_min_7cf53 : ByteArray := prog_17_method_69_code
def yJ9_min_7cf53 : MethodName := ⟨RJ9, "min", "(II)I"⟩
def RJ0 : String := "java/lang/String"
def TJ0 : u_T := fun k => match k with
  | _ => ("", "", "", false)
def tyJ0 : Nat → FieldType := fun k => match k with
  | _ => .int
abbrev wsJ00 : List Cond := u_ws RJ0 TJ0 0
theorem nmJ0 : ∀ a, a < 0 → ∀ b, b < 0 → a ≠ b → (TJ0 a).2.1 ≠ (TJ0 b).2.1 := by decide +kernel
theorem tyJ0_ok : ∀ k, k < 0 → parseFieldDescriptor (TJ0 k).2.2.1 = some (tyJ0 k) := by decide +kernel
def RL : String := "LayeredActsLaw"
abbrev cL_give : ByteArray := method_3_code
def yL_give : MethodName := ⟨RL, "give", "(LLayeredActs;ZI[J)I"⟩
abbrev cL_of : ByteArray := method_4_code
def yL_of : MethodName := ⟨RL, "of", "(LLayeredActs;III[J)I"⟩
abbrev cL_read : ByteArray := method_5_code
def yL_read : MethodName := ⟨RL, "read", "(LLayeredActs;[J)I"⟩
abbrev cL_write : ByteArray := method_6_code
def yL_write : MethodName := ⟨RL, "write", "(LLayeredActs;ZI[J)I"⟩
abbrev cL_say : ByteArray := method_7_code
def yL_say : MethodName := ⟨RL, "say", "(LLayeredActs;ZI[J)I"⟩
abbrev cL_fail : ByteArray := method_8_code
def yL_fail : MethodName := ⟨RL, "fail", "(LLayeredActs;ZI[J)I"⟩
abbrev cL_none : ByteArray := method_9_code
def yL_none : MethodName := ⟨RL, "none", "(LLayeredActs;[J)I"⟩
abbrev cL_either : ByteArray := method_10_code
def yL_either : MethodName := ⟨RL, "either", "(LLayeredActs;II[J)I"⟩
abbrev cL_then : ByteArray := method_11_code
def yL_then : MethodName := ⟨RL, "then", "(LLayeredActs;III[J)I"⟩
abbrev cL_saved : ByteArray := method_12_code
def yL_saved : MethodName := ⟨RL, "saved", "(LLayeredActs;III[J)I"⟩
abbrev cL_when : ByteArray := method_13_code
def yL_when : MethodName := ⟨RL, "when", "(LLayeredActs;III[J)I"⟩
abbrev cL_times : ByteArray := method_14_code
def yL_times : MethodName := ⟨RL, "times", "(LLayeredActs;ZII[J)I"⟩
abbrev cL_as : ByteArray := method_15_code
def yL_as : MethodName := ⟨RL, "as", "(LLayeredActs;II[J)I"⟩
abbrev cL_order : ByteArray := method_16_code
def yL_order : MethodName := ⟨RL, "order", "(LLayeredActs;IIII[J)I"⟩
abbrev cL_needs : ByteArray := method_17_code
def yL_needs : MethodName := ⟨RL, "needs", "(LLayeredActs;I[J)I"⟩
abbrev cL_run : ByteArray := method_18_code
def yL_run : MethodName := ⟨RL, "run", "(LLayeredActs;III[J)I"⟩
abbrev cL_result : ByteArray := method_19_code
def yL_result : MethodName := ⟨RL, "result", "(LLayeredActs;II[J)I"⟩
abbrev cL_shared : ByteArray := method_20_code
def yL_shared : MethodName := ⟨RL, "shared", "(LLayeredActs;I[J)I"⟩
abbrev cL_alike : ByteArray := method_21_code
def yL_alike : MethodName := ⟨RL, "alike", "(LLayeredActs;IIII[J)I"⟩
abbrev cL_law : ByteArray := code
def yL_law : MethodName := ⟨RL, "law", "([I)Z"⟩
end
section
/-! the abstract machine: values, heaps, their meaning -/
def gT : List Cond := lw_tbl.filter goodWord
theorem gT_in {w : Cond} (h : w ∈ lw_tbl) (hg : goodWord w = true) : w ∈ gT := List.mem_filter.mpr ⟨h, hg⟩
theorem gT_good : GoodIn gT gT := fun _ h => ⟨h, good_of_word (List.mem_filter.mp h).2⟩
def gIn (ws : List Cond) : Bool := ws.all (fun w => goodWord w && decide (w ∈ lw_tbl))
theorem gT_of {ws : List Cond} (h : gIn ws = true) : ∀ w ∈ ws, w ∈ gT := by
  intro w hw
  have h1 := List.all_eq_true.mp h w hw
  simp only [Bool.and_eq_true, decide_eq_true_eq] at h1
  exact gT_in h1.2 h1.1
theorem gX1 : gIn wsX10 = true := by decide +kernel
theorem gX2 : gIn wsX20 = true := by decide +kernel
theorem gX3 : gIn wsX30 = true := by decide +kernel
theorem gX4 : gIn wsX40 = true := by decide +kernel
theorem gX5 : gIn wsX50 = true := by decide +kernel
theorem gX6 : gIn wsX60 = true := by decide +kernel
theorem gX7 : gIn wsX70 = true := by decide +kernel
theorem gX8 : gIn wsX80 = true := by decide +kernel
theorem gX9 : gIn wsX90 = true := by decide +kernel
end
section
/-! the abstract machine: values, heaps, their meaning -/
abbrev aV : Type := Int32 ⊕ (Nat ⊕ (Option Nat ⊕ Int64))
abbrev vI (x : Int32) : aV := .inl x
abbrev vS (i : Nat) : aV := .inr (.inl i)
abbrev vD (r : Option Nat) : aV := .inr (.inr (.inl r))
abbrev vJ (x : Int64) : aV := .inr (.inr (.inr x))
def cv (ad : Nat → Nat) (v : aV) : Value := match v with
  | .inl x => .int x
  | .inr (.inl i) => .ref (ad i)
  | .inr (.inr (.inl r)) => va_rf (r.map ad)
  | .inr (.inr (.inr x)) => .long x
abbrev aI : Type := Nat → Nat → Int32
abbrev aL : Type := Nat → Int64
abbrev aSh : Type := Nat ⊕ (FieldType × Nat)
abbrev aG : Type := Nat × (Nat → Option aSh) × (Nat → Nat → Option Nat)
abbrev aO : Type := Option aV ⊕ String
abbrev aQ : Type := aO → aG → aI → aL → Prop
/-- where an id lies: the script at b, the others from b0 on, in the order of their making -/
def qa (b b0 : Nat) (i : Nat) : Nat := match i with
  | 0 => b
  | i + 1 => b0 + i
def qA (b0 : Nat) : Nat → Prop := fun q => b0 ≤ q
def up2 {α : Type} (I : Nat → Nat → α) (i k : Nat) (v : α) : Nat → Nat → α := fun j m => if j = i ∧ m = k then v else I j m
def up1 {α : Type} (f : Nat → α) (i : Nat) (v : α) : Nat → α := fun j => if j = i then v else f j
abbrev qC : List vw_C := [(RX1, TX1, 8), (RX1, TX1, 8), (RX2, TX2, 4), (RX3, TX3, 9), (RX4, TX4, 3), (RX5, TX5, 5), (RX6, TX6, 1), (RX7, TX7, 8), (RX8, TX8, 7), (RX9, TX9, 54)]
def qt (ci : Nat) : Nat → FieldType := match ci with
  | 0 => tyX1
  | 1 => tyX1
  | 2 => tyX2
  | 3 => tyX3
  | 4 => tyX4
  | 5 => tyX5
  | 6 => tyX6
  | 7 => tyX7
  | 8 => tyX8
  | _ => tyX9
def isI (ty : FieldType) : Bool := match ty with
  | .int => true
  | .boolean => true
  | _ => false
def qF (ad : Nat → Nat) (I : aI) (R : Nat → Nat → Option Nat) (ci i k : Nat) : Value := if isI (qt ci k) = true then .int (I i k) else va_rf ((R i k).map ad)
def qE (ad : Nat → Nat) (I : aI) (R : Nat → Nat → Option Nat) (L : aL) (ty : FieldType) (i k : Nat) : Value := match ty with
  | .int => .int (I i k)
  | .boolean => .int (I i k)
  | .long => .long (L i)
  | _ => va_rf ((R i k).map ad)
/-- what a cell of the heap is, by its shape -/
def qc (D : va_G) (K : FieldType → ClassId) (ad : Nat → Nat) (R : Nat → Nat → Option Nat) (I : aI) (L : aL) (H : Heap) (i : Nat) (c : aSh) : Prop := match c with
  | .inl ci => ∃ r : vw_C, qC[ci]? = some r ∧ t_OB (ad i) (D.1 ci) r.2.2 (D.2 ci) H (qF ad I R ci i)
  | .inr (ty, n) => H[ad i]? = some (arrV (K ty) n (qE ad I R L ty i))
def qz (D : va_G) (K : FieldType → ClassId) (b b0 : Nat) (g : aG) (I : aI) (L : aL) (H : Heap) : Prop :=
  (qa b b0 g.1 = H.size ∧ 0 < g.1 ∧ ∀ i, g.1 ≤ i → g.2.1 i = none) ∧ ∀ (i : Nat) (c : aSh), g.2.1 i = some c → qc D K (qa b b0) g.2.2 I L H i c
def qTy : List FieldType := [.int, .boolean, .long, .object RX7, .object RX6]
def qStr : List (Nat × String) := [(148, "no such NAME"), (143, "too many TERMS, or too high a one"), (56, "no such op"), (146, "no such TERM"), (80, "no such kind"), (155, "no such LAYER, or twice"), (150, "steps is not 1 .. 2000"), (153, "a LAYER that is needed is not in the ORDER"), (115, "no such RESULT"), (163, "nothing of that number is told"), (124, "no RUN, or one that was OUT")]
def qNest : List (String × Nat × MethodName) := [(RX8, 17, yX3_init), (RX3, 11, yX5_init), (RX3, 20, yX2_init), (RX4, 17, yX6_init)]
def qExc : List String := ["java/lang/IndexOutOfBoundsException", "java/lang/UnsupportedOperationException", "java/lang/IllegalArgumentException", "java/lang/IllegalStateException"]
def qDecl : List MethodName := [⟨"java/lang/RuntimeException", "<init>", "()V"⟩, ⟨"java/lang/RuntimeException", "<init>", "(Ljava/lang/String;)V"⟩, ⟨"java/lang/Exception", "<init>", "()V"⟩, ⟨"java/lang/Exception", "<init>", "(Ljava/lang/String;)V"⟩, ⟨"java/lang/Throwable", "<init>", "()V"⟩, ⟨"java/lang/Throwable", "<init>", "(Ljava/lang/String;)V"⟩]
/-- what the tables say, of a state -/
def Kv (D : va_G) (K : FieldType → ClassId) (SA : Nat → Nat) (U : State) : Prop :=
  (∀ (c : Nat) (q : vw_C), qC[c]? = some q → u_Kn U q.1 q.2.1 q.2.2 (D.1 c) (D.2 c)) ∧ (∀ ty ∈ qTy, ArrOfT U (K ty) ty ∧ va_RA U (K ty) ty) ∧
  (∀ q ∈ qStr, vk_R RX8 q.1 q.2 (SA q.1) U) ∧ (∀ q ∈ qNest, va_Nw (.methodLinkNest q.1 q.2.1 q.2.2 RX8) U) ∧ (∀ E ∈ qExc, va_Nw (.castable E E) U) ∧ (∀ y ∈ qDecl, va_Nw (.declares y) U) ∧
  (∀ E ∈ qExc, ∀ F ∈ qExc, E ≠ F → va_Nc E F U) ∧ va_AO RX7 U ∧ va_AO RX6 U
def Kh (b0 : Nat) (U : State) (H : Heap) : Prop := vx_Zq Bundle.tN "UNASSIGNED_STACK" Bundle.steD (qA b0) U H ∧ vx_Zq Bundle.tN "SUPPRESSED_SENTINEL" Bundle.listD (qA b0) U H
theorem Kv.warm {D : va_G} {K : FieldType → ClassId} {SA : Nat → Nat} {s U : State} (hW : s.WarmedH U.vm) (h : Kv D K SA s) : Kv D K SA U := by
  obtain ⟨h1, h2, h3, h4, h5, h6, h7, h8, h9⟩ := h
  have hA := hW.alike
  exact ⟨fun c q hq => u_Kn_moved hA (h1 c q hq), fun ty ht => ⟨arrOfT_moved hA (h2 ty ht).1, (h2 ty ht).2.moved hA⟩, fun q hq => (h3 q hq).warm hW, fun q hq => va_Nw.warmM hW (h4 q hq), fun E hE => va_Nw.warmC hW (h5 E hE), fun y hy => va_Nw.warmD hW (h6 y hy), fun E hE F hF n => (h7 E hE F hF n).moved hA, h8.moved hA, h9.moved hA⟩
theorem Kh.moved {b0 : Nat} {s U : State} {H : Heap} (hA : s.vm.Alike U.vm) (h : Kh b0 s H) : Kh b0 U H := ⟨vx_Zq.moved hA h.1, vx_Zq.moved hA h.2⟩
theorem Kh.kept {b0 : Nat} {s : State} {H H1 : Heap} (h : Kh b0 s H) (hq : ∀ a : Nat, a < H.size → ¬ qA b0 a → H1[a]? = H[a]?) : Kh b0 s H1 := ⟨h.1.kept hq, h.2.kept hq⟩
/-- a row of code: where, what, how long, its number, its two places -/
abbrev aR : Type := Nat × Instr × Nat × Int32 × Nat × Nat
/-- a method: name, own class, bytes, locals, answer, handlers, rows -/
abbrev aM : Type := MethodName × ByteArray × Nat × Option FieldType × List (Nat × Nat × Nat × Nat) × List aR
abbrev aM.y (M : aM) : MethodName := M.1
abbrev aM.cc (M : aM) : ByteArray := M.2.1
abbrev aM.nL (M : aM) : Nat := M.2.2.1
abbrev aM.ret (M : aM) : Option FieldType := M.2.2.2.1
abbrev aM.hh (M : aM) : List (Nat × Nat × Nat × Nat) := M.2.2.2.2.1
abbrev aM.code (M : aM) : List aR := M.2.2.2.2.2
def Cx (D : va_G) (K : FieldType → ClassId) (b b0 : Nat) (SA : Nat → Nat) (M : aM) (d : Nat) (p : Program) (l : Launch) (R : Room) (s : State) (m : MethodId) (args : Array Value) (meth : Method) (c : Code) (mc ms : Nat) : Prop :=
  (p.tables.exec = Jvm.exec ∧ c.code = M.cc ∧ c.maxLocals = M.nL ∧ meth.sig.returnType = M.ret ∧ meth.locks = false ∧ s.vm.findClass M.y.cls = some m.cls ∧ meth.name = M.y.name) ∧
  (∀ w ∈ gT, w.before args s = true) ∧ l.stackTraces = false ∧ (d ≤ R.frames ∧ 40 * d ≤ R.locals ∧ mc ≤ R.cells ∧ ms ≤ R.slots) ∧ c.exceptionTable.toList = tableOf M.hh ∧ (b < b0 ∧ b0 ≤ s.heap.size) ∧ Kv D K SA s ∧ Kh b0 s s.heap
def lH (ad : Nat → Nat) (ls : Array Slot) (nL : Nat) (lo : List (Option aV)) : Prop :=
  ls.size = nL ∧ lv_wf ls ∧ ∀ (k : Nat) (v : aV), lo[k]? = some (some v) → (cv ad v).category = 1 ∧ ls[k]? = some (.val (cv ad v))
def qQ (D : va_G) (K : FieldType → ClassId) (b b0 : Nat) (Q : aQ) : Array Value → State → Outcome → State → Prop := fun _ st o t =>
  (∃ (v : Option aV) (g : aG) (I : aI) (L : aL), o = .returned (v.map (cv (qa b b0))) ∧ Q (.inl v) g I L ∧ qz D K b b0 g I L t.heap) ∧ va_F (qA b0) st t
def qX (D : va_G) (K : FieldType → ClassId) (b b0 : Nat) (Q : aQ) : String → State → State → Prop := fun E st t =>
  ∃ (g : aG) (I : aI) (L : aL), Q (.inr E) g I L ∧ qz D K b b0 g I L t.heap ∧ va_F (qA b0) st t
/-- from every state that looks so the method comes to its end, with Q -/
def Ex (M : aM) (d kc ks : Nat) (Q : aQ) (pc : Nat) (lo : List (Option aV)) (st : List aV) (g : aG) (I : aI) (L : aL) : Prop :=
  ∀ (D : va_G) (K : FieldType → ClassId) (b b0 : Nat) (SA : Nat → Nat) (p : Program) (l : Launch) (e : Env) (R : Room) (s : State) (m : MethodId) (args : Array Value) (below : List Frame) (meth : Method) (c : Code) (H : Heap) (locs : List Loc) (cells slots mc ms : Nat) (ls : Array Slot),
    Cx D K b b0 SA M d p l R s m args meth c mc ms → cells + kc ≤ mc → slots + ks ≤ ms → qz D K b b0 g I L H → va_S (qA b0) s.heap H locs → lH (qa b b0) ls M.nL lo →
    W p l e R s m args below meth c H locs cells slots (vx_MQ below (qQ D K b b0 Q) (qX D K b b0 Q) args s mc ms (qA b0)) (F0 m pc ls (st.map (cv (qa b b0))))
/-- the words of a method: its code first -/
def aM.ws (M : aM) : List Cond := (if M.hh = [] then .code M.y M.cc M.nL M.ret else .codeWith M.y M.cc M.nL M.ret M.hh) :: gT
def rm (d kc ks : Nat) : Room := { frames := d, cells := kc, slots := ks, locals := 40 * d }
def mP (D : va_G) (K : FieldType → ClassId) (b b0 : Nat) (SA : Nat → Nat) (av : List aV) (g : aG) (I : aI) (L : aL) : Array Value → State → Prop := fun v U =>
  v = (av.map (cv (qa b b0))).toArray ∧ qz D K b b0 g I L U.heap ∧ (b < b0 ∧ b0 ≤ U.heap.size) ∧ Kv D K SA U ∧ Kh b0 U U.heap
/-- a whole method -/
def Mx (M : aM) (d kc ks : Nat) (av : List aV) (g : aG) (I : aI) (L : aL) (Q : aQ) : Prop :=
  ∀ (D : va_G) (K : FieldType → ClassId) (b b0 : Nat) (SA : Nat → Nat) (l : Launch), l.stackTraces = false →
    vx_Met l M.y M.ws (rm d kc ks) (mP D K b b0 SA av g I L) (qQ D K b b0 Q) (qX D K b b0 Q) kc ks (qA b0)
end
section
/-! locals -/
def qL (ad : Nat → Nat) : Nat → List (Option aV) → List (Nat × Value)
  | _, [] => []
  | k, none :: r => qL ad (k + 1) r
  | k, some v :: r => (k, cv ad v) :: qL ad (k + 1) r
theorem qL_mem {ad : Nat → Nat} : ∀ (lo : List (Option aV)) (k : Nat) (q : Nat × Value), q ∈ qL ad k lo ↔ ∃ (j : Nat) (v : aV), lo[j]? = some (some v) ∧ q = (k + j, cv ad v) := by
  intro lo
  induction lo with
  | nil => intro k q; simp [qL]
  | cons a r ih =>
    intro k q
    have key : (∃ (j : Nat) (v : aV), (a :: r)[j]? = some (some v) ∧ q = (k + j, cv ad v)) ↔ ((∃ v, a = some v ∧ q = (k, cv ad v)) ∨ ∃ (j : Nat) (v : aV), r[j]? = some (some v) ∧ q = (k + 1 + j, cv ad v)) := by
      constructor
      · rintro ⟨j, v, h1, h2⟩
        cases j with
        | zero => left; rw [List.getElem?_cons_zero] at h1; exact ⟨v, Option.some.inj h1, h2⟩
        | succ j => right; rw [List.getElem?_cons_succ] at h1; exact ⟨j, v, h1, by rw [h2]; congr 1; omega⟩
      · rintro (⟨v, h1, h2⟩ | ⟨j, v, h1, h2⟩)
        · exact ⟨0, v, by rw [List.getElem?_cons_zero, h1], h2⟩
        · exact ⟨j + 1, v, by rw [List.getElem?_cons_succ]; exact h1, by rw [h2]; congr 1; omega⟩
    rw [key]
    cases a with
    | none => simp only [qL]; rw [ih]; simp
    | some v =>
      simp only [qL, List.mem_cons]
      rw [ih]
      constructor
      · rintro (h | h)
        · exact Or.inl ⟨v, rfl, h⟩
        · exact Or.inr h
      · rintro (⟨w, h1, h2⟩ | h)
        · cases h1; exact Or.inl h2
        · exact Or.inr h
theorem lH.has {ad : Nat → Nat} {ls : Array Slot} {nL : Nat} {lo : List (Option aV)} (h : lH ad ls nL lo) : lv_has ls nL (qL ad 0 lo) := by
  refine ⟨h.1, h.2.1, fun q hq => ?_⟩
  obtain ⟨j, v, h1, rfl⟩ := (qL_mem lo 0 q).mp hq
  rw [Nat.zero_add]
  exact (h.2.2 j v h1).2
theorem lH.at {ad : Nat → Nat} {ls : Array Slot} {nL : Nat} {lo : List (Option aV)} (h : lH ad ls nL lo) {k : Nat} {v : aV} (hk : lo[k]? = some (some v)) : ls[k]? = some (.val (cv ad v)) := (h.2.2 k v hk).2
theorem lH.set {ad : Nat → Nat} {ls ls' : Array Slot} {nL i : Nat} {lo : List (Option aV)} {v : aV} (h : lH ad ls nL lo) (hc : (cv ad v).category = 1)
    (h' : lv_has ls' nL ((i, cv ad v) :: (qL ad 0 lo).filter (fun q => !(q.1 == i) && !(q.1 + 1 == i && q.2.category == 2)))) : lH ad ls' nL (lo.set i (some v)) := by
  refine ⟨h'.1, h'.2.1, fun k w hk => ?_⟩
  by_cases hki : k = i
  · subst hki
    have hlt : k < lo.length := by
      rcases Nat.lt_or_ge k lo.length with q | q
      · exact q
      · rw [List.getElem?_eq_none (by rw [List.length_set]; exact q)] at hk; cases hk
    rw [List.getElem?_set_self hlt] at hk
    cases hk
    exact ⟨hc, h'.2.2 _ List.mem_cons_self⟩
  · rw [List.getElem?_set_ne (Ne.symm hki)] at hk
    have h1 := h.2.2 k w hk
    refine ⟨h1.1, h'.2.2 (k, cv ad w) (List.mem_cons_of_mem _ (List.mem_filter.mpr ⟨(qL_mem lo 0 _).mpr ⟨k, w, hk, by rw [Nat.zero_add]⟩, ?_⟩))⟩
    have e1 : (k == i) = false := by simpa using hki
    have e2 : ((cv ad w).category == 2) = false := by rw [h1.1]; rfl
    simp only [e1, e2, Bool.and_false, Bool.not_false, Bool.and_true]
section Rules
variable {M : aM} {d kc ks : Nat} {Q : aQ} {pc : Nat} {lo : List (Option aV)} {st : List aV} {g : aG} {I : aI} {L : aL}
theorem Ex_iadd {x y : Int32} (hd : decode M.cc pc = .ok (.iadd, 1)) (k : Ex M d kc ks Q (pc + 1) lo (vI (x + y) :: st) g I L) : Ex M d kc ks Q pc lo (vI y :: vI x :: st) g I L := by
  intro D K b b0 SA p l e R s m args below meth c H locs cells slots mc ms ls C hc hs hz hS hl
  exact lv_iadd C.1.1 C.1.2.1 hd (k D K b b0 SA p l e R s m args below meth c H locs cells slots mc ms ls C hc hs hz hS hl)
theorem Ex_isub {x y : Int32} (hd : decode M.cc pc = .ok (.isub, 1)) (k : Ex M d kc ks Q (pc + 1) lo (vI (x - y) :: st) g I L) : Ex M d kc ks Q pc lo (vI y :: vI x :: st) g I L := by
  intro D K b b0 SA p l e R s m args below meth c H locs cells slots mc ms ls C hc hs hz hS hl
  exact lv_isub C.1.1 C.1.2.1 hd (k D K b b0 SA p l e R s m args below meth c H locs cells slots mc ms ls C hc hs hz hS hl)
theorem Ex_imul {x y : Int32} (hd : decode M.cc pc = .ok (.imul, 1)) (k : Ex M d kc ks Q (pc + 1) lo (vI (x * y) :: st) g I L) : Ex M d kc ks Q pc lo (vI y :: vI x :: st) g I L := by
  intro D K b b0 SA p l e R s m args below meth c H locs cells slots mc ms ls C hc hs hz hS hl
  exact lv_imul C.1.1 C.1.2.1 hd (k D K b b0 SA p l e R s m args below meth c H locs cells slots mc ms ls C hc hs hz hS hl)
theorem Ex_iand {x y : Int32} (hd : decode M.cc pc = .ok (.iand, 1)) (k : Ex M d kc ks Q (pc + 1) lo (vI (x &&& y) :: st) g I L) : Ex M d kc ks Q pc lo (vI y :: vI x :: st) g I L := by
  intro D K b b0 SA p l e R s m args below meth c H locs cells slots mc ms ls C hc hs hz hS hl
  exact lv_iand C.1.1 C.1.2.1 hd (k D K b b0 SA p l e R s m args below meth c H locs cells slots mc ms ls C hc hs hz hS hl)
theorem Ex_ior {x y : Int32} (hd : decode M.cc pc = .ok (.ior, 1)) (k : Ex M d kc ks Q (pc + 1) lo (vI (x ||| y) :: st) g I L) : Ex M d kc ks Q pc lo (vI y :: vI x :: st) g I L := by
  intro D K b b0 SA p l e R s m args below meth c H locs cells slots mc ms ls C hc hs hz hS hl
  exact lv_ior C.1.1 C.1.2.1 hd (k D K b b0 SA p l e R s m args below meth c H locs cells slots mc ms ls C hc hs hz hS hl)
theorem Ex_ixor {x y : Int32} (hd : decode M.cc pc = .ok (.ixor, 1)) (k : Ex M d kc ks Q (pc + 1) lo (vI (x ^^^ y) :: st) g I L) : Ex M d kc ks Q pc lo (vI y :: vI x :: st) g I L := by
  intro D K b b0 SA p l e R s m args below meth c H locs cells slots mc ms ls C hc hs hz hS hl
  exact lv_ixor C.1.1 C.1.2.1 hd (k D K b b0 SA p l e R s m args below meth c H locs cells slots mc ms ls C hc hs hz hS hl)
theorem Ex_ishl {x y : Int32} (hd : decode M.cc pc = .ok (.ishl, 1)) (k : Ex M d kc ks Q (pc + 1) lo (vI (x <<< (y &&& 31)) :: st) g I L) : Ex M d kc ks Q pc lo (vI y :: vI x :: st) g I L := by
  intro D K b b0 SA p l e R s m args below meth c H locs cells slots mc ms ls C hc hs hz hS hl
  exact lv_ishl C.1.1 C.1.2.1 hd (k D K b b0 SA p l e R s m args below meth c H locs cells slots mc ms ls C hc hs hz hS hl)
theorem Ex_ishr {x y : Int32} (hd : decode M.cc pc = .ok (.ishr, 1)) (k : Ex M d kc ks Q (pc + 1) lo (vI (x >>> (y &&& 31)) :: st) g I L) : Ex M d kc ks Q pc lo (vI y :: vI x :: st) g I L := by
  intro D K b b0 SA p l e R s m args below meth c H locs cells slots mc ms ls C hc hs hz hS hl
  exact lv_ishr C.1.1 C.1.2.1 hd (k D K b b0 SA p l e R s m args below meth c H locs cells slots mc ms ls C hc hs hz hS hl)
theorem Ex_iushr {x y : Int32} (hd : decode M.cc pc = .ok (.iushr, 1)) (k : Ex M d kc ks Q (pc + 1) lo (vI (x.toUInt32 >>> (y.toUInt32 &&& Int32.toUInt32 31)).toInt32 :: st) g I L) : Ex M d kc ks Q pc lo (vI y :: vI x :: st) g I L := by
  intro D K b b0 SA p l e R s m args below meth c H locs cells slots mc ms ls C hc hs hz hS hl
  exact lv_iushr C.1.1 C.1.2.1 hd rfl (k D K b b0 SA p l e R s m args below meth c H locs cells slots mc ms ls C hc hs hz hS hl)
theorem Ex_iconst {n : Int} {v : Int32} (hd : decode M.cc pc = .ok (.iconst n, 1)) (hv : Int32.ofInt n = v) (k : Ex M d kc ks Q (pc + 1) lo (vI v :: st) g I L) : Ex M d kc ks Q pc lo st g I L := by
  intro D K b b0 SA p l e R s m args below meth c H locs cells slots mc ms ls C hc hs hz hS hl
  exact lv_iconst C.1.1 C.1.2.1 hd hv (k D K b b0 SA p l e R s m args below meth c H locs cells slots mc ms ls C hc hs hz hS hl)
theorem Ex_bipush {n : Int} {v : Int32} (hd : decode M.cc pc = .ok (.bipush n, 2)) (hv : (Int8.ofInt n).toInt32 = v) (k : Ex M d kc ks Q (pc + 2) lo (vI v :: st) g I L) : Ex M d kc ks Q pc lo st g I L := by
  intro D K b b0 SA p l e R s m args below meth c H locs cells slots mc ms ls C hc hs hz hS hl
  exact lv_bipush C.1.1 C.1.2.1 hd hv (k D K b b0 SA p l e R s m args below meth c H locs cells slots mc ms ls C hc hs hz hS hl)
theorem Ex_sipush {n : Int} {v : Int32} (hd : decode M.cc pc = .ok (.sipush n, 3)) (hv : (Int16.ofInt n).toInt32 = v) (k : Ex M d kc ks Q (pc + 3) lo (vI v :: st) g I L) : Ex M d kc ks Q pc lo st g I L := by
  intro D K b b0 SA p l e R s m args below meth c H locs cells slots mc ms ls C hc hs hz hS hl
  exact lv_sipush C.1.1 C.1.2.1 hd hv (k D K b b0 SA p l e R s m args below meth c H locs cells slots mc ms ls C hc hs hz hS hl)
theorem Ex_lconst {n : Fin 2} {v : Int64} (hd : decode M.cc pc = .ok (.lconst n, 1)) (hv : Int64.ofNat (n : Nat) = v) (k : Ex M d kc ks Q (pc + 1) lo (vJ v :: st) g I L) : Ex M d kc ks Q pc lo st g I L := by
  intro D K b b0 SA p l e R s m args below meth c H locs cells slots mc ms ls C hc hs hz hS hl
  exact lv_lconst C.1.1 C.1.2.1 hd hv (k D K b b0 SA p l e R s m args below meth c H locs cells slots mc ms ls C hc hs hz hS hl)
theorem Ex_i2l {x : Int32} (hd : decode M.cc pc = .ok (.i2l, 1)) (k : Ex M d kc ks Q (pc + 1) lo (vJ x.toInt64 :: st) g I L) : Ex M d kc ks Q pc lo (vI x :: st) g I L := by
  intro D K b b0 SA p l e R s m args below meth c H locs cells slots mc ms ls C hc hs hz hS hl
  exact lv_i2l C.1.1 C.1.2.1 hd rfl (k D K b b0 SA p l e R s m args below meth c H locs cells slots mc ms ls C hc hs hz hS hl)
theorem Ex_lcmp {x y : Int64} (hd : decode M.cc pc = .ok (.lcmp, 1)) (k : Ex M d kc ks Q (pc + 1) lo (vI (lg_cmp x y) :: st) g I L) : Ex M d kc ks Q pc lo (vJ y :: vJ x :: st) g I L := by
  intro D K b b0 SA p l e R s m args below meth c H locs cells slots mc ms ls C hc hs hz hS hl
  exact W.lcmp C.1.1 C.1.2.1 hd (k D K b b0 SA p l e R s m args below meth c H locs cells slots mc ms ls C hc hs hz hS hl)
theorem Ex_null (hd : decode M.cc pc = .ok (.aconst_null, 1)) (k : Ex M d kc ks Q (pc + 1) lo (vD none :: st) g I L) : Ex M d kc ks Q pc lo st g I L := by
  intro D K b b0 SA p l e R s m args below meth c H locs cells slots mc ms ls C hc hs hz hS hl
  exact lv_null C.1.1 C.1.2.1 hd (k D K b b0 SA p l e R s m args below meth c H locs cells slots mc ms ls C hc hs hz hS hl)
theorem Ex_ldc {n : Nat} {v : Int32} (hd : decode M.cc pc = .ok (.ldc n, 2)) (hv : (.constant M.y.cls n v : Cond) ∈ gT) (k : Ex M d kc ks Q (pc + 2) lo (vI v :: st) g I L) : Ex M d kc ks Q pc lo st g I L := by
  intro D K b b0 SA p l e R s m args below meth c H locs cells slots mc ms ls C hc hs hz hS hl
  exact lv_ldc C.1.1 C.1.2.1 C.1.2.2.2.2.2.1 (C.2.1 _ hv) hd (k D K b b0 SA p l e R s m args below meth c H locs cells slots mc ms ls C hc hs hz hS hl)
theorem Ex_ldc_w {n : Nat} {v : Int32} (hd : decode M.cc pc = .ok (.ldc_w n, 3)) (hv : (.constant M.y.cls n v : Cond) ∈ gT) (k : Ex M d kc ks Q (pc + 3) lo (vI v :: st) g I L) : Ex M d kc ks Q pc lo st g I L := by
  intro D K b b0 SA p l e R s m args below meth c H locs cells slots mc ms ls C hc hs hz hS hl
  intro T hT X
  obtain ⟨t, a1, b1⟩ := k D K b b0 SA p l e R s m args below meth c H locs cells slots mc ms ls C hc hs hz hS hl T hT X
  exact ⟨t, va_ldcwI X C.1.1 C.1.2.2.2.2.2.1 (C.2.1 _ hv) rfl (by rw [C.1.2.1]; exact hd) t a1, b1⟩
theorem cv_cat {ad : Nat → Nat} {v : aV} (h : ∀ x, v ≠ vJ x) : (cv ad v).category = 1 := by
  rcases v with x | i | r | x
  · rfl
  · rfl
  · cases r <;> rfl
  · exact absurd rfl (h x)
theorem Ex_dup {v : aV} (hn : ∀ x, v ≠ vJ x) (hd : decode M.cc pc = .ok (.dup, 1)) (k : Ex M d kc ks Q (pc + 1) lo (v :: v :: st) g I L) : Ex M d kc ks Q pc lo (v :: st) g I L := by
  intro D K b b0 SA p l e R s m args below meth c H locs cells slots mc ms ls C hc hs hz hS hl
  exact lv_dup C.1.1 C.1.2.1 hd (cv_cat hn) (k D K b b0 SA p l e R s m args below meth c H locs cells slots mc ms ls C hc hs hz hS hl)
theorem Ex_pop {v : aV} (hn : ∀ x, v ≠ vJ x) (hd : decode M.cc pc = .ok (.pop, 1)) (k : Ex M d kc ks Q (pc + 1) lo st g I L) : Ex M d kc ks Q pc lo (v :: st) g I L := by
  intro D K b b0 SA p l e R s m args below meth c H locs cells slots mc ms ls C hc hs hz hS hl
  exact lv_pop C.1.1 C.1.2.1 hd (cv_cat hn) (k D K b b0 SA p l e R s m args below meth c H locs cells slots mc ms ls C hc hs hz hS hl)
theorem Ex_dup2 {v w : aV} (hn : ∀ x, v ≠ vJ x) (hn2 : ∀ x, w ≠ vJ x) (hd : decode M.cc pc = .ok (.dup2, 1)) (k : Ex M d kc ks Q (pc + 1) lo (v :: w :: v :: w :: st) g I L) : Ex M d kc ks Q pc lo (v :: w :: st) g I L := by
  intro D K b b0 SA p l e R s m args below meth c H locs cells slots mc ms ls C hc hs hz hS hl
  exact lv_dup2_11 C.1.1 C.1.2.1 hd (cv_cat hn) (cv_cat hn2) (k D K b b0 SA p l e R s m args below meth c H locs cells slots mc ms ls C hc hs hz hS hl)
theorem Ex_goto {off : Int} {tgt : Nat} (hd : decode M.cc pc = .ok (.goto off, 3)) (ht : (pc : Int) + off = (tgt : Int)) (k : Ex M d kc ks Q tgt lo st g I L) : Ex M d kc ks Q pc lo st g I L := by
  intro D K b b0 SA p l e R s m args below meth c H locs cells slots mc ms ls C hc hs hz hS hl
  exact lv_goto C.1.1 C.1.2.1 hd ht (k D K b b0 SA p l e R s m args below meth c H locs cells slots mc ms ls C hc hs hz hS hl)
theorem Ex_iload_n {a : Fin 4} {x : Int32} (hd : decode M.cc pc = .ok (.iload_n a, 1)) (h : lo[(a : Nat)]? = some (some (vI x))) (k : Ex M d kc ks Q (pc + 1) lo (vI x :: st) g I L) : Ex M d kc ks Q pc lo st g I L := by
  intro D K b b0 SA p l e R s m args below meth c H locs cells slots mc ms ls C hc hs hz hS hl
  exact lv_iload_n C.1.1 C.1.2.1 hd rfl (hl.at h) (k D K b b0 SA p l e R s m args below meth c H locs cells slots mc ms ls C hc hs hz hS hl)
theorem Ex_iload {a : Nat} {x : Int32} (hd : decode M.cc pc = .ok (.iload a, 2)) (h : lo[a]? = some (some (vI x))) (k : Ex M d kc ks Q (pc + 2) lo (vI x :: st) g I L) : Ex M d kc ks Q pc lo st g I L := by
  intro D K b b0 SA p l e R s m args below meth c H locs cells slots mc ms ls C hc hs hz hS hl
  exact lv_iload C.1.1 C.1.2.1 hd (hl.at h) (k D K b b0 SA p l e R s m args below meth c H locs cells slots mc ms ls C hc hs hz hS hl)
theorem Ex_aload_nS {a : Fin 4} {i : Nat} (hd : decode M.cc pc = .ok (.aload_n a, 1)) (h : lo[(a : Nat)]? = some (some (vS i))) (k : Ex M d kc ks Q (pc + 1) lo (vS i :: st) g I L) : Ex M d kc ks Q pc lo st g I L := by
  intro D K b b0 SA p l e R s m args below meth c H locs cells slots mc ms ls C hc hs hz hS hl
  exact lv_aload_n C.1.1 C.1.2.1 hd rfl (hl.at h) (k D K b b0 SA p l e R s m args below meth c H locs cells slots mc ms ls C hc hs hz hS hl)
theorem Ex_aload_nD {a : Fin 4} {r : Option Nat} (hd : decode M.cc pc = .ok (.aload_n a, 1)) (h : lo[(a : Nat)]? = some (some (vD r))) (k : Ex M d kc ks Q (pc + 1) lo (vD r :: st) g I L) : Ex M d kc ks Q pc lo st g I L := by
  cases r with
  | none =>
    intro D K b b0 SA p l e R s m args below meth c H locs cells slots mc ms ls C hc hs hz hS hl
    exact lv_aload_nN C.1.1 C.1.2.1 hd rfl (hl.at h) (k D K b b0 SA p l e R s m args below meth c H locs cells slots mc ms ls C hc hs hz hS hl)
  | some i =>
    intro D K b b0 SA p l e R s m args below meth c H locs cells slots mc ms ls C hc hs hz hS hl
    exact lv_aload_n C.1.1 C.1.2.1 hd rfl (hl.at h) (k D K b b0 SA p l e R s m args below meth c H locs cells slots mc ms ls C hc hs hz hS hl)
theorem Ex_aloadS {a : Nat} {i : Nat} (hd : decode M.cc pc = .ok (.aload a, 2)) (h : lo[a]? = some (some (vS i))) (k : Ex M d kc ks Q (pc + 2) lo (vS i :: st) g I L) : Ex M d kc ks Q pc lo st g I L := by
  intro D K b b0 SA p l e R s m args below meth c H locs cells slots mc ms ls C hc hs hz hS hl
  exact lv_aload C.1.1 C.1.2.1 hd (hl.at h) (k D K b b0 SA p l e R s m args below meth c H locs cells slots mc ms ls C hc hs hz hS hl)
theorem Ex_aloadD {a : Nat} {r : Option Nat} (hd : decode M.cc pc = .ok (.aload a, 2)) (h : lo[a]? = some (some (vD r))) (k : Ex M d kc ks Q (pc + 2) lo (vD r :: st) g I L) : Ex M d kc ks Q pc lo st g I L := by
  cases r with
  | none =>
    intro D K b b0 SA p l e R s m args below meth c H locs cells slots mc ms ls C hc hs hz hS hl
    exact lv_aloadN C.1.1 C.1.2.1 hd (hl.at h) (k D K b b0 SA p l e R s m args below meth c H locs cells slots mc ms ls C hc hs hz hS hl)
  | some i =>
    intro D K b b0 SA p l e R s m args below meth c H locs cells slots mc ms ls C hc hs hz hS hl
    exact lv_aload C.1.1 C.1.2.1 hd (hl.at h) (k D K b b0 SA p l e R s m args below meth c H locs cells slots mc ms ls C hc hs hz hS hl)
theorem Ex_istore_n {a : Fin 4} {x : Int32} (hd : decode M.cc pc = .ok (.istore_n a, 1)) (hn : (a : Nat) < M.nL) (k : Ex M d kc ks Q (pc + 1) (lo.set (a : Nat) (some (vI x))) st g I L) : Ex M d kc ks Q pc lo (vI x :: st) g I L := by
  intro D K b b0 SA p l e R s m args below meth c H locs cells slots mc ms ls C hc hs hz hS hl
  exact lv_istore_n C.1.1 C.1.2.1 hd rfl hl.has hn rfl (fun ls' h' => k D K b b0 SA p l e R s m args below meth c H locs cells slots mc ms ls' C hc hs hz hS (hl.set (v := vI x) rfl h'))
theorem Ex_istore {a : Nat} {x : Int32} (hd : decode M.cc pc = .ok (.istore a, 2)) (hn : a < M.nL) (k : Ex M d kc ks Q (pc + 2) (lo.set a (some (vI x))) st g I L) : Ex M d kc ks Q pc lo (vI x :: st) g I L := by
  intro D K b b0 SA p l e R s m args below meth c H locs cells slots mc ms ls C hc hs hz hS hl
  exact lv_istore C.1.1 C.1.2.1 hd hl.has hn rfl (fun ls' h' => k D K b b0 SA p l e R s m args below meth c H locs cells slots mc ms ls' C hc hs hz hS (hl.set (v := vI x) rfl h'))
theorem Ex_astore_nS {a : Fin 4} {i : Nat} (hd : decode M.cc pc = .ok (.astore_n a, 1)) (hn : (a : Nat) < M.nL) (k : Ex M d kc ks Q (pc + 1) (lo.set (a : Nat) (some (vS i))) st g I L) : Ex M d kc ks Q pc lo (vS i :: st) g I L := by
  intro D K b b0 SA p l e R s m args below meth c H locs cells slots mc ms ls C hc hs hz hS hl
  exact lv_astore_n C.1.1 C.1.2.1 hd rfl hl.has hn rfl (fun ls' h' => k D K b b0 SA p l e R s m args below meth c H locs cells slots mc ms ls' C hc hs hz hS (hl.set (v := vS i) rfl h'))
theorem Ex_astore_nD {a : Fin 4} {r : Option Nat} (hd : decode M.cc pc = .ok (.astore_n a, 1)) (hn : (a : Nat) < M.nL) (k : Ex M d kc ks Q (pc + 1) (lo.set (a : Nat) (some (vD r))) st g I L) : Ex M d kc ks Q pc lo (vD r :: st) g I L := by
  cases r with
  | none =>
    intro D K b b0 SA p l e R s m args below meth c H locs cells slots mc ms ls C hc hs hz hS hl
    exact lv_astore_nN C.1.1 C.1.2.1 hd rfl hl.has hn rfl (fun ls' h' => k D K b b0 SA p l e R s m args below meth c H locs cells slots mc ms ls' C hc hs hz hS (hl.set (v := vD none) rfl h'))
  | some i =>
    intro D K b b0 SA p l e R s m args below meth c H locs cells slots mc ms ls C hc hs hz hS hl
    exact lv_astore_n C.1.1 C.1.2.1 hd rfl hl.has hn rfl (fun ls' h' => k D K b b0 SA p l e R s m args below meth c H locs cells slots mc ms ls' C hc hs hz hS (hl.set (v := vD (some i)) rfl h'))
theorem Ex_astoreS {a : Nat} {i : Nat} (hd : decode M.cc pc = .ok (.astore a, 2)) (hn : a < M.nL) (k : Ex M d kc ks Q (pc + 2) (lo.set a (some (vS i))) st g I L) : Ex M d kc ks Q pc lo (vS i :: st) g I L := by
  intro D K b b0 SA p l e R s m args below meth c H locs cells slots mc ms ls C hc hs hz hS hl
  exact lv_astore C.1.1 C.1.2.1 hd hl.has hn rfl (fun ls' h' => k D K b b0 SA p l e R s m args below meth c H locs cells slots mc ms ls' C hc hs hz hS (hl.set (v := vS i) rfl h'))
theorem Ex_astoreD {a : Nat} {r : Option Nat} (hd : decode M.cc pc = .ok (.astore a, 2)) (hn : a < M.nL) (k : Ex M d kc ks Q (pc + 2) (lo.set a (some (vD r))) st g I L) : Ex M d kc ks Q pc lo (vD r :: st) g I L := by
  cases r with
  | none =>
    intro D K b b0 SA p l e R s m args below meth c H locs cells slots mc ms ls C hc hs hz hS hl
    exact lv_astoreN C.1.1 C.1.2.1 hd hl.has hn rfl (fun ls' h' => k D K b b0 SA p l e R s m args below meth c H locs cells slots mc ms ls' C hc hs hz hS (hl.set (v := vD none) rfl h'))
  | some i =>
    intro D K b b0 SA p l e R s m args below meth c H locs cells slots mc ms ls C hc hs hz hS hl
    exact lv_astore C.1.1 C.1.2.1 hd hl.has hn rfl (fun ls' h' => k D K b b0 SA p l e R s m args below meth c H locs cells slots mc ms ls' C hc hs hz hS (hl.set (v := vD (some i)) rfl h'))
theorem Ex_iinc {a : Nat} {n : Int} {x v : Int32} (hd : decode M.cc pc = .ok (.iinc a n, 3)) (hv : Int32.ofInt n = v) (hn : a < M.nL) (h : lo[a]? = some (some (vI x))) (k : Ex M d kc ks Q (pc + 3) (lo.set a (some (vI (x + v)))) st g I L) : Ex M d kc ks Q pc lo st g I L := by
  intro D K b b0 SA p l e R s m args below meth c H locs cells slots mc ms ls C hc hs hz hS hl
  subst hv
  have hm : (a, Value.int x) ∈ qL (qa b b0) 0 lo := (qL_mem lo 0 _).mpr ⟨a, vI x, h, by rw [Nat.zero_add]; rfl⟩
  obtain ⟨j, hj⟩ := List.getElem?_of_mem hm
  exact lv_iinc C.1.1 C.1.2.1 hd hl.has hj rfl hn rfl (fun ls' h' => k D K b b0 SA p l e R s m args below meth c H locs cells slots mc ms ls' C hc hs hz hS (hl.set (v := vI (x + Int32.ofInt n)) rfl h'))
theorem Ex_if_eq {x : Int32} {off : Int} {tgt : Nat} (hd : decode M.cc pc = .ok (.ifCond .eq off, 3)) (ht : (pc : Int) + off = (tgt : Int)) (kt : x = 0 → Ex M d kc ks Q tgt lo st g I L) (kf : ¬ x = 0 → Ex M d kc ks Q (pc + 3) lo st g I L) : Ex M d kc ks Q pc lo (vI x :: st) g I L := by
  intro D K b b0 SA p l e R s m args below meth c H locs cells slots mc ms ls C hc hs hz hS hl
  exact lv_if_eq C.1.1 C.1.2.1 hd ht (fun q => kt q D K b b0 SA p l e R s m args below meth c H locs cells slots mc ms ls C hc hs hz hS hl) (fun q => kf q D K b b0 SA p l e R s m args below meth c H locs cells slots mc ms ls C hc hs hz hS hl)
theorem Ex_if_ne {x : Int32} {off : Int} {tgt : Nat} (hd : decode M.cc pc = .ok (.ifCond .ne off, 3)) (ht : (pc : Int) + off = (tgt : Int)) (kt : ¬ x = 0 → Ex M d kc ks Q tgt lo st g I L) (kf : x = 0 → Ex M d kc ks Q (pc + 3) lo st g I L) : Ex M d kc ks Q pc lo (vI x :: st) g I L := by
  intro D K b b0 SA p l e R s m args below meth c H locs cells slots mc ms ls C hc hs hz hS hl
  exact lv_if_ne C.1.1 C.1.2.1 hd ht (fun q => kt q D K b b0 SA p l e R s m args below meth c H locs cells slots mc ms ls C hc hs hz hS hl) (fun q => kf q D K b b0 SA p l e R s m args below meth c H locs cells slots mc ms ls C hc hs hz hS hl)
theorem Ex_if_lt {x : Int32} {off : Int} {tgt : Nat} (hd : decode M.cc pc = .ok (.ifCond .lt off, 3)) (ht : (pc : Int) + off = (tgt : Int)) (kt : x < 0 → Ex M d kc ks Q tgt lo st g I L) (kf : ¬ x < 0 → Ex M d kc ks Q (pc + 3) lo st g I L) : Ex M d kc ks Q pc lo (vI x :: st) g I L := by
  intro D K b b0 SA p l e R s m args below meth c H locs cells slots mc ms ls C hc hs hz hS hl
  exact lv_if_lt C.1.1 C.1.2.1 hd ht (fun q => kt q D K b b0 SA p l e R s m args below meth c H locs cells slots mc ms ls C hc hs hz hS hl) (fun q => kf q D K b b0 SA p l e R s m args below meth c H locs cells slots mc ms ls C hc hs hz hS hl)
theorem Ex_if_ge {x : Int32} {off : Int} {tgt : Nat} (hd : decode M.cc pc = .ok (.ifCond .ge off, 3)) (ht : (pc : Int) + off = (tgt : Int)) (kt : 0 ≤ x → Ex M d kc ks Q tgt lo st g I L) (kf : ¬ 0 ≤ x → Ex M d kc ks Q (pc + 3) lo st g I L) : Ex M d kc ks Q pc lo (vI x :: st) g I L := by
  intro D K b b0 SA p l e R s m args below meth c H locs cells slots mc ms ls C hc hs hz hS hl
  exact lv_if_ge C.1.1 C.1.2.1 hd ht (fun q => kt q D K b b0 SA p l e R s m args below meth c H locs cells slots mc ms ls C hc hs hz hS hl) (fun q => kf q D K b b0 SA p l e R s m args below meth c H locs cells slots mc ms ls C hc hs hz hS hl)
theorem Ex_if_gt {x : Int32} {off : Int} {tgt : Nat} (hd : decode M.cc pc = .ok (.ifCond .gt off, 3)) (ht : (pc : Int) + off = (tgt : Int)) (kt : 0 < x → Ex M d kc ks Q tgt lo st g I L) (kf : ¬ 0 < x → Ex M d kc ks Q (pc + 3) lo st g I L) : Ex M d kc ks Q pc lo (vI x :: st) g I L := by
  intro D K b b0 SA p l e R s m args below meth c H locs cells slots mc ms ls C hc hs hz hS hl
  exact lv_if_gt C.1.1 C.1.2.1 hd ht (fun q => kt q D K b b0 SA p l e R s m args below meth c H locs cells slots mc ms ls C hc hs hz hS hl) (fun q => kf q D K b b0 SA p l e R s m args below meth c H locs cells slots mc ms ls C hc hs hz hS hl)
theorem Ex_if_le {x : Int32} {off : Int} {tgt : Nat} (hd : decode M.cc pc = .ok (.ifCond .le off, 3)) (ht : (pc : Int) + off = (tgt : Int)) (kt : x ≤ 0 → Ex M d kc ks Q tgt lo st g I L) (kf : ¬ x ≤ 0 → Ex M d kc ks Q (pc + 3) lo st g I L) : Ex M d kc ks Q pc lo (vI x :: st) g I L := by
  intro D K b b0 SA p l e R s m args below meth c H locs cells slots mc ms ls C hc hs hz hS hl
  exact lv_if_le C.1.1 C.1.2.1 hd ht (fun q => kt q D K b b0 SA p l e R s m args below meth c H locs cells slots mc ms ls C hc hs hz hS hl) (fun q => kf q D K b b0 SA p l e R s m args below meth c H locs cells slots mc ms ls C hc hs hz hS hl)
theorem Ex_icmp_eq {x y : Int32} {off : Int} {tgt : Nat} (hd : decode M.cc pc = .ok (.if_icmp .eq off, 3)) (ht : (pc : Int) + off = (tgt : Int)) (kt : x = y → Ex M d kc ks Q tgt lo st g I L) (kf : ¬ x = y → Ex M d kc ks Q (pc + 3) lo st g I L) : Ex M d kc ks Q pc lo (vI y :: vI x :: st) g I L := by
  intro D K b b0 SA p l e R s m args below meth c H locs cells slots mc ms ls C hc hs hz hS hl
  exact lv_icmp_eq C.1.1 C.1.2.1 hd ht (fun q => kt q D K b b0 SA p l e R s m args below meth c H locs cells slots mc ms ls C hc hs hz hS hl) (fun q => kf q D K b b0 SA p l e R s m args below meth c H locs cells slots mc ms ls C hc hs hz hS hl)
theorem Ex_icmp_ne {x y : Int32} {off : Int} {tgt : Nat} (hd : decode M.cc pc = .ok (.if_icmp .ne off, 3)) (ht : (pc : Int) + off = (tgt : Int)) (kt : ¬ x = y → Ex M d kc ks Q tgt lo st g I L) (kf : x = y → Ex M d kc ks Q (pc + 3) lo st g I L) : Ex M d kc ks Q pc lo (vI y :: vI x :: st) g I L := by
  intro D K b b0 SA p l e R s m args below meth c H locs cells slots mc ms ls C hc hs hz hS hl
  exact lv_icmp_ne C.1.1 C.1.2.1 hd ht (fun q => kt q D K b b0 SA p l e R s m args below meth c H locs cells slots mc ms ls C hc hs hz hS hl) (fun q => kf q D K b b0 SA p l e R s m args below meth c H locs cells slots mc ms ls C hc hs hz hS hl)
theorem Ex_icmp_lt {x y : Int32} {off : Int} {tgt : Nat} (hd : decode M.cc pc = .ok (.if_icmp .lt off, 3)) (ht : (pc : Int) + off = (tgt : Int)) (kt : x < y → Ex M d kc ks Q tgt lo st g I L) (kf : ¬ x < y → Ex M d kc ks Q (pc + 3) lo st g I L) : Ex M d kc ks Q pc lo (vI y :: vI x :: st) g I L := by
  intro D K b b0 SA p l e R s m args below meth c H locs cells slots mc ms ls C hc hs hz hS hl
  exact lv_icmp_lt C.1.1 C.1.2.1 hd ht (fun q => kt q D K b b0 SA p l e R s m args below meth c H locs cells slots mc ms ls C hc hs hz hS hl) (fun q => kf q D K b b0 SA p l e R s m args below meth c H locs cells slots mc ms ls C hc hs hz hS hl)
theorem Ex_icmp_ge {x y : Int32} {off : Int} {tgt : Nat} (hd : decode M.cc pc = .ok (.if_icmp .ge off, 3)) (ht : (pc : Int) + off = (tgt : Int)) (kt : y ≤ x → Ex M d kc ks Q tgt lo st g I L) (kf : ¬ y ≤ x → Ex M d kc ks Q (pc + 3) lo st g I L) : Ex M d kc ks Q pc lo (vI y :: vI x :: st) g I L := by
  intro D K b b0 SA p l e R s m args below meth c H locs cells slots mc ms ls C hc hs hz hS hl
  exact lv_icmp_ge C.1.1 C.1.2.1 hd ht (fun q => kt q D K b b0 SA p l e R s m args below meth c H locs cells slots mc ms ls C hc hs hz hS hl) (fun q => kf q D K b b0 SA p l e R s m args below meth c H locs cells slots mc ms ls C hc hs hz hS hl)
theorem Ex_icmp_gt {x y : Int32} {off : Int} {tgt : Nat} (hd : decode M.cc pc = .ok (.if_icmp .gt off, 3)) (ht : (pc : Int) + off = (tgt : Int)) (kt : y < x → Ex M d kc ks Q tgt lo st g I L) (kf : ¬ y < x → Ex M d kc ks Q (pc + 3) lo st g I L) : Ex M d kc ks Q pc lo (vI y :: vI x :: st) g I L := by
  intro D K b b0 SA p l e R s m args below meth c H locs cells slots mc ms ls C hc hs hz hS hl
  exact lv_icmp_gt C.1.1 C.1.2.1 hd ht (fun q => kt q D K b b0 SA p l e R s m args below meth c H locs cells slots mc ms ls C hc hs hz hS hl) (fun q => kf q D K b b0 SA p l e R s m args below meth c H locs cells slots mc ms ls C hc hs hz hS hl)
theorem Ex_icmp_le {x y : Int32} {off : Int} {tgt : Nat} (hd : decode M.cc pc = .ok (.if_icmp .le off, 3)) (ht : (pc : Int) + off = (tgt : Int)) (kt : x ≤ y → Ex M d kc ks Q tgt lo st g I L) (kf : ¬ x ≤ y → Ex M d kc ks Q (pc + 3) lo st g I L) : Ex M d kc ks Q pc lo (vI y :: vI x :: st) g I L := by
  intro D K b b0 SA p l e R s m args below meth c H locs cells slots mc ms ls C hc hs hz hS hl
  exact lv_icmp_le C.1.1 C.1.2.1 hd ht (fun q => kt q D K b b0 SA p l e R s m args below meth c H locs cells slots mc ms ls C hc hs hz hS hl) (fun q => kf q D K b b0 SA p l e R s m args below meth c H locs cells slots mc ms ls C hc hs hz hS hl)
theorem Ex_ifnullS {i : Nat} {off : Int} (hd : decode M.cc pc = .ok (.ifnull off, 3)) (k : Ex M d kc ks Q (pc + 3) lo st g I L) : Ex M d kc ks Q pc lo (vS i :: st) g I L := by
  intro D K b b0 SA p l e R s m args below meth c H locs cells slots mc ms ls C hc hs hz hS hl
  exact lv_ifnull C.1.1 C.1.2.1 hd (k D K b b0 SA p l e R s m args below meth c H locs cells slots mc ms ls C hc hs hz hS hl)
theorem Ex_ifnullD {i : Nat} {off : Int} (hd : decode M.cc pc = .ok (.ifnull off, 3)) (k : Ex M d kc ks Q (pc + 3) lo st g I L) : Ex M d kc ks Q pc lo (vD (some i) :: st) g I L := by
  intro D K b b0 SA p l e R s m args below meth c H locs cells slots mc ms ls C hc hs hz hS hl
  exact lv_ifnull C.1.1 C.1.2.1 hd (k D K b b0 SA p l e R s m args below meth c H locs cells slots mc ms ls C hc hs hz hS hl)
theorem Ex_ifnullN {off : Int} {tgt : Nat} (hd : decode M.cc pc = .ok (.ifnull off, 3)) (ht : (pc : Int) + off = (tgt : Int)) (k : Ex M d kc ks Q tgt lo st g I L) : Ex M d kc ks Q pc lo (vD none :: st) g I L := by
  intro D K b b0 SA p l e R s m args below meth c H locs cells slots mc ms ls C hc hs hz hS hl
  exact lv_ifnullN C.1.1 C.1.2.1 hd ht (k D K b b0 SA p l e R s m args below meth c H locs cells slots mc ms ls C hc hs hz hS hl)
theorem Ex_ifnonnullS {i : Nat} {off : Int} {tgt : Nat} (hd : decode M.cc pc = .ok (.ifnonnull off, 3)) (ht : (pc : Int) + off = (tgt : Int)) (k : Ex M d kc ks Q tgt lo st g I L) : Ex M d kc ks Q pc lo (vS i :: st) g I L := by
  intro D K b b0 SA p l e R s m args below meth c H locs cells slots mc ms ls C hc hs hz hS hl
  exact lv_ifnonnull C.1.1 C.1.2.1 hd ht (k D K b b0 SA p l e R s m args below meth c H locs cells slots mc ms ls C hc hs hz hS hl)
theorem Ex_ifnonnullD {i : Nat} {off : Int} {tgt : Nat} (hd : decode M.cc pc = .ok (.ifnonnull off, 3)) (ht : (pc : Int) + off = (tgt : Int)) (k : Ex M d kc ks Q tgt lo st g I L) : Ex M d kc ks Q pc lo (vD (some i) :: st) g I L := by
  intro D K b b0 SA p l e R s m args below meth c H locs cells slots mc ms ls C hc hs hz hS hl
  exact lv_ifnonnull C.1.1 C.1.2.1 hd ht (k D K b b0 SA p l e R s m args below meth c H locs cells slots mc ms ls C hc hs hz hS hl)
theorem Ex_ifnonnullN {off : Int} (hd : decode M.cc pc = .ok (.ifnonnull off, 3)) (k : Ex M d kc ks Q (pc + 3) lo st g I L) : Ex M d kc ks Q pc lo (vD none :: st) g I L := by
  intro D K b b0 SA p l e R s m args below meth c H locs cells slots mc ms ls C hc hs hz hS hl
  exact lv_ifnonnullN C.1.1 C.1.2.1 hd (k D K b b0 SA p l e R s m args below meth c H locs cells slots mc ms ls C hc hs hz hS hl)
theorem Ex_tableOut {dflt l0 hi : Int} {offs : Array Int} {len : Nat} {x : Int32} {tgt : Nat} (hd : decode M.cc pc = .ok (.tableswitch dflt l0 hi offs, len)) (h : x.toInt < l0 ∨ hi < x.toInt) (ht : (pc : Int) + dflt = (tgt : Int)) (k : Ex M d kc ks Q tgt lo st g I L) : Ex M d kc ks Q pc lo (vI x :: st) g I L := by
  intro D K b b0 SA p l e R s m args below meth c H locs cells slots mc ms ls C hc hs hz hS hl
  exact lv_tableOut C.1.1 C.1.2.1 hd h ht (k D K b b0 SA p l e R s m args below meth c H locs cells slots mc ms ls C hc hs hz hS hl)
theorem Ex_tableIn {dflt l0 hi : Int} {offs : Array Int} {len : Nat} {x : Int32} {off : Int} {tgt : Nat} (hd : decode M.cc pc = .ok (.tableswitch dflt l0 hi offs, len)) (h1 : ¬ x.toInt < l0) (h2 : ¬ hi < x.toInt) (ho : offs[(x.toInt - l0).toNat]? = some off) (ht : (pc : Int) + off = (tgt : Int)) (k : Ex M d kc ks Q tgt lo st g I L) : Ex M d kc ks Q pc lo (vI x :: st) g I L := by
  intro D K b b0 SA p l e R s m args below meth c H locs cells slots mc ms ls C hc hs hz hS hl
  exact lv_tableIn C.1.1 C.1.2.1 hd h1 h2 ho ht (k D K b b0 SA p l e R s m args below meth c H locs cells slots mc ms ls C hc hs hz hS hl)
/-- ends -/
theorem Ex_ireturn {v : Int32} (hr : M.ret = some .int) (hd : decode M.cc pc = .ok (.ireturn, 1)) (hq : Q (.inl (some (vI v))) g I L) : Ex M d kc ks Q pc lo [vI v] g I L := by
  intro D K b b0 SA p l e R s m args below meth c H locs cells slots mc ms ls C hc hs hz hS hl
  refine W.widen (k := mc) (n := ms) (by omega) (by omega) (vx_ret ?_)
  have hlk := C.1.2.2.2.2.1
  exact W.iret (v := v) C.1.1 C.1.2.1 (C.1.2.2.2.1.trans hr) (fun t ht hW => ⟨⟨some (vI v), g, I, L, rfl, hq, by rw [ht]; exact hz⟩, hS.F ht⟩) hS.2.2 hd
theorem Ex_zreturn {v : Int32} (hr : M.ret = some .boolean) (hv : v = 0 ∨ v = 1) (hd : decode M.cc pc = .ok (.ireturn, 1)) (hq : Q (.inl (some (vI v))) g I L) : Ex M d kc ks Q pc lo [vI v] g I L := by
  intro D K b b0 SA p l e R s m args below meth c H locs cells slots mc ms ls C hc hs hz hS hl
  refine W.widen (k := mc) (n := ms) (by omega) (by omega) (vx_ret ?_)
  have hlk := C.1.2.2.2.2.1
  exact W.zret (v := v) C.1.1 C.1.2.1 (C.1.2.2.2.1.trans hr) (by rcases hv with rfl | rfl <;> rfl) (fun t ht hW => ⟨⟨some (vI v), g, I, L, rfl, hq, by rw [ht]; exact hz⟩, hS.F ht⟩) hS.2.2 hd
theorem Ex_return (hr : M.ret = none) (hd : decode M.cc pc = .ok (.return_, 1)) (hq : Q (.inl none) g I L) : Ex M d kc ks Q pc lo [] g I L := by
  intro D K b b0 SA p l e R s m args below meth c H locs cells slots mc ms ls C hc hs hz hS hl
  refine W.widen (k := mc) (n := ms) (by omega) (by omega) (vx_ret ?_)
  have hlk := C.1.2.2.2.2.1
  exact W.vret C.1.1 C.1.2.1 (C.1.2.2.2.1.trans hr) (fun t ht hW => ⟨⟨none, g, I, L, rfl, hq, by rw [ht]; exact hz⟩, hS.F ht⟩) hS.2.2 hd
theorem Ex_areturn {r : Option Nat} {C0 : String} (hr : M.ret = some (.object C0)) (hd : decode M.cc pc = .ok (.areturn, 1)) (hq : Q (.inl (some (vD r))) g I L) : Ex M d kc ks Q pc lo [vD r] g I L := by
  intro D K b b0 SA p l e R s m args below meth c H locs cells slots mc ms ls C hc hs hz hS hl
  refine W.widen (k := mc) (n := ms) (by omega) (by omega) (vx_ret ?_)
  have hlk := C.1.2.2.2.2.1
  exact W.aret (v := va_rf (r.map (qa b b0))) C.1.1 C.1.2.1 (C.1.2.2.2.1.trans hr) (Or.inl ⟨_, rfl⟩) (by cases r with | none => exact Or.inl rfl | some a => exact Or.inr ⟨_, rfl⟩) (fun t ht hW => ⟨⟨some (vD r), g, I, L, rfl, hq, by rw [ht]; exact hz⟩, hS.F ht⟩) hS.2.2 hd
theorem Ex_mono {Q' : aQ} (h : ∀ o g I L, Q' o g I L → Q o g I L) (k : Ex M d kc ks Q' pc lo st g I L) : Ex M d kc ks Q pc lo st g I L := by
  intro D K b b0 SA p l e R s m args below meth c H locs cells slots mc ms ls C hc hs hz hS hl
  intro T hT X
  obtain ⟨t, a1, o, b1, b2, b3⟩ := k D K b b0 SA p l e R s m args below meth c H locs cells slots mc ms ls C hc hs hz hS hl T hT X
  refine ⟨t, a1, o, b1, b2, ?_⟩
  rcases b3 with ⟨⟨⟨v, g', I', L', e1, e2, e3⟩, e4⟩, e5⟩ | ⟨q, e0, E, ce, L0, ⟨g', I', L', e1, e2, e3⟩, e4⟩
  · exact Or.inl ⟨⟨⟨v, g', I', L', e1, h _ _ _ _ e2, e3⟩, e4⟩, e5⟩
  · exact Or.inr ⟨q, e0, E, ce, L0, ⟨g', I', L', h _ _ _ _ e1, e2, e3⟩, e4⟩
end Rules
end
section
/-! fields and arrays -/
theorem qa_inj {b b0 i j : Nat} (h : b < b0) (e : qa b b0 i = qa b b0 j) : i = j := by
  cases i <;> cases j <;> simp only [qa] at e <;> omega
theorem qW : ∀ (ci : Nat) (q : vw_C), qC[ci]? = some q → ∀ w ∈ u_ws q.1 q.2.1 q.2.2, w ∈ gT := by
  intro ci q h
  match ci, h with
  | 0, h => cases h; exact gT_of gX1
  | 1, h => cases h; exact gT_of gX1
  | 2, h => cases h; exact gT_of gX2
  | 3, h => cases h; exact gT_of gX3
  | 4, h => cases h; exact gT_of gX4
  | 5, h => cases h; exact gT_of gX5
  | 6, h => cases h; exact gT_of gX6
  | 7, h => cases h; exact gT_of gX7
  | 8, h => cases h; exact gT_of gX8
  | 9, h => cases h; exact gT_of gX9
  | n + 10, h => simp at h
theorem qty_ok : ∀ (ci : Nat) (q : vw_C), qC[ci]? = some q → ∀ k, k < q.2.2 → parseFieldDescriptor (q.2.1 k).2.2.1 = some (qt ci k) := by
  intro ci q h
  match ci, h with
  | 0, h => cases h; exact tyX1_ok
  | 1, h => cases h; exact tyX1_ok
  | 2, h => cases h; exact tyX2_ok
  | 3, h => cases h; exact tyX3_ok
  | 4, h => cases h; exact tyX4_ok
  | 5, h => cases h; exact tyX5_ok
  | 6, h => cases h; exact tyX6_ok
  | 7, h => cases h; exact tyX7_ok
  | 8, h => cases h; exact tyX8_ok
  | 9, h => cases h; exact tyX9_ok
  | n + 10, h => simp at h
theorem qnm : ∀ (ci : Nat) (q : vw_C), qC[ci]? = some q → ∀ a, a < q.2.2 → ∀ b, b < q.2.2 → a ≠ b → (q.2.1 a).2.1 ≠ (q.2.1 b).2.1 := by
  intro ci q h
  match ci, h with
  | 0, h => cases h; exact nmX1
  | 1, h => cases h; exact nmX1
  | 2, h => cases h; exact nmX2
  | 3, h => cases h; exact nmX3
  | 4, h => cases h; exact nmX4
  | 5, h => cases h; exact nmX5
  | 6, h => cases h; exact nmX6
  | 7, h => cases h; exact nmX7
  | 8, h => cases h; exact nmX8
  | 9, h => cases h; exact nmX9
  | n + 10, h => simp at h
def fOk (M : aM) (idx ci k : Nat) : Prop := ∃ q : vw_C, qC[ci]? = some q ∧ k < q.2.2 ∧ Cond.fieldLink M.y.cls idx (q.2.1 k).1 (q.2.1 k).2.1 (q.2.1 k).2.2.1 ∈ gT
def fFin (ci k : Nat) : Bool := match qC[ci]? with
  | some q => (q.2.1 k).2.2.2
  | none => true
theorem qc_other {D : va_G} {K : FieldType → ClassId} {ad : Nat → Nat} {R R' : Nat → Nat → Option Nat} {I I' : aI} {L L' : aL} {H H1 : Heap} {j : Nat} {c : aSh} (hI : ∀ k, I' j k = I j k) (hR : ∀ k, R' j k = R j k) (hL : L' j = L j) (hH : H1[ad j]? = H[ad j]?) (h : qc D K ad R I L H j c) : qc D K ad R' I' L' H1 j c := by
  rcases c with ci | ⟨ty, n⟩
  · obtain ⟨r, h1, h2⟩ := h
    exact ⟨r, h1, (h2.kept hH).to (fun k _ => by simp only [qF, hI, hR])⟩
  · have h1 : H[ad j]? = some (arrV (K ty) n (qE ad I R L ty j)) := h
    have e : qE ad I' R' L' ty j = qE ad I R L ty j := by
      funext k
      cases ty <;> simp only [qE, hI, hR, hL]
    show H1[ad j]? = some (arrV (K ty) n (qE ad I' R' L' ty j))
    rw [e, hH]; exact h1
theorem qz.put {D : va_G} {K : FieldType → ClassId} {b b0 : Nat} {g : aG} {R' : Nat → Nat → Option Nat} {I I' : aI} {L L' : aL} {H H1 : Heap} {i : Nat} {c : aSh} (hz : qz D K b b0 g I L H) (hb : b < b0) (hi : g.2.1 i = some c) (hs : H1.size = H.size) (ho : ∀ q, q ≠ qa b b0 i → H1[q]? = H[q]?)
    (hI : ∀ j k, j ≠ i → I' j k = I j k) (hR : ∀ j k, j ≠ i → R' j k = g.2.2 j k) (hL : ∀ j, j ≠ i → L' j = L j) (hself : qc D K (qa b b0) R' I' L' H1 i c) : qz D K b b0 (g.1, g.2.1, R') I' L' H1 := by
  obtain ⟨⟨h1, h2, h3⟩, h4⟩ := hz
  refine ⟨⟨by rw [hs]; exact h1, h2, h3⟩, fun j c' hj => ?_⟩
  by_cases e : j = i
  · subst e
    have e2 : c' = c := Option.some.inj ((show g.2.1 j = some c' from hj).symm.trans hi)
    subst e2
    exact hself
  · exact qc_other (fun k => hI j k e) (fun k => hR j k e) (hL j e) (ho _ (fun q => e (qa_inj hb q))) (h4 j c' hj)
theorem qA_id {D : va_G} {K : FieldType → ClassId} {b b0 : Nat} {i : Nat} (h0 : i ≠ 0) : qA b0 (qa b b0 i) := by
  cases i with
  | zero => exact absurd rfl h0
  | succ i => exact Nat.le_add_right _ _
theorem va_Sput {A : Nat → Prop} {H0 H H1 : Heap} {locs : List Loc} {a k : Nat} (h : va_S A H0 H locs) (z : H1.size = H.size) (oq : ∀ q : Nat, q ≠ a → H1[q]? = H[q]?) (ha : A a) : va_S A H0 H1 (locs ++ [⟨a, k⟩]) := h.put z oq ha
section Heap
variable {M : aM} {d kc ks : Nat} {Q : aQ} {pc : Nat} {lo : List (Option aV)} {st : List aV} {g : aG} {I : aI} {L : aL}
theorem Ex_getI {i ci k idx : Nat} (fk : fOk M idx ci k) (hI : isI (qt ci k) = true) (hi : g.2.1 i = some (.inl ci)) (hd : decode M.cc pc = .ok (.getfield idx, 3)) (kk : Ex M d kc ks Q (pc + 3) lo (vI (I i k) :: st) g I L) : Ex M d kc ks Q pc lo (vS i :: st) g I L := by
  intro D K b b0 SA p l e R s m args below meth c H locs cells slots mc ms ls C hc hs hz hS hl
  obtain ⟨q, hq, hk, hw⟩ := fk
  obtain ⟨r, h1, cell, q1, q2, q3, q4⟩ := hz.2 i _ hi
  have hr : r = q := Option.some.inj (h1.symm.trans hq)
  subst hr
  obtain ⟨hS2, hfc, kC, hkC, hkind⟩ := C.2.2.2.2.2.2.1.1 ci _ hq
  obtain ⟨cf, kf, fi, f, hf, hsl⟩ := hS2 k hk
  refine W.getf C.1.1 C.1.2.1 C.1.2.2.2.2.2.1 (C.2.1 _ hw) hf (u_facts hfc hkC (u_lays C.2.1 (qW ci _ hq) hk) hf).1 q1 (by rw [q3]; exact fun h => by cases h) (v := .int (I i k)) ?_ rfl rfl hd (kk D K b b0 SA p l e R s m args below meth c H locs cells slots mc ms ls C hc hs hz hS hl)
  rw [hsl, q4 k hk]
  simp only [qF, hI, if_true]
theorem Ex_getR {i ci k idx : Nat} (fk : fOk M idx ci k) (hI : isI (qt ci k) = false) (hi : g.2.1 i = some (.inl ci)) (hd : decode M.cc pc = .ok (.getfield idx, 3)) (kk : Ex M d kc ks Q (pc + 3) lo (vD (g.2.2 i k) :: st) g I L) : Ex M d kc ks Q pc lo (vS i :: st) g I L := by
  intro D K b b0 SA p l e R s m args below meth c H locs cells slots mc ms ls C hc hs hz hS hl
  obtain ⟨q, hq, hk, hw⟩ := fk
  obtain ⟨r, h1, cell, q1, q2, q3, q4⟩ := hz.2 i _ hi
  have hr : r = q := Option.some.inj (h1.symm.trans hq)
  subst hr
  obtain ⟨hS2, hfc, kC, hkC, hkind⟩ := C.2.2.2.2.2.2.1.1 ci _ hq
  obtain ⟨cf, kf, fi, f, hf, hsl⟩ := hS2 k hk
  refine W.getf C.1.1 C.1.2.1 C.1.2.2.2.2.2.1 (C.2.1 _ hw) hf (u_facts hfc hkC (u_lays C.2.1 (qW ci _ hq) hk) hf).1 q1 (by rw [q3]; exact fun h => by cases h) (v := va_rf ((g.2.2 i k).map (qa b b0))) ?_ rfl rfl hd (kk D K b b0 SA p l e R s m args below meth c H locs cells slots mc ms ls C hc hs hz hS hl)
  rw [hsl, q4 k hk]
  simp [qF, hI]
/-- how a field's value fits: an int any; a boolean 0 or 1 -/
def fitI (ty : FieldType) (v : Int32) : Prop := match ty with
  | .boolean => v = 0 ∨ v = 1
  | _ => True
theorem fitI_n {ty : FieldType} {v : Int32} (hI : isI ty = true) (h : fitI ty v) : narrow ty (.int v) = .int v ∧ fits ty (.int v) = true := by
  cases ty <;> simp only [isI] at hI <;> first | contradiction | skip
  · exact ⟨rfl, rfl⟩
  · have h1 : v = 0 ∨ v = 1 := h
    rcases h1 with rfl | rfl <;> exact ⟨rfl, rfl⟩
def fPut (M : aM) (ci k : Nat) : Prop := fFin ci k = false ∨ (M.y.name = "<init>" ∧ ∃ q : vw_C, qC[ci]? = some q ∧ (q.2.1 k).1 = M.y.cls)
theorem W_put {D : va_G} {K : FieldType → ClassId} {b b0 : Nat} {SA : Nat → Nat} {p : Program} {l : Launch} {e : Env} {R : Room} {s : State} {m : MethodId} {args : Array Value} {below : List Frame} {meth : Method} {c : Code} {H : Heap} {locs : List Loc} {cells slots mc ms : Nat} {ls : Array Slot} {Z : State → Prop} {rest : List Value}
    {i ci k idx : Nat} {v : Value} (C : Cx D K b b0 SA M d p l R s m args meth c mc ms) (fk : fOk M idx ci k) (fp : fPut M ci k) (hn : narrow (qt ci k) v = v ∧ fits (qt ci k) v = true) (hz : qz D K b b0 g I L H) (hi : g.2.1 i = some (.inl ci)) (hd : decode M.cc pc = .ok (.putfield idx, 3))
    (kk : ∀ (H1 : Heap) (j : Nat) (r : vw_C), qC[ci]? = some r → t_OB (qa b b0 i) (D.1 ci) r.2.2 (D.2 ci) H1 (updV (qF (qa b b0) I g.2.2 ci i) k v) → H1.size = H.size → (∀ q, q ≠ qa b b0 i → H1[q]? = H[q]?) → W p l e R s m args below meth c H1 (locs ++ [⟨qa b b0 i, j⟩]) cells slots Z (F0 m (pc + 3) ls rest)) :
    W p l e R s m args below meth c H locs cells slots Z (F0 m pc ls (v :: .ref (qa b b0 i) :: rest)) := by
  obtain ⟨r, hq, hk, hw⟩ := fk
  obtain ⟨r', h1, cell, q1, q2, q3, q4⟩ := hz.2 i _ hi
  have hr : r' = r := Option.some.inj (h1.symm.trans hq)
  subst hr
  have hK1 := C.2.2.2.2.2.2.1.1 ci _ hq
  obtain ⟨hS2, hfc, kC, hkC, hkind⟩ := id hK1
  obtain ⟨cf, kf, fi, f, hf, hsl⟩ := hS2 k hk
  have hlay := C.2.1 _ (qW ci _ hq _ (u_in_lay hk))
  have hst := (u_facts hfc hkC (u_lays C.2.1 (qW ci _ hq) hk) hf).1
  have hap : ∀ x y, x < r'.2.2 → y < r'.2.2 → x ≠ y → (D.2 ci) x ≠ (D.2 ci) y := by
    intro x y hx hy hne
    obtain ⟨_, _, _, fa, hia, ea⟩ := hS2 x hx
    obtain ⟨_, _, _, fb, hib, eb⟩ := hS2 y hy
    rw [← ea, ← eb]
    refine u_apart (u_lays C.2.1 (qW ci _ hq) hx) (u_lays C.2.1 (qW ci _ hq) hy) hia hib ?_
    rw [(State.fieldFound?_type hia (qty_ok ci _ hq x hx)).1, (State.fieldFound?_type hib (qty_ok ci _ hq y hy)).1]
    exact qnm ci _ hq x hx y hy hne
  unfold u_lay at hlay
  by_cases hf2 : (r'.2.1 k).2.2.2 = true
  · rcases fp with fp | ⟨fp1, q9, fp2, fp3⟩
    · exact absurd hf2 (by simpa [fFin, hq] using fp)
    · have e9 : q9 = r' := Option.some.inj (fp2.symm.trans hq)
      subst e9
      rw [if_pos hf2] at hlay
      have hcf : m.cls = cf := by
        obtain ⟨_, _, c', _, _, _, -, -, hf', -, -, -, hown2, -⟩ := Cond.laysFinal_spec hlay
        have e1 : c' = cf := by have := hf.symm.trans hf'; simp at this; exact this.1.symm
        rw [fp3] at hown2
        rw [← e1]; exact Option.some.inj (C.1.2.2.2.2.2.1.symm.trans hown2)
      have h6 := u_fits hfc hkC hkind (Or.inr hlay) hf (qty_ok ci _ hq k hk) hn.1 hn.2
      refine W.putFinK C.1.1 C.1.2.1 C.1.2.2.2.2.2.1 (C.2.1 _ hw) hf hst hcf (C.1.2.2.2.2.2.2.trans fp1) (by rw [q2]; exact h6) q1 q3 (by rw [hsl]; exact k2_hasslot (q4 k hk)) rfl rfl hd fun H1 e1 e2 e3 => ?_
      rw [hsl] at e1
      exact kk H1 _ q9 hq ⟨_, e1, q2, q3, t_set q4 hap hk v⟩ e2 e3
  · rw [if_neg hf2] at hlay
    have h6 := u_store hfc hkC hkind hlay hf (qty_ok ci _ hq k hk) hn.1 hn.2
    refine W.putK C.1.1 C.1.2.1 (f := f) ⟨C.1.2.2.2.2.2.1, C.2.1 _ hw, ⟨_, _, _, hf⟩, hst⟩ (by rw [q2]; exact h6) q1 q3 (by rw [hsl]; exact k2_hasslot (q4 k hk)) rfl rfl hd fun H1 e1 e2 e3 => ?_
    rw [hsl] at e1
    exact kk H1 _ r' hq ⟨_, e1, q2, q3, t_set q4 hap hk v⟩ e2 e3
theorem Ex_putI {i ci k idx : Nat} {v : Int32} (fk : fOk M idx ci k) (fp : fPut M ci k) (hI : isI (qt ci k) = true) (hfit : fitI (qt ci k) v) (hi : g.2.1 i = some (.inl ci)) (h0 : i ≠ 0) (hd : decode M.cc pc = .ok (.putfield idx, 3)) (kk : Ex M d kc ks Q (pc + 3) lo st g (up2 I i k v) L) : Ex M d kc ks Q pc lo (vI v :: vS i :: st) g I L := by
  intro D K b b0 SA p l e R s m args below meth c H locs cells slots mc ms ls C hc hs hz hS hl
  refine W_put C fk fp (fitI_n hI hfit) hz hi hd fun H1 j0 r hq hob e2 e3 => ?_
  have hz' := hz.put (R' := g.2.2) (I' := up2 I i k v) (L' := L) C.2.2.2.2.2.1.1 hi e2 e3 (fun j m hj => by simp [up2, hj]) (fun _ _ _ => rfl) (fun _ _ => rfl)
    ⟨r, hq, hob.to (fun j _ => by
      by_cases hj : j = k
      · subst hj; simp [updV, qF, hI, up2]; rfl
      · simp [updV, qF, up2, hj])⟩
  exact kk D K b b0 SA p l e R s m args below meth c H1 _ cells slots mc ms ls C hc hs hz' (hS.put e2 e3 (qA_id (D := D) (K := K) h0)) hl
def isRt (ty : FieldType) : Bool := match ty with
  | .object _ => true
  | .array _ => true
  | _ => false
theorem isRt_n {ty : FieldType} (h : isRt ty = true) (r : Option Nat) : (narrow ty (va_rf r) = va_rf r ∧ fits ty (va_rf r) = true) ∧ isI ty = false := by
  cases ty <;> simp only [isRt] at h <;> first | contradiction | skip
  all_goals (cases r <;> exact ⟨⟨rfl, rfl⟩, rfl⟩)
theorem Ex_putR {i ci k idx : Nat} {x : Option Nat} (fk : fOk M idx ci k) (fp : fPut M ci k) (hI : isRt (qt ci k) = true) (hi : g.2.1 i = some (.inl ci)) (h0 : i ≠ 0) (hd : decode M.cc pc = .ok (.putfield idx, 3)) (kk : Ex M d kc ks Q (pc + 3) lo st (g.1, g.2.1, up2 g.2.2 i k x) I L) : Ex M d kc ks Q pc lo (vD x :: vS i :: st) g I L := by
  intro D K b b0 SA p l e R s m args below meth c H locs cells slots mc ms ls C hc hs hz hS hl
  refine W_put C fk fp (isRt_n hI (x.map (qa b b0))).1 hz hi hd fun H1 j0 r hq hob e2 e3 => ?_
  have hn := (isRt_n hI x).2
  have hz' := hz.put (R' := up2 g.2.2 i k x) (I' := I) (L' := L) C.2.2.2.2.2.1.1 hi e2 e3 (fun _ _ _ => rfl) (fun j m hj => by simp [up2, hj]) (fun _ _ => rfl)
    ⟨r, hq, hob.to (fun j _ => by
      by_cases hj : j = k
      · subst hj; simp [updV, qF, hn, up2]; rfl
      · simp [updV, qF, up2, hj])⟩
  exact kk D K b b0 SA p l e R s m args below meth c H1 _ cells slots mc ms ls C hc hs hz' (hS.put e2 e3 (qA_id (D := D) (K := K) h0)) hl
/-! arrays -/
theorem arr_at {D : va_G} {K : FieldType → ClassId} {b b0 : Nat} {H : Heap} (hz : qz D K b b0 g I L H) {i n : Nat} {ty : FieldType} (hi : g.2.1 i = some (.inr (ty, n))) : H[qa b b0 i]? = some (arrV (K ty) n (qE (qa b b0) I g.2.2 L ty i)) := hz.2 i _ hi
theorem arr_put {D : va_G} {K : FieldType → ClassId} {b b0 : Nat} {H H1 : Heap} {R' : Nat → Nat → Option Nat} {I' : aI} {L' : aL} (hz : qz D K b b0 g I L H) (hb : b < b0) {i n k : Nat} {ty : FieldType} {v : Value} (hi : g.2.1 i = some (.inr (ty, n))) (e : H1[qa b b0 i]? = some ((arrV (K ty) n (qE (qa b b0) I g.2.2 L ty i)).setSlot k v)) (hs : H1.size = H.size) (ho : ∀ q, q ≠ qa b b0 i → H1[q]? = H[q]?)
    (hI : ∀ j k, j ≠ i → I' j k = I j k) (hR : ∀ j k, j ≠ i → R' j k = g.2.2 j k) (hL : ∀ j, j ≠ i → L' j = L j) (hv : ∀ j, j < n → updV (qE (qa b b0) I g.2.2 L ty i) k v j = qE (qa b b0) I' R' L' ty i j) : qz D K b b0 (g.1, g.2.1, R') I' L' H1 := by
  refine hz.put hb hi hs ho hI hR hL ?_
  show H1[qa b b0 i]? = some (arrV (K ty) n (qE (qa b b0) I' R' L' ty i))
  rw [e, arrV_store]
  congr 1
  unfold arrV
  congr 1
  apply Array.ext_getElem?
  intro j
  by_cases hj : j < n
  · simp [hj, hv j hj]
  · simp [hj]
theorem Ex_iald {i n : Nat} {j : Int32} (hi : g.2.1 i = some (.inr (.int, n))) (hj : vp_in j n) (hd : decode M.cc pc = .ok (.iaload, 1)) (kk : Ex M d kc ks Q (pc + 1) lo (vI (I i j.toNatClampNeg) :: st) g I L) : Ex M d kc ks Q pc lo (vI j :: vS i :: st) g I L := by
  intro D K b b0 SA p l e R s m args below meth c H locs cells slots mc ms ls C hc hs hz hS hl
  have hlt : j.toNatClampNeg < n := Nat.not_le.mp fun q => hj (Or.inr q)
  exact W.iald (v := .int (I i j.toNatClampNeg)) C.1.1 C.1.2.1 (arr_at hz hi) ((C.2.2.2.2.2.2.1.2.1 .int (by simp [qTy])).1 n _) (fun q => by cases q) (by rw [arrV_size]; exact hj) (by rw [arrV_read _ _ hlt]; rfl) rfl rfl hd (kk D K b b0 SA p l e R s m args below meth c H locs cells slots mc ms ls C hc hs hz hS hl)
theorem Ex_zald {i n : Nat} {j : Int32} (hi : g.2.1 i = some (.inr (.boolean, n))) (hj : vp_in j n) (hd : decode M.cc pc = .ok (.baload, 1)) (kk : Ex M d kc ks Q (pc + 1) lo (vI (I i j.toNatClampNeg) :: st) g I L) : Ex M d kc ks Q pc lo (vI j :: vS i :: st) g I L := by
  intro D K b b0 SA p l e R s m args below meth c H locs cells slots mc ms ls C hc hs hz hS hl
  have hlt : j.toNatClampNeg < n := Nat.not_le.mp fun q => hj (Or.inr q)
  exact W.zald (v := .int (I i j.toNatClampNeg)) C.1.1 C.1.2.1 (arr_at hz hi) ((C.2.2.2.2.2.2.1.2.1 .boolean (by simp [qTy])).1 n _) (fun q => by cases q) (by rw [arrV_size]; exact hj) (by rw [arrV_read _ _ hlt]; rfl) rfl rfl hd (kk D K b b0 SA p l e R s m args below meth c H locs cells slots mc ms ls C hc hs hz hS hl)
theorem Ex_lald {i n : Nat} {j : Int32} (hi : g.2.1 i = some (.inr (.long, n))) (hj : vp_in j n) (hd : decode M.cc pc = .ok (.laload, 1)) (kk : Ex M d kc ks Q (pc + 1) lo (vJ (L i) :: st) g I L) : Ex M d kc ks Q pc lo (vI j :: vS i :: st) g I L := by
  intro D K b b0 SA p l e R s m args below meth c H locs cells slots mc ms ls C hc hs hz hS hl
  have hlt : j.toNatClampNeg < n := Nat.not_le.mp fun q => hj (Or.inr q)
  exact W.lald (v := .long (L i)) C.1.1 C.1.2.1 (arr_at hz hi) ((C.2.2.2.2.2.2.1.2.1 .long (by simp [qTy])).1 n _) (fun q => by cases q) (by rw [arrV_size]; exact hj) (by rw [arrV_read _ _ hlt]; rfl) rfl rfl hd (kk D K b b0 SA p l e R s m args below meth c H locs cells slots mc ms ls C hc hs hz hS hl)
theorem Ex_aald {i n : Nat} {j : Int32} {T0 : String} (hT : T0 = RX7 ∨ T0 = RX6) (hi : g.2.1 i = some (.inr (.object T0, n))) (hj : vp_in j n) (hd : decode M.cc pc = .ok (.aaload, 1)) (kk : Ex M d kc ks Q (pc + 1) lo (vD (g.2.2 i j.toNatClampNeg) :: st) g I L) : Ex M d kc ks Q pc lo (vI j :: vS i :: st) g I L := by
  intro D K b b0 SA p l e R s m args below meth c H locs cells slots mc ms ls C hc hs hz hS hl
  have hlt : j.toNatClampNeg < n := Nat.not_le.mp fun q => hj (Or.inr q)
  exact W.aald (v := va_rf ((g.2.2 i j.toNatClampNeg).map (qa b b0))) (ty := .object T0) C.1.1 C.1.2.1 (arr_at hz hi) ((C.2.2.2.2.2.2.1.2.1 (.object T0) (by rcases hT with rfl | rfl <;> simp [qTy])).1 n _) rfl (fun q => by cases q) (by rw [arrV_size]; exact hj) (by rw [arrV_read _ _ hlt]; rfl) rfl rfl hd (kk D K b b0 SA p l e R s m args below meth c H locs cells slots mc ms ls C hc hs hz hS hl)
theorem Ex_alen {i n : Nat} {ty : FieldType} (hT : ty ∈ qTy) (hi : g.2.1 i = some (.inr (ty, n))) (hd : decode M.cc pc = .ok (.arraylength, 1)) (kk : Ex M d kc ks Q (pc + 1) lo (vI (Int32.ofNat n) :: st) g I L) : Ex M d kc ks Q pc lo (vS i :: st) g I L := by
  intro D K b b0 SA p l e R s m args below meth c H locs cells slots mc ms ls C hc hs hz hS hl
  exact W.alen (n := Int32.ofNat n) C.1.1 C.1.2.1 (arr_at hz hi) ((C.2.2.2.2.2.2.1.2.1 ty hT).1 n _) (by rw [arrV_size] <;> rfl) rfl rfl hd (kk D K b b0 SA p l e R s m args below meth c H locs cells slots mc ms ls C hc hs hz hS hl)
theorem Ex_iast {i n : Nat} {j v : Int32} (hi : g.2.1 i = some (.inr (.int, n))) (h0 : i ≠ 0) (hj : vp_in j n) (hd : decode M.cc pc = .ok (.iastore, 1)) (kk : Ex M d kc ks Q (pc + 1) lo st g (up2 I i j.toNatClampNeg v) L) : Ex M d kc ks Q pc lo (vI v :: vI j :: vS i :: st) g I L := by
  intro D K b b0 SA p l e R s m args below meth c H locs cells slots mc ms ls C hc hs hz hS hl
  refine W.iast C.1.1 C.1.2.1 (arr_at hz hi) ((C.2.2.2.2.2.2.1.2.1 .int (by simp [qTy])).1 n _) (fun q => by cases q) (by rw [arrV_size]; exact hj) rfl rfl hd fun H1 e1 e2 e3 => ?_
  have hz' := arr_put (R' := g.2.2) (I' := up2 I i j.toNatClampNeg v) (L' := L) hz C.2.2.2.2.2.1.1 hi e1 e2 e3 (fun j m hj => by simp [up2, hj]) (fun _ _ _ => rfl) (fun _ _ => rfl) (fun m _ => by
    by_cases hm : m = j.toNatClampNeg
    · subst hm; simp [updV, qE, up2]
    · simp [updV, qE, up2, hm])
  exact kk D K b b0 SA p l e R s m args below meth c H1 _ cells slots mc ms ls C hc hs hz' (hS.put e2 e3 (qA_id (D := D) (K := K) h0)) hl
theorem Ex_zast {i n : Nat} {j v : Int32} (hi : g.2.1 i = some (.inr (.boolean, n))) (h0 : i ≠ 0) (hv : v = 0 ∨ v = 1) (hj : vp_in j n) (hd : decode M.cc pc = .ok (.bastore, 1)) (kk : Ex M d kc ks Q (pc + 1) lo st g (up2 I i j.toNatClampNeg v) L) : Ex M d kc ks Q pc lo (vI v :: vI j :: vS i :: st) g I L := by
  intro D K b b0 SA p l e R s m args below meth c H locs cells slots mc ms ls C hc hs hz hS hl
  have hn : narrow .boolean (.int v) = .int v := by rcases hv with rfl | rfl <;> rfl
  refine W.zast C.1.1 C.1.2.1 (arr_at hz hi) ((C.2.2.2.2.2.2.1.2.1 .boolean (by simp [qTy])).1 n _) (fun q => by cases q) (by rw [arrV_size]; exact hj) rfl rfl hd fun H1 e1 e2 e3 => ?_
  rw [hn] at e1
  have hz' := arr_put (R' := g.2.2) (I' := up2 I i j.toNatClampNeg v) (L' := L) hz C.2.2.2.2.2.1.1 hi e1 e2 e3 (fun j m hj => by simp [up2, hj]) (fun _ _ _ => rfl) (fun _ _ => rfl) (fun m _ => by
    by_cases hm : m = j.toNatClampNeg
    · subst hm; simp [updV, qE, up2]
    · simp [updV, qE, up2, hm])
  exact kk D K b b0 SA p l e R s m args below meth c H1 _ cells slots mc ms ls C hc hs hz' (hS.put e2 e3 (qA_id (D := D) (K := K) h0)) hl
theorem Ex_last {i : Nat} {j : Int32} {v : Int64} (hi : g.2.1 i = some (.inr (.long, 1))) (h0 : i ≠ 0) (hj : vp_in j 1) (hd : decode M.cc pc = .ok (.lastore, 1)) (kk : Ex M d kc ks Q (pc + 1) lo st g I (up1 L i v)) : Ex M d kc ks Q pc lo (vJ v :: vI j :: vS i :: st) g I L := by
  intro D K b b0 SA p l e R s m args below meth c H locs cells slots mc ms ls C hc hs hz hS hl
  have hlt : j.toNatClampNeg < 1 := Nat.not_le.mp fun q => hj (Or.inr q)
  refine W.last C.1.1 C.1.2.1 (arr_at hz hi) ((C.2.2.2.2.2.2.1.2.1 .long (by simp [qTy])).1 1 _) (fun q => by cases q) (by rw [arrV_size]; exact hj) rfl rfl hd fun H1 e1 e2 e3 => ?_
  have hz' := arr_put (R' := g.2.2) (I' := I) (L' := up1 L i v) hz C.2.2.2.2.2.1.1 hi e1 e2 e3 (fun _ _ _ => rfl) (fun _ _ _ => rfl) (fun j hj => by simp [up1, hj]) (fun m hm => by
    have h1 : m = j.toNatClampNeg := by omega
    subst h1
    simp [updV, qE, up1])
  exact kk D K b b0 SA p l e R s m args below meth c H1 _ cells slots mc ms ls C hc hs hz' (hS.put e2 e3 (qA_id (D := D) (K := K) h0)) hl
/-- an object of the right class into an array of objects -/
theorem Ex_aast {i n x ci : Nat} {j : Int32} {q : vw_C} (hq : qC[ci]? = some q) (hT : q.1 = RX7 ∨ q.1 = RX6) (hi : g.2.1 i = some (.inr (.object q.1, n))) (h0 : i ≠ 0) (hx : g.2.1 x = some (.inl ci)) (hj : vp_in j n) (hd : decode M.cc pc = .ok (.aastore, 1)) (kk : Ex M d kc ks Q (pc + 1) lo st (g.1, g.2.1, up2 g.2.2 i j.toNatClampNeg (some x)) I L) : Ex M d kc ks Q pc lo (vD (some x) :: vI j :: vS i :: st) g I L := by
  intro D K b b0 SA p l e R s m args below meth c H locs cells slots mc ms ls C hc hs hz hS hl
  have hlt : j.toNatClampNeg < n := Nat.not_le.mp fun q => hj (Or.inr q)
  have hj0 : ¬ j < 0 := fun q => hj (Or.inl q)
  obtain ⟨r', hr', cellV, g1, g2, g3, -⟩ := hz.2 x _ hx
  have hcls := (C.2.2.2.2.2.2.1.1 ci q hq).2
  obtain ⟨kA, comp, k1, k2, k3, -⟩ := (C.2.2.2.2.2.2.1.2.1 (.object q.1) (by rcases hT with h | h <;> rw [h] <;> simp [qTy])).2
  have hcomp : comp = D.1 ci := Option.some.inj (k3.symm.trans hcls.1)
  subst hcomp
  obtain ⟨kC, hkC, -⟩ := id hcls.2
  refine W.aast C.1.1 C.1.2.1 (arr_at hz hi) (fun q h => by cases h) (fun h => by cases h) k1 k2 rfl hkC ⟨hj0, by rw [arrV_size]; exact hlt⟩ g1 (fun q h => by rw [g3] at h; cases h) (by rw [g2]; exact hkC) (by rw [g2]; exact va_assign hcls) rfl rfl hd fun H1 e1 e2 e3 => ?_
  have hz' := arr_put (R' := up2 g.2.2 i j.toNatClampNeg (some x)) (I' := I) (L' := L) hz C.2.2.2.2.2.1.1 hi e1 e2 e3 (fun _ _ _ => rfl) (fun j m hj => by simp [up2, hj]) (fun _ _ => rfl) (fun m _ => by
    by_cases hm : m = j.toNatClampNeg
    · subst hm; simp [updV, qE, up2]; rfl
    · simp [updV, qE, up2, hm])
  exact kk D K b b0 SA p l e R s m args below meth c H1 _ cells slots mc ms ls C hc hs hz' (hS.put e2 e3 (qA_id (D := D) (K := K) h0)) hl
end Heap
end
section
/-! new cells -/
def g_add (g : aG) (c : aSh) : aG := (g.1 + 1, up1 g.2.1 g.1 (some c), fun j k => if j = g.1 then none else g.2.2 j k)
def I_add (g : aG) (I : aI) : aI := fun j k => if j = g.1 then 0 else I j k
def L_add (g : aG) (L : aL) : aL := fun j => if j = g.1 then 0 else L j
theorem qz.add {D : va_G} {K : FieldType → ClassId} {b b0 : Nat} {g : aG} {I : aI} {L : aL} {H H1 : Heap} {c : aSh} (hz : qz D K b b0 g I L H) (hb : b < b0) (hs : H1.size = H.size + 1) (ho : ∀ q, q < H.size → H1[q]? = H[q]?)
    (hself : qc D K (qa b b0) (g_add g c).2.2 (I_add g I) (L_add g L) H1 g.1 c) : qz D K b b0 (g_add g c) (I_add g I) (L_add g L) H1 := by
  obtain ⟨⟨h1, h2, h3⟩, h4⟩ := hz
  refine ⟨⟨?_, Nat.succ_pos _, fun i hi => ?_⟩, fun j c' hj => ?_⟩
  · show qa b b0 (g.1 + 1) = H1.size
    rw [hs, ← h1]
    obtain ⟨n, hn⟩ : ∃ n, g.1 = n + 1 := ⟨g.1 - 1, by omega⟩
    rw [hn]
    simp only [qa]
    omega
  · have hi' : g.1 + 1 ≤ i := hi
    show up1 g.2.1 g.1 (some c) i = none
    unfold up1
    rw [if_neg (by omega)]
    exact h3 i (by omega)
  · by_cases e : j = g.1
    · subst e
      have e2 : up1 g.2.1 g.1 (some c) g.1 = some c' := hj
      unfold up1 at e2
      rw [if_pos rfl] at e2
      cases e2
      exact hself
    · have e2 : up1 g.2.1 g.1 (some c) j = some c' := hj
      unfold up1 at e2
      rw [if_neg e] at e2
      have hq := h4 j c' e2
      refine qc_other (fun k => by simp [I_add, e]) (fun k => by simp [g_add, e]) (by simp [L_add, e]) (ho _ ?_) hq
      rcases c' with ci | ⟨ty, n⟩
      · obtain ⟨r, -, cell, q1, -⟩ := hq
        exact (Array.getElem?_eq_some_iff.mp q1).1
      · exact (Array.getElem?_eq_some_iff.mp (show H[qa b b0 j]? = some (arrV (K ty) n (qE (qa b b0) I g.2.2 L ty j)) from hq)).1
theorem va_Snew {A : Nat → Prop} {H0 H H1 : Heap} {locs : List Loc} (hS : va_S A H0 H locs) (hs : H1.size = H.size + 1) (ho : ∀ q, q < H.size → H1[q]? = H[q]?) : va_S A H0 H1 locs :=
  ⟨Nat.le_trans hS.1 (by omega), fun x h1 h2 => (ho x (Nat.lt_of_lt_of_le h1 hS.1)).trans (hS.2.1 x h1 h2), hS.2.2⟩
theorem qty_two : ∀ (ci : Nat) (q : vw_C), qC[ci]? = some q → ∀ k, k < q.2.2 → (isI (qt ci k) || isRt (qt ci k)) = true := by
  intro ci q h
  match ci, h with
  | 0, h => cases h; decide
  | 1, h => cases h; decide
  | 2, h => cases h; decide
  | 3, h => cases h; decide
  | 4, h => cases h; decide
  | 5, h => cases h; decide
  | 6, h => cases h; decide
  | 7, h => cases h; decide
  | 8, h => cases h; decide
  | 9, h => cases h; decide +kernel
  | n + 10, h => simp at h
section Alloc
variable {M : aM} {d kc ks : Nat} {Q : aQ} {pc : Nat} {lo : List (Option aV)} {st : List aV} {g : aG} {I : aI} {L : aL}
theorem Ex_new {ci idx : Nat} {q : vw_C} (hq : qC[ci]? = some q) (w1 : Cond.classLink M.y.cls idx q.1 ∈ gT) (w2 : Cond.instantiable q.1 q.2.2 ∈ gT) (w3 : Cond.initialized q.1 ∈ gT) (hd : decode M.cc pc = .ok (.new idx, 3))
    (kk : Ex M d kc ks Q (pc + 3) lo (vD (some g.1) :: st) (g_add g (.inl ci)) (I_add g I) (L_add g L)) : Ex M d (kc + 1) (ks + q.2.2) Q pc lo st g I L := by
  intro D K b b0 SA p l e R s m args below meth c H locs cells slots mc ms ls C hc hs hz hS hl
  have hKn := C.2.2.2.2.2.2.1.1 ci _ hq
  have hR := C.2.2.2.1
  refine W.newcK C.1.1 C.1.2.1 C.1.2.2.2.2.2.1 (C.2.1 _ w1) (C.2.1 _ w2) (C.2.1 _ w3) rfl hd (by omega) (by omega) hKn.2.1 hz.1.1.symm fun H1 kC hkC e1 e2 e3 => ?_
  have hz0 : H.size = qa b b0 g.1 := hz.1.1.symm
  rw [← hz0] at e2 e3
  have hb := u_born (qt ci) C.2.1 (qW ci _ hq) hKn hkC e1 (qty_ok ci _ hq)
  have hz' := hz.add (c := .inl ci) C.2.2.2.2.2.1.1 e2 e3 ⟨q, hq, hb.to (fun k hk => by
    unfold qF I_add g_add
    simp only [if_true]
    have h9 := qty_two ci q hq k hk
    cases h : qt ci k <;> rw [h] at h9 <;> first | rfl | (exact absurd h9 (by simp [isI, isRt])))⟩
  exact kk D K b b0 SA p l e R s m args below meth c H1 locs (cells + 1) (slots + q.2.2) mc ms ls C (by omega) (by omega) hz' (va_Snew hS e2 e3) hl
theorem Ex_newarr {aty : ArrayType} {ty : FieldType} {n : Int32} {N : Nat} (hty : newarray.typeOf aty = ty) (hT : ty = .int ∨ ty = .boolean ∨ ty = .long) (w1 : Cond.arrayClass ty ∈ gT) (hn : ¬ n < 0) (hN : n.toNatClampNeg = N) (hby : N * componentBytes ty ≤ 536870912) (hd : decode M.cc pc = .ok (.newarray aty, 2))
    (kk : Ex M d kc ks Q (pc + 2) lo (vD (some g.1) :: st) (g_add g (.inr (ty, N))) (I_add g I) (L_add g L)) : Ex M d (kc + 1) (ks + N) Q pc lo (vI n :: st) g I L := by
  intro D K b b0 SA p l e R s m args below meth c H locs cells slots mc ms ls C hc hs hz hS hl
  subst hty
  have hR := C.2.2.2.1
  refine va_newaK C.1.1 C.1.2.1 (C.2.1 _ w1) rfl hd rfl hn hN hby (by omega) (by omega) hz.1.1.symm fun H1 cA e1 e2 e3 hAr hNm => ?_
  have hz0 : H.size = qa b b0 g.1 := hz.1.1.symm
  rw [← hz0] at e2 e3
  have hm : newarray.typeOf aty ∈ qTy := by rcases hT with h | h | h <;> rw [h] <;> simp [qTy]
  have hKA := (C.2.2.2.2.2.2.1.2.1 _ hm).2
  have hcA : cA = K (newarray.typeOf aty) := by
    rcases hT with h | h | h <;> rw [h] at hKA hNm ⊢ <;> exact Option.some.inj (hNm.symm.trans hKA)
  have hz' := hz.add (c := .inr (newarray.typeOf aty, N)) C.2.2.2.2.2.1.1 e2 e3 (by
    show H1[qa b b0 g.1]? = some (arrV (K (newarray.typeOf aty)) N (qE (qa b b0) (I_add g I) (g_add g (.inr (newarray.typeOf aty, N))).2.2 (L_add g L) (newarray.typeOf aty) g.1))
    rw [e1, hcA]
    congr 2
    funext k
    rcases hT with h | h | h <;> rw [h] <;> simp [qE, I_add, L_add, defaultValue])
  exact kk D K b b0 SA p l e R s m args below meth c H1 locs (cells + 1) (slots + N) mc ms ls C (by omega) (by omega) hz' (va_Snew hS e2 e3) hl
theorem Ex_anew {T0 : String} {idx : Nat} {n : Int32} {N : Nat} (hT : T0 = RX7 ∨ T0 = RX6) (w1 : Cond.classLink M.y.cls idx T0 ∈ gT) (hn : ¬ n < 0) (hN : n.toNatClampNeg = N) (hby : N * 4 ≤ 536870912) (hd : decode M.cc pc = .ok (.anewarray idx, 3))
    (kk : Ex M d kc ks Q (pc + 3) lo (vD (some g.1) :: st) (g_add g (.inr (.object T0, N))) (I_add g I) (L_add g L)) : Ex M d (kc + 1) (ks + N) Q pc lo (vI n :: st) g I L := by
  intro D K b b0 SA p l e R s m args below meth c H locs cells slots mc ms ls C hc hs hz hS hl
  subst hN
  have hR := C.2.2.2.1
  have hKv := C.2.2.2.2.2.2.1
  have hAO : va_AO T0 s := by rcases hT with rfl | rfl; exact hKv.2.2.2.2.2.2.2.1; exact hKv.2.2.2.2.2.2.2.2
  refine W.anew C.1.1 C.1.2.1 C.1.2.2.2.2.2.1 (C.2.1 _ w1) (va_AO.use hAO) rfl hd rfl hn hby (by omega) (by omega) fun cA kA comp f1 f2 f3 f4 => ?_
  generalize hH1 : H.push ({ cls := cA, slots := Array.replicate n.toNatClampNeg .null, vm := .none } : Cell) = H1
  have e2 : H1.size = H.size + 1 := by rw [← hH1, Array.size_push]
  have e1 : H1[H.size]? = some (arrV cA n.toNatClampNeg (fun _ => .null)) := by rw [← hH1, Array.getElem?_push_size, ← arrV_new]
  have e3 : ∀ q : Nat, q < H.size → H1[q]? = H[q]? := fun q hq => by rw [← hH1, Array.getElem?_push, if_neg (Nat.ne_of_lt hq)]
  have hm : FieldType.object T0 ∈ qTy := by rcases hT with h | h <;> rw [h] <;> simp [qTy]
  obtain ⟨kA2, comp2, k1, k2, k3, k4⟩ := (hKv.2.1 _ hm).2
  have hcA : cA = K (.object T0) := Option.some.inj (f1.symm.trans k4)
  have hz' := hz.add (c := .inr (.object T0, n.toNatClampNeg)) C.2.2.2.2.2.1.1 e2 e3 (by
    show H1[qa b b0 g.1]? = some (arrV (K (.object T0)) n.toNatClampNeg (qE (qa b b0) (I_add g I) (g_add g (.inr (.object T0, n.toNatClampNeg))).2.2 (L_add g L) (.object T0) g.1))
    rw [hz.1.1, e1, hcA]
    congr 2
    funext k
    simp [qE, g_add, va_rf])
  have hk := kk D K b b0 SA p l e R s m args below meth c H1 locs (cells + 1) (slots + n.toNatClampNeg) mc ms ls C (by omega) (by omega) hz' (va_Snew hS e2 e3) hl
  have e9 : (Value.ref H.size :: st.map (cv (qa b b0))) = (vD (some g.1) :: st).map (cv (qa b b0)) := by
    show _ = Value.ref (qa b b0 g.1) :: _
    rw [hz.1.1]
  exact e9 ▸ hk
end Alloc
end
section
/-! methods and calls -/
def catS (v : aV) : Nat := match v with
  | .inr (.inr (.inr _)) => 2
  | _ => 1
def catL : List aV → Nat
  | [] => 0
  | v :: r => catS v + catL r
theorem catL_ok {ad : Nat → Nat} : ∀ st : List aV, ((st.map (cv ad)).map fun v => v.category).sum = catL st
  | [] => rfl
  | v :: r => by
    simp only [List.map_cons, List.sum_cons, catL]
    rw [catL_ok r]
    congr 1
    rcases v with x | i | r | x
    · rfl
    · rfl
    · cases r <;> rfl
    · rfl
theorem mP_blind {D : va_G} {K : FieldType → ClassId} {b b0 : Nat} {SA : Nat → Nat} {av : List aV} {g : aG} {I : aI} {L : aL} : FrameBlind (mP D K b b0 SA av g I L) := by
  intro a U gf mk h
  obtain ⟨h1, h2, h3, h4, h5⟩ := h
  exact ⟨h1, h2, h3, Kv.warm (s := U) (U := U.calling gf mk a) (State.WarmedH.refl U) h4, Kh.moved (s := U) (U := U.calling gf mk a) (Vm.Alike.refl U.vm) h5⟩
/-- an exception of class E lies over the method's frame -/
def Xx (M : aM) (d kc ks : Nat) (Q : aQ) (pc : Nat) (lo : List (Option aV)) (E : String) (g : aG) (I : aI) (L : aL) : Prop :=
  ∀ (D : va_G) (K : FieldType → ClassId) (b b0 : Nat) (SA : Nat → Nat) (p : Program) (l : Launch) (e : Env) (R : Room) (s : State) (m : MethodId) (args : Array Value) (below : List Frame) (meth : Method) (c : Code) (H : Heap) (locs : List Loc) (cells slots mc ms : Nat) (ls : Array Slot) (q9 : Addr) (ce : Cell) (rest : List Value),
    Cx D K b b0 SA M d p l R s m args meth c mc ms → cells + kc ≤ mc → slots + ks ≤ ms → qz D K b b0 g I L H → va_S (qA b0) s.heap H locs → lH (qa b b0) ls M.nL lo → H[q9]? = some ce → ce.vm = .none → s.vm.findClass E = some ce.cls →
    vx_W p l e R s m args below meth c H locs cells slots (vx_MQ below (qQ D K b b0 Q) (qX D K b b0 Q) args s mc ms (qA b0)) (F0 m pc ls rest) q9
theorem Xx_out {M : aM} {d kc ks : Nat} {Q : aQ} {pc : Nat} {lo : List (Option aV)} {E : String} {g : aG} {I : aI} {L : aL} (hh : M.hh = []) (hq : Q (.inr E) g I L) : Xx M d kc ks Q pc lo E g I L := by
  intro D K b b0 SA p l e R s m args below meth c H locs cells slots mc ms ls q9 ce rest C hc hs hz hS hl h1 h2 h3
  refine vx_out (fun x hx => ?_) C.1.2.2.2.2.1 h1 h2 h3 (fun t ht hA => ⟨g, I, L, hq, by rw [ht]; exact hz, hS.F ht⟩) hS.2.2 (by omega) (by omega)
  rw [C.2.2.2.2.1, hh] at hx
  simp [tableOf] at hx
section Calls
variable {M N : aM} {d d' kc ks kc' ks' : Nat} {Q Q' : aQ} {pc idx : Nat} {lo : List (Option aV)} {st As : List aV} {g : aG} {I : aI} {L : aL}
theorem qcall {D : va_G} {K : FieldType → ClassId} {b b0 : Nat} {p : Program} {l : Launch} {e : Env} {R : Room} {s : State} {m : MethodId} {args : Array Value} {below : List Frame} {meth : Method} {c : Code} {H : Heap} {locs : List Loc} {cells slots mc' ms' : Nat} {ls : Array Slot} {Z : State → Prop} {rest st0 : List Value} {a : Array Value}
    (hr : vx_Run p l e R s m args below meth c H locs cells slots mc' ms' (F0 m pc ls st0) rest (qQ D K b b0 Q' a) (qX D K b b0 Q') (qA b0)) (hS : va_S (qA b0) s.heap H locs)
    (kx : ∀ (E : String) (ce : Cell) (q9 : Addr) (g' : aG) (I' : aI) (L' : aL) (H1 : Heap) (locs1 : List Loc), Q' (.inr E) g' I' L' → qz D K b b0 g' I' L' H1 → va_S (qA b0) s.heap H1 locs1 → H1[q9]? = some ce → ce.vm = .none → s.vm.findClass E = some ce.cls → vx_W p l e R s m args below meth c H1 locs1 (cells + mc') (slots + ms') Z (F0 m pc ls rest) q9)
    (kk : ∀ (v : Option aV) (g' : aG) (I' : aI) (L' : aL) (H1 : Heap) (locs1 : List Loc), Q' (.inl v) g' I' L' → qz D K b b0 g' I' L' H1 → va_S (qA b0) s.heap H1 locs1 → W p l e R s m args below meth c H1 locs1 (cells + mc') (slots + ms') Z (F0 m (pc + 3) ls ((v.map (cv (qa b b0))).toList ++ rest))) :
    W p l e R s m args below meth c H locs cells slots Z (F0 m pc ls st0) := by
  intro T hT X
  rcases hr T hT X with ⟨v, st₀, t, T', L0, h0, X', hL, e1, e2, ⟨⟨v', g', I', L', hv, hp, hb⟩, hF⟩, st⟩ | ⟨q, st₀, t, T', L0, E, ce, h0, X', hL, e1, e2, ⟨g', I', L', hp, hb, hF⟩, hce, hcv, hcl, st⟩
  · have hv' : v = v'.map (cv (qa b b0)) := Outcome.returned.inj hv
    subst hv'
    obtain ⟨-, -, k3⟩ := vx_keep (free := qA b0) h0 e1 hS (fun q _ h => h) (fun q h => h) hL hF
    obtain ⟨t2, a1, b1⟩ := kk v' g' I' L' T'.heap (locs ++ L0) hp (by rw [e1]; exact hb) k3 T' rfl X'
    exact ⟨t2, st t2 a1, b1⟩
  · obtain ⟨-, -, k3⟩ := vx_keep (free := qA b0) h0 e1 hS (fun q _ h => h) (fun q h => h) hL hF
    obtain ⟨t2, a1, b1⟩ := kx E ce q g' I' L' T'.heap (locs ++ L0) hp (by rw [e1]; exact hb) k3 (by rw [e1]; exact hce) hcv hcl T' rfl X'
    exact ⟨t2, st.trans a1, b1⟩
theorem Cx.kh {D : va_G} {K : FieldType → ClassId} {b b0 : Nat} {SA : Nat → Nat} {p : Program} {l : Launch} {R : Room} {s : State} {m : MethodId} {args : Array Value} {meth : Method} {c : Code} {mc ms : Nat} {H : Heap} {locs : List Loc} {U : State} {av : List aV} (C : Cx D K b b0 SA M d p l R s m args meth c mc ms) (hz : qz D K b b0 g I L H) (hS : va_S (qA b0) s.heap H locs) (hU : U.heap = H) (hW : s.WarmedH U.vm) :
    mP D K b b0 SA av g I L (av.map (cv (qa b b0))).toArray U := by
  have h1 := C.2.2.2.2.2
  refine ⟨rfl, by rw [hU]; exact hz, ⟨h1.1.1, ?_⟩, Kv.warm hW h1.2.1, ?_⟩
  · rw [hU]; exact Nat.le_trans h1.1.2 hS.1
  · rw [hU]; exact Kh.moved hW.alike (h1.2.2.kept hS.2.1)
/-- what a call needs of the tables -/
def cOk (M N : aM) (idx n : Nat) : Prop :=
  (Cond.code N.y N.cc N.nL N.ret ∈ gT ∧ N.hh = []) ∧ Cond.initialized N.y.cls ∈ gT ∧ Cond.methodLink M.y.cls idx N.y ∈ gT ∧ N.nL ≤ 21 ∧ (N.y.cls ≠ "java/lang/invoke/MethodHandle" ∧ N.y.cls ≠ "java/lang/invoke/VarHandle" ∧ (parseMethodDescriptor N.y.desc).map (fun d => d.parameters.length) = some n)
theorem ws_in (hc : Cond.code N.y N.cc N.nL N.ret ∈ gT) (hh : N.hh = []) : GoodIn gT N.ws := by
  intro w hw
  unfold aM.ws at hw
  rw [if_pos hh] at hw
  rcases List.mem_cons.mp hw with rfl | h
  · exact gT_good _ hc
  · exact gT_good _ h
theorem Ex_callV {i ci : Nat} {q : vw_C} (ok : cOk M N idx As.length) (w1 : Cond.instanceMethod N.y ∈ gT) (w2 : Cond.selects N.y.cls N.y N.y ∈ gT) (hq : qC[ci]? = some q) (hq1 : q.1 = N.y.cls) (hi : g.2.1 i = some (.inl ci)) (hM : Mx N d' kc' ks' (vS i :: As) g I L Q') (hd' : d' + 1 ≤ d) (hst : catL st ≤ 8) (hd : decode M.cc pc = .ok (.invokevirtual idx, 3))
    (kk : ∀ v g' I' L', Q' (.inl v) g' I' L' → Ex M d kc ks Q (pc + 3) lo (v.toList ++ st) g' I' L') (kx : ∀ E g' I' L', Q' (.inr E) g' I' L' → Xx M d kc ks Q pc lo E g' I' L') : Ex M d (kc + kc') (ks + ks') Q pc lo (As.reverse ++ vS i :: st) g I L := by
  intro D K b b0 SA p l e R s m args below meth c H locs cells slots mc ms ls C hc hs hz hS hl
  obtain ⟨⟨hcw, hh⟩, hini, hln, hnL, hn1, hn2, hn3⟩ := ok
  have hR := C.2.2.2.1
  have cb : CallB R s args M.y.cls idx N.y N.cc N.nL N.ret N.ws (rm d' kc' ks') kc' ks' As.length := callB_of As.length C.2.1 (ws_in hcw hh) (by unfold aM.ws; rw [if_pos hh]) rfl rfl (C.2.1 _ hini) (C.2.1 _ hln) ⟨hn1, hn2, hn3⟩ ⟨Nat.le_trans hd' hR.1, by show 8 + (N.nL + 11) + 40 * d' ≤ R.locals; omega⟩
  obtain ⟨r', h1, cell, q1, q2, q3, -⟩ := hz.2 i _ hi
  have hfc := (C.2.2.2.2.2.2.1.1 ci q hq).2.1
  have hr := vx_runV (As := As.map (cv (qa b b0))) (rest := st.map (cv (qa b b0))) (b := qa b b0 i) (g := F0 m pc ls ((As.reverse ++ vS i :: st).map (cv (qa b b0)))) (H := H) (locs := locs) (cells := cells) (slots := slots) (meth := meth) (below := below) (e := e) ⟨C.1.1, C.1.2.1, C.1.2.2.1, C.1.2.2.2.2.2.1, C.2.1⟩ (hM D K b b0 SA l C.2.2.1) ⟨cb, C.2.1 _ w1, C.2.1 _ w2⟩
    ⟨mP_blind, ⟨cell, q1, by rw [q3]; rfl, by rw [q2, ← hq1]; exact hfc⟩, fun U hU hW => C.kh (av := vS i :: As) hz hS hU hW⟩ rfl (by rw [List.length_map]) hl.1 (by simp [cv]) (lv_room (by rw [catL_ok]; exact hst)) hd ⟨by omega, by omega⟩
  refine qcall hr hS (fun E ce q9 g' I' L' H1 locs1 hp hz1 hS1 hce hcv hcl => ?_) (fun v g' I' L' H1 locs1 hp hz1 hS1 => ?_)
  · exact kx E g' I' L' hp D K b b0 SA p l e R s m args below meth c H1 locs1 _ _ mc ms ls q9 ce _ C (by omega) (by omega) hz1 hS1 hl hce hcv hcl
  · have h9 := kk v g' I' L' hp D K b b0 SA p l e R s m args below meth c H1 locs1 (cells + kc') (slots + ks') mc ms ls C (by omega) (by omega) hz1 hS1 hl
    rw [List.map_append] at h9
    cases v <;> exact h9
theorem Ex_callS (ok : cOk M N idx As.length) (w1 : Cond.static N.y ∈ gT) (hM : Mx N d' kc' ks' As g I L Q') (hd' : d' + 1 ≤ d) (hst : catL st ≤ 8) (hd : decode M.cc pc = .ok (.invokestatic idx, 3))
    (kk : ∀ v g' I' L', Q' (.inl v) g' I' L' → Ex M d kc ks Q (pc + 3) lo (v.toList ++ st) g' I' L') (kx : ∀ E g' I' L', Q' (.inr E) g' I' L' → Xx M d kc ks Q pc lo E g' I' L') : Ex M d (kc + kc') (ks + ks') Q pc lo (As.reverse ++ st) g I L := by
  intro D K b b0 SA p l e R s m args below meth c H locs cells slots mc ms ls C hc hs hz hS hl
  obtain ⟨⟨hcw, hh⟩, hini, hln, hnL, hn1, hn2, hn3⟩ := ok
  have hR := C.2.2.2.1
  have cb : CallB R s args M.y.cls idx N.y N.cc N.nL N.ret N.ws (rm d' kc' ks') kc' ks' As.length := callB_of As.length C.2.1 (ws_in hcw hh) (by unfold aM.ws; rw [if_pos hh]) rfl rfl (C.2.1 _ hini) (C.2.1 _ hln) ⟨hn1, hn2, hn3⟩ ⟨Nat.le_trans hd' hR.1, by show 8 + (N.nL + 11) + 40 * d' ≤ R.locals; omega⟩
  have hr := vx_runS (As := As.map (cv (qa b b0))) (rest := st.map (cv (qa b b0))) (g := F0 m pc ls ((As.reverse ++ st).map (cv (qa b b0)))) (H := H) (locs := locs) (cells := cells) (slots := slots) (meth := meth) (below := below) (e := e) ⟨C.1.1, C.1.2.1, C.1.2.2.1, C.1.2.2.2.2.2.1, C.2.1⟩ (hM D K b b0 SA l C.2.2.1) ⟨cb, C.2.1 _ w1⟩
    ⟨mP_blind, fun U hU hW => C.kh (av := As) hz hS hU hW⟩ rfl (by rw [List.length_map]) hl.1 (by simp) (lv_room (by rw [catL_ok]; exact hst)) hd ⟨by omega, by omega⟩
  refine qcall hr hS (fun E ce q9 g' I' L' H1 locs1 hp hz1 hS1 hce hcv hcl => ?_) (fun v g' I' L' H1 locs1 hp hz1 hS1 => ?_)
  · exact kx E g' I' L' hp D K b b0 SA p l e R s m args below meth c H1 locs1 _ _ mc ms ls q9 ce _ C (by omega) (by omega) hz1 hS1 hl hce hcv hcl
  · have h9 := kk v g' I' L' hp D K b b0 SA p l e R s m args below meth c H1 locs1 (cells + kc') (slots + ks') mc ms ls C (by omega) (by omega) hz1 hS1 hl
    rw [List.map_append] at h9
    cases v <;> exact h9
/-- a static method with handlers (the law's own) -/
def hOk (M N : aM) (idx n : Nat) : Prop :=
  (Cond.codeWith N.y N.cc N.nL N.ret N.hh ∈ gT ∧ N.hh ≠ []) ∧ Cond.initialized N.y.cls ∈ gT ∧ Cond.methodLink M.y.cls idx N.y ∈ gT ∧ N.nL ≤ 21 ∧ (N.y.cls ≠ "java/lang/invoke/MethodHandle" ∧ N.y.cls ≠ "java/lang/invoke/VarHandle" ∧ (parseMethodDescriptor N.y.desc).map (fun d => d.parameters.length) = some n)
theorem Ex_callSH (ok : hOk M N idx As.length) (w1 : Cond.static N.y ∈ gT) (hM : Mx N d' kc' ks' As g I L Q') (hd' : d' + 1 ≤ d) (hst : catL st ≤ 8) (hd : decode M.cc pc = .ok (.invokestatic idx, 3))
    (kk : ∀ v g' I' L', Q' (.inl v) g' I' L' → Ex M d kc ks Q (pc + 3) lo (v.toList ++ st) g' I' L') (kx : ∀ E g' I' L', Q' (.inr E) g' I' L' → Xx M d kc ks Q pc lo E g' I' L') : Ex M d (kc + kc') (ks + ks') Q pc lo (As.reverse ++ st) g I L := by
  intro D K b b0 SA p l e R s m args below meth c H locs cells slots mc ms ls C hc hs hz hS hl
  obtain ⟨⟨hcw, hh⟩, hini, hln, hnL, hn1, hn2, hn3⟩ := ok
  have hR := C.2.2.2.1
  have hG : GoodIn gT N.ws := by
    intro w hw
    unfold aM.ws at hw
    rw [if_neg hh] at hw
    rcases List.mem_cons.mp hw with rfl | h
    · exact gT_good _ hcw
    · exact gT_good _ h
  have cb : vx_CSW R s args M.y.cls idx N.y N.cc N.nL N.ret N.hh N.ws (rm d' kc' ks') kc' ks' As.length := vx_cwSW As.length C.2.1 (by
    intro w hw
    unfold va_wsS at hw
    rcases List.mem_append.mp hw with h | h
    · simp only [List.mem_cons, List.not_mem_nil, or_false] at h
      rcases h with rfl | rfl | rfl
      · exact gT_good _ hln
      · exact gT_good _ w1
      · exact gT_good _ hini
    · exact hG w h) (by unfold aM.ws; rw [if_neg hh]) rfl rfl ⟨hn1, hn2, hn3⟩ ⟨Nat.le_trans hd' hR.1, by show 8 + (N.nL + 11) + 40 * d' ≤ R.locals; omega⟩
  have hr := vx_runSX (As := As.map (cv (qa b b0))) (rest := st.map (cv (qa b b0))) (g := F0 m pc ls ((As.reverse ++ st).map (cv (qa b b0)))) (H := H) (locs := locs) (cells := cells) (slots := slots) (meth := meth) (below := below) (e := e) ⟨C.1.1, C.1.2.1, C.1.2.2.1, C.1.2.2.2.2.2.1, C.2.1⟩ (hM D K b b0 SA l C.2.2.1) cb
    ⟨mP_blind, fun U hU hW => C.kh (av := As) hz hS hU hW⟩ rfl (by rw [List.length_map]) hl.1 (by simp) (lv_room (by rw [catL_ok]; exact hst)) hd ⟨by omega, by omega⟩
  refine qcall hr hS (fun E ce q9 g' I' L' H1 locs1 hp hz1 hS1 hce hcv hcl => ?_) (fun v g' I' L' H1 locs1 hp hz1 hS1 => ?_)
  · exact kx E g' I' L' hp D K b b0 SA p l e R s m args below meth c H1 locs1 _ _ mc ms ls q9 ce _ C (by omega) (by omega) hz1 hS1 hl hce hcv hcl
  · have h9 := kk v g' I' L' hp D K b b0 SA p l e R s m args below meth c H1 locs1 (cells + kc') (slots + ks') mc ms ls C (by omega) (by omega) hz1 hS1 hl
    rw [List.map_append] at h9
    cases v <;> exact h9
end Calls
end
section
/-! a method's entry, constructors, throws and catches -/
theorem lv_args_mem {ad : Nat → Nat} : ∀ (av : List aV) (k j : Nat) (v : aV), (∀ w ∈ av, ∀ x, w ≠ vJ x) → av[j]? = some v → (k + j, cv ad v) ∈ lv_args k (av.map (cv ad))
  | [], _, _, _, _, h => by simp at h
  | w :: r, k, j, v, hc, h => by
    have h1 : (cv ad w).category = 1 := cv_cat (hc w List.mem_cons_self)
    simp only [List.map_cons, lv_args]
    rw [if_neg (by rw [h1]; decide)]
    cases j with
    | zero =>
      rw [List.getElem?_cons_zero] at h
      cases h
      exact List.mem_cons_self
    | succ j =>
      rw [List.getElem?_cons_succ] at h
      have h2 := lv_args_mem (ad := ad) r (k + 1) j v (fun w hw => hc w (List.mem_cons_of_mem _ hw)) h
      rw [show k + (j + 1) = k + 1 + j by omega]
      exact List.mem_cons_of_mem _ h2
theorem lg_sl_len {ad : Nat → Nat} : ∀ (av : List aV), (∀ w ∈ av, ∀ x, w ≠ vJ x) → (lg_sl (av.map (cv ad))).length = av.length
  | [], _ => rfl
  | w :: r, hc => by
    have h1 : (cv ad w).category = 1 := cv_cat (hc w List.mem_cons_self)
    have h2 := lg_sl_len (ad := ad) r (fun w hw => hc w (List.mem_cons_of_mem _ hw))
    unfold lg_sl at h2 ⊢
    simp only [List.map_cons, List.flatMap_cons, h1]
    rw [List.length_append, h2]
    simp
    omega
def lo0 (av : List aV) (n : Nat) : List (Option aV) := av.map some ++ List.replicate (n - av.length) none
theorem lH_entry {ad : Nat → Nat} {av : List aV} (hc : ∀ w ∈ av, ∀ x, w ≠ vJ x) {n : Nat} (h : av.length ≤ n) : lH ad ((lg_sl (av.map (cv ad)) ++ List.replicate (n - (lg_sl (av.map (cv ad))).length) Slot.unset).toArray) n (lo0 av n) := by
  have h1 := lv_entry (av.map (cv ad)) (n := n) (by rw [lg_sl_len av hc]; exact h)
  refine ⟨h1.1, h1.2.1, fun k v hk => ?_⟩
  have hk2 : av[k]? = some v := by
    unfold lo0 at hk
    by_cases hl : k < av.length
    · rw [List.getElem?_append_left (by simpa using hl), List.getElem?_map] at hk
      cases h9 : av[k]? with
      | none => rw [h9] at hk; cases hk
      | some w => rw [h9] at hk; cases hk; rfl
    · rw [List.getElem?_append_right (by simpa using hl), List.getElem?_replicate] at hk
      split at hk <;> cases hk
  have h2 := lv_args_mem (ad := ad) av 0 k v hc hk2
  rw [Nat.zero_add] at h2
  exact ⟨cv_cat (hc v (List.mem_of_getElem? hk2)), h1.2.2 _ h2⟩
section Entry
variable {M N : aM} {d d' kc ks kc' ks' : Nat} {Q Q' : aQ} {pc idx : Nat} {lo : List (Option aV)} {st As av : List aV} {g : aG} {I : aI} {L : aL}
theorem Mx_of (hy : plainName M.y.cls = true) (hc : ∀ w ∈ av, ∀ x, w ≠ vJ x) (hn : av.length ≤ M.nL) (k : Ex M d kc ks Q 0 (lo0 av M.nL) [] g I L) : Mx M d kc ks av g I L Q := by
  intro D K b b0 SA l hl
  have main : ∀ (p : Program) (e : Env) (s : State) (m : MethodId) (args : Array Value) (below : List Frame) (meth : Method) (c : Code) (s₁ : State), BodyLoose p l M.y (headSpec M.ws (rm d kc ks)) M.cc M.nL M.ret e s m args below meth c s₁ → c.maxLocals = M.nL → c.exceptionTable.toList = tableOf M.hh → mP D K b b0 SA av g I L args s →
      W p l e (headSpec M.ws (rm d kc ks)).room s m args below meth c s.heap [] 0 0 (vx_MQ below (qQ D K b b0 Q) (qX D K b b0 Q) args s kc ks (qA b0)) (entryFrame m args M.nL) := by
    intro p e s m args below meth c s₁ B hml ht hP
    obtain ⟨rfl, hz, hb, hKv, hKh⟩ := hP
    have hts := atoms_spec (ws := M.ws) B.pre
    have C : Cx D K b b0 SA M d p l (rm d kc ks) s m (av.map (cv (qa b b0))).toArray meth c kc ks :=
      ⟨⟨B.exec, B.bytes, hml, B.returns, B.notSynchronized, findClass_of_methodNamed B.named, (name_of_methodNamed B.named B.method).1⟩, fun w hw => hts w (List.mem_cons_of_mem _ hw), hl, ⟨Nat.le_refl _, Nat.le_refl _, Nat.le_refl _, Nat.le_refl _⟩, ht, hb, hKv, hKh⟩
    rw [lg_entry_eq]
    exact k D K b b0 SA p l e (rm d kc ks) s m _ below meth c s.heap [] 0 0 kc ks _ C (by omega) (by omega) hz va_S.rf (lH_entry hc hn)
  by_cases hh : M.hh = []
  · refine vx_ofW (cc := M.cc) (maxL := M.nL) (ret := M.ret) (ws' := gT) hy (by unfold aM.ws; rw [if_pos hh]) ?_
    intro p e s m args below meth c s₁ B hml ht hP
    refine main p e s m args below meth c s₁ B hml ?_ hP
    rw [hh]
    cases h9 : c.exceptionTable.toList with
    | nil => rfl
    | cons x r => rw [h9] at ht; exact absurd (ht x List.mem_cons_self) id
  · refine vx_ofWH (cc := M.cc) (maxL := M.nL) (ret := M.ret) (hh := M.hh) (ws' := gT) hy (by unfold aM.ws; rw [if_neg hh]) ?_
    intro p e s m args below meth c s₁ B hml hP
    refine main p e s m args below meth c s₁ B hml ?_ hP
    have hts := atoms_spec (ws := M.ws) B.pre
    exact vx_table (x := M.y) B (hts _ (by unfold aM.ws; rw [if_neg hh]; exact List.mem_cons_self))
theorem Mx_mono (h : ∀ o g I L, Q' o g I L → Q o g I L) (k : Mx M d kc ks av g I L Q') : Mx M d kc ks av g I L Q := by
  intro D K b b0 SA l hl p e ha hc hk s m args below hf happ hP hK
  obtain ⟨t, o, h1, h2, h3, h4⟩ := k D K b b0 SA l hl p e ha hc hk s m args below hf happ hP hK
  refine ⟨t, o, h1, h2, h3, ?_⟩
  rcases h4 with ⟨⟨⟨v, g', I', L', e1, e2, e3⟩, e4⟩, e5⟩ | ⟨q, e0, E, ce, L0, ⟨g', I', L', e1, e2, e3⟩, e4⟩
  · exact Or.inl ⟨⟨⟨v, g', I', L', e1, h _ _ _ _ e2, e3⟩, e4⟩, e5⟩
  · exact Or.inr ⟨q, e0, E, ce, L0, ⟨g', I', L', h _ _ _ _ e1, e2, e3⟩, e4⟩
theorem Mx_met (hx : ∀ E g I L, ¬ Q (.inr E) g I L) (k : Mx M d kc ks av g I L Q) (D : va_G) (K : FieldType → ClassId) (b b0 : Nat) (SA : Nat → Nat) (l : Launch) (hl : l.stackTraces = false) : Met l M.y M.ws (rm d kc ks) (mP D K b b0 SA av g I L) (qQ D K b b0 Q) kc ks (qA b0) := by
  intro p e ha hc hk s m args below hf happ hP hK
  obtain ⟨t, o, h1, h2, h3, h4⟩ := k D K b b0 SA l hl p e ha hc hk s m args below hf happ hP hK
  refine ⟨t, o, h1, h2, h3, ?_⟩
  rcases h4 with h4 | ⟨q, e0, E, ce, L0, ⟨g', I', L', e1, e2, e3⟩, e4⟩
  · exact h4
  · exact absurd e1 (hx _ _ _ _)
theorem qcallM {D : va_G} {K : FieldType → ClassId} {b b0 : Nat} {p : Program} {l : Launch} {e : Env} {R : Room} {s : State} {m : MethodId} {args : Array Value} {below : List Frame} {meth : Method} {c : Code} {H : Heap} {locs : List Loc} {cells slots mc' ms' : Nat} {ls : Array Slot} {Z : State → Prop} {rest st0 : List Value} {a : Array Value}
    (hr : va_Run p l e R s m args below meth c H locs cells slots mc' ms' (F0 m pc ls st0) rest (qQ D K b b0 Q' a) (qA b0)) (hS : va_S (qA b0) s.heap H locs)
    (kk : ∀ (v : Option aV) (g' : aG) (I' : aI) (L' : aL) (H1 : Heap) (locs1 : List Loc), Q' (.inl v) g' I' L' → qz D K b b0 g' I' L' H1 → va_S (qA b0) s.heap H1 locs1 → W p l e R s m args below meth c H1 locs1 (cells + mc') (slots + ms') Z (F0 m (pc + 3) ls ((v.map (cv (qa b b0))).toList ++ rest))) :
    W p l e R s m args below meth c H locs cells slots Z (F0 m pc ls st0) := by
  intro T hT X
  obtain ⟨v, st₀, t, T', L0, h0, X', hL, e1, e2, ⟨⟨v', g', I', L', hv, hp, hb⟩, hF⟩, st⟩ := hr T hT X
  have hv' : v = v'.map (cv (qa b b0)) := Outcome.returned.inj hv
  subst hv'
  obtain ⟨-, -, k3⟩ := vx_keep (free := qA b0) h0 e1 hS (fun q _ h => h) (fun q h => h) hL hF
  obtain ⟨t2, a1, b1⟩ := kk v' g' I' L' T'.heap (locs ++ L0) hp (by rw [e1]; exact hb) k3 T' rfl X'
  exact ⟨t2, st t2 a1, b1⟩
/-- a constructor -/
theorem Ex_callI {i : Nat} (ok : cOk M N idx As.length) (hr0 : N.ret = none) (hy1 : N.y.name = "<init>") (w1 : Cond.instanceMethod N.y ∈ gT) (hM : Mx N d' kc' ks' (vD (some i) :: As) g I L Q') (hx : ∀ E g I L, ¬ Q' (.inr E) g I L) (hd' : d' + 1 ≤ d) (hst : catL st ≤ 8) (hd : decode M.cc pc = .ok (.invokespecial idx, 3))
    (kk : ∀ v g' I' L', Q' (.inl v) g' I' L' → Ex M d kc ks Q (pc + 3) lo (v.toList ++ st) g' I' L') : Ex M d (kc + kc') (ks + ks') Q pc lo (As.reverse ++ vD (some i) :: st) g I L := by
  intro D K b b0 SA p l e R s m args below meth c H locs cells slots mc ms ls C hc hs hz hS hl
  obtain ⟨⟨hcw, hh⟩, hini, hln, hnL, hn1, hn2, hn3⟩ := ok
  have hR := C.2.2.2.1
  rw [hr0] at hcw
  have cb : CallB R s args M.y.cls idx N.y N.cc N.nL none N.ws (rm d' kc' ks') kc' ks' As.length := callB_of As.length C.2.1 (ws_in (by rw [hr0]; exact hcw) hh) (by unfold aM.ws; rw [if_pos hh, hr0]) rfl rfl (C.2.1 _ hini) (C.2.1 _ hln) ⟨hn1, hn2, hn3⟩ ⟨Nat.le_trans hd' hR.1, by show 8 + (N.nL + 11) + 40 * d' ≤ R.locals; omega⟩
  have hr := va_runI (As := As.map (cv (qa b b0))) (rest := st.map (cv (qa b b0))) (b := qa b b0 i) (g := F0 m pc ls ((As.reverse ++ vD (some i) :: st).map (cv (qa b b0)))) (H := H) (locs := locs) (cells := cells) (slots := slots) (meth := meth) (below := below) (e := e) ⟨C.1.1, C.1.2.1, C.1.2.2.1, C.1.2.2.2.2.2.1, C.2.1⟩ (Mx_met hx hM D K b b0 SA l C.2.2.1) ⟨cb, hy1, C.2.1 _ w1⟩
    ⟨mP_blind, fun U hU hW => C.kh (av := vD (some i) :: As) hz hS hU hW⟩ rfl (by rw [List.length_map]) hl.1 (by simp [cv, va_rf]) (lv_room (by rw [catL_ok]; exact hst)) hd ⟨by omega, by omega⟩
  refine qcallM hr hS (fun v g' I' L' H1 locs1 hp hz1 hS1 => ?_)
  have h9 := kk v g' I' L' hp D K b b0 SA p l e R s m args below meth c H1 locs1 (cells + kc') (slots + ks') mc ms ls C (by omega) (by omega) hz1 hS1 hl
  rw [List.map_append] at h9
  cases v <;> exact h9
/-- a nest mate's private constructor -/
theorem Ex_callIN {i : Nat} (hcw : Cond.code N.y N.cc N.nL none ∈ gT) (hh : N.hh = []) (hini : Cond.initialized N.y.cls ∈ gT) (hln : (M.y.cls, idx, N.y) ∈ qNest) (hnL : N.nL ≤ 21) (hn : N.y.cls ≠ "java/lang/invoke/MethodHandle" ∧ N.y.cls ≠ "java/lang/invoke/VarHandle" ∧ (parseMethodDescriptor N.y.desc).map (fun d => d.parameters.length) = some As.length)
    (hr0 : N.ret = none) (hy1 : N.y.name = "<init>") (w1 : Cond.instanceMethod N.y ∈ gT) (hM : Mx N d' kc' ks' (vD (some i) :: As) g I L Q') (hx : ∀ E g I L, ¬ Q' (.inr E) g I L) (hd' : d' + 1 ≤ d) (hst : catL st ≤ 8) (hd : decode M.cc pc = .ok (.invokespecial idx, 3))
    (kk : ∀ v g' I' L', Q' (.inl v) g' I' L' → Ex M d kc ks Q (pc + 3) lo (v.toList ++ st) g' I' L') : Ex M d (kc + kc') (ks + ks') Q pc lo (As.reverse ++ vD (some i) :: st) g I L := by
  intro D K b b0 SA p l e R s m args below meth c H locs cells slots mc ms ls C hc hs hz hS hl
  have hR := C.2.2.2.1
  have cb : va_CN R s args M.y.cls idx N.y RX8 N.cc N.nL none N.ws (rm d' kc' ks') kc' ks' As.length := va_cnB As.length C.2.1 (ws_in (by rw [hr0]; exact hcw) hh) (by unfold aM.ws; rw [if_pos hh, hr0]) rfl rfl (C.2.2.2.2.2.2.1.2.2.2.1 _ hln) (C.2.1 _ hini) hn ⟨Nat.le_trans hd' hR.1, by show 8 + (N.nL + 11) + 40 * d' ≤ R.locals; omega⟩
  have hr := va_runIN (As := As.map (cv (qa b b0))) (rest := st.map (cv (qa b b0))) (b := qa b b0 i) (g := F0 m pc ls ((As.reverse ++ vD (some i) :: st).map (cv (qa b b0)))) (H := H) (locs := locs) (cells := cells) (slots := slots) (meth := meth) (below := below) (e := e) ⟨C.1.1, C.1.2.1, C.1.2.2.1, C.1.2.2.2.2.2.1, C.2.1⟩ (Mx_met hx hM D K b b0 SA l C.2.2.1) ⟨cb, hy1, C.2.1 _ w1⟩
    ⟨mP_blind, fun U hU hW => C.kh (av := vD (some i) :: As) hz hS hU hW⟩ rfl (by rw [List.length_map]) hl.1 (by simp [cv, va_rf]) (lv_room (by rw [catL_ok]; exact hst)) hd ⟨by omega, by omega⟩
  refine qcallM hr hS (fun v g' I' L' H1 locs1 hp hz1 hS1 => ?_)
  have h9 := kk v g' I' L' hp D K b b0 SA p l e R s m args below meth c H1 locs1 (cells + kc') (slots + ks') mc ms ls C (by omega) (by omega) hz1 hS1 hl
  rw [List.map_append] at h9
  cases v <;> exact h9
theorem Ex_objInit {i : Nat} (w1 : Cond.methodLink M.y.cls idx objectInit ∈ gT) (w2 : Cond.instanceMethod objectInit ∈ gT) (w3 : Cond.code objectInit ⟨#[0xb1]⟩ 1 none ∈ gT) (hd1 : 1 ≤ d) (hst : catL st ≤ 8) (hd : decode M.cc pc = .ok (.invokespecial idx, 3)) (kk : Ex M d kc ks Q (pc + 3) lo st g I L) : Ex M d kc ks Q pc lo (vD (some i) :: st) g I L := by
  intro D K b b0 SA p l e R s m args below meth c H locs cells slots mc ms ls C hc hs hz hS hl
  have hR := C.2.2.2.1
  have h0 := lv_room (m := m) (pc := pc) (ls := ls) (rest := (vD (some i) :: st).map (cv (qa b b0))) (st := st.map (cv (qa b b0))) (by rw [catL_ok]; exact hst)
  exact W.objInit C.1.1 C.1.2.1 C.1.2.2.2.2.2.1 (C.2.1 _ w1) (C.2.1 _ w2) (C.2.1 _ w3) rfl (hl.1.trans C.1.2.2.1.symm) rfl hd (by omega) (by omega) (kk D K b b0 SA p l e R s m args below meth c H locs cells slots mc ms ls C hc hs hz hS hl)
end Entry
end
section
/-! throws and catches -/
def tNames : List String := ["java/lang/RuntimeException", "java/lang/Exception"]
def qB (E : String) : List Cond := Cond.castable E E :: qDecl.map Cond.declares
def tOk (E : String) (ik ic : Nat) : Bool := Bundle.fit E && gIn ((vx_atS RX8 ic E tNames).filter goodWord) && ((vx_atS RX8 ic E tNames).filter (fun w => !goodWord w)).all (fun w => decide (w ∈ qB E)) && (Cond.classLink RX8 ik E :: Cond.initialized E :: vx_atS RX8 ic E tNames).all vx_ot && gIn [Cond.classLink RX8 ik E, Cond.initialized E] && decide (E ∈ qExc)
theorem qz.grow {D : va_G} {K : FieldType → ClassId} {b b0 : Nat} {g : aG} {I : aI} {L : aL} {H H1 : Heap} (hz : qz D K b b0 g I L H) (hs : H.size ≤ H1.size) (ho : ∀ q : Nat, q < H.size → H1[q]? = H[q]?) : ∃ n, g.1 ≤ n ∧ qz D K b b0 (n, g.2.1, g.2.2) I L H1 := by
  obtain ⟨⟨h1, h2, h3⟩, h4⟩ := hz
  refine ⟨g.1 + (H1.size - H.size), Nat.le_add_right _ _, ⟨?_, by show 0 < g.1 + _; omega, fun i hi => h3 i (by have hi' : g.1 + (H1.size - H.size) ≤ i := hi; omega)⟩, fun i c hi => ?_⟩
  · show qa b b0 (g.1 + (H1.size - H.size)) = H1.size
    obtain ⟨n, hn⟩ : ∃ n, g.1 = n + 1 := ⟨g.1 - 1, by omega⟩
    rw [hn] at h1 ⊢
    rw [show n + 1 + (H1.size - H.size) = (n + (H1.size - H.size)) + 1 by omega]
    simp only [qa] at h1 ⊢
    omega
  · have hq := h4 i c hi
    refine qc_other (fun k => rfl) (fun k => rfl) rfl (ho _ ?_) hq
    rcases c with ci | ⟨ty, n⟩
    · obtain ⟨r, -, cell, q1, -⟩ := hq
      exact (Array.getElem?_eq_some_iff.mp q1).1
    · exact (Array.getElem?_eq_some_iff.mp (show H[qa b b0 i]? = some (arrV (K ty) n (qE (qa b b0) I g.2.2 L ty i)) from hq)).1
theorem tOk_1 : tOk "java/lang/IndexOutOfBoundsException" 113 117 = true := by decide +kernel
theorem tOk_2 : tOk "java/lang/UnsupportedOperationException" 141 145 = true := by decide +kernel
theorem tOk_3 : tOk "java/lang/IllegalArgumentException" 54 58 = true := by decide +kernel
theorem tOk_4 : tOk "java/lang/IllegalStateException" 122 126 = true := by decide +kernel
section Throw
variable {M : aM} {d kc ks : Nat} {Q : aQ} {pc : Nat} {lo : List (Option aV)} {st : List aV} {g : aG} {I : aI} {L : aL}
theorem Ex_throw {E : String} {ik ic is : Nat} {text : String} (ht : tOk E ik ic = true) (hM : M.y.cls = RX8) (hh : M.hh = []) (hs : (is, text) ∈ qStr) (hd6 : 6 ≤ d) (hst : catL st ≤ 8)
    (d0 : decode M.cc pc = .ok (.new ik, 3)) (d3 : decode M.cc (pc + 3) = .ok (.dup, 1)) (d4 : decode M.cc (pc + 4) = .ok (.ldc is, 2)) (d6 : decode M.cc (pc + 6) = .ok (.invokespecial ic, 3)) (d9 : decode M.cc (pc + 9) = .ok (.athrow, 1))
    (hq : ∀ n, g.1 ≤ n → Q (.inr E) (n, g.2.1, g.2.2) I L) : Ex M d (kc + 1) (ks + 6) Q pc lo st g I L := by
  intro D K b b0 SA p l e R s m args below meth c H locs cells slots mc ms ls C hc hs' hz hS hl
  unfold tOk at ht
  simp only [Bool.and_eq_true, decide_eq_true_eq, List.all_eq_true] at ht
  obtain ⟨⟨⟨⟨⟨t1, t2⟩, t3⟩, t4⟩, t5⟩, t6⟩ := ht
  have hR := C.2.2.2.1
  have hKv := C.2.2.2.2.2.2.1
  have w := gT_of t5
  have hat : ∀ w ∈ vx_atS RX8 ic E tNames, w.before args s = true := by
    refine vx_hat (B := qB E) (fun w hw => C.2.1 _ (gT_of t2 w hw)) t3 ?_
    intro w hw
    unfold qB at hw
    rcases List.mem_cons.mp hw with rfl | h
    · exact va_Nw.use rfl (hKv.2.2.2.2.1 E t6)
    · obtain ⟨y, hy, rfl⟩ := List.mem_map.mp h
      exact va_Nw.use rfl (hKv.2.2.2.2.2.1 y hy)
  have hown : s.vm.findClass RX8 = some m.cls := by rw [← hM]; exact C.1.2.2.2.2.2.1
  have e0 : c.exceptionTable.toList = [] := by rw [C.2.2.2.2.1, hh]; rfl
  refine vx_throwS (names := tNames) (text := text) (sa := SA is) (A := qA b0) C.1.1 C.1.2.1 C.2.2.1 hown t1 (by decide +kernel) (C.2.1 _ (w _ List.mem_cons_self)) (C.2.1 _ (w _ (List.mem_cons_of_mem _ List.mem_cons_self))) (hKv.2.2.1 _ hs) hat t4 C.2.2.2.2.2.2.2.1 C.2.2.2.2.2.2.2.2 hS (hl.1.trans C.1.2.2.1.symm) d0 d3 d4 d6 d9 (by rw [e0]; intro x hx; cases hx) ?_ ?_ (by omega) (by omega) C.1.2.2.2.2.1 ?_ hS.2.2 (by omega) (by omega)
  · show 2 + 3 < R.frames
    omega
  · rw [catL_ok]
    show catL st + (13 * (2 + 1) + 43) ≤ R.locals
    omega
  · intro t hA hsz ho
    obtain ⟨n, hn, hz1⟩ := hz.grow hsz ho
    exact ⟨(n, g.2.1, g.2.2), I, L, hq n hn, hz1, ⟨Nat.le_trans hS.1 hsz, fun q h1 h2 => by rw [ho q (Nat.lt_of_lt_of_le h1 hS.1)]; exact hS.2.1 q h1 h2⟩⟩
/-- caught by a row of the method's own table, whose handler drops it and answers a number -/
theorem Xx_catch {E : String} {v : Int32} {n : Int} {a : Nat} {ln : Nat} (pre : List (Nat × Nat × Nat × Nat)) (x : Nat × Nat × Nat × Nat) (suf : List (Nat × Nat × Nat × Nat)) (hsp : M.hh = pre ++ x :: suf) (hE : E ∈ qExc)
    (hpass : ∀ z ∈ pre, z.2.2.2 ≠ 0 ∧ ∃ nm ∈ qExc, E ≠ nm ∧ Cond.classLink M.y.cls z.2.2.2 nm ∈ gT) (hx : x.1 ≤ pc ∧ pc < x.2.1) (hx0 : x.2.2.2 ≠ 0) (hlk : Cond.classLink M.y.cls x.2.2.2 E ∈ gT)
    (hast : (∃ k : Fin 4, (k : Nat) = a ∧ ln = 1 ∧ decode M.cc x.2.2.1 = .ok (.astore_n k, 1)) ∨ (ln = 2 ∧ decode M.cc x.2.2.1 = .ok (.astore a, 2))) (han : a < M.nL) (hic : decode M.cc (x.2.2.1 + ln) = .ok (.iconst n, 1)) (hv : Int32.ofInt n = v) (hir : decode M.cc (x.2.2.1 + ln + 1) = .ok (.ireturn, 1)) (hr : M.ret = some .int)
    (hq : Q (.inl (some (vI v))) g I L) : Xx M d kc ks Q pc lo E g I L := by
  intro D K b b0 SA p l e R s m args below meth c H locs cells slots mc ms ls q9 ce rest C hc hs hz hS hl h1 h2 h3
  have hKv := C.2.2.2.2.2.2.1
  refine vx_catch (own := M.y.cls) (name := E) C.1.2.2.2.2.2.1 (tableOf pre) ⟨x.1, x.2.1, x.2.2.1, x.2.2.2⟩ (tableOf suf) (by rw [C.2.2.2.2.1, hsp]; simp [tableOf]) ?_ (by simp [covers, hx]) hx0 (C.2.1 _ hlk) (va_Nw.use rfl (hKv.2.2.2.2.1 E hE)) h1 h2 h3 ?_
  · intro z hz
    obtain ⟨q, hq1, rfl⟩ := List.mem_map.mp hz
    obtain ⟨hp0, nm, hp1, hp2, hp3⟩ := hpass q hq1
    exact Or.inr ⟨hp0, nm, C.2.1 _ hp3, hKv.2.2.2.2.2.2.1 E hE nm hp1 hp2⟩
  · have tl : ∀ (ls' : Array Slot), W p l e R s m args below meth c H locs cells slots (vx_MQ below (qQ D K b b0 Q) (qX D K b b0 Q) args s mc ms (qA b0)) (F0 m (x.2.2.1 + ln) ls' []) := by
      intro ls'
      refine lv_iconst C.1.1 C.1.2.1 hic hv ?_
      refine W.widen (k := mc) (n := ms) (by omega) (by omega) (vx_ret ?_)
      have hlk := C.1.2.2.2.2.1
      exact W.iret (v := v) C.1.1 C.1.2.1 (C.1.2.2.2.1.trans hr) (fun t ht hW => ⟨⟨some (vI v), g, I, L, rfl, hq, by rw [ht]; exact hz⟩, hS.F ht⟩) hS.2.2 hir
    rcases hast with ⟨k, rfl, rfl, hk⟩ | ⟨rfl, hk⟩
    · exact lv_astore_n C.1.1 C.1.2.1 hk rfl hl.has han rfl (fun ls' _ => tl ls')
    · exact lv_astore C.1.1 C.1.2.1 hk hl.has han rfl (fun ls' _ => tl ls')
end Throw
end
section
/-! a basic block at once -/
abbrev aT : Type := (Nat → Option aSh) × (Nat → Nat → Option aV)
/-- the reference that a value is -/
def rfV (v : aV) (r : Option Nat) : Prop := match v with
  | .inr (.inl j) => r = some j
  | .inr (.inr (.inl q)) => r = q
  | _ => False
def Wf (T : aT) (g : aG) : Prop := ∀ (i : Nat) (c : aSh), T.1 i = some c → i ≠ 0 ∧ g.2.1 i = some c ∧ ∀ k v, T.2 i k = some v → rfV v (g.2.2 i k)
def nth {α : Type} : List α → Nat → Option α
  | [], _ => none
  | a :: _, 0 => some a
  | _ :: l, n + 1 => nth l n
theorem nth_eq {α : Type} : ∀ (l : List α) (n : Nat), nth l n = l[n]?
  | [], n => by simp [nth]
  | a :: l, 0 => rfl
  | a :: l, n + 1 => by rw [List.getElem?_cons_succ]; exact nth_eq l n
def lsetK : List (Option aV) → Nat → aV → (List (Option aV) → Prop) → Prop
  | [], _, _, _ => False
  | _ :: l, 0, v, k => k (some v :: l)
  | a :: l, n + 1, v, k => lsetK l n v (fun l' => k (a :: l'))
theorem lsetK_eq : ∀ (l : List (Option aV)) (n : Nat) (v : aV) (k : List (Option aV) → Prop), lsetK l n v k → k (l.set n (some v))
  | [], _, _, _, h => h.elim
  | _ :: _, 0, _, _, h => h
  | a :: l, n + 1, v, k, h => lsetK_eq l n v (fun l' => k (a :: l')) h
/-- the local a, an int -/
def ldI (lo : List (Option aV)) (a : Nat) (k : Int32 → Prop) : Prop := match nth lo a with
  | some (some (.inl x)) => k x
  | _ => False
/-- the local a, a reference -/
def ldA (lo : List (Option aV)) (a : Nat) (k : aV → Prop) : Prop := match nth lo a with
  | some (some (.inr (.inl i))) => k (vS i)
  | some (some (.inr (.inr (.inl r)))) => k (vD r)
  | _ => False
def brK (c : Prop) (A B : Prop) : Prop := (c → A) ∧ (¬ c → B)
def stp (T : aT) (M : aM) (d kc ks : Nat) (Q : aQ) (g : aG) (J : Nat → List (Option aV) → List aV → aI → aL → Prop) (row : aR) (k : List (Option aV) → List aV → aI → aL → Prop) (lo : List (Option aV)) (st : List aV) (I : aI) (L : aL) : Prop :=
  match row with
  | (pc, i, _, x, a, b) =>
  match i with
  | .iconst _ => k lo (vI x :: st) I L
  | .bipush _ => k lo (vI x :: st) I L
  | .sipush _ => k lo (vI x :: st) I L
  | .lconst _ => k lo (vJ x.toInt64 :: st) I L
  | .iload_n j => ldI lo j (fun v => k lo (vI v :: st) I L)
  | .iload j => ldI lo j (fun v => k lo (vI v :: st) I L)
  | .aload_n j => ldA lo j (fun v => k lo (v :: st) I L)
  | .aload j => ldA lo j (fun v => k lo (v :: st) I L)
  | .istore_n j => (match st with
    | .inl v :: st' => lsetK lo j (vI v) (fun lo' => k lo' st' I L)
    | _ => False)
  | .istore j => (match st with
    | .inl v :: st' => lsetK lo j (vI v) (fun lo' => k lo' st' I L)
    | _ => False)
  | .astore_n j => (match st with
    | .inr (.inl v) :: st' => lsetK lo j (vS v) (fun lo' => k lo' st' I L)
    | .inr (.inr (.inl v)) :: st' => lsetK lo j (vD v) (fun lo' => k lo' st' I L)
    | _ => False)
  | .astore j => (match st with
    | .inr (.inl v) :: st' => lsetK lo j (vS v) (fun lo' => k lo' st' I L)
    | .inr (.inr (.inl v)) :: st' => lsetK lo j (vD v) (fun lo' => k lo' st' I L)
    | _ => False)
  | .iinc j _ => ldI lo j (fun v => lsetK lo j (vI (v + x)) (fun lo' => k lo' st I L))
  | .iadd => (match st with
    | .inl z :: .inl y :: st' => k lo (vI (y + z) :: st') I L
    | _ => False)
  | .isub => (match st with
    | .inl z :: .inl y :: st' => k lo (vI (y - z) :: st') I L
    | _ => False)
  | .imul => (match st with
    | .inl z :: .inl y :: st' => k lo (vI (y * z) :: st') I L
    | _ => False)
  | .iand => (match st with
    | .inl z :: .inl y :: st' => k lo (vI (y &&& z) :: st') I L
    | _ => False)
  | .ior => (match st with
    | .inl z :: .inl y :: st' => k lo (vI (y ||| z) :: st') I L
    | _ => False)
  | .ixor => (match st with
    | .inl z :: .inl y :: st' => k lo (vI (y ^^^ z) :: st') I L
    | _ => False)
  | .ishl => (match st with
    | .inl z :: .inl y :: st' => k lo (vI (y <<< (z &&& 31)) :: st') I L
    | _ => False)
  | .ishr => (match st with
    | .inl z :: .inl y :: st' => k lo (vI (y >>> (z &&& 31)) :: st') I L
    | _ => False)
  | .iushr => (match st with
    | .inl z :: .inl y :: st' => k lo (vI (y.toUInt32 >>> (z.toUInt32 &&& Int32.toUInt32 31)).toInt32 :: st') I L
    | _ => False)
  | .i2l => (match st with
    | .inl y :: st' => k lo (vJ y.toInt64 :: st') I L
    | _ => False)
  | .lcmp => (match st with
    | .inr (.inr (.inr z)) :: .inr (.inr (.inr y)) :: st' => k lo (vI (lg_cmp y z) :: st') I L
    | _ => False)
  | .dup => (match st with
    | .inl y :: st' => k lo (vI y :: vI y :: st') I L
    | .inr (.inl y) :: st' => k lo (vS y :: vS y :: st') I L
    | .inr (.inr (.inl y)) :: st' => k lo (vD y :: vD y :: st') I L
    | _ => False)
  | .dup2 => (match st with
    | .inl y :: .inr (.inl z) :: st' => k lo (vI y :: vS z :: vI y :: vS z :: st') I L
    | _ => False)
  | .aconst_null => k lo (vD none :: st) I L
  | .pop => (match st with
    | .inl _ :: st' => k lo st' I L
    | _ => False)
  | .getfield _ => (match st with
    | .inr (.inl i) :: st' => (match T.1 i with
      | some (.inl ci) => cond (Nat.beq ci a) (cond (isI (qt a b)) (k lo (vI (I i b) :: st') I L) (match T.2 i b with
        | some v => k lo (v :: st') I L
        | none => k lo (vD (g.2.2 i b) :: st') I L)) False
      | _ => False)
    | .inr (.inr (.inl (some i))) :: st' => g.2.1 i = some (.inl a) ∧ cond (isI (qt a b)) (k lo (vI (I i b) :: st') I L) (k lo (vD (g.2.2 i b) :: st') I L)
    | _ => False)
  | .putfield _ => cond (isI (qt a b) && !fFin a b) (match st with
    | .inl v :: .inr (.inl i) :: st' => (match T.1 i with
      | some (.inl ci) => cond (Nat.beq ci a) (match qt a b with
        | .boolean => (v = 0 ∨ v = 1) ∧ k lo st' (up2 I i b v) L
        | .int => k lo st' (up2 I i b v) L
        | _ => False) False
      | _ => False)
    | .inl v :: .inr (.inr (.inl (some i))) :: st' => (g.2.1 i = some (.inl a) ∧ i ≠ 0 ∧ fitI (qt a b) v) ∧ k lo st' (up2 I i b v) L
    | _ => False) (Ex M d kc ks Q pc lo st g I L)
  | .iaload => (match st with
    | .inl j :: .inr (.inl i) :: st' => (match T.1 i with
      | some (.inr (.int, n)) => vp_in j n ∧ k lo (vI (I i j.toNatClampNeg) :: st') I L
      | _ => False)
    | .inl j :: .inr (.inr (.inl (some i))) :: st' => ∃ n, (g.2.1 i = some (.inr (.int, n)) ∧ vp_in j n) ∧ k lo (vI (I i j.toNatClampNeg) :: st') I L
    | _ => False)
  | .baload => (match st with
    | .inl j :: .inr (.inl i) :: st' => (match T.1 i with
      | some (.inr (.boolean, n)) => vp_in j n ∧ k lo (vI (I i j.toNatClampNeg) :: st') I L
      | _ => False)
    | _ => False)
  | .iastore => (match st with
    | .inl v :: .inl j :: .inr (.inl i) :: st' => (match T.1 i with
      | some (.inr (.int, n)) => vp_in j n ∧ k lo st' (up2 I i j.toNatClampNeg v) L
      | _ => False)
    | .inl v :: .inl j :: .inr (.inr (.inl (some i))) :: st' => ∃ n, (g.2.1 i = some (.inr (.int, n)) ∧ i ≠ 0 ∧ vp_in j n) ∧ k lo st' (up2 I i j.toNatClampNeg v) L
    | _ => False)
  | .bastore => (match st with
    | .inl v :: .inl j :: .inr (.inl i) :: st' => (match T.1 i with
      | some (.inr (.boolean, n)) => (vp_in j n ∧ (v = 0 ∨ v = 1)) ∧ k lo st' (up2 I i j.toNatClampNeg v) L
      | _ => False)
    | _ => False)
  | .laload => (match st with
    | .inl j :: .inr (.inl i) :: st' => (match T.1 i with
      | some (.inr (.long, n)) => vp_in j n ∧ k lo (vJ (L i) :: st') I L
      | _ => False)
    | _ => False)
  | .lastore => (match st with
    | .inr (.inr (.inr v)) :: .inl j :: .inr (.inl i) :: st' => (match T.1 i with
      | some (.inr (.long, 1)) => vp_in j 1 ∧ k lo st' I (up1 L i v)
      | _ => False)
    | _ => False)
  | .aaload => (match st with
    | .inl j :: .inr (.inl i) :: st' => (match T.1 i with
      | some (.inr (.object T0, n)) => (T0 = RX7 ∨ T0 = RX6) ∧ vp_in j n ∧ k lo (vD (g.2.2 i j.toNatClampNeg) :: st') I L
      | _ => False)
    | .inl j :: .inr (.inr (.inl (some i))) :: st' => ∃ n T0, ((T0 = RX7 ∨ T0 = RX6) ∧ g.2.1 i = some (.inr (.object T0, n)) ∧ vp_in j n) ∧ k lo (vD (g.2.2 i j.toNatClampNeg) :: st') I L
    | _ => False)
  | .arraylength => (match st with
    | .inr (.inl i) :: st' => (match T.1 i with
      | some (.inr (.int, n)) => k lo (vI (Int32.ofNat n) :: st') I L
      | _ => False)
    | .inr (.inr (.inl (some i))) :: st' => ∃ ty n, (ty ∈ qTy ∧ g.2.1 i = some (.inr (ty, n))) ∧ k lo (vI (Int32.ofNat n) :: st') I L
    | _ => False)
  | .goto _ => J a lo st I L
  | .ifCond op _ => (match st with
    | .inl v :: st' => (match op with
      | .eq => brK (v = 0) (J a lo st' I L) (J (pc + 3) lo st' I L)
      | .ne => brK (v = 0) (J (pc + 3) lo st' I L) (J a lo st' I L)
      | .lt => brK (v < 0) (J a lo st' I L) (J (pc + 3) lo st' I L)
      | .ge => brK (0 ≤ v) (J a lo st' I L) (J (pc + 3) lo st' I L)
      | .gt => brK (0 < v) (J a lo st' I L) (J (pc + 3) lo st' I L)
      | .le => brK (v ≤ 0) (J a lo st' I L) (J (pc + 3) lo st' I L))
    | _ => False)
  | .if_icmp op _ => (match st with
    | .inl z :: .inl v :: st' => (match op with
      | .eq => brK (v = z) (J a lo st' I L) (J (pc + 3) lo st' I L)
      | .ne => brK (v = z) (J (pc + 3) lo st' I L) (J a lo st' I L)
      | .lt => brK (v < z) (J a lo st' I L) (J (pc + 3) lo st' I L)
      | .ge => brK (z ≤ v) (J a lo st' I L) (J (pc + 3) lo st' I L)
      | .gt => brK (z < v) (J a lo st' I L) (J (pc + 3) lo st' I L)
      | .le => brK (v ≤ z) (J a lo st' I L) (J (pc + 3) lo st' I L))
    | _ => False)
  | .ifnull _ => (match st with
    | .inr (.inl _) :: st' => J (pc + 3) lo st' I L
    | .inr (.inr (.inl (some _))) :: st' => J (pc + 3) lo st' I L
    | .inr (.inr (.inl none)) :: st' => J a lo st' I L
    | _ => False)
  | .ifnonnull _ => (match st with
    | .inr (.inl _) :: st' => J a lo st' I L
    | .inr (.inr (.inl (some _))) :: st' => J a lo st' I L
    | .inr (.inr (.inl none)) :: st' => J (pc + 3) lo st' I L
    | _ => False)
  | .ireturn => (match st with
    | [.inl v] => (match M.ret with
      | some .int => Q (.inl (some (vI v))) g I L
      | some .boolean => (v = 0 ∨ v = 1) ∧ Q (.inl (some (vI v))) g I L
      | _ => False)
    | _ => False)
  | .areturn => (match st with
    | [.inr (.inr (.inl r))] => (match M.ret with
      | some (.object _) => Q (.inl (some (vD r))) g I L
      | _ => False)
    | [.inr (.inl i)] => (match M.ret with
      | some (.object _) => Q (.inl (some (vD (some i)))) g I L
      | _ => False)
    | _ => False)
  | .return_ => (match st with
    | [] => (match M.ret with
      | none => Q (.inl none) g I L
      | _ => False)
    | _ => False)
  | _ => Ex M d kc ks Q pc lo st g I L
def bx (T : aT) (M : aM) (d kc ks : Nat) (Q : aQ) (g : aG) (J : Nat → List (Option aV) → List aV → aI → aL → Prop) : List aR → List (Option aV) → List aV → aI → aL → Prop
  | [] => fun _ _ _ _ => False
  | row :: r => stp T M d kc ks Q g J row (bx T M d kc ks Q g J r)
def fr : List aR → Nat → List aR
  | [], _ => []
  | r :: l, pc => cond (Nat.beq r.1 pc) (r :: l) (fr l pc)
def hasN : List Nat → Nat → Bool
  | [], _ => false
  | a :: l, n => cond (Nat.beq a n) true (hasN l n)
/-- block after block, but no further than the cuts -/
def wx (T : aT) (M : aM) (d kc ks : Nat) (Q : aQ) (g : aG) (cuts : List Nat) : Nat → Nat → List (Option aV) → List aV → aI → aL → Prop
  | 0, pc => fun lo st I L => Ex M d kc ks Q pc lo st g I L
  | f + 1, pc => bx T M d kc ks Q g (fun pc' lo st I L => cond (hasN cuts pc') (Ex M d kc ks Q pc' lo st g I L) (wx T M d kc ks Q g cuts f pc' lo st I L)) (fr M.code pc)
/-- at most n rows -/
def bn (T : aT) (M : aM) (d kc ks : Nat) (Q : aQ) (g : aG) (J : Nat → List (Option aV) → List aV → aI → aL → Prop) : Nat → List aR → List (Option aV) → List aV → aI → aL → Prop
  | _, [] => fun _ _ _ _ => False
  | 0, row :: _ => fun lo st I L => Ex M d kc ks Q row.1 lo st g I L
  | n + 1, row :: r => stp T M d kc ks Q g J row (bn T M d kc ks Q g J n r)
end
section
/-! the block's soundness -/
def flT : List (String × Nat × Nat × Nat) := [(RX5, 11, 5, 0), (RX5, 15, 5, 1), (RX5, 19, 5, 2), (RX5, 22, 5, 3), (RX5, 25, 5, 4), (RX2, 11, 2, 0), (RX2, 15, 2, 1), (RX2, 18, 2, 2), (RX2, 21, 2, 3), (RX1, 19, 1, 0), (RX8, 152, 1, 0), (RX1, 23, 1, 1), (RX3, 130, 1, 1), (RX1, 27, 1, 2), (RX3, 136, 1, 2), (RX1, 30, 1, 3), (RX3, 211, 1, 3), (RX1, 33, 1, 4), (RX3, 101, 1, 4), (RX1, 36, 1, 5), (RX3, 112, 1, 5), (RX1, 39, 1, 6), (RX3, 105, 1, 6), (RX1, 42, 1, 7), (RX3, 115, 1, 7), (RX3, 12, 3, 0), (RX3, 21, 3, 1), (RX3, 25, 3, 2), (RX3, 34, 3, 3), (RX3, 38, 3, 4), (RX3, 71, 3, 5), (RX3, 42, 3, 6), (RX3, 65, 3, 7), (RX3, 68, 3, 8), (RX6, 11, 6, 0), (RX4, 9, 4, 0), (RX3, 56, 4, 0), (RX8, 106, 4, 0), (RX4, 18, 4, 1), (RX3, 79, 4, 1), (RX8, 127, 4, 1), (RX4, 22, 4, 2), (RX3, 87, 4, 2), (RX8, 11, 8, 0), (RX8, 18, 8, 1), (RX8, 25, 8, 2), (RX8, 29, 8, 3), (RX8, 32, 8, 4), (RX8, 135, 8, 5), (RX8, 40, 8, 6), (RX7, 7, 7, 0), (RX3, 142, 7, 0), (RX7, 13, 7, 1), (RX3, 197, 7, 1), (RX7, 17, 7, 2), (RX3, 200, 7, 2), (RX7, 20, 7, 3), (RX3, 170, 7, 3), (RX7, 23, 7, 4), (RX3, 174, 7, 4), (RX7, 27, 7, 5), (RX3, 178, 7, 5), (RX7, 40, 7, 6), (RX8, 138, 7, 6), (RX7, 51, 7, 7), (RX8, 92, 7, 7), (RX9, 1, 9, 0), (RX9, 141, 9, 1), (RX9, 13, 9, 2), (RX9, 17, 9, 3), (RX9, 20, 9, 4), (RX9, 23, 9, 5), (RX9, 26, 9, 6), (RX9, 30, 9, 7), (RX9, 33, 9, 8), (RX9, 36, 9, 9), (RX9, 207, 9, 10), (RX9, 39, 9, 11), (RX9, 42, 9, 12), (RX9, 45, 9, 13), (RX9, 191, 9, 14), (RX9, 48, 9, 15), (RX9, 51, 9, 16), (RX9, 54, 9, 17), (RX9, 57, 9, 18), (RX9, 60, 9, 19), (RX9, 63, 9, 20), (RX9, 66, 9, 21), (RX9, 69, 9, 22), (RX9, 72, 9, 23), (RX9, 75, 9, 24), (RX9, 78, 9, 25), (RX9, 81, 9, 26), (RX9, 84, 9, 27), (RX9, 87, 9, 28), (RX9, 194, 9, 29), (RX9, 197, 9, 30), (RX9, 181, 9, 31), (RX9, 184, 9, 32), (RX9, 187, 9, 33), (RX9, 228, 9, 34), (RX9, 231, 9, 35), (RX9, 90, 9, 36), (RX9, 93, 9, 37), (RX9, 96, 9, 38), (RX9, 99, 9, 39), (RX9, 102, 9, 40), (RX9, 105, 9, 41), (RX9, 108, 9, 42), (RX9, 111, 9, 43), (RX9, 114, 9, 44), (RX9, 288, 9, 45), (RX9, 117, 9, 46), (RX9, 120, 9, 47), (RX9, 123, 9, 48), (RX9, 126, 9, 49), (RX9, 129, 9, 50), (RX9, 132, 9, 51), (RX9, 135, 9, 52), (RX9, 138, 9, 53)]
def flW (e : String × Nat × Nat × Nat) : Cond := match qC[e.2.2.1]? with
  | some q => Cond.fieldLink e.1 e.2.1 (q.2.1 e.2.2.2).1 (q.2.1 e.2.2.2).2.1 (q.2.1 e.2.2.2).2.2.1
  | none => .tt
theorem flT_in : gIn (flT.map flW) = true := by decide +kernel
def flN (e : String × Nat × Nat × Nat) : Bool := match qC[e.2.2.1]? with
  | some q => decide (e.2.2.2 < q.2.2)
  | none => false
theorem flT_n : flT.all flN = true := by decide +kernel
def fB (M : aM) (idx a b : Nat) : Bool := flT.any (fun e => Nat.beq e.2.1 idx && (Nat.beq e.2.2.1 a && (Nat.beq e.2.2.2 b && decide (e.1 = M.y.cls))))
theorem fB_ok {M : aM} {idx a b : Nat} (h : fB M idx a b = true) : fOk M idx a b := by
  obtain ⟨e, he, h1⟩ := List.any_eq_true.mp h
  simp only [Bool.and_eq_true, decide_eq_true_eq] at h1
  obtain ⟨h1, h2, h3, h4⟩ := h1
  have h1 := Nat.eq_of_beq_eq_true h1
  have h2 := Nat.eq_of_beq_eq_true h2
  have h3 := Nat.eq_of_beq_eq_true h3
  have hn := List.all_eq_true.mp flT_n e he
  have hw := gT_of flT_in (flW e) (List.mem_map.mpr ⟨e, he, rfl⟩)
  unfold flN at hn
  unfold flW at hw
  rw [h2, h3] at hn
  rw [h2, h3, h1, h4] at hw
  cases hq : qC[a]? with
  | none => rw [hq] at hn; cases hn
  | some q =>
    rw [hq] at hn hw
    exact ⟨q, hq, of_decide_eq_true hn, hw⟩
def tB (pc : Nat) (off : Int) (a : Nat) : Bool := decide ((pc : Int) + off = (a : Int))
def rB (M : aM) (r : aR) : Bool := decide (decode M.cc r.1 = .ok (r.2.1, r.2.2.1)) && (match r with
  | (pc, i, n, x, a, b) => match i with
    | .iconst m => decide (Int32.ofInt m = x) && Nat.beq n 1
    | .bipush m => decide ((Int8.ofInt m).toInt32 = x) && Nat.beq n 2
    | .sipush m => decide ((Int16.ofInt m).toInt32 = x) && Nat.beq n 3
    | .lconst m => decide (Int64.ofNat (m : Nat) = x.toInt64) && Nat.beq n 1
    | .iload_n _ => Nat.beq n 1
    | .iload _ => Nat.beq n 2
    | .aload_n _ => Nat.beq n 1
    | .aload _ => Nat.beq n 2
    | .istore_n j => Nat.beq n 1 && Nat.blt j M.nL
    | .istore j => Nat.beq n 2 && Nat.blt j M.nL
    | .astore_n j => Nat.beq n 1 && Nat.blt j M.nL
    | .astore j => Nat.beq n 2 && Nat.blt j M.nL
    | .iinc j m => Nat.beq n 3 && (Nat.blt j M.nL && decide (Int32.ofInt m = x))
    | .getfield idx => Nat.beq n 3 && fB M idx a b
    | .putfield idx => Nat.beq n 3 && fB M idx a b
    | .goto off => Nat.beq n 3 && tB pc off a
    | .ifCond _ off => Nat.beq n 3 && tB pc off a
    | .if_icmp _ off => Nat.beq n 3 && tB pc off a
    | .ifnull off => Nat.beq n 3 && tB pc off a
    | .ifnonnull off => Nat.beq n 3 && tB pc off a
    | .iadd | .isub | .imul | .iand | .ior | .ixor | .ishl | .ishr | .iushr | .i2l | .lcmp | .dup | .dup2 | .pop | .aconst_null | .iaload | .baload | .iastore | .bastore | .laload | .lastore | .aaload | .arraylength | .ireturn | .areturn | .return_ => Nat.beq n 1
    | _ => true)
def cB (M : aM) : List aR → Bool
  | [] => true
  | r :: l => rB M r && ((match l with
    | [] => true
    | r' :: _ => Nat.beq (r.1 + r.2.2.1) r'.1) && cB M l)
section Sound
variable {T : aT} {M : aM} {d kc ks : Nat} {Q : aQ} {g : aG} {lo : List (Option aV)} {st : List aV} {I : aI} {L : aL}
theorem ldI_ok {a : Nat} {k : Int32 → Prop} (h : ldI lo a k) : ∃ x, lo[a]? = some (some (vI x)) ∧ k x := by
  unfold ldI at h
  rw [nth_eq] at h
  split at h
  · rename_i x hx; exact ⟨x, hx, h⟩
  · exact h.elim
theorem ldA_ok {a : Nat} {k : aV → Prop} (h : ldA lo a k) : (∃ i, lo[a]? = some (some (vS i)) ∧ k (vS i)) ∨ ∃ r, lo[a]? = some (some (vD r)) ∧ k (vD r) := by
  unfold ldA at h
  rw [nth_eq] at h
  split at h
  · rename_i x hx; exact Or.inl ⟨x, hx, h⟩
  · rename_i x hx; exact Or.inr ⟨x, hx, h⟩
  · exact h.elim
theorem beqT {a b : Nat} (h : Nat.beq a b = true) : a = b := Nat.eq_of_beq_eq_true h
theorem bltT {a b : Nat} (h : Nat.blt a b = true) : a < b := Nat.le_of_ble_eq_true h
theorem tBT {pc : Nat} {off : Int} {a : Nat} (h : tB pc off a = true) : (pc : Int) + off = (a : Int) := of_decide_eq_true h
set_option maxHeartbeats 4000000 in
theorem stp_ok {row : aR} {J : Nat → List (Option aV) → List aV → aI → aL → Prop} {k : List (Option aV) → List aV → aI → aL → Prop} (hw : Wf T g) (hJ : ∀ pc lo st I L, J pc lo st I L → Ex M d kc ks Q pc lo st g I L) (hr : rB M row = true) (hk : ∀ lo st I L, k lo st I L → Ex M d kc ks Q (row.1 + row.2.2.1) lo st g I L) (h : stp T M d kc ks Q g J row k lo st I L) : Ex M d kc ks Q row.1 lo st g I L := by
  obtain ⟨pc, i, n, x, a, b⟩ := row
  unfold rB at hr
  simp only [Bool.and_eq_true, decide_eq_true_eq] at hr
  obtain ⟨hd, hr⟩ := hr
  simp only at hk ⊢
  unfold stp at h
  simp only at h
  split at h
  · simp only [Bool.and_eq_true, decide_eq_true_eq] at hr; cases beqT hr.2; exact Ex_iconst hd hr.1 (hk _ _ _ _ h)
  · simp only [Bool.and_eq_true, decide_eq_true_eq] at hr; cases beqT hr.2; exact Ex_bipush hd hr.1 (hk _ _ _ _ h)
  · simp only [Bool.and_eq_true, decide_eq_true_eq] at hr; cases beqT hr.2; exact Ex_sipush hd hr.1 (hk _ _ _ _ h)
  · simp only [Bool.and_eq_true, decide_eq_true_eq] at hr; cases beqT hr.2; exact Ex_lconst hd hr.1 (hk _ _ _ _ h)
  · cases beqT hr; obtain ⟨v, h1, h2⟩ := ldI_ok h; exact Ex_iload_n hd h1 (hk _ _ _ _ h2)
  · cases beqT hr; obtain ⟨v, h1, h2⟩ := ldI_ok h; exact Ex_iload hd h1 (hk _ _ _ _ h2)
  · cases beqT hr; rcases ldA_ok h with ⟨v, h1, h2⟩ | ⟨v, h1, h2⟩; exact Ex_aload_nS hd h1 (hk _ _ _ _ h2); exact Ex_aload_nD hd h1 (hk _ _ _ _ h2)
  · cases beqT hr; rcases ldA_ok h with ⟨v, h1, h2⟩ | ⟨v, h1, h2⟩; exact Ex_aloadS hd h1 (hk _ _ _ _ h2); exact Ex_aloadD hd h1 (hk _ _ _ _ h2)
  · simp only [Bool.and_eq_true] at hr; cases beqT hr.1
    split at h
    · exact Ex_istore_n hd (bltT hr.2) (hk _ _ _ _ (lsetK_eq _ _ _ _ h))
    · exact h.elim
  · simp only [Bool.and_eq_true] at hr; cases beqT hr.1
    split at h
    · exact Ex_istore hd (bltT hr.2) (hk _ _ _ _ (lsetK_eq _ _ _ _ h))
    · exact h.elim
  · simp only [Bool.and_eq_true] at hr; cases beqT hr.1
    split at h
    · exact Ex_astore_nS hd (bltT hr.2) (hk _ _ _ _ (lsetK_eq _ _ _ _ h))
    · exact Ex_astore_nD hd (bltT hr.2) (hk _ _ _ _ (lsetK_eq _ _ _ _ h))
    · exact h.elim
  · simp only [Bool.and_eq_true] at hr; cases beqT hr.1
    split at h
    · exact Ex_astoreS hd (bltT hr.2) (hk _ _ _ _ (lsetK_eq _ _ _ _ h))
    · exact Ex_astoreD hd (bltT hr.2) (hk _ _ _ _ (lsetK_eq _ _ _ _ h))
    · exact h.elim
  · simp only [Bool.and_eq_true, decide_eq_true_eq] at hr; cases beqT hr.1
    obtain ⟨v, h1, h2⟩ := ldI_ok h
    exact Ex_iinc hd hr.2.2 (bltT hr.2.1) h1 (hk _ _ _ _ (lsetK_eq _ _ _ _ h2))
  · cases beqT hr; split at h; exact Ex_iadd hd (hk _ _ _ _ h); exact h.elim
  · cases beqT hr; split at h; exact Ex_isub hd (hk _ _ _ _ h); exact h.elim
  · cases beqT hr; split at h; exact Ex_imul hd (hk _ _ _ _ h); exact h.elim
  · cases beqT hr; split at h; exact Ex_iand hd (hk _ _ _ _ h); exact h.elim
  · cases beqT hr; split at h; exact Ex_ior hd (hk _ _ _ _ h); exact h.elim
  · cases beqT hr; split at h; exact Ex_ixor hd (hk _ _ _ _ h); exact h.elim
  · cases beqT hr; split at h; exact Ex_ishl hd (hk _ _ _ _ h); exact h.elim
  · cases beqT hr; split at h; exact Ex_ishr hd (hk _ _ _ _ h); exact h.elim
  · cases beqT hr; split at h; exact Ex_iushr hd (hk _ _ _ _ h); exact h.elim
  · cases beqT hr; split at h; exact Ex_i2l hd (hk _ _ _ _ h); exact h.elim
  · cases beqT hr; split at h; exact Ex_lcmp hd (hk _ _ _ _ h); exact h.elim
  · cases beqT hr; split at h
    · exact Ex_dup (fun _ q => by cases q) hd (hk _ _ _ _ h)
    · exact Ex_dup (fun _ q => by cases q) hd (hk _ _ _ _ h)
    · exact Ex_dup (fun _ q => by cases q) hd (hk _ _ _ _ h)
    · exact h.elim
  · cases beqT hr; split at h
    · exact Ex_dup2 (fun _ q => by cases q) (fun _ q => by cases q) hd (hk _ _ _ _ h)
    · exact h.elim
  · cases beqT hr; exact Ex_null hd (hk _ _ _ _ h)
  · cases beqT hr; split at h
    · exact Ex_pop (fun _ q => by cases q) hd (hk _ _ _ _ h)
    · exact h.elim
  · simp only [Bool.and_eq_true] at hr; cases beqT hr.1
    have fk := fB_ok hr.2
    split at h
    · rename_i i0 st'
      split at h
      · rename_i ci hci
        cases hbe : Nat.beq ci a with
        | false => rw [hbe] at h; exact h.elim
        | true =>
          rw [hbe] at h
          cases beqT hbe
          obtain ⟨-, h2, h3⟩ := hw i0 _ hci
          cases hI : isI (qt a b) with
          | true => rw [hI] at h; exact Ex_getI fk hI h2 hd (hk _ _ _ _ h)
          | false =>
            rw [hI] at h
            simp only [cond_true, cond_false] at h
            split at h
            · rename_i v hj
              have h9 := hk _ _ _ _ h
              refine Ex_getR fk hI h2 hd ?_
              have h8 := h3 b v hj
              rcases v with y | j | q | y
              · exact h8.elim
              · have h7 : g.2.2 i0 b = some j := h8
                rw [h7]
                exact h9
              · have h7 : g.2.2 i0 b = q := h8
                rw [h7]
                exact h9
              · exact h8.elim
            · exact Ex_getR fk hI h2 hd (hk _ _ _ _ h)
      · exact h.elim
    · obtain ⟨h1, h2⟩ := h
      cases hI : isI (qt a b) with
      | true => rw [hI] at h2; exact Ex_getI fk hI h1 hd (hk _ _ _ _ h2)
      | false => rw [hI] at h2; exact Ex_getR fk hI h1 hd (hk _ _ _ _ h2)
    · exact h.elim
  · simp only [Bool.and_eq_true] at hr; cases beqT hr.1
    have fk := fB_ok hr.2
    cases hc : (isI (qt a b) && !fFin a b) with
    | false => rw [hc] at h; exact h
    | true =>
      rw [hc] at h
      simp only [Bool.and_eq_true, Bool.not_eq_true'] at hc
      simp only [cond_true] at h
      split at h
      · rename_i v i0 st'
        split at h
        · rename_i ci hci
          cases hbe : Nat.beq ci a with
          | false => rw [hbe] at h; exact h.elim
          | true =>
            rw [hbe] at h
            cases beqT hbe
            obtain ⟨h0, h2, h3⟩ := hw i0 _ hci
            simp only [cond_true] at h
            split at h
            · rename_i hty; exact Ex_putI fk (Or.inl hc.2) hc.1 (by rw [hty]; exact h.1) h2 h0 hd (hk _ _ _ _ h.2)
            · rename_i hty; exact Ex_putI fk (Or.inl hc.2) hc.1 (by rw [hty]; trivial) h2 h0 hd (hk _ _ _ _ h)
            · exact h.elim
        · exact h.elim
      · exact Ex_putI fk (Or.inl hc.2) hc.1 h.1.2.2 h.1.1 h.1.2.1 hd (hk _ _ _ _ h.2)
      · exact h.elim
  · cases beqT hr; split at h
    · split at h
      · rename_i hci; obtain ⟨h0, h2, -⟩ := hw _ _ hci; exact Ex_iald h2 h.1 hd (hk _ _ _ _ h.2)
      · exact h.elim
    · obtain ⟨n, h1, h2⟩ := h; exact Ex_iald h1.1 h1.2 hd (hk _ _ _ _ h2)
    · exact h.elim
  · cases beqT hr; split at h
    · split at h
      · rename_i hci; obtain ⟨h0, h2, -⟩ := hw _ _ hci; exact Ex_zald h2 h.1 hd (hk _ _ _ _ h.2)
      · exact h.elim
    · exact h.elim
  · cases beqT hr; split at h
    · split at h
      · rename_i hci; obtain ⟨h0, h2, -⟩ := hw _ _ hci; exact Ex_iast h2 h0 h.1 hd (hk _ _ _ _ h.2)
      · exact h.elim
    · obtain ⟨n, h1, h2⟩ := h; exact Ex_iast h1.1 h1.2.1 h1.2.2 hd (hk _ _ _ _ h2)
    · exact h.elim
  · cases beqT hr; split at h
    · split at h
      · rename_i hci; obtain ⟨h0, h2, -⟩ := hw _ _ hci; exact Ex_zast h2 h0 h.1.2 h.1.1 hd (hk _ _ _ _ h.2)
      · exact h.elim
    · exact h.elim
  · cases beqT hr; split at h
    · split at h
      · rename_i hci; obtain ⟨h0, h2, -⟩ := hw _ _ hci; exact Ex_lald h2 h.1 hd (hk _ _ _ _ h.2)
      · exact h.elim
    · exact h.elim
  · cases beqT hr; split at h
    · split at h
      · rename_i hci; obtain ⟨h0, h2, -⟩ := hw _ _ hci; exact Ex_last h2 h0 h.1 hd (hk _ _ _ _ h.2)
      · exact h.elim
    · exact h.elim
  · cases beqT hr; split at h
    · split at h
      · rename_i hci; obtain ⟨h0, h2, -⟩ := hw _ _ hci; exact Ex_aald h.1 h2 h.2.1 hd (hk _ _ _ _ h.2.2)
      · exact h.elim
    · obtain ⟨n, T0, h1, h2⟩ := h; exact Ex_aald h1.1 h1.2.1 h1.2.2 hd (hk _ _ _ _ h2)
    · exact h.elim
  · cases beqT hr; split at h
    · split at h
      · rename_i hci; obtain ⟨h0, h2, -⟩ := hw _ _ hci; exact Ex_alen (by simp [qTy]) h2 hd (hk _ _ _ _ h)
      · exact h.elim
    · obtain ⟨ty, n, h1, h2⟩ := h; exact Ex_alen h1.1 h1.2 hd (hk _ _ _ _ h2)
    · exact h.elim
  · simp only [Bool.and_eq_true] at hr; cases beqT hr.1; exact Ex_goto hd (tBT hr.2) (hJ _ _ _ _ _ h)
  · simp only [Bool.and_eq_true] at hr; cases beqT hr.1
    split at h
    · split at h
      · exact Ex_if_eq hd (tBT hr.2) (fun q => hJ _ _ _ _ _ (h.1 q)) (fun q => hJ _ _ _ _ _ (h.2 q))
      · exact Ex_if_ne hd (tBT hr.2) (fun q => hJ _ _ _ _ _ (h.2 q)) (fun q => hJ _ _ _ _ _ (h.1 q))
      · exact Ex_if_lt hd (tBT hr.2) (fun q => hJ _ _ _ _ _ (h.1 q)) (fun q => hJ _ _ _ _ _ (h.2 q))
      · exact Ex_if_ge hd (tBT hr.2) (fun q => hJ _ _ _ _ _ (h.1 q)) (fun q => hJ _ _ _ _ _ (h.2 q))
      · exact Ex_if_gt hd (tBT hr.2) (fun q => hJ _ _ _ _ _ (h.1 q)) (fun q => hJ _ _ _ _ _ (h.2 q))
      · exact Ex_if_le hd (tBT hr.2) (fun q => hJ _ _ _ _ _ (h.1 q)) (fun q => hJ _ _ _ _ _ (h.2 q))
    · exact h.elim
  · simp only [Bool.and_eq_true] at hr; cases beqT hr.1
    split at h
    · split at h
      · exact Ex_icmp_eq hd (tBT hr.2) (fun q => hJ _ _ _ _ _ (h.1 q)) (fun q => hJ _ _ _ _ _ (h.2 q))
      · exact Ex_icmp_ne hd (tBT hr.2) (fun q => hJ _ _ _ _ _ (h.2 q)) (fun q => hJ _ _ _ _ _ (h.1 q))
      · exact Ex_icmp_lt hd (tBT hr.2) (fun q => hJ _ _ _ _ _ (h.1 q)) (fun q => hJ _ _ _ _ _ (h.2 q))
      · exact Ex_icmp_ge hd (tBT hr.2) (fun q => hJ _ _ _ _ _ (h.1 q)) (fun q => hJ _ _ _ _ _ (h.2 q))
      · exact Ex_icmp_gt hd (tBT hr.2) (fun q => hJ _ _ _ _ _ (h.1 q)) (fun q => hJ _ _ _ _ _ (h.2 q))
      · exact Ex_icmp_le hd (tBT hr.2) (fun q => hJ _ _ _ _ _ (h.1 q)) (fun q => hJ _ _ _ _ _ (h.2 q))
    · exact h.elim
  · simp only [Bool.and_eq_true] at hr; cases beqT hr.1
    split at h
    · exact Ex_ifnullS hd (hJ _ _ _ _ _ h)
    · exact Ex_ifnullD hd (hJ _ _ _ _ _ h)
    · exact Ex_ifnullN hd (tBT hr.2) (hJ _ _ _ _ _ h)
    · exact h.elim
  · simp only [Bool.and_eq_true] at hr; cases beqT hr.1
    split at h
    · exact Ex_ifnonnullS hd (tBT hr.2) (hJ _ _ _ _ _ h)
    · exact Ex_ifnonnullD hd (tBT hr.2) (hJ _ _ _ _ _ h)
    · exact Ex_ifnonnullN hd (hJ _ _ _ _ _ h)
    · exact h.elim
  · cases beqT hr; split at h
    · split at h
      · rename_i hret; exact Ex_ireturn hret hd h
      · rename_i hret; exact Ex_zreturn hret h.1 hd h.2
      · exact h.elim
    · exact h.elim
  · cases beqT hr; split at h
    · split at h
      · rename_i hret; exact Ex_areturn hret hd h
      · exact h.elim
    · split at h
      · rename_i hret; exact Ex_areturn (r := some _) hret hd h
      · exact h.elim
    · exact h.elim
  · cases beqT hr; split at h
    · split at h
      · rename_i hret; exact Ex_return hret hd h
      · exact h.elim
    · exact h.elim
  · exact h
theorem bx_ok {J : Nat → List (Option aV) → List aV → aI → aL → Prop} (hw : Wf T g) (hJ : ∀ pc lo st I L, J pc lo st I L → Ex M d kc ks Q pc lo st g I L) : ∀ (r : List aR), cB M r = true → ∀ (lo : List (Option aV)) (st : List aV) (I : aI) (L : aL), bx T M d kc ks Q g J r lo st I L → ∃ row l, r = row :: l ∧ Ex M d kc ks Q row.1 lo st g I L := by
  intro r
  induction r with
  | nil => intro _ lo st I L h; exact h.elim
  | cons row l ih =>
    intro hc lo st I L h
    unfold cB at hc
    simp only [Bool.and_eq_true] at hc
    refine ⟨row, l, rfl, stp_ok hw hJ hc.1 (fun lo st I L h2 => ?_) h⟩
    obtain ⟨row', l', e, h3⟩ := ih hc.2.2 lo st I L h2
    subst e
    rw [beqT hc.2.1]
    exact h3
theorem fr_ok {M : aM} : ∀ (r : List aR) (pc : Nat), cB M r = true → cB M (fr r pc) = true ∧ ∀ row l, fr r pc = row :: l → row.1 = pc := by
  intro r
  induction r with
  | nil => intro pc h; exact ⟨h, fun row l e => by cases e⟩
  | cons row l ih =>
    intro pc h
    unfold fr
    cases hb : Nat.beq row.1 pc with
    | true =>
      simp only [cond_true]
      exact ⟨h, fun row' l' e => by cases e; exact beqT hb⟩
    | false =>
      simp only [cond_false]
      unfold cB at h
      simp only [Bool.and_eq_true] at h
      exact ih pc h.2.2
theorem Ex_bj {pc : Nat} {J : Nat → List (Option aV) → List aV → aI → aL → Prop} (hM : cB M M.code = true) (hw : Wf T g) (hJ : ∀ pc lo st I L, J pc lo st I L → Ex M d kc ks Q pc lo st g I L) (h : bx T M d kc ks Q g J (fr M.code pc) lo st I L) : Ex M d kc ks Q pc lo st g I L := by
  obtain ⟨h1, h2⟩ := fr_ok (M := M) M.code pc hM
  obtain ⟨row, l, e, h3⟩ := bx_ok hw hJ _ h1 lo st I L h
  rw [← h2 row l e]
  exact h3
theorem Ex_blk {pc : Nat} (hM : cB M M.code = true) (hw : Wf T g) (h : bx T M d kc ks Q g (fun pc lo st I L => Ex M d kc ks Q pc lo st g I L) (fr M.code pc) lo st I L) : Ex M d kc ks Q pc lo st g I L := Ex_bj hM hw (fun _ _ _ _ _ h => h) h
theorem Ex_wx (cuts : List Nat) (f : Nat) (hM : cB M M.code = true) (hw : Wf T g) : ∀ {pc : Nat} {lo : List (Option aV)} {st : List aV} {I : aI} {L : aL}, wx T M d kc ks Q g cuts f pc lo st I L → Ex M d kc ks Q pc lo st g I L := by
  induction f with
  | zero => intro pc lo st I L h; exact h
  | succ f ih =>
    intro pc lo st I L h
    refine Ex_bj hM hw (fun pc' lo st I L h2 => ?_) h
    cases hc : hasN cuts pc' with
    | true => rw [hc] at h2; exact h2
    | false => rw [hc] at h2; exact ih h2
theorem bn_ok {J : Nat → List (Option aV) → List aV → aI → aL → Prop} (hw : Wf T g) (hJ : ∀ pc lo st I L, J pc lo st I L → Ex M d kc ks Q pc lo st g I L) : ∀ (n : Nat) (r : List aR), cB M r = true → ∀ (lo : List (Option aV)) (st : List aV) (I : aI) (L : aL), bn T M d kc ks Q g J n r lo st I L → ∃ row l, r = row :: l ∧ Ex M d kc ks Q row.1 lo st g I L := by
  intro n
  induction n with
  | zero =>
    intro r hc lo st I L h
    cases r with
    | nil => exact h.elim
    | cons row l => exact ⟨row, l, rfl, h⟩
  | succ n ih =>
    intro r hc lo st I L h
    cases r with
    | nil => exact h.elim
    | cons row l =>
      unfold cB at hc
      simp only [Bool.and_eq_true] at hc
      refine ⟨row, l, rfl, stp_ok hw hJ hc.1 (fun lo st I L h2 => ?_) h⟩
      obtain ⟨row', l', e, h3⟩ := ih l hc.2.2 lo st I L h2
      subst e
      rw [beqT hc.2.1]
      exact h3
theorem Ex_bn (n : Nat) {pc : Nat} (hM : cB M M.code = true) (hw : Wf T g) (h : bn T M d kc ks Q g (fun pc lo st I L => Ex M d kc ks Q pc lo st g I L) n (fr M.code pc) lo st I L) : Ex M d kc ks Q pc lo st g I L := by
  obtain ⟨h1, h2⟩ := fr_ok (M := M) M.code pc hM
  obtain ⟨row, l, e, h3⟩ := bn_ok hw (fun _ _ _ _ _ h => h) n _ h1 lo st I L h
  rw [← h2 row l e]
  exact h3
end Sound
end
