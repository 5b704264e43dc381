/-! THE CLAIM OUT OF ONE WALK OF THE LAW'S BODY. Your part is whole_start (and what it stands on); all else here is the same for every law, but numbers. -/
def R_law : String := "LayeredActsLaw"
def lw_P (b : Addr) (xs : List Int32) (args : Array Value) (s : State) : Prop := args = #[.ref b] ∧ s.IntsAt b xs ∧ xs.length ≤ 2560 ∧ (Jvm.Cond.and given_1 narrow_1).before args s = true
def lw_Q (_ : Array Value) (s : State) (o : Outcome) (t : State) : Prop := o = .returned (some (.int 1)) ∧ Framed s o t [] 601024 7293034
def lw_Z (below : List Frame) (a : Array Value) (s : State) : State → Prop := fun t => ∃ o, t.status = .running ∧ Ended t below o ∧ lw_Q a s o t
/-- the law's own end, with 1 on the stack, nothing written that was there before, its room as the claim has it -/
theorem lw_ret {p : Program} {l : Launch} {e : Env} {s : State} {m : MethodId} {below : List Frame} {meth : Method} {c : Code} {b : Nat} (hx : p.tables.exec = Jvm.exec) (hb : c.code = code) (hr : meth.sig.returnType = ret) (hlocks : meth.locks = false) {pc : Nat} {H : Heap} {ls : Array Slot} (hdg : decode code pc = .ok (.ireturn, 1)) : W p l e room_1 s m #[Value.ref b] below meth c H [] 601024 7293034 (lw_Z below #[Value.ref b] s) (F0 m pc ls [.int 1]) := by
  intro T hT X
  obtain ⟨fs, hret, hrun, hended, hW, hframe⟩ := X.leave (v := some (.int 1)) (hlocks := hlocks) (fun h => by rw [hr] at h; cases h)
  have hmeth' : T.vm.method? m = some meth := X.method'
  refine ⟨T.setFrames fs, ?_, .returned (some (.int 1)), hrun, hended, rfl, ⟨_, rfl⟩, hW, hframe⟩
  jvm_step X.here [X.here.top, hx, hb, hdg, hmeth', hr, ret, narrow_b1]
  (try refine ⟨rfl, ?_⟩); (try refine ⟨rfl, ?_⟩)
  first | (intro acts; rw [hret _ acts rfl rfl rfl]) | rw [hret _ _ rfl rfl rfl]
  exact Steps.refl _
/-- what holds at the law's entry: the machine, the code, the tables' words (any of lw_tbl by 'hts w (by decide +kernel)'), the script of L ints xs at the cell b, what the Statement gives of the start (any of its parts by flat_of_before) -/
def lw_At (p : Program) (s : State) (m : MethodId) (meth : Method) (c : Code) (b L : Nat) (xs : Nat → Int32) : Prop :=
  p.tables.exec = Jvm.exec ∧ c.code = code ∧ meth.sig.returnType = ret ∧ c.maxLocals = 7 ∧ s.vm.findClass R_law = some m.cls ∧ (∀ w ∈ lw_tbl, w.before #[Value.ref b] s = true) ∧ va_X b L xs s s.heap ∧ b < s.heap.size ∧ meth.locks = false ∧ (Jvm.Cond.and given_1 narrow_1).before #[Value.ref b] s = true
theorem qs_in : ∀ q ∈ qStr, Cond.stringRef RX8 q.1 q.2 ∈ lw_tbl := by decide +kernel
theorem qs_one : ∀ q ∈ qStr, ∀ q' ∈ qStr, q.1 = q'.1 → q = q' := by decide +kernel
theorem qn_in : ∀ q ∈ qNest, Cond.methodLinkNest q.1 q.2.1 q.2.2 RX8 ∈ lw_tbl := by decide +kernel
theorem qe_in : ∀ E ∈ qExc, Cond.castable E E ∈ lw_tbl := by decide +kernel
theorem qd_in : ∀ y ∈ qDecl, Cond.declares y ∈ lw_tbl := by decide +kernel
theorem qa_in : (∀ ty ∈ [FieldType.int, FieldType.boolean, FieldType.long], Cond.arrayClass ty ∈ lw_tbl) ∧ Cond.arrayOver (.object RX7) ∈ lw_tbl ∧ Cond.arrayOver (.object RX6) ∈ lw_tbl := by decide +kernel
theorem qz_in : Cond.laysStatic Bundle.tN "UNASSIGNED_STACK" Bundle.steD ∈ lw_tbl ∧ Cond.laysStatic Bundle.tN "SUPPRESSED_SENTINEL" Bundle.listD ∈ lw_tbl ∧ Cond.initialized Bundle.tN ∈ lw_tbl := by decide +kernel
theorem qi_in : ∀ q ∈ qC, Cond.instantiable q.1 q.2.2 ∈ lw_tbl := by decide +kernel
theorem kv_start {s : State} {b : Nat} (hts : ∀ w ∈ lw_tbl, w.before #[Value.ref b] s = true) (hgv : (Jvm.Cond.and given_1 narrow_1).before #[Value.ref b] s = true) : ∃ (D : va_G) (K : FieldType → ClassId) (SA : Nat → Nat), Kv D K SA s := by
  have hgT : ∀ w ∈ gT, w.before #[Value.ref b] s = true := fun w hw => hts w (List.mem_filter.mp hw).1
  have hs := flat_of_before _ hgv
  have hcl : ∀ c : Nat, ∃ z : ClassId × (Nat → Nat), ∀ q : vw_C, qC[c]? = some q → u_Kn s q.1 q.2.1 q.2.2 z.1 z.2 := by
    intro c
    cases hq : qC[c]? with
    | none => exact ⟨(0, fun _ => 0), fun q h => by cases h⟩
    | some q =>
      obtain ⟨cC, iS, h⟩ := u_known hgT (qW c q hq) (hts _ (qi_in q (List.mem_of_getElem? hq)))
      exact ⟨(cC, iS), fun q' h' => by cases h'; exact h⟩
  obtain ⟨f, hf⟩ := Classical.axiomOfChoice hcl
  have hK : ∀ ty : FieldType, ∃ cA : ClassId, ty ∈ qTy → ArrOfT s cA ty ∧ va_RA s cA ty := by
    intro ty
    have hp : ∀ ty ∈ [FieldType.int, FieldType.boolean, FieldType.long], ∃ cA : ClassId, ArrOfT s cA ty ∧ s.vm.findClass ("[" ++ ty.toString) = some cA := by
      intro ty hty
      obtain ⟨c, k, comp, h1, h2, h3⟩ := Cond.arrayClass_spec (hts _ (qa_in.1 ty hty))
      exact ⟨c, fun n z => ⟨fun k h => (by cases h), k, h2, comp, h3⟩, h1⟩
    have ho : ∀ C : String, Cond.arrayOver (.object C) ∈ lw_tbl → ∃ cA : ClassId, ArrOfT s cA (.object C) ∧ va_RA s cA (.object C) := by
      intro C hC
      obtain ⟨comp, c, k, h1, -, h2, h3, h4⟩ := Cond.arrayOver_spec (hts _ hC)
      exact ⟨c, fun n z => ⟨fun k h => (by cases h), k, h2, comp, h3⟩, k, comp, h2, h3, h1, h4⟩
    by_cases hty : ty ∈ qTy
    · unfold qTy at hty
      simp only [List.mem_cons, List.not_mem_nil, or_false] at hty
      rcases hty with rfl | rfl | rfl | rfl | rfl
      · obtain ⟨c, h1, h2⟩ := hp .int (by simp); exact ⟨c, fun _ => ⟨h1, h2⟩⟩
      · obtain ⟨c, h1, h2⟩ := hp .boolean (by simp); exact ⟨c, fun _ => ⟨h1, h2⟩⟩
      · obtain ⟨c, h1, h2⟩ := hp .long (by simp); exact ⟨c, fun _ => ⟨h1, h2⟩⟩
      · obtain ⟨c, h1, h2⟩ := ho RX7 qa_in.2.1; exact ⟨c, fun _ => ⟨h1, h2⟩⟩
      · obtain ⟨c, h1, h2⟩ := ho RX6 qa_in.2.2; exact ⟨c, fun _ => ⟨h1, h2⟩⟩
    · exact ⟨0, fun h => absurd h hty⟩
  obtain ⟨K, hK⟩ := Classical.axiomOfChoice hK
  have hc8 : s.vm.findClass RX8 = some (f 8).1 := (hf 8 _ rfl).2.1
  have hSA : ∀ k : Nat, ∃ a : Nat, ∀ q ∈ qStr, q.1 = k → vk_R RX8 q.1 q.2 a s := by
    intro k
    by_cases h : ∃ q ∈ qStr, q.1 = k
    · obtain ⟨q0, h0, rfl⟩ := h
      have h1 := hts _ (qs_in q0 h0)
      obtain ⟨-, -, -, a, -, -, -, -, -, hev⟩ := Cond.stringRef_spec hc8 h1
      refine ⟨a, fun q hq e => ?_⟩
      have := qs_one q hq q0 h0 e
      subst this
      exact vk_R.of h1 hev
    · exact ⟨0, fun q hq e => absurd ⟨q, hq, e⟩ h⟩
  obtain ⟨SA, hSA⟩ := Classical.axiomOfChoice hSA
  refine ⟨(fun c => (f c).1, fun c => (f c).2), K, SA, fun c q hq => hf c q hq, fun ty ht => hK ty ht, fun q hq => hSA q.1 q hq rfl, fun q hq => va_Nw.of rfl (hts _ (qn_in q hq)), fun E hE => va_Nw.of rfl (hts _ (qe_in E hE)), fun y hy => va_Nw.of rfl (hts _ (qd_in y hy)), fun E hE F hF hne => ?_, va_AO.of (hts _ qa_in.2.1), va_AO.of (hts _ qa_in.2.2)⟩
  simp only [qExc, List.mem_cons, List.not_mem_nil, or_false] at hE hF
  rcases hE with rfl | rfl | rfl | rfl <;> rcases hF with rfl | rfl | rfl | rfl <;> first | exact absurd rfl hne | exact va_Nc.of (hs _ (by decide +kernel))
theorem whole_start {p : Program} {e : Env} {s : State} {m : MethodId} {below : List Frame} {meth : Method} {c : Code} (l : Launch) {b L : Nat} {xs : Nat → Int32} (hL : L ≤ 2560) (C0 : lw_At p s m meth c b L xs) (hst : l.stackTraces = false) (hnm : meth.name = x.name) (hex : c.exceptionTable.toList = []) : W p l e room_1 s m #[Value.ref b] below meth c s.heap [] 0 0 (lw_Z below #[Value.ref b] s) (entryFrame m ([Value.ref b] : List Value).toArray 7) := by
  obtain ⟨hx, hb, hr, hml, hown, hts, hX, hbl, hlocks, hgv⟩ := id C0
  obtain ⟨D, K, SA, hKv⟩ := kv_start hts hgv
  have hs := flat_of_before _ hgv
  have hgT : ∀ w ∈ gT, w.before #[Value.ref b] s = true := fun w hw => hts w (List.mem_filter.mp hw).1
  obtain ⟨scrc, x1, x2, x3, x4, x5⟩ := hX
  have hnA : ∀ a : Nat, a < s.heap.size → ¬ qA s.heap.size a := fun a ha q => absurd ha (Nat.not_lt.mpr q)
  have hKh : Kh b s.heap.size s s.heap := ⟨vx_Zqof (hts _ qz_in.1) (hts _ qz_in.2.2) (hs _ (by decide +kernel)) hnA, vx_Zqof (hts _ qz_in.2.1) (hts _ qz_in.2.2) (hs _ (by decide +kernel)) hnA, hbl, scrc, x1, x2, x3⟩
  let g0 : aG := (1, fun i => if i = 0 then some (.inr (.int, L)) else none, fun _ _ => none)
  let I0 : aI := fun i k => if i = 0 then xs k else 0
  have hRep : Rep g0 d0 := by
    refine ⟨rfl, Nat.succ_pos _, fun i hi => ?_, fun i k => rfl, fun e he => by cases he⟩
    show (if i = 0 then (some (.inr (.int, L)) : Option aSh) else none) = (if i < 1 then _ else none)
    rw [if_neg (by omega), if_neg (by omega)]
  have hz : qz D K b s.heap.size g0 I0 (fun _ => 0) s.heap := by
    refine ⟨⟨rfl, Nat.succ_pos _, fun i hi => ?_⟩, fun i cc hi => ?_⟩
    · have hi' : 1 ≤ i := hi
      show (if i = 0 then (some (.inr (.int, L)) : Option aSh) else none) = none
      rw [if_neg (by omega)]
    · have hi' : (if i = 0 then (some (.inr (.int, L)) : Option aSh) else none) = some cc := hi
      by_cases h0 : i = 0
      · rw [if_pos h0] at hi'
        cases hi'
        subst h0
        show (if (0 : Nat) = 0 then FieldType.int = .int ∧ scr (qa b s.heap.size 0) L (I0 0) s.heap else s.heap[qa b s.heap.size 0]? = some (arrV (K .int) L (qE (qa b s.heap.size) I0 g0.2.2 (fun _ => 0) .int 0)))
        rw [if_pos rfl]
        exact ⟨rfl, scrc, x1, x4, x5⟩
      · rw [if_neg h0] at hi'
        cases hi'
  have hC : Cx D K b s.heap.size SA mL_law 130 p l room_1 s m #[Value.ref b] meth c 2000 80000 :=
    ⟨⟨hx, hb, hml, hr, hlocks, hown, hnm⟩, hgT, hst, ⟨by decide, by decide, by decide, by decide⟩, hex, ⟨hbl, Nat.le_refl _⟩, hKv, hKh⟩
  have hE := law_start (L := fun _ => 0) (I := I0) (d := 130) hL (by omega) hRep rfl
  have hl := lH_entry (ad := qa b s.heap.size) (av := [vD (some 0)]) (noJ_ok _ rfl) (n := 7) (by decide)
  have hW := hE D K b s.heap.size SA p l e room_1 s m #[Value.ref b] below meth c s.heap [] 0 0 2000 80000 _ hC (by omega) (by omega) hz va_S.rf hl
  rw [lg_entry_eq]
  intro T hT X
  obtain ⟨t, a1, o, b1, b2, b3⟩ := hW T hT X
  refine ⟨t, a1, o, b1, b2, ?_⟩
  rcases b3 with ⟨⟨⟨v, g', I', L', ho, hq, -⟩, -⟩, Lc, ⟨-, hWm, hsame⟩, hfree⟩ | ⟨q, -, E, ce, Lc, ⟨g', I', L', hq, -⟩, -⟩
  · have hv : v = some (vI 1) := by
      have hq' : (Sum.inl v : aO) = .inl (some (vI 1)) := hq
      exact Sum.inl.inj hq'
    subst hv
    refine ⟨ho, ⟨_, ho⟩, hWm, hsame.weaken (fun y hy hlt => absurd hlt (Nat.not_lt.mpr (hfree y hy))) (by decide) (by decide)⟩
  · have hq' : (Sum.inr E : aO) = .inl (some (vI 1)) := hq
    cases hq'
set_option maxHeartbeats 4000000 in
theorem lw_walk (l : Launch) (hst : l.stackTraces = false) (b : Addr) (xs : List Int32) : MetFree l x (headSpec (Jvm.Cond.code x code maxLocals ret :: tables_1) room_1) (lw_P b xs) (fun _ _ _ _ _ => True) lw_Q := by
  refine MetFree.of_bodyS (code := code) (maxLocals := maxLocals) (ret := ret) (by decide) ?_ ?_
  · intro args s m h hn
    obtain ⟨meth, c, h1, h2, h3, h4, h5, h6, -, -⟩ := Cond.code_spec hn (atoms_spec (ws := Jvm.Cond.code x code maxLocals ret :: tables_1) h _ List.mem_cons_self)
    exact ⟨meth, c, h1, h2, h3, h4, h5, h6⟩
  · intro p e s m args below meth c s₁ B hml0 hP _
    obtain ⟨rfl, hx, hbd, hgv⟩ := hP
    obtain ⟨scr, harrAt, hlist, hof, hsmall⟩ := hx
    obtain ⟨hcb, hkn, -, -⟩ := State.arrayAt?_spec harrAt
    have hown : s.vm.findClass R_law = some m.cls := findClass_of_methodNamed B.named
    have hts0 : ∀ c ∈ (Jvm.Cond.code x code maxLocals ret :: tables_1), c.before #[Value.ref b] s = true := atoms_spec (ws := Jvm.Cond.code x code maxLocals ret :: tables_1) B.pre
    have hts : ∀ w ∈ lw_tbl, w.before #[Value.ref b] s = true := k2_hts_sels lw_privs (fun w hw => hts0 w (List.mem_cons_of_mem _ hw)) lw_privs_ok
    have hml : c.maxLocals = 7 := B.maxLocals_eq (hts0 _ List.mem_cons_self)
    have X₀ : Stand p l e room_1 s m #[Value.ref b] below meth c s₁ [] 0 0 := Stand.of_body B
    have hh0 : s₁.heap = s.heap := by rw [B.state]; rfl
    have hsz : scr.slots.size = xs.length := by rw [← Array.length_toList, hlist, List.length_map]
    have hval : ∀ j : Nat, j < xs.length → scr.slots[j]? = some (.int (xs.getD j 0)) := fun j hj => by
      rw [← Array.getElem?_toList, hlist]
      simp [hj]
    have hbl : b < s.heap.size := (Array.getElem?_eq_some_iff.mp hcb).1
    have hX : va_X b xs.length (fun j => xs.getD j 0) s s.heap := ⟨scr, hcb, hof, hkn, hsz, hval⟩
    have K : W p l e room_1 s m #[Value.ref b] below meth c s₁.heap [] 0 0 (lw_Z below #[Value.ref b] s) (entryFrame m ([Value.ref b] : List Value).toArray 7) := by
      rw [hh0]
      have hex : c.exceptionTable.toList = [] := by
        obtain ⟨meth9, c9, h1, h2, -, -, -, -, h7, -⟩ := Cond.code_spec B.named (hts0 _ List.mem_cons_self)
        cases Option.some.inj (h1.symm.trans B.method)
        cases Option.some.inj (h2.symm.trans X₀.code)
        rw [Array.isEmpty_iff.mp h7]
      exact whole_start l hbd ⟨B.exec, B.bytes, B.returns, hml, hown, hts, hX, hbl, B.notSynchronized, hgv⟩ hst (name_of_methodNamed B.named B.method).1 hex
    obtain ⟨t, a1, o, b1, b2, b3⟩ := K s₁ rfl X₀
    exact ⟨t, o, a1, b1, b2, b3⟩
theorem lw_pre_spec {args : Array Value} {s : State} (h : (Jvm.Cond.and given_1 narrow_1).before args s = true) (hr : rest_1_c.before args s = true) : ∃ (b : Addr) (xs : List Int32), lw_P b xs args s := by
  have hs := flat_of_before _ h
  have hq := flat_of_before _ hr
  have hc : (Cond.count 1).before args s = true := hs _ (by decide +kernel)
  have harr : (Cond.arrayOf (.arg 0) .int).before args s = true := hs _ (by decide +kernel)
  have hle : (Cond.le (.length (.arg 0)) (.int 2560)).before args s = true := hs _ (by decide +kernel)
  have hlen : (Cond.isInt (.length (.arg 0))).before args s = true := hq _ (by decide +kernel)
  have hall : (Cond.all (.arg 0) (.isInt (.elem (.arg 0) (.index 0)))).before args s = true := hq _ (by decide +kernel)
  obtain ⟨b, xs, hb, hx⟩ := State.ints_of_pre rfl harr hlen hall
  have hsm : xs.length < 2 ^ 31 := hx.choose_spec.2.2.2
  have hev : (Term.length (.arg 0)).eval args s none [] s = some (.int xs.length.toInt32) := hx.length_eval hb
  have hv := Cond.le_ints hev (show (Term.int 2560).eval args s none [] s = some (.int 2560) from rfl)
  have hd : xs.length.toInt32 ≤ 2560 := by
    simpa [Cond.before, Cond.holds, hv] using hle
  have hN : xs.length ≤ 2560 := (Int32.ofNat_le_ofNat hsm (by decide)).mp (show Int32.ofNat xs.length ≤ Int32.ofNat 2560 from hd)
  exact ⟨b, xs, Cond.one_arg hc (show args[0]? = some (.ref b) from hb), hx, hN, h⟩
theorem lw_comes (l : Launch) (hst : l.stackTraces = false) : Comes l x (Jvm.Cond.code x code maxLocals ret :: tables_1) room_1 (fun tb e args s => Calls_1 tb e args s ∧ rest_1 tb e args s ∧ Pre_1 tb e args s)
    (fun _ _ args s o t => lw_Q args s o t) := by
  intro p e ha hc hk s m args below hf hfit hheap happ hpre
  obtain ⟨b, xs, hP⟩ := lw_pre_spec hpre.2.2 hpre.2.1
  obtain ⟨k, o, h1, h2, h3, hQ⟩ := lw_walk l hst b xs p e ha hc hk s m args below hf ((Spec.applies_iff_loose hf).mp happ).1 hP trivial
  exact ⟨k, o, h1, h2, h3, hQ⟩
theorem lw_frame {s t : State} {o : Outcome} {args : Array Value} (h : Framed s o t [] 601024 7293034) :
    Framed s o t (fieldLocs frame_1_writes args s ++ arrayLocs frame_1_arrays args s ++ staticLocs frame_1_statics s) 601024 7293034 := h
theorem lw_limb (L : Cond) (hL : ∀ (args : Array Value) (s t : State), L.after args s (.returned (some (.int 1))) t = true) :
    ArmFor flags0 classFile x code maxLocals ret World_1 tables_1 room_1 Calls_1 rest_1 Pre_1
      (fun tb e a s o t => postC L tb e a s o t ∧ Framed s o t (fieldLocs frame_1_writes a s ++ arrayLocs frame_1_arrays a s ++ staticLocs frame_1_statics s) 601024 7293034) := by
  intro l hfl _ _ p e ha hc hk s m args below hf hfit hheap happ hpre
  have hst : l.stackTraces = false := by unfold Launch.stackTraces; rw [hfl]; decide +kernel
  obtain ⟨k, o, h1, h2, h3, rfl, hF⟩ := lw_comes l hst p e ha hc hk s m args below hf hfit hheap happ hpre
  exact ⟨k, _, h1, h2, h3, hL args s _, lw_frame hF⟩
theorem i_vc : Claimed_1_1 ∧ Claimed_1_2 := ⟨lw_limb limb_1_1 (fun args s t => by simp [limb_1_1, Cond.after, Cond.holds, Cond.value]), lw_limb limb_1_2 (fun args s t => Cond.after_iff.mpr (by
  first | (rw [show limb_1_2 = Cond.eq .result (.int 1) from rfl, Cond.eq_ints (x := 1) (y := 1) rfl rfl]; simp; done) | (simp [limb_1_2, Cond.value, Term.eval]; done)))⟩
