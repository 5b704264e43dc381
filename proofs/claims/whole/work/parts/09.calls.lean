/-! methods and calls -/
def catS (v : aV) : Nat := match v with
  | .inr (.inr (.inr _)) => 2
  | _ => 1
def catL : List aV → Nat
  | [] => 0
  | v :: r => catS v + catL r
theorem catL_ok {ad : Nat → Nat} : ∀ st : List aV, ((st.map (cv ad)).map fun v => v.category).sum = catL st
  | [] => rfl
  | v :: r => by
    simp only [List.map_cons, List.sum_cons, catL]
    rw [catL_ok r]
    congr 1
    rcases v with x | i | r | x
    · rfl
    · rfl
    · cases r <;> rfl
    · rfl
theorem mP_blind {D : va_G} {K : FieldType → ClassId} {b b0 : Nat} {SA : Nat → Nat} {av : List aV} {g : aG} {I : aI} {L : aL} : FrameBlind (mP D K b b0 SA av g I L) := by
  intro a U gf mk h
  obtain ⟨h1, h2, h3, h4, h5⟩ := h
  exact ⟨h1, h2, h3, Kv.warm (s := U) (U := U.calling gf mk a) (State.WarmedH.refl U) h4, Kh.moved (s := U) (U := U.calling gf mk a) (Vm.Alike.refl U.vm) h5⟩
/-- an exception of class E lies over the method's frame -/
def Xx (M : aM) (d kc ks : Nat) (Q : aQ) (pc : Nat) (lo : List (Option aV)) (E : String) (g : aG) (I : aI) (L : aL) : Prop :=
  ∀ (D : va_G) (K : FieldType → ClassId) (b b0 : Nat) (SA : Nat → Nat) (p : Program) (l : Launch) (e : Env) (R : Room) (s : State) (m : MethodId) (args : Array Value) (below : List Frame) (meth : Method) (c : Code) (H : Heap) (locs : List Loc) (cells slots mc ms : Nat) (ls : Array Slot) (q9 : Addr) (ce : Cell) (rest : List Value),
    Cx D K b b0 SA M d p l R s m args meth c mc ms → cells + kc ≤ mc → slots + ks ≤ ms → qz D K b b0 g I L H → va_S (qA b0) s.heap H locs → lH (qa b b0) ls M.nL lo → H[q9]? = some ce → ce.vm = .none → s.vm.findClass E = some ce.cls →
    vx_W p l e R s m args below meth c H locs cells slots (vx_MQ below (qQ D K b b0 Q) (qX D K b b0 Q) args s mc ms (qA b0)) (F0 m pc ls rest) q9
theorem Xx_out {M : aM} {d kc ks : Nat} {Q : aQ} {pc : Nat} {lo : List (Option aV)} {E : String} {g : aG} {I : aI} {L : aL} (hh : M.hh = []) (hq : Q (.inr E) g I L) : Xx M d kc ks Q pc lo E g I L := by
  intro D K b b0 SA p l e R s m args below meth c H locs cells slots mc ms ls q9 ce rest C hc hs hz hS hl h1 h2 h3
  refine vx_out (fun x hx => ?_) C.1.2.2.2.2.1 h1 h2 h3 (fun t ht hA => ⟨g, I, L, hq, by rw [ht]; exact hz, hS.F ht⟩) hS.2.2 (by omega) (by omega)
  rw [C.2.2.2.2.1, hh] at hx
  simp [tableOf] at hx
section Calls
variable {M N : aM} {d d' kc ks kc' ks' : Nat} {Q Q' : aQ} {pc idx : Nat} {lo : List (Option aV)} {st As : List aV} {g : aG} {I : aI} {L : aL}
theorem qcall {D : va_G} {K : FieldType → ClassId} {b b0 : Nat} {p : Program} {l : Launch} {e : Env} {R : Room} {s : State} {m : MethodId} {args : Array Value} {below : List Frame} {meth : Method} {c : Code} {H : Heap} {locs : List Loc} {cells slots mc' ms' : Nat} {ls : Array Slot} {Z : State → Prop} {rest st0 : List Value} {a : Array Value}
    (hr : vx_Run p l e R s m args below meth c H locs cells slots mc' ms' (F0 m pc ls st0) rest (qQ D K b b0 Q' a) (qX D K b b0 Q') (qA b0)) (hS : va_S (qA b0) s.heap H locs)
    (kx : ∀ (E : String) (ce : Cell) (q9 : Addr) (g' : aG) (I' : aI) (L' : aL) (H1 : Heap) (locs1 : List Loc), Q' (.inr E) g' I' L' → qz D K b b0 g' I' L' H1 → va_S (qA b0) s.heap H1 locs1 → H1[q9]? = some ce → ce.vm = .none → s.vm.findClass E = some ce.cls → vx_W p l e R s m args below meth c H1 locs1 (cells + mc') (slots + ms') Z (F0 m pc ls rest) q9)
    (kk : ∀ (v : Option aV) (g' : aG) (I' : aI) (L' : aL) (H1 : Heap) (locs1 : List Loc), Q' (.inl v) g' I' L' → qz D K b b0 g' I' L' H1 → va_S (qA b0) s.heap H1 locs1 → W p l e R s m args below meth c H1 locs1 (cells + mc') (slots + ms') Z (F0 m (pc + 3) ls ((v.map (cv (qa b b0))).toList ++ rest))) :
    W p l e R s m args below meth c H locs cells slots Z (F0 m pc ls st0) := by
  intro T hT X
  rcases hr T hT X with ⟨v, st₀, t, T', L0, h0, X', hL, e1, e2, ⟨⟨v', g', I', L', hv, hp, hb⟩, hF⟩, st⟩ | ⟨q, st₀, t, T', L0, E, ce, h0, X', hL, e1, e2, ⟨g', I', L', hp, hb, hF⟩, hce, hcv, hcl, st⟩
  · have hv' : v = v'.map (cv (qa b b0)) := Outcome.returned.inj hv
    subst hv'
    obtain ⟨-, -, k3⟩ := vx_keep (free := qA b0) h0 e1 hS (fun q _ h => h) (fun q h => h) hL hF
    obtain ⟨t2, a1, b1⟩ := kk v' g' I' L' T'.heap (locs ++ L0) hp (by rw [e1]; exact hb) k3 T' rfl X'
    exact ⟨t2, st t2 a1, b1⟩
  · obtain ⟨-, -, k3⟩ := vx_keep (free := qA b0) h0 e1 hS (fun q _ h => h) (fun q h => h) hL hF
    obtain ⟨t2, a1, b1⟩ := kx E ce q g' I' L' T'.heap (locs ++ L0) hp (by rw [e1]; exact hb) k3 (by rw [e1]; exact hce) hcv hcl T' rfl X'
    exact ⟨t2, st.trans a1, b1⟩
theorem Cx.kh {D : va_G} {K : FieldType → ClassId} {b b0 : Nat} {SA : Nat → Nat} {p : Program} {l : Launch} {R : Room} {s : State} {m : MethodId} {args : Array Value} {meth : Method} {c : Code} {mc ms : Nat} {H : Heap} {locs : List Loc} {U : State} {av : List aV} (C : Cx D K b b0 SA M d p l R s m args meth c mc ms) (hz : qz D K b b0 g I L H) (hS : va_S (qA b0) s.heap H locs) (hU : U.heap = H) (hW : s.WarmedH U.vm) :
    mP D K b b0 SA av g I L (av.map (cv (qa b b0))).toArray U := by
  have h1 := C.2.2.2.2.2
  refine ⟨rfl, by rw [hU]; exact hz, ⟨h1.1.1, ?_⟩, Kv.warm hW h1.2.1, ?_⟩
  · rw [hU]; exact Nat.le_trans h1.1.2 hS.1
  · rw [hU]; exact Kh.moved hW.alike (h1.2.2.kept hS.2.1)
/-- what a call needs of the tables -/
def cOk (M N : aM) (idx n : Nat) : Prop :=
  (Cond.code N.y N.cc N.nL N.ret ∈ gT ∧ N.hh = []) ∧ Cond.initialized N.y.cls ∈ gT ∧ Cond.methodLink M.y.cls idx N.y ∈ gT ∧ N.nL ≤ 21 ∧ (N.y.cls ≠ "java/lang/invoke/MethodHandle" ∧ N.y.cls ≠ "java/lang/invoke/VarHandle" ∧ (parseMethodDescriptor N.y.desc).map (fun d => d.parameters.length) = some n)
theorem ws_in (hc : Cond.code N.y N.cc N.nL N.ret ∈ gT) (hh : N.hh = []) : GoodIn gT N.ws := by
  intro w hw
  unfold aM.ws at hw
  rw [if_pos hh] at hw
  rcases List.mem_cons.mp hw with rfl | h
  · exact gT_good _ hc
  · exact gT_good _ h
theorem Ex_callV {i ci : Nat} {q : vw_C} (ok : cOk M N idx As.length) (w1 : Cond.instanceMethod N.y ∈ gT) (w2 : Cond.selects N.y.cls N.y N.y ∈ gT) (hq : qC[ci]? = some q) (hq1 : q.1 = N.y.cls) (hi : g.2.1 i = some (.inl ci)) (hM : Mx N d' kc' ks' (vS i :: As) g I L Q') (hd' : d' + 1 ≤ d) (hst : catL st ≤ 8) (hd : decode M.cc pc = .ok (.invokevirtual idx, 3))
    (kk : ∀ v g' I' L', Q' (.inl v) g' I' L' → Ex M d kc ks Q (pc + 3) lo (v.toList ++ st) g' I' L') (kx : ∀ E g' I' L', Q' (.inr E) g' I' L' → Xx M d kc ks Q pc lo E g' I' L') : Ex M d (kc + kc') (ks + ks') Q pc lo (As.reverse ++ vS i :: st) g I L := by
  intro D K b b0 SA p l e R s m args below meth c H locs cells slots mc ms ls C hc hs hz hS hl
  obtain ⟨⟨hcw, hh⟩, hini, hln, hnL, hn1, hn2, hn3⟩ := ok
  have hR := C.2.2.2.1
  have cb : CallB R s args M.y.cls idx N.y N.cc N.nL N.ret N.ws (rm d' kc' ks') kc' ks' As.length := callB_of As.length C.2.1 (ws_in hcw hh) (by unfold aM.ws; rw [if_pos hh]) rfl rfl (C.2.1 _ hini) (C.2.1 _ hln) ⟨hn1, hn2, hn3⟩ ⟨Nat.le_trans hd' hR.1, by show 8 + (N.nL + 11) + 40 * d' ≤ R.locals; omega⟩
  obtain ⟨r', h1, cell, q1, q2, q3, -⟩ := hz.2 i _ hi
  have hfc := (C.2.2.2.2.2.2.1.1 ci q hq).2.1
  have hr := vx_runV (As := As.map (cv (qa b b0))) (rest := st.map (cv (qa b b0))) (b := qa b b0 i) (g := F0 m pc ls ((As.reverse ++ vS i :: st).map (cv (qa b b0)))) (H := H) (locs := locs) (cells := cells) (slots := slots) (meth := meth) (below := below) (e := e) ⟨C.1.1, C.1.2.1, C.1.2.2.1, C.1.2.2.2.2.2.1, C.2.1⟩ (hM D K b b0 SA l C.2.2.1) ⟨cb, C.2.1 _ w1, C.2.1 _ w2⟩
    ⟨mP_blind, ⟨cell, q1, by rw [q3]; rfl, by rw [q2, ← hq1]; exact hfc⟩, fun U hU hW => C.kh (av := vS i :: As) hz hS hU hW⟩ rfl (by rw [List.length_map]) hl.1 (by simp [cv]) (lv_room (by rw [catL_ok]; exact hst)) hd ⟨by omega, by omega⟩
  refine qcall hr hS (fun E ce q9 g' I' L' H1 locs1 hp hz1 hS1 hce hcv hcl => ?_) (fun v g' I' L' H1 locs1 hp hz1 hS1 => ?_)
  · exact kx E g' I' L' hp D K b b0 SA p l e R s m args below meth c H1 locs1 _ _ mc ms ls q9 ce _ C (by omega) (by omega) hz1 hS1 hl hce hcv hcl
  · have h9 := kk v g' I' L' hp D K b b0 SA p l e R s m args below meth c H1 locs1 (cells + kc') (slots + ks') mc ms ls C (by omega) (by omega) hz1 hS1 hl
    rw [List.map_append] at h9
    cases v <;> exact h9
theorem Ex_callS (ok : cOk M N idx As.length) (w1 : Cond.static N.y ∈ gT) (hM : Mx N d' kc' ks' As g I L Q') (hd' : d' + 1 ≤ d) (hst : catL st ≤ 8) (hd : decode M.cc pc = .ok (.invokestatic idx, 3))
    (kk : ∀ v g' I' L', Q' (.inl v) g' I' L' → Ex M d kc ks Q (pc + 3) lo (v.toList ++ st) g' I' L') (kx : ∀ E g' I' L', Q' (.inr E) g' I' L' → Xx M d kc ks Q pc lo E g' I' L') : Ex M d (kc + kc') (ks + ks') Q pc lo (As.reverse ++ st) g I L := by
  intro D K b b0 SA p l e R s m args below meth c H locs cells slots mc ms ls C hc hs hz hS hl
  obtain ⟨⟨hcw, hh⟩, hini, hln, hnL, hn1, hn2, hn3⟩ := ok
  have hR := C.2.2.2.1
  have cb : CallB R s args M.y.cls idx N.y N.cc N.nL N.ret N.ws (rm d' kc' ks') kc' ks' As.length := callB_of As.length C.2.1 (ws_in hcw hh) (by unfold aM.ws; rw [if_pos hh]) rfl rfl (C.2.1 _ hini) (C.2.1 _ hln) ⟨hn1, hn2, hn3⟩ ⟨Nat.le_trans hd' hR.1, by show 8 + (N.nL + 11) + 40 * d' ≤ R.locals; omega⟩
  have hr := vx_runS (As := As.map (cv (qa b b0))) (rest := st.map (cv (qa b b0))) (g := F0 m pc ls ((As.reverse ++ st).map (cv (qa b b0)))) (H := H) (locs := locs) (cells := cells) (slots := slots) (meth := meth) (below := below) (e := e) ⟨C.1.1, C.1.2.1, C.1.2.2.1, C.1.2.2.2.2.2.1, C.2.1⟩ (hM D K b b0 SA l C.2.2.1) ⟨cb, C.2.1 _ w1⟩
    ⟨mP_blind, fun U hU hW => C.kh (av := As) hz hS hU hW⟩ rfl (by rw [List.length_map]) hl.1 (by simp) (lv_room (by rw [catL_ok]; exact hst)) hd ⟨by omega, by omega⟩
  refine qcall hr hS (fun E ce q9 g' I' L' H1 locs1 hp hz1 hS1 hce hcv hcl => ?_) (fun v g' I' L' H1 locs1 hp hz1 hS1 => ?_)
  · exact kx E g' I' L' hp D K b b0 SA p l e R s m args below meth c H1 locs1 _ _ mc ms ls q9 ce _ C (by omega) (by omega) hz1 hS1 hl hce hcv hcl
  · have h9 := kk v g' I' L' hp D K b b0 SA p l e R s m args below meth c H1 locs1 (cells + kc') (slots + ks') mc ms ls C (by omega) (by omega) hz1 hS1 hl
    rw [List.map_append] at h9
    cases v <;> exact h9
/-- a static method with handlers (the law's own) -/
def hOk (M N : aM) (idx n : Nat) : Prop :=
  (Cond.codeWith N.y N.cc N.nL N.ret N.hh ∈ gT ∧ N.hh ≠ []) ∧ Cond.initialized N.y.cls ∈ gT ∧ Cond.methodLink M.y.cls idx N.y ∈ gT ∧ N.nL ≤ 21 ∧ (N.y.cls ≠ "java/lang/invoke/MethodHandle" ∧ N.y.cls ≠ "java/lang/invoke/VarHandle" ∧ (parseMethodDescriptor N.y.desc).map (fun d => d.parameters.length) = some n)
theorem Ex_callSH (ok : hOk M N idx As.length) (w1 : Cond.static N.y ∈ gT) (hM : Mx N d' kc' ks' As g I L Q') (hd' : d' + 1 ≤ d) (hst : catL st ≤ 8) (hd : decode M.cc pc = .ok (.invokestatic idx, 3))
    (kk : ∀ v g' I' L', Q' (.inl v) g' I' L' → Ex M d kc ks Q (pc + 3) lo (v.toList ++ st) g' I' L') (kx : ∀ E g' I' L', Q' (.inr E) g' I' L' → Xx M d kc ks Q pc lo E g' I' L') : Ex M d (kc + kc') (ks + ks') Q pc lo (As.reverse ++ st) g I L := by
  intro D K b b0 SA p l e R s m args below meth c H locs cells slots mc ms ls C hc hs hz hS hl
  obtain ⟨⟨hcw, hh⟩, hini, hln, hnL, hn1, hn2, hn3⟩ := ok
  have hR := C.2.2.2.1
  have hG : GoodIn gT N.ws := by
    intro w hw
    unfold aM.ws at hw
    rw [if_neg hh] at hw
    rcases List.mem_cons.mp hw with rfl | h
    · exact gT_good _ hcw
    · exact gT_good _ h
  have cb : vx_CSW R s args M.y.cls idx N.y N.cc N.nL N.ret N.hh N.ws (rm d' kc' ks') kc' ks' As.length := vx_cwSW As.length C.2.1 (by
    intro w hw
    unfold va_wsS at hw
    rcases List.mem_append.mp hw with h | h
    · simp only [List.mem_cons, List.not_mem_nil, or_false] at h
      rcases h with rfl | rfl | rfl
      · exact gT_good _ hln
      · exact gT_good _ w1
      · exact gT_good _ hini
    · exact hG w h) (by unfold aM.ws; rw [if_neg hh]) rfl rfl ⟨hn1, hn2, hn3⟩ ⟨Nat.le_trans hd' hR.1, by show 8 + (N.nL + 11) + 40 * d' ≤ R.locals; omega⟩
  have hr := vx_runSX (As := As.map (cv (qa b b0))) (rest := st.map (cv (qa b b0))) (g := F0 m pc ls ((As.reverse ++ st).map (cv (qa b b0)))) (H := H) (locs := locs) (cells := cells) (slots := slots) (meth := meth) (below := below) (e := e) ⟨C.1.1, C.1.2.1, C.1.2.2.1, C.1.2.2.2.2.2.1, C.2.1⟩ (hM D K b b0 SA l C.2.2.1) cb
    ⟨mP_blind, fun U hU hW => C.kh (av := As) hz hS hU hW⟩ rfl (by rw [List.length_map]) hl.1 (by simp) (lv_room (by rw [catL_ok]; exact hst)) hd ⟨by omega, by omega⟩
  refine qcall hr hS (fun E ce q9 g' I' L' H1 locs1 hp hz1 hS1 hce hcv hcl => ?_) (fun v g' I' L' H1 locs1 hp hz1 hS1 => ?_)
  · exact kx E g' I' L' hp D K b b0 SA p l e R s m args below meth c H1 locs1 _ _ mc ms ls q9 ce _ C (by omega) (by omega) hz1 hS1 hl hce hcv hcl
  · have h9 := kk v g' I' L' hp D K b b0 SA p l e R s m args below meth c H1 locs1 (cells + kc') (slots + ks') mc ms ls C (by omega) (by omega) hz1 hS1 hl
    rw [List.map_append] at h9
    cases v <;> exact h9
end Calls
