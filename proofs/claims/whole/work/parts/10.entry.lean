/-! a method's entry, constructors, throws and catches -/
theorem lv_args_mem {ad : Nat → Nat} : ∀ (av : List aV) (k j : Nat) (v : aV), (∀ w ∈ av, ∀ x, w ≠ vJ x) → av[j]? = some v → (k + j, cv ad v) ∈ lv_args k (av.map (cv ad))
  | [], _, _, _, _, h => by simp at h
  | w :: r, k, j, v, hc, h => by
    have h1 : (cv ad w).category = 1 := cv_cat (hc w List.mem_cons_self)
    simp only [List.map_cons, lv_args]
    rw [if_neg (by rw [h1]; decide)]
    cases j with
    | zero =>
      rw [List.getElem?_cons_zero] at h
      cases h
      exact List.mem_cons_self
    | succ j =>
      rw [List.getElem?_cons_succ] at h
      have h2 := lv_args_mem (ad := ad) r (k + 1) j v (fun w hw => hc w (List.mem_cons_of_mem _ hw)) h
      rw [show k + (j + 1) = k + 1 + j by omega]
      exact List.mem_cons_of_mem _ h2
theorem lg_sl_len {ad : Nat → Nat} : ∀ (av : List aV), (∀ w ∈ av, ∀ x, w ≠ vJ x) → (lg_sl (av.map (cv ad))).length = av.length
  | [], _ => rfl
  | w :: r, hc => by
    have h1 : (cv ad w).category = 1 := cv_cat (hc w List.mem_cons_self)
    have h2 := lg_sl_len (ad := ad) r (fun w hw => hc w (List.mem_cons_of_mem _ hw))
    unfold lg_sl at h2 ⊢
    simp only [List.map_cons, List.flatMap_cons, h1]
    rw [List.length_append, h2]
    simp
    omega
def lo0 (av : List aV) (n : Nat) : List (Option aV) := av.map some ++ List.replicate (n - av.length) none
theorem lH_entry {ad : Nat → Nat} {av : List aV} (hc : ∀ w ∈ av, ∀ x, w ≠ vJ x) {n : Nat} (h : av.length ≤ n) : lH ad ((lg_sl (av.map (cv ad)) ++ List.replicate (n - (lg_sl (av.map (cv ad))).length) Slot.unset).toArray) n (lo0 av n) := by
  have h1 := lv_entry (av.map (cv ad)) (n := n) (by rw [lg_sl_len av hc]; exact h)
  refine ⟨h1.1, h1.2.1, fun k v hk => ?_⟩
  have hk2 : av[k]? = some v := by
    unfold lo0 at hk
    by_cases hl : k < av.length
    · rw [List.getElem?_append_left (by simpa using hl), List.getElem?_map] at hk
      cases h9 : av[k]? with
      | none => rw [h9] at hk; cases hk
      | some w => rw [h9] at hk; cases hk; rfl
    · rw [List.getElem?_append_right (by simpa using hl), List.getElem?_replicate] at hk
      split at hk <;> cases hk
  have h2 := lv_args_mem (ad := ad) av 0 k v hc hk2
  rw [Nat.zero_add] at h2
  exact ⟨cv_cat (hc v (List.mem_of_getElem? hk2)), h1.2.2 _ h2⟩
section Entry
variable {M N : aM} {d d' kc ks kc' ks' : Nat} {Q Q' : aQ} {pc idx : Nat} {lo : List (Option aV)} {st As av : List aV} {g : aG} {I : aI} {L : aL}
theorem Mx_of (hy : plainName M.y.cls = true) (hc : ∀ w ∈ av, ∀ x, w ≠ vJ x) (hn : av.length ≤ M.nL) (k : Ex M d kc ks Q 0 (lo0 av M.nL) [] g I L) : Mx M d kc ks av g I L Q := by
  intro D K b b0 SA l hl
  have main : ∀ (p : Program) (e : Env) (s : State) (m : MethodId) (args : Array Value) (below : List Frame) (meth : Method) (c : Code) (s₁ : State), BodyLoose p l M.y (headSpec M.ws (rm d kc ks)) M.cc M.nL M.ret e s m args below meth c s₁ → c.maxLocals = M.nL → c.exceptionTable.toList = tableOf M.hh → mP D K b b0 SA av g I L args s →
      W p l e (headSpec M.ws (rm d kc ks)).room s m args below meth c s.heap [] 0 0 (vx_MQ below (qQ D K b b0 Q) (qX D K b b0 Q) args s kc ks (qA b0)) (entryFrame m args M.nL) := by
    intro p e s m args below meth c s₁ B hml ht hP
    obtain ⟨rfl, hz, hb, hKv, hKh⟩ := hP
    have hts := atoms_spec (ws := M.ws) B.pre
    have C : Cx D K b b0 SA M d p l (rm d kc ks) s m (av.map (cv (qa b b0))).toArray meth c kc ks :=
      ⟨⟨B.exec, B.bytes, hml, B.returns, B.notSynchronized, findClass_of_methodNamed B.named, (name_of_methodNamed B.named B.method).1⟩, fun w hw => hts w (List.mem_cons_of_mem _ hw), hl, ⟨Nat.le_refl _, Nat.le_refl _, Nat.le_refl _, Nat.le_refl _⟩, ht, hb, hKv, hKh⟩
    rw [lg_entry_eq]
    exact k D K b b0 SA p l e (rm d kc ks) s m _ below meth c s.heap [] 0 0 kc ks _ C (by omega) (by omega) hz va_S.rf (lH_entry hc hn)
  by_cases hh : M.hh = []
  · refine vx_ofW (cc := M.cc) (maxL := M.nL) (ret := M.ret) (ws' := gT) hy (by unfold aM.ws; rw [if_pos hh]) ?_
    intro p e s m args below meth c s₁ B hml ht hP
    refine main p e s m args below meth c s₁ B hml ?_ hP
    rw [hh]
    cases h9 : c.exceptionTable.toList with
    | nil => rfl
    | cons x r => rw [h9] at ht; exact absurd (ht x List.mem_cons_self) id
  · refine vx_ofWH (cc := M.cc) (maxL := M.nL) (ret := M.ret) (hh := M.hh) (ws' := gT) hy (by unfold aM.ws; rw [if_neg hh]) ?_
    intro p e s m args below meth c s₁ B hml hP
    refine main p e s m args below meth c s₁ B hml ?_ hP
    have hts := atoms_spec (ws := M.ws) B.pre
    exact vx_table (x := M.y) B (hts _ (by unfold aM.ws; rw [if_neg hh]; exact List.mem_cons_self))
theorem Mx_mono (h : ∀ o g I L, Q' o g I L → Q o g I L) (k : Mx M d kc ks av g I L Q') : Mx M d kc ks av g I L Q := by
  intro D K b b0 SA l hl p e ha hc hk s m args below hf happ hP hK
  obtain ⟨t, o, h1, h2, h3, h4⟩ := k D K b b0 SA l hl p e ha hc hk s m args below hf happ hP hK
  refine ⟨t, o, h1, h2, h3, ?_⟩
  rcases h4 with ⟨⟨⟨v, g', I', L', e1, e2, e3⟩, e4⟩, e5⟩ | ⟨q, e0, E, ce, L0, ⟨g', I', L', e1, e2, e3⟩, e4⟩
  · exact Or.inl ⟨⟨⟨v, g', I', L', e1, h _ _ _ _ e2, e3⟩, e4⟩, e5⟩
  · exact Or.inr ⟨q, e0, E, ce, L0, ⟨g', I', L', h _ _ _ _ e1, e2, e3⟩, e4⟩
theorem Mx_met (hx : ∀ E g I L, ¬ Q (.inr E) g I L) (k : Mx M d kc ks av g I L Q) (D : va_G) (K : FieldType → ClassId) (b b0 : Nat) (SA : Nat → Nat) (l : Launch) (hl : l.stackTraces = false) : Met l M.y M.ws (rm d kc ks) (mP D K b b0 SA av g I L) (qQ D K b b0 Q) kc ks (qA b0) := by
  intro p e ha hc hk s m args below hf happ hP hK
  obtain ⟨t, o, h1, h2, h3, h4⟩ := k D K b b0 SA l hl p e ha hc hk s m args below hf happ hP hK
  refine ⟨t, o, h1, h2, h3, ?_⟩
  rcases h4 with h4 | ⟨q, e0, E, ce, L0, ⟨g', I', L', e1, e2, e3⟩, e4⟩
  · exact h4
  · exact absurd e1 (hx _ _ _ _)
theorem qcallM {D : va_G} {K : FieldType → ClassId} {b b0 : Nat} {p : Program} {l : Launch} {e : Env} {R : Room} {s : State} {m : MethodId} {args : Array Value} {below : List Frame} {meth : Method} {c : Code} {H : Heap} {locs : List Loc} {cells slots mc' ms' : Nat} {ls : Array Slot} {Z : State → Prop} {rest st0 : List Value} {a : Array Value}
    (hr : va_Run p l e R s m args below meth c H locs cells slots mc' ms' (F0 m pc ls st0) rest (qQ D K b b0 Q' a) (qA b0)) (hS : va_S (qA b0) s.heap H locs)
    (kk : ∀ (v : Option aV) (g' : aG) (I' : aI) (L' : aL) (H1 : Heap) (locs1 : List Loc), Q' (.inl v) g' I' L' → qz D K b b0 g' I' L' H1 → va_S (qA b0) s.heap H1 locs1 → W p l e R s m args below meth c H1 locs1 (cells + mc') (slots + ms') Z (F0 m (pc + 3) ls ((v.map (cv (qa b b0))).toList ++ rest))) :
    W p l e R s m args below meth c H locs cells slots Z (F0 m pc ls st0) := by
  intro T hT X
  obtain ⟨v, st₀, t, T', L0, h0, X', hL, e1, e2, ⟨⟨v', g', I', L', hv, hp, hb⟩, hF⟩, st⟩ := hr T hT X
  have hv' : v = v'.map (cv (qa b b0)) := Outcome.returned.inj hv
  subst hv'
  obtain ⟨-, -, k3⟩ := vx_keep (free := qA b0) h0 e1 hS (fun q _ h => h) (fun q h => h) hL hF
  obtain ⟨t2, a1, b1⟩ := kk v' g' I' L' T'.heap (locs ++ L0) hp (by rw [e1]; exact hb) k3 T' rfl X'
  exact ⟨t2, st t2 a1, b1⟩
/-- a constructor -/
theorem Ex_callI {i : Nat} (ok : cOk M N idx As.length) (hr0 : N.ret = none) (hy1 : N.y.name = "<init>") (w1 : Cond.instanceMethod N.y ∈ gT) (hM : Mx N d' kc' ks' (vD (some i) :: As) g I L Q') (hx : ∀ E g I L, ¬ Q' (.inr E) g I L) (hd' : d' + 1 ≤ d) (hst : catL st ≤ 8) (hd : decode M.cc pc = .ok (.invokespecial idx, 3))
    (kk : ∀ v g' I' L', Q' (.inl v) g' I' L' → Ex M d kc ks Q (pc + 3) lo (v.toList ++ st) g' I' L') : Ex M d (kc + kc') (ks + ks') Q pc lo (As.reverse ++ vD (some i) :: st) g I L := by
  intro D K b b0 SA p l e R s m args below meth c H locs cells slots mc ms ls C hc hs hz hS hl
  obtain ⟨⟨hcw, hh⟩, hini, hln, hnL, hn1, hn2, hn3⟩ := ok
  have hR := C.2.2.2.1
  rw [hr0] at hcw
  have cb : CallB R s args M.y.cls idx N.y N.cc N.nL none N.ws (rm d' kc' ks') kc' ks' As.length := callB_of As.length C.2.1 (ws_in (by rw [hr0]; exact hcw) hh) (by unfold aM.ws; rw [if_pos hh, hr0]) rfl rfl (C.2.1 _ hini) (C.2.1 _ hln) ⟨hn1, hn2, hn3⟩ ⟨Nat.le_trans hd' hR.1, by show 8 + (N.nL + 11) + 40 * d' ≤ R.locals; omega⟩
  have hr := va_runI (As := As.map (cv (qa b b0))) (rest := st.map (cv (qa b b0))) (b := qa b b0 i) (g := F0 m pc ls ((As.reverse ++ vD (some i) :: st).map (cv (qa b b0)))) (H := H) (locs := locs) (cells := cells) (slots := slots) (meth := meth) (below := below) (e := e) ⟨C.1.1, C.1.2.1, C.1.2.2.1, C.1.2.2.2.2.2.1, C.2.1⟩ (Mx_met hx hM D K b b0 SA l C.2.2.1) ⟨cb, hy1, C.2.1 _ w1⟩
    ⟨mP_blind, fun U hU hW => C.kh (av := vD (some i) :: As) hz hS hU hW⟩ rfl (by rw [List.length_map]) hl.1 (by simp [cv, va_rf]) (lv_room (by rw [catL_ok]; exact hst)) hd ⟨by omega, by omega⟩
  refine qcallM hr hS (fun v g' I' L' H1 locs1 hp hz1 hS1 => ?_)
  have h9 := kk v g' I' L' hp D K b b0 SA p l e R s m args below meth c H1 locs1 (cells + kc') (slots + ks') mc ms ls C (by omega) (by omega) hz1 hS1 hl
  rw [List.map_append] at h9
  cases v <;> exact h9
/-- a nest mate's private constructor -/
theorem Ex_callIN {i : Nat} (hcw : Cond.code N.y N.cc N.nL none ∈ gT) (hh : N.hh = []) (hini : Cond.initialized N.y.cls ∈ gT) (hln : (M.y.cls, idx, N.y) ∈ qNest) (hnL : N.nL ≤ 21) (hn : N.y.cls ≠ "java/lang/invoke/MethodHandle" ∧ N.y.cls ≠ "java/lang/invoke/VarHandle" ∧ (parseMethodDescriptor N.y.desc).map (fun d => d.parameters.length) = some As.length)
    (hr0 : N.ret = none) (hy1 : N.y.name = "<init>") (w1 : Cond.instanceMethod N.y ∈ gT) (hM : Mx N d' kc' ks' (vD (some i) :: As) g I L Q') (hx : ∀ E g I L, ¬ Q' (.inr E) g I L) (hd' : d' + 1 ≤ d) (hst : catL st ≤ 8) (hd : decode M.cc pc = .ok (.invokespecial idx, 3))
    (kk : ∀ v g' I' L', Q' (.inl v) g' I' L' → Ex M d kc ks Q (pc + 3) lo (v.toList ++ st) g' I' L') : Ex M d (kc + kc') (ks + ks') Q pc lo (As.reverse ++ vD (some i) :: st) g I L := by
  intro D K b b0 SA p l e R s m args below meth c H locs cells slots mc ms ls C hc hs hz hS hl
  have hR := C.2.2.2.1
  have cb : va_CN R s args M.y.cls idx N.y RX8 N.cc N.nL none N.ws (rm d' kc' ks') kc' ks' As.length := va_cnB As.length C.2.1 (ws_in (by rw [hr0]; exact hcw) hh) (by unfold aM.ws; rw [if_pos hh, hr0]) rfl rfl (C.2.2.2.2.2.2.1.2.2.2.1 _ hln) (C.2.1 _ hini) hn ⟨Nat.le_trans hd' hR.1, by show 8 + (N.nL + 11) + 40 * d' ≤ R.locals; omega⟩
  have hr := va_runIN (As := As.map (cv (qa b b0))) (rest := st.map (cv (qa b b0))) (b := qa b b0 i) (g := F0 m pc ls ((As.reverse ++ vD (some i) :: st).map (cv (qa b b0)))) (H := H) (locs := locs) (cells := cells) (slots := slots) (meth := meth) (below := below) (e := e) ⟨C.1.1, C.1.2.1, C.1.2.2.1, C.1.2.2.2.2.2.1, C.2.1⟩ (Mx_met hx hM D K b b0 SA l C.2.2.1) ⟨cb, hy1, C.2.1 _ w1⟩
    ⟨mP_blind, fun U hU hW => C.kh (av := vD (some i) :: As) hz hS hU hW⟩ rfl (by rw [List.length_map]) hl.1 (by simp [cv, va_rf]) (lv_room (by rw [catL_ok]; exact hst)) hd ⟨by omega, by omega⟩
  refine qcallM hr hS (fun v g' I' L' H1 locs1 hp hz1 hS1 => ?_)
  have h9 := kk v g' I' L' hp D K b b0 SA p l e R s m args below meth c H1 locs1 (cells + kc') (slots + ks') mc ms ls C (by omega) (by omega) hz1 hS1 hl
  rw [List.map_append] at h9
  cases v <;> exact h9
theorem Ex_objInit {i : Nat} (w1 : Cond.methodLink M.y.cls idx objectInit ∈ gT) (w2 : Cond.instanceMethod objectInit ∈ gT) (w3 : Cond.code objectInit ⟨#[0xb1]⟩ 1 none ∈ gT) (hd1 : 1 ≤ d) (hst : catL st ≤ 8) (hd : decode M.cc pc = .ok (.invokespecial idx, 3)) (kk : Ex M d kc ks Q (pc + 3) lo st g I L) : Ex M d kc ks Q pc lo (vD (some i) :: st) g I L := by
  intro D K b b0 SA p l e R s m args below meth c H locs cells slots mc ms ls C hc hs hz hS hl
  have hR := C.2.2.2.1
  have h0 := lv_room (m := m) (pc := pc) (ls := ls) (rest := (vD (some i) :: st).map (cv (qa b b0))) (st := st.map (cv (qa b b0))) (by rw [catL_ok]; exact hst)
  exact W.objInit C.1.1 C.1.2.1 C.1.2.2.2.2.2.1 (C.2.1 _ w1) (C.2.1 _ w2) (C.2.1 _ w3) rfl (hl.1.trans C.1.2.2.1.symm) rfl hd (by omega) (by omega) (kk D K b b0 SA p l e R s m args below meth c H locs cells slots mc ms ls C hc hs hz hS hl)
end Entry
