/-! methods of classes some of whose methods are the machine's own -/
theorem vx_ofWF {l : Launch} {y : MethodName} {ws ws' : List Cond} {rm : Room} {Pc : Array Value → State → Prop} {Qc : Array Value → State → Outcome → State → Prop} {XC : String → State → State → Prop} {mc ms : Nat} {free : Addr → Prop} {cc : ByteArray} {maxL : Nat} {ret : Option FieldType}
    (hy : plainFor y = true) (hw : ws = Cond.code y cc maxL ret :: ws')
    (body : ∀ p e s m args below meth c s₁, BodyLoose p l y (headSpec ws rm) cc maxL ret e s m args below meth c s₁ → c.maxLocals = maxL → (∀ x ∈ c.exceptionTable.toList, False) → Pc args s →
      W p l e (headSpec ws rm).room s m args below meth c s.heap [] 0 0 (vx_MQ below Qc XC args s mc ms free) (entryFrame m args maxL)) : vx_Met l y ws rm Pc Qc XC mc ms free := by
  refine MetFree.of_bodyRF (code := cc) (maxLocals := maxL) (ret := ret) hy ?_ ?_
  · intro args s m h hn
    obtain ⟨meth, c, h1, h2, h3, h4, h5, h6, -, -⟩ := Cond.code_spec hn (atoms_spec (ws := ws) h _ (by rw [hw]; exact List.mem_cons_self))
    exact ⟨meth, c, h1, h2, h3, h4, h5, h6⟩
  · intro p e s m args below meth c s₁ B hml hP _ hst
    have hh0 : s₁.heap = s.heap := by rw [B.state]; rfl
    have ht : ∀ x ∈ c.exceptionTable.toList, False := by
      obtain ⟨meth9, c9, h1, h2, -, -, -, -, h7, -⟩ := Cond.code_spec B.named (atoms_spec (ws := ws) B.pre _ (by rw [hw]; exact List.mem_cons_self))
      cases Option.some.inj (h1.symm.trans B.method)
      cases Option.some.inj (h2.symm.trans (Stand.of_body B).code)
      intro x hx
      rw [Array.isEmpty_iff.mp h7] at hx
      cases hx
    obtain ⟨t, a1, o, b1, b2, b3⟩ := body p e s m args below meth c s₁ B hml ht hP s₁ hh0 (Stand.of_body B)
    exact ⟨t, o, hst.trans a1, b1, b2, b3⟩
theorem Mx_inF {M : aM} {d kc ks : Nat} {Q : aQ} {av : List aV} {g : aG} {I : aI} {L : aL} (hy : plainFor M.y = true) (hh : M.hh = []) (hc : noJ av = true) (hn : Nat.ble av.length M.nL = true) (k : Ex M d kc ks Q 0 (lo0 av M.nL) [] g I L) : Mx M d kc ks av g I L Q := by
  intro D K b b0 SA l hl
  refine vx_ofWF (cc := M.cc) (maxL := M.nL) (ret := M.ret) (ws' := gT) hy (by unfold aM.ws; rw [if_pos hh]) ?_
  intro p e s m args below meth c s₁ B hml ht hP
  obtain ⟨rfl, hz, hb, hKv, hKh⟩ := hP
  have hts := atoms_spec (ws := M.ws) B.pre
  have he : c.exceptionTable.toList = tableOf M.hh := by
    rw [hh]
    cases h9 : c.exceptionTable.toList with
    | nil => rfl
    | cons x r => rw [h9] at ht; exact absurd (ht x List.mem_cons_self) id
  have C : Cx D K b b0 SA M d p l (rm d kc ks) s m (av.map (cv (qa b b0))).toArray meth c kc ks :=
    ⟨⟨B.exec, B.bytes, hml, B.returns, B.notSynchronized, findClass_of_methodNamed B.named, (name_of_methodNamed B.named B.method).1⟩, fun w hw => hts w (List.mem_cons_of_mem _ hw), hl, ⟨Nat.le_refl _, Nat.le_refl _, Nat.le_refl _, Nat.le_refl _⟩, he, hb, hKv, hKh⟩
  rw [lg_entry_eq]
  exact k D K b b0 SA p l e (rm d kc ks) s m _ below meth c s.heap [] 0 0 kc ks _ C (by omega) (by omega) hz va_S.rf (lH_entry (noJ_ok av hc) (Nat.le_of_ble_eq_true hn))
