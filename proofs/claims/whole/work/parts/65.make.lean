/-! the class: the calls that make TERMS -/
def MC (lx ly : Nat) (g : aG) (I : aI) (τ hg nd : Nat → Nat) (cnt : Nat) : Prop := WS lx ly g ∧ 372 ≤ g.1 ∧ I 1 5 = nI cnt ∧ cnt ≤ 80 ∧ ∀ t, t < cnt → g.2.2 2 t = some (τ t) ∧ pT g I (some (τ t)) (hg t) (nd t)
/-- what a call that makes a TERM comes to -/
def mkQ (C1 C3 C2 : Prop) (g : aG) (I : aI) (L : aL) (cnt k : Nat) (b x nm : Int32) (f s : Option Nat) (h n : Nat) : aQ := fun o g' I' L' =>
  (o = .inl (some (vI (nI cnt))) ∧ ¬ C1 ∧ ¬ C3 ∧ ¬ C2 ∧ MkP g I L cnt k b x nm f s h n g' I' L') ∨ (o = .inr E1 ∧ C1 ∧ Ext g I L g' I' L') ∨ (o = .inr E3 ∧ ¬ C1 ∧ C3 ∧ Ext g I L g' I' L') ∨ (o = .inr E2 ∧ ¬ C1 ∧ ¬ C3 ∧ C2 ∧ Ext g I L g' I' L')
theorem new7 : Cond.classLink RX8 9 RX7 ∈ gT ∧ Cond.instantiable RX7 8 ∈ gT ∧ Cond.initialized RX7 ∈ gT := ⟨gOne (by decide +kernel), gOne (by decide +kernel), gOne (by decide +kernel)⟩
theorem Ex_newT {M : aM} {d pc : Nat} {Q : aQ} {lo : List (Option aV)} {st : List aV} {g : aG} {I : aI} {L : aL} (hM : M.y.cls = RX8) (hd : decode M.cc pc = .ok (.new 9, 3)) (kk : Ex M d 1 6 Q (pc + 3) lo (vD (some g.1) :: st) (g_add g (.inl 7)) (I_add g I) (L_add g L)) : Ex M d 2 14 Q pc lo st g I L :=
  Ex_new (kc := 1) (ks := 6) (ci := 7) (q := (RX7, TX7, 8)) rfl (by rw [hM]; exact new7.1) new7.2.1 new7.2.2 hd kk
def L_zero : aL := fun _ => 0
section Make
variable {lx ly : Nat} {g : aG} {I : aI} {L : aL} {d cnt k : Nat} {τ hg nd : Nat → Nat} {b x y z : Int32}
theorem MC.add (h : MC lx ly g I τ hg nd cnt) {c : aSh} : WS lx ly (g_add g c) ∧ I_add g I 1 5 = nI cnt ∧ cnt ≤ 80 ∧ ∀ t, t < cnt → (g_add g c).2.2 2 t = some (τ t) := by
  obtain ⟨h1, h2, h3, h4, h5⟩ := h
  have hE : Ext g I L_zero (g_add g c) (I_add g I) (L_add g L_zero) := Ext.add
  refine ⟨ws_ext h1 h2 hE, ?_, h4, fun t ht => ?_⟩
  · rw [(hE.2 1 (by omega)).2.2.1]; exact h3
  · rw [(hE.2 2 (by omega)).2.1]; exact (h5 t ht).1
theorem MC.pt (h : MC lx ly g I τ hg nd cnt) (hx : tmP cnt x) : pT g I (some (τ x.toNatClampNeg)) (hg x.toNatClampNeg) (nd x.toNatClampNeg) ∧ g.2.2 2 x.toNatClampNeg = some (τ x.toNatClampNeg) ∧ x = nI x.toNatClampNeg ∧ x.toNatClampNeg < cnt := by
  obtain ⟨h1, h2, h3, h4, h5⟩ := h
  obtain ⟨t, ht, rfl⟩ := hx.idx h4
  rw [clN (by omega)]
  exact ⟨(h5 t ht).2, (h5 t ht).1, rfl, ht⟩
theorem pT0 : pT g I none 0 0 := ⟨rfl, rfl⟩
theorem e8_keepAct (h : MC lx ly g I τ hg nd cnt) (hk : k ≤ 5) (hb : b = 0 ∨ b = 1) (hd : 9 ≤ d) {y : Int32} (hy : y = nI k) : Mx mX8_keepAct d 2 14 [vS 1, vI y, vI b, vI x] g I L (mkQ (¬ (b = 0 ∨ nmP x)) False (¬ (cnt < 80 ∧ 1 + max 0 0 ≤ 30)) g I L cnt k b x (-1) none none (1 + max 0 0) (kbN k ||| 0 ||| 0)) := by
  obtain ⟨hw, hg, hc, h8, hT⟩ := id h
  have h1 := (hw 1 _ rfl).2.1
  refine Mx_in (by decide +kernel) rfl rfl (Ex_wx [] 9 oX8_keepAct hw ?_)
  by_cases q : b = 0 ∨ nmP x
  · refine Ex_v (kc := 2) (ks := 14) (As := [vI b, vI x]) (st := []) (d' := 1) vX8_76 rfl rfl (e8_operand hw q (by omega)) h1 (by omega) rfl (dc_ok oX8_keepAct rfl) ?_
    refine Ex_wx [] 9 oX8_keepAct hw ?_
    refine Ex_newT rfl (dc_ok oX8_keepAct rfl) ?_
    refine Ex_wx [] 9 oX8_keepAct (h.add (c := .inl 7)).1 ?_
    refine e8_fin (hf := 0) (hs := 0) (nf := 0) (ns := 0) (k := k) rfl rfl rfl (dc_ok oX8_keepAct rfl) (dc_ok oX8_keepAct rfl) (dc_ok oX8_keepAct rfl) hw hg hc h8 (by omega) hb pT0 pT0 (by omega) hy ?_ ?_
    · intro a1 a2 g' I' L' hP
      exact Or.inl ⟨rfl, fun c => c q, id, fun c => c ⟨a1, a2⟩, hP⟩
    · intro a1 g' I' L' hP
      exact Or.inr (Or.inr (Or.inr ⟨rfl, fun c => c q, id, a1, hP⟩))
  · exact Ex_vT (kc := 1) (ks := 8) (kc' := 0 + 1) (ks' := 0 + 6) (As := [vI b, vI x]) (st := []) (d' := 7) vX8_76 rfl rfl (e8_operandT hw q (by omega)) h1 (by omega) rfl (dc_ok oX8_keepAct rfl) rfl (fun m hm => Or.inr (Or.inl ⟨rfl, q, Ext.more hm⟩))
theorem e8_of (h : MC lx ly g I τ hg nd cnt) (hd : 9 ≤ d) : Mx mX8_of d 2 14 [vS 1, vI x, vI y, vI z] g I L (mkQ (¬ (nmP x ∧ nmP y)) (¬ (0 ≤ z ∧ z < 5)) (¬ (cnt < 80 ∧ 1 + max 0 0 ≤ 30)) g I L cnt (14 + z.toNatClampNeg) 1 x y none none (1 + max 0 0) (kbN (14 + z.toNatClampNeg) ||| 0 ||| 0)) := by
  obtain ⟨hw, hg, hc, h8, hT⟩ := id h
  refine Mx_in (by decide +kernel) rfl rfl (Ex_wx [] 9 oX8_of hw ?_)
  by_cases q1 : nmP x
  rotate_left
  · exact Ex_sT (kc := 1) (ks := 8) (kc' := 0 + 1) (ks' := 0 + 6) (As := [vI x]) (st := []) (d' := 6) sX8_50 rfl rfl (e8_nameT hw q1 (by omega)) (by omega) rfl (dc_ok oX8_of rfl) rfl (fun m hm => Or.inr (Or.inl ⟨rfl, fun c => q1 c.1, Ext.more hm⟩))
  refine Ex_s (kc := 2) (ks := 14) (As := [vI x]) (st := []) (d' := 0) sX8_50 rfl rfl (e8_name hw q1) (by omega) rfl (dc_ok oX8_of rfl) ?_
  refine Ex_wx [] 9 oX8_of hw ?_
  by_cases q2 : nmP y
  rotate_left
  · exact Ex_sT (kc := 1) (ks := 8) (kc' := 0 + 1) (ks' := 0 + 6) (As := [vI y]) (st := []) (d' := 6) sX8_50 rfl rfl (e8_nameT hw q2 (by omega)) (by omega) rfl (dc_ok oX8_of rfl) rfl (fun m hm => Or.inr (Or.inl ⟨rfl, fun c => q2 c.2, Ext.more hm⟩))
  refine Ex_s (kc := 2) (ks := 14) (As := [vI y]) (st := []) (d' := 0) sX8_50 rfl rfl (e8_name hw q2) (by omega) rfl (dc_ok oX8_of rfl) ?_
  have ht : ¬ (0 ≤ z ∧ z < 5) → ∀ lo, Ex mX8_of d (1 + 1) (8 + 6) (mkQ (¬ (nmP x ∧ nmP y)) (¬ (0 ≤ z ∧ z < 5)) (¬ (cnt < 80 ∧ 1 + max 0 0 ≤ 30)) g I L cnt (14 + z.toNatClampNeg) 1 x y none none (1 + max 0 0) (kbN (14 + z.toNatClampNeg) ||| 0 ||| 0)) 17 lo [] g I L := fun hz lo => Ex_throw tOk_3 rfl rfl (by decide : (56, "no such op") ∈ qStr) (by omega) (by decide) (dc_ok oX8_of rfl) (dc_ok oX8_of rfl) (dc_ok oX8_of rfl) (dc_ok oX8_of rfl) (dc_ok oX8_of rfl) (fun n hn => Or.inr (Or.inr (Or.inl ⟨rfl, fun c => c ⟨q1, q2⟩, hz, Ext.more hn⟩)))
  refine Ex_wx [17, 12] 9 oX8_of hw ?_
  refine And.intro (fun c => ht (fun q => absurd c (Int32.not_lt.mpr q.1)) _) (fun c0 => ?_)
  refine Ex_wx [17, 27] 9 oX8_of hw ?_
  refine And.intro (fun c5 => ?_) (fun c => ht (fun q => c q.2) _)
  have hz : 0 ≤ z ∧ z < 5 := ⟨Int32.not_lt.mp c0, c5⟩
  obtain ⟨j, hj, ej⟩ := tmP.idx (cnt := 5) ⟨hz.1, hz.2⟩ (by omega)
  refine Ex_wx [] 9 oX8_of hw ?_
  refine Ex_newT rfl (dc_ok oX8_of rfl) ?_
  refine Ex_wx [] 9 oX8_of (h.add (c := .inl 7)).1 ?_
  have hj2 : z.toNatClampNeg = j := by rw [ej]; exact clN (by omega)
  refine e8_fin (hf := 0) (hs := 0) (nf := 0) (ns := 0) (k := 14 + z.toNatClampNeg) rfl rfl rfl (dc_ok oX8_of rfl) (dc_ok oX8_of rfl) (dc_ok oX8_of rfl) hw hg hc h8 (by omega) (Or.inr rfl) pT0 pT0 (by omega) (by rw [hj2, ej]; exact nI_add 14 j) ?_ ?_
  · intro a1 a2 g' I' L' hP
    exact Or.inl ⟨rfl, fun c => c ⟨q1, q2⟩, fun c => c hz, fun c => c ⟨a1, a2⟩, hP⟩
  · intro a1 g' I' L' hP
    exact Or.inr (Or.inr (Or.inr ⟨rfl, fun c => c ⟨q1, q2⟩, fun c => c hz, a1, hP⟩))

theorem e8_either (h : MC lx ly g I τ hg nd cnt) (hd : 9 ≤ d) : Mx mX8_either d 2 14 [vS 1, vI x, vI y] g I L (mkQ (¬ (tmP cnt x ∧ tmP cnt y)) False (¬ (cnt < 80 ∧ 1 + max (hg x.toNatClampNeg) (hg y.toNatClampNeg) ≤ 30)) g I L cnt 6 0 0 (-1) (some (τ x.toNatClampNeg)) (some (τ y.toNatClampNeg)) (1 + max (hg x.toNatClampNeg) (hg y.toNatClampNeg)) (kbN 6 ||| nd x.toNatClampNeg ||| nd y.toNatClampNeg)) := by
  obtain ⟨hw, hg1, hc, h8, hT⟩ := id h
  obtain ⟨hw1, hc1, -, hT1⟩ := h.add (c := .inl 7)
  have h1 := (hw1 1 _ rfl).2.1
  have hE : Ext g I L (g_add g (.inl 7)) (I_add g I) (L_add g L) := Ext.add
  refine Mx_in (by decide +kernel) rfl rfl (Ex_wx [] 9 oX8_either hw ?_)
  refine Ex_newT rfl (dc_ok oX8_either rfl) ?_
  refine Ex_wx [] 9 oX8_either hw1 ?_
  by_cases q1 : tmP cnt x
  rotate_left
  · exact Ex_vT (kc := 0) (ks := 0) (kc' := 0 + 1) (ks' := 0 + 6) (As := [vI x]) (st := [vI (-1), vI 0, vI 0, vI 6, vD (some g.1), vD (some g.1), vS 1]) (d' := 6) vX8_68 rfl rfl (e8_termAtT hw1 hc1 q1 (by omega)) h1 (by omega) rfl (dc_ok oX8_either rfl) rfl (fun m hm => Or.inr (Or.inl ⟨rfl, fun c => q1 c.1, hE.trans (Ext.more hm)⟩))
  obtain ⟨p1, p2, p3, p4⟩ := h.pt q1
  refine Ex_v (kc := 1) (ks := 6) (As := [vI x]) (st := [vI (-1), vI 0, vI 0, vI 6, vD (some g.1), vD (some g.1), vS 1]) (d' := 0) vX8_68 rfl rfl (e8_termAt hw1 hc1 h8 p3 p4 (hT1 _ p4)) h1 (by omega) rfl (dc_ok oX8_either rfl) ?_
  refine Ex_wx [] 9 oX8_either hw1 ?_
  by_cases q2 : tmP cnt y
  rotate_left
  · exact Ex_vT (kc := 0) (ks := 0) (kc' := 0 + 1) (ks' := 0 + 6) (As := [vI y]) (st := [vD (some (τ x.toNatClampNeg)), vI (-1), vI 0, vI 0, vI 6, vD (some g.1), vD (some g.1), vS 1]) (d' := 6) vX8_68 rfl rfl (e8_termAtT hw1 hc1 q2 (by omega)) h1 (by omega) rfl (dc_ok oX8_either rfl) rfl (fun m hm => Or.inr (Or.inl ⟨rfl, fun c => q2 c.2, hE.trans (Ext.more hm)⟩))
  obtain ⟨r1, r2, r3, r4⟩ := h.pt q2
  refine Ex_v (kc := 1) (ks := 6) (As := [vI y]) (st := [vD (some (τ x.toNatClampNeg)), vI (-1), vI 0, vI 0, vI 6, vD (some g.1), vD (some g.1), vS 1]) (d' := 0) vX8_68 rfl rfl (e8_termAt hw1 hc1 h8 r3 r4 (hT1 _ r4)) h1 (by omega) rfl (dc_ok oX8_either rfl) ?_
  refine e8_fin (k := 6) rfl rfl rfl (dc_ok oX8_either rfl) (dc_ok oX8_either rfl) (dc_ok oX8_either rfl) hw hg1 hc h8 (by omega) (Or.inl rfl) p1 r1 (by omega) rfl ?_ ?_
  · intro a1 a2 g' I' L' hP
    exact Or.inl ⟨rfl, fun c => c ⟨q1, q2⟩, id, fun c => c ⟨a1, a2⟩, hP⟩
  · intro a1 g' I' L' hP
    exact Or.inr (Or.inr (Or.inr ⟨rfl, fun c => c ⟨q1, q2⟩, id, a1, hP⟩))
theorem e8_keepNaming {nm v : Int32} (h : MC lx ly g I τ hg nd cnt) (hk : k ≤ 18) (hy : v = nI k) (hd : 9 ≤ d) : Mx mX8_keepNaming d 2 14 [vS 1, vI v, vI nm, vI x, vI y] g I L (mkQ (¬ (nmP nm ∧ tmP cnt x ∧ tmP cnt y)) False (¬ (cnt < 80 ∧ 1 + max (hg x.toNatClampNeg) (hg y.toNatClampNeg) ≤ 30)) g I L cnt k 0 0 nm (some (τ x.toNatClampNeg)) (some (τ y.toNatClampNeg)) (1 + max (hg x.toNatClampNeg) (hg y.toNatClampNeg)) (kbN k ||| nd x.toNatClampNeg ||| nd y.toNatClampNeg)) := by
  obtain ⟨hw, hg1, hc, h8, hT⟩ := id h
  obtain ⟨hw1, hc1, -, hT1⟩ := h.add (c := .inl 7)
  have h1 := (hw1 1 _ rfl).2.1
  have hE : Ext g I L (g_add g (.inl 7)) (I_add g I) (L_add g L) := Ext.add
  refine Mx_in (by decide +kernel) rfl rfl (Ex_wx [] 9 oX8_keepNaming hw ?_)
  by_cases q0 : nmP nm
  rotate_left
  · exact Ex_sT (kc := 1) (ks := 8) (kc' := 0 + 1) (ks' := 0 + 6) (As := [vI nm]) (st := []) (d' := 6) sX8_50 rfl rfl (e8_nameT hw q0 (by omega)) (by omega) rfl (dc_ok oX8_keepNaming rfl) rfl (fun m hm => Or.inr (Or.inl ⟨rfl, fun c => q0 c.1, Ext.more hm⟩))
  refine Ex_s (kc := 2) (ks := 14) (As := [vI nm]) (st := []) (d' := 0) sX8_50 rfl rfl (e8_name hw q0) (by omega) rfl (dc_ok oX8_keepNaming rfl) ?_
  refine Ex_wx [] 9 oX8_keepNaming hw ?_
  refine Ex_newT rfl (dc_ok oX8_keepNaming rfl) ?_
  refine Ex_wx [] 9 oX8_keepNaming hw1 ?_
  by_cases q1 : tmP cnt x
  rotate_left
  · exact Ex_vT (kc := 0) (ks := 0) (kc' := 0 + 1) (ks' := 0 + 6) (As := [vI x]) (st := [vI nm, vI 0, vI 0, vI v, vD (some g.1), vD (some g.1), vS 1]) (d' := 6) vX8_68 rfl rfl (e8_termAtT hw1 hc1 q1 (by omega)) h1 (by omega) rfl (dc_ok oX8_keepNaming rfl) rfl (fun m hm => Or.inr (Or.inl ⟨rfl, fun c => q1 c.2.1, hE.trans (Ext.more hm)⟩))
  obtain ⟨p1, p2, p3, p4⟩ := h.pt q1
  refine Ex_v (kc := 1) (ks := 6) (As := [vI x]) (st := [vI nm, vI 0, vI 0, vI v, vD (some g.1), vD (some g.1), vS 1]) (d' := 0) vX8_68 rfl rfl (e8_termAt hw1 hc1 h8 p3 p4 (hT1 _ p4)) h1 (by omega) rfl (dc_ok oX8_keepNaming rfl) ?_
  refine Ex_wx [] 9 oX8_keepNaming hw1 ?_
  by_cases q2 : tmP cnt y
  rotate_left
  · exact Ex_vT (kc := 0) (ks := 0) (kc' := 0 + 1) (ks' := 0 + 6) (As := [vI y]) (st := [vD (some (τ x.toNatClampNeg)), vI nm, vI 0, vI 0, vI v, vD (some g.1), vD (some g.1), vS 1]) (d' := 6) vX8_68 rfl rfl (e8_termAtT hw1 hc1 q2 (by omega)) h1 (by omega) rfl (dc_ok oX8_keepNaming rfl) rfl (fun m hm => Or.inr (Or.inl ⟨rfl, fun c => q2 c.2.2, hE.trans (Ext.more hm)⟩))
  obtain ⟨r1, r2, r3, r4⟩ := h.pt q2
  refine Ex_v (kc := 1) (ks := 6) (As := [vI y]) (st := [vD (some (τ x.toNatClampNeg)), vI nm, vI 0, vI 0, vI v, vD (some g.1), vD (some g.1), vS 1]) (d' := 0) vX8_68 rfl rfl (e8_termAt hw1 hc1 h8 r3 r4 (hT1 _ r4)) h1 (by omega) rfl (dc_ok oX8_keepNaming rfl) ?_
  refine e8_fin (k := k) rfl rfl rfl (dc_ok oX8_keepNaming rfl) (dc_ok oX8_keepNaming rfl) (dc_ok oX8_keepNaming rfl) hw hg1 hc h8 hk (Or.inl rfl) p1 r1 (by omega) hy ?_ ?_
  · intro a1 a2 g' I' L' hP
    exact Or.inl ⟨rfl, fun c => c ⟨q0, q1, q2⟩, id, fun c => c ⟨a1, a2⟩, hP⟩
  · intro a1 g' I' L' hP
    exact Or.inr (Or.inr (Or.inr ⟨rfl, fun c => c ⟨q0, q1, q2⟩, id, a1, hP⟩))
theorem e8_times (h : MC lx ly g I τ hg nd cnt) (hb : b = 0 ∨ b = 1) (hd : 9 ≤ d) : Mx mX8_times d 2 14 [vS 1, vI b, vI x, vI y] g I L (mkQ (¬ ((b = 0 ∨ nmP x) ∧ tmP cnt y)) False (¬ (cnt < 80 ∧ 1 + max (hg y.toNatClampNeg) 0 ≤ 30)) g I L cnt 10 b x (-1) (some (τ y.toNatClampNeg)) none (1 + max (hg y.toNatClampNeg) 0) (kbN 10 ||| nd y.toNatClampNeg ||| 0)) := by
  obtain ⟨hw, hg1, hc, h8, hT⟩ := id h
  obtain ⟨hw1, hc1, -, hT1⟩ := h.add (c := .inl 7)
  have h1 := (hw1 1 _ rfl).2.1
  have h10 := (hw 1 _ rfl).2.1
  have hE : Ext g I L (g_add g (.inl 7)) (I_add g I) (L_add g L) := Ext.add
  refine Mx_in (by decide +kernel) rfl rfl (Ex_wx [] 9 oX8_times hw ?_)
  by_cases q0 : b = 0 ∨ nmP x
  rotate_left
  · exact Ex_vT (kc := 1) (ks := 8) (kc' := 0 + 1) (ks' := 0 + 6) (As := [vI b, vI x]) (st := []) (d' := 7) vX8_76 rfl rfl (e8_operandT hw q0 (by omega)) h10 (by omega) rfl (dc_ok oX8_times rfl) rfl (fun m hm => Or.inr (Or.inl ⟨rfl, fun c => q0 c.1, Ext.more hm⟩))
  refine Ex_v (kc := 2) (ks := 14) (As := [vI b, vI x]) (st := []) (d' := 1) vX8_76 rfl rfl (e8_operand hw q0 (by omega)) h10 (by omega) rfl (dc_ok oX8_times rfl) ?_
  refine Ex_wx [] 9 oX8_times hw ?_
  refine Ex_newT rfl (dc_ok oX8_times rfl) ?_
  refine Ex_wx [] 9 oX8_times hw1 ?_
  by_cases q1 : tmP cnt y
  rotate_left
  · exact Ex_vT (kc := 0) (ks := 0) (kc' := 0 + 1) (ks' := 0 + 6) (As := [vI y]) (st := [vI (-1), vI x, vI b, vI 10, vD (some g.1), vD (some g.1), vS 1]) (d' := 6) vX8_68 rfl rfl (e8_termAtT hw1 hc1 q1 (by omega)) h1 (by omega) rfl (dc_ok oX8_times rfl) rfl (fun m hm => Or.inr (Or.inl ⟨rfl, fun c => q1 c.2, hE.trans (Ext.more hm)⟩))
  obtain ⟨p1, p2, p3, p4⟩ := h.pt q1
  refine Ex_v (kc := 1) (ks := 6) (As := [vI y]) (st := [vI (-1), vI x, vI b, vI 10, vD (some g.1), vD (some g.1), vS 1]) (d' := 0) vX8_68 rfl rfl (e8_termAt hw1 hc1 h8 p3 p4 (hT1 _ p4)) h1 (by omega) rfl (dc_ok oX8_times rfl) ?_
  refine Ex_wx [] 9 oX8_times hw1 ?_
  refine e8_fin (k := 10) (hs := 0) (ns := 0) rfl rfl rfl (dc_ok oX8_times rfl) (dc_ok oX8_times rfl) (dc_ok oX8_times rfl) hw hg1 hc h8 (by omega) hb p1 pT0 (by omega) rfl ?_ ?_
  · intro a1 a2 g' I' L' hP
    exact Or.inl ⟨rfl, fun c => c ⟨q0, q1⟩, id, fun c => c ⟨a1, a2⟩, hP⟩
  · intro a1 g' I' L' hP
    exact Or.inr (Or.inr (Or.inr ⟨rfl, fun c => c ⟨q0, q1⟩, id, a1, hP⟩))
theorem e8_as (h : MC lx ly g I τ hg nd cnt) (hd : 9 ≤ d) : Mx mX8_as d 2 14 [vS 1, vI z, vI y] g I L (mkQ (¬ tmP cnt y) (¬ (0 ≤ z ∧ z < 3)) (¬ (cnt < 80 ∧ 1 + max (hg y.toNatClampNeg) 0 ≤ 30)) g I L cnt (11 + z.toNatClampNeg) 0 0 (-1) (some (τ y.toNatClampNeg)) none (1 + max (hg y.toNatClampNeg) 0) (kbN (11 + z.toNatClampNeg) ||| nd y.toNatClampNeg ||| 0)) := by
  obtain ⟨hw, hg1, hc, h8, hT⟩ := id h
  obtain ⟨hw1, hc1, -, hT1⟩ := h.add (c := .inl 7)
  have h10 := (hw 1 _ rfl).2.1
  refine Mx_in (by decide +kernel) rfl rfl (Ex_wx [] 9 oX8_as hw ?_)
  by_cases q1 : tmP cnt y
  rotate_left
  · exact Ex_vT (kc := 1) (ks := 8) (kc' := 0 + 1) (ks' := 0 + 6) (As := [vI y]) (st := []) (d' := 6) vX8_68 rfl rfl (e8_termAtT hw hc q1 (by omega)) h10 (by omega) rfl (dc_ok oX8_as rfl) rfl (fun m hm => Or.inr (Or.inl ⟨rfl, q1, Ext.more hm⟩))
  obtain ⟨p1, p2, p3, p4⟩ := h.pt q1
  refine Ex_v (kc := 2) (ks := 14) (As := [vI y]) (st := []) (d' := 0) vX8_68 rfl rfl (e8_termAt hw hc h8 p3 p4 p2) h10 (by omega) rfl (dc_ok oX8_as rfl) ?_
  have ht : ¬ (0 ≤ z ∧ z < 3) → ∀ lo, Ex mX8_as d (1 + 1) (8 + 6) (mkQ (¬ tmP cnt y) (¬ (0 ≤ z ∧ z < 3)) (¬ (cnt < 80 ∧ 1 + max (hg y.toNatClampNeg) 0 ≤ 30)) g I L cnt (11 + z.toNatClampNeg) 0 0 (-1) (some (τ y.toNatClampNeg)) none (1 + max (hg y.toNatClampNeg) 0) (kbN (11 + z.toNatClampNeg) ||| nd y.toNatClampNeg ||| 0)) 15 lo [] g I L := fun hz lo => Ex_throw tOk_3 rfl rfl (by decide : (80, "no such kind") ∈ qStr) (by omega) (by decide) (dc_ok oX8_as rfl) (dc_ok oX8_as rfl) (dc_ok oX8_as rfl) (dc_ok oX8_as rfl) (dc_ok oX8_as rfl) (fun n hn => Or.inr (Or.inr (Or.inl ⟨rfl, fun c => c q1, hz, Ext.more hn⟩)))
  refine Ex_wx [15, 10] 9 oX8_as hw ?_
  refine And.intro (fun c => ht (fun q => absurd c (Int32.not_lt.mpr q.1)) _) (fun c0 => ?_)
  refine Ex_wx [15, 25] 9 oX8_as hw ?_
  refine And.intro (fun c5 => ?_) (fun c => ht (fun q => c q.2) _)
  have hz : 0 ≤ z ∧ z < 3 := ⟨Int32.not_lt.mp c0, c5⟩
  obtain ⟨j, hj, ej⟩ := tmP.idx (cnt := 3) ⟨hz.1, hz.2⟩ (by omega)
  refine Ex_wx [] 9 oX8_as hw ?_
  refine Ex_newT rfl (dc_ok oX8_as rfl) ?_
  refine Ex_wx [] 9 oX8_as hw1 ?_
  have hj2 : z.toNatClampNeg = j := by rw [ej]; exact clN (by omega)
  refine e8_fin (k := 11 + z.toNatClampNeg) (hs := 0) (ns := 0) rfl rfl rfl (dc_ok oX8_as rfl) (dc_ok oX8_as rfl) (dc_ok oX8_as rfl) hw hg1 hc h8 (by omega) (Or.inl rfl) p1 pT0 (by omega) (by rw [hj2, ej]; exact nI_add 11 j) ?_ ?_
  · intro a1 a2 g' I' L' hP
    exact Or.inl ⟨rfl, fun c => c q1, fun c => c hz, fun c => c ⟨a1, a2⟩, hP⟩
  · intro a1 g' I' L' hP
    exact Or.inr (Or.inr (Or.inr ⟨rfl, fun c => c q1, fun c => c hz, a1, hP⟩))
end Make
