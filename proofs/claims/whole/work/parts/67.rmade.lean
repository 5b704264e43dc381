/-! the reference: making a TERM -/
theorem up2_up {α : Type} {I : Nat → Nat → α} {i k : Nat} {v u : α} : up2 (up2 I i k u) i k v = up2 I i k v := by
  funext j m
  unfold up2
  by_cases c : j = i ∧ m = k
  · rw [if_pos c, if_pos c]
  · rw [if_neg c, if_neg c, if_neg c]
def MR (I : aI) (hg nd : Nat → Nat) (cnt : Nat) : Prop := I 328 1 = nI cnt ∧ cnt ≤ 80 ∧ ∀ t, t < cnt → I 335 t = nI (hg t) ∧ hg t ≤ 30 ∧ I 334 t = nI (nd t) ∧ nd t < 16
theorem MR.thr {I : aI} {hg nd : Nat → Nat} {cnt : Nat} {v : Int32} (h : MR I hg nd cnt) : MR (up2 I 328 0 v) hg nd cnt := by
  refine ⟨by rw [up2_k (by omega)]; exact h.1, h.2.1, fun t ht => ?_⟩
  rw [up2_i (by omega), up2_i (by omega)]
  exact h.2.2 t ht
def mrI (I : aI) (cnt k : Nat) (a b n nm nds : Int32) (h : Nat) : aI := up2 (up2 (up2 (up2 (up2 (up2 (up2 (up2 I 329 cnt (nI k)) 330 cnt a) 331 cnt b) 332 cnt n) 333 cnt nm) 334 cnt nds) 335 cnt (nI h)) 328 1 (nI (cnt + 1))
section RMake
variable {lx ly : Nat} {g : aG} {I : aI} {L : aL} {d cnt : Nat} {hg nd : Nat → Nat} {x y z b : Int32}
theorem r_refuse {c : Int32} (hw : WS lx ly g) : Mx mX9_refuse d 0 0 [vS 328, vI c] g I L (qV (some (vI 0)) g (up2 I 328 0 c) L) := by
  refine Mx_in (by decide +kernel) rfl rfl (Ex_wx [] 9 oX9_refuse hw ?_)
  exact ⟨rfl, rfl, rfl, rfl⟩
theorem r_thrown (hw : WS lx ly g) : Mx mX9_thrown d 0 0 [vS 328] g I L (qV (some (vI (I 328 0))) g I L) := by
  refine Mx_in (by decide +kernel) rfl rfl (Ex_wx [] 9 oX9_thrown hw ?_)
  exact ⟨rfl, rfl, rfl, rfl⟩
theorem r_isName (hw : WS lx ly g) : Mx mX9_isName d 0 0 [vI x] g I L (lQ (nmP x) g I L) := by
  refine Mx_in (by decide +kernel) rfl rfl (Ex_wx [14, 4] 9 oX9_isName hw ?_)
  refine And.intro (fun c => ?_) (fun c => ?_)
  · refine Ex_wx [] 9 oX9_isName hw ?_
    exact ⟨Or.inl rfl, rfl, rfl, rfl, Or.inr ⟨rfl, fun q => absurd c (Int32.not_lt.mpr q.1)⟩⟩
  · refine Ex_wx [] 9 oX9_isName hw ?_
    refine And.intro (fun c2 => ?_) (fun c2 => ?_)
    · exact ⟨Or.inl rfl, rfl, rfl, rfl, Or.inr ⟨rfl, fun q => absurd q.2 (Int32.not_lt.mpr c2)⟩⟩
    · exact ⟨Or.inr rfl, rfl, rfl, rfl, Or.inl ⟨rfl, Int32.not_lt.mp c, Int32.not_le.mp c2⟩⟩
theorem r_isTerm (hw : WS lx ly g) (hc : I 328 1 = nI cnt) : Mx mX9_isTerm d 0 0 [vS 328, vI x] g I L (lQ (tmP cnt x) g I L) := by
  refine Mx_in (by decide +kernel) rfl rfl (Ex_wx [16, 4] 9 oX9_isTerm hw ?_)
  refine And.intro (fun c => ?_) (fun c => ?_)
  · refine Ex_wx [] 9 oX9_isTerm hw ?_
    exact ⟨Or.inl rfl, rfl, rfl, rfl, Or.inr ⟨rfl, fun q => absurd c (Int32.not_lt.mpr q.1)⟩⟩
  · refine Ex_wx [] 9 oX9_isTerm hw ?_
    refine And.intro (fun c2 => ?_) (fun c2 => ?_)
    · rw [hc] at c2
      exact ⟨Or.inl rfl, rfl, rfl, rfl, Or.inr ⟨rfl, fun q => absurd q.2 (Int32.not_lt.mpr c2)⟩⟩
    · rw [hc] at c2
      exact ⟨Or.inr rfl, rfl, rfl, rfl, Or.inl ⟨rfl, Int32.not_lt.mp c, Int32.not_le.mp c2⟩⟩
theorem r_above {i j a c : Nat} (hw : WS lx ly g) (hx : x = nI i) (hy : y = nI j) (hi : i < 80) (hj : j < 80) (ha : I 335 i = nI a) (hc : I 335 j = nI c) (ha3 : a ≤ 30) (hc3 : c ≤ 30) : Mx mX9_above d 0 0 [vS 328, vI x, vI y] g I L (qV (some (vI (nI (1 + max a c)))) g I L) := by
  subst hx hy
  have e1 : I 335 (nI i).toNatClampNeg = nI a := by rw [clN (by omega)]; exact ha
  have e2 : I 335 (nI j).toNatClampNeg = nI c := by rw [clN (by omega)]; exact hc
  refine Mx_in (by decide +kernel) rfl rfl (Ex_wx [] 9 oX9_above hw ?_)
  refine And.intro (inN hi (by omega)) (And.intro (inN hj (by omega)) ?_)
  refine And.intro (fun q => ?_) (fun q => ?_)
  · rw [e1, e2] at q
    have hq := leN q (by omega) (by omega)
    refine And.intro (inN hj (by omega)) ⟨?_, rfl, rfl, rfl⟩
    rw [e2, Nat.max_eq_right hq]
    exact congrArg (fun z : Int32 => (Sum.inl (some (vI z)) : aO)) (nI_add 1 c)
  · rw [e1, e2] at q
    have hq : ¬ a ≤ c := fun z => q (nI_le z (by omega))
    refine And.intro (inN hi (by omega)) ⟨?_, rfl, rfl, rfl⟩
    rw [e1, Nat.max_eq_left (by omega)]
    exact congrArg (fun z : Int32 => (Sum.inl (some (vI z)) : aO)) (nI_add 1 a)
theorem r_isFull (hw : WS lx ly g) (h : MR I hg nd cnt) (hx : tmP cnt x) (hy : tmP cnt y) (hd : 1 ≤ d) : Mx mX9_isFull d 0 0 [vS 328, vI x, vI y] g I L (lQ (¬ (cnt < 80 ∧ 1 + max (hg x.toNatClampNeg) (hg y.toNatClampNeg) ≤ 30)) g I L) := by
  obtain ⟨i, hi, rfl⟩ := hx.idx h.2.1
  obtain ⟨j, hj, rfl⟩ := hy.idx h.2.1
  have hc8 := h.2.1
  rw [clN (by omega), clN (by omega)]
  have h0 := (hw 328 _ rfl).2.1
  refine Mx_in (by decide +kernel) rfl rfl (Ex_wx [20, 9] 9 oX9_isFull hw ?_)
  refine And.intro (fun c => ?_) (fun c => ?_)
  · rw [h.1] at c
    have c1 : cnt = 80 := eqN (show nI cnt = nI 80 from c) (by omega) (by omega)
    refine Ex_wx [] 9 oX9_isFull hw ?_
    exact ⟨Or.inr rfl, rfl, rfl, rfl, Or.inl ⟨rfl, fun q => by omega⟩⟩
  · rw [h.1] at c
    have c1 : cnt < 80 := by
      rcases Nat.lt_or_ge cnt 80 with z | z
      · exact z
      · exact absurd (show nI cnt = nI 80 by rw [show cnt = 80 by omega]) c
    obtain ⟨a1, a2, -⟩ := h.2.2 i hi
    obtain ⟨b1, b2, -⟩ := h.2.2 j hj
    refine Ex_wx [] 9 oX9_isFull hw ?_
    refine Ex_v (As := [vI (nI i), vI (nI j)]) (st := []) (d' := 0) vX9_144 rfl rfl (r_above hw rfl rfl (by omega) (by omega) a1 b1 a2 b2) h0 hd rfl (dc_ok oX9_isFull rfl) ?_
    refine Ex_wx [] 9 oX9_isFull hw ?_
    refine And.intro (fun c2 => ?_) (fun c2 => ?_)
    · have c3 : 1 + max (hg i) (hg j) ≤ 30 := leN (show nI (1 + max (hg i) (hg j)) ≤ nI 30 from c2) (by omega) (by omega)
      exact ⟨Or.inl rfl, rfl, rfl, rfl, Or.inr ⟨rfl, fun q => q ⟨c1, c3⟩⟩⟩
    · exact ⟨Or.inr rfl, rfl, rfl, rfl, Or.inl ⟨rfl, fun q => c2 (show nI (1 + max (hg i) (hg j)) ≤ nI 30 from nI_le q.2 (by omega))⟩⟩
theorem r_made {k h : Nat} {u a c n nm nds : Int32} (hw : WS lx ly g) (hc : I 328 1 = nI cnt) (h8 : cnt < 80) (hu : u = nI k) (hk : k ≤ 14) (hnm : nm = 0 ∨ nm = 1) (hd : 1 ≤ d)
    (hh : (k ≤ 6 ∧ h = 1) ∨ (7 ≤ k ∧ ∃ i j p q, a = nI i ∧ (if 11 ≤ k then a else c) = nI j ∧ i < cnt ∧ j < cnt ∧ I 335 i = nI p ∧ I 335 j = nI q ∧ p ≤ 30 ∧ q ≤ 30 ∧ h = 1 + max p q)) :
    Mx mX9_made d 0 0 [vS 328, vI u, vI a, vI c, vI n, vI nm, vI nds] g I L (qV (some (vI (nI cnt))) g (mrI I cnt k a c n nm nds h) L) := by
  subst hu
  have h0 := (hw 328 _ rfl).2.1
  have st : ∀ J : aI, J 328 1 = nI cnt → vp_in (J 328 1) 80 ∧ (J 328 1).toNatClampNeg = cnt := fun J q => by rw [q]; exact ⟨inN h8 (by omega), clN (by omega)⟩
  have nx : ∀ (J : aI) (i : Nat) (v : Int32), i ≠ 328 → J 328 1 = nI cnt → up2 J i cnt v 328 1 = nI cnt := fun J i v hi q => (up2_i (fun e => hi e.symm)).trans q
  have q1 := nx I 329 (nI k) (by omega) hc
  have q2 := nx _ 330 a (by omega) q1
  have q3 := nx _ 331 c (by omega) q2
  have q4 := nx _ 332 n (by omega) q3
  have q5 := nx _ 333 nm (by omega) q4
  have q6 := nx _ 334 nds (by omega) q5
  have h103 : ∀ v, v = nI h → Ex mX9_made d 0 0 (qV (some (vI (nI cnt))) g (mrI I cnt k a c n nm nds h) L) 103 [some (vS 328), some (vI (nI k)), some (vI a), some (vI c), some (vI n), some (vI nm), some (vI nds)] [vI v, vI (nI cnt), vS 335] g (up2 (up2 (up2 (up2 (up2 (up2 I 329 cnt (nI k)) 330 cnt a) 331 cnt c) 332 cnt n) 333 cnt nm) 334 cnt nds) L := by
    rintro v rfl
    refine Ex_bn 1 oX9_made hw ?_
    refine And.intro (inN h8 (by omega)) ?_
    rw [clN (by omega)]
    have q7 := nx _ 335 (nI h) (by omega) q6
    refine Ex_wx [] 9 oX9_made hw ?_
    have e : (up2 (up2 (up2 (up2 (up2 (up2 (up2 I 329 cnt (nI k)) 330 cnt a) 331 cnt c) 332 cnt n) 333 cnt nm) 334 cnt nds) 335 cnt (nI h)) 328 1 + 1 = nI (cnt + 1) := by rw [q7, nI_succ]
    refine ⟨?_, rfl, ?_, rfl⟩
    · rw [up2_s, e, nI_pred]
    · rw [e]; rfl
  refine Mx_in (by decide +kernel) rfl rfl (Ex_bn 6 oX9_made hw ?_)
  refine And.intro (st _ hc).1 ?_
  rw [(st _ hc).2]
  refine Ex_bn 6 oX9_made hw ?_
  refine And.intro (st _ q1).1 ?_
  rw [(st _ q1).2]
  refine Ex_bn 6 oX9_made hw ?_
  refine And.intro (st _ q2).1 ?_
  rw [(st _ q2).2]
  refine Ex_bn 6 oX9_made hw ?_
  refine And.intro (st _ q3).1 ?_
  rw [(st _ q3).2]
  refine Ex_bn 6 oX9_made hw ?_
  refine And.intro ⟨(st _ q4).1, hnm⟩ ?_
  rw [(st _ q4).2]
  refine Ex_bn 6 oX9_made hw ?_
  refine And.intro (st _ q5).1 ?_
  rw [(st _ q5).2]
  refine Ex_bn 4 oX9_made hw ?_
  show Ex mX9_made d 0 0 _ 71 [some (vS 328), some (vI (nI k)), some (vI a), some (vI c), some (vI n), some (vI nm), some (vI nds)] [vI (up2 (up2 (up2 (up2 (up2 (up2 I 329 cnt (nI k)) 330 cnt a) 331 cnt c) 332 cnt n) 333 cnt nm) 334 cnt nds 328 1), vS 335] g _ L
  rw [q6]
  rcases hh with ⟨k6, rfl⟩ | ⟨k7, i, j, p, q, ea, eb, hi, hj, hp, hq, hp3, hq3, rfl⟩
  · refine Ex_wx [103, 81] 9 oX9_made hw ?_
    exact And.intro (fun z => absurd (show nI 6 < nI k from z) (nI_nlt (by omega) (by omega))) (fun _ => h103 1 rfl)
  · have h100 : ∀ v, v = nI j → Ex mX9_made d 0 0 (qV (some (vI (nI cnt))) g (mrI I cnt k a c n nm nds (1 + max p q)) L) 100 [some (vS 328), some (vI (nI k)), some (vI a), some (vI c), some (vI n), some (vI nm), some (vI nds)] [vI v, vI a, vS 328, vI (nI cnt), vS 335] g (up2 (up2 (up2 (up2 (up2 (up2 I 329 cnt (nI k)) 330 cnt a) 331 cnt c) 332 cnt n) 333 cnt nm) 334 cnt nds) L := by
      intro v hv
      have e35 : ∀ z, up2 (up2 (up2 (up2 (up2 (up2 I 329 cnt (nI k)) 330 cnt a) 331 cnt c) 332 cnt n) 333 cnt nm) 334 cnt nds 335 z = I 335 z := fun z => by rw [up2_i (by omega), up2_i (by omega), up2_i (by omega), up2_i (by omega), up2_i (by omega), up2_i (by omega)]
      refine Ex_v (As := [vI a, vI v]) (st := [vI (nI cnt), vS 335]) (d' := 0) vX9_144 rfl rfl (r_above hw ea hv (by omega) (by omega) ((e35 i).trans hp) ((e35 j).trans hq) hp3 hq3) h0 hd rfl (dc_ok oX9_made rfl) ?_
      exact h103 _ rfl
    refine Ex_wx [103, 81, 77] 9 oX9_made hw ?_
    refine And.intro (fun _ => ?_) (fun z => absurd (show nI 6 < nI k from nI_lt (by omega) (by omega)) z)
    refine Ex_wx [95, 89] 9 oX9_made hw ?_
    refine And.intro (fun z => ?_) (fun z => ?_)
    · have z1 : k = 11 := eqN (show nI k = nI 11 from z) (by omega) (by omega)
      rw [if_pos (by omega)] at eb
      refine Ex_wx [100] 9 oX9_made hw ?_
      exact h100 _ eb
    · refine Ex_wx [99, 95] 9 oX9_made hw ?_
      refine And.intro (fun z2 => ?_) (fun z2 => ?_)
      · have z3 : k < 12 := ltN (show nI k < nI 12 from z2) (by omega) (by omega)
        have z4 : k ≠ 11 := fun e => z (by rw [e]; rfl)
        rw [if_neg (by omega)] at eb
        refine Ex_bn 1 oX9_made hw ?_
        exact h100 _ eb
      · have z3 : ¬ k < 12 := fun e => z2 (show nI k < nI 12 from nI_lt e (by omega))
        rw [if_pos (by omega)] at eb
        refine Ex_wx [100] 9 oX9_made hw ?_
        exact h100 _ eb
end RMake
