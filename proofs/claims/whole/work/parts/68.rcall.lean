/-! the reference: its calls that make TERMS -/
def rmB (c1 c3 c2 : Int32) (C1 C3 C2 : Prop) (g : aG) (I : aI) (L : aL) (cnt k : Nat) (a c n nm nds : Int32) (h : Nat) : aQ := fun o g' I' L' => g' = g ∧ L' = L ∧
  ((o = .inl (some (vI (nI cnt))) ∧ ¬ C1 ∧ ¬ C3 ∧ ¬ C2 ∧ I' = mrI I cnt k a c n nm nds h) ∨ (o = .inl (some (vI 0)) ∧ ((C1 ∧ I' = up2 I 328 0 c1) ∨ (¬ C1 ∧ C3 ∧ I' = up2 I 328 0 c3) ∨ (¬ C1 ∧ ¬ C3 ∧ C2 ∧ I' = up2 I 328 0 c2))))
theorem rmB_v {c1 c3 c2 : Int32} {C1 C3 C2 : Prop} {g g' : aG} {I I' : aI} {L L' : aL} {cnt k h : Nat} {a c n nm nds : Int32} {v : Option aV} (q : rmB c1 c3 c2 C1 C3 C2 g I L cnt k a c n nm nds h (.inl v) g' I' L') : ∃ x, v = some (vI x) := by
  obtain ⟨-, -, ⟨e, -⟩ | ⟨e, -⟩⟩ := q <;> cases e <;> exact ⟨_, rfl⟩
theorem rmB_no {c1 c3 c2 : Int32} {C1 C3 C2 : Prop} {g g' : aG} {I I' : aI} {L L' : aL} {cnt k h : Nat} {a c n nm nds : Int32} {E : String} : ¬ rmB c1 c3 c2 C1 C3 C2 g I L cnt k a c n nm nds h (.inr E) g' I' L' := by
  rintro ⟨-, -, ⟨e, -⟩ | ⟨e, -⟩⟩ <;> cases e
section UseLS
variable {M N : aM} {d d' : Nat} {Q : aQ} {pc idx n : Nat} {own : String} {lo : List (Option aV)} {st As : List aV} {g : aG} {I : aI} {L : aL} {P : Prop}
theorem Ex_lS (ok : sOk own N idx n) (ho : M.y.cls = own) (hn : As.length = n) (hM : Mx N d' 0 0 As g I L (lQ P g I L)) (hd' : d' + 1 ≤ d) (hst : Nat.ble (catL st) 8 = true) (hd : decode M.cc pc = .ok (.invokestatic idx, 3))
    (kt : P → Ex M d 0 0 Q (pc + 3) lo (vI 1 :: st) g I L) (kf : ¬ P → Ex M d 0 0 Q (pc + 3) lo (vI 0 :: st) g I L) : Ex M d 0 0 Q pc lo (As.reverse ++ st) g I L := by
  refine Ex_cS (kc := 0) (ks := 0) (kc' := 0) (ks' := 0) ok ho hn hM hd' hst hd ?_ ?_
  · rintro _ _ _ _ ⟨rfl, rfl, rfl, ⟨e, h⟩ | ⟨e, h⟩⟩
    · cases e; exact kt h
    · cases e; exact kf h
  · rintro _ _ _ _ ⟨-, -, -, ⟨e, -⟩ | ⟨e, -⟩⟩ <;> cases e
end UseLS
section RCall
variable {lx ly : Nat} {g : aG} {I : aI} {L : aL} {d cnt k : Nat} {hg nd : Nat → Nat} {b x y z u nds : Int32}
theorem c80 (h8 : cnt ≤ 80) : (nI cnt = 80 ↔ ¬ (cnt < 80 ∧ 1 + max 0 0 ≤ 30)) := by
  constructor
  · intro c q
    have := eqN (show nI cnt = nI 80 from c) (by omega) (by omega)
    omega
  · intro q
    have : cnt = 80 := by
      rcases Nat.lt_or_ge cnt 80 with z | z
      · exact absurd ⟨z, by decide⟩ q
      · omega
    rw [this]; rfl
theorem r_operand (hw : WS lx ly g) (h : MR I hg nd cnt) (hu : u = nI k) (hk : k ≤ 6) (hb : b = 0 ∨ b = 1) (hd : 2 ≤ d) : Mx mX9_operand d 0 0 [vS 328, vI u, vI b, vI x, vI nds] g I L (rmB 1 0 2 (¬ (b = 0 ∨ nmP x)) False (¬ (cnt < 80 ∧ 1 + max 0 0 ≤ 30)) g I L cnt k x 0 0 b nds 1) := by
  have h0 := (hw 328 _ rfl).2.1
  have h17 : (b = 0 ∨ nmP x) → Ex mX9_operand d 0 0 (rmB 1 0 2 (¬ (b = 0 ∨ nmP x)) False (¬ (cnt < 80 ∧ 1 + max 0 0 ≤ 30)) g I L cnt k x 0 0 b nds 1) 17 [some (vS 328), some (vI u), some (vI b), some (vI x), some (vI nds)] [] g I L := by
    intro hq
    refine Ex_wx [34, 26] 9 oX9_operand hw ?_
    refine And.intro (fun c => ?_) (fun c => ?_)
    · rw [h.1] at c
      refine Ex_wx [] 9 oX9_operand hw ?_
      refine Ex_v (As := [vI 2]) (st := []) (d' := 0) vX9_152 rfl rfl (r_refuse hw) h0 (by omega) rfl (dc_ok oX9_operand rfl) ?_
      refine Ex_wx [] 9 oX9_operand hw ?_
      exact ⟨rfl, rfl, Or.inr ⟨rfl, Or.inr (Or.inr ⟨fun q => q hq, id, (c80 h.2.1).mp c, rfl⟩)⟩⟩
    · rw [h.1] at c
      have hc : cnt < 80 ∧ 1 + max 0 0 ≤ 30 := Decidable.of_not_not (fun q => c ((c80 h.2.1).mpr q))
      refine Ex_wx [] 9 oX9_operand hw ?_
      refine Ex_v (As := [vI u, vI x, vI 0, vI 0, vI b, vI nds]) (st := []) (d' := 1) vX9_156 rfl rfl (r_made (h := 1) hw h.1 hc.1 hu (by omega) hb (by omega) (Or.inl ⟨hk, rfl⟩)) h0 (by omega) rfl (dc_ok oX9_operand rfl) ?_
      refine Ex_wx [] 9 oX9_operand hw ?_
      exact ⟨rfl, rfl, Or.inl ⟨rfl, fun q => q hq, id, fun q => q hc, rfl⟩⟩
  refine Mx_in (by decide +kernel) rfl rfl (Ex_wx [17, 4] 9 oX9_operand hw ?_)
  refine And.intro (fun c => h17 (Or.inl c)) (fun c => ?_)
  refine Ex_wx [] 9 oX9_operand hw ?_
  refine Ex_lS (As := [vI x]) (st := []) (d' := 0) sX9_148 rfl rfl (r_isName hw) (by omega) rfl (dc_ok oX9_operand rfl) (fun hq => ?_) (fun hq => ?_)
  · refine Ex_wx [17, 11] 9 oX9_operand hw ?_
    exact And.intro (fun z => absurd z (by decide)) (fun _ => h17 (Or.inr hq))
  · refine Ex_wx [17, 11] 9 oX9_operand hw ?_
    refine And.intro (fun _ => ?_) (fun z => absurd rfl z)
    refine Ex_wx [] 9 oX9_operand hw ?_
    refine Ex_v (As := [vI 1]) (st := []) (d' := 0) vX9_152 rfl rfl (r_refuse hw) h0 (by omega) rfl (dc_ok oX9_operand rfl) ?_
    refine Ex_wx [] 9 oX9_operand hw ?_
    exact ⟨rfl, rfl, Or.inr ⟨rfl, Or.inl ⟨fun q => hq (q.resolve_left c), rfl⟩⟩⟩
theorem MR.fa (h : MR I hg nd cnt) (hx : tmP cnt x) : vp_in x 80 ∧ I 334 x.toNatClampNeg = nI (nd x.toNatClampNeg) ∧ nd x.toNatClampNeg < 16 ∧ hg x.toNatClampNeg ≤ 30 ∧ I 335 x.toNatClampNeg = nI (hg x.toNatClampNeg) ∧ x = nI x.toNatClampNeg ∧ x.toNatClampNeg < cnt := by
  obtain ⟨i, hi, rfl⟩ := hx.idx h.2.1
  have h8 := h.2.1
  obtain ⟨a1, a2, a3, a4⟩ := h.2.2 i hi
  rw [clN (by omega)]
  exact ⟨inN (by omega) (by omega), a3, a4, a2, a1, rfl, hi⟩
theorem r_three {m : Nat} {nm : Int32} (hw : WS lx ly g) (h : MR I hg nd cnt) (hu : u = nI k) (hk : 7 ≤ k ∧ k ≤ 10) (hm : nds = nI m) (hm2 : m < 16) (hd : 3 ≤ d) : Mx mX9_three d 0 0 [vS 328, vI u, vI x, vI nm, vI y, vI nds] g I L (rmB 1 0 2 (¬ (nmP nm ∧ tmP cnt x ∧ tmP cnt y)) False (¬ (cnt < 80 ∧ 1 + max (hg x.toNatClampNeg) (hg y.toNatClampNeg) ≤ 30)) g I L cnt k x y nm 0 (nI (m ||| nd x.toNatClampNeg ||| nd y.toNatClampNeg)) (1 + max (hg x.toNatClampNeg) (hg y.toNatClampNeg))) := by
  have h0 := (hw 328 _ rfl).2.1
  generalize hQ : rmB 1 0 2 (¬ (nmP nm ∧ tmP cnt x ∧ tmP cnt y)) False (¬ (cnt < 80 ∧ 1 + max (hg x.toNatClampNeg) (hg y.toNatClampNeg) ≤ 30)) g I L cnt k x y nm 0 (nI (m ||| nd x.toNatClampNeg ||| nd y.toNatClampNeg)) (1 + max (hg x.toNatClampNeg) (hg y.toNatClampNeg)) = Q
  have h24 : ¬ (nmP nm ∧ tmP cnt x ∧ tmP cnt y) → Ex mX9_three d 0 0 Q 24 [some (vS 328), some (vI u), some (vI x), some (vI nm), some (vI y), some (vI nds)] [] g I L := by
    intro hq
    refine Ex_wx [] 9 oX9_three hw ?_
    refine Ex_v (As := [vI 1]) (st := []) (d' := 0) vX9_152 rfl rfl (r_refuse hw) h0 (by omega) rfl (dc_ok oX9_three rfl) ?_
    refine Ex_wx [] 9 oX9_three hw ?_
    rw [← hQ]
    exact ⟨rfl, rfl, Or.inr ⟨rfl, Or.inl ⟨hq, rfl⟩⟩⟩
  refine Mx_in (by decide +kernel) rfl rfl (Ex_wx [] 9 oX9_three hw ?_)
  refine Ex_l (As := [vI x]) (st := []) (d' := 0) vX9_164 rfl rfl (r_isTerm hw h.1) h0 (by omega) rfl (dc_ok oX9_three rfl) (fun q1 => ?_) (fun q1 => ?_)
  rotate_left
  · refine Ex_wx [24, 8] 9 oX9_three hw ?_
    exact And.intro (fun _ => h24 (fun q => q1 q.2.1)) (fun z => absurd rfl z)
  refine Ex_wx [24, 8] 9 oX9_three hw ?_
  refine And.intro (fun z => absurd z (by decide)) (fun _ => ?_)
  refine Ex_wx [] 9 oX9_three hw ?_
  refine Ex_l (As := [vI y]) (st := []) (d' := 0) vX9_164 rfl rfl (r_isTerm hw h.1) h0 (by omega) rfl (dc_ok oX9_three rfl) (fun q2 => ?_) (fun q2 => ?_)
  rotate_left
  · refine Ex_wx [24, 17] 9 oX9_three hw ?_
    exact And.intro (fun _ => h24 (fun q => q2 q.2.2)) (fun z => absurd rfl z)
  refine Ex_wx [24, 17] 9 oX9_three hw ?_
  refine And.intro (fun z => absurd z (by decide)) (fun _ => ?_)
  refine Ex_wx [] 9 oX9_three hw ?_
  refine Ex_lS (As := [vI nm]) (st := []) (d' := 0) sX9_148 rfl rfl (r_isName hw) (by omega) rfl (dc_ok oX9_three rfl) (fun q3 => ?_) (fun q3 => ?_)
  rotate_left
  · refine Ex_wx [24, 30] 9 oX9_three hw ?_
    exact And.intro (fun _ => h24 (fun q => q3 q.1)) (fun z => absurd rfl z)
  refine Ex_wx [24, 30] 9 oX9_three hw ?_
  refine And.intro (fun z => absurd z (by decide)) (fun _ => ?_)
  refine Ex_wx [] 9 oX9_three hw ?_
  obtain ⟨i1, i2, i3, i4, i5, i6, i7⟩ := h.fa q1
  obtain ⟨j1, j2, j3, j4, j5, j6, j7⟩ := h.fa q2
  refine Ex_l (As := [vI x, vI y]) (st := []) (d' := 1) vX9_167 rfl rfl (r_isFull hw h q1 q2 (by omega)) h0 (by omega) rfl (dc_ok oX9_three rfl) (fun q4 => ?_) (fun q4 => ?_)
  · refine Ex_wx [48, 40] 9 oX9_three hw ?_
    refine And.intro (fun z => absurd z (by decide)) (fun _ => ?_)
    refine Ex_wx [] 9 oX9_three hw ?_
    refine Ex_v (As := [vI 2]) (st := []) (d' := 0) vX9_152 rfl rfl (r_refuse hw) h0 (by omega) rfl (dc_ok oX9_three rfl) ?_
    refine Ex_wx [] 9 oX9_three hw ?_
    rw [← hQ]
    exact ⟨rfl, rfl, Or.inr ⟨rfl, Or.inr (Or.inr ⟨fun q => q ⟨q3, q1, q2⟩, id, q4, rfl⟩)⟩⟩
  · refine Ex_wx [48, 40] 9 oX9_three hw ?_
    refine And.intro (fun _ => ?_) (fun z => absurd rfl z)
    have q5 := Decidable.of_not_not q4
    refine Ex_wx [] 9 oX9_three hw ?_
    refine And.intro i1 (And.intro j1 ?_)
    have en : nds ||| I 334 x.toNatClampNeg ||| I 334 y.toNatClampNeg = nI (m ||| nd x.toNatClampNeg ||| nd y.toNatClampNeg) := by
      rw [hm, i2, j2, or_nI16 _ hm2 _ i3, or_nI16 _ (or_lt16 _ hm2 _ i3) _ j3]
    have hX : Mx mX9_made 1 0 0 [vS 328, vI u, vI x, vI y, vI nm, vI 0, vI (nds ||| I 334 x.toNatClampNeg ||| I 334 y.toNatClampNeg)] g I L (qV (some (vI (nI cnt))) g (mrI I cnt k x y nm 0 (nI (m ||| nd x.toNatClampNeg ||| nd y.toNatClampNeg)) (1 + max (hg x.toNatClampNeg) (hg y.toNatClampNeg))) L) := by
      rw [en]
      exact r_made hw h.1 q5.1 hu (by omega) (Or.inl rfl) (by omega) (Or.inr ⟨hk.1, _, _, _, _, i6, by rw [if_neg (by omega)]; exact j6, i7, j7, i5, j5, i4, j4, rfl⟩)
    refine Ex_v (As := [vI u, vI x, vI y, vI nm, vI 0, vI (nds ||| I 334 x.toNatClampNeg ||| I 334 y.toNatClampNeg)]) (st := []) (d' := 1) vX9_156 rfl rfl hX h0 (by omega) rfl (dc_ok oX9_three rfl) ?_
    refine Ex_wx [] 9 oX9_three hw ?_
    rw [← hQ]
    exact ⟨rfl, rfl, Or.inl ⟨rfl, fun q => q ⟨q3, q1, q2⟩, id, fun q => q q5, rfl⟩⟩

theorem r_give (hw : WS lx ly g) (h : MR I hg nd cnt) (hb : b = 0 ∨ b = 1) (hd : 3 ≤ d) : Mx mX9_give d 0 0 [vS 328, vI b, vI x] g I L (rmB 1 0 2 (¬ (b = 0 ∨ nmP x)) False (¬ (cnt < 80 ∧ 1 + max 0 0 ≤ 30)) g (up2 I 328 0 0) L cnt 0 x 0 0 b 0 1) := by
  have h0 := (hw 328 _ rfl).2.1
  refine Mx_in (by decide +kernel) rfl rfl (Ex_wx [] 9 oX9_give hw ?_)
  exact Ex_fw (As := [vI 0, vI b, vI x, vI 0]) (d' := 2) vX9_160 rfl rfl (r_operand (k := 0) hw h.thr rfl (by omega) hb (by omega)) h0 hd (dc_ok oX9_give rfl) (dc_ok oX9_give rfl) rfl rfl (fun _ _ _ _ => rmB_v)
theorem r_write (hw : WS lx ly g) (h : MR I hg nd cnt) (hb : b = 0 ∨ b = 1) (hd : 3 ≤ d) : Mx mX9_write d 0 0 [vS 328, vI b, vI x] g I L (rmB 1 0 2 (¬ (b = 0 ∨ nmP x)) False (¬ (cnt < 80 ∧ 1 + max 0 0 ≤ 30)) g (up2 I 328 0 0) L cnt 3 x 0 0 b 1 1) := by
  have h0 := (hw 328 _ rfl).2.1
  refine Mx_in (by decide +kernel) rfl rfl (Ex_wx [] 9 oX9_write hw ?_)
  exact Ex_fw (As := [vI 3, vI b, vI x, vI 1]) (d' := 2) vX9_160 rfl rfl (r_operand (k := 3) hw h.thr rfl (by omega) hb (by omega)) h0 hd (dc_ok oX9_write rfl) (dc_ok oX9_write rfl) rfl rfl (fun _ _ _ _ => rmB_v)
theorem r_say (hw : WS lx ly g) (h : MR I hg nd cnt) (hb : b = 0 ∨ b = 1) (hd : 3 ≤ d) : Mx mX9_say d 0 0 [vS 328, vI b, vI x] g I L (rmB 1 0 2 (¬ (b = 0 ∨ nmP x)) False (¬ (cnt < 80 ∧ 1 + max 0 0 ≤ 30)) g (up2 I 328 0 0) L cnt 4 x 0 0 b 2 1) := by
  have h0 := (hw 328 _ rfl).2.1
  refine Mx_in (by decide +kernel) rfl rfl (Ex_wx [] 9 oX9_say hw ?_)
  exact Ex_fw (As := [vI 4, vI b, vI x, vI 2]) (d' := 2) vX9_160 rfl rfl (r_operand (k := 4) hw h.thr rfl (by omega) hb (by omega)) h0 hd (dc_ok oX9_say rfl) (dc_ok oX9_say rfl) rfl rfl (fun _ _ _ _ => rmB_v)
theorem r_fail (hw : WS lx ly g) (h : MR I hg nd cnt) (hb : b = 0 ∨ b = 1) (hd : 3 ≤ d) : Mx mX9_fail d 0 0 [vS 328, vI b, vI x] g I L (rmB 1 0 2 (¬ (b = 0 ∨ nmP x)) False (¬ (cnt < 80 ∧ 1 + max 0 0 ≤ 30)) g (up2 I 328 0 0) L cnt 5 x 0 0 b 4 1) := by
  have h0 := (hw 328 _ rfl).2.1
  refine Mx_in (by decide +kernel) rfl rfl (Ex_wx [] 9 oX9_fail hw ?_)
  exact Ex_fw (As := [vI 5, vI b, vI x, vI 4]) (d' := 2) vX9_160 rfl rfl (r_operand (k := 5) hw h.thr rfl (by omega) hb (by omega)) h0 hd (dc_ok oX9_fail rfl) (dc_ok oX9_fail rfl) rfl rfl (fun _ _ _ _ => rmB_v)
theorem r_read (hw : WS lx ly g) (h : MR I hg nd cnt) (hd : 2 ≤ d) : Mx mX9_read d 0 0 [vS 328] g I L (rmB 0 0 1 (¬ ((0 : Int32) = 0 ∨ nmP 0)) False (¬ (cnt < 80 ∧ 1 + max 0 0 ≤ 30)) g (up2 I 328 0 0) L cnt 2 0 0 0 0 1 1) := by
  have h0 := (hw 328 _ rfl).2.1
  have h1 := h.thr (v := 0)
  refine Mx_in (by decide +kernel) rfl rfl (Ex_wx [22, 14] 9 oX9_read hw ?_)
  refine And.intro (fun c => ?_) (fun c => ?_)
  · rw [h1.1] at c
    refine Ex_wx [] 9 oX9_read hw ?_
    refine Ex_v (As := [vI 1]) (st := []) (d' := 0) vX9_152 rfl rfl (r_refuse hw) h0 (by omega) rfl (dc_ok oX9_read rfl) ?_
    refine Ex_wx [] 9 oX9_read hw ?_
    exact ⟨rfl, rfl, Or.inr ⟨rfl, Or.inr (Or.inr ⟨fun q => q (Or.inl rfl), id, (c80 h.2.1).mp c, rfl⟩)⟩⟩
  · rw [h1.1] at c
    have hc : cnt < 80 ∧ 1 + max 0 0 ≤ 30 := Decidable.of_not_not (fun q => c ((c80 h.2.1).mpr q))
    refine Ex_wx [] 9 oX9_read hw ?_
    refine Ex_v (As := [vI 2, vI 0, vI 0, vI 0, vI 0, vI 1]) (st := []) (d' := 1) vX9_156 rfl rfl (r_made (k := 2) (h := 1) hw h1.1 hc.1 rfl (by omega) (Or.inl rfl) (by omega) (Or.inl ⟨by omega, rfl⟩)) h0 (by omega) rfl (dc_ok oX9_read rfl) ?_
    refine Ex_wx [] 9 oX9_read hw ?_
    exact ⟨rfl, rfl, Or.inl ⟨rfl, fun q => q (Or.inl rfl), id, fun q => q hc, rfl⟩⟩
theorem r_none (hw : WS lx ly g) (h : MR I hg nd cnt) (hd : 2 ≤ d) : Mx mX9_none d 0 0 [vS 328] g I L (rmB 0 0 1 (¬ ((0 : Int32) = 0 ∨ nmP 0)) False (¬ (cnt < 80 ∧ 1 + max 0 0 ≤ 30)) g (up2 I 328 0 0) L cnt 6 0 0 0 0 8 1) := by
  have h0 := (hw 328 _ rfl).2.1
  have h1 := h.thr (v := 0)
  refine Mx_in (by decide +kernel) rfl rfl (Ex_wx [22, 14] 9 oX9_none hw ?_)
  refine And.intro (fun c => ?_) (fun c => ?_)
  · rw [h1.1] at c
    refine Ex_wx [] 9 oX9_none hw ?_
    refine Ex_v (As := [vI 1]) (st := []) (d' := 0) vX9_152 rfl rfl (r_refuse hw) h0 (by omega) rfl (dc_ok oX9_none rfl) ?_
    refine Ex_wx [] 9 oX9_none hw ?_
    exact ⟨rfl, rfl, Or.inr ⟨rfl, Or.inr (Or.inr ⟨fun q => q (Or.inl rfl), id, (c80 h.2.1).mp c, rfl⟩)⟩⟩
  · rw [h1.1] at c
    have hc : cnt < 80 ∧ 1 + max 0 0 ≤ 30 := Decidable.of_not_not (fun q => c ((c80 h.2.1).mpr q))
    refine Ex_wx [] 9 oX9_none hw ?_
    refine Ex_v (As := [vI 6, vI 0, vI 0, vI 0, vI 0, vI 8]) (st := []) (d' := 1) vX9_156 rfl rfl (r_made (k := 6) (h := 1) hw h1.1 hc.1 rfl (by omega) (Or.inl rfl) (by omega) (Or.inl ⟨by omega, rfl⟩)) h0 (by omega) rfl (dc_ok oX9_none rfl) ?_
    refine Ex_wx [] 9 oX9_none hw ?_
    exact ⟨rfl, rfl, Or.inl ⟨rfl, fun q => q (Or.inl rfl), id, fun q => q hc, rfl⟩⟩
theorem r_of (hw : WS lx ly g) (h : MR I hg nd cnt) (hd : 2 ≤ d) : Mx mX9_of d 0 0 [vS 328, vI x, vI y, vI z] g I L (rmB 1 2 3 (¬ (nmP x ∧ nmP y)) (¬ (0 ≤ z ∧ z < 5)) (¬ (cnt < 80 ∧ 1 + max 0 0 ≤ 30)) g (up2 I 328 0 0) L cnt 1 x y z 0 0 1) := by
  have h0 := (hw 328 _ rfl).2.1
  have h1 := h.thr (v := 0)
  generalize hQ : rmB 1 2 3 (¬ (nmP x ∧ nmP y)) (¬ (0 ≤ z ∧ z < 5)) (¬ (cnt < 80 ∧ 1 + max 0 0 ≤ 30)) g (up2 I 328 0 0) L cnt 1 x y z 0 0 1 = Q
  have h19 : ¬ (nmP x ∧ nmP y) → Ex mX9_of d 0 0 Q 19 [some (vS 328), some (vI x), some (vI y), some (vI z)] [] g (up2 I 328 0 0) L := by
    intro hq
    refine Ex_wx [] 9 oX9_of hw ?_
    refine Ex_v (As := [vI 1]) (st := []) (d' := 0) vX9_152 rfl rfl (r_refuse hw) h0 (by omega) rfl (dc_ok oX9_of rfl) ?_
    refine Ex_wx [] 9 oX9_of hw ?_
    rw [← hQ]
    exact ⟨rfl, rfl, Or.inr ⟨rfl, Or.inl ⟨hq, rfl⟩⟩⟩
  refine Mx_in (by decide +kernel) rfl rfl (Ex_wx [] 9 oX9_of hw ?_)
  refine Ex_lS (As := [vI x]) (st := []) (d' := 0) sX9_148 rfl rfl (r_isName hw) (by omega) rfl (dc_ok oX9_of rfl) (fun q1 => ?_) (fun q1 => ?_)
  rotate_left
  · refine Ex_wx [19, 12] 9 oX9_of hw ?_
    exact And.intro (fun _ => h19 (fun q => q1 q.1)) (fun z => absurd rfl z)
  refine Ex_wx [19, 12] 9 oX9_of hw ?_
  refine And.intro (fun z => absurd z (by decide)) (fun _ => ?_)
  refine Ex_wx [] 9 oX9_of hw ?_
  refine Ex_lS (As := [vI y]) (st := []) (d' := 0) sX9_148 rfl rfl (r_isName hw) (by omega) rfl (dc_ok oX9_of rfl) (fun q2 => ?_) (fun q2 => ?_)
  rotate_left
  · refine Ex_wx [19, 25] 9 oX9_of hw ?_
    exact And.intro (fun _ => h19 (fun q => q2 q.2)) (fun z => absurd rfl z)
  refine Ex_wx [19, 25] 9 oX9_of hw ?_
  refine And.intro (fun z => absurd z (by decide)) (fun _ => ?_)
  have h34 : ¬ (0 ≤ z ∧ z < 5) → Ex mX9_of d 0 0 Q 34 [some (vS 328), some (vI x), some (vI y), some (vI z)] [] g (up2 I 328 0 0) L := by
    intro hq
    refine Ex_wx [] 9 oX9_of hw ?_
    refine Ex_v (As := [vI 2]) (st := []) (d' := 0) vX9_152 rfl rfl (r_refuse hw) h0 (by omega) rfl (dc_ok oX9_of rfl) ?_
    refine Ex_wx [] 9 oX9_of hw ?_
    rw [← hQ]
    exact ⟨rfl, rfl, Or.inr ⟨rfl, Or.inr (Or.inl ⟨fun q => q ⟨q1, q2⟩, hq, rfl⟩)⟩⟩
  refine Ex_wx [34, 29] 9 oX9_of hw ?_
  refine And.intro (fun c => h34 (fun q => absurd c (Int32.not_lt.mpr q.1))) (fun c0 => ?_)
  refine Ex_wx [34, 40] 9 oX9_of hw ?_
  have le5 : z ≤ 4 ↔ z < 5 := by rw [Int32.le_iff_toInt_le, Int32.lt_iff_toInt_lt]; show z.toInt ≤ 4 ↔ z.toInt < 5; omega
  refine And.intro (fun c4 => ?_) (fun c => h34 (fun q => c (le5.mpr q.2)))
  have hz : 0 ≤ z ∧ z < 5 := ⟨Int32.not_lt.mp c0, le5.mp c4⟩
  refine Ex_wx [57, 49] 9 oX9_of hw ?_
  refine And.intro (fun c => ?_) (fun c => ?_)
  · rw [h1.1] at c
    refine Ex_wx [] 9 oX9_of hw ?_
    refine Ex_v (As := [vI 3]) (st := []) (d' := 0) vX9_152 rfl rfl (r_refuse hw) h0 (by omega) rfl (dc_ok oX9_of rfl) ?_
    refine Ex_wx [] 9 oX9_of hw ?_
    rw [← hQ]
    exact ⟨rfl, rfl, Or.inr ⟨rfl, Or.inr (Or.inr ⟨fun q => q ⟨q1, q2⟩, fun q => q hz, (c80 h.2.1).mp c, rfl⟩)⟩⟩
  · rw [h1.1] at c
    have hc : cnt < 80 ∧ 1 + max 0 0 ≤ 30 := Decidable.of_not_not (fun q => c ((c80 h.2.1).mpr q))
    refine Ex_wx [] 9 oX9_of hw ?_
    refine Ex_v (As := [vI 1, vI x, vI y, vI z, vI 0, vI 0]) (st := []) (d' := 1) vX9_156 rfl rfl (r_made (k := 1) (h := 1) hw h1.1 hc.1 rfl (by omega) (Or.inl rfl) (by omega) (Or.inl ⟨by omega, rfl⟩)) h0 (by omega) rfl (dc_ok oX9_of rfl) ?_
    refine Ex_wx [] 9 oX9_of hw ?_
    rw [← hQ]
    exact ⟨rfl, rfl, Or.inl ⟨rfl, fun q => q ⟨q1, q2⟩, fun q => q hz, fun q => q hc, rfl⟩⟩
theorem r_either (hw : WS lx ly g) (h : MR I hg nd cnt) (hd : 3 ≤ d) : Mx mX9_either d 0 0 [vS 328, vI x, vI y] g I L (rmB 1 0 2 (¬ (tmP cnt x ∧ tmP cnt y)) False (¬ (cnt < 80 ∧ 1 + max (hg x.toNatClampNeg) (hg y.toNatClampNeg) ≤ 30)) g (up2 I 328 0 0) L cnt 7 x y 0 0 (nI (8 ||| nd x.toNatClampNeg ||| nd y.toNatClampNeg)) (1 + max (hg x.toNatClampNeg) (hg y.toNatClampNeg))) := by
  have h0 := (hw 328 _ rfl).2.1
  have h1 := h.thr (v := 0)
  generalize hQ : rmB 1 0 2 (¬ (tmP cnt x ∧ tmP cnt y)) False (¬ (cnt < 80 ∧ 1 + max (hg x.toNatClampNeg) (hg y.toNatClampNeg) ≤ 30)) g (up2 I 328 0 0) L cnt 7 x y 0 0 (nI (8 ||| nd x.toNatClampNeg ||| nd y.toNatClampNeg)) (1 + max (hg x.toNatClampNeg) (hg y.toNatClampNeg)) = Q
  generalize hJ : up2 I 328 0 0 = J at hQ h1
  have h21 : ¬ (tmP cnt x ∧ tmP cnt y) → Ex mX9_either d 0 0 Q 21 [some (vS 328), some (vI x), some (vI y)] [] g J L := by
    intro hq
    refine Ex_wx [] 9 oX9_either hw ?_
    refine Ex_v (As := [vI 1]) (st := []) (d' := 0) vX9_152 rfl rfl (r_refuse hw) h0 (by omega) rfl (dc_ok oX9_either rfl) ?_
    refine Ex_wx [] 9 oX9_either hw ?_
    rw [← hQ]
    exact ⟨rfl, rfl, Or.inr ⟨rfl, Or.inl ⟨hq, rfl⟩⟩⟩
  refine Mx_in (by decide +kernel) rfl rfl (Ex_bn 5 oX9_either hw ?_)
  show Ex mX9_either d 0 0 Q 7 [some (vS 328), some (vI x), some (vI y)] [vI x, vS 328] g (up2 I 328 0 0) L
  rw [hJ]
  refine Ex_l (As := [vI x]) (st := []) (d' := 0) vX9_164 rfl rfl (r_isTerm hw h1.1) h0 (by omega) rfl (dc_ok oX9_either rfl) (fun q1 => ?_) (fun q1 => ?_)
  rotate_left
  · refine Ex_wx [21, 13] 9 oX9_either hw ?_
    exact And.intro (fun _ => h21 (fun q => q1 q.1)) (fun z => absurd rfl z)
  refine Ex_wx [21, 13] 9 oX9_either hw ?_
  refine And.intro (fun z => absurd z (by decide)) (fun _ => ?_)
  refine Ex_wx [] 9 oX9_either hw ?_
  refine Ex_l (As := [vI y]) (st := []) (d' := 0) vX9_164 rfl rfl (r_isTerm hw h1.1) h0 (by omega) rfl (dc_ok oX9_either rfl) (fun q2 => ?_) (fun q2 => ?_)
  rotate_left
  · refine Ex_wx [21, 27] 9 oX9_either hw ?_
    exact And.intro (fun _ => h21 (fun q => q2 q.2)) (fun z => absurd rfl z)
  refine Ex_wx [21, 27] 9 oX9_either hw ?_
  refine And.intro (fun z => absurd z (by decide)) (fun _ => ?_)
  refine Ex_wx [] 9 oX9_either hw ?_
  obtain ⟨i1, i2, i3, i4, i5, i6, i7⟩ := h1.fa q1
  obtain ⟨j1, j2, j3, j4, j5, j6, j7⟩ := h1.fa q2
  refine Ex_l (As := [vI x, vI y]) (st := []) (d' := 1) vX9_167 rfl rfl (r_isFull hw h1 q1 q2 (by omega)) h0 (by omega) rfl (dc_ok oX9_either rfl) (fun q4 => ?_) (fun q4 => ?_)
  · refine Ex_wx [44, 36] 9 oX9_either hw ?_
    refine And.intro (fun z => absurd z (by decide)) (fun _ => ?_)
    refine Ex_wx [] 9 oX9_either hw ?_
    refine Ex_v (As := [vI 2]) (st := []) (d' := 0) vX9_152 rfl rfl (r_refuse hw) h0 (by omega) rfl (dc_ok oX9_either rfl) ?_
    refine Ex_wx [] 9 oX9_either hw ?_
    rw [← hQ]
    exact ⟨rfl, rfl, Or.inr ⟨rfl, Or.inr (Or.inr ⟨fun q => q ⟨q1, q2⟩, id, q4, rfl⟩)⟩⟩
  · refine Ex_wx [44, 36] 9 oX9_either hw ?_
    refine And.intro (fun _ => ?_) (fun z => absurd rfl z)
    have q5 := Decidable.of_not_not q4
    refine Ex_wx [] 9 oX9_either hw ?_
    refine And.intro i1 (And.intro j1 ?_)
    have en : (8 : Int32) ||| J 334 x.toNatClampNeg ||| J 334 y.toNatClampNeg = nI (8 ||| nd x.toNatClampNeg ||| nd y.toNatClampNeg) := by
      rw [show (8 : Int32) = nI 8 from rfl, i2, j2, or_nI16 _ (by omega) _ i3, or_nI16 _ (or_lt16 _ (by omega) _ i3) _ j3]
    have hX : Mx mX9_made 1 0 0 [vS 328, vI 7, vI x, vI y, vI 0, vI 0, vI (8 ||| J 334 x.toNatClampNeg ||| J 334 y.toNatClampNeg)] g J L (qV (some (vI (nI cnt))) g (mrI J cnt 7 x y 0 0 (nI (8 ||| nd x.toNatClampNeg ||| nd y.toNatClampNeg)) (1 + max (hg x.toNatClampNeg) (hg y.toNatClampNeg))) L) := by
      rw [en]
      exact r_made hw h1.1 q5.1 rfl (by omega) (Or.inl rfl) (by omega) (Or.inr ⟨by omega, _, _, _, _, i6, by rw [if_neg (by omega)]; exact j6, i7, j7, i5, j5, i4, j4, rfl⟩)
    refine Ex_v (As := [vI 7, vI x, vI y, vI 0, vI 0, vI (8 ||| J 334 x.toNatClampNeg ||| J 334 y.toNatClampNeg)]) (st := []) (d' := 1) vX9_156 rfl rfl hX h0 (by omega) rfl (dc_ok oX9_either rfl) ?_
    refine Ex_wx [] 9 oX9_either hw ?_
    rw [← hQ]
    exact ⟨rfl, rfl, Or.inl ⟨rfl, fun q => q ⟨q1, q2⟩, id, fun q => q q5, rfl⟩⟩
theorem r_then (hw : WS lx ly g) (h : MR I hg nd cnt) (hd : 4 ≤ d) : Mx mX9_then d 0 0 [vS 328, vI x, vI y, vI z] g I L (rmB 1 0 2 (¬ (nmP y ∧ tmP cnt x ∧ tmP cnt z)) False (¬ (cnt < 80 ∧ 1 + max (hg x.toNatClampNeg) (hg z.toNatClampNeg) ≤ 30)) g (up2 I 328 0 0) L cnt 8 x z y 0 (nI (0 ||| nd x.toNatClampNeg ||| nd z.toNatClampNeg)) (1 + max (hg x.toNatClampNeg) (hg z.toNatClampNeg))) := by
  have h0 := (hw 328 _ rfl).2.1
  refine Mx_in (by decide +kernel) rfl rfl (Ex_wx [] 9 oX9_then hw ?_)
  exact Ex_fw (As := [vI 8, vI x, vI y, vI z, vI 0]) (d' := 3) vX9_171 rfl rfl (r_three (k := 8) (m := 0) hw h.thr rfl (by omega) rfl (by omega) (by omega)) h0 hd (dc_ok oX9_then rfl) (dc_ok oX9_then rfl) rfl rfl (fun _ _ _ _ => rmB_v)
theorem r_saved (hw : WS lx ly g) (h : MR I hg nd cnt) (hd : 4 ≤ d) : Mx mX9_saved d 0 0 [vS 328, vI x, vI y, vI z] g I L (rmB 1 0 2 (¬ (nmP y ∧ tmP cnt x ∧ tmP cnt z)) False (¬ (cnt < 80 ∧ 1 + max (hg x.toNatClampNeg) (hg z.toNatClampNeg) ≤ 30)) g (up2 I 328 0 0) L cnt 9 x z y 0 (nI (4 ||| nd x.toNatClampNeg ||| nd z.toNatClampNeg)) (1 + max (hg x.toNatClampNeg) (hg z.toNatClampNeg))) := by
  have h0 := (hw 328 _ rfl).2.1
  refine Mx_in (by decide +kernel) rfl rfl (Ex_wx [] 9 oX9_saved hw ?_)
  exact Ex_fw (As := [vI 9, vI x, vI y, vI z, vI 4]) (d' := 3) vX9_171 rfl rfl (r_three (k := 9) (m := 4) hw h.thr rfl (by omega) rfl (by omega) (by omega)) h0 hd (dc_ok oX9_saved rfl) (dc_ok oX9_saved rfl) rfl rfl (fun _ _ _ _ => rmB_v)
theorem r_when (hw : WS lx ly g) (h : MR I hg nd cnt) (hd : 4 ≤ d) : Mx mX9_when d 0 0 [vS 328, vI x, vI y, vI z] g I L (rmB 1 0 2 (¬ (nmP x ∧ tmP cnt y ∧ tmP cnt z)) False (¬ (cnt < 80 ∧ 1 + max (hg y.toNatClampNeg) (hg z.toNatClampNeg) ≤ 30)) g (up2 I 328 0 0) L cnt 10 y z x 0 (nI (0 ||| nd y.toNatClampNeg ||| nd z.toNatClampNeg)) (1 + max (hg y.toNatClampNeg) (hg z.toNatClampNeg))) := by
  have h0 := (hw 328 _ rfl).2.1
  refine Mx_in (by decide +kernel) rfl rfl (Ex_wx [] 9 oX9_when hw ?_)
  exact Ex_fw (As := [vI 10, vI y, vI x, vI z, vI 0]) (d' := 3) vX9_171 rfl rfl (r_three (k := 10) (m := 0) hw h.thr rfl (by omega) rfl (by omega) (by omega)) h0 hd (dc_ok oX9_when rfl) (dc_ok oX9_when rfl) rfl rfl (fun _ _ _ _ => rmB_v)
theorem r_times (hw : WS lx ly g) (h : MR I hg nd cnt) (hb : b = 0 ∨ b = 1) (hd : 3 ≤ d) : Mx mX9_times d 0 0 [vS 328, vI b, vI x, vI y] g I L (rmB 1 0 2 (¬ ((b = 0 ∨ nmP x) ∧ tmP cnt y)) False (¬ (cnt < 80 ∧ 1 + max (hg y.toNatClampNeg) 0 ≤ 30)) g (up2 I 328 0 0) L cnt 11 y x 0 b (nI (nd y.toNatClampNeg)) (1 + max (hg y.toNatClampNeg) 0)) := by
  have h0 := (hw 328 _ rfl).2.1
  have h1 := h.thr (v := 0)
  have em : max (hg y.toNatClampNeg) (hg y.toNatClampNeg) = max (hg y.toNatClampNeg) 0 := by rw [Nat.max_self, Nat.max_zero]
  generalize hQ : rmB 1 0 2 (¬ ((b = 0 ∨ nmP x) ∧ tmP cnt y)) False (¬ (cnt < 80 ∧ 1 + max (hg y.toNatClampNeg) 0 ≤ 30)) g (up2 I 328 0 0) L cnt 11 y x 0 b (nI (nd y.toNatClampNeg)) (1 + max (hg y.toNatClampNeg) 0) = Q
  generalize hJ : up2 I 328 0 0 = J at hQ h1
  have h24 : ¬ ((b = 0 ∨ nmP x) ∧ tmP cnt y) → Ex mX9_times d 0 0 Q 24 [some (vS 328), some (vI b), some (vI x), some (vI y)] [] g J L := by
    intro hq
    refine Ex_wx [] 9 oX9_times hw ?_
    refine Ex_v (As := [vI 1]) (st := []) (d' := 0) vX9_152 rfl rfl (r_refuse hw) h0 (by omega) rfl (dc_ok oX9_times rfl) ?_
    refine Ex_wx [] 9 oX9_times hw ?_
    rw [← hQ]
    exact ⟨rfl, rfl, Or.inr ⟨rfl, Or.inl ⟨hq, rfl⟩⟩⟩
  refine Mx_in (by decide +kernel) rfl rfl (Ex_bn 5 oX9_times hw ?_)
  show Ex mX9_times d 0 0 Q 7 [some (vS 328), some (vI b), some (vI x), some (vI y)] [vI y, vS 328] g (up2 I 328 0 0) L
  rw [hJ]
  refine Ex_l (As := [vI y]) (st := []) (d' := 0) vX9_164 rfl rfl (r_isTerm hw h1.1) h0 (by omega) rfl (dc_ok oX9_times rfl) (fun q1 => ?_) (fun q1 => ?_)
  rotate_left
  · refine Ex_wx [24, 13] 9 oX9_times hw ?_
    exact And.intro (fun _ => h24 (fun q => q1 q.2)) (fun z => absurd rfl z)
  obtain ⟨i1, i2, i3, i4, i5, i6, i7⟩ := h1.fa q1
  have h30 : (b = 0 ∨ nmP x) → Ex mX9_times d 0 0 Q 30 [some (vS 328), some (vI b), some (vI x), some (vI y)] [] g J L := by
    intro q0
    refine Ex_wx [] 9 oX9_times hw ?_
    refine Ex_l (As := [vI y, vI y]) (st := []) (d' := 1) vX9_167 rfl rfl (r_isFull hw h1 q1 q1 (by omega)) h0 (by omega) rfl (dc_ok oX9_times rfl) (fun q4 => ?_) (fun q4 => ?_)
    · rw [em] at q4
      refine Ex_wx [47, 39] 9 oX9_times hw ?_
      refine And.intro (fun z => absurd z (by decide)) (fun _ => ?_)
      refine Ex_wx [] 9 oX9_times hw ?_
      refine Ex_v (As := [vI 2]) (st := []) (d' := 0) vX9_152 rfl rfl (r_refuse hw) h0 (by omega) rfl (dc_ok oX9_times rfl) ?_
      refine Ex_wx [] 9 oX9_times hw ?_
      rw [← hQ]
      exact ⟨rfl, rfl, Or.inr ⟨rfl, Or.inr (Or.inr ⟨fun q => q ⟨q0, q1⟩, id, q4, rfl⟩)⟩⟩
    · rw [em] at q4
      refine Ex_wx [47, 39] 9 oX9_times hw ?_
      refine And.intro (fun _ => ?_) (fun z => absurd rfl z)
      have q5 := Decidable.of_not_not q4
      refine Ex_wx [] 9 oX9_times hw ?_
      refine And.intro i1 ?_
      have hX : Mx mX9_made 1 0 0 [vS 328, vI 11, vI y, vI x, vI 0, vI b, vI (J 334 y.toNatClampNeg)] g J L (qV (some (vI (nI cnt))) g (mrI J cnt 11 y x 0 b (nI (nd y.toNatClampNeg)) (1 + max (hg y.toNatClampNeg) 0)) L) := by
        rw [i2]
        exact r_made hw h1.1 q5.1 rfl (by omega) hb (by omega) (Or.inr ⟨by omega, _, _, _, _, i6, by rw [if_pos (by omega)]; exact i6, i7, i7, i5, i5, i4, i4, by rw [em]⟩)
      refine Ex_v (As := [vI 11, vI y, vI x, vI 0, vI b, vI (J 334 y.toNatClampNeg)]) (st := []) (d' := 1) vX9_156 rfl rfl hX h0 (by omega) rfl (dc_ok oX9_times rfl) ?_
      refine Ex_wx [] 9 oX9_times hw ?_
      rw [← hQ]
      exact ⟨rfl, rfl, Or.inl ⟨rfl, fun q => q ⟨q0, q1⟩, id, fun q => q q5, rfl⟩⟩
  refine Ex_wx [24, 13] 9 oX9_times hw ?_
  refine And.intro (fun z => absurd z (by decide)) (fun _ => ?_)
  refine Ex_wx [30, 17] 9 oX9_times hw ?_
  refine And.intro (fun c => h30 (Or.inl c)) (fun c => ?_)
  refine Ex_wx [] 9 oX9_times hw ?_
  refine Ex_lS (As := [vI x]) (st := []) (d' := 0) sX9_148 rfl rfl (r_isName hw) (by omega) rfl (dc_ok oX9_times rfl) (fun q2 => ?_) (fun q2 => ?_)
  · refine Ex_wx [30, 24] 9 oX9_times hw ?_
    exact And.intro (fun z => absurd z (by decide)) (fun _ => h30 (Or.inr q2))
  · refine Ex_wx [30, 24] 9 oX9_times hw ?_
    exact And.intro (fun _ => h24 (fun q => q2 (q.1.resolve_left c))) (fun z => absurd rfl z)
theorem as_nd : ∀ j, j < 3 → ∀ n, n < 16 → nI n ||| (if nI j = 0 then 8 else 2) = nI (kbN (11 + j) ||| n ||| 0) := by decide +kernel
theorem r_as (hw : WS lx ly g) (h : MR I hg nd cnt) (hd : 3 ≤ d) : Mx mX9_as d 0 0 [vS 328, vI z, vI y] g I L (rmB 1 2 3 (¬ tmP cnt y) (¬ (0 ≤ z ∧ z < 3)) (¬ (cnt < 80 ∧ 1 + max (hg y.toNatClampNeg) 0 ≤ 30)) g (up2 I 328 0 0) L cnt (12 + z.toNatClampNeg) y 0 0 0 (nI (kbN (11 + z.toNatClampNeg) ||| nd y.toNatClampNeg ||| 0)) (1 + max (hg y.toNatClampNeg) 0)) := by
  have h0 := (hw 328 _ rfl).2.1
  have h1 := h.thr (v := 0)
  have em : max (hg y.toNatClampNeg) (hg y.toNatClampNeg) = max (hg y.toNatClampNeg) 0 := by rw [Nat.max_self, Nat.max_zero]
  generalize hQ : rmB 1 2 3 (¬ tmP cnt y) (¬ (0 ≤ z ∧ z < 3)) (¬ (cnt < 80 ∧ 1 + max (hg y.toNatClampNeg) 0 ≤ 30)) g (up2 I 328 0 0) L cnt (12 + z.toNatClampNeg) y 0 0 0 (nI (kbN (11 + z.toNatClampNeg) ||| nd y.toNatClampNeg ||| 0)) (1 + max (hg y.toNatClampNeg) 0) = Q
  generalize hJ : up2 I 328 0 0 = J at hQ h1
  refine Mx_in (by decide +kernel) rfl rfl (Ex_bn 5 oX9_as hw ?_)
  show Ex mX9_as d 0 0 Q 7 [some (vS 328), some (vI z), some (vI y)] [vI y, vS 328] g (up2 I 328 0 0) L
  rw [hJ]
  refine Ex_l (As := [vI y]) (st := []) (d' := 0) vX9_164 rfl rfl (r_isTerm hw h1.1) h0 (by omega) rfl (dc_ok oX9_as rfl) (fun q1 => ?_) (fun q1 => ?_)
  rotate_left
  · refine Ex_wx [19, 13] 9 oX9_as hw ?_
    refine And.intro (fun _ => ?_) (fun z => absurd rfl z)
    refine Ex_wx [] 9 oX9_as hw ?_
    refine Ex_v (As := [vI 1]) (st := []) (d' := 0) vX9_152 rfl rfl (r_refuse hw) h0 (by omega) rfl (dc_ok oX9_as rfl) ?_
    refine Ex_wx [] 9 oX9_as hw ?_
    rw [← hQ]
    exact ⟨rfl, rfl, Or.inr ⟨rfl, Or.inl ⟨q1, rfl⟩⟩⟩
  obtain ⟨i1, i2, i3, i4, i5, i6, i7⟩ := h1.fa q1
  refine Ex_wx [19, 13] 9 oX9_as hw ?_
  refine And.intro (fun z => absurd z (by decide)) (fun _ => ?_)
  have h28 : ¬ (0 ≤ z ∧ z < 3) → Ex mX9_as d 0 0 Q 28 [some (vS 328), some (vI z), some (vI y)] [] g J L := by
    intro hq
    refine Ex_wx [] 9 oX9_as hw ?_
    refine Ex_v (As := [vI 2]) (st := []) (d' := 0) vX9_152 rfl rfl (r_refuse hw) h0 (by omega) rfl (dc_ok oX9_as rfl) ?_
    refine Ex_wx [] 9 oX9_as hw ?_
    rw [← hQ]
    exact ⟨rfl, rfl, Or.inr ⟨rfl, Or.inr (Or.inl ⟨fun q => q q1, hq, rfl⟩)⟩⟩
  refine Ex_wx [28, 23] 9 oX9_as hw ?_
  refine And.intro (fun c => h28 (fun q => absurd c (Int32.not_lt.mpr q.1))) (fun c0 => ?_)
  refine Ex_wx [28, 34] 9 oX9_as hw ?_
  have le3 : z ≤ 2 ↔ z < 3 := by rw [Int32.le_iff_toInt_le, Int32.lt_iff_toInt_lt]; show z.toInt ≤ 2 ↔ z.toInt < 3; omega
  refine And.intro (fun c4 => ?_) (fun c => h28 (fun q => c (le3.mpr q.2)))
  have hz : 0 ≤ z ∧ z < 3 := ⟨Int32.not_lt.mp c0, le3.mp c4⟩
  obtain ⟨j, hj, ej⟩ := tmP.idx (cnt := 3) ⟨hz.1, hz.2⟩ (by omega)
  have hj2 : z.toNatClampNeg = j := by rw [ej]; exact clN (by omega)
  refine Ex_wx [] 9 oX9_as hw ?_
  refine Ex_l (As := [vI y, vI y]) (st := []) (d' := 1) vX9_167 rfl rfl (r_isFull hw h1 q1 q1 (by omega)) h0 (by omega) rfl (dc_ok oX9_as rfl) (fun q4 => ?_) (fun q4 => ?_)
  · rw [em] at q4
    refine Ex_wx [51, 43] 9 oX9_as hw ?_
    refine And.intro (fun z => absurd z (by decide)) (fun _ => ?_)
    refine Ex_wx [] 9 oX9_as hw ?_
    refine Ex_v (As := [vI 3]) (st := []) (d' := 0) vX9_152 rfl rfl (r_refuse hw) h0 (by omega) rfl (dc_ok oX9_as rfl) ?_
    refine Ex_wx [] 9 oX9_as hw ?_
    rw [← hQ]
    exact ⟨rfl, rfl, Or.inr ⟨rfl, Or.inr (Or.inr ⟨fun q => q q1, fun q => q hz, q4, rfl⟩)⟩⟩
  · rw [em] at q4
    refine Ex_wx [51, 43] 9 oX9_as hw ?_
    refine And.intro (fun _ => ?_) (fun z => absurd rfl z)
    have q5 := Decidable.of_not_not q4
    have h76 : ∀ v, v = (if z = 0 then 8 else 2) → Ex mX9_as d 0 0 Q 76 [some (vS 328), some (vI z), some (vI y)] [vI v, vI (J 334 y.toNatClampNeg), vI 0, vI 0, vI 0, vI y, vI (12 + z), vS 328] g J L := by
      rintro v rfl
      refine Ex_wx [] 9 oX9_as hw ?_
      have hX : Mx mX9_made 1 0 0 [vS 328, vI (12 + z), vI y, vI 0, vI 0, vI 0, vI (J 334 y.toNatClampNeg ||| (if z = 0 then 8 else 2))] g J L (qV (some (vI (nI cnt))) g (mrI J cnt (12 + z.toNatClampNeg) y 0 0 0 (nI (kbN (11 + z.toNatClampNeg) ||| nd y.toNatClampNeg ||| 0)) (1 + max (hg y.toNatClampNeg) 0)) L) := by
        have en : J 334 y.toNatClampNeg ||| (if z = 0 then 8 else 2) = nI (kbN (11 + z.toNatClampNeg) ||| nd y.toNatClampNeg ||| 0) := by
          rw [i2, hj2, ej]; exact as_nd j hj _ i3
        rw [en]
        exact r_made hw h1.1 q5.1 (by rw [hj2, ej]; exact nI_add 12 j) (by omega) (Or.inl rfl) (by omega) (Or.inr ⟨by omega, _, _, _, _, i6, by rw [if_pos (by omega)]; exact i6, i7, i7, i5, i5, i4, i4, by rw [em]⟩)
      refine Ex_v (As := [vI (12 + z), vI y, vI 0, vI 0, vI 0, vI (J 334 y.toNatClampNeg ||| (if z = 0 then 8 else 2))]) (st := []) (d' := 1) vX9_156 rfl rfl hX h0 (by omega) rfl (dc_ok oX9_as rfl) ?_
      refine Ex_wx [] 9 oX9_as hw ?_
      rw [← hQ]
      exact ⟨rfl, rfl, Or.inl ⟨rfl, fun q => q q1, fun q => q hz, fun q => q q5, rfl⟩⟩
    refine Ex_wx [75, 76] 9 oX9_as hw ?_
    refine And.intro i1 ?_
    refine And.intro (fun c => ?_) (fun c => ?_)
    · exact h76 8 (by rw [if_pos c])
    · refine Ex_bn 1 oX9_as hw ?_
      exact h76 2 (by rw [if_neg c])
end RCall
