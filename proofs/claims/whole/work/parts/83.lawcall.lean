/-! the law: its calls, one by one -/
theorem cQ_no {REL : Int32 → Int32 → aA → Prop} {g g' : aG} {I I' : aI} {L' : aL} {E : String} : ¬ cQ REL g I (.inr E) g' I' L' := by
  rintro ⟨_, _, _, e, -⟩
  cases e
theorem rfQ_no {code val : Int32} {A' : aA} {g g' : aG} {I I' : aI} {L L' : aL} {E : String} : ¬ rfQ code val A' g I L (.inr E) g' I' L' := by
  rintro ⟨-, -, ⟨_, e, -⟩, -⟩
  cases e
theorem bz_b {x y : Int32} (h : y = bz x) : y = 0 ∨ y = 1 := by rw [h]; exact bz_or x
theorem Ex_wide {M : aM} {d kc ks kc' ks' pc : Nat} {Q : aQ} {lo : List (Option aV)} {st : List aV} {g : aG} {I : aI} {L : aL} (h : Ex M d kc ks Q pc lo st g I L) (h1 : kc ≤ kc') (h2 : ks ≤ ks') : Ex M d kc' ks' Q pc lo st g I L := by
  intro D K b b0 SA p l e R s m args below meth c H locs cells slots mc ms ls C hc hs hz hS hl
  exact h D K b b0 SA p l e R s m args below meth c H locs cells slots mc ms ls C (by omega) (by omega) hz hS hl
section LawC
variable {g : aG} {I : aI} {L : aL} {d kc ks n i : Nat} {A : aA} {Q : aQ} {u5 u6 : Option aV}
set_option maxRecDepth 100000 in
theorem law_give (hA : SP A) (hC : SC A g I) (hR : SR A I) (h0 : g.2.1 0 = some (.inr (.int, n))) (hn : n ≤ 2560) (hi : i + 5 ≤ n) (hd : 128 ≤ d) (hk : ∀ g' I' L' w5 w6, LI n g' I' → Ex mL_law d kc ks Q 1572 [some (vD (some 0)), some (vS 1), some (vS 328), some (vS 371), some (vI (nI i)), w5, w6] [] g' I' L') :
    Ex mL_law d (kc + 2) (ks + 14) Q 132 [some (vD (some 0)), some (vS 1), some (vS 328), some (vS 371), some (vI (nI i)), u5, u6] [] g I L := by
  obtain ⟨lx, ly, hw⟩ := hC.ws
  have h6 : rw6 A.la := fun R k h => (hC.rows R k h).2
  have hcall : Ex mL_law d (kc + 2) (ks + 14) Q 154 [some (vD (some 0)), some (vS 1), some (vS 328), some (vS 371), some (vI (nI i)), u5, u6] [vS 371, vI (I 0 (nI i + 2).toNatClampNeg), vI (bz (I 0 (nI i + 1).toNatClampNeg)), vS 1] g I L := by
    refine Ex_callSH (kc := kc) (ks := ks) (kc' := 2) (ks' := 14) (As := [vS 1, vI (bz (I 0 (nI i + 1).toNatClampNeg)), vI (I 0 (nI i + 2).toNatClampNeg), vS 371]) (st := []) (hL_86.c rfl) hL_86.2.2.2.1 (c_give (A := A) (L := L) (d := 127) (b := (bz (I 0 (nI i + 1).toNatClampNeg))) (x := (I 0 (nI i + 2).toNatClampNeg)) hC hA.1 (bz_or _) (by omega)) (by omega) (by decide) (dc_ok oL_law rfl) ?_ (fun E g' I' L' hq => absurd hq cQ_no)
    rintro v g1 I1 L1 ⟨code, val, A', e, hREL, hC1, hF, hL1⟩
    cases e
    obtain ⟨lx1, ly1, hw1⟩ := hC1.ws
    have hA1 := sp_give hA hREL
    have h01 : g1.2.1 0 = some (.inr (.int, n)) := hF.2.trans h0
    have hR1 := hR.fr hA.1 h6 (fun i hi => hF.1 i (Or.inr hi))
    have e00 : I1 0 = I 0 := hF.1 0 (Or.inl rfl)
    have m328 := (hw1 328 _ rfl).2.1
    have hcall2 : Ex mL_law d kc ks Q 180 [some (vD (some 0)), some (vS 1), some (vS 328), some (vS 371), some (vI (nI i)), some (vI code), u6] [vI (I 0 (nI i + 2).toNatClampNeg), vI (bz (I 0 (nI i + 1).toNatClampNeg)), vS 328] g1 I1 L1 := by
      refine Ex_cV (kc := kc) (ks := ks) (kc' := 0) (ks' := 0) (As := [vI (bz (I 0 (nI i + 1).toNatClampNeg)), vI (I 0 (nI i + 2).toNatClampNeg)]) (st := []) (d' := 8) vL_91 rfl rfl m328 (q_give (L := L1) (d := 8) hw1 hR1 hA.1 h6 (bz_or _) hREL (by omega)) (by omega) rfl (dc_ok oL_law rfl) ?_ (fun E g' I' L' hq => absurd hq rfQ_no)
      rintro v g2 I2 L2 ⟨rfl, rfl, ⟨v, e, hv⟩, hcode, hR2, hFr⟩
      cases e
      have hLI : LI n g2 I2 := ⟨A', hA1, hC1.fr hA1.1 hFr, hR2, h01⟩
      refine Ex_wx [] 9 oL_law hw1 ?_
      refine Ex_v (As := []) (st := []) (d' := 0) vL_92 rfl rfl (r_thrown hw1) m328 (by omega) rfl (dc_ok oL_law rfl) ?_
      rw [hcode]
      refine Ex_wx [196] 9 oL_law hw1 ?_
      refine And.intro (fun _ => ?_) (fun c => absurd rfl c)
      refine Ex_wx [1572] 9 oL_law hw1 ?_
      refine And.intro (fun c0 => And.intro (show vp_in (nI 0) 1 from inN (by omega) (by omega)) (And.intro (fun _ => hk _ _ _ _ _ hLI) (fun c => absurd (lgc ?_) c))) (fun _ => hk _ _ _ _ _ hLI)
      rw [hL1 c0, hv c0]
    have hj2 : ∀ y, y = bz (I 0 (nI i + 1).toNatClampNeg) → Ex mL_law d kc ks Q 174 [some (vD (some 0)), some (vS 1), some (vS 328), some (vS 371), some (vI (nI i)), some (vI code), u6] [vI y, vS 328] g1 I1 L1 := by
      rintro y rfl
      refine Ex_wx [] 12 oL_law hw1 ?_
      refine ⟨n, ⟨h01, idxV (b := 2) (by omega) (by omega)⟩, ?_⟩
      rw [e00]
      exact hcall2
    refine Ex_wx [173, 174] 9 oL_law hw1 ?_
    refine ⟨n, ⟨h01, idxV (b := 1) (by omega) (by omega)⟩, ?_⟩
    rw [e00]
    refine And.intro (fun c => ?_) (fun c => hj2 1 (by unfold bz; rw [if_neg c]))
    refine Ex_bn 1 oL_law hw1 ?_
    exact hj2 0 (by unfold bz; rw [if_pos c])
  have hj1 : ∀ y, y = bz (I 0 (nI i + 1).toNatClampNeg) → Ex mL_law d (kc + 2) (ks + 14) Q 147 [some (vD (some 0)), some (vS 1), some (vS 328), some (vS 371), some (vI (nI i)), u5, u6] [vI y, vS 1] g I L := by
    rintro y rfl
    refine Ex_wx [] 12 oL_law hw ?_
    refine ⟨n, ⟨h0, idxV (b := 2) (by omega) (by omega)⟩, ?_⟩
    exact hcall
  refine Ex_wx [146, 147] 9 oL_law hw ?_
  refine ⟨n, ⟨h0, idxV (b := 1) (by omega) (by omega)⟩, ?_⟩
  refine And.intro (fun c => ?_) (fun c => hj1 1 (by unfold bz; rw [if_neg c]))
  refine Ex_bn 1 oL_law hw ?_
  exact hj1 0 (by unfold bz; rw [if_pos c])
set_option maxRecDepth 100000 in
theorem law_of (hA : SP A) (hC : SC A g I) (hR : SR A I) (h0 : g.2.1 0 = some (.inr (.int, n))) (hn : n ≤ 2560) (hi : i + 5 ≤ n) (hd : 128 ≤ d) (hk : ∀ g' I' L' w5 w6, LI n g' I' → Ex mL_law d kc ks Q 1572 [some (vD (some 0)), some (vS 1), some (vS 328), some (vS 371), some (vI (nI i)), w5, w6] [] g' I' L') :
    Ex mL_law d (kc + 2) (ks + 14) Q 216 [some (vD (some 0)), some (vS 1), some (vS 328), some (vS 371), some (vI (nI i)), u5, u6] [] g I L := by
  obtain ⟨lx, ly, hw⟩ := hC.ws
  have h6 : rw6 A.la := fun R k h => (hC.rows R k h).2
  have hcall : Ex mL_law d (kc + 2) (ks + 14) Q 236 [some (vD (some 0)), some (vS 1), some (vS 328), some (vS 371), some (vI (nI i)), u5, u6] [vS 371, vI (I 0 (nI i + 3).toNatClampNeg), vI (I 0 (nI i + 2).toNatClampNeg), vI (I 0 (nI i + 1).toNatClampNeg), vS 1] g I L := by
    refine Ex_callSH (kc := kc) (ks := ks) (kc' := 2) (ks' := 14) (As := [vS 1, vI (I 0 (nI i + 1).toNatClampNeg), vI (I 0 (nI i + 2).toNatClampNeg), vI (I 0 (nI i + 3).toNatClampNeg), vS 371]) (st := []) (hL_95.c rfl) hL_95.2.2.2.1 (c_of (A := A) (L := L) (d := 127) (x := (I 0 (nI i + 1).toNatClampNeg)) (y := (I 0 (nI i + 2).toNatClampNeg)) (z := (I 0 (nI i + 3).toNatClampNeg)) hC hA.1 (by omega)) (by omega) (by decide) (dc_ok oL_law rfl) ?_ (fun E g' I' L' hq => absurd hq cQ_no)
    rintro v g1 I1 L1 ⟨code, val, A', e, hREL, hC1, hF, hL1⟩
    cases e
    obtain ⟨lx1, ly1, hw1⟩ := hC1.ws
    have hA1 := sp_of hA hREL
    have h01 : g1.2.1 0 = some (.inr (.int, n)) := hF.2.trans h0
    have hR1 := hR.fr hA.1 h6 (fun i hi => hF.1 i (Or.inr hi))
    have e00 : I1 0 = I 0 := hF.1 0 (Or.inl rfl)
    have m328 := (hw1 328 _ rfl).2.1
    have hcall2 : Ex mL_law d kc ks Q 260 [some (vD (some 0)), some (vS 1), some (vS 328), some (vS 371), some (vI (nI i)), some (vI code), u6] [vI (I 0 (nI i + 3).toNatClampNeg), vI (I 0 (nI i + 2).toNatClampNeg), vI (I 0 (nI i + 1).toNatClampNeg), vS 328] g1 I1 L1 := by
      refine Ex_cV (kc := kc) (ks := ks) (kc' := 0) (ks' := 0) (As := [vI (I 0 (nI i + 1).toNatClampNeg), vI (I 0 (nI i + 2).toNatClampNeg), vI (I 0 (nI i + 3).toNatClampNeg)]) (st := []) (d' := 8) vL_98 rfl rfl m328 (q_of (L := L1) (d := 8) hw1 hR1 hA.1 h6 hREL (by omega)) (by omega) rfl (dc_ok oL_law rfl) ?_ (fun E g' I' L' hq => absurd hq rfQ_no)
      rintro v g2 I2 L2 ⟨rfl, rfl, ⟨v, e, hv⟩, hcode, hR2, hFr⟩
      cases e
      have hLI : LI n g2 I2 := ⟨A', hA1, hC1.fr hA1.1 hFr, hR2, h01⟩
      refine Ex_wx [] 9 oL_law hw1 ?_
      refine Ex_v (As := []) (st := []) (d' := 0) vL_92 rfl rfl (r_thrown hw1) m328 (by omega) rfl (dc_ok oL_law rfl) ?_
      rw [hcode]
      refine Ex_wx [276] 9 oL_law hw1 ?_
      refine And.intro (fun _ => ?_) (fun c => absurd rfl c)
      refine Ex_wx [1572] 9 oL_law hw1 ?_
      refine And.intro (fun c0 => And.intro (show vp_in (nI 0) 1 from inN (by omega) (by omega)) (And.intro (fun _ => hk _ _ _ _ _ hLI) (fun c => absurd (lgc ?_) c))) (fun _ => hk _ _ _ _ _ hLI)
      rw [hL1 c0, hv c0]
    refine Ex_wx [] 12 oL_law hw1 ?_
    refine ⟨n, ⟨h01, idxV (b := 1) (by omega) (by omega)⟩, ?_⟩
    refine ⟨n, ⟨h01, idxV (b := 2) (by omega) (by omega)⟩, ?_⟩
    refine ⟨n, ⟨h01, idxV (b := 3) (by omega) (by omega)⟩, ?_⟩
    rw [e00]
    exact hcall2
  refine Ex_wx [] 12 oL_law hw ?_
  refine ⟨n, ⟨h0, idxV (b := 1) (by omega) (by omega)⟩, ?_⟩
  refine ⟨n, ⟨h0, idxV (b := 2) (by omega) (by omega)⟩, ?_⟩
  refine ⟨n, ⟨h0, idxV (b := 3) (by omega) (by omega)⟩, ?_⟩
  exact hcall
set_option maxRecDepth 100000 in
theorem law_read (hA : SP A) (hC : SC A g I) (hR : SR A I) (h0 : g.2.1 0 = some (.inr (.int, n))) (hn : n ≤ 2560) (hi : i + 5 ≤ n) (hd : 128 ≤ d) (hk : ∀ g' I' L' w5 w6, LI n g' I' → Ex mL_law d kc ks Q 1572 [some (vD (some 0)), some (vS 1), some (vS 328), some (vS 371), some (vI (nI i)), w5, w6] [] g' I' L') :
    Ex mL_law d (kc + 2) (ks + 14) Q 296 [some (vD (some 0)), some (vS 1), some (vS 328), some (vS 371), some (vI (nI i)), u5, u6] [] g I L := by
  obtain ⟨lx, ly, hw⟩ := hC.ws
  have h6 : rw6 A.la := fun R k h => (hC.rows R k h).2
  have hcall : Ex mL_law d (kc + 2) (ks + 14) Q 298 [some (vD (some 0)), some (vS 1), some (vS 328), some (vS 371), some (vI (nI i)), u5, u6] [vS 371, vS 1] g I L := by
    refine Ex_callSH (kc := kc) (ks := ks) (kc' := 2) (ks' := 14) (As := [vS 1, vS 371]) (st := []) (hL_99.c rfl) hL_99.2.2.2.1 (c_read (A := A) (L := L) (d := 127)  hC hA.1 (by omega)) (by omega) (by decide) (dc_ok oL_law rfl) ?_ (fun E g' I' L' hq => absurd hq cQ_no)
    rintro v g1 I1 L1 ⟨code, val, A', e, hREL, hC1, hF, hL1⟩
    cases e
    obtain ⟨lx1, ly1, hw1⟩ := hC1.ws
    have hA1 := sp_read hA hREL
    have h01 : g1.2.1 0 = some (.inr (.int, n)) := hF.2.trans h0
    have hR1 := hR.fr hA.1 h6 (fun i hi => hF.1 i (Or.inr hi))
    have e00 : I1 0 = I 0 := hF.1 0 (Or.inl rfl)
    have m328 := (hw1 328 _ rfl).2.1
    have hcall2 : Ex mL_law d kc ks Q 304 [some (vD (some 0)), some (vS 1), some (vS 328), some (vS 371), some (vI (nI i)), some (vI code), u6] [vS 328] g1 I1 L1 := by
      refine Ex_cV (kc := kc) (ks := ks) (kc' := 0) (ks' := 0) (As := []) (st := []) (d' := 8) vL_102 rfl rfl m328 (q_read (L := L1) (d := 8) hw1 hR1 hA.1 h6 hREL (by omega)) (by omega) rfl (dc_ok oL_law rfl) ?_ (fun E g' I' L' hq => absurd hq rfQ_no)
      rintro v g2 I2 L2 ⟨rfl, rfl, ⟨v, e, hv⟩, hcode, hR2, hFr⟩
      cases e
      have hLI : LI n g2 I2 := ⟨A', hA1, hC1.fr hA1.1 hFr, hR2, h01⟩
      refine Ex_wx [] 9 oL_law hw1 ?_
      refine Ex_v (As := []) (st := []) (d' := 0) vL_92 rfl rfl (r_thrown hw1) m328 (by omega) rfl (dc_ok oL_law rfl) ?_
      rw [hcode]
      refine Ex_wx [320] 9 oL_law hw1 ?_
      refine And.intro (fun _ => ?_) (fun c => absurd rfl c)
      refine Ex_wx [1572] 9 oL_law hw1 ?_
      refine And.intro (fun c0 => And.intro (show vp_in (nI 0) 1 from inN (by omega) (by omega)) (And.intro (fun _ => hk _ _ _ _ _ hLI) (fun c => absurd (lgc ?_) c))) (fun _ => hk _ _ _ _ _ hLI)
      rw [hL1 c0, hv c0]
    refine Ex_wx [] 12 oL_law hw1 ?_
    exact hcall2
  refine Ex_wx [] 12 oL_law hw ?_
  exact hcall
set_option maxRecDepth 100000 in
theorem law_write (hA : SP A) (hC : SC A g I) (hR : SR A I) (h0 : g.2.1 0 = some (.inr (.int, n))) (hn : n ≤ 2560) (hi : i + 5 ≤ n) (hd : 128 ≤ d) (hk : ∀ g' I' L' w5 w6, LI n g' I' → Ex mL_law d kc ks Q 1572 [some (vD (some 0)), some (vS 1), some (vS 328), some (vS 371), some (vI (nI i)), w5, w6] [] g' I' L') :
    Ex mL_law d (kc + 2) (ks + 14) Q 340 [some (vD (some 0)), some (vS 1), some (vS 328), some (vS 371), some (vI (nI i)), u5, u6] [] g I L := by
  obtain ⟨lx, ly, hw⟩ := hC.ws
  have h6 : rw6 A.la := fun R k h => (hC.rows R k h).2
  have hcall : Ex mL_law d (kc + 2) (ks + 14) Q 362 [some (vD (some 0)), some (vS 1), some (vS 328), some (vS 371), some (vI (nI i)), u5, u6] [vS 371, vI (I 0 (nI i + 2).toNatClampNeg), vI (bz (I 0 (nI i + 1).toNatClampNeg)), vS 1] g I L := by
    refine Ex_callSH (kc := kc) (ks := ks) (kc' := 2) (ks' := 14) (As := [vS 1, vI (bz (I 0 (nI i + 1).toNatClampNeg)), vI (I 0 (nI i + 2).toNatClampNeg), vS 371]) (st := []) (hL_103.c rfl) hL_103.2.2.2.1 (c_write (A := A) (L := L) (d := 127) (b := (bz (I 0 (nI i + 1).toNatClampNeg))) (x := (I 0 (nI i + 2).toNatClampNeg)) hC hA.1 (bz_or _) (by omega)) (by omega) (by decide) (dc_ok oL_law rfl) ?_ (fun E g' I' L' hq => absurd hq cQ_no)
    rintro v g1 I1 L1 ⟨code, val, A', e, hREL, hC1, hF, hL1⟩
    cases e
    obtain ⟨lx1, ly1, hw1⟩ := hC1.ws
    have hA1 := sp_write hA hREL
    have h01 : g1.2.1 0 = some (.inr (.int, n)) := hF.2.trans h0
    have hR1 := hR.fr hA.1 h6 (fun i hi => hF.1 i (Or.inr hi))
    have e00 : I1 0 = I 0 := hF.1 0 (Or.inl rfl)
    have m328 := (hw1 328 _ rfl).2.1
    have hcall2 : Ex mL_law d kc ks Q 388 [some (vD (some 0)), some (vS 1), some (vS 328), some (vS 371), some (vI (nI i)), some (vI code), u6] [vI (I 0 (nI i + 2).toNatClampNeg), vI (bz (I 0 (nI i + 1).toNatClampNeg)), vS 328] g1 I1 L1 := by
      refine Ex_cV (kc := kc) (ks := ks) (kc' := 0) (ks' := 0) (As := [vI (bz (I 0 (nI i + 1).toNatClampNeg)), vI (I 0 (nI i + 2).toNatClampNeg)]) (st := []) (d' := 8) vL_105 rfl rfl m328 (q_write (L := L1) (d := 8) hw1 hR1 hA.1 h6 (bz_or _) hREL (by omega)) (by omega) rfl (dc_ok oL_law rfl) ?_ (fun E g' I' L' hq => absurd hq rfQ_no)
      rintro v g2 I2 L2 ⟨rfl, rfl, ⟨v, e, hv⟩, hcode, hR2, hFr⟩
      cases e
      have hLI : LI n g2 I2 := ⟨A', hA1, hC1.fr hA1.1 hFr, hR2, h01⟩
      refine Ex_wx [] 9 oL_law hw1 ?_
      refine Ex_v (As := []) (st := []) (d' := 0) vL_92 rfl rfl (r_thrown hw1) m328 (by omega) rfl (dc_ok oL_law rfl) ?_
      rw [hcode]
      refine Ex_wx [404] 9 oL_law hw1 ?_
      refine And.intro (fun _ => ?_) (fun c => absurd rfl c)
      refine Ex_wx [1572] 9 oL_law hw1 ?_
      refine And.intro (fun c0 => And.intro (show vp_in (nI 0) 1 from inN (by omega) (by omega)) (And.intro (fun _ => hk _ _ _ _ _ hLI) (fun c => absurd (lgc ?_) c))) (fun _ => hk _ _ _ _ _ hLI)
      rw [hL1 c0, hv c0]
    have hj2 : ∀ y, y = bz (I 0 (nI i + 1).toNatClampNeg) → Ex mL_law d kc ks Q 382 [some (vD (some 0)), some (vS 1), some (vS 328), some (vS 371), some (vI (nI i)), some (vI code), u6] [vI y, vS 328] g1 I1 L1 := by
      rintro y rfl
      refine Ex_wx [] 12 oL_law hw1 ?_
      refine ⟨n, ⟨h01, idxV (b := 2) (by omega) (by omega)⟩, ?_⟩
      rw [e00]
      exact hcall2
    refine Ex_wx [381, 382] 9 oL_law hw1 ?_
    refine ⟨n, ⟨h01, idxV (b := 1) (by omega) (by omega)⟩, ?_⟩
    rw [e00]
    refine And.intro (fun c => ?_) (fun c => hj2 1 (by unfold bz; rw [if_neg c]))
    refine Ex_bn 1 oL_law hw1 ?_
    exact hj2 0 (by unfold bz; rw [if_pos c])
  have hj1 : ∀ y, y = bz (I 0 (nI i + 1).toNatClampNeg) → Ex mL_law d (kc + 2) (ks + 14) Q 355 [some (vD (some 0)), some (vS 1), some (vS 328), some (vS 371), some (vI (nI i)), u5, u6] [vI y, vS 1] g I L := by
    rintro y rfl
    refine Ex_wx [] 12 oL_law hw ?_
    refine ⟨n, ⟨h0, idxV (b := 2) (by omega) (by omega)⟩, ?_⟩
    exact hcall
  refine Ex_wx [354, 355] 9 oL_law hw ?_
  refine ⟨n, ⟨h0, idxV (b := 1) (by omega) (by omega)⟩, ?_⟩
  refine And.intro (fun c => ?_) (fun c => hj1 1 (by unfold bz; rw [if_neg c]))
  refine Ex_bn 1 oL_law hw ?_
  exact hj1 0 (by unfold bz; rw [if_pos c])
set_option maxRecDepth 100000 in
theorem law_say (hA : SP A) (hC : SC A g I) (hR : SR A I) (h0 : g.2.1 0 = some (.inr (.int, n))) (hn : n ≤ 2560) (hi : i + 5 ≤ n) (hd : 128 ≤ d) (hk : ∀ g' I' L' w5 w6, LI n g' I' → Ex mL_law d kc ks Q 1572 [some (vD (some 0)), some (vS 1), some (vS 328), some (vS 371), some (vI (nI i)), w5, w6] [] g' I' L') :
    Ex mL_law d (kc + 2) (ks + 14) Q 424 [some (vD (some 0)), some (vS 1), some (vS 328), some (vS 371), some (vI (nI i)), u5, u6] [] g I L := by
  obtain ⟨lx, ly, hw⟩ := hC.ws
  have h6 : rw6 A.la := fun R k h => (hC.rows R k h).2
  have hcall : Ex mL_law d (kc + 2) (ks + 14) Q 446 [some (vD (some 0)), some (vS 1), some (vS 328), some (vS 371), some (vI (nI i)), u5, u6] [vS 371, vI (I 0 (nI i + 2).toNatClampNeg), vI (bz (I 0 (nI i + 1).toNatClampNeg)), vS 1] g I L := by
    refine Ex_callSH (kc := kc) (ks := ks) (kc' := 2) (ks' := 14) (As := [vS 1, vI (bz (I 0 (nI i + 1).toNatClampNeg)), vI (I 0 (nI i + 2).toNatClampNeg), vS 371]) (st := []) (hL_106.c rfl) hL_106.2.2.2.1 (c_say (A := A) (L := L) (d := 127) (b := (bz (I 0 (nI i + 1).toNatClampNeg))) (x := (I 0 (nI i + 2).toNatClampNeg)) hC hA.1 (bz_or _) (by omega)) (by omega) (by decide) (dc_ok oL_law rfl) ?_ (fun E g' I' L' hq => absurd hq cQ_no)
    rintro v g1 I1 L1 ⟨code, val, A', e, hREL, hC1, hF, hL1⟩
    cases e
    obtain ⟨lx1, ly1, hw1⟩ := hC1.ws
    have hA1 := sp_say hA hREL
    have h01 : g1.2.1 0 = some (.inr (.int, n)) := hF.2.trans h0
    have hR1 := hR.fr hA.1 h6 (fun i hi => hF.1 i (Or.inr hi))
    have e00 : I1 0 = I 0 := hF.1 0 (Or.inl rfl)
    have m328 := (hw1 328 _ rfl).2.1
    have hcall2 : Ex mL_law d kc ks Q 472 [some (vD (some 0)), some (vS 1), some (vS 328), some (vS 371), some (vI (nI i)), some (vI code), u6] [vI (I 0 (nI i + 2).toNatClampNeg), vI (bz (I 0 (nI i + 1).toNatClampNeg)), vS 328] g1 I1 L1 := by
      refine Ex_cV (kc := kc) (ks := ks) (kc' := 0) (ks' := 0) (As := [vI (bz (I 0 (nI i + 1).toNatClampNeg)), vI (I 0 (nI i + 2).toNatClampNeg)]) (st := []) (d' := 8) vL_108 rfl rfl m328 (q_say (L := L1) (d := 8) hw1 hR1 hA.1 h6 (bz_or _) hREL (by omega)) (by omega) rfl (dc_ok oL_law rfl) ?_ (fun E g' I' L' hq => absurd hq rfQ_no)
      rintro v g2 I2 L2 ⟨rfl, rfl, ⟨v, e, hv⟩, hcode, hR2, hFr⟩
      cases e
      have hLI : LI n g2 I2 := ⟨A', hA1, hC1.fr hA1.1 hFr, hR2, h01⟩
      refine Ex_wx [] 9 oL_law hw1 ?_
      refine Ex_v (As := []) (st := []) (d' := 0) vL_92 rfl rfl (r_thrown hw1) m328 (by omega) rfl (dc_ok oL_law rfl) ?_
      rw [hcode]
      refine Ex_wx [488] 9 oL_law hw1 ?_
      refine And.intro (fun _ => ?_) (fun c => absurd rfl c)
      refine Ex_wx [1572] 9 oL_law hw1 ?_
      refine And.intro (fun c0 => And.intro (show vp_in (nI 0) 1 from inN (by omega) (by omega)) (And.intro (fun _ => hk _ _ _ _ _ hLI) (fun c => absurd (lgc ?_) c))) (fun _ => hk _ _ _ _ _ hLI)
      rw [hL1 c0, hv c0]
    have hj2 : ∀ y, y = bz (I 0 (nI i + 1).toNatClampNeg) → Ex mL_law d kc ks Q 466 [some (vD (some 0)), some (vS 1), some (vS 328), some (vS 371), some (vI (nI i)), some (vI code), u6] [vI y, vS 328] g1 I1 L1 := by
      rintro y rfl
      refine Ex_wx [] 12 oL_law hw1 ?_
      refine ⟨n, ⟨h01, idxV (b := 2) (by omega) (by omega)⟩, ?_⟩
      rw [e00]
      exact hcall2
    refine Ex_wx [465, 466] 9 oL_law hw1 ?_
    refine ⟨n, ⟨h01, idxV (b := 1) (by omega) (by omega)⟩, ?_⟩
    rw [e00]
    refine And.intro (fun c => ?_) (fun c => hj2 1 (by unfold bz; rw [if_neg c]))
    refine Ex_bn 1 oL_law hw1 ?_
    exact hj2 0 (by unfold bz; rw [if_pos c])
  have hj1 : ∀ y, y = bz (I 0 (nI i + 1).toNatClampNeg) → Ex mL_law d (kc + 2) (ks + 14) Q 439 [some (vD (some 0)), some (vS 1), some (vS 328), some (vS 371), some (vI (nI i)), u5, u6] [vI y, vS 1] g I L := by
    rintro y rfl
    refine Ex_wx [] 12 oL_law hw ?_
    refine ⟨n, ⟨h0, idxV (b := 2) (by omega) (by omega)⟩, ?_⟩
    exact hcall
  refine Ex_wx [438, 439] 9 oL_law hw ?_
  refine ⟨n, ⟨h0, idxV (b := 1) (by omega) (by omega)⟩, ?_⟩
  refine And.intro (fun c => ?_) (fun c => hj1 1 (by unfold bz; rw [if_neg c]))
  refine Ex_bn 1 oL_law hw ?_
  exact hj1 0 (by unfold bz; rw [if_pos c])
set_option maxRecDepth 100000 in
theorem law_fail (hA : SP A) (hC : SC A g I) (hR : SR A I) (h0 : g.2.1 0 = some (.inr (.int, n))) (hn : n ≤ 2560) (hi : i + 5 ≤ n) (hd : 128 ≤ d) (hk : ∀ g' I' L' w5 w6, LI n g' I' → Ex mL_law d kc ks Q 1572 [some (vD (some 0)), some (vS 1), some (vS 328), some (vS 371), some (vI (nI i)), w5, w6] [] g' I' L') :
    Ex mL_law d (kc + 2) (ks + 14) Q 508 [some (vD (some 0)), some (vS 1), some (vS 328), some (vS 371), some (vI (nI i)), u5, u6] [] g I L := by
  obtain ⟨lx, ly, hw⟩ := hC.ws
  have h6 : rw6 A.la := fun R k h => (hC.rows R k h).2
  have hcall : Ex mL_law d (kc + 2) (ks + 14) Q 530 [some (vD (some 0)), some (vS 1), some (vS 328), some (vS 371), some (vI (nI i)), u5, u6] [vS 371, vI (I 0 (nI i + 2).toNatClampNeg), vI (bz (I 0 (nI i + 1).toNatClampNeg)), vS 1] g I L := by
    refine Ex_callSH (kc := kc) (ks := ks) (kc' := 2) (ks' := 14) (As := [vS 1, vI (bz (I 0 (nI i + 1).toNatClampNeg)), vI (I 0 (nI i + 2).toNatClampNeg), vS 371]) (st := []) (hL_109.c rfl) hL_109.2.2.2.1 (c_fail (A := A) (L := L) (d := 127) (b := (bz (I 0 (nI i + 1).toNatClampNeg))) (x := (I 0 (nI i + 2).toNatClampNeg)) hC hA.1 (bz_or _) (by omega)) (by omega) (by decide) (dc_ok oL_law rfl) ?_ (fun E g' I' L' hq => absurd hq cQ_no)
    rintro v g1 I1 L1 ⟨code, val, A', e, hREL, hC1, hF, hL1⟩
    cases e
    obtain ⟨lx1, ly1, hw1⟩ := hC1.ws
    have hA1 := sp_fail hA hREL
    have h01 : g1.2.1 0 = some (.inr (.int, n)) := hF.2.trans h0
    have hR1 := hR.fr hA.1 h6 (fun i hi => hF.1 i (Or.inr hi))
    have e00 : I1 0 = I 0 := hF.1 0 (Or.inl rfl)
    have m328 := (hw1 328 _ rfl).2.1
    have hcall2 : Ex mL_law d kc ks Q 556 [some (vD (some 0)), some (vS 1), some (vS 328), some (vS 371), some (vI (nI i)), some (vI code), u6] [vI (I 0 (nI i + 2).toNatClampNeg), vI (bz (I 0 (nI i + 1).toNatClampNeg)), vS 328] g1 I1 L1 := by
      refine Ex_cV (kc := kc) (ks := ks) (kc' := 0) (ks' := 0) (As := [vI (bz (I 0 (nI i + 1).toNatClampNeg)), vI (I 0 (nI i + 2).toNatClampNeg)]) (st := []) (d' := 8) vL_111 rfl rfl m328 (q_fail (L := L1) (d := 8) hw1 hR1 hA.1 h6 (bz_or _) hREL (by omega)) (by omega) rfl (dc_ok oL_law rfl) ?_ (fun E g' I' L' hq => absurd hq rfQ_no)
      rintro v g2 I2 L2 ⟨rfl, rfl, ⟨v, e, hv⟩, hcode, hR2, hFr⟩
      cases e
      have hLI : LI n g2 I2 := ⟨A', hA1, hC1.fr hA1.1 hFr, hR2, h01⟩
      refine Ex_wx [] 9 oL_law hw1 ?_
      refine Ex_v (As := []) (st := []) (d' := 0) vL_92 rfl rfl (r_thrown hw1) m328 (by omega) rfl (dc_ok oL_law rfl) ?_
      rw [hcode]
      refine Ex_wx [572] 9 oL_law hw1 ?_
      refine And.intro (fun _ => ?_) (fun c => absurd rfl c)
      refine Ex_wx [1572] 9 oL_law hw1 ?_
      refine And.intro (fun c0 => And.intro (show vp_in (nI 0) 1 from inN (by omega) (by omega)) (And.intro (fun _ => hk _ _ _ _ _ hLI) (fun c => absurd (lgc ?_) c))) (fun _ => hk _ _ _ _ _ hLI)
      rw [hL1 c0, hv c0]
    have hj2 : ∀ y, y = bz (I 0 (nI i + 1).toNatClampNeg) → Ex mL_law d kc ks Q 550 [some (vD (some 0)), some (vS 1), some (vS 328), some (vS 371), some (vI (nI i)), some (vI code), u6] [vI y, vS 328] g1 I1 L1 := by
      rintro y rfl
      refine Ex_wx [] 12 oL_law hw1 ?_
      refine ⟨n, ⟨h01, idxV (b := 2) (by omega) (by omega)⟩, ?_⟩
      rw [e00]
      exact hcall2
    refine Ex_wx [549, 550] 9 oL_law hw1 ?_
    refine ⟨n, ⟨h01, idxV (b := 1) (by omega) (by omega)⟩, ?_⟩
    rw [e00]
    refine And.intro (fun c => ?_) (fun c => hj2 1 (by unfold bz; rw [if_neg c]))
    refine Ex_bn 1 oL_law hw1 ?_
    exact hj2 0 (by unfold bz; rw [if_pos c])
  have hj1 : ∀ y, y = bz (I 0 (nI i + 1).toNatClampNeg) → Ex mL_law d (kc + 2) (ks + 14) Q 523 [some (vD (some 0)), some (vS 1), some (vS 328), some (vS 371), some (vI (nI i)), u5, u6] [vI y, vS 1] g I L := by
    rintro y rfl
    refine Ex_wx [] 12 oL_law hw ?_
    refine ⟨n, ⟨h0, idxV (b := 2) (by omega) (by omega)⟩, ?_⟩
    exact hcall
  refine Ex_wx [522, 523] 9 oL_law hw ?_
  refine ⟨n, ⟨h0, idxV (b := 1) (by omega) (by omega)⟩, ?_⟩
  refine And.intro (fun c => ?_) (fun c => hj1 1 (by unfold bz; rw [if_neg c]))
  refine Ex_bn 1 oL_law hw ?_
  exact hj1 0 (by unfold bz; rw [if_pos c])
set_option maxRecDepth 100000 in
theorem law_none (hA : SP A) (hC : SC A g I) (hR : SR A I) (h0 : g.2.1 0 = some (.inr (.int, n))) (hn : n ≤ 2560) (hi : i + 5 ≤ n) (hd : 128 ≤ d) (hk : ∀ g' I' L' w5 w6, LI n g' I' → Ex mL_law d kc ks Q 1572 [some (vD (some 0)), some (vS 1), some (vS 328), some (vS 371), some (vI (nI i)), w5, w6] [] g' I' L') :
    Ex mL_law d (kc + 2) (ks + 14) Q 592 [some (vD (some 0)), some (vS 1), some (vS 328), some (vS 371), some (vI (nI i)), u5, u6] [] g I L := by
  obtain ⟨lx, ly, hw⟩ := hC.ws
  have h6 : rw6 A.la := fun R k h => (hC.rows R k h).2
  have hcall : Ex mL_law d (kc + 2) (ks + 14) Q 594 [some (vD (some 0)), some (vS 1), some (vS 328), some (vS 371), some (vI (nI i)), u5, u6] [vS 371, vS 1] g I L := by
    refine Ex_callSH (kc := kc) (ks := ks) (kc' := 2) (ks' := 14) (As := [vS 1, vS 371]) (st := []) (hL_112.c rfl) hL_112.2.2.2.1 (c_none (A := A) (L := L) (d := 127)  hC hA.1 (by omega)) (by omega) (by decide) (dc_ok oL_law rfl) ?_ (fun E g' I' L' hq => absurd hq cQ_no)
    rintro v g1 I1 L1 ⟨code, val, A', e, hREL, hC1, hF, hL1⟩
    cases e
    obtain ⟨lx1, ly1, hw1⟩ := hC1.ws
    have hA1 := sp_none hA hREL
    have h01 : g1.2.1 0 = some (.inr (.int, n)) := hF.2.trans h0
    have hR1 := hR.fr hA.1 h6 (fun i hi => hF.1 i (Or.inr hi))
    have e00 : I1 0 = I 0 := hF.1 0 (Or.inl rfl)
    have m328 := (hw1 328 _ rfl).2.1
    have hcall2 : Ex mL_law d kc ks Q 600 [some (vD (some 0)), some (vS 1), some (vS 328), some (vS 371), some (vI (nI i)), some (vI code), u6] [vS 328] g1 I1 L1 := by
      refine Ex_cV (kc := kc) (ks := ks) (kc' := 0) (ks' := 0) (As := []) (st := []) (d' := 8) vL_114 rfl rfl m328 (q_none (L := L1) (d := 8) hw1 hR1 hA.1 h6 hREL (by omega)) (by omega) rfl (dc_ok oL_law rfl) ?_ (fun E g' I' L' hq => absurd hq rfQ_no)
      rintro v g2 I2 L2 ⟨rfl, rfl, ⟨v, e, hv⟩, hcode, hR2, hFr⟩
      cases e
      have hLI : LI n g2 I2 := ⟨A', hA1, hC1.fr hA1.1 hFr, hR2, h01⟩
      refine Ex_wx [] 9 oL_law hw1 ?_
      refine Ex_v (As := []) (st := []) (d' := 0) vL_92 rfl rfl (r_thrown hw1) m328 (by omega) rfl (dc_ok oL_law rfl) ?_
      rw [hcode]
      refine Ex_wx [616] 9 oL_law hw1 ?_
      refine And.intro (fun _ => ?_) (fun c => absurd rfl c)
      refine Ex_wx [1572] 9 oL_law hw1 ?_
      refine And.intro (fun c0 => And.intro (show vp_in (nI 0) 1 from inN (by omega) (by omega)) (And.intro (fun _ => hk _ _ _ _ _ hLI) (fun c => absurd (lgc ?_) c))) (fun _ => hk _ _ _ _ _ hLI)
      rw [hL1 c0, hv c0]
    refine Ex_wx [] 12 oL_law hw1 ?_
    exact hcall2
  refine Ex_wx [] 12 oL_law hw ?_
  exact hcall
set_option maxRecDepth 100000 in
theorem law_either (hA : SP A) (hC : SC A g I) (hR : SR A I) (h0 : g.2.1 0 = some (.inr (.int, n))) (hn : n ≤ 2560) (hi : i + 5 ≤ n) (hd : 128 ≤ d) (hk : ∀ g' I' L' w5 w6, LI n g' I' → Ex mL_law d kc ks Q 1572 [some (vD (some 0)), some (vS 1), some (vS 328), some (vS 371), some (vI (nI i)), w5, w6] [] g' I' L') :
    Ex mL_law d (kc + 2) (ks + 14) Q 636 [some (vD (some 0)), some (vS 1), some (vS 328), some (vS 371), some (vI (nI i)), u5, u6] [] g I L := by
  obtain ⟨lx, ly, hw⟩ := hC.ws
  have h6 : rw6 A.la := fun R k h => (hC.rows R k h).2
  have hcall : Ex mL_law d (kc + 2) (ks + 14) Q 650 [some (vD (some 0)), some (vS 1), some (vS 328), some (vS 371), some (vI (nI i)), u5, u6] [vS 371, vI (I 0 (nI i + 2).toNatClampNeg), vI (I 0 (nI i + 1).toNatClampNeg), vS 1] g I L := by
    refine Ex_callSH (kc := kc) (ks := ks) (kc' := 2) (ks' := 14) (As := [vS 1, vI (I 0 (nI i + 1).toNatClampNeg), vI (I 0 (nI i + 2).toNatClampNeg), vS 371]) (st := []) (hL_115.c rfl) hL_115.2.2.2.1 (c_either (A := A) (L := L) (d := 127) (x := (I 0 (nI i + 1).toNatClampNeg)) (y := (I 0 (nI i + 2).toNatClampNeg)) hC hA.1 (by omega)) (by omega) (by decide) (dc_ok oL_law rfl) ?_ (fun E g' I' L' hq => absurd hq cQ_no)
    rintro v g1 I1 L1 ⟨code, val, A', e, hREL, hC1, hF, hL1⟩
    cases e
    obtain ⟨lx1, ly1, hw1⟩ := hC1.ws
    have hA1 := sp_either hA hREL
    have h01 : g1.2.1 0 = some (.inr (.int, n)) := hF.2.trans h0
    have hR1 := hR.fr hA.1 h6 (fun i hi => hF.1 i (Or.inr hi))
    have e00 : I1 0 = I 0 := hF.1 0 (Or.inl rfl)
    have m328 := (hw1 328 _ rfl).2.1
    have hcall2 : Ex mL_law d kc ks Q 668 [some (vD (some 0)), some (vS 1), some (vS 328), some (vS 371), some (vI (nI i)), some (vI code), u6] [vI (I 0 (nI i + 2).toNatClampNeg), vI (I 0 (nI i + 1).toNatClampNeg), vS 328] g1 I1 L1 := by
      refine Ex_cV (kc := kc) (ks := ks) (kc' := 0) (ks' := 0) (As := [vI (I 0 (nI i + 1).toNatClampNeg), vI (I 0 (nI i + 2).toNatClampNeg)]) (st := []) (d' := 8) vL_118 rfl rfl m328 (q_either (L := L1) (d := 8) hw1 hR1 hA.1 h6 hREL (by omega)) (by omega) rfl (dc_ok oL_law rfl) ?_ (fun E g' I' L' hq => absurd hq rfQ_no)
      rintro v g2 I2 L2 ⟨rfl, rfl, ⟨v, e, hv⟩, hcode, hR2, hFr⟩
      cases e
      have hLI : LI n g2 I2 := ⟨A', hA1, hC1.fr hA1.1 hFr, hR2, h01⟩
      refine Ex_wx [] 9 oL_law hw1 ?_
      refine Ex_v (As := []) (st := []) (d' := 0) vL_92 rfl rfl (r_thrown hw1) m328 (by omega) rfl (dc_ok oL_law rfl) ?_
      rw [hcode]
      refine Ex_wx [684] 9 oL_law hw1 ?_
      refine And.intro (fun _ => ?_) (fun c => absurd rfl c)
      refine Ex_wx [1572] 9 oL_law hw1 ?_
      refine And.intro (fun c0 => And.intro (show vp_in (nI 0) 1 from inN (by omega) (by omega)) (And.intro (fun _ => hk _ _ _ _ _ hLI) (fun c => absurd (lgc ?_) c))) (fun _ => hk _ _ _ _ _ hLI)
      rw [hL1 c0, hv c0]
    refine Ex_wx [] 12 oL_law hw1 ?_
    refine ⟨n, ⟨h01, idxV (b := 1) (by omega) (by omega)⟩, ?_⟩
    refine ⟨n, ⟨h01, idxV (b := 2) (by omega) (by omega)⟩, ?_⟩
    rw [e00]
    exact hcall2
  refine Ex_wx [] 12 oL_law hw ?_
  refine ⟨n, ⟨h0, idxV (b := 1) (by omega) (by omega)⟩, ?_⟩
  refine ⟨n, ⟨h0, idxV (b := 2) (by omega) (by omega)⟩, ?_⟩
  exact hcall
set_option maxRecDepth 100000 in
theorem law_then (hA : SP A) (hC : SC A g I) (hR : SR A I) (h0 : g.2.1 0 = some (.inr (.int, n))) (hn : n ≤ 2560) (hi : i + 5 ≤ n) (hd : 128 ≤ d) (hk : ∀ g' I' L' w5 w6, LI n g' I' → Ex mL_law d kc ks Q 1572 [some (vD (some 0)), some (vS 1), some (vS 328), some (vS 371), some (vI (nI i)), w5, w6] [] g' I' L') :
    Ex mL_law d (kc + 2) (ks + 14) Q 704 [some (vD (some 0)), some (vS 1), some (vS 328), some (vS 371), some (vI (nI i)), u5, u6] [] g I L := by
  obtain ⟨lx, ly, hw⟩ := hC.ws
  have h6 : rw6 A.la := fun R k h => (hC.rows R k h).2
  have hcall : Ex mL_law d (kc + 2) (ks + 14) Q 724 [some (vD (some 0)), some (vS 1), some (vS 328), some (vS 371), some (vI (nI i)), u5, u6] [vS 371, vI (I 0 (nI i + 3).toNatClampNeg), vI (I 0 (nI i + 2).toNatClampNeg), vI (I 0 (nI i + 1).toNatClampNeg), vS 1] g I L := by
    refine Ex_callSH (kc := kc) (ks := ks) (kc' := 2) (ks' := 14) (As := [vS 1, vI (I 0 (nI i + 1).toNatClampNeg), vI (I 0 (nI i + 2).toNatClampNeg), vI (I 0 (nI i + 3).toNatClampNeg), vS 371]) (st := []) (hL_119.c rfl) hL_119.2.2.2.1 (c_then (A := A) (L := L) (d := 127) (x := (I 0 (nI i + 1).toNatClampNeg)) (y := (I 0 (nI i + 2).toNatClampNeg)) (z := (I 0 (nI i + 3).toNatClampNeg)) hC hA.1 (by omega)) (by omega) (by decide) (dc_ok oL_law rfl) ?_ (fun E g' I' L' hq => absurd hq cQ_no)
    rintro v g1 I1 L1 ⟨code, val, A', e, hREL, hC1, hF, hL1⟩
    cases e
    obtain ⟨lx1, ly1, hw1⟩ := hC1.ws
    have hA1 := sp_then hA hREL
    have h01 : g1.2.1 0 = some (.inr (.int, n)) := hF.2.trans h0
    have hR1 := hR.fr hA.1 h6 (fun i hi => hF.1 i (Or.inr hi))
    have e00 : I1 0 = I 0 := hF.1 0 (Or.inl rfl)
    have m328 := (hw1 328 _ rfl).2.1
    have hcall2 : Ex mL_law d kc ks Q 748 [some (vD (some 0)), some (vS 1), some (vS 328), some (vS 371), some (vI (nI i)), some (vI code), u6] [vI (I 0 (nI i + 3).toNatClampNeg), vI (I 0 (nI i + 2).toNatClampNeg), vI (I 0 (nI i + 1).toNatClampNeg), vS 328] g1 I1 L1 := by
      refine Ex_cV (kc := kc) (ks := ks) (kc' := 0) (ks' := 0) (As := [vI (I 0 (nI i + 1).toNatClampNeg), vI (I 0 (nI i + 2).toNatClampNeg), vI (I 0 (nI i + 3).toNatClampNeg)]) (st := []) (d' := 8) vL_121 rfl rfl m328 (q_then (L := L1) (d := 8) hw1 hR1 hA.1 h6 hREL (by omega)) (by omega) rfl (dc_ok oL_law rfl) ?_ (fun E g' I' L' hq => absurd hq rfQ_no)
      rintro v g2 I2 L2 ⟨rfl, rfl, ⟨v, e, hv⟩, hcode, hR2, hFr⟩
      cases e
      have hLI : LI n g2 I2 := ⟨A', hA1, hC1.fr hA1.1 hFr, hR2, h01⟩
      refine Ex_wx [] 9 oL_law hw1 ?_
      refine Ex_v (As := []) (st := []) (d' := 0) vL_92 rfl rfl (r_thrown hw1) m328 (by omega) rfl (dc_ok oL_law rfl) ?_
      rw [hcode]
      refine Ex_wx [764] 9 oL_law hw1 ?_
      refine And.intro (fun _ => ?_) (fun c => absurd rfl c)
      refine Ex_wx [1572] 9 oL_law hw1 ?_
      refine And.intro (fun c0 => And.intro (show vp_in (nI 0) 1 from inN (by omega) (by omega)) (And.intro (fun _ => hk _ _ _ _ _ hLI) (fun c => absurd (lgc ?_) c))) (fun _ => hk _ _ _ _ _ hLI)
      rw [hL1 c0, hv c0]
    refine Ex_wx [] 12 oL_law hw1 ?_
    refine ⟨n, ⟨h01, idxV (b := 1) (by omega) (by omega)⟩, ?_⟩
    refine ⟨n, ⟨h01, idxV (b := 2) (by omega) (by omega)⟩, ?_⟩
    refine ⟨n, ⟨h01, idxV (b := 3) (by omega) (by omega)⟩, ?_⟩
    rw [e00]
    exact hcall2
  refine Ex_wx [] 12 oL_law hw ?_
  refine ⟨n, ⟨h0, idxV (b := 1) (by omega) (by omega)⟩, ?_⟩
  refine ⟨n, ⟨h0, idxV (b := 2) (by omega) (by omega)⟩, ?_⟩
  refine ⟨n, ⟨h0, idxV (b := 3) (by omega) (by omega)⟩, ?_⟩
  exact hcall
set_option maxRecDepth 100000 in
theorem law_saved (hA : SP A) (hC : SC A g I) (hR : SR A I) (h0 : g.2.1 0 = some (.inr (.int, n))) (hn : n ≤ 2560) (hi : i + 5 ≤ n) (hd : 128 ≤ d) (hk : ∀ g' I' L' w5 w6, LI n g' I' → Ex mL_law d kc ks Q 1572 [some (vD (some 0)), some (vS 1), some (vS 328), some (vS 371), some (vI (nI i)), w5, w6] [] g' I' L') :
    Ex mL_law d (kc + 2) (ks + 14) Q 784 [some (vD (some 0)), some (vS 1), some (vS 328), some (vS 371), some (vI (nI i)), u5, u6] [] g I L := by
  obtain ⟨lx, ly, hw⟩ := hC.ws
  have h6 : rw6 A.la := fun R k h => (hC.rows R k h).2
  have hcall : Ex mL_law d (kc + 2) (ks + 14) Q 804 [some (vD (some 0)), some (vS 1), some (vS 328), some (vS 371), some (vI (nI i)), u5, u6] [vS 371, vI (I 0 (nI i + 3).toNatClampNeg), vI (I 0 (nI i + 2).toNatClampNeg), vI (I 0 (nI i + 1).toNatClampNeg), vS 1] g I L := by
    refine Ex_callSH (kc := kc) (ks := ks) (kc' := 2) (ks' := 14) (As := [vS 1, vI (I 0 (nI i + 1).toNatClampNeg), vI (I 0 (nI i + 2).toNatClampNeg), vI (I 0 (nI i + 3).toNatClampNeg), vS 371]) (st := []) (hL_122.c rfl) hL_122.2.2.2.1 (c_saved (A := A) (L := L) (d := 127) (x := (I 0 (nI i + 1).toNatClampNeg)) (y := (I 0 (nI i + 2).toNatClampNeg)) (z := (I 0 (nI i + 3).toNatClampNeg)) hC hA.1 (by omega)) (by omega) (by decide) (dc_ok oL_law rfl) ?_ (fun E g' I' L' hq => absurd hq cQ_no)
    rintro v g1 I1 L1 ⟨code, val, A', e, hREL, hC1, hF, hL1⟩
    cases e
    obtain ⟨lx1, ly1, hw1⟩ := hC1.ws
    have hA1 := sp_saved hA hREL
    have h01 : g1.2.1 0 = some (.inr (.int, n)) := hF.2.trans h0
    have hR1 := hR.fr hA.1 h6 (fun i hi => hF.1 i (Or.inr hi))
    have e00 : I1 0 = I 0 := hF.1 0 (Or.inl rfl)
    have m328 := (hw1 328 _ rfl).2.1
    have hcall2 : Ex mL_law d kc ks Q 828 [some (vD (some 0)), some (vS 1), some (vS 328), some (vS 371), some (vI (nI i)), some (vI code), u6] [vI (I 0 (nI i + 3).toNatClampNeg), vI (I 0 (nI i + 2).toNatClampNeg), vI (I 0 (nI i + 1).toNatClampNeg), vS 328] g1 I1 L1 := by
      refine Ex_cV (kc := kc) (ks := ks) (kc' := 0) (ks' := 0) (As := [vI (I 0 (nI i + 1).toNatClampNeg), vI (I 0 (nI i + 2).toNatClampNeg), vI (I 0 (nI i + 3).toNatClampNeg)]) (st := []) (d' := 8) vL_124 rfl rfl m328 (q_saved (L := L1) (d := 8) hw1 hR1 hA.1 h6 hREL (by omega)) (by omega) rfl (dc_ok oL_law rfl) ?_ (fun E g' I' L' hq => absurd hq rfQ_no)
      rintro v g2 I2 L2 ⟨rfl, rfl, ⟨v, e, hv⟩, hcode, hR2, hFr⟩
      cases e
      have hLI : LI n g2 I2 := ⟨A', hA1, hC1.fr hA1.1 hFr, hR2, h01⟩
      refine Ex_wx [] 9 oL_law hw1 ?_
      refine Ex_v (As := []) (st := []) (d' := 0) vL_92 rfl rfl (r_thrown hw1) m328 (by omega) rfl (dc_ok oL_law rfl) ?_
      rw [hcode]
      refine Ex_wx [844] 9 oL_law hw1 ?_
      refine And.intro (fun _ => ?_) (fun c => absurd rfl c)
      refine Ex_wx [1572] 9 oL_law hw1 ?_
      refine And.intro (fun c0 => And.intro (show vp_in (nI 0) 1 from inN (by omega) (by omega)) (And.intro (fun _ => hk _ _ _ _ _ hLI) (fun c => absurd (lgc ?_) c))) (fun _ => hk _ _ _ _ _ hLI)
      rw [hL1 c0, hv c0]
    refine Ex_wx [] 12 oL_law hw1 ?_
    refine ⟨n, ⟨h01, idxV (b := 1) (by omega) (by omega)⟩, ?_⟩
    refine ⟨n, ⟨h01, idxV (b := 2) (by omega) (by omega)⟩, ?_⟩
    refine ⟨n, ⟨h01, idxV (b := 3) (by omega) (by omega)⟩, ?_⟩
    rw [e00]
    exact hcall2
  refine Ex_wx [] 12 oL_law hw ?_
  refine ⟨n, ⟨h0, idxV (b := 1) (by omega) (by omega)⟩, ?_⟩
  refine ⟨n, ⟨h0, idxV (b := 2) (by omega) (by omega)⟩, ?_⟩
  refine ⟨n, ⟨h0, idxV (b := 3) (by omega) (by omega)⟩, ?_⟩
  exact hcall
set_option maxRecDepth 100000 in
theorem law_when (hA : SP A) (hC : SC A g I) (hR : SR A I) (h0 : g.2.1 0 = some (.inr (.int, n))) (hn : n ≤ 2560) (hi : i + 5 ≤ n) (hd : 128 ≤ d) (hk : ∀ g' I' L' w5 w6, LI n g' I' → Ex mL_law d kc ks Q 1572 [some (vD (some 0)), some (vS 1), some (vS 328), some (vS 371), some (vI (nI i)), w5, w6] [] g' I' L') :
    Ex mL_law d (kc + 2) (ks + 14) Q 864 [some (vD (some 0)), some (vS 1), some (vS 328), some (vS 371), some (vI (nI i)), u5, u6] [] g I L := by
  obtain ⟨lx, ly, hw⟩ := hC.ws
  have h6 : rw6 A.la := fun R k h => (hC.rows R k h).2
  have hcall : Ex mL_law d (kc + 2) (ks + 14) Q 884 [some (vD (some 0)), some (vS 1), some (vS 328), some (vS 371), some (vI (nI i)), u5, u6] [vS 371, vI (I 0 (nI i + 3).toNatClampNeg), vI (I 0 (nI i + 2).toNatClampNeg), vI (I 0 (nI i + 1).toNatClampNeg), vS 1] g I L := by
    refine Ex_callSH (kc := kc) (ks := ks) (kc' := 2) (ks' := 14) (As := [vS 1, vI (I 0 (nI i + 1).toNatClampNeg), vI (I 0 (nI i + 2).toNatClampNeg), vI (I 0 (nI i + 3).toNatClampNeg), vS 371]) (st := []) (hL_125.c rfl) hL_125.2.2.2.1 (c_when (A := A) (L := L) (d := 127) (x := (I 0 (nI i + 1).toNatClampNeg)) (y := (I 0 (nI i + 2).toNatClampNeg)) (z := (I 0 (nI i + 3).toNatClampNeg)) hC hA.1 (by omega)) (by omega) (by decide) (dc_ok oL_law rfl) ?_ (fun E g' I' L' hq => absurd hq cQ_no)
    rintro v g1 I1 L1 ⟨code, val, A', e, hREL, hC1, hF, hL1⟩
    cases e
    obtain ⟨lx1, ly1, hw1⟩ := hC1.ws
    have hA1 := sp_when hA hREL
    have h01 : g1.2.1 0 = some (.inr (.int, n)) := hF.2.trans h0
    have hR1 := hR.fr hA.1 h6 (fun i hi => hF.1 i (Or.inr hi))
    have e00 : I1 0 = I 0 := hF.1 0 (Or.inl rfl)
    have m328 := (hw1 328 _ rfl).2.1
    have hcall2 : Ex mL_law d kc ks Q 908 [some (vD (some 0)), some (vS 1), some (vS 328), some (vS 371), some (vI (nI i)), some (vI code), u6] [vI (I 0 (nI i + 3).toNatClampNeg), vI (I 0 (nI i + 2).toNatClampNeg), vI (I 0 (nI i + 1).toNatClampNeg), vS 328] g1 I1 L1 := by
      refine Ex_cV (kc := kc) (ks := ks) (kc' := 0) (ks' := 0) (As := [vI (I 0 (nI i + 1).toNatClampNeg), vI (I 0 (nI i + 2).toNatClampNeg), vI (I 0 (nI i + 3).toNatClampNeg)]) (st := []) (d' := 8) vL_127 rfl rfl m328 (q_when (L := L1) (d := 8) hw1 hR1 hA.1 h6 hREL (by omega)) (by omega) rfl (dc_ok oL_law rfl) ?_ (fun E g' I' L' hq => absurd hq rfQ_no)
      rintro v g2 I2 L2 ⟨rfl, rfl, ⟨v, e, hv⟩, hcode, hR2, hFr⟩
      cases e
      have hLI : LI n g2 I2 := ⟨A', hA1, hC1.fr hA1.1 hFr, hR2, h01⟩
      refine Ex_wx [] 9 oL_law hw1 ?_
      refine Ex_v (As := []) (st := []) (d' := 0) vL_92 rfl rfl (r_thrown hw1) m328 (by omega) rfl (dc_ok oL_law rfl) ?_
      rw [hcode]
      refine Ex_wx [924] 9 oL_law hw1 ?_
      refine And.intro (fun _ => ?_) (fun c => absurd rfl c)
      refine Ex_wx [1572] 9 oL_law hw1 ?_
      refine And.intro (fun c0 => And.intro (show vp_in (nI 0) 1 from inN (by omega) (by omega)) (And.intro (fun _ => hk _ _ _ _ _ hLI) (fun c => absurd (lgc ?_) c))) (fun _ => hk _ _ _ _ _ hLI)
      rw [hL1 c0, hv c0]
    refine Ex_wx [] 12 oL_law hw1 ?_
    refine ⟨n, ⟨h01, idxV (b := 1) (by omega) (by omega)⟩, ?_⟩
    refine ⟨n, ⟨h01, idxV (b := 2) (by omega) (by omega)⟩, ?_⟩
    refine ⟨n, ⟨h01, idxV (b := 3) (by omega) (by omega)⟩, ?_⟩
    rw [e00]
    exact hcall2
  refine Ex_wx [] 12 oL_law hw ?_
  refine ⟨n, ⟨h0, idxV (b := 1) (by omega) (by omega)⟩, ?_⟩
  refine ⟨n, ⟨h0, idxV (b := 2) (by omega) (by omega)⟩, ?_⟩
  refine ⟨n, ⟨h0, idxV (b := 3) (by omega) (by omega)⟩, ?_⟩
  exact hcall
set_option maxRecDepth 100000 in
theorem law_times (hA : SP A) (hC : SC A g I) (hR : SR A I) (h0 : g.2.1 0 = some (.inr (.int, n))) (hn : n ≤ 2560) (hi : i + 5 ≤ n) (hd : 128 ≤ d) (hk : ∀ g' I' L' w5 w6, LI n g' I' → Ex mL_law d kc ks Q 1572 [some (vD (some 0)), some (vS 1), some (vS 328), some (vS 371), some (vI (nI i)), w5, w6] [] g' I' L') :
    Ex mL_law d (kc + 2) (ks + 14) Q 944 [some (vD (some 0)), some (vS 1), some (vS 328), some (vS 371), some (vI (nI i)), u5, u6] [] g I L := by
  obtain ⟨lx, ly, hw⟩ := hC.ws
  have h6 : rw6 A.la := fun R k h => (hC.rows R k h).2
  have hcall : Ex mL_law d (kc + 2) (ks + 14) Q 972 [some (vD (some 0)), some (vS 1), some (vS 328), some (vS 371), some (vI (nI i)), u5, u6] [vS 371, vI (I 0 (nI i + 3).toNatClampNeg), vI (I 0 (nI i + 2).toNatClampNeg), vI (bz (I 0 (nI i + 1).toNatClampNeg)), vS 1] g I L := by
    refine Ex_callSH (kc := kc) (ks := ks) (kc' := 2) (ks' := 14) (As := [vS 1, vI (bz (I 0 (nI i + 1).toNatClampNeg)), vI (I 0 (nI i + 2).toNatClampNeg), vI (I 0 (nI i + 3).toNatClampNeg), vS 371]) (st := []) (hL_128.c rfl) hL_128.2.2.2.1 (c_times (A := A) (L := L) (d := 127) (b := (bz (I 0 (nI i + 1).toNatClampNeg))) (x := (I 0 (nI i + 2).toNatClampNeg)) (y := (I 0 (nI i + 3).toNatClampNeg)) hC hA.1 (bz_or _) (by omega)) (by omega) (by decide) (dc_ok oL_law rfl) ?_ (fun E g' I' L' hq => absurd hq cQ_no)
    rintro v g1 I1 L1 ⟨code, val, A', e, hREL, hC1, hF, hL1⟩
    cases e
    obtain ⟨lx1, ly1, hw1⟩ := hC1.ws
    have hA1 := sp_times hA hREL
    have h01 : g1.2.1 0 = some (.inr (.int, n)) := hF.2.trans h0
    have hR1 := hR.fr hA.1 h6 (fun i hi => hF.1 i (Or.inr hi))
    have e00 : I1 0 = I 0 := hF.1 0 (Or.inl rfl)
    have m328 := (hw1 328 _ rfl).2.1
    have hcall2 : Ex mL_law d kc ks Q 1004 [some (vD (some 0)), some (vS 1), some (vS 328), some (vS 371), some (vI (nI i)), some (vI code), u6] [vI (I 0 (nI i + 3).toNatClampNeg), vI (I 0 (nI i + 2).toNatClampNeg), vI (bz (I 0 (nI i + 1).toNatClampNeg)), vS 328] g1 I1 L1 := by
      refine Ex_cV (kc := kc) (ks := ks) (kc' := 0) (ks' := 0) (As := [vI (bz (I 0 (nI i + 1).toNatClampNeg)), vI (I 0 (nI i + 2).toNatClampNeg), vI (I 0 (nI i + 3).toNatClampNeg)]) (st := []) (d' := 8) vL_131 rfl rfl m328 (q_times (L := L1) (d := 8) hw1 hR1 hA.1 h6 (bz_or _) hREL (by omega)) (by omega) rfl (dc_ok oL_law rfl) ?_ (fun E g' I' L' hq => absurd hq rfQ_no)
      rintro v g2 I2 L2 ⟨rfl, rfl, ⟨v, e, hv⟩, hcode, hR2, hFr⟩
      cases e
      have hLI : LI n g2 I2 := ⟨A', hA1, hC1.fr hA1.1 hFr, hR2, h01⟩
      refine Ex_wx [] 9 oL_law hw1 ?_
      refine Ex_v (As := []) (st := []) (d' := 0) vL_92 rfl rfl (r_thrown hw1) m328 (by omega) rfl (dc_ok oL_law rfl) ?_
      rw [hcode]
      refine Ex_wx [1020] 9 oL_law hw1 ?_
      refine And.intro (fun _ => ?_) (fun c => absurd rfl c)
      refine Ex_wx [1572] 9 oL_law hw1 ?_
      refine And.intro (fun c0 => And.intro (show vp_in (nI 0) 1 from inN (by omega) (by omega)) (And.intro (fun _ => hk _ _ _ _ _ hLI) (fun c => absurd (lgc ?_) c))) (fun _ => hk _ _ _ _ _ hLI)
      rw [hL1 c0, hv c0]
    have hj2 : ∀ y, y = bz (I 0 (nI i + 1).toNatClampNeg) → Ex mL_law d kc ks Q 992 [some (vD (some 0)), some (vS 1), some (vS 328), some (vS 371), some (vI (nI i)), some (vI code), u6] [vI y, vS 328] g1 I1 L1 := by
      rintro y rfl
      refine Ex_wx [] 12 oL_law hw1 ?_
      refine ⟨n, ⟨h01, idxV (b := 2) (by omega) (by omega)⟩, ?_⟩
      refine ⟨n, ⟨h01, idxV (b := 3) (by omega) (by omega)⟩, ?_⟩
      rw [e00]
      exact hcall2
    refine Ex_wx [991, 992] 9 oL_law hw1 ?_
    refine ⟨n, ⟨h01, idxV (b := 1) (by omega) (by omega)⟩, ?_⟩
    rw [e00]
    refine And.intro (fun c => ?_) (fun c => hj2 1 (by unfold bz; rw [if_neg c]))
    refine Ex_bn 1 oL_law hw1 ?_
    exact hj2 0 (by unfold bz; rw [if_pos c])
  have hj1 : ∀ y, y = bz (I 0 (nI i + 1).toNatClampNeg) → Ex mL_law d (kc + 2) (ks + 14) Q 959 [some (vD (some 0)), some (vS 1), some (vS 328), some (vS 371), some (vI (nI i)), u5, u6] [vI y, vS 1] g I L := by
    rintro y rfl
    refine Ex_wx [] 12 oL_law hw ?_
    refine ⟨n, ⟨h0, idxV (b := 2) (by omega) (by omega)⟩, ?_⟩
    refine ⟨n, ⟨h0, idxV (b := 3) (by omega) (by omega)⟩, ?_⟩
    exact hcall
  refine Ex_wx [958, 959] 9 oL_law hw ?_
  refine ⟨n, ⟨h0, idxV (b := 1) (by omega) (by omega)⟩, ?_⟩
  refine And.intro (fun c => ?_) (fun c => hj1 1 (by unfold bz; rw [if_neg c]))
  refine Ex_bn 1 oL_law hw ?_
  exact hj1 0 (by unfold bz; rw [if_pos c])
set_option maxRecDepth 100000 in
theorem law_as (hA : SP A) (hC : SC A g I) (hR : SR A I) (h0 : g.2.1 0 = some (.inr (.int, n))) (hn : n ≤ 2560) (hi : i + 5 ≤ n) (hd : 128 ≤ d) (hk : ∀ g' I' L' w5 w6, LI n g' I' → Ex mL_law d kc ks Q 1572 [some (vD (some 0)), some (vS 1), some (vS 328), some (vS 371), some (vI (nI i)), w5, w6] [] g' I' L') :
    Ex mL_law d (kc + 2) (ks + 14) Q 1040 [some (vD (some 0)), some (vS 1), some (vS 328), some (vS 371), some (vI (nI i)), u5, u6] [] g I L := by
  obtain ⟨lx, ly, hw⟩ := hC.ws
  have h6 : rw6 A.la := fun R k h => (hC.rows R k h).2
  have hcall : Ex mL_law d (kc + 2) (ks + 14) Q 1054 [some (vD (some 0)), some (vS 1), some (vS 328), some (vS 371), some (vI (nI i)), u5, u6] [vS 371, vI (I 0 (nI i + 2).toNatClampNeg), vI (I 0 (nI i + 1).toNatClampNeg), vS 1] g I L := by
    refine Ex_callSH (kc := kc) (ks := ks) (kc' := 2) (ks' := 14) (As := [vS 1, vI (I 0 (nI i + 1).toNatClampNeg), vI (I 0 (nI i + 2).toNatClampNeg), vS 371]) (st := []) (hL_132.c rfl) hL_132.2.2.2.1 (c_as (A := A) (L := L) (d := 127) (z := (I 0 (nI i + 1).toNatClampNeg)) (y := (I 0 (nI i + 2).toNatClampNeg)) hC hA.1 (by omega)) (by omega) (by decide) (dc_ok oL_law rfl) ?_ (fun E g' I' L' hq => absurd hq cQ_no)
    rintro v g1 I1 L1 ⟨code, val, A', e, hREL, hC1, hF, hL1⟩
    cases e
    obtain ⟨lx1, ly1, hw1⟩ := hC1.ws
    have hA1 := sp_as hA hREL
    have h01 : g1.2.1 0 = some (.inr (.int, n)) := hF.2.trans h0
    have hR1 := hR.fr hA.1 h6 (fun i hi => hF.1 i (Or.inr hi))
    have e00 : I1 0 = I 0 := hF.1 0 (Or.inl rfl)
    have m328 := (hw1 328 _ rfl).2.1
    have hcall2 : Ex mL_law d kc ks Q 1072 [some (vD (some 0)), some (vS 1), some (vS 328), some (vS 371), some (vI (nI i)), some (vI code), u6] [vI (I 0 (nI i + 2).toNatClampNeg), vI (I 0 (nI i + 1).toNatClampNeg), vS 328] g1 I1 L1 := by
      refine Ex_cV (kc := kc) (ks := ks) (kc' := 0) (ks' := 0) (As := [vI (I 0 (nI i + 1).toNatClampNeg), vI (I 0 (nI i + 2).toNatClampNeg)]) (st := []) (d' := 8) vL_134 rfl rfl m328 (q_as (L := L1) (d := 8) hw1 hR1 hA.1 h6 hREL (by omega)) (by omega) rfl (dc_ok oL_law rfl) ?_ (fun E g' I' L' hq => absurd hq rfQ_no)
      rintro v g2 I2 L2 ⟨rfl, rfl, ⟨v, e, hv⟩, hcode, hR2, hFr⟩
      cases e
      have hLI : LI n g2 I2 := ⟨A', hA1, hC1.fr hA1.1 hFr, hR2, h01⟩
      refine Ex_wx [] 9 oL_law hw1 ?_
      refine Ex_v (As := []) (st := []) (d' := 0) vL_92 rfl rfl (r_thrown hw1) m328 (by omega) rfl (dc_ok oL_law rfl) ?_
      rw [hcode]
      refine Ex_wx [1088] 9 oL_law hw1 ?_
      refine And.intro (fun _ => ?_) (fun c => absurd rfl c)
      refine Ex_wx [1572] 9 oL_law hw1 ?_
      refine And.intro (fun c0 => And.intro (show vp_in (nI 0) 1 from inN (by omega) (by omega)) (And.intro (fun _ => hk _ _ _ _ _ hLI) (fun c => absurd (lgc ?_) c))) (fun _ => hk _ _ _ _ _ hLI)
      rw [hL1 c0, hv c0]
    refine Ex_wx [] 12 oL_law hw1 ?_
    refine ⟨n, ⟨h01, idxV (b := 1) (by omega) (by omega)⟩, ?_⟩
    refine ⟨n, ⟨h01, idxV (b := 2) (by omega) (by omega)⟩, ?_⟩
    rw [e00]
    exact hcall2
  refine Ex_wx [] 12 oL_law hw ?_
  refine ⟨n, ⟨h0, idxV (b := 1) (by omega) (by omega)⟩, ?_⟩
  refine ⟨n, ⟨h0, idxV (b := 2) (by omega) (by omega)⟩, ?_⟩
  exact hcall
set_option maxRecDepth 100000 in
theorem law_order (hA : SP A) (hC : SC A g I) (hR : SR A I) (h0 : g.2.1 0 = some (.inr (.int, n))) (hn : n ≤ 2560) (hi : i + 5 ≤ n) (hd : 128 ≤ d) (hk : ∀ g' I' L' w5 w6, LI n g' I' → Ex mL_law d kc ks Q 1572 [some (vD (some 0)), some (vS 1), some (vS 328), some (vS 371), some (vI (nI i)), w5, w6] [] g' I' L') :
    Ex mL_law d (kc + 2) (ks + 14) Q 1108 [some (vD (some 0)), some (vS 1), some (vS 328), some (vS 371), some (vI (nI i)), u5, u6] [] g I L := by
  obtain ⟨lx, ly, hw⟩ := hC.ws
  have h6 : rw6 A.la := fun R k h => (hC.rows R k h).2
  have hcall : Ex mL_law d (kc + 2) (ks + 14) Q 1134 [some (vD (some 0)), some (vS 1), some (vS 328), some (vS 371), some (vI (nI i)), u5, u6] [vS 371, vI (I 0 (nI i + 4).toNatClampNeg), vI (I 0 (nI i + 3).toNatClampNeg), vI (I 0 (nI i + 2).toNatClampNeg), vI (I 0 (nI i + 1).toNatClampNeg), vS 1] g I L := by
    refine Ex_callSH (kc := kc) (ks := ks) (kc' := 2) (ks' := 14) (As := [vS 1, vI (I 0 (nI i + 1).toNatClampNeg), vI (I 0 (nI i + 2).toNatClampNeg), vI (I 0 (nI i + 3).toNatClampNeg), vI (I 0 (nI i + 4).toNatClampNeg), vS 371]) (st := []) (hL_135.c rfl) hL_135.2.2.2.1 (c_order (A := A) (L := L) (d := 127) (a := (I 0 (nI i + 1).toNatClampNeg)) (b := (I 0 (nI i + 2).toNatClampNeg)) (c := (I 0 (nI i + 3).toNatClampNeg)) (e := (I 0 (nI i + 4).toNatClampNeg)) hC hA.1 (by omega)) (by omega) (by decide) (dc_ok oL_law rfl) ?_ (fun E g' I' L' hq => absurd hq cQ_no)
    rintro v g1 I1 L1 ⟨code, val, A', e, hREL, hC1, hF, hL1⟩
    cases e
    obtain ⟨lx1, ly1, hw1⟩ := hC1.ws
    have hA1 := sp_order hA hREL
    have h01 : g1.2.1 0 = some (.inr (.int, n)) := hF.2.trans h0
    have hR1 := hR.fr hA.1 h6 (fun i hi => hF.1 i (Or.inr hi))
    have e00 : I1 0 = I 0 := hF.1 0 (Or.inl rfl)
    have m328 := (hw1 328 _ rfl).2.1
    have hcall2 : Ex mL_law d kc ks Q 1164 [some (vD (some 0)), some (vS 1), some (vS 328), some (vS 371), some (vI (nI i)), some (vI code), u6] [vI (I 0 (nI i + 4).toNatClampNeg), vI (I 0 (nI i + 3).toNatClampNeg), vI (I 0 (nI i + 2).toNatClampNeg), vI (I 0 (nI i + 1).toNatClampNeg), vS 328] g1 I1 L1 := by
      refine Ex_cV (kc := kc) (ks := ks) (kc' := 0) (ks' := 0) (As := [vI (I 0 (nI i + 1).toNatClampNeg), vI (I 0 (nI i + 2).toNatClampNeg), vI (I 0 (nI i + 3).toNatClampNeg), vI (I 0 (nI i + 4).toNatClampNeg)]) (st := []) (d' := 8) vL_138 rfl rfl m328 (q_order (L := L1) (d := 8) hw1 hR1 hA.1 h6 hREL (by omega)) (by omega) rfl (dc_ok oL_law rfl) ?_ (fun E g' I' L' hq => absurd hq rfQ_no)
      rintro v g2 I2 L2 ⟨rfl, rfl, ⟨v, e, hv⟩, hcode, hR2, hFr⟩
      cases e
      have hLI : LI n g2 I2 := ⟨A', hA1, hC1.fr hA1.1 hFr, hR2, h01⟩
      refine Ex_wx [] 9 oL_law hw1 ?_
      refine Ex_v (As := []) (st := []) (d' := 0) vL_92 rfl rfl (r_thrown hw1) m328 (by omega) rfl (dc_ok oL_law rfl) ?_
      rw [hcode]
      refine Ex_wx [1180] 9 oL_law hw1 ?_
      refine And.intro (fun _ => ?_) (fun c => absurd rfl c)
      refine Ex_wx [1572] 9 oL_law hw1 ?_
      refine And.intro (fun c0 => And.intro (show vp_in (nI 0) 1 from inN (by omega) (by omega)) (And.intro (fun _ => hk _ _ _ _ _ hLI) (fun c => absurd (lgc ?_) c))) (fun _ => hk _ _ _ _ _ hLI)
      rw [hL1 c0, hv c0]
    refine Ex_wx [] 12 oL_law hw1 ?_
    refine ⟨n, ⟨h01, idxV (b := 1) (by omega) (by omega)⟩, ?_⟩
    refine ⟨n, ⟨h01, idxV (b := 2) (by omega) (by omega)⟩, ?_⟩
    refine ⟨n, ⟨h01, idxV (b := 3) (by omega) (by omega)⟩, ?_⟩
    refine ⟨n, ⟨h01, idxV (b := 4) (by omega) (by omega)⟩, ?_⟩
    rw [e00]
    exact hcall2
  refine Ex_wx [] 12 oL_law hw ?_
  refine ⟨n, ⟨h0, idxV (b := 1) (by omega) (by omega)⟩, ?_⟩
  refine ⟨n, ⟨h0, idxV (b := 2) (by omega) (by omega)⟩, ?_⟩
  refine ⟨n, ⟨h0, idxV (b := 3) (by omega) (by omega)⟩, ?_⟩
  refine ⟨n, ⟨h0, idxV (b := 4) (by omega) (by omega)⟩, ?_⟩
  exact hcall
set_option maxRecDepth 100000 in
theorem law_needs (hA : SP A) (hC : SC A g I) (hR : SR A I) (h0 : g.2.1 0 = some (.inr (.int, n))) (hn : n ≤ 2560) (hi : i + 5 ≤ n) (hd : 128 ≤ d) (hk : ∀ g' I' L' w5 w6, LI n g' I' → Ex mL_law d kc ks Q 1572 [some (vD (some 0)), some (vS 1), some (vS 328), some (vS 371), some (vI (nI i)), w5, w6] [] g' I' L') :
    Ex mL_law d (kc + 2) (ks + 14) Q 1200 [some (vD (some 0)), some (vS 1), some (vS 328), some (vS 371), some (vI (nI i)), u5, u6] [] g I L := by
  obtain ⟨lx, ly, hw⟩ := hC.ws
  have h6 : rw6 A.la := fun R k h => (hC.rows R k h).2
  have hcall : Ex mL_law d (kc + 2) (ks + 14) Q 1208 [some (vD (some 0)), some (vS 1), some (vS 328), some (vS 371), some (vI (nI i)), u5, u6] [vS 371, vI (I 0 (nI i + 1).toNatClampNeg), vS 1] g I L := by
    refine Ex_callSH (kc := kc) (ks := ks) (kc' := 2) (ks' := 14) (As := [vS 1, vI (I 0 (nI i + 1).toNatClampNeg), vS 371]) (st := []) (hL_139.c rfl) hL_139.2.2.2.1 (c_needs (A := A) (L := L) (d := 127) (x := (I 0 (nI i + 1).toNatClampNeg)) hC hA.1 (by omega)) (by omega) (by decide) (dc_ok oL_law rfl) ?_ (fun E g' I' L' hq => absurd hq cQ_no)
    rintro v g1 I1 L1 ⟨code, val, A', e, hREL, hC1, hF, hL1⟩
    cases e
    obtain ⟨lx1, ly1, hw1⟩ := hC1.ws
    have hA1 := sp_needs hA hREL
    have h01 : g1.2.1 0 = some (.inr (.int, n)) := hF.2.trans h0
    have hR1 := hR.fr hA.1 h6 (fun i hi => hF.1 i (Or.inr hi))
    have e00 : I1 0 = I 0 := hF.1 0 (Or.inl rfl)
    have m328 := (hw1 328 _ rfl).2.1
    have hcall2 : Ex mL_law d kc ks Q 1220 [some (vD (some 0)), some (vS 1), some (vS 328), some (vS 371), some (vI (nI i)), some (vI code), u6] [vI (I 0 (nI i + 1).toNatClampNeg), vS 328] g1 I1 L1 := by
      refine Ex_cV (kc := kc) (ks := ks) (kc' := 0) (ks' := 0) (As := [vI (I 0 (nI i + 1).toNatClampNeg)]) (st := []) (d' := 8) vL_142 rfl rfl m328 (q_needs (L := L1) (d := 8) hw1 hR1 hA.1 h6 hREL (by omega)) (by omega) rfl (dc_ok oL_law rfl) ?_ (fun E g' I' L' hq => absurd hq rfQ_no)
      rintro v g2 I2 L2 ⟨rfl, rfl, ⟨v, e, hv⟩, hcode, hR2, hFr⟩
      cases e
      have hLI : LI n g2 I2 := ⟨A', hA1, hC1.fr hA1.1 hFr, hR2, h01⟩
      refine Ex_wx [] 9 oL_law hw1 ?_
      refine Ex_v (As := []) (st := []) (d' := 0) vL_92 rfl rfl (r_thrown hw1) m328 (by omega) rfl (dc_ok oL_law rfl) ?_
      rw [hcode]
      refine Ex_wx [1236] 9 oL_law hw1 ?_
      refine And.intro (fun _ => ?_) (fun c => absurd rfl c)
      refine Ex_wx [1572] 9 oL_law hw1 ?_
      refine And.intro (fun c0 => And.intro (show vp_in (nI 0) 1 from inN (by omega) (by omega)) (And.intro (fun _ => hk _ _ _ _ _ hLI) (fun c => absurd (lgc ?_) c))) (fun _ => hk _ _ _ _ _ hLI)
      rw [hL1 c0, hv c0]
    refine Ex_wx [] 12 oL_law hw1 ?_
    refine ⟨n, ⟨h01, idxV (b := 1) (by omega) (by omega)⟩, ?_⟩
    rw [e00]
    exact hcall2
  refine Ex_wx [] 12 oL_law hw ?_
  refine ⟨n, ⟨h0, idxV (b := 1) (by omega) (by omega)⟩, ?_⟩
  exact hcall
set_option maxRecDepth 100000 in
theorem law_run (hA : SP A) (hC : SC A g I) (hR : SR A I) (h0 : g.2.1 0 = some (.inr (.int, n))) (hn : n ≤ 2560) (hi : i + 5 ≤ n) (hd : 128 ≤ d) (hk : ∀ g' I' L' w5 w6, LI n g' I' → Ex mL_law d kc ks Q 1572 [some (vD (some 0)), some (vS 1), some (vS 328), some (vS 371), some (vI (nI i)), w5, w6] [] g' I' L') :
    Ex mL_law d (kc + 2) (ks + 14) Q 1256 [some (vD (some 0)), some (vS 1), some (vS 328), some (vS 371), some (vI (nI i)), u5, u6] [] g I L := by
  obtain ⟨lx, ly, hw⟩ := hC.ws
  have h6 : rw6 A.la := fun R k h => (hC.rows R k h).2
  have hcall : Ex mL_law d (kc + 2) (ks + 14) Q 1276 [some (vD (some 0)), some (vS 1), some (vS 328), some (vS 371), some (vI (nI i)), u5, u6] [vS 371, vI (I 0 (nI i + 3).toNatClampNeg), vI (I 0 (nI i + 2).toNatClampNeg), vI (I 0 (nI i + 1).toNatClampNeg), vS 1] g I L := by
    refine Ex_callSH (kc := kc) (ks := ks) (kc' := 2) (ks' := 14) (As := [vS 1, vI (I 0 (nI i + 1).toNatClampNeg), vI (I 0 (nI i + 2).toNatClampNeg), vI (I 0 (nI i + 3).toNatClampNeg), vS 371]) (st := []) (hL_143.c rfl) hL_143.2.2.2.1 (c_run (A := A) (L := L) (d := 127) (x := (I 0 (nI i + 1).toNatClampNeg)) (s := (I 0 (nI i + 2).toNatClampNeg)) (z := (I 0 (nI i + 3).toNatClampNeg)) hC hA.1 (by omega)) (by omega) (by decide) (dc_ok oL_law rfl) ?_ (fun E g' I' L' hq => absurd hq cQ_no)
    rintro v g1 I1 L1 ⟨code, val, A', e, hREL, hC1, hF, hL1⟩
    cases e
    obtain ⟨lx1, ly1, hw1⟩ := hC1.ws
    have hA1 := sp_run hA hREL
    have h01 : g1.2.1 0 = some (.inr (.int, n)) := hF.2.trans h0
    have hR1 := hR.fr hA.1 h6 (fun i hi => hF.1 i (Or.inr hi))
    have e00 : I1 0 = I 0 := hF.1 0 (Or.inl rfl)
    have m328 := (hw1 328 _ rfl).2.1
    have hcall2 : Ex mL_law d kc ks Q 1300 [some (vD (some 0)), some (vS 1), some (vS 328), some (vS 371), some (vI (nI i)), some (vI code), u6] [vI (I 0 (nI i + 3).toNatClampNeg), vI (I 0 (nI i + 2).toNatClampNeg), vI (I 0 (nI i + 1).toNatClampNeg), vS 328] g1 I1 L1 := by
      refine Ex_cV (kc := kc) (ks := ks) (kc' := 0) (ks' := 0) (As := [vI (I 0 (nI i + 1).toNatClampNeg), vI (I 0 (nI i + 2).toNatClampNeg), vI (I 0 (nI i + 3).toNatClampNeg)]) (st := []) (d' := 8) vL_145 rfl rfl m328 (q_run (L := L1) (d := 8) hw1 hR1 hA h6 hREL (by omega)) (by omega) rfl (dc_ok oL_law rfl) ?_ (fun E g' I' L' hq => absurd hq rfQ_no)
      rintro v g2 I2 L2 ⟨rfl, rfl, ⟨v, e, hv⟩, hcode, hR2, hFr⟩
      cases e
      have hLI : LI n g2 I2 := ⟨A', hA1, hC1.fr hA1.1 hFr, hR2, h01⟩
      refine Ex_wx [] 9 oL_law hw1 ?_
      refine Ex_v (As := []) (st := []) (d' := 0) vL_92 rfl rfl (r_thrown hw1) m328 (by omega) rfl (dc_ok oL_law rfl) ?_
      rw [hcode]
      refine Ex_wx [1316] 9 oL_law hw1 ?_
      refine And.intro (fun _ => ?_) (fun c => absurd rfl c)
      refine Ex_wx [1572] 9 oL_law hw1 ?_
      refine And.intro (fun c0 => And.intro (show vp_in (nI 0) 1 from inN (by omega) (by omega)) (And.intro (fun _ => hk _ _ _ _ _ hLI) (fun c => absurd (lgc ?_) c))) (fun _ => hk _ _ _ _ _ hLI)
      rw [hL1 c0, hv c0]
    refine Ex_wx [] 12 oL_law hw1 ?_
    refine ⟨n, ⟨h01, idxV (b := 1) (by omega) (by omega)⟩, ?_⟩
    refine ⟨n, ⟨h01, idxV (b := 2) (by omega) (by omega)⟩, ?_⟩
    refine ⟨n, ⟨h01, idxV (b := 3) (by omega) (by omega)⟩, ?_⟩
    rw [e00]
    exact hcall2
  refine Ex_wx [] 12 oL_law hw ?_
  refine ⟨n, ⟨h0, idxV (b := 1) (by omega) (by omega)⟩, ?_⟩
  refine ⟨n, ⟨h0, idxV (b := 2) (by omega) (by omega)⟩, ?_⟩
  refine ⟨n, ⟨h0, idxV (b := 3) (by omega) (by omega)⟩, ?_⟩
  exact hcall
set_option maxRecDepth 100000 in
theorem law_result (hA : SP A) (hC : SC A g I) (hR : SR A I) (h0 : g.2.1 0 = some (.inr (.int, n))) (hn : n ≤ 2560) (hi : i + 5 ≤ n) (hd : 128 ≤ d) (hk : ∀ g' I' L' w5 w6, LI n g' I' → Ex mL_law d kc ks Q 1572 [some (vD (some 0)), some (vS 1), some (vS 328), some (vS 371), some (vI (nI i)), w5, w6] [] g' I' L') :
    Ex mL_law d (kc + 2) (ks + 14) Q 1336 [some (vD (some 0)), some (vS 1), some (vS 328), some (vS 371), some (vI (nI i)), u5, u6] [] g I L := by
  obtain ⟨lx, ly, hw⟩ := hC.ws
  have h6 : rw6 A.la := fun R k h => (hC.rows R k h).2
  have hcall : Ex mL_law d (kc + 2) (ks + 14) Q 1350 [some (vD (some 0)), some (vS 1), some (vS 328), some (vS 371), some (vI (nI i)), u5, u6] [vS 371, vI (I 0 (nI i + 2).toNatClampNeg), vI (I 0 (nI i + 1).toNatClampNeg), vS 1] g I L := by
    refine Ex_callSH (kc := kc) (ks := ks) (kc' := 2) (ks' := 14) (As := [vS 1, vI (I 0 (nI i + 1).toNatClampNeg), vI (I 0 (nI i + 2).toNatClampNeg), vS 371]) (st := []) (hL_146.c rfl) hL_146.2.2.2.1 (c_result (A := A) (L := L) (d := 127) (x := (I 0 (nI i + 1).toNatClampNeg)) (y := (I 0 (nI i + 2).toNatClampNeg)) hC hA.1 (by omega)) (by omega) (by decide) (dc_ok oL_law rfl) ?_ (fun E g' I' L' hq => absurd hq cQ_no)
    rintro v g1 I1 L1 ⟨code, val, A', e, hREL, hC1, hF, hL1⟩
    cases e
    obtain ⟨lx1, ly1, hw1⟩ := hC1.ws
    have hA1 := sp_tell hA hREL
    have h01 : g1.2.1 0 = some (.inr (.int, n)) := hF.2.trans h0
    have hR1 := hR.fr hA.1 h6 (fun i hi => hF.1 i (Or.inr hi))
    have e00 : I1 0 = I 0 := hF.1 0 (Or.inl rfl)
    have m328 := (hw1 328 _ rfl).2.1
    have hcall2 : Ex mL_law d kc ks Q 1368 [some (vD (some 0)), some (vS 1), some (vS 328), some (vS 371), some (vI (nI i)), some (vI code), u6] [vI (I 0 (nI i + 2).toNatClampNeg), vI (I 0 (nI i + 1).toNatClampNeg), vS 328] g1 I1 L1 := by
      refine Ex_cV (kc := kc) (ks := ks) (kc' := 0) (ks' := 0) (As := [vI (I 0 (nI i + 1).toNatClampNeg), vI (I 0 (nI i + 2).toNatClampNeg)]) (st := []) (d' := 8) vL_148 rfl rfl m328 (q_result (L := L1) (d := 8) hw1 hR1 hA.1 hC.rows hREL (by omega)) (by omega) rfl (dc_ok oL_law rfl) ?_ (fun E g' I' L' hq => absurd hq rfQ_no)
      rintro v g2 I2 L2 ⟨rfl, rfl, ⟨v, e, hv⟩, hcode, hR2, hFr⟩
      cases e
      have hLI : LI n g2 I2 := ⟨A', hA1, hC1.fr hA1.1 hFr, hR2, h01⟩
      refine Ex_wx [] 9 oL_law hw1 ?_
      refine Ex_v (As := []) (st := []) (d' := 0) vL_92 rfl rfl (r_thrown hw1) m328 (by omega) rfl (dc_ok oL_law rfl) ?_
      rw [hcode]
      refine Ex_wx [1384] 9 oL_law hw1 ?_
      refine And.intro (fun _ => ?_) (fun c => absurd rfl c)
      refine Ex_wx [1572] 9 oL_law hw1 ?_
      refine And.intro (fun c0 => And.intro (show vp_in (nI 0) 1 from inN (by omega) (by omega)) (And.intro (fun _ => hk _ _ _ _ _ hLI) (fun c => absurd (lgc ?_) c))) (fun _ => hk _ _ _ _ _ hLI)
      rw [hL1 c0, hv c0]
    refine Ex_wx [] 12 oL_law hw1 ?_
    refine ⟨n, ⟨h01, idxV (b := 1) (by omega) (by omega)⟩, ?_⟩
    refine ⟨n, ⟨h01, idxV (b := 2) (by omega) (by omega)⟩, ?_⟩
    rw [e00]
    exact hcall2
  refine Ex_wx [] 12 oL_law hw ?_
  refine ⟨n, ⟨h0, idxV (b := 1) (by omega) (by omega)⟩, ?_⟩
  refine ⟨n, ⟨h0, idxV (b := 2) (by omega) (by omega)⟩, ?_⟩
  exact hcall
set_option maxRecDepth 100000 in
theorem law_shared (hA : SP A) (hC : SC A g I) (hR : SR A I) (h0 : g.2.1 0 = some (.inr (.int, n))) (hn : n ≤ 2560) (hi : i + 5 ≤ n) (hd : 128 ≤ d) (hk : ∀ g' I' L' w5 w6, LI n g' I' → Ex mL_law d kc ks Q 1572 [some (vD (some 0)), some (vS 1), some (vS 328), some (vS 371), some (vI (nI i)), w5, w6] [] g' I' L') :
    Ex mL_law d (kc + 2) (ks + 14) Q 1404 [some (vD (some 0)), some (vS 1), some (vS 328), some (vS 371), some (vI (nI i)), u5, u6] [] g I L := by
  obtain ⟨lx, ly, hw⟩ := hC.ws
  have h6 : rw6 A.la := fun R k h => (hC.rows R k h).2
  have hcall : Ex mL_law d (kc + 2) (ks + 14) Q 1412 [some (vD (some 0)), some (vS 1), some (vS 328), some (vS 371), some (vI (nI i)), u5, u6] [vS 371, vI (I 0 (nI i + 1).toNatClampNeg), vS 1] g I L := by
    refine Ex_callSH (kc := kc) (ks := ks) (kc' := 2) (ks' := 14) (As := [vS 1, vI (I 0 (nI i + 1).toNatClampNeg), vS 371]) (st := []) (hL_149.c rfl) hL_149.2.2.2.1 (c_shared (A := A) (L := L) (d := 127) (y := (I 0 (nI i + 1).toNatClampNeg)) hC hA.1 (by omega)) (by omega) (by decide) (dc_ok oL_law rfl) ?_ (fun E g' I' L' hq => absurd hq cQ_no)
    rintro v g1 I1 L1 ⟨code, val, A', e, hREL, hC1, hF, hL1⟩
    cases e
    obtain ⟨lx1, ly1, hw1⟩ := hC1.ws
    have hA1 := sp_tell hA hREL
    have h01 : g1.2.1 0 = some (.inr (.int, n)) := hF.2.trans h0
    have hR1 := hR.fr hA.1 h6 (fun i hi => hF.1 i (Or.inr hi))
    have e00 : I1 0 = I 0 := hF.1 0 (Or.inl rfl)
    have m328 := (hw1 328 _ rfl).2.1
    have hcall2 : Ex mL_law d kc ks Q 1424 [some (vD (some 0)), some (vS 1), some (vS 328), some (vS 371), some (vI (nI i)), some (vI code), u6] [vI (I 0 (nI i + 1).toNatClampNeg), vS 328] g1 I1 L1 := by
      refine Ex_cV (kc := kc) (ks := ks) (kc' := 0) (ks' := 0) (As := [vI (I 0 (nI i + 1).toNatClampNeg)]) (st := []) (d' := 8) vL_151 rfl rfl m328 (q_shared (L := L1) (d := 8) hw1 hR1 hA.1 hC.rows hREL (by omega)) (by omega) rfl (dc_ok oL_law rfl) ?_ (fun E g' I' L' hq => absurd hq rfQ_no)
      rintro v g2 I2 L2 ⟨rfl, rfl, ⟨v, e, hv⟩, hcode, hR2, hFr⟩
      cases e
      have hLI : LI n g2 I2 := ⟨A', hA1, hC1.fr hA1.1 hFr, hR2, h01⟩
      refine Ex_wx [] 9 oL_law hw1 ?_
      refine Ex_v (As := []) (st := []) (d' := 0) vL_92 rfl rfl (r_thrown hw1) m328 (by omega) rfl (dc_ok oL_law rfl) ?_
      rw [hcode]
      refine Ex_wx [1440] 9 oL_law hw1 ?_
      refine And.intro (fun _ => ?_) (fun c => absurd rfl c)
      refine Ex_wx [1572] 9 oL_law hw1 ?_
      refine And.intro (fun c0 => And.intro (show vp_in (nI 0) 1 from inN (by omega) (by omega)) (And.intro (fun _ => hk _ _ _ _ _ hLI) (fun c => absurd (lgc ?_) c))) (fun _ => hk _ _ _ _ _ hLI)
      rw [hL1 c0, hv c0]
    refine Ex_wx [] 12 oL_law hw1 ?_
    refine ⟨n, ⟨h01, idxV (b := 1) (by omega) (by omega)⟩, ?_⟩
    rw [e00]
    exact hcall2
  refine Ex_wx [] 12 oL_law hw ?_
  refine ⟨n, ⟨h0, idxV (b := 1) (by omega) (by omega)⟩, ?_⟩
  exact hcall
set_option maxRecDepth 100000 in
theorem law_alike (hA : SP A) (hC : SC A g I) (hR : SR A I) (h0 : g.2.1 0 = some (.inr (.int, n))) (hn : n ≤ 2560) (hi : i + 5 ≤ n) (hd : 128 ≤ d) (hk : ∀ g' I' L' w5 w6, LI n g' I' → Ex mL_law d kc ks Q 1572 [some (vD (some 0)), some (vS 1), some (vS 328), some (vS 371), some (vI (nI i)), w5, w6] [] g' I' L') :
    Ex mL_law d (kc + 2) (ks + 14) Q 1460 [some (vD (some 0)), some (vS 1), some (vS 328), some (vS 371), some (vI (nI i)), u5, u6] [] g I L := by
  obtain ⟨lx, ly, hw⟩ := hC.ws
  have h6 : rw6 A.la := fun R k h => (hC.rows R k h).2
  have hcall : Ex mL_law d (kc + 2) (ks + 14) Q 1486 [some (vD (some 0)), some (vS 1), some (vS 328), some (vS 371), some (vI (nI i)), u5, u6] [vS 371, vI (I 0 (nI i + 4).toNatClampNeg), vI (I 0 (nI i + 3).toNatClampNeg), vI (I 0 (nI i + 2).toNatClampNeg), vI (I 0 (nI i + 1).toNatClampNeg), vS 1] g I L := by
    refine Ex_callSH (kc := kc) (ks := ks) (kc' := 2) (ks' := 14) (As := [vS 1, vI (I 0 (nI i + 1).toNatClampNeg), vI (I 0 (nI i + 2).toNatClampNeg), vI (I 0 (nI i + 3).toNatClampNeg), vI (I 0 (nI i + 4).toNatClampNeg), vS 371]) (st := []) (hL_152.c rfl) hL_152.2.2.2.1 (c_alike (A := A) (L := L) (d := 127) (x := (I 0 (nI i + 1).toNatClampNeg)) (y := (I 0 (nI i + 2).toNatClampNeg)) (s := (I 0 (nI i + 3).toNatClampNeg)) (z := (I 0 (nI i + 4).toNatClampNeg)) hC hA.1 (by omega)) (by omega) (by decide) (dc_ok oL_law rfl) ?_ (fun E g' I' L' hq => absurd hq cQ_no)
    rintro v g1 I1 L1 ⟨code, val, A', e, hREL, hC1, hF, hL1⟩
    cases e
    obtain ⟨lx1, ly1, hw1⟩ := hC1.ws
    have hA1 := sp_alike hA hREL
    have h01 : g1.2.1 0 = some (.inr (.int, n)) := hF.2.trans h0
    have hR1 := hR.fr hA.1 h6 (fun i hi => hF.1 i (Or.inr hi))
    have e00 : I1 0 = I 0 := hF.1 0 (Or.inl rfl)
    have m328 := (hw1 328 _ rfl).2.1
    have hcall2 : Ex mL_law d kc ks Q 1516 [some (vD (some 0)), some (vS 1), some (vS 328), some (vS 371), some (vI (nI i)), some (vI code), u6] [vI (I 0 (nI i + 4).toNatClampNeg), vI (I 0 (nI i + 3).toNatClampNeg), vI (I 0 (nI i + 2).toNatClampNeg), vI (I 0 (nI i + 1).toNatClampNeg), vS 328] g1 I1 L1 := by
      refine Ex_cV (kc := kc) (ks := ks) (kc' := 0) (ks' := 0) (As := [vI (I 0 (nI i + 1).toNatClampNeg), vI (I 0 (nI i + 2).toNatClampNeg), vI (I 0 (nI i + 3).toNatClampNeg), vI (I 0 (nI i + 4).toNatClampNeg)]) (st := []) (d' := 8) vL_154 rfl rfl m328 (q_alike (L := L1) (d := 8) hw1 hR1 hA h6 hREL (by omega)) (by omega) rfl (dc_ok oL_law rfl) ?_ (fun E g' I' L' hq => absurd hq rfQ_no)
      rintro v g2 I2 L2 ⟨rfl, rfl, ⟨v, e, hv⟩, hcode, hR2, hFr⟩
      cases e
      have hLI : LI n g2 I2 := ⟨A', hA1, hC1.fr hA1.1 hFr, hR2, h01⟩
      refine Ex_wx [] 9 oL_law hw1 ?_
      refine Ex_v (As := []) (st := []) (d' := 0) vL_92 rfl rfl (r_thrown hw1) m328 (by omega) rfl (dc_ok oL_law rfl) ?_
      rw [hcode]
      refine Ex_wx [1532] 9 oL_law hw1 ?_
      refine And.intro (fun _ => ?_) (fun c => absurd rfl c)
      refine Ex_wx [1537, 1572] 9 oL_law hw1 ?_
      refine And.intro (fun c0 => ?_) (fun _ => hk _ _ _ _ _ hLI)
      have hval : val = 0 ∨ val = 1 := by
        obtain ⟨-, ⟨-, -, -, -, W, W', ⟨e, -⟩ | ⟨e, -⟩⟩ | ⟨e, -⟩ | ⟨e, -⟩ | ⟨e, -⟩⟩ := hREL
        · exact Or.inr e
        · exact Or.inl e
        · rw [e] at c0; exact absurd c0 (by decide)
        · rw [e] at c0; exact absurd c0 (by decide)
        · rw [e] at c0; exact absurd c0 (by decide)
      have hv0 := hv c0
      subst hv0
      refine Ex_wx [1572] 9 oL_law hw1 ?_
      refine And.intro (show vp_in (nI 0) 1 from inN (by omega) (by omega)) ?_
      refine And.intro (fun c => And.intro (fun _ => hk _ _ _ _ _ hLI) (fun c2 => absurd (lgc ?_) c2)) (fun c => And.intro (fun _ => hk _ _ _ _ _ hLI) (fun c2 => absurd (lgc ?_) c2))
      · rw [hL1 c0, c]
      · rw [hL1 c0, hval.resolve_left c]
    refine Ex_wx [] 12 oL_law hw1 ?_
    refine ⟨n, ⟨h01, idxV (b := 1) (by omega) (by omega)⟩, ?_⟩
    refine ⟨n, ⟨h01, idxV (b := 2) (by omega) (by omega)⟩, ?_⟩
    refine ⟨n, ⟨h01, idxV (b := 3) (by omega) (by omega)⟩, ?_⟩
    refine ⟨n, ⟨h01, idxV (b := 4) (by omega) (by omega)⟩, ?_⟩
    rw [e00]
    exact hcall2
  refine Ex_wx [] 12 oL_law hw ?_
  refine ⟨n, ⟨h0, idxV (b := 1) (by omega) (by omega)⟩, ?_⟩
  refine ⟨n, ⟨h0, idxV (b := 2) (by omega) (by omega)⟩, ?_⟩
  refine ⟨n, ⟨h0, idxV (b := 3) (by omega) (by omega)⟩, ?_⟩
  refine ⟨n, ⟨h0, idxV (b := 4) (by omega) (by omega)⟩, ?_⟩
  exact hcall
set_option maxRecDepth 100000 in
theorem law_terms (hA : SP A) (hC : SC A g I) (hR : SR A I) (h0 : g.2.1 0 = some (.inr (.int, n))) (hd : 128 ≤ d) (hk : ∀ g' I' L' w5 w6, LI n g' I' → Ex mL_law d kc ks Q 1572 [some (vD (some 0)), some (vS 1), some (vS 328), some (vS 371), some (vI (nI i)), w5, w6] [] g' I' L') :
    Ex mL_law d (kc + 2) (ks + 14) Q 1559 [some (vD (some 0)), some (vS 1), some (vS 328), some (vS 371), some (vI (nI i)), u5, u6] [] g I L := by
  obtain ⟨lx, ly, τ, hI, hl⟩ := id hC
  have hw := hI.1.1
  have h6 : rw6 A.la := fun R k h => (hC.rows R k h).2
  have m1 := (hw 1 _ rfl).2.1
  have m328 := (hw 328 _ rfl).2.1
  refine Ex_wide (kc := kc) (ks := ks) ?_ (by omega) (by omega)
  refine Ex_wx [] 9 oL_law hw ?_
  refine Ex_v (As := []) (st := []) (d' := 0) vL_155 rfl rfl (e8_terms hI.1) m1 (by omega) rfl (dc_ok oL_law rfl) ?_
  refine Ex_wx [] 9 oL_law hw ?_
  refine Ex_cV (kc := kc) (ks := ks) (kc' := 0) (ks' := 0) (As := []) (st := [vI (nI A.cnt)]) (d' := 0) vL_158 rfl rfl m328 (q_terms hw hR hA.1 h6) (by omega) rfl (dc_ok oL_law rfl) ?_ (fun E g' I' L' hq => absurd hq rfQ_no)
  rintro v g2 I2 L2 ⟨rfl, rfl, ⟨v, e, hv⟩, hcode, hR2, hFr⟩
  cases e
  have hv0 := hv rfl
  subst hv0
  refine Ex_wx [1572] 9 oL_law hw ?_
  exact And.intro (fun _ => hk _ _ _ _ _ ⟨A, hA, hC.fr hA.1 hFr, hR2, h0⟩) (fun c => absurd rfl c)
end LawC
