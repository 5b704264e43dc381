/-! the class: alike; what stands after a TERM is made -/
section CAlike
variable {lx ly : Nat} {g : aG} {I : aI} {L : aL} {d cnt : Nat} {τ hg nd : Nat → Nat} {B : mB} {p : Nat → Int32} {x y z s : Int32}
theorem or_lk {p : Nat → Int32} {n m : Nat} : lkP p (n ||| m) ↔ lkP p n ∧ lkP p m := by
  unfold lkP
  constructor
  · intro h
    exact ⟨fun l hl hb => h l hl (by rw [Nat.testBit_or, hb, Bool.true_or]), fun l hl hb => h l hl (by rw [Nat.testBit_or, hb, Bool.or_true])⟩
  · intro h l hl hb
    rw [Nat.testBit_or, Bool.or_eq_true] at hb
    exact hb.elim (h.1 l hl) (h.2 l hl)
def alQ (C1 C2 C3 : Prop) (g : aG) (I : aI) (L : aL) (τ : Nat → Nat) (B : mB) (hg nd : Nat → Nat) (cnt : Nat) (p : Nat → Int32) (t u lim : Nat) (s : Int32) : aQ := fun o g' I' L' =>
  (¬ C1 ∧ ¬ C2 ∧ ¬ C3 ∧ (∃ lx, InvC lx lx g' I' τ B hg nd cnt p) ∧ (∀ i, i < 3 ∨ inO 15 i ∨ 327 ≤ i → I' i = I i) ∧ g'.2.1 = g.2.1 ∧ L' = L ∧ ∃ W W', (o = .inl (some (vI 1)) ∧ likeO p (evA p B lim t s W) (evA p B lim u s W')) ∨ (o = .inl (some (vI 0)) ∧ ¬ likeO p (evA p B lim t s W) (evA p B lim u s W'))) ∨
  (o = .inr E1 ∧ C1 ∧ Ext g I L g' I' L') ∨ (o = .inr E3 ∧ ¬ C1 ∧ C2 ∧ Ext g I L g' I' L') ∨ (o = .inr E4 ∧ ¬ C1 ∧ ¬ C2 ∧ C3 ∧ Ext g I L g' I' L')
theorem evA_ok {W : (Nat → Int32) × (Nat → Int32) × (Nat → Int32)} {lim t : Nat} : okO lim (evA p B lim t s W) := ev_ok 30 t _ _ e0_invE
theorem e8_alike (h : InvC lx ly g I τ B hg nd cnt p) (hd : 126 ≤ d) : Mx mX8_alike d 1 6 [vS 1, vI x, vI y, vI s, vI z] g I L (alQ (¬ (tmP cnt x ∧ tmP cnt y)) (¬ stP z) (¬ (lkP p (nd x.toNatClampNeg) ∧ lkP p (nd y.toNatClampNeg))) g I L τ B hg nd cnt p x.toNatClampNeg y.toNatClampNeg z.toNatClampNeg s) := by
  obtain ⟨hm, ht, hτ, ⟨x1, x2, x3, x4, x5⟩, ⟨o1, o2, o3⟩, htop⟩ := id h
  obtain ⟨hw, hg1, hc, h8, hT⟩ := id hm
  have h1 := (hw 1 _ rfl).2.1
  have h3 := (hw 3 _ rfl).2.1
  refine Mx_in (by decide +kernel) rfl rfl (Ex_wx [] 9 oX8_alike hw ?_)
  by_cases q1 : tmP cnt x
  rotate_left
  · exact Ex_vT (kc := 0) (ks := 0) (kc' := 0 + 1) (ks' := 0 + 6) (As := [vI x]) (st := []) (d' := 6) vX8_68 rfl rfl (e8_termAtT hw hc q1 (by omega)) h1 (by omega) rfl (dc_ok oX8_alike rfl) rfl (fun m hm => Or.inr (Or.inl ⟨rfl, fun c => q1 c.1, Ext.more hm⟩))
  obtain ⟨p1, p2, p3, p4⟩ := hm.pt q1
  refine Ex_v (kc := 1) (ks := 6) (As := [vI x]) (st := []) (d' := 0) vX8_68 rfl rfl (e8_termAt hw hc h8 p3 p4 p2) h1 (by omega) rfl (dc_ok oX8_alike rfl) ?_
  refine Ex_wx [] 9 oX8_alike hw ?_
  by_cases q1' : tmP cnt y
  rotate_left
  · exact Ex_vT (kc := 0) (ks := 0) (kc' := 0 + 1) (ks' := 0 + 6) (As := [vI y]) (st := []) (d' := 6) vX8_68 rfl rfl (e8_termAtT hw hc q1' (by omega)) h1 (by omega) rfl (dc_ok oX8_alike rfl) rfl (fun m hm => Or.inr (Or.inl ⟨rfl, fun c => q1' c.2, Ext.more hm⟩))
  obtain ⟨r1, r2, r3, r4⟩ := hm.pt q1'
  refine Ex_v (kc := 1) (ks := 6) (As := [vI y]) (st := []) (d' := 0) vX8_68 rfl rfl (e8_termAt hw hc h8 r3 r4 r2) h1 (by omega) rfl (dc_ok oX8_alike rfl) ?_
  refine Ex_wx [] 9 oX8_alike hw ?_
  by_cases q2 : stP z
  rotate_left
  · exact Ex_sT (kc := 0) (ks := 0) (kc' := 0 + 1) (ks' := 0 + 6) (As := [vI z]) (st := []) (d' := 6) sX8_96 rfl rfl (e8_stepsT hw q2 (by omega)) (by omega) rfl (dc_ok oX8_alike rfl) rfl (fun m hm => Or.inr (Or.inr (Or.inl ⟨rfl, fun c => c ⟨q1, q1'⟩, q2, Ext.more hm⟩)))
  refine Ex_s (kc := 1) (ks := 6) (As := [vI z]) (st := []) (d' := 0) sX8_96 rfl rfl (e8_steps hw q2) (by omega) rfl (dc_ok oX8_alike rfl) ?_
  refine Ex_wx [] 9 oX8_alike hw ?_
  refine And.intro p1.2.1 (And.intro r1.2.1 ?_)
  have eor : I (τ x.toNatClampNeg) 7 ||| I (τ y.toNatClampNeg) 7 = nI (nd x.toNatClampNeg ||| nd y.toNatClampNeg) := by
    rw [p1.2.2.2.1, r1.2.2.2.1]; exact or_nI16 _ p1.2.2.2.2.2 _ r1.2.2.2.2.2
  have hlt := or_lt16 _ p1.2.2.2.2.2 _ r1.2.2.2.2.2
  by_cases q3 : lkP p (nd x.toNatClampNeg) ∧ lkP p (nd y.toNatClampNeg)
  rotate_left
  · exact Ex_vT (kc := 0) (ks := 0) (kc' := 0 + 1) (ks' := 0 + 6) (As := [vI (I (τ x.toNatClampNeg) 7 ||| I (τ y.toNatClampNeg) 7)]) (st := []) (d' := 6) vX8_99 rfl rfl (e8_layersT h eor hlt (fun c => q3 (or_lk.mp c)) (by omega)) h1 (by omega) rfl (dc_ok oX8_alike rfl) rfl (fun m hm => Or.inr (Or.inr (Or.inr ⟨rfl, fun c => c ⟨q1, q1'⟩, fun c => c q2, q3, Ext.more hm⟩)))
  refine Ex_v (kc := 1) (ks := 6) (As := [vI (I (τ x.toNatClampNeg) 7 ||| I (τ y.toNatClampNeg) 7)]) (st := []) (d' := 0) vX8_99 rfl rfl (e8_layers h eor hlt (or_lk.mpr q3)) h1 (by omega) rfl (dc_ok oX8_alike rfl) ?_
  obtain ⟨lim, hlim, ez⟩ := q2.idx
  have ez2 : z.toNatClampNeg = lim := by rw [ez]; exact clN (by omega)
  rw [ez2]
  refine Ex_wx [] 9 oX8_alike hw ?_
  have hX : Mx mX3_carryOut 125 0 0 [vS 3, vD (some (τ x.toNatClampNeg)), vD (some lx), vI s, vI z, vS 119] g I L (rQ (g.1, g.2.1, up2 g.2.2 3 3 (some lx)) L (CoP I 119 p (evA p B lim x.toNatClampNeg s (I 10, I 11, I 12)))) := by
    rw [ez]
    exact e3_carryOut (f := 30) (o := 119) hw x1 (by omega) x4 o2 (by unfold inO; omega) ht p4 p1.2.2.2.2.1 (Nat.le_refl _) hlim htop (by omega)
  refine Ex_cV (kc := 1) (ks := 6) (kc' := 0) (ks' := 0) (As := [vD (some (τ x.toNatClampNeg)), vD (some lx), vI s, vI z, vS 119]) (st := []) vX8_102 rfl rfl h3 hX (by omega) rfl (dc_ok oX8_alike rfl) ?_ (fun E g' I' L' hq => absurd hq rQ_no)
  rintro v g1 I1 L1 ⟨e, eg, rfl, hP⟩
  cases e
  have hi1 : InvC lx lx g1 I1 τ B hg nd cnt p := by rw [eg]; exact h.run (Or.inr (Or.inl rfl)) hP
  have eg1 : g1.2.1 = g.2.1 := by rw [eg]
  obtain ⟨hm1, ht1, -, ⟨u1, u2, u3, u4, u5⟩, ⟨w1, w2, w3⟩, htop1⟩ := id hi1
  have hw1 := hm1.1
  have h31 := (hw1 3 _ rfl).2.1
  refine Ex_wx [] 12 oX8_alike hw1 ?_
  have hX2 : Mx mX3_carryOut 125 0 0 [vS 3, vD (some (τ y.toNatClampNeg)), vD (some lx), vI s, vI z, vS 223] g1 I1 L1 (rQ (g1.1, g1.2.1, up2 g1.2.2 3 3 (some lx)) L1 (CoP I1 223 p (evA p B lim y.toNatClampNeg s (I1 10, I1 11, I1 12)))) := by
    rw [ez]
    exact e3_carryOut (f := 30) (o := 223) hw1 u1 (by omega) u4 w3 (by unfold inO; omega) ht1 r4 r1.2.2.2.2.1 (Nat.le_refl _) hlim htop1 (by omega)
  refine Ex_cV (kc := 1) (ks := 6) (kc' := 0) (ks' := 0) (As := [vD (some (τ y.toNatClampNeg)), vD (some lx), vI s, vI z, vS 223]) (st := []) vX8_102 rfl rfl h31 hX2 (by omega) rfl (dc_ok oX8_alike rfl) ?_ (fun E g' I' L' hq => absurd hq rQ_no)
  rintro v g2 I2 L2 ⟨e, eg2', rfl, hP2⟩
  cases e
  have hi2 : InvC lx lx g2 I2 τ B hg nd cnt p := by rw [eg2']; exact hi1.run (Or.inr (Or.inr rfl)) hP2
  have eg2 : g2.2.1 = g.2.1 := by rw [eg2']; exact eg1
  have hw2 := hi2.1.1
  obtain ⟨-, -, -, -, ⟨v1, v2, v3⟩, -⟩ := id hi2
  have k1 := evA_ok (p := p) (B := B) (lim := lim) (t := x.toNatClampNeg) (s := s) (W := (I 10, I 11, I 12))
  have k2 := evA_ok (p := p) (B := B) (lim := lim) (t := y.toNatClampNeg) (s := s) (W := (I1 10, I1 11, I1 12))
  have hout1 : OutC I2 119 p (evA p B lim x.toNatClampNeg s (I 10, I 11, I 12)) := hP.1.eq (fun i hi => hP2.2.2 i (by unfold inO at hi; omega) (by unfold inO at hi ⊢; omega)) (fun c => (k1.2.2 c).1)
  have hLk := e4_isLike (L := L2) (d := 4) (p := p) hw2 v2 v3 ⟨k1.1, fun c => (k1.2.2 c).1⟩ ⟨k2.1, fun c => (k2.2.2 c).1⟩ hout1 hP2.1 (by omega)
  have hfr : ∀ i, i < 3 ∨ inO 15 i ∨ 327 ≤ i → I2 i = I i := fun i hi => (hP2.2.2 i (by unfold inO at hi; omega) (by unfold inO at hi ⊢; omega)).trans (hP.2.2 i (by unfold inO at hi; omega) (by unfold inO at hi ⊢; omega))
  refine Ex_wx [] 9 oX8_alike hw2 ?_
  refine Ex_cV (kc := 1) (ks := 6) (kc' := 0) (ks' := 0) (As := [vS 223]) (st := []) vX8_131 rfl rfl v2.2.1 (show Mx mX4_isLike 4 0 0 [vS 119, vS 223] g2 I2 L2 _ from hLk) (by omega) rfl (dc_ok oX8_alike rfl) ?_ ?_
  · rintro v g3 I3 L3 ⟨rfl, rfl, rfl, ⟨e, hb⟩ | ⟨e, hb⟩⟩
    · cases e
      refine Ex_wx [] 9 oX8_alike hw2 ?_
      exact ⟨Or.inr rfl, Or.inl ⟨fun c => c ⟨q1, q1'⟩, fun c => c q2, fun c => c q3, ⟨lx, hi2⟩, hfr, eg2, rfl, _, _, Or.inl ⟨rfl, hb⟩⟩⟩
    · cases e
      refine Ex_wx [] 9 oX8_alike hw2 ?_
      exact ⟨Or.inl rfl, Or.inl ⟨fun c => c ⟨q1, q1'⟩, fun c => c q2, fun c => c q3, ⟨lx, hi2⟩, hfr, eg2, rfl, _, _, Or.inr ⟨rfl, hb⟩⟩⟩
  · rintro E g' I' L' ⟨-, -, -, ⟨e, -⟩ | ⟨e, -⟩⟩ <;> cases e
end CAlike
theorem InvC.mk {lx ly : Nat} {g g' : aG} {I I' : aI} {L L' : aL} {τ : Nat → Nat} {B : mB} {hg nd : Nat → Nat} {cnt : Nat} {p : Nat → Int32} {k a b2 h n : Nat} {b x nm : Int32} {f s : Option Nat} (hI : InvC lx ly g I τ B hg nd cnt p) (q : MkP g I L cnt k b x nm f s h n g' I' L') (h8 : cnt < 80) (hk : k ≤ 18) (hh : 1 ≤ h ∧ h ≤ 30) (hn : n < 16)
    (hf : 6 ≤ k → k ≤ 13 → a < cnt ∧ hg a < h ∧ f = some (τ a)) (hs : 6 ≤ k → k ≤ 9 → b2 < cnt ∧ hg b2 < h ∧ s = some (τ b2)) :
    InvC lx ly g' I' (up1 τ cnt g.1) (up1 B cnt (k, b, x, nm, a, b2)) (up1 hg cnt h) (up1 nd cnt n) (cnt + 1) p := by
  obtain ⟨hm, ht, hτ, ⟨x1, x2, x3, x4, x5⟩, ⟨o1, o2, o3⟩, top, t1, t2⟩ := hI
  obtain ⟨hw, hg1, hc, h80, hT⟩ := id hm
  obtain ⟨q1, q2, q3, q4, q5, q6, q7, q8, q9, q10, q11, q12, q13⟩ := id q
  have hw' := ws_mk hw hg1 q
  have un : ∀ {α : Type} (u : Nat → α) (v : α) (t : Nat), t < cnt → up1 u cnt v t = u t := fun u v t htc => by unfold up1; rw [if_neg (by omega)]
  have us : ∀ {α : Type} (u : Nat → α) (v : α), up1 u cnt v cnt = v := fun u v => by unfold up1; rw [if_pos rfl]
  have hlt := hm.lt
  have gI : ∀ i, i < g.1 → i ≠ 1 → I' i = I i := fun i hi hi1 => by funext c; exact (q2 i hi).2.2.1 c (by omega)
  have gS : ∀ i, i < g.1 → g'.2.1 i = g.2.1 i := fun i hi => (q2 i hi).1
  have gR : ∀ i c, i < g.1 → i ≠ 2 → g'.2.2 i c = g.2.2 i c := fun i c hi hi1 => (q2 i hi).2.1 c (by omega)
  have hog : ∀ o, 13 < o → o + 104 ≤ g.1 → OG g o → OG g' o := by
    intro o oa ob ⟨h0, h1, h2, h3, h4, ⟨a1, a2, a3, a4⟩, h6⟩
    refine ⟨h0, ?_, ?_, ?_, ?_, ⟨?_, ?_, ?_, a4⟩, fun k hk => ?_⟩
    · rw [gS o (by omega)]; exact h1
    · rw [gR o _ (by omega) (by omega)]; exact h2
    · rw [gR o _ (by omega) (by omega)]; exact h3
    · rw [gS (o + 3) (by omega)]; exact h4
    · rw [gS (o + 1) (by omega)]; exact a1
    · rw [gR (o + 1) _ (by omega) (by omega)]; exact a2
    · rw [gS (o + 2) (by omega)]; exact a3
    · obtain ⟨b0, b1, b2, b3, b4⟩ := h6 k hk
      refine ⟨?_, ?_, ?_, ?_, b4⟩
      · rw [gR (o + 3) _ (by omega) (by omega)]; exact b0
      · rw [gS (o + 4 + 2 * k) (by omega)]; exact b1
      · rw [gR (o + 4 + 2 * k) _ (by omega) (by omega)]; exact b2
      · rw [gS (o + 5 + 2 * k) (by omega)]; exact b3
  refine ⟨⟨hw', by omega, q5, by omega, fun t htc => ?_⟩, fun t htc => ?_, fun t htc => ?_, ⟨by rw [gS lx x3]; exact x1, x2, by omega, x4.eq (gI lx x3 (by omega)), by rw [gI lx x3 (by omega)]; exact x5⟩, ⟨hog 15 (by omega) (by omega) o1, hog 119 (by omega) (by omega) o2, hog 223 (by omega) (by omega) o3⟩, top, t1, by rw [gI 4 (by omega) (by omega)]; exact t2⟩
  · by_cases c : t = cnt
    · subst c
      rw [us, us, us]
      exact ⟨q4, by omega, q3, q12, q13, hh.2, hn⟩
    · have htc' : t < cnt := by omega
      rw [un _ _ t htc', un _ _ t htc', un _ _ t htc']
      obtain ⟨p1, p2, p3, p4, p5, p6, p7⟩ := hT t htc'
      have hge := hτ t htc'
      refine ⟨?_, by omega, ?_, ?_, ?_, p6, p7⟩
      · rw [(q2 2 (by omega)).2.1 t (by omega)]; exact p1
      · rw [gS _ p2]; exact p3
      · rw [gI _ p2 (by omega)]; exact p4
      · rw [gI _ p2 (by omega)]; exact p5
  · by_cases c : t = cnt
    · subst c
      rw [us, us, us]
      refine ⟨by omega, q3, ⟨q8, hk, q9, q10, q11⟩, hh.1, fun c1 c2 => ?_, fun c1 c2 => ?_⟩
      · obtain ⟨z1, z2, z3⟩ := hf c1 c2
        exact ⟨by show a < t + 1; omega, by show up1 hg t h a < h; rw [un _ _ a z1]; exact z2, by show g'.2.2 g.1 4 = some (up1 τ t g.1 a); rw [un _ _ a z1, q6]; exact z3⟩
      · obtain ⟨z1, z2, z3⟩ := hs c1 c2
        exact ⟨by show b2 < t + 1; omega, by show up1 hg t h b2 < h; rw [un _ _ b2 z1]; exact z2, by show g'.2.2 g.1 5 = some (up1 τ t g.1 b2); rw [un _ _ b2 z1, q7]; exact z3⟩
    · have htc' : t < cnt := by omega
      rw [un _ _ t htc', un _ _ t htc', un _ _ t htc']
      have hge := hτ t htc'
      have hl := hlt t htc'
      obtain ⟨h1, h2, h3, h4, h5, h6⟩ := ht t htc'
      refine ⟨h1, by rw [gS _ hl]; exact h2, by rw [gI _ hl (by omega)]; exact h3, h4, fun c1 c2 => ?_, fun c1 c2 => ?_⟩
      · obtain ⟨z1, z2, z3⟩ := h5 c1 c2
        exact ⟨by omega, by rw [un _ _ _ z1]; exact z2, by rw [un _ _ _ z1, gR _ _ hl (by omega)]; exact z3⟩
      · obtain ⟨z1, z2, z3⟩ := h6 c1 c2
        exact ⟨by omega, by rw [un _ _ _ z1]; exact z2, by rw [un _ _ _ z1, gR _ _ hl (by omega)]; exact z3⟩
  · by_cases c : t = cnt
    · subst c
      rw [us]; exact hg1
    · rw [un _ _ t (by omega)]; exact hτ t (by omega)
