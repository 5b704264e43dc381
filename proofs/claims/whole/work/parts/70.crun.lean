/-! the class: needs, terms, run, result, shared, alike -/
def stP (x : Int32) : Prop := 1 ≤ x ∧ x ≤ 2000
theorem stP.idx {x : Int32} (h : stP x) : ∃ n, n ≤ 2000 ∧ x = nI n := by
  have h1 := Int32.le_iff_toInt_le.mp h.1
  have h2 := Int32.le_iff_toInt_le.mp h.2
  have e1 : (1 : Int32).toInt = 1 := rfl
  have e2 : (2000 : Int32).toInt = 2000 := rfl
  rw [e1] at h1
  rw [e2] at h2
  refine ⟨x.toInt.toNat, by omega, ?_⟩
  apply Int32.toInt_inj.mp
  rw [nI_toInt (by omega)]
  omega
section CRun
variable {lx ly : Nat} {g : aG} {I : aI} {L : aL} {d kc ks cnt : Nat} {τ hg nd : Nat → Nat} {B : mB} {p : Nat → Int32} {la : aLa} {x y z s : Int32} {r a : Nat} {R : aRw}
theorem e8_terms (h : MC lx ly g I τ hg nd cnt) : Mx mX8_terms d 0 0 [vS 1] g I L (qV (some (vI (nI cnt))) g I L) := by
  refine Mx_in (by decide +kernel) rfl rfl (Ex_wx [] 9 oX8_terms h.1 ?_)
  exact ⟨congrArg (fun z : Int32 => (Sum.inl (some (vI z)) : aO)) h.2.2.1, rfl, rfl, rfl⟩
def neQ (C1 : Prop) (v : Int32) (g : aG) (I : aI) (L : aL) : aQ := fun o g' I' L' => (o = .inl (some (vI v)) ∧ ¬ C1 ∧ g' = g ∧ I' = I ∧ L' = L) ∨ (o = .inr E1 ∧ C1 ∧ Ext g I L g' I' L')
theorem e8_needs (h : MC lx ly g I τ hg nd cnt) (hd : 7 ≤ d) : Mx mX8_needs d 1 6 [vS 1, vI x] g I L (neQ (¬ tmP cnt x) (nI (nd x.toNatClampNeg)) g I L) := by
  obtain ⟨hw, hg1, hc, h8, hT⟩ := id h
  have h1 := (hw 1 _ rfl).2.1
  refine Mx_in (by decide +kernel) rfl rfl (Ex_wx [] 9 oX8_needs hw ?_)
  by_cases q1 : tmP cnt x
  · obtain ⟨p1, p2, p3, p4⟩ := h.pt q1
    refine Ex_v (kc := 1) (ks := 6) (As := [vI x]) (st := []) (d' := 0) vX8_68 rfl rfl (e8_termAt hw hc h8 p3 p4 p2) h1 (by omega) rfl (dc_ok oX8_needs rfl) ?_
    refine Ex_wx [] 9 oX8_needs hw ?_
    refine And.intro p1.2.1 (Or.inl ⟨?_, fun c => c q1, rfl, rfl, rfl⟩)
    exact congrArg (fun z : Int32 => (Sum.inl (some (vI z)) : aO)) p1.2.2.2.1
  · exact Ex_vT (kc := 0) (ks := 0) (kc' := 0 + 1) (ks' := 0 + 6) (As := [vI x]) (st := []) (d' := 6) vX8_68 rfl rfl (e8_termAtT hw hc q1 (by omega)) h1 (by omega) rfl (dc_ok oX8_needs rfl) rfl (fun m hm => Or.inr ⟨rfl, q1, Ext.more hm⟩)
theorem e8_steps (hw : WS lx ly g) (hx : stP x) : Mx mX8_requireSteps d 0 0 [vI x] g I L (qV none g I L) := by
  refine Mx_in (by decide +kernel) rfl rfl (Ex_wx [12, 5] 9 oX8_requireSteps hw ?_)
  refine And.intro (fun c => absurd hx.1 (Int32.not_le.mpr c)) (fun _ => ?_)
  refine Ex_wx [12] 9 oX8_requireSteps hw ?_
  exact And.intro (fun _ => ⟨rfl, rfl, rfl, rfl⟩) (fun c => absurd hx.2 c)
theorem e8_stepsT (hw : WS lx ly g) (hx : ¬ stP x) (hd : 6 ≤ d) : Mx mX8_requireSteps d (kc + 1) (ks + 6) [vI x] g I L (qT E3 g I L) := by
  have ht : ∀ lo, Ex mX8_requireSteps d (kc + 1) (ks + 6) (qT E3 g I L) 12 lo [] g I L := fun lo => Ex_throw tOk_3 rfl rfl (by decide : (150, "steps is not 1 .. 2000") ∈ qStr) hd (by decide) (dc_ok oX8_requireSteps rfl) (dc_ok oX8_requireSteps rfl) (dc_ok oX8_requireSteps rfl) (dc_ok oX8_requireSteps rfl) (dc_ok oX8_requireSteps rfl) (fun n hn => ⟨rfl, ⟨n, hn, rfl⟩, rfl, rfl⟩)
  refine Mx_in (by decide +kernel) rfl rfl (Ex_wx [12, 5] 9 oX8_requireSteps hw ?_)
  refine And.intro (fun _ => ht _) (fun c => ?_)
  refine Ex_wx [12, 22] 9 oX8_requireSteps hw ?_
  exact And.intro (fun c2 => absurd ⟨Int32.not_lt.mp c, c2⟩ hx) (fun _ => ht _)
theorem e8_layers {n : Nat} (h : InvC lx ly g I τ B hg nd cnt p) (hx : x = nI n) (hn : n < 16) (hk : lkP p n) : Mx mX8_requireLayers d 0 0 [vS 1, vI x] g I L (qV none g I L) := by
  subst hx
  obtain ⟨hm, -, -, ⟨x1, -, -, -, x5⟩, -⟩ := h
  refine Mx_in (by decide +kernel) rfl rfl (Ex_wx [24, 14] 9 oX8_requireLayers hm.1 ?_)
  refine And.intro x1 ?_
  rw [x5]
  refine And.intro (fun _ => ?_) (fun c => absurd ((lk_iff hn).mpr hk) c)
  refine Ex_wx [] 9 oX8_requireLayers hm.1 ?_
  exact ⟨rfl, rfl, rfl, rfl⟩
theorem e8_layersT {n : Nat} (h : InvC lx ly g I τ B hg nd cnt p) (hx : x = nI n) (hn : n < 16) (hk : ¬ lkP p n) (hd : 6 ≤ d) : Mx mX8_requireLayers d (kc + 1) (ks + 6) [vS 1, vI x] g I L (qT E4 g I L) := by
  subst hx
  obtain ⟨hm, -, -, ⟨x1, -, -, -, x5⟩, -⟩ := h
  refine Mx_in (by decide +kernel) rfl rfl (Ex_wx [24, 14] 9 oX8_requireLayers hm.1 ?_)
  refine And.intro x1 ?_
  rw [x5]
  refine And.intro (fun c => absurd ((lk_iff hn).mp c) hk) (fun _ => ?_)
  exact Ex_throw tOk_4 rfl rfl (by decide : (153, "a LAYER that is needed is not in the ORDER") ∈ qStr) hd (by decide) (dc_ok oX8_requireLayers rfl) (dc_ok oX8_requireLayers rfl) (dc_ok oX8_requireLayers rfl) (dc_ok oX8_requireLayers rfl) (dc_ok oX8_requireLayers rfl) (fun n hn => ⟨rfl, ⟨n, hn, rfl⟩, rfl, rfl⟩)
/-- what a run comes to -/
def ruQ (C1 C2 C3 : Prop) (lx : Nat) (g : aG) (I : aI) (L : aL) (p : Nat → Int32) (B : mB) (t lim : Nat) (s : Int32) : aQ := fun o g' I' L' =>
  (¬ C1 ∧ ¬ C2 ∧ ¬ C3 ∧ ∃ W, o = .inl (some (vI (ansO (evA p B lim t s W)))) ∧ g' = (g.1, g.2.1, up2 g.2.2 3 3 (some lx)) ∧ CoP I 15 p (evA p B lim t s W) I' ∧ L' = L) ∨
  (o = .inr E1 ∧ C1 ∧ Ext g I L g' I' L') ∨ (o = .inr E3 ∧ ¬ C1 ∧ C2 ∧ Ext g I L g' I' L') ∨ (o = .inr E4 ∧ ¬ C1 ∧ ¬ C2 ∧ C3 ∧ Ext g I L g' I' L')
theorem e8_run (h : InvC lx ly g I τ B hg nd cnt p) (hd : 126 ≤ d) : Mx mX8_run d 1 6 [vS 1, vI x, vI s, vI z] g I L (ruQ (¬ tmP cnt x) (¬ stP z) (¬ lkP p (nd x.toNatClampNeg)) lx g I L p B x.toNatClampNeg z.toNatClampNeg s) := by
  obtain ⟨hm, ht, hτ, ⟨x1, x2, x3, x4, x5⟩, ⟨o1, o2, o3⟩, htop⟩ := id h
  obtain ⟨hw, hg1, hc, h8, hT⟩ := id hm
  have h1 := (hw 1 _ rfl).2.1
  have h3 := (hw 3 _ rfl).2.1
  refine Mx_in (by decide +kernel) rfl rfl (Ex_wx [] 9 oX8_run hw ?_)
  by_cases q1 : tmP cnt x
  rotate_left
  · exact Ex_vT (kc := 0) (ks := 0) (kc' := 0 + 1) (ks' := 0 + 6) (As := [vI x]) (st := []) (d' := 6) vX8_68 rfl rfl (e8_termAtT hw hc q1 (by omega)) h1 (by omega) rfl (dc_ok oX8_run rfl) rfl (fun m hm => Or.inr (Or.inl ⟨rfl, q1, Ext.more hm⟩))
  obtain ⟨p1, p2, p3, p4⟩ := hm.pt q1
  refine Ex_v (kc := 1) (ks := 6) (As := [vI x]) (st := []) (d' := 0) vX8_68 rfl rfl (e8_termAt hw hc h8 p3 p4 p2) h1 (by omega) rfl (dc_ok oX8_run rfl) ?_
  refine Ex_wx [] 9 oX8_run hw ?_
  by_cases q2 : stP z
  rotate_left
  · exact Ex_sT (kc := 0) (ks := 0) (kc' := 0 + 1) (ks' := 0 + 6) (As := [vI z]) (st := []) (d' := 6) sX8_96 rfl rfl (e8_stepsT hw q2 (by omega)) (by omega) rfl (dc_ok oX8_run rfl) rfl (fun m hm => Or.inr (Or.inr (Or.inl ⟨rfl, fun c => c q1, q2, Ext.more hm⟩)))
  refine Ex_s (kc := 1) (ks := 6) (As := [vI z]) (st := []) (d' := 0) sX8_96 rfl rfl (e8_steps hw q2) (by omega) rfl (dc_ok oX8_run rfl) ?_
  refine Ex_wx [] 9 oX8_run hw ?_
  refine And.intro p1.2.1 ?_
  by_cases q3 : lkP p (nd x.toNatClampNeg)
  rotate_left
  · exact Ex_vT (kc := 0) (ks := 0) (kc' := 0 + 1) (ks' := 0 + 6) (As := [vI (I (τ x.toNatClampNeg) 7)]) (st := []) (d' := 6) vX8_99 rfl rfl (e8_layersT h p1.2.2.2.1 p1.2.2.2.2.2 q3 (by omega)) h1 (by omega) rfl (dc_ok oX8_run rfl) rfl (fun m hm => Or.inr (Or.inr (Or.inr ⟨rfl, fun c => c q1, fun c => c q2, q3, Ext.more hm⟩)))
  refine Ex_v (kc := 1) (ks := 6) (As := [vI (I (τ x.toNatClampNeg) 7)]) (st := []) (d' := 0) vX8_99 rfl rfl (e8_layers h p1.2.2.2.1 p1.2.2.2.2.2 q3) h1 (by omega) rfl (dc_ok oX8_run rfl) ?_
  obtain ⟨lim, hlim, ez⟩ := q2.idx
  have ez2 : z.toNatClampNeg = lim := by rw [ez]; exact clN (by omega)
  refine Ex_wx [] 9 oX8_run hw ?_
  have hX : Mx mX3_carryOut 125 0 0 [vS 3, vD (some (τ x.toNatClampNeg)), vD (some lx), vI s, vI z, vS 15] g I L (rQ (g.1, g.2.1, up2 g.2.2 3 3 (some lx)) L (CoP I 15 p (evO p B lim 30 x.toNatClampNeg I s))) := by
    rw [ez]
    exact e3_carryOut (f := 30) (o := 15) hw x1 (by omega) x4 o1 (by unfold inO; omega) ht p4 p1.2.2.2.2.1 (Nat.le_refl _) hlim htop (by omega)
  refine Ex_cV (kc := 1) (ks := 6) (kc' := 0) (ks' := 0) (As := [vD (some (τ x.toNatClampNeg)), vD (some lx), vI s, vI z, vS 15]) (st := []) vX8_102 rfl rfl h3 hX (by omega) rfl (dc_ok oX8_run rfl) ?_ (fun E g' I' L' hq => absurd hq rQ_no)
  rintro v g' I' L' ⟨e, rfl, rfl, hP⟩
  cases e
  refine Ex_wx [] 9 oX8_run (ws_put hw) ?_
  refine Or.inl ⟨fun c => c q1, fun c => c q2, fun c => c q3, (I 10, I 11, I 12), ?_, rfl, ?_, rfl⟩
  · rw [ez2]
    exact congrArg (fun z : Int32 => (Sum.inl (some (vI z)) : aO)) hP.1.1
  · rw [ez2]
    exact hP
/-- what is told, at a number -/
def teQ (C1 : String → Prop) (C2 : Prop) (v : Int32) (E : String) (g : aG) (I : aI) (L : aL) : aQ := fun o g' I' L' => (o = .inl (some (vI v)) ∧ ¬ C1 E ∧ ¬ C2 ∧ g' = g ∧ I' = I ∧ L' = L) ∨ (o = .inr E ∧ C1 E ∧ Ext g I L g' I' L') ∨ (o = .inr E3 ∧ ¬ C1 E ∧ C2 ∧ Ext g I L g' I' L')
theorem e8_tellOf (hw : WS lx ly g) (hR : RG g r a) (h : RowIs I a R) (hx : tlP R x) (hd : 3 ≤ d) : Mx mX8_tellOf d 0 0 [vD (some r), vI x] g I L (qV (some (vI (R.2 x.toNatClampNeg))) g I L) := by
  obtain ⟨l1, l2⟩ := h.len
  obtain ⟨k, hk, rfl⟩ := tmP.idx (cnt := 5 + R.1) ⟨hx.1, hx.2⟩ (by omega)
  refine Mx_in (by decide +kernel) rfl rfl (Ex_wx [] 9 oX8_tellOf hw ?_)
  refine Ex_vD (As := [vI (nI k)]) (st := []) (d' := 1) vX8_157 rfl rfl (e6_tellsN hw hR l1 (by omega) (by omega)) hR.1 (by omega) rfl (dc_ok oX8_tellOf rfl) ?_
  rw [decide_eq_true hk]
  refine Ex_wx [18, 8] 9 oX8_tellOf hw ?_
  refine And.intro (fun c => absurd c (by decide)) (fun _ => ?_)
  refine Ex_wx [] 9 oX8_tellOf hw ?_
  refine Ex_vD (As := [vI (nI k)]) (st := []) (d' := 2) vX8_165 rfl rfl (e6_at hw hR l1 (by omega) (by omega)) hR.1 (by omega) rfl (dc_ok oX8_tellOf rfl) ?_
  rw [if_pos hk, h.2 k hk]
  refine Ex_wx [] 9 oX8_tellOf hw ?_
  refine ⟨?_, rfl, rfl, rfl⟩
  rw [clN (by omega)]
theorem e8_tellOfT (hw : WS lx ly g) (hR : RG g r a) (h : RowIs I a R) (hx : ¬ tlP R x) (hd : 6 ≤ d) : Mx mX8_tellOf d (kc + 1) (ks + 6) [vD (some r), vI x] g I L (qT E3 g I L) := by
  obtain ⟨l1, l2⟩ := h.len
  refine Mx_in (by decide +kernel) rfl rfl (Ex_wx [] 9 oX8_tellOf hw ?_)
  refine st_SD (a := [vI x]) (Ex_v (kc := kc + 1) (ks := ks + 6) (As := [vI x]) (st := []) (d' := 1) vX8_157 rfl rfl (Mx_SD (e6_tells hw hR l1 (by omega))) hR.1 (by omega) rfl (dc_ok oX8_tellOf rfl) ?_)
  rw [decide_eq_false (show ¬ (0 ≤ x ∧ x < nI (5 + R.1)) from hx)]
  refine Ex_wx [18, 8] 9 oX8_tellOf hw ?_
  refine And.intro (fun _ => ?_) (fun c => absurd rfl c)
  exact Ex_throw tOk_3 rfl rfl (by decide : (163, "nothing of that number is told") ∈ qStr) hd (by decide) (dc_ok oX8_tellOf rfl) (dc_ok oX8_tellOf rfl) (dc_ok oX8_tellOf rfl) (dc_ok oX8_tellOf rfl) (dc_ok oX8_tellOf rfl) (fun n hn => ⟨rfl, ⟨n, hn, rfl⟩, rfl, rfl⟩)
/-- what result and shared come to -/
def tqQ (E : String) (Ro : Option aRw) (x : Int32) (g : aG) (I : aI) (L : aL) : aQ := fun o g' I' L' => (∃ R, Ro = some R ∧ tlP R x ∧ o = .inl (some (vI (R.2 x.toNatClampNeg))) ∧ g' = g ∧ I' = I ∧ L' = L) ∨ (o = .inr E ∧ Ro = none ∧ Ext g I L g' I' L') ∨ (∃ R, Ro = some R ∧ ¬ tlP R x ∧ o = .inr E3 ∧ Ext g I L g' I' L')
theorem ans_lt {q : mO} {k : Int32} (h : q.1 = 0 → q.2.1.length ≤ 50) (h0 : 0 ≤ k) (h1 : k < ansO q) : q.1 = 0 ∧ ∃ j, j < q.2.1.length ∧ k = nI j := by
  unfold ansO at h1
  by_cases c : q.1 = 0
  · rw [if_pos c] at h1
    obtain ⟨j, hj, e⟩ := tmP.idx (cnt := q.2.1.length) ⟨h0, h1⟩ (by have := h c; omega)
    exact ⟨c, j, hj, e⟩
  · rw [if_neg c] at h1
    exfalso
    have h2 := Int32.le_iff_toInt_le.mp h0
    have h3 := Int32.lt_iff_toInt_lt.mp h1
    have e0 : (0 : Int32).toInt = 0 := rfl
    rw [e0] at h2
    by_cases c1 : q.1 = 1
    · rw [if_pos c1] at h3
      have : (-2 : Int32).toInt = -2 := rfl
      omega
    · rw [if_neg c1] at h3
      have : (-3 : Int32).toInt = -3 := rfl
      omega
theorem rowA_at {q : (Nat → Int32) × mO} {j : Nat} {rr : mR} (h0 : q.2.1 = 0) (hj : j < 50) (e : q.2.2.1[j]? = some rr) : rowA (some q) (nI j) = some (resG q.1 q.2.2.2 rr) := by
  show (if q.2.1 = 0 ∧ 0 ≤ nI j then (q.2.2.1[(nI j).toNatClampNeg]?).map (resG q.1 q.2.2.2) else none) = _
  rw [if_pos ⟨h0, nI_pos' (by omega)⟩, clN (by omega), e]
  rfl
theorem rowA_no {q : (Nat → Int32) × mO} {k : Int32} (h : q.2.1 = 0 → q.2.2.1.length ≤ 50) (hn : ¬ (0 ≤ k ∧ k < ansO q.2)) : rowA (some q) k = none := by
  show (if q.2.1 = 0 ∧ 0 ≤ k then (q.2.2.1[k.toNatClampNeg]?).map (resG q.1 q.2.2.2) else none) = _
  by_cases c : q.2.1 = 0 ∧ 0 ≤ k
  · rw [if_pos c]
    have h9 : q.2.2.1.length ≤ k.toNatClampNeg := by
      rcases Nat.lt_or_ge k.toNatClampNeg q.2.2.1.length with z | z
      · exfalso
        refine hn ⟨c.2, ?_⟩
        unfold ansO
        rw [if_pos c.1]
        have h50 := h c.1
        have hk : k = nI k.toNatClampNeg := by
          have h1 := Int32.le_iff_toInt_le.mp c.2
          have e0 : (0 : Int32).toInt = 0 := rfl
          rw [e0] at h1
          apply Int32.toInt_inj.mp
          rw [nI_toInt (by omega)]
          unfold Int32.toNatClampNeg
          omega
        rw [hk]
        exact nI_lt z (by omega)
      · exact z
    rw [List.getElem?_eq_none h9]
    rfl
  · rw [if_neg c]
theorem e8_result (h : InvC lx ly g I τ B hg nd cnt p) (hl : LaC I la) (ho : okA la) (hd : 7 ≤ d) : Mx mX8_result d 1 6 [vS 1, vI x, vI y] g I L (tqQ E1 (rowA la x) y g I L) := by
  obtain ⟨hm, ht, hτ, ⟨x1, x2, x3, x4, x5⟩, ⟨o1, -⟩, htop⟩ := id h
  obtain ⟨hw, hg1, hc, h8, hT⟩ := id hm
  obtain ⟨z0, z1, z2, z3, z4, z5, z6⟩ := id o1
  have hno : ¬ (0 ≤ x ∧ x < I 15 0) → rowA la x = none → Mx mX4_rowOf 0 0 0 [vS 15, vI x] g I L (qV (some (vD none)) g I L) := by
    intro c _
    refine Mx_in (by decide +kernel) rfl rfl (Ex_wx [27, 4] 9 oX4_rowOf hw ?_)
    refine And.intro (fun _ => ?_) (fun c1 => ?_)
    · refine Ex_wx [] 9 oX4_rowOf hw ?_
      exact ⟨rfl, rfl, rfl, rfl⟩
    · refine Ex_wx [27, 12] 9 oX4_rowOf hw ?_
      refine And.intro (fun _ => ?_) (fun c2 => absurd ⟨Int32.not_lt.mp c1, Int32.not_le.mp c2⟩ c)
      refine Ex_wx [] 9 oX4_rowOf hw ?_
      exact ⟨rfl, rfl, rfl, rfl⟩
  have hE : ¬ (0 ≤ x ∧ x < I 15 0) → rowA la x = none → Mx mX8_result d 1 6 [vS 1, vI x, vI y] g I L (tqQ E1 (rowA la x) y g I L) := by
    intro c cn
    refine Mx_in (by decide +kernel) rfl rfl (Ex_wx [] 9 oX8_result hw ?_)
    refine Ex_v (kc := 1) (ks := 6) (As := [vI x]) (st := []) (d' := 0) vX8_109 rfl rfl (hno c cn) z1 (by omega) rfl (dc_ok oX8_result rfl) ?_
    refine Ex_wx [13] 9 oX8_result hw ?_
    exact Ex_throw tOk_1 rfl rfl (by decide : (115, "no such RESULT") ∈ qStr) (by omega) (by decide) (dc_ok oX8_result rfl) (dc_ok oX8_result rfl) (dc_ok oX8_result rfl) (dc_ok oX8_result rfl) (dc_ok oX8_result rfl) (fun n hn => Or.inr (Or.inl ⟨rfl, cn, Ext.more hn⟩))
  cases la with
  | none =>
    refine hE (fun c => ?_) rfl
    have e : I 15 0 = -3 := hl
    rw [e] at c
    have h2 := Int32.le_iff_toInt_le.mp c.1
    have h3 := Int32.lt_iff_toInt_lt.mp c.2
    have e0 : (0 : Int32).toInt = 0 := rfl
    have e3 : (-3 : Int32).toInt = -3 := rfl
    omega
  | some q =>
    obtain ⟨a1, a2, a3⟩ := id (show OutC I 15 q.1 q.2 from hl)
    by_cases c : 0 ≤ x ∧ x < I 15 0
    rotate_left
    · exact hE c (rowA_no ho.2 (by rw [← a1]; exact c))
    rw [a1] at c
    obtain ⟨h0, j, hj, rfl⟩ := ans_lt ho.2 c.1 c.2
    have h50 := ho.2 h0
    obtain ⟨rr, hrr⟩ : ∃ rr, q.2.2.1[j]? = some rr := ⟨_, List.getElem?_eq_getElem hj⟩
    have eR := rowA_at h0 (by omega) hrr
    have hrow := a3 h0 j rr hrr
    obtain ⟨y0, y1⟩ := z6 j (by omega)
    refine Mx_in (by decide +kernel) rfl rfl (Ex_wx [] 9 oX8_result hw ?_)
    have hX : Mx mX4_rowOf 0 0 0 [vS 15, vI (nI j)] g I L (qV (some (vD (some (15 + 4 + 2 * j)))) g I L) := by
      refine Mx_in (by decide +kernel) rfl rfl (Ex_wx [27, 4] 9 oX4_rowOf hw ?_)
      refine And.intro (fun c => absurd c (nI_pos (by omega))) (fun _ => ?_)
      refine Ex_wx [27, 12] 9 oX4_rowOf hw ?_
      refine And.intro (fun c2 => absurd c.2 (Int32.not_lt.mpr (a1 ▸ c2))) (fun _ => ?_)
      refine Ex_wx [27, 18] 9 oX4_rowOf hw ?_
      refine And.intro (fun c2 => absurd (show nI 50 ≤ nI j from c2) (nI_ge (by omega) (by omega))) (fun _ => ?_)
      refine Ex_wx [28] 9 oX4_rowOf hw ?_
      refine ⟨Or.inr rfl, inN (by omega) (by omega), ?_⟩
      rw [clN (by omega)]
      have e18 : g.2.2 18 j = some (15 + 4 + 2 * j) := y0
      rw [e18]
      refine Ex_wx [] 9 oX4_rowOf hw ?_
      exact ⟨rfl, rfl, rfl, rfl⟩
    refine Ex_v (kc := 1) (ks := 6) (As := [vI (nI j)]) (st := []) (d' := 0) vX8_109 rfl rfl hX z1 (by omega) rfl (dc_ok oX8_result rfl) ?_
    refine Ex_wx [23] 9 oX8_result hw ?_
    refine Ex_wx [] 9 oX8_result hw ?_
    by_cases q2 : tlP (resG q.1 q.2.2.2 rr) y
    · refine Ex_s (kc := 1) (ks := 6) (As := [vD (some (15 + 4 + 2 * j)), vI y]) (st := []) (d' := 3) sX8_118 rfl rfl (e8_tellOf hw y1 hrow q2 (by omega)) (by omega) rfl (dc_ok oX8_result rfl) ?_
      refine Ex_wx [] 9 oX8_result hw ?_
      exact Or.inl ⟨_, eR, q2, rfl, rfl, rfl, rfl⟩
    · exact Ex_sT (kc := 0) (ks := 0) (kc' := 0 + 1) (ks' := 0 + 6) (As := [vD (some (15 + 4 + 2 * j)), vI y]) (st := []) (d' := 6) sX8_118 rfl rfl (e8_tellOfT hw y1 hrow q2 (by omega)) (by omega) rfl (dc_ok oX8_result rfl) rfl (fun m hm => Or.inr (Or.inr ⟨_, eR, q2, rfl, Ext.more hm⟩))
theorem e8_shared (h : InvC lx ly g I τ B hg nd cnt p) (hl : LaC I la) (ho : okA la) (hd : 7 ≤ d) : Mx mX8_shared d 1 6 [vS 1, vI y] g I L (tqQ E4 (comA la) y g I L) := by
  obtain ⟨hm, ht, hτ, ⟨x1, x2, x3, x4, x5⟩, ⟨o1, -⟩, htop⟩ := id h
  obtain ⟨hw, hg1, hc, h8, hT⟩ := id hm
  obtain ⟨z0, z1, z2, z3, z4, z5, z6⟩ := id o1
  have hE : I 15 0 = -3 → comA la = none → Mx mX8_shared d 1 6 [vS 1, vI y] g I L (tqQ E4 (comA la) y g I L) := by
    intro c cn
    refine Mx_in (by decide +kernel) rfl rfl (Ex_wx [12, 22] 9 oX8_shared hw ?_)
    refine And.intro (fun _ => ?_) (fun c2 => absurd c c2)
    exact Ex_throw tOk_4 rfl rfl (by decide : (124, "no RUN, or one that was OUT") ∈ qStr) (by omega) (by decide) (dc_ok oX8_shared rfl) (dc_ok oX8_shared rfl) (dc_ok oX8_shared rfl) (dc_ok oX8_shared rfl) (dc_ok oX8_shared rfl) (fun n hn => Or.inr (Or.inl ⟨rfl, cn, Ext.more hn⟩))
  cases la with
  | none => exact hE hl rfl
  | some q =>
    obtain ⟨a1, a2, a3⟩ := id (show OutC I 15 q.1 q.2 from hl)
    by_cases c : q.2.1 = 2
    · exact hE (by rw [a1]; exact (ans_3 ho.2).mpr (by omega)) (by show (if q.2.1 = 2 then none else some (comO q.1 q.2)) = none; rw [if_pos c])
    · have eR : comA (some q) = some (comO q.1 q.2) := by show (if q.2.1 = 2 then none else some (comO q.1 q.2)) = _; rw [if_neg c]
      have hrow : RowIs I 17 (comO q.1 q.2) := a2 c
      have y1 : RG g 16 17 := z5
      have ha := ho.1
      refine Mx_in (by decide +kernel) rfl rfl (Ex_wx [12, 22] 9 oX8_shared hw ?_)
      refine And.intro (fun c2 => absurd ((ans_3 ho.2).mp (a1.symm.trans c2)) (by omega)) (fun _ => ?_)
      refine Ex_wx [] 9 oX8_shared hw ?_
      by_cases q2 : tlP (comO q.1 q.2) y
      · have hX : Mx mX8_tellOf 3 0 0 [vS 16, vI y] g I L (qV (some (vI ((comO q.1 q.2).2 y.toNatClampNeg))) g I L) := Mx_SD (e8_tellOf hw y1 hrow q2 (by omega))
        refine Ex_s (kc := 1) (ks := 6) (As := [vS 16, vI y]) (st := []) (d' := 3) sX8_118 rfl rfl hX (by omega) rfl (dc_ok oX8_shared rfl) ?_
        refine Ex_wx [] 9 oX8_shared hw ?_
        exact Or.inl ⟨_, eR, q2, rfl, rfl, rfl, rfl⟩
      · exact Ex_sT (kc := 0) (ks := 0) (kc' := 0 + 1) (ks' := 0 + 6) (As := [vS 16, vI y]) (st := []) (d' := 6) sX8_118 rfl rfl (Mx_SD (e8_tellOfT hw y1 hrow q2 (by omega))) (by omega) rfl (dc_ok oX8_shared rfl) rfl (fun m hm => Or.inr (Or.inr ⟨_, eR, q2, rfl, Ext.more hm⟩))
end CRun
