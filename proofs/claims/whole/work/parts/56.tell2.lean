/-! what is told of a RESULT: the class -/
theorem bz_er {I : aI} {k : Nat} : bz (I 6 k) = bI (erB (resAt I k)) := by
  show bz (I 6 k) = bI (decide (¬ I 6 k = 0))
  unfold bz bI
  by_cases h : I 6 k = 0 <;> simp [h]
section Tell2
variable {lx ly : Nat} {g : aG} {I : aI} {L : aL} {d r a lim top k : Nat} {p : Nat → Int32} {e : mE} {env : Nat → Int32}
theorem e3_tellResult (hC : Cm lx ly g) (hX : LayX I ly p) (hR : RG g r a) (ha : 13 < a) (hal : a ≠ ly) (hM : Mch I lim e env top) (h3 : top ≤ 3100) (hk : k < top) (hi : invE lim e) (hv : invL e) (hlim : lim ≤ 2000) (hl : inL (mE.us e) (I 8 k)) (hd : 3 ≤ d) :
    Mx mX3_tellResult d 0 0 [vS 3, vD (some r), vI (nI k)] g I L (rQ g L (fun I' => RowIs I' a (resG p e (resAt I k)) ∧ ∀ i k, i ≠ a → I' i k = I i k)) := by
  obtain ⟨hw, hly, hl13⟩ := hC
  obtain ⟨⟨x1, x2, x3, x6, x7⟩, x4, x5⟩ := hX
  obtain ⟨m7, m6, m4, m5, m8, m9, m10, m11, m12, m13, mt⟩ := hM
  obtain ⟨r1, r2, r3, r4⟩ := id hR
  have h4 := (hw 4 _ rfl).2.1
  have hus : mE.us e ≤ 2001 := by have := hi.2.1; have := hi.2.2; omega
  have hE : Mx mX5_isError 1 0 0 [vS 4, vI (nI k)] g I L (qV (some (vI (bI (erB (resAt I k))))) g I L) := by
    rw [← bz_er]; exact e5_isError hw mt h3 hk (by omega)
  generalize her : erB (resAt I k) = er at hE
  have hG : resG p e (resAt I k) = rowG (I 5 k) (bI er) (owF p 0 && !(er && ouF p 0)) (I 7 k) (owF p 1 && !(er && ouF p 1)) e (I 8 k) := by
    unfold resG; rw [her]; rfl
  rw [hG]
  obtain ⟨ln1, ln2⟩ := ln_ok (bL := owF p 1 && !(er && ouF p 1)) hv hus hl
  have h101 : ∀ (J : aI) (x : Int32), J = up2 (up2 (up2 (up2 I a 0 (I 5 k)) a 1 (bI er)) a 2 (bI (owF p 0 && !(er && ouF p 0)))) a 3 (if (owF p 0 && !(er && ouF p 0)) = true then I 7 k else 0) → x = bI (owF p 1 && !(er && ouF p 1)) →
      Ex mX3_tellResult d 0 0 (rQ g L (fun I' => RowIs I' a (rowG (I 5 k) (bI er) (owF p 0 && !(er && ouF p 0)) (I 7 k) (owF p 1 && !(er && ouF p 1)) e (I 8 k)) ∧ ∀ i k, i ≠ a → I' i k = I i k)) 101 [some (vS 3), some (vD (some r)), some (vI (nI k)), some (vI (bI er))] [vI x, vD (some r)] g J L := by
    rintro J x hJ rfl
    have jo : ∀ i k, i ≠ a → J i k = I i k := fun i k c => by rw [hJ, up2_i c, up2_i c, up2_i c, up2_i c]
    have e8 : J 8 k = I 8 k := jo _ _ (by omega)
    refine Ex_wx [] 9 oX3_tellResult hw ?_
    refine Ex_v (As := [vI (nI k)]) (st := [vS 9, vI (bI (owF p 1 && !(er && ouF p 1))), vD (some r)]) (d' := 1) vX3_139 rfl rfl (e5_logOf hw (by rw [jo _ _ (by omega)]; exact mt) h3 hk (by omega)) h4 (by omega) rfl (dc_ok oX3_tellResult rfl) ?_
    have hX : Mx mX6_setLog 2 0 0 [vD (some r), vI (bI (owF p 1 && !(er && ouF p 1))), vS 9, vI (J 8 k)] g J L (rQ g L (LgP J a (mE.us e) (lnF (owF p 1 && !(er && ouF p 1)) e (I 8 k)) (if (owF p 1 && !(er && ouF p 1)) = true then nI (lnF (owF p 1 && !(er && ouF p 1)) e (I 8 k)) else -1) (J 8 k))) := by
      refine e6_setLog hw hR (by omega) (by rw [jo _ _ (by omega)]; exact m9) hus ln1 ?_ (by omega)
      cases hb : (owF p 1 && !(er && ouF p 1))
      · exact Or.inr ⟨rfl, by rfl⟩
      · refine Or.inl ⟨rfl, ?_⟩
        rw [hb] at ln2
        have : J 12 = mE.le e := by rw [← m12]; funext k; exact jo _ _ (by omega)
        rw [this, e8]
        exact ln2 rfl
    refine Ex_rD (As := [vI (bI (owF p 1 && !(er && ouF p 1))), vS 9, vI (J 8 k)]) (st := []) vX3_118 rfl rfl hX r1 (by omega) rfl (dc_ok oX3_tellResult rfl) ?_
    intro I3 hP
    refine Ex_wx [] 9 oX3_tellResult hw ?_
    refine ⟨rfl, rfl, rfl, ?_⟩
    rw [e8, hJ] at hP
    exact row_made ⟨m10, m11⟩ ha ln1 hP
  have h60 : ∀ (J : aI) (x : Int32), J = up2 (up2 I a 0 (I 5 k)) a 1 (bI er) → x = bI (owF p 0 && !(er && ouF p 0)) →
      Ex mX3_tellResult d 0 0 (rQ g L (fun I' => RowIs I' a (rowG (I 5 k) (bI er) (owF p 0 && !(er && ouF p 0)) (I 7 k) (owF p 1 && !(er && ouF p 1)) e (I 8 k)) ∧ ∀ i k, i ≠ a → I' i k = I i k)) 60 [some (vS 3), some (vD (some r)), some (vI (nI k)), some (vI (bI er))] [vI x, vD (some r)] g J L := by
    rintro J x hJ rfl
    have jo : ∀ i k, i ≠ a → J i k = I i k := fun i k c => by rw [hJ, up2_i c, up2_i c]
    refine Ex_wx [] 9 oX3_tellResult hw ?_
    refine Ex_v (As := [vI (nI k)]) (st := [vI (bI (owF p 0 && !(er && ouF p 0))), vD (some r)]) (d' := 1) vX3_133 rfl rfl (e5_stateOf hw (by rw [jo _ _ (by omega)]; exact mt) h3 hk (by omega)) h4 (by omega) rfl (dc_ok oX3_tellResult rfl) ?_
    refine Ex_vD (As := [vI (bI (owF p 0 && !(er && ouF p 0))), vI (J 7 k)]) (st := []) (d' := 0) vX3_108 rfl rfl (e6_setState hw hR) r1 (by omega) rfl (dc_ok oX3_tellResult rfl) ?_
    have e4 : J 7 k = I 7 k := jo _ _ (by omega)
    have hK : up2 (up2 J a 2 (bI (owF p 0 && !(er && ouF p 0)))) a 3 (if (owF p 0 && !(er && ouF p 0)) = true then J 7 k else 0) = up2 (up2 (up2 (up2 I a 0 (I 5 k)) a 1 (bI er)) a 2 (bI (owF p 0 && !(er && ouF p 0)))) a 3 (if (owF p 0 && !(er && ouF p 0)) = true then I 7 k else 0) := by rw [e4, hJ]
    generalize up2 (up2 J a 2 (bI (owF p 0 && !(er && ouF p 0)))) a 3 (if (owF p 0 && !(er && ouF p 0)) = true then J 7 k else 0) = K at hK ⊢
    have ko : ∀ i k, i ≠ a → K i k = I i k := fun i k c => by rw [hK, up2_i c, up2_i c, up2_i c, up2_i c]
    refine Ex_wx [100, 96, 82] 9 oX3_tellResult hw ?_
    refine And.intro hly ?_
    refine And.intro (fun c => ?_) (fun c => ?_)
    · rw [ko _ _ (Ne.symm hal), x2] at c
      have c1 : owF p 1 = false := bI_eq c
      refine Ex_bn 1 oX3_tellResult hw ?_
      exact h101 K 0 hK (by rw [c1]; rfl)
    · rw [ko _ _ (Ne.symm hal), x2] at c
      have c1 : owF p 1 = true := bI_ne c
      refine Ex_wx [100, 96, 86] 9 oX3_tellResult hw ?_
      refine And.intro (fun c => ?_) (fun c => ?_)
      · have c2 := bI_eq c
        refine Ex_wx [101] 9 oX3_tellResult hw ?_
        exact h101 K 1 hK (by rw [c1, c2]; rfl)
      · have c2 := bI_ne c
        refine Ex_wx [100, 96] 9 oX3_tellResult hw ?_
        refine And.intro hly ?_
        refine And.intro (fun c => ?_) (fun c => ?_)
        · rw [ko _ _ (Ne.symm hal), x7] at c
          have c3 : ouF p 1 = false := bI_eq c
          refine Ex_wx [101] 9 oX3_tellResult hw ?_
          exact h101 K 1 hK (by rw [c1, c2, c3]; rfl)
        · rw [ko _ _ (Ne.symm hal), x7] at c
          have c3 : ouF p 1 = true := bI_ne c
          refine Ex_bn 1 oX3_tellResult hw ?_
          exact h101 K 0 hK (by rw [c1, c2, c3]; rfl)
  have h27 : ∀ x, x = bI er → Ex mX3_tellResult d 0 0 (rQ g L (fun I' => RowIs I' a (rowG (I 5 k) (bI er) (owF p 0 && !(er && ouF p 0)) (I 7 k) (owF p 1 && !(er && ouF p 1)) e (I 8 k)) ∧ ∀ i k, i ≠ a → I' i k = I i k)) 27 [some (vS 3), some (vD (some r)), some (vI (nI k)), some (vI (bI er))] [vI x, vI (I 5 k), vD (some r)] g I L := by
    intro x hx
    refine Ex_vD (As := [vI (I 5 k), vI x]) (st := []) (d' := 0) vX3_95 rfl rfl (e6_setHead hw hR) r1 (by omega) rfl (dc_ok oX3_tellResult rfl) ?_
    have hJ : up2 (up2 I a 0 (I 5 k)) a 1 x = up2 (up2 I a 0 (I 5 k)) a 1 (bI er) := by rw [hx]
    generalize up2 (up2 I a 0 (I 5 k)) a 1 x = J at hJ ⊢
    have jo : ∀ i k, i ≠ a → J i k = I i k := fun i k c => by rw [hJ, up2_i c, up2_i c]
    refine Ex_wx [59, 55, 41] 9 oX3_tellResult hw ?_
    refine And.intro hly ?_
    refine And.intro (fun c => ?_) (fun c => ?_)
    · rw [jo _ _ (Ne.symm hal), x1] at c
      have c1 : owF p 0 = false := bI_eq c
      refine Ex_bn 1 oX3_tellResult hw ?_
      exact h60 J 0 hJ (by rw [c1]; rfl)
    · rw [jo _ _ (Ne.symm hal), x1] at c
      have c1 : owF p 0 = true := bI_ne c
      refine Ex_wx [59, 55, 45] 9 oX3_tellResult hw ?_
      refine And.intro (fun c => ?_) (fun c => ?_)
      · have c2 := bI_eq c
        refine Ex_wx [60] 9 oX3_tellResult hw ?_
        exact h60 J 1 hJ (by rw [c1, c2]; rfl)
      · have c2 := bI_ne c
        refine Ex_wx [59, 55] 9 oX3_tellResult hw ?_
        refine And.intro hly ?_
        refine And.intro (fun c => ?_) (fun c => ?_)
        · rw [jo _ _ (Ne.symm hal), x6] at c
          have c3 : ouF p 0 = false := bI_eq c
          refine Ex_wx [60] 9 oX3_tellResult hw ?_
          exact h60 J 1 hJ (by rw [c1, c2, c3]; rfl)
        · rw [jo _ _ (Ne.symm hal), x6] at c
          have c3 : ouF p 0 = true := bI_ne c
          refine Ex_bn 1 oX3_tellResult hw ?_
          exact h60 J 0 hJ (by rw [c1, c2, c3]; rfl)
  refine Mx_in (by decide +kernel) rfl rfl (Ex_wx [] 9 oX3_tellResult hw ?_)
  refine Ex_v (As := [vI (nI k)]) (st := []) (d' := 1) vX3_122 rfl rfl hE h4 (by omega) rfl (dc_ok oX3_tellResult rfl) ?_
  refine Ex_wx [] 9 oX3_tellResult hw ?_
  refine Ex_v (As := [vI (nI k)]) (st := [vD (some r)]) (d' := 1) vX3_126 rfl rfl (e5_numberOf hw mt h3 hk (by omega)) h4 (by omega) rfl (dc_ok oX3_tellResult rfl) ?_
  refine Ex_wx [26, 27] 9 oX3_tellResult hw ?_
  refine And.intro (fun c => ?_) (fun c => ?_)
  · have c1 := bI_eq c
    refine Ex_bn 1 oX3_tellResult hw ?_
    exact h27 0 (by rw [c1]; rfl)
  · have c1 := bI_ne c
    exact h27 1 (by rw [c1]; rfl)
/-- an outcome and its rows -/
def OG (g : aG) (o : Nat) : Prop := 13 < o ∧ g.2.1 o = some (.inl 4) ∧ g.2.2 o 1 = some (o + 1) ∧ g.2.2 o 2 = some (o + 3) ∧ g.2.1 (o + 3) = some (.inr (.object RX6, 50)) ∧ RG g (o + 1) (o + 2) ∧ ∀ k, k < 50 → g.2.2 (o + 3) k = some (o + 4 + 2 * k) ∧ RG g (o + 4 + 2 * k) (o + 5 + 2 * k)
def ansO (q : mO) : Int32 := if q.1 = 0 then nI q.2.1.length else if q.1 = 1 then -2 else -3
def comO (p : Nat → Int32) (q : mO) : Nat × (Nat → Int32) := comG p (decide (q.1 = 1)) q.2.2
/-- what an outcome tells, at o -/
def OutC (I : aI) (o : Nat) (p : Nat → Int32) (q : mO) : Prop := I o 0 = ansO q ∧ (q.1 ≠ 2 → RowIs I (o + 2) (comO p q)) ∧ (q.1 = 0 → ∀ k r, q.2.1[k]? = some r → RowIs I (o + 5 + 2 * k) (resG p q.2.2 r))
def inO (o i : Nat) : Prop := o ≤ i ∧ i < o + 104
/-- the row of a result that is there -/
theorem e4_rowOf {o n : Nat} (hw : WS lx ly g) (hO : OG g o) (ha : I o 0 = nI n) (hk : k < n) (hn : n ≤ 50) : Mx mX4_rowOf 0 0 0 [vD (some o), vI (nI k)] g I L (qV (some (vD (some (o + 4 + 2 * k)))) g I L) := by
  obtain ⟨o0, o1, o2, o3, o4, o5, o6⟩ := hO
  refine Mx_in (by decide +kernel) rfl rfl (Ex_wx [27, 4] 9 oX4_rowOf hw ?_)
  refine And.intro (fun c => absurd c (nI_pos (by omega))) (fun _ => ?_)
  refine Ex_wx [27, 12] 9 oX4_rowOf hw ?_
  refine And.intro o1 ?_
  refine And.intro (fun c => ?_) (fun _ => ?_)
  · rw [ha] at c
    exact absurd c (nI_ge hk (by omega))
  refine Ex_wx [27, 18] 9 oX4_rowOf hw ?_
  refine And.intro (fun c => absurd (show nI 50 ≤ nI k from c) (nI_ge (by omega) (by omega))) (fun _ => ?_)
  refine Ex_bn 2 oX4_rowOf hw ?_
  refine And.intro o1 ?_
  show Ex mX4_rowOf 0 0 0 _ 22 [some (vD (some o)), some (vI (nI k))] [vD (g.2.2 o 2)] g I L
  rw [o3]
  refine Ex_bn 2 oX4_rowOf hw ?_
  refine ⟨50, RX6, ⟨Or.inr rfl, o4, inN (by omega) (by omega)⟩, ?_⟩
  rw [clN (by omega), (o6 k (by omega)).1]
  refine Ex_wx [] 9 oX4_rowOf hw ?_
  exact ⟨rfl, rfl, rfl, rfl⟩
theorem e3_tell {o : Nat} {q : mO} (hC : Cm lx ly g) (hX : LayX I ly p) (hO : OG g o) (hlo : ¬ inO o ly) (hM : Mch I lim q.2.2 env top) (h3 : top ≤ 3100) (hi : invE lim q.2.2) (hv : invL q.2.2) (hlim : lim ≤ 2000) (hq : q.1 = 0 ∧ top = q.2.1.length ∧ top ≤ 50 ∧ Rows I 0 q.2.1 ∧ rowL (mE.us q.2.2) q.2.1 ∨ q.1 = 1) (hans : I o 0 = ansO q) (hd : 4 ≤ d) :
    Mx mX3_tell d 0 0 [vS 3, vD (some o)] g I L (rQ g L (fun I' => OutC I' o p q ∧ ∀ i, ¬ inO o i → I' i = I i)) := by
  obtain ⟨o0, o1, o2, o3, o4, o5, o6⟩ := id hO
  obtain ⟨hw, hly, hl13⟩ := id hC
  have hs3 := (hw 3 _ rfl).2.1
  have hlo' : ∀ a, inO o a → a ≠ ly := fun a ha c => hlo (c ▸ ha)
  have h24 : ∀ (m k : Nat) (w : Option aV) (I1 : aI), k + m = (if q.1 = 0 then q.2.1.length else 0) → RowIs I1 (o + 2) (comO p q) → (∀ j r, j < k → q.2.1[j]? = some r → RowIs I1 (o + 5 + 2 * j) (resG p q.2.2 r)) → I1 o 0 = ansO q → (∀ i, ¬ inO o i → I1 i = I i) →
      Ex mX3_tell d 0 0 (rQ g L (fun I' => OutC I' o p q ∧ ∀ i, ¬ inO o i → I' i = I i)) 24 [some (vS 3), some (vD (some o)), some (vI (nI k)), w] [] g I1 L := by
    intro m
    induction m with
    | zero =>
      intro k w I1 hk hc hr ha hf
      have hfin : rQ g L (fun I' => OutC I' o p q ∧ ∀ i, ¬ inO o i → I' i = I i) (.inl none) g I1 L := by
        refine ⟨rfl, rfl, rfl, ⟨ha, fun _ => hc, fun h0 j r hj => hr j r ?_ hj⟩, hf⟩
        rw [if_pos h0] at hk
        have := (List.getElem?_eq_some_iff.mp hj).1
        omega
      refine Ex_wx [60] 9 oX3_tell hw ?_
      refine And.intro o1 ?_
      refine And.intro (fun c => ?_) (fun c => ?_)
      · refine Ex_wx [] 9 oX3_tell hw ?_
        exact hfin
      · exfalso
        rw [ha] at c
        unfold ansO at c
        rcases hq with ⟨h0, h1, h2, -⟩ | h1
        · rw [if_pos h0] at c hk
          refine c (nI_le (by omega) (by omega))
        · rw [h1] at c hk
          rw [if_neg (by omega)] at hk
          rw [if_neg (by omega), if_pos rfl] at c
          have : k = 0 := by omega
          subst this
          exact c (by decide)
    | succ m ih =>
      intro k w I1 hk hc hr ha hf
      rcases hq with ⟨h0, h1, h2, hR, hL2⟩ | h1
      · rw [if_pos h0] at hk
        have hkl : k < q.2.1.length := by omega
        obtain ⟨rr, hrr⟩ : ∃ rr, q.2.1[k]? = some rr := ⟨_, List.getElem?_eq_getElem hkl⟩
        have ha2 : I1 o 0 = nI q.2.1.length := by rw [ha]; unfold ansO; rw [if_pos h0]
        refine Ex_wx [60, 32] 9 oX3_tell hw ?_
        refine And.intro o1 ?_
        refine And.intro (fun c => ?_) (fun c => ?_)
        · rw [ha2] at c
          exact absurd c (nI_ge hkl (by omega))
        refine Ex_wx [60, 38] 9 oX3_tell hw ?_
        refine And.intro (fun c => absurd (show nI 50 ≤ nI k from c) (nI_ge (by omega) (by omega))) (fun c => ?_)
        refine Ex_wx [] 9 oX3_tell hw ?_
        refine Ex_vD (As := [vI (nI k)]) (st := []) (d' := 0) vX3_87 rfl rfl (e4_rowOf hw hO ha2 hkl (by omega)) o1 (by omega) rfl (dc_ok oX3_tell rfl) ?_
        refine Ex_wx [] 9 oX3_tell hw ?_
        have fr : ∀ i, i < 14 → I1 i = I i := fun i hi => hf i (by unfold inO; omega)
        have hres : resAt I1 k = rr := by
          have h9 := hR k rr hrr
          rw [Nat.zero_add] at h9
          unfold resAt at h9 ⊢
          rw [fr 5 (by omega), fr 6 (by omega), fr 7 (by omega), fr 8 (by omega)]
          exact h9
        have hM1 : Mch I1 lim q.2.2 env top := by
          unfold Mch at hM ⊢
          rw [fr 3 (by omega), fr 9 (by omega), fr 10 (by omega), fr 11 (by omega), fr 12 (by omega), fr 13 (by omega), fr 4 (by omega)]
          exact hM
        have hY := e3_tellResult (L := L) (d := 3) (k := k) hC (hX.eq (hf ly hlo)) (o6 k (by omega)).2 (by omega) (hlo' _ (by unfold inO; omega)) hM1 h3 (by omega) hi hv hlim (by
          have h9 : (resAt I1 k).2.2.2 = rr.2.2.2 := by rw [hres]
          show inL _ ((resAt I1 k).2.2.2)
          rw [h9]
          exact hL2 rr (List.mem_of_getElem? hrr)) (by omega)
        refine Ex_r (As := [vD (some (o + 4 + 2 * k)), vI (nI k)]) (st := []) vX3_91 rfl rfl hY hs3 (by omega) rfl (dc_ok oX3_tell rfl) ?_
        rintro I2 ⟨hP, hPf⟩
        rw [hres] at hP
        refine Ex_wx [24] 9 oX3_tell hw ?_
        show Ex mX3_tell d 0 0 _ 24 [some (vS 3), some (vD (some o)), some (vI (nI k + 1)), some (vD (some (o + 4 + 2 * k)))] [] g I2 L
        rw [← nI_succ]
        refine ih (k + 1) _ I2 (by rw [if_pos h0]; omega) (hc.eq (by funext j; exact hPf _ _ (by omega))) ?_ (by rw [hPf _ _ (by omega)]; exact ha) (fun i hi => by rw [← hf i hi]; funext j; exact hPf _ _ (by unfold inO at hi; omega))
        intro j r hj hr2
        by_cases hjk : j = k
        · subst hjk
          rw [hrr] at hr2
          cases hr2
          exact hP
        · exact (hr j r (by omega) hr2).eq (by funext i; exact hPf _ _ (by omega))
      · rw [if_neg (by omega)] at hk
        omega
  have h19 : ∀ x, x = bI (decide (q.1 = 1)) → Ex mX3_tell d 0 0 (rQ g L (fun I' => OutC I' o p q ∧ ∀ i, ¬ inO o i → I' i = I i)) 19 [some (vS 3), some (vD (some o)), none, none] [vI x, vD (some (o + 1)), vS 3] g I L := by
    rintro x rfl
    have hY := e3_tellCommon (L := L) (d := 3) (en := decide (q.1 = 1)) hC hX o5 (by omega) (hlo' _ (by unfold inO; omega)) hM hi hv hlim (by omega)
    refine Ex_r (As := [vD (some (o + 1)), vI (bI (decide (q.1 = 1)))]) (st := []) vX3_83 rfl rfl hY hs3 (by omega) rfl (dc_ok oX3_tell rfl) ?_
    rintro I1 ⟨hP, hPf⟩
    refine Ex_bn 2 oX3_tell hw ?_
    exact h24 (if q.1 = 0 then q.2.1.length else 0) 0 _ I1 (by omega) hP (fun j r hj => by omega) (by rw [hPf _ _ (by omega)]; exact hans) (fun i hi => by funext j; exact hPf _ _ (by unfold inO at hi; omega))
  refine Mx_in (by decide +kernel) rfl rfl (Ex_bn 3 oX3_tell hw ?_)
  refine And.intro o1 ?_
  show Ex mX3_tell d 0 0 _ 5 [some (vS 3), some (vD (some o)), none, none] [vD (g.2.2 o 1), vS 3] g I L
  rw [o2]
  refine Ex_wx [18, 19] 9 oX3_tell hw ?_
  refine And.intro o1 ?_
  refine And.intro (fun c => ?_) (fun c => ?_)
  · rw [hans] at c
    refine h19 1 ?_
    rcases hq with ⟨h0, h1, h2, -⟩ | h1
    · exfalso
      unfold ansO at c
      rw [if_pos h0] at c
      exact nI_pos (n := q.2.1.length) (by omega) (by rw [c]; decide)
    · rw [decide_eq_true h1]; rfl
  · rw [hans] at c
    refine Ex_bn 1 oX3_tell hw ?_
    refine h19 0 ?_
    have : ¬ q.1 = 1 := fun h1 => c (by unfold ansO; rw [if_neg (by omega), if_pos h1])
    rw [decide_eq_false this]; rfl
end Tell2
