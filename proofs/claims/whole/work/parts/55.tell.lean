/-! what is told of a run: the class -/
def rwF (h1 h2 : Int32) (bS : Bool) (s : Int32) (bL : Bool) (n : Nat) (e : mE) (l : Int32) : Nat → Int32
  | 0 => h1
  | 1 => h2
  | 2 => bI bS
  | 3 => if bS = true then s else 0
  | 4 => if bL = true then nI n else -1
  | i + 5 => entL (mE.nu e) (mE.be e) (mE.us e) n l i
def lnF (bL : Bool) (e : mE) (l : Int32) : Nat := if bL = true then (lenF e l).toNatClampNeg else 0
def rowG (h1 h2 : Int32) (bS : Bool) (s : Int32) (bL : Bool) (e : mE) (l : Int32) : Nat × (Nat → Int32) := (lnF bL e l, rwF h1 h2 bS s bL (lnF bL e l) e l)
def comG (p : Nat → Int32) (en : Bool) (e : mE) : Nat × (Nat → Int32) := rowG (if en = true then mE.en e else 0) (nI (mE.sp e)) (shF p 0 && !(en && ouF p 0)) (mE.s e) (shF p 1 && !(en && ouF p 1)) e (mE.l e)
def erB (r : mR) : Bool := decide (¬ r.2.1 = 0)
def resG (p : Nat → Int32) (e : mE) (r : mR) : Nat × (Nat → Int32) := rowG r.1 (bI (erB r)) (owF p 0 && !(erB r && ouF p 0)) r.2.2.1 (owF p 1 && !(erB r && ouF p 1)) e r.2.2.2
def RowIs (I : aI) (a : Nat) (R : Nat × (Nat → Int32)) : Prop := LenOk (R.2 4) R.1 ∧ ∀ i, i < 5 + R.1 → I a i = R.2 i
def LayX (I : aI) (ly : Nat) (p : Nat → Int32) : Prop := Lay I ly (flF p) ∧ I ly 4 = bI (shF p 0) ∧ I ly 5 = bI (shF p 1)
theorem RowIs.eq {I I' : aI} {a : Nat} {R : Nat × (Nat → Int32)} (h : RowIs I a R) (q : I' a = I a) : RowIs I' a R := ⟨h.1, fun i hi => by rw [q]; exact h.2 i hi⟩
theorem LayX.eq {I I' : aI} {ly : Nat} {p : Nat → Int32} (h : LayX I ly p) (q : I' ly = I ly) : LayX I' ly p := by
  obtain ⟨⟨h1, h2, h3, h4, h5⟩, h6, h7⟩ := h
  unfold LayX Lay
  rw [q]
  exact ⟨⟨h1, h2, h3, h4, h5⟩, h6, h7⟩
theorem ln_ok {e : mE} {l : Int32} {bL : Bool} (h : invL e) (hu : mE.us e ≤ 2001) (hl : inL (mE.us e) l) : lnF bL e l ≤ 60 ∧ (bL = true → lenF e l = nI (lnF bL e l)) := by
  obtain ⟨n, hn, e1⟩ := lenF_ok h hu hl
  unfold lnF
  cases bL
  · exact ⟨by rw [if_neg (by decide)]; omega, fun c => by cases c⟩
  · rw [if_pos rfl, e1, clN (by omega)]
    exact ⟨hn, fun _ => rfl⟩
theorem row_made {I I3 : aI} {a : Nat} {e : mE} {h1 h2 s l : Int32} {bS bL : Bool} (he : I 10 = mE.nu e ∧ I 11 = mE.be e) (ha : 13 < a) (hn : lnF bL e l ≤ 60)
    (h : LgP (up2 (up2 (up2 (up2 I a 0 h1) a 1 h2) a 2 (bI bS)) a 3 (if bS = true then s else 0)) a (mE.us e) (lnF bL e l) (if bL = true then nI (lnF bL e l) else -1) l I3) : RowIs I3 a (rowG h1 h2 bS s bL e l) ∧ ∀ i k, i ≠ a → I3 i k = I i k := by
  obtain ⟨q4, qe, qo⟩ := h
  refine ⟨⟨?_, ?_⟩, ?_⟩
  · show LenOk (if bL = true then nI (lnF bL e l) else -1) (lnF bL e l)
    cases bL
    · exact Or.inr ⟨rfl, rfl⟩
    · exact Or.inl ⟨rfl, hn⟩
  · intro i hi
    match i, hi with
    | 0, _ => rw [qo a 0 (by omega), up2_k (by omega), up2_k (by omega), up2_k (by omega), up2_s]; rfl
    | 1, _ => rw [qo a 1 (by omega), up2_k (by omega), up2_k (by omega), up2_s]; rfl
    | 2, _ => rw [qo a 2 (by omega), up2_k (by omega), up2_s]; rfl
    | 3, _ => rw [qo a 3 (by omega), up2_s]; rfl
    | 4, _ => rw [q4]; rfl
    | i + 5, hi =>
      have hi' : i < lnF bL e l := by
        have : i + 5 < 5 + lnF bL e l := hi
        omega
      have e10 : up2 (up2 (up2 (up2 I a 0 h1) a 1 h2) a 2 (bI bS)) a 3 (if bS = true then s else 0) 10 = mE.nu e := by
        rw [← he.1]; funext k; rw [up2_i (by omega), up2_i (by omega), up2_i (by omega), up2_i (by omega)]
      have e11 : up2 (up2 (up2 (up2 I a 0 h1) a 1 h2) a 2 (bI bS)) a 3 (if bS = true then s else 0) 11 = mE.be e := by
        rw [← he.2]; funext k; rw [up2_i (by omega), up2_i (by omega), up2_i (by omega), up2_i (by omega)]
      have h9 := qe i hi'
      rw [e10, e11] at h9
      rw [show 5 + i = i + 5 by omega] at h9
      rw [h9]
      rfl
  · intro i k c
    rw [qo i k (by omega), up2_i c, up2_i c, up2_i c, up2_i c]
section Tell
variable {lx ly : Nat} {g : aG} {I : aI} {L : aL} {d r a lim top : Nat} {p : Nat → Int32} {e : mE} {env : Nat → Int32}
theorem e3_tellCommon {en : Bool} (hC : Cm lx ly g) (hX : LayX I ly p) (hR : RG g r a) (ha : 13 < a) (hal : a ≠ ly) (hM : Mch I lim e env top) (hi : invE lim e) (hv : invL e) (hlim : lim ≤ 2000) (hd : 3 ≤ d) :
    Mx mX3_tellCommon d 0 0 [vS 3, vD (some r), vI (bI en)] g I L (rQ g L (fun I' => RowIs I' a (comG p en e) ∧ ∀ i k, i ≠ a → I' i k = I i k)) := by
  obtain ⟨hw, hly, hl13⟩ := hC
  obtain ⟨⟨x1, x2, x3, x6, x7⟩, x4, x5⟩ := hX
  obtain ⟨m7, m6, m4, m5, m8, m9, m10, m11, m12, m13, mt⟩ := hM
  obtain ⟨r1, r2, r3, r4⟩ := id hR
  have hus : mE.us e ≤ 2001 := by have := hi.2.1; have := hi.2.2; omega
  obtain ⟨ln1, ln2⟩ := ln_ok (bL := shF p 1 && !(en && ouF p 1)) hv hus hv.2
  -- the log
  have h87 : ∀ (J : aI) (x : Int32), J = up2 (up2 (up2 (up2 I a 0 (if en = true then mE.en e else 0)) a 1 (nI (mE.sp e))) a 2 (bI (shF p 0 && !(en && ouF p 0)))) a 3 (if (shF p 0 && !(en && ouF p 0)) = true then mE.s e else 0) → x = bI (shF p 1 && !(en && ouF p 1)) →
      Ex mX3_tellCommon d 0 0 (rQ g L (fun I' => RowIs I' a (comG p en e) ∧ ∀ i k, i ≠ a → I' i k = I i k)) 87 [some (vS 3), some (vD (some r)), some (vI (bI en))] [vI x, vD (some r)] g J L := by
    rintro J x hJ rfl
    have jo : ∀ i k, i ≠ a → J i k = I i k := fun i k c => by rw [hJ, up2_i c, up2_i c, up2_i c, up2_i c]
    refine Ex_wx [] 9 oX3_tellCommon hw ?_
    have hX : Mx mX6_setLog 2 0 0 [vD (some r), vI (bI (shF p 1 && !(en && ouF p 1))), vS 9, vI (J 3 5)] g J L (rQ g L (LgP J a (mE.us e) (lnF (shF p 1 && !(en && ouF p 1)) e (mE.l e)) (if (shF p 1 && !(en && ouF p 1)) = true then nI (lnF (shF p 1 && !(en && ouF p 1)) e (mE.l e)) else -1) (J 3 5))) := by
      refine e6_setLog hw hR (by omega) (by rw [jo _ _ (by omega)]; exact m9) hus ln1 ?_ (by omega)
      cases hb : (shF p 1 && !(en && ouF p 1))
      · exact Or.inr ⟨rfl, by rfl⟩
      · refine Or.inl ⟨rfl, ?_⟩
        rw [hb] at ln2
        have : J 12 = mE.le e := by rw [← m12]; funext k; exact jo _ _ (by omega)
        rw [this, jo 3 5 (by omega), m5]
        exact ln2 rfl
    refine Ex_rD (As := [vI (bI (shF p 1 && !(en && ouF p 1))), vS 9, vI (J 3 5)]) (st := []) vX3_118 rfl rfl hX r1 (by omega) rfl (dc_ok oX3_tellCommon rfl) ?_
    intro I3 hP
    refine Ex_wx [] 9 oX3_tellCommon hw ?_
    refine ⟨rfl, rfl, rfl, ?_⟩
    rw [jo 3 5 (by omega), m5, hJ] at hP
    exact row_made ⟨m10, m11⟩ ha ln1 hP
  -- the state
  have h50 : ∀ (J : aI) (x : Int32), J = up2 (up2 I a 0 (if en = true then mE.en e else 0)) a 1 (nI (mE.sp e)) → x = bI (shF p 0 && !(en && ouF p 0)) →
      Ex mX3_tellCommon d 0 0 (rQ g L (fun I' => RowIs I' a (comG p en e) ∧ ∀ i k, i ≠ a → I' i k = I i k)) 50 [some (vS 3), some (vD (some r)), some (vI (bI en))] [vI x, vD (some r)] g J L := by
    rintro J x hJ rfl
    have jo : ∀ i k, i ≠ a → J i k = I i k := fun i k c => by rw [hJ, up2_i c, up2_i c]
    refine Ex_wx [] 9 oX3_tellCommon hw ?_
    refine Ex_vD (As := [vI (bI (shF p 0 && !(en && ouF p 0))), vI (J 3 4)]) (st := []) (d' := 0) vX3_108 rfl rfl (e6_setState hw hR) r1 (by omega) rfl (dc_ok oX3_tellCommon rfl) ?_
    have e4 : J 3 4 = mE.s e := by rw [jo _ _ (by omega)]; exact m4
    have hK : up2 (up2 J a 2 (bI (shF p 0 && !(en && ouF p 0)))) a 3 (if (shF p 0 && !(en && ouF p 0)) = true then J 3 4 else 0) = up2 (up2 (up2 (up2 I a 0 (if en = true then mE.en e else 0)) a 1 (nI (mE.sp e))) a 2 (bI (shF p 0 && !(en && ouF p 0)))) a 3 (if (shF p 0 && !(en && ouF p 0)) = true then mE.s e else 0) := by rw [e4, hJ]
    generalize up2 (up2 J a 2 (bI (shF p 0 && !(en && ouF p 0)))) a 3 (if (shF p 0 && !(en && ouF p 0)) = true then J 3 4 else 0) = K at hK ⊢
    have ko : ∀ i k, i ≠ a → K i k = I i k := fun i k c => by rw [hK, up2_i c, up2_i c, up2_i c, up2_i c]
    refine Ex_wx [86, 82, 68] 9 oX3_tellCommon hw ?_
    refine And.intro hly ?_
    refine And.intro (fun c => ?_) (fun c => ?_)
    · rw [ko _ _ (Ne.symm hal), x5] at c
      have c1 := bI_eq c
      refine Ex_bn 1 oX3_tellCommon hw ?_
      exact h87 K 0 hK (by rw [c1]; rfl)
    · rw [ko _ _ (Ne.symm hal), x5] at c
      have c1 := bI_ne c
      refine Ex_wx [86, 82, 72] 9 oX3_tellCommon hw ?_
      refine And.intro (fun c => ?_) (fun c => ?_)
      · have c2 := bI_eq c
        refine Ex_wx [87] 9 oX3_tellCommon hw ?_
        exact h87 K 1 hK (by rw [c1, c2]; rfl)
      · have c2 := bI_ne c
        refine Ex_wx [86, 82] 9 oX3_tellCommon hw ?_
        refine And.intro hly ?_
        refine And.intro (fun c => ?_) (fun c => ?_)
        · rw [ko _ _ (Ne.symm hal), x7] at c
          have c3 : ouF p 1 = false := bI_eq c
          refine Ex_wx [87] 9 oX3_tellCommon hw ?_
          exact h87 K 1 hK (by rw [c1, c2, c3]; rfl)
        · rw [ko _ _ (Ne.symm hal), x7] at c
          have c3 : ouF p 1 = true := bI_ne c
          refine Ex_bn 1 oX3_tellCommon hw ?_
          exact h87 K 0 hK (by rw [c1, c2, c3]; rfl)
  have h13 : ∀ x, x = (if en = true then mE.en e else 0) → Ex mX3_tellCommon d 0 0 (rQ g L (fun I' => RowIs I' a (comG p en e) ∧ ∀ i k, i ≠ a → I' i k = I i k)) 13 [some (vS 3), some (vD (some r)), some (vI (bI en))] [vI x, vD (some r)] g I L := by
    intro x hx
    refine Ex_wx [] 9 oX3_tellCommon hw ?_
    refine Ex_vD (As := [vI x, vI (I 3 7)]) (st := []) (d' := 0) vX3_95 rfl rfl (e6_setHead hw hR) r1 (by omega) rfl (dc_ok oX3_tellCommon rfl) ?_
    have hJ : up2 (up2 I a 0 x) a 1 (I 3 7) = up2 (up2 I a 0 (if en = true then mE.en e else 0)) a 1 (nI (mE.sp e)) := by rw [hx, m7]
    generalize up2 (up2 I a 0 x) a 1 (I 3 7) = J at hJ ⊢
    have jo : ∀ i k, i ≠ a → J i k = I i k := fun i k c => by rw [hJ, up2_i c, up2_i c]
    refine Ex_wx [49, 45, 31] 9 oX3_tellCommon hw ?_
    refine And.intro hly ?_
    refine And.intro (fun c => ?_) (fun c => ?_)
    · rw [jo _ _ (Ne.symm hal), x4] at c
      have c1 := bI_eq c
      refine Ex_bn 1 oX3_tellCommon hw ?_
      exact h50 J 0 hJ (by rw [c1]; rfl)
    · rw [jo _ _ (Ne.symm hal), x4] at c
      have c1 := bI_ne c
      refine Ex_wx [49, 45, 35] 9 oX3_tellCommon hw ?_
      refine And.intro (fun c => ?_) (fun c => ?_)
      · have c2 := bI_eq c
        refine Ex_wx [50] 9 oX3_tellCommon hw ?_
        exact h50 J 1 hJ (by rw [c1, c2]; rfl)
      · have c2 := bI_ne c
        refine Ex_wx [49, 45] 9 oX3_tellCommon hw ?_
        refine And.intro hly ?_
        refine And.intro (fun c => ?_) (fun c => ?_)
        · rw [jo _ _ (Ne.symm hal), x6] at c
          have c3 : ouF p 0 = false := bI_eq c
          refine Ex_wx [50] 9 oX3_tellCommon hw ?_
          exact h50 J 1 hJ (by rw [c1, c2, c3]; rfl)
        · rw [jo _ _ (Ne.symm hal), x6] at c
          have c3 : ouF p 0 = true := bI_ne c
          refine Ex_bn 1 oX3_tellCommon hw ?_
          exact h50 J 0 hJ (by rw [c1, c2, c3]; rfl)
  refine Mx_in (by decide +kernel) rfl rfl (Ex_wx [12, 13] 9 oX3_tellCommon hw ?_)
  refine And.intro (fun c => ?_) (fun c => ?_)
  · have c1 := bI_eq c
    refine Ex_bn 1 oX3_tellCommon hw ?_
    exact h13 0 (by rw [c1]; rfl)
  · have c1 := bI_ne c
    exact h13 _ (by rw [c1, if_pos rfl]; exact m8)
end Tell
