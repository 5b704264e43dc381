/-! the reference: what it keeps of a run: the common part -/
theorem idxN {a b : Nat} (h : a + b < 2 ^ 31) : (nI a + nI b).toNatClampNeg = a + b := by rw [nI_add]; exact clN h
theorem idxV {a b n : Nat} (h : a + b < n) (hn : n < 2 ^ 31) : vp_in (nI a + nI b) n := by rw [nI_add]; exact inN h hn
def comR (p : Nat → Int32) (en : Bool) (x35 x31 : Int32) (e : mE) : Nat × (Nat → Int32) := rowG x35 x31 (shF p 0 && !(en && ouF p 0)) (mE.s e) (shF p 1 && !(en && ouF p 1)) e (mE.l e)
/-- what is kept of the common part -/
def KtC (I : aI) (w : Nat) (R : Nat × (Nat → Int32)) : Prop := (∀ i, i < 5 → I 361 (6 * w + (1 + i)) = R.2 i) ∧ ∀ i, i < R.1 → I 362 (60 * w + i) = R.2 (5 + i)
def cc1 (w i k : Nat) : Prop := (i = 361 ∧ 6 * w ≤ k ∧ k < 6 * w + 6) ∨ (i = 362 ∧ 60 * w ≤ k ∧ k < 60 * w + 60)
theorem sh_own {p : Nat → Int32} {l : Nat} (h : shF p l = true) : owF p l = false := by
  unfold shF at h
  cases h2 : owF p l with
  | false => rfl
  | true => rw [h2, Bool.not_true, Bool.and_false] at h; cases h
section KeepC
variable {lx ly : Nat} {g : aG} {I : aI} {L : aL} {d w n : Nat} {p : Nat → Int32} {e : mE} {Q : aQ} {en : Bool} {v3 v4 v5 v6 : Option aV}
theorem r_keepC (hw : WS lx ly g) (hp : I 336 = p) (hw2 : w < 2) (hen : en = decide (¬ I 328 34 = 0)) (hL : Lr (flF p) I e) (hv : invL e) (hus : mE.us e ≤ 2001) (hd : 3 ≤ d)
    (hfin : ∀ J, (∀ i k, ¬ cc1 w i k → J i k = I i k) → J 361 (6 * w) = (if I 328 33 = 0 then (if I 328 34 = 0 then nI n else -2) else -3) → KtC J w (comR p en (I 328 35) (I 328 31) e) → Q (.inl none) g J L) :
    Ex mX9_keep d 0 0 Q 243 [some (vS 328), some (vI (nI w)), some (vI (nI n)), v3, v4, v5, v6] [] g I L := by
  have h0 := (hw 328 _ rfl).2.1
  have m361 := (hw 361 _ rfl).2.1
  have m362 := (hw 362 _ rfl).2.1
  generalize hbS : (shF p 0 && !(en && ouF p 0)) = bS
  generalize hbL : (shF p 1 && !(en && ouF p 1)) = bL
  obtain ⟨ln1, ln2⟩ := ln_ok (bL := bL) hv hus hv.2
  have hsS : bS = true → I 328 29 = mE.s e := by
    intro c
    rw [c, Bool.and_eq_true] at hbS
    exact hL.2.2.2.1 (sh_own hbS.1)
  have hsL : bL = true → I 328 30 = mE.l e := by
    intro c
    rw [c, Bool.and_eq_true] at hbL
    exact hL.2.2.2.2 (sh_own hbL.1)
  have hR : comR p en (I 328 35) (I 328 31) e = rowG (I 328 35) (I 328 31) bS (mE.s e) bL e (mE.l e) := by unfold comR; rw [hbS, hbL]
  rw [hR] at hfin
  have hsh : ∀ (J : aI) (l : Nat) (x : Int32), (∀ i k, ¬ cc1 w i k → J i k = I i k) → x = nI l → l < 4 → Mx mX9_isShared 2 0 0 [vS 328, vI x] g J L (qV (some (vI (bI (shF p l)))) g J L) := by
    intro J l x hJ hx hl
    have : J 336 = p := by rw [← hp]; funext k; exact hJ _ _ (by unfold cc1; omega)
    rw [← this]
    exact r_isShared hw hx hl (by omega)
  have hou : ∀ (J : aI) (l : Nat) (x : Int32), (∀ i k, ¬ cc1 w i k → J i k = I i k) → x = nI l → l < 4 → Mx mX9_isOutside 1 0 0 [vS 328, vI x] g J L (qV (some (vI (bI (ouF p l)))) g J L) := by
    intro J l x hJ hx hl
    have : J 336 = p := by rw [← hp]; funext k; exact hJ _ _ (by unfold cc1; omega)
    rw [← this]
    exact r_isOutside hw hx hl (by omega)
  -- the log's entries
  have h453 : ∀ (J : aI), (∀ i k, ¬ cc1 w i k → J i k = I i k) → J 361 (6 * w) = (if I 328 33 = 0 then (if I 328 34 = 0 then nI n else -2) else -3) → KtC J w (rowG (I 328 35) (I 328 31) bS (mE.s e) bL e (mE.l e)) → ∀ w3 w4 w5 w6, Ex mX9_keep d 0 0 Q 453 [some (vS 328), some (vI (nI w)), some (vI (nI n)), w3, w4, w5, w6] [] g J L := by
    intro J a b c w3 w4 w5 w6
    exact Ex_return rfl (dc_ok oX9_keep (by decide +kernel)) (hfin J a b c)
  have h432 : ∀ (J : aI), (∀ i k, ¬ cc1 w i k → J i k = I i k) → J 361 (6 * w) = (if I 328 33 = 0 then (if I 328 34 = 0 then nI n else -2) else -3) → (J 361 (6 * w + 1) = I 328 35 ∧ J 361 (6 * w + 2) = I 328 31 ∧ J 361 (6 * w + 3) = bI bS ∧ J 361 (6 * w + 4) = (if bS = true then mE.s e else 0) ∧ J 361 (6 * w + 5) = (if bL = true then nI (lnF bL e (mE.l e)) else -1)) →
      Ex mX9_keep d 0 0 Q 432 [some (vS 328), some (vI (nI w)), some (vI (nI n)), some (vI (bI bS)), some (vI (bI bL)), some (vI (nI (6 * w))), v6] [] g J L := by
    rintro J a b ⟨c1, c2, c3, c4, c5⟩
    have hrow : ∀ (K : aI), (∀ k, K 361 k = J 361 k) → ∀ i, i < 5 → K 361 (6 * w + (1 + i)) = (rowG (I 328 35) (I 328 31) bS (mE.s e) bL e (mE.l e)).2 i := by
      intro K hK i hi
      rw [hK]
      match i, hi with
      | 0, _ => exact c1
      | 1, _ => exact c2
      | 2, _ => exact c3
      | 3, _ => exact c4
      | 4, _ => exact c5
    refine Ex_wx [453, 437] 9 oX9_keep hw ?_
    refine And.intro (fun c => ?_) (fun c => ?_)
    · refine h453 J a b ⟨hrow J (fun _ => rfl), fun i hi => ?_⟩ _ _ _ _
      have hb0 := bI_eq c
      rw [hb0] at hi
      exact absurd hi (Nat.not_lt_zero _)
    · have hb1 := bI_ne c
      refine Ex_wx [] 9 oX9_keep hw ?_
      have e30 : J 328 30 = mE.l e := by rw [a _ _ (by unfold cc1; omega)]; exact hsL hb1
      have e60 : (60 : Int32) * nI w = nI (60 * w) := nI_mul 60 w
      have hX : Mx mX9_writeLog 0 0 0 [vS 328, vI (J 328 30), vS 362, vI (60 * nI w)] g J L (rQ g L (LwP J 362 (60 * w) (lnF bL e (mE.l e)) e (mE.l e))) := by
        rw [e30, e60]
        exact r_writeLog (F := flF p) (N := 120) hw (hL.eq (fun i k hc => a i k (by unfold cc1; omega))) hv hus hv.2 (ln2 hb1) m362 (by omega) (by omega) (by omega)
      refine Ex_r (As := [vI (J 328 30), vS 362, vI (60 * nI w)]) (st := []) vX9_274 rfl rfl hX h0 (by omega) rfl (dc_ok oX9_keep (by decide +kernel)) ?_
      rintro I2 ⟨hP, hPf⟩
      refine h453 I2 (fun i k hc => ?_) ?_ ⟨hrow I2 (fun k => hPf _ _ (by omega)), fun i hi => ?_⟩ _ _ _ _
      · rw [hPf i k (by unfold cc1 at hc; omega)]; exact a i k hc
      · rw [hPf _ _ (by omega)]; exact b
      · rw [hP i hi, Nat.add_comm 5 i]; rfl
  have h431 : ∀ (J : aI) (x : Int32), (∀ i k, ¬ cc1 w i k → J i k = I i k) → J 361 (6 * w) = (if I 328 33 = 0 then (if I 328 34 = 0 then nI n else -2) else -3) → (J 361 (6 * w + 1) = I 328 35 ∧ J 361 (6 * w + 2) = I 328 31 ∧ J 361 (6 * w + 3) = bI bS ∧ J 361 (6 * w + 4) = (if bS = true then mE.s e else 0)) → x = (if bL = true then nI (lnF bL e (mE.l e)) else -1) →
      Ex mX9_keep d 0 0 Q 431 [some (vS 328), some (vI (nI w)), some (vI (nI n)), some (vI (bI bS)), some (vI (bI bL)), some (vI (nI (6 * w))), v6] [vI x, vI (nI (6 * w) + nI 5), vS 361] g J L := by
    rintro J x a b ⟨c1, c2, c3, c4⟩ rfl
    refine Ex_bn 1 oX9_keep hw ?_
    refine And.intro (idxV (by omega) (by omega)) ?_
    rw [idxN (by omega)]
    refine h432 _ (fun i k hc => ?_) ?_ ⟨?_, ?_, ?_, ?_, up2_s⟩
    · rw [up2_n (by unfold cc1 at hc; omega)]; exact a i k hc
    · rw [up2_k (by omega)]; exact b
    · rw [up2_k (by omega)]; exact c1
    · rw [up2_k (by omega)]; exact c2
    · rw [up2_k (by omega)]; exact c3
    · rw [up2_k (by omega)]; exact c4
  have h404 : ∀ (J : aI) (x : Int32), (∀ i k, ¬ cc1 w i k → J i k = I i k) → J 361 (6 * w) = (if I 328 33 = 0 then (if I 328 34 = 0 then nI n else -2) else -3) → (J 361 (6 * w + 1) = I 328 35 ∧ J 361 (6 * w + 2) = I 328 31 ∧ J 361 (6 * w + 3) = bI bS) → x = (if bS = true then mE.s e else 0) →
      Ex mX9_keep d 0 0 Q 404 [some (vS 328), some (vI (nI w)), some (vI (nI n)), some (vI (bI bS)), some (vI (bI bL)), some (vI (nI (6 * w))), v6] [vI x, vI (nI (6 * w) + nI 4), vS 361] g J L := by
    rintro J x a b ⟨c1, c2, c3⟩ rfl
    refine Ex_bn 1 oX9_keep hw ?_
    refine And.intro (idxV (by omega) (by omega)) ?_
    rw [idxN (by omega)]
    have hk : ∀ K : aI, (∀ i k, ¬ cc1 w i k → K i k = I i k) → K 361 (6 * w) = (if I 328 33 = 0 then (if I 328 34 = 0 then nI n else -2) else -3) → (K 361 (6 * w + 1) = I 328 35 ∧ K 361 (6 * w + 2) = I 328 31 ∧ K 361 (6 * w + 3) = bI bS ∧ K 361 (6 * w + 4) = (if bS = true then mE.s e else 0)) →
        Ex mX9_keep d 0 0 Q 405 [some (vS 328), some (vI (nI w)), some (vI (nI n)), some (vI (bI bS)), some (vI (bI bL)), some (vI (nI (6 * w))), v6] [] g K L := by
      intro K a b c
      refine Ex_wx [430, 418] 9 oX9_keep hw ?_
      refine And.intro (fun z => ?_) (fun z => ?_)
      · refine Ex_bn 1 oX9_keep hw ?_
        exact h431 K (-1) a b c (by rw [bI_eq z]; rfl)
      · have hb1 := bI_ne z
        have e30 : K 328 30 = mE.l e := by rw [a _ _ (by unfold cc1; omega)]; exact hsL hb1
        obtain ⟨j, hj, ej⟩ := hv.2
        refine Ex_wx [431] 9 oX9_keep hw ?_
        refine And.intro (by rw [e30, ej]; exact inN (by omega) (by omega)) ?_
        refine h431 K _ a b c ?_
        rw [e30, if_pos hb1, ← ln2 hb1, ej, clN (by omega), a _ _ (by unfold cc1; omega)]
        exact Sr.len (l := 0) hL hus hj
    refine hk _ (fun i k hc => ?_) ?_ ⟨?_, ?_, ?_, up2_s⟩
    · rw [up2_n (by unfold cc1 at hc; omega)]; exact a i k hc
    · rw [up2_k (by omega)]; exact b
    · rw [up2_k (by omega)]; exact c1
    · rw [up2_k (by omega)]; exact c2
    · rw [up2_k (by omega)]; exact c3
  have h383 : ∀ (J : aI) (x : Int32), (∀ i k, ¬ cc1 w i k → J i k = I i k) → J 361 (6 * w) = (if I 328 33 = 0 then (if I 328 34 = 0 then nI n else -2) else -3) → (J 361 (6 * w + 1) = I 328 35 ∧ J 361 (6 * w + 2) = I 328 31) → x = bI bS →
      Ex mX9_keep d 0 0 Q 383 [some (vS 328), some (vI (nI w)), some (vI (nI n)), some (vI (bI bS)), some (vI (bI bL)), some (vI (nI (6 * w))), v6] [vI x, vI (nI (6 * w) + nI 3), vS 361] g J L := by
    rintro J x a b ⟨c1, c2⟩ rfl
    refine Ex_bn 1 oX9_keep hw ?_
    refine And.intro (idxV (by omega) (by omega)) ?_
    rw [idxN (by omega)]
    have hk : ∀ K : aI, (∀ i k, ¬ cc1 w i k → K i k = I i k) → K 361 (6 * w) = (if I 328 33 = 0 then (if I 328 34 = 0 then nI n else -2) else -3) → (K 361 (6 * w + 1) = I 328 35 ∧ K 361 (6 * w + 2) = I 328 31 ∧ K 361 (6 * w + 3) = bI bS) →
        Ex mX9_keep d 0 0 Q 384 [some (vS 328), some (vI (nI w)), some (vI (nI n)), some (vI (bI bS)), some (vI (bI bL)), some (vI (nI (6 * w))), v6] [] g K L := by
      intro K a b c
      refine Ex_wx [403, 396] 9 oX9_keep hw ?_
      refine And.intro (fun z => ?_) (fun z => ?_)
      · refine Ex_bn 1 oX9_keep hw ?_
        exact h404 K 0 a b c (by rw [bI_eq z]; rfl)
      · have hb1 := bI_ne z
        refine Ex_wx [404] 9 oX9_keep hw ?_
        refine h404 K _ a b c ?_
        rw [if_pos hb1, a _ _ (by unfold cc1; omega)]
        exact hsS hb1
    refine hk _ (fun i k hc => ?_) ?_ ⟨?_, ?_, up2_s⟩
    · rw [up2_n (by unfold cc1 at hc; omega)]; exact a i k hc
    · rw [up2_k (by omega)]; exact b
    · rw [up2_k (by omega)]; exact c1
    · rw [up2_k (by omega)]; exact c2
  have h339 : ∀ (x : Int32), x = (if I 328 33 = 0 then (if I 328 34 = 0 then nI n else -2) else -3) →
      Ex mX9_keep d 0 0 Q 339 [some (vS 328), some (vI (nI w)), some (vI (nI n)), some (vI (bI bS)), some (vI (bI bL)), some (vI (nI (6 * w))), v6] [vI x, vI (nI (6 * w)), vS 361] g I L := by
    rintro x rfl
    refine Ex_bn 1 oX9_keep hw ?_
    refine And.intro (inN (by omega) (by omega)) ?_
    rw [clN (by omega)]
    have hk : ∀ K : aI, (∀ i k, ¬ cc1 w i k → K i k = I i k) → K 361 (6 * w) = (if I 328 33 = 0 then (if I 328 34 = 0 then nI n else -2) else -3) →
        Ex mX9_keep d 0 0 Q 340 [some (vS 328), some (vI (nI w)), some (vI (nI n)), some (vI (bI bS)), some (vI (bI bL)), some (vI (nI (6 * w))), v6] [] g K L := by
      intro K a b
      refine Ex_bn 16 oX9_keep hw ?_
      refine And.intro (idxV (b := 1) (by omega) (by omega)) ?_
      refine And.intro (idxV (b := 2) (by omega) (by omega)) ?_
      have hk2 : ∀ K : aI, (∀ i k, ¬ cc1 w i k → K i k = I i k) → K 361 (6 * w) = (if I 328 33 = 0 then (if I 328 34 = 0 then nI n else -2) else -3) → (K 361 (6 * w + 1) = I 328 35 ∧ K 361 (6 * w + 2) = I 328 31) →
          Ex mX9_keep d 0 0 Q 366 [some (vS 328), some (vI (nI w)), some (vI (nI n)), some (vI (bI bS)), some (vI (bI bL)), some (vI (nI (6 * w))), v6] [] g K L := by
        intro K a b c
        refine Ex_wx [382, 383] 9 oX9_keep hw ?_
        refine And.intro (fun z => ?_) (fun z => ?_)
        · refine Ex_bn 1 oX9_keep hw ?_
          exact h383 K 0 a b c (by rw [bI_eq z]; rfl)
        · exact h383 K 1 a b c (by rw [bI_ne z]; rfl)
      have i1 : (nI (6 * w) + 1).toNatClampNeg = 6 * w + 1 := idxN (b := 1) (by omega)
      have i2 : (nI (6 * w) + 2).toNatClampNeg = 6 * w + 2 := idxN (b := 2) (by omega)
      refine hk2 _ (fun i k hc => ?_) ?_ ⟨?_, ?_⟩
      · rw [i1, i2, up2_n (by unfold cc1 at hc; omega), up2_n (by unfold cc1 at hc; omega)]; exact a i k hc
      · rw [i1, i2, up2_k (by omega), up2_k (by omega)]; exact b
      · rw [i1, i2, up2_k (by omega), up2_s]; exact a _ _ (by unfold cc1; omega)
      · rw [i1, i2, up2_s, up2_i (by omega)]; exact a _ _ (by unfold cc1; omega)
    exact hk _ (fun i k hc => up2_n (by unfold cc1 at hc; omega)) up2_s
  have h300 : ∀ (y : Int32) (u4 u5 : Option aV), y = bI bL → Ex mX9_keep d 0 0 Q 300 [some (vS 328), some (vI (nI w)), some (vI (nI n)), some (vI (bI bS)), u4, u5, v6] [vI y] g I L := by
    rintro y u4 u5 rfl
    refine Ex_bn 5 oX9_keep hw ?_
    show Ex mX9_keep d 0 0 Q 308 [some (vS 328), some (vI (nI w)), some (vI (nI n)), some (vI (bI bS)), some (vI (bI bL)), some (vI (6 * nI w)), v6] [] g I L
    rw [show (6 : Int32) * nI w = nI (6 * w) from nI_mul 6 w]
    refine Ex_wx [326, 339] 9 oX9_keep hw ?_
    refine And.intro (fun z => ?_) (fun z => ?_)
    · refine Ex_wx [338, 339] 9 oX9_keep hw ?_
      refine And.intro (fun z2 => ?_) (fun z2 => ?_)
      · refine Ex_bn 1 oX9_keep hw ?_
        exact h339 _ (by rw [if_pos z, if_pos z2])
      · exact h339 _ (by rw [if_pos z, if_neg z2])
    · exact h339 _ (by rw [if_neg z])
  have hpi : ∀ i k, ¬ cc1 w i k → I i k = I i k := fun _ _ _ => rfl
  have h271 : ∀ (x : Int32) (u3 : Option aV), x = bI bS → Ex mX9_keep d 0 0 Q 271 [some (vS 328), some (vI (nI w)), some (vI (nI n)), u3, v4, v5, v6] [vI x] g I L := by
    rintro x u3 rfl
    refine Ex_wx [] 9 oX9_keep hw ?_
    refine Ex_v (As := [vI 1]) (st := []) (d' := 2) vX9_221 rfl rfl (hsh I 1 1 hpi rfl (by omega)) h0 (by omega) rfl (dc_ok oX9_keep rfl) ?_
    refine Ex_wx [299, 280] 9 oX9_keep hw ?_
    refine And.intro (fun z => ?_) (fun z => ?_)
    · have c1 := bI_eq z
      refine Ex_bn 1 oX9_keep hw ?_
      exact h300 0 _ _ (by rw [← hbL, c1]; rfl)
    have c1 := bI_ne z
    refine Ex_wx [295, 287] 9 oX9_keep hw ?_
    refine And.intro (fun z => ?_) (fun z => ?_)
    · have c2 : en = false := by rw [hen]; exact decide_eq_false (fun q => q z)
      refine Ex_wx [300] 9 oX9_keep hw ?_
      exact h300 1 _ _ (by rw [← hbL, c1, c2]; rfl)
    have c2 : en = true := by rw [hen]; exact decide_eq_true z
    refine Ex_wx [] 9 oX9_keep hw ?_
    refine Ex_v (As := [vI 1]) (st := []) (d' := 1) vX9_234 rfl rfl (hou I 1 1 hpi rfl (by omega)) h0 (by omega) rfl (dc_ok oX9_keep rfl) ?_
    refine Ex_wx [299, 295] 9 oX9_keep hw ?_
    refine And.intro (fun z => ?_) (fun z => ?_)
    · have c3 := bI_eq z
      refine Ex_wx [300] 9 oX9_keep hw ?_
      exact h300 1 _ _ (by rw [← hbL, c1, c2, c3]; rfl)
    · have c3 := bI_ne z
      refine Ex_bn 1 oX9_keep hw ?_
      exact h300 0 _ _ (by rw [← hbL, c1, c2, c3]; rfl)
  refine Ex_wx [] 9 oX9_keep hw ?_
  refine Ex_v (As := [vI 0]) (st := []) (d' := 2) vX9_221 rfl rfl (hsh I 0 0 hpi rfl (by omega)) h0 (by omega) rfl (dc_ok oX9_keep rfl) ?_
  refine Ex_wx [270, 251] 9 oX9_keep hw ?_
  refine And.intro (fun z => ?_) (fun z => ?_)
  · have c1 := bI_eq z
    refine Ex_bn 1 oX9_keep hw ?_
    exact h271 0 _ (by rw [← hbS, c1]; rfl)
  have c1 := bI_ne z
  refine Ex_wx [266, 258] 9 oX9_keep hw ?_
  refine And.intro (fun z => ?_) (fun z => ?_)
  · have c2 : en = false := by rw [hen]; exact decide_eq_false (fun q => q z)
    refine Ex_wx [271] 9 oX9_keep hw ?_
    exact h271 1 _ (by rw [← hbS, c1, c2]; rfl)
  have c2 : en = true := by rw [hen]; exact decide_eq_true z
  refine Ex_wx [] 9 oX9_keep hw ?_
  refine Ex_v (As := [vI 0]) (st := []) (d' := 1) vX9_234 rfl rfl (hou I 0 0 hpi rfl (by omega)) h0 (by omega) rfl (dc_ok oX9_keep rfl) ?_
  refine Ex_wx [270, 266] 9 oX9_keep hw ?_
  refine And.intro (fun z => ?_) (fun z => ?_)
  · have c3 := bI_eq z
    refine Ex_wx [271] 9 oX9_keep hw ?_
    exact h271 1 _ (by rw [← hbS, c1, c2, c3]; rfl)
  · have c3 := bI_ne z
    refine Ex_bn 1 oX9_keep hw ?_
    exact h271 0 _ (by rw [← hbS, c1, c2, c3]; rfl)
end KeepC
