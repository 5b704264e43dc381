/-! the class: a Layering, and order -/
def t0 : aT := (fun _ => none, fun _ _ => none)
theorem w0 {g : aG} : Wf t0 g := fun i c h => by cases h
def plI (l a b c e : Int32) : Int32 := if a = l then 0 else if b = l then 1 else if c = l then 2 else if e = l then 3 else 4
def btI (l x : Int32) : Int32 := if x = 4 then 0 else 1 <<< (l &&& 31)
section Lay1
variable {g : aG} {I : aI} {L : aL} {d r : Nat} {l x a b c e : Int32}
theorem e1_placeOf : Mx mX1_placeOf d 0 0 [vI l, vI a, vI b, vI c, vI e] g I L (qV (some (vI (plI l a b c e))) g I L) := by
  refine Mx_in (by decide +kernel) rfl rfl (Ex_wx [9] 9 oX1_placeOf w0 ?_)
  refine And.intro (fun q => ⟨?_, rfl, rfl, rfl⟩) (fun q1 => ?_)
  · unfold plI; rw [if_pos q]
  refine Ex_wx [18] 9 oX1_placeOf w0 ?_
  refine And.intro (fun q => ⟨?_, rfl, rfl, rfl⟩) (fun q2 => ?_)
  · unfold plI; rw [if_neg q1, if_pos q]
  refine Ex_wx [27] 9 oX1_placeOf w0 ?_
  refine And.intro (fun q => ⟨?_, rfl, rfl, rfl⟩) (fun q3 => ?_)
  · unfold plI; rw [if_neg q1, if_neg q2, if_pos q]
  refine Ex_wx [] 9 oX1_placeOf w0 ?_
  refine And.intro (fun q => ⟨?_, rfl, rfl, rfl⟩) (fun q4 => ⟨?_, rfl, rfl, rfl⟩)
  · unfold plI; rw [if_neg q1, if_neg q2, if_neg q3, if_pos q]
  · unfold plI; rw [if_neg q1, if_neg q2, if_neg q3, if_neg q4]
theorem e1_bitAt : Mx mX1_bitAt d 0 0 [vI l, vI x] g I L (qV (some (vI (btI l x))) g I L) := by
  refine Mx_in (by decide +kernel) rfl rfl (Ex_wx [] 9 oX1_bitAt w0 ?_)
  refine And.intro (fun q => ⟨?_, rfl, rfl, rfl⟩) (fun q => ⟨?_, rfl, rfl, rfl⟩)
  · unfold btI; rw [if_pos q]
  · unfold btI; rw [if_neg q]
/-- what a Layering holds -/
def LyV (I : aI) (r : Nat) (s l e c : Int32) : Prop := I r 0 = (btI 0 s ||| btI 1 l ||| btI 2 e ||| btI 3 c) ∧ I r 1 = bI (decide (s < c)) ∧ I r 2 = bI (decide (l < c)) ∧ I r 3 = bI (decide (e < c)) ∧ I r 4 = bI (decide (c < s) && !decide (s = 4)) ∧ I r 5 = bI (decide (c < l) && !decide (l = 4)) ∧ I r 6 = bI (decide (s < e) && !decide (e = 4)) ∧ I r 7 = bI (decide (l < e) && !decide (e = 4))
theorem b_0 {b : Bool} (h : b = false) : (0 : Int32) = bI b := by rw [h]; rfl
theorem b_1 {b : Bool} (h : b = true) : (1 : Int32) = bI b := by rw [h]; rfl
theorem e1_init {a b c e' : Int32} (h1 : g.2.1 r = some (.inl 1)) (h0 : r ≠ 0) (hd : 1 ≤ d) : Mx mX1_init d 0 0 [vD (some r), vI a, vI b, vI c, vI e'] g I L (rQ g L (fun I' => LyV I' r (plI 0 a b c e') (plI 1 a b c e') (plI 2 a b c e') (plI 3 a b c e') ∧ ∀ i k, i ≠ r → I' i k = I i k)) := by
  generalize hs : plI 0 a b c e' = s
  generalize hl : plI 1 a b c e' = l
  generalize he : plI 2 a b c e' = e
  generalize hc : plI 3 a b c e' = ch
  generalize hQ : rQ g L (fun I' => LyV I' r s l e ch ∧ ∀ i k, i ≠ r → I' i k = I i k) = Q
  have h215 : ∀ J : aI, (∀ i k, i ≠ r → J i k = I i k) → (J r 0 = (btI 0 s ||| btI 1 l ||| btI 2 e ||| btI 3 ch) ∧ J r 1 = bI (decide (s < ch)) ∧ J r 2 = bI (decide (l < ch)) ∧ J r 3 = bI (decide (e < ch)) ∧ J r 4 = bI (decide (ch < s) && !decide (s = 4)) ∧ J r 5 = bI (decide (ch < l) && !decide (l = 4)) ∧ J r 6 = bI (decide (s < e) && !decide (e = 4)) ∧ J r 7 = bI (decide (l < e) && !decide (e = 4))) → Ex mX1_init d 0 0 Q 215 [some (vD (some r)), some (vI a), some (vI b), some (vI c), some (vI e'), some (vI s), some (vI l), some (vI e), some (vI ch)] [] g J L := by
    intro J hJ hf
    refine Ex_wx [] 9 oX1_init w0 ?_
    rw [← hQ]
    exact ⟨rfl, rfl, rfl, hf, hJ⟩
  have h212 : ∀ (J : aI) (v : Int32), (∀ i k, i ≠ r → J i k = I i k) → (J r 0 = (btI 0 s ||| btI 1 l ||| btI 2 e ||| btI 3 ch) ∧ J r 1 = bI (decide (s < ch)) ∧ J r 2 = bI (decide (l < ch)) ∧ J r 3 = bI (decide (e < ch)) ∧ J r 4 = bI (decide (ch < s) && !decide (s = 4)) ∧ J r 5 = bI (decide (ch < l) && !decide (l = 4)) ∧ J r 6 = bI (decide (s < e) && !decide (e = 4))) → v = bI (decide (l < e) && !decide (e = 4)) → Ex mX1_init d 0 0 Q 212 [some (vD (some r)), some (vI a), some (vI b), some (vI c), some (vI e'), some (vI s), some (vI l), some (vI e), some (vI ch)] [vI v, vD (some r)] g J L := by
    rintro J v hJ ⟨f0, f1, f2, f3, f4, f5, f6⟩ rfl
    refine Ex_putID (ci := 1) (k := 7) (fB_ok (by decide +kernel)) (Or.inr ⟨rfl, _, rfl, rfl⟩) rfl (bI_or _) h1 h0 (dc_ok oX1_init rfl) ?_
    refine h215 _ (fun i k c => by rw [up2_i c]; exact hJ i k c) ⟨by rw [up2_k (by omega)]; exact f0, by rw [up2_k (by omega)]; exact f1, by rw [up2_k (by omega)]; exact f2, by rw [up2_k (by omega)]; exact f3, by rw [up2_k (by omega)]; exact f4, by rw [up2_k (by omega)]; exact f5, by rw [up2_k (by omega)]; exact f6, up2_s⟩
  have h193 : ∀ (J : aI), (∀ i k, i ≠ r → J i k = I i k) → (J r 0 = (btI 0 s ||| btI 1 l ||| btI 2 e ||| btI 3 ch) ∧ J r 1 = bI (decide (s < ch)) ∧ J r 2 = bI (decide (l < ch)) ∧ J r 3 = bI (decide (e < ch)) ∧ J r 4 = bI (decide (ch < s) && !decide (s = 4)) ∧ J r 5 = bI (decide (ch < l) && !decide (l = 4)) ∧ J r 6 = bI (decide (s < e) && !decide (e = 4))) → Ex mX1_init d 0 0 Q 193 [some (vD (some r)), some (vI a), some (vI b), some (vI c), some (vI e'), some (vI s), some (vI l), some (vI e), some (vI ch)] [] g J L := by
    intro J hJ hf
    refine Ex_wx [211, 201] 9 oX1_init w0 ?_
    refine And.intro (fun q => ?_) (fun q => ?_)
    · refine Ex_bn 1 oX1_init w0 ?_
      exact h212 J 0 hJ hf (b_0 (by rw [decide_eq_false (Int32.not_lt.mpr q), Bool.false_and]))
    · refine Ex_wx [211, 212] 9 oX1_init w0 ?_
      refine And.intro (fun q2 => ?_) (fun q2 => ?_)
      · refine Ex_bn 1 oX1_init w0 ?_
        exact h212 J 0 hJ hf (b_0 (by rw [decide_eq_true q2, Bool.not_true, Bool.and_false]))
      · exact h212 J 1 hJ hf (b_1 (by rw [decide_eq_true (Int32.not_le.mp q), decide_eq_false q2]; rfl))
  have h190 : ∀ (J : aI) (v : Int32), (∀ i k, i ≠ r → J i k = I i k) → (J r 0 = (btI 0 s ||| btI 1 l ||| btI 2 e ||| btI 3 ch) ∧ J r 1 = bI (decide (s < ch)) ∧ J r 2 = bI (decide (l < ch)) ∧ J r 3 = bI (decide (e < ch)) ∧ J r 4 = bI (decide (ch < s) && !decide (s = 4)) ∧ J r 5 = bI (decide (ch < l) && !decide (l = 4))) → v = bI (decide (s < e) && !decide (e = 4)) → Ex mX1_init d 0 0 Q 190 [some (vD (some r)), some (vI a), some (vI b), some (vI c), some (vI e'), some (vI s), some (vI l), some (vI e), some (vI ch)] [vI v, vD (some r)] g J L := by
    rintro J v hJ ⟨f0, f1, f2, f3, f4, f5⟩ rfl
    refine Ex_putID (ci := 1) (k := 6) (fB_ok (by decide +kernel)) (Or.inr ⟨rfl, _, rfl, rfl⟩) rfl (bI_or _) h1 h0 (dc_ok oX1_init rfl) ?_
    refine h193 _ (fun i k c => by rw [up2_i c]; exact hJ i k c) ⟨by rw [up2_k (by omega)]; exact f0, by rw [up2_k (by omega)]; exact f1, by rw [up2_k (by omega)]; exact f2, by rw [up2_k (by omega)]; exact f3, by rw [up2_k (by omega)]; exact f4, by rw [up2_k (by omega)]; exact f5, up2_s⟩
  have h171 : ∀ (J : aI), (∀ i k, i ≠ r → J i k = I i k) → (J r 0 = (btI 0 s ||| btI 1 l ||| btI 2 e ||| btI 3 ch) ∧ J r 1 = bI (decide (s < ch)) ∧ J r 2 = bI (decide (l < ch)) ∧ J r 3 = bI (decide (e < ch)) ∧ J r 4 = bI (decide (ch < s) && !decide (s = 4)) ∧ J r 5 = bI (decide (ch < l) && !decide (l = 4))) → Ex mX1_init d 0 0 Q 171 [some (vD (some r)), some (vI a), some (vI b), some (vI c), some (vI e'), some (vI s), some (vI l), some (vI e), some (vI ch)] [] g J L := by
    intro J hJ hf
    refine Ex_wx [189, 179] 9 oX1_init w0 ?_
    refine And.intro (fun q => ?_) (fun q => ?_)
    · refine Ex_bn 1 oX1_init w0 ?_
      exact h190 J 0 hJ hf (b_0 (by rw [decide_eq_false (Int32.not_lt.mpr q), Bool.false_and]))
    · refine Ex_wx [189, 190] 9 oX1_init w0 ?_
      refine And.intro (fun q2 => ?_) (fun q2 => ?_)
      · refine Ex_bn 1 oX1_init w0 ?_
        exact h190 J 0 hJ hf (b_0 (by rw [decide_eq_true q2, Bool.not_true, Bool.and_false]))
      · exact h190 J 1 hJ hf (b_1 (by rw [decide_eq_true (Int32.not_le.mp q), decide_eq_false q2]; rfl))
  have h168 : ∀ (J : aI) (v : Int32), (∀ i k, i ≠ r → J i k = I i k) → (J r 0 = (btI 0 s ||| btI 1 l ||| btI 2 e ||| btI 3 ch) ∧ J r 1 = bI (decide (s < ch)) ∧ J r 2 = bI (decide (l < ch)) ∧ J r 3 = bI (decide (e < ch)) ∧ J r 4 = bI (decide (ch < s) && !decide (s = 4))) → v = bI (decide (ch < l) && !decide (l = 4)) → Ex mX1_init d 0 0 Q 168 [some (vD (some r)), some (vI a), some (vI b), some (vI c), some (vI e'), some (vI s), some (vI l), some (vI e), some (vI ch)] [vI v, vD (some r)] g J L := by
    rintro J v hJ ⟨f0, f1, f2, f3, f4⟩ rfl
    refine Ex_putID (ci := 1) (k := 5) (fB_ok (by decide +kernel)) (Or.inr ⟨rfl, _, rfl, rfl⟩) rfl (bI_or _) h1 h0 (dc_ok oX1_init rfl) ?_
    refine h171 _ (fun i k c => by rw [up2_i c]; exact hJ i k c) ⟨by rw [up2_k (by omega)]; exact f0, by rw [up2_k (by omega)]; exact f1, by rw [up2_k (by omega)]; exact f2, by rw [up2_k (by omega)]; exact f3, by rw [up2_k (by omega)]; exact f4, up2_s⟩
  have h149 : ∀ (J : aI), (∀ i k, i ≠ r → J i k = I i k) → (J r 0 = (btI 0 s ||| btI 1 l ||| btI 2 e ||| btI 3 ch) ∧ J r 1 = bI (decide (s < ch)) ∧ J r 2 = bI (decide (l < ch)) ∧ J r 3 = bI (decide (e < ch)) ∧ J r 4 = bI (decide (ch < s) && !decide (s = 4))) → Ex mX1_init d 0 0 Q 149 [some (vD (some r)), some (vI a), some (vI b), some (vI c), some (vI e'), some (vI s), some (vI l), some (vI e), some (vI ch)] [] g J L := by
    intro J hJ hf
    refine Ex_wx [167, 157] 9 oX1_init w0 ?_
    refine And.intro (fun q => ?_) (fun q => ?_)
    · refine Ex_bn 1 oX1_init w0 ?_
      exact h168 J 0 hJ hf (b_0 (by rw [decide_eq_false (Int32.not_lt.mpr q), Bool.false_and]))
    · refine Ex_wx [167, 168] 9 oX1_init w0 ?_
      refine And.intro (fun q2 => ?_) (fun q2 => ?_)
      · refine Ex_bn 1 oX1_init w0 ?_
        exact h168 J 0 hJ hf (b_0 (by rw [decide_eq_true q2, Bool.not_true, Bool.and_false]))
      · exact h168 J 1 hJ hf (b_1 (by rw [decide_eq_true (Int32.not_le.mp q), decide_eq_false q2]; rfl))
  have h146 : ∀ (J : aI) (v : Int32), (∀ i k, i ≠ r → J i k = I i k) → (J r 0 = (btI 0 s ||| btI 1 l ||| btI 2 e ||| btI 3 ch) ∧ J r 1 = bI (decide (s < ch)) ∧ J r 2 = bI (decide (l < ch)) ∧ J r 3 = bI (decide (e < ch))) → v = bI (decide (ch < s) && !decide (s = 4)) → Ex mX1_init d 0 0 Q 146 [some (vD (some r)), some (vI a), some (vI b), some (vI c), some (vI e'), some (vI s), some (vI l), some (vI e), some (vI ch)] [vI v, vD (some r)] g J L := by
    rintro J v hJ ⟨f0, f1, f2, f3⟩ rfl
    refine Ex_putID (ci := 1) (k := 4) (fB_ok (by decide +kernel)) (Or.inr ⟨rfl, _, rfl, rfl⟩) rfl (bI_or _) h1 h0 (dc_ok oX1_init rfl) ?_
    refine h149 _ (fun i k c => by rw [up2_i c]; exact hJ i k c) ⟨by rw [up2_k (by omega)]; exact f0, by rw [up2_k (by omega)]; exact f1, by rw [up2_k (by omega)]; exact f2, by rw [up2_k (by omega)]; exact f3, up2_s⟩
  have h127 : ∀ (J : aI), (∀ i k, i ≠ r → J i k = I i k) → (J r 0 = (btI 0 s ||| btI 1 l ||| btI 2 e ||| btI 3 ch) ∧ J r 1 = bI (decide (s < ch)) ∧ J r 2 = bI (decide (l < ch)) ∧ J r 3 = bI (decide (e < ch))) → Ex mX1_init d 0 0 Q 127 [some (vD (some r)), some (vI a), some (vI b), some (vI c), some (vI e'), some (vI s), some (vI l), some (vI e), some (vI ch)] [] g J L := by
    intro J hJ hf
    refine Ex_wx [145, 135] 9 oX1_init w0 ?_
    refine And.intro (fun q => ?_) (fun q => ?_)
    · refine Ex_bn 1 oX1_init w0 ?_
      exact h146 J 0 hJ hf (b_0 (by rw [decide_eq_false (Int32.not_lt.mpr q), Bool.false_and]))
    · refine Ex_wx [145, 146] 9 oX1_init w0 ?_
      refine And.intro (fun q2 => ?_) (fun q2 => ?_)
      · refine Ex_bn 1 oX1_init w0 ?_
        exact h146 J 0 hJ hf (b_0 (by rw [decide_eq_true q2, Bool.not_true, Bool.and_false]))
      · exact h146 J 1 hJ hf (b_1 (by rw [decide_eq_true (Int32.not_le.mp q), decide_eq_false q2]; rfl))
  have h124 : ∀ (J : aI) (v : Int32), (∀ i k, i ≠ r → J i k = I i k) → (J r 0 = (btI 0 s ||| btI 1 l ||| btI 2 e ||| btI 3 ch) ∧ J r 1 = bI (decide (s < ch)) ∧ J r 2 = bI (decide (l < ch))) → v = bI (decide (e < ch)) → Ex mX1_init d 0 0 Q 124 [some (vD (some r)), some (vI a), some (vI b), some (vI c), some (vI e'), some (vI s), some (vI l), some (vI e), some (vI ch)] [vI v, vD (some r)] g J L := by
    rintro J v hJ ⟨f0, f1, f2⟩ rfl
    refine Ex_putID (ci := 1) (k := 3) (fB_ok (by decide +kernel)) (Or.inr ⟨rfl, _, rfl, rfl⟩) rfl (bI_or _) h1 h0 (dc_ok oX1_init rfl) ?_
    refine h127 _ (fun i k c => by rw [up2_i c]; exact hJ i k c) ⟨by rw [up2_k (by omega)]; exact f0, by rw [up2_k (by omega)]; exact f1, by rw [up2_k (by omega)]; exact f2, up2_s⟩
  have h111 : ∀ (J : aI), (∀ i k, i ≠ r → J i k = I i k) → (J r 0 = (btI 0 s ||| btI 1 l ||| btI 2 e ||| btI 3 ch) ∧ J r 1 = bI (decide (s < ch)) ∧ J r 2 = bI (decide (l < ch))) → Ex mX1_init d 0 0 Q 111 [some (vD (some r)), some (vI a), some (vI b), some (vI c), some (vI e'), some (vI s), some (vI l), some (vI e), some (vI ch)] [] g J L := by
    intro J hJ hf
    refine Ex_wx [123, 124] 9 oX1_init w0 ?_
    refine And.intro (fun q => ?_) (fun q => ?_)
    · refine Ex_bn 1 oX1_init w0 ?_
      exact h124 J 0 hJ hf (b_0 (decide_eq_false (Int32.not_lt.mpr q)))
    · exact h124 J 1 hJ hf (b_1 (decide_eq_true (Int32.not_le.mp q)))
  have h108 : ∀ (J : aI) (v : Int32), (∀ i k, i ≠ r → J i k = I i k) → (J r 0 = (btI 0 s ||| btI 1 l ||| btI 2 e ||| btI 3 ch) ∧ J r 1 = bI (decide (s < ch))) → v = bI (decide (l < ch)) → Ex mX1_init d 0 0 Q 108 [some (vD (some r)), some (vI a), some (vI b), some (vI c), some (vI e'), some (vI s), some (vI l), some (vI e), some (vI ch)] [vI v, vD (some r)] g J L := by
    rintro J v hJ ⟨f0, f1⟩ rfl
    refine Ex_putID (ci := 1) (k := 2) (fB_ok (by decide +kernel)) (Or.inr ⟨rfl, _, rfl, rfl⟩) rfl (bI_or _) h1 h0 (dc_ok oX1_init rfl) ?_
    refine h111 _ (fun i k c => by rw [up2_i c]; exact hJ i k c) ⟨by rw [up2_k (by omega)]; exact f0, by rw [up2_k (by omega)]; exact f1, up2_s⟩
  have h95 : ∀ (J : aI), (∀ i k, i ≠ r → J i k = I i k) → (J r 0 = (btI 0 s ||| btI 1 l ||| btI 2 e ||| btI 3 ch) ∧ J r 1 = bI (decide (s < ch))) → Ex mX1_init d 0 0 Q 95 [some (vD (some r)), some (vI a), some (vI b), some (vI c), some (vI e'), some (vI s), some (vI l), some (vI e), some (vI ch)] [] g J L := by
    intro J hJ hf
    refine Ex_wx [107, 108] 9 oX1_init w0 ?_
    refine And.intro (fun q => ?_) (fun q => ?_)
    · refine Ex_bn 1 oX1_init w0 ?_
      exact h108 J 0 hJ hf (b_0 (decide_eq_false (Int32.not_lt.mpr q)))
    · exact h108 J 1 hJ hf (b_1 (decide_eq_true (Int32.not_le.mp q)))
  have h92 : ∀ (J : aI) (v : Int32), (∀ i k, i ≠ r → J i k = I i k) → (J r 0 = (btI 0 s ||| btI 1 l ||| btI 2 e ||| btI 3 ch)) → v = bI (decide (s < ch)) → Ex mX1_init d 0 0 Q 92 [some (vD (some r)), some (vI a), some (vI b), some (vI c), some (vI e'), some (vI s), some (vI l), some (vI e), some (vI ch)] [vI v, vD (some r)] g J L := by
    rintro J v hJ f0 rfl
    refine Ex_putID (ci := 1) (k := 1) (fB_ok (by decide +kernel)) (Or.inr ⟨rfl, _, rfl, rfl⟩) rfl (bI_or _) h1 h0 (dc_ok oX1_init rfl) ?_
    refine h95 _ (fun i k c => by rw [up2_i c]; exact hJ i k c) ⟨by rw [up2_k (by omega)]; exact f0, up2_s⟩
  have h79 : ∀ (J : aI), (∀ i k, i ≠ r → J i k = I i k) → (J r 0 = (btI 0 s ||| btI 1 l ||| btI 2 e ||| btI 3 ch)) → Ex mX1_init d 0 0 Q 79 [some (vD (some r)), some (vI a), some (vI b), some (vI c), some (vI e'), some (vI s), some (vI l), some (vI e), some (vI ch)] [] g J L := by
    intro J hJ hf
    refine Ex_wx [91, 92] 9 oX1_init w0 ?_
    refine And.intro (fun q => ?_) (fun q => ?_)
    · refine Ex_bn 1 oX1_init w0 ?_
      exact h92 J 0 hJ hf (b_0 (decide_eq_false (Int32.not_lt.mpr q)))
    · exact h92 J 1 hJ hf (b_1 (decide_eq_true (Int32.not_le.mp q)))
  have hx : ∀ (z : Int32), Mx mX1_placeOf 0 0 0 [vI z, vI a, vI b, vI c, vI e'] g I L (qV (some (vI (plI z a b c e'))) g I L) := fun z => e1_placeOf
  refine Mx_in (by decide +kernel) rfl rfl (Ex_bn 1 oX1_init w0 ?_)
  refine Ex_objInit (gOne (by decide +kernel)) (gOne (by decide +kernel)) (gOne (by decide +kernel)) hd (by decide) (dc_ok oX1_init rfl) ?_
  refine Ex_wx [] 9 oX1_init w0 ?_
  refine Ex_s (As := [vI 0, vI a, vI b, vI c, vI e']) (st := []) (d' := 0) sX1_9 rfl rfl (hx 0) hd rfl (dc_ok oX1_init rfl) ?_
  rw [hs]
  refine Ex_wx [] 9 oX1_init w0 ?_
  refine Ex_s (As := [vI 1, vI a, vI b, vI c, vI e']) (st := []) (d' := 0) sX1_9 rfl rfl (hx 1) hd rfl (dc_ok oX1_init rfl) ?_
  rw [hl]
  refine Ex_wx [] 9 oX1_init w0 ?_
  refine Ex_s (As := [vI 2, vI a, vI b, vI c, vI e']) (st := []) (d' := 0) sX1_9 rfl rfl (hx 2) hd rfl (dc_ok oX1_init rfl) ?_
  rw [he]
  refine Ex_wx [] 9 oX1_init w0 ?_
  refine Ex_s (As := [vI 3, vI a, vI b, vI c, vI e']) (st := []) (d' := 0) sX1_9 rfl rfl (hx 3) hd rfl (dc_ok oX1_init rfl) ?_
  rw [hc]
  refine Ex_wx [] 9 oX1_init w0 ?_
  refine Ex_s (As := [vI 0, vI s]) (st := [vD (some r)]) (d' := 0) sX1_15 rfl rfl e1_bitAt hd rfl (dc_ok oX1_init rfl) ?_
  refine Ex_wx [] 9 oX1_init w0 ?_
  refine Ex_s (As := [vI 1, vI l]) (st := [vI (btI 0 s), vD (some r)]) (d' := 0) sX1_15 rfl rfl e1_bitAt hd rfl (dc_ok oX1_init rfl) ?_
  refine Ex_wx [] 9 oX1_init w0 ?_
  refine Ex_s (As := [vI 2, vI e]) (st := [vI (btI 0 s ||| btI 1 l), vD (some r)]) (d' := 0) sX1_15 rfl rfl e1_bitAt hd rfl (dc_ok oX1_init rfl) ?_
  refine Ex_wx [] 9 oX1_init w0 ?_
  refine Ex_s (As := [vI 3, vI ch]) (st := [vI (btI 0 s ||| btI 1 l ||| btI 2 e), vD (some r)]) (d' := 0) sX1_15 rfl rfl e1_bitAt hd rfl (dc_ok oX1_init rfl) ?_
  refine Ex_bn 1 oX1_init w0 ?_
  refine Ex_putID (ci := 1) (k := 0) (fB_ok (by decide +kernel)) (Or.inr ⟨rfl, _, rfl, rfl⟩) rfl trivial h1 h0 (dc_ok oX1_init rfl) ?_
  exact h79 _ (fun i k c => up2_i c) up2_s
end Lay1
def pvI (x : Int32) : Int32 := if x = 4 then -1 else x
def plP (p : Nat → Int32) (a b c e : Int32) : Nat → Int32 := fun l => if l < 4 then pvI (plI (nI l) a b c e) else p l
theorem pl_5 (l a b c e : Int32) : ∃ j, j < 5 ∧ plI l a b c e = nI j := by
  unfold plI
  by_cases h1 : a = l
  · rw [if_pos h1]; exact ⟨0, by omega, rfl⟩
  rw [if_neg h1]
  by_cases h2 : b = l
  · rw [if_pos h2]; exact ⟨1, by omega, rfl⟩
  rw [if_neg h2]
  by_cases h3 : c = l
  · rw [if_pos h3]; exact ⟨2, by omega, rfl⟩
  rw [if_neg h3]
  by_cases h4 : e = l
  · rw [if_pos h4]; exact ⟨3, by omega, rfl⟩
  rw [if_neg h4]
  exact ⟨4, by omega, rfl⟩
theorem pl_ne {l l' a b c e : Int32} (hl : l ≠ l') (h : plI l a b c e = plI l' a b c e) : plI l a b c e = 4 := by
  unfold plI at h ⊢
  by_cases h1 : a = l
  · rw [if_pos h1, if_neg (fun q => hl (h1.symm.trans q))] at h
    by_cases q2 : b = l'
    · rw [if_pos q2] at h; cases h
    rw [if_neg q2] at h
    by_cases q3 : c = l'
    · rw [if_pos q3] at h; cases h
    rw [if_neg q3] at h
    by_cases q4 : e = l'
    · rw [if_pos q4] at h; cases h
    rw [if_neg q4] at h; cases h
  rw [if_neg h1] at h ⊢
  by_cases h1' : a = l'
  · rw [if_pos h1'] at h
    by_cases q2 : b = l
    · rw [if_pos q2] at h; cases h
    rw [if_neg q2] at h
    by_cases q3 : c = l
    · rw [if_pos q3] at h; cases h
    rw [if_neg q3] at h
    by_cases q4 : e = l
    · rw [if_pos q4] at h; cases h
    rw [if_neg q4] at h; cases h
  rw [if_neg h1'] at h
  by_cases h2 : b = l
  · rw [if_pos h2, if_neg (fun q => hl (h2.symm.trans q))] at h
    by_cases q3 : c = l'
    · rw [if_pos q3] at h; cases h
    rw [if_neg q3] at h
    by_cases q4 : e = l'
    · rw [if_pos q4] at h; cases h
    rw [if_neg q4] at h; cases h
  rw [if_neg h2] at h ⊢
  by_cases h2' : b = l'
  · rw [if_pos h2'] at h
    by_cases q3 : c = l
    · rw [if_pos q3] at h; cases h
    rw [if_neg q3] at h
    by_cases q4 : e = l
    · rw [if_pos q4] at h; cases h
    rw [if_neg q4] at h; cases h
  rw [if_neg h2'] at h
  by_cases h3 : c = l
  · rw [if_pos h3, if_neg (fun q => hl (h3.symm.trans q))] at h
    by_cases q4 : e = l'
    · rw [if_pos q4] at h; cases h
    rw [if_neg q4] at h; cases h
  rw [if_neg h3] at h ⊢
  by_cases h3' : c = l'
  · rw [if_pos h3'] at h
    by_cases q4 : e = l
    · rw [if_pos q4] at h; cases h
    rw [if_neg q4] at h; cases h
  rw [if_neg h3'] at h
  by_cases h4 : e = l
  · rw [if_pos h4, if_neg (fun q => hl (h4.symm.trans q))] at h; cases h
  rw [if_neg h4]
theorem ow_pv : ∀ x, x < 5 → ∀ y, y < 5 → (decide (pvI (nI x) ≠ -1) && (!decide (pvI (nI y) ≠ -1) || decide (pvI (nI x) < pvI (nI y)))) = decide (nI x < nI y) := by decide +kernel
theorem sh_pv : ∀ x, x < 5 → ∀ y, y < 5 → (nI x = nI y → nI x = 4) → (decide (pvI (nI x) ≠ -1) && !(decide (pvI (nI x) ≠ -1) && (!decide (pvI (nI y) ≠ -1) || decide (pvI (nI x) < pvI (nI y))))) = (decide (nI y < nI x) && !decide (nI x = 4)) := by decide +kernel
theorem ou_pv : ∀ x, x < 5 → ∀ y, y < 5 → (decide (pvI (nI x) ≠ -1) && (decide (pvI (nI y) ≠ -1) && decide (pvI (nI x) < pvI (nI y)))) = (decide (nI x < nI y) && !decide (nI y = 4)) := by decide +kernel
theorem bt_pv : ∀ x, x < 5 → ∀ y, y < 5 → ∀ z, z < 5 → ∀ u, u < 5 → (btI 0 (nI x) ||| btI 1 (nI y) ||| btI 2 (nI z) ||| btI 3 (nI u)) = nI (lay4 (decide (pvI (nI x) ≠ -1)) (decide (pvI (nI y) ≠ -1)) (decide (pvI (nI z) ≠ -1)) (decide (pvI (nI u) ≠ -1))) := by decide +kernel
theorem ly_ok {I : aI} {r : Nat} {p : Nat → Int32} {a b c e : Int32} (h : LyV I r (plI 0 a b c e) (plI 1 a b c e) (plI 2 a b c e) (plI 3 a b c e)) : LayX I r (plP p a b c e) ∧ I r 0 = nI (layN (plP p a b c e)) := by
  obtain ⟨h0, h1, h2, h3, h4, h5, h6, h7⟩ := h
  have n03 := pl_ne (l := 0) (l' := 3) (a := a) (b := b) (c := c) (e := e) (by decide)
  have n13 := pl_ne (l := 1) (l' := 3) (a := a) (b := b) (c := c) (e := e) (by decide)
  have p0 : plP p a b c e 0 = pvI (plI 0 a b c e) := rfl
  have p1 : plP p a b c e 1 = pvI (plI 1 a b c e) := rfl
  have p2 : plP p a b c e 2 = pvI (plI 2 a b c e) := rfl
  have p3 : plP p a b c e 3 = pvI (plI 3 a b c e) := rfl
  obtain ⟨j0, k0, e0⟩ := pl_5 0 a b c e
  obtain ⟨j1, k1, e1⟩ := pl_5 1 a b c e
  obtain ⟨j2, k2, e2⟩ := pl_5 2 a b c e
  obtain ⟨j3, k3, e3⟩ := pl_5 3 a b c e
  rw [e0] at p0 h0 h1 h4 h6 n03
  rw [e1] at p1 h0 h2 h5 h7 n13
  rw [e2] at p2 h0 h3 h6 h7
  rw [e3] at p3 h0 h1 h2 h3 h4 h5 n03 n13
  refine ⟨⟨⟨?_, ?_, ?_, ?_, ?_⟩, ?_, ?_⟩, ?_⟩
  · rw [h1]; show _ = bI (owF (plP p a b c e) 0); unfold owF hsF; rw [p0, p3, ow_pv _ k0 _ k3]
  · rw [h2]; show _ = bI (owF (plP p a b c e) 1); unfold owF hsF; rw [p1, p3, ow_pv _ k1 _ k3]
  · rw [h3]; show _ = bI (owF (plP p a b c e) 2); unfold owF hsF; rw [p2, p3, ow_pv _ k2 _ k3]
  · rw [h6]; show _ = bI (ouF (plP p a b c e) 0); unfold ouF hsF; rw [p0, p2, ou_pv _ k0 _ k2]
  · rw [h7]; show _ = bI (ouF (plP p a b c e) 1); unfold ouF hsF; rw [p1, p2, ou_pv _ k1 _ k2]
  · rw [h4]; unfold shF owF hsF; rw [p0, p3, sh_pv _ k0 _ k3 n03]
  · rw [h5]; unfold shF owF hsF; rw [p1, p3, sh_pv _ k1 _ k3 n13]
  · rw [h0]; unfold layN hsF; rw [p0, p1, p2, p3, bt_pv _ k0 _ k1 _ k2 _ k3]
