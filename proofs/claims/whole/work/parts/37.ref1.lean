/-! the reference: what it asks of the layers, and its small methods -/
def hsF (p : Nat → Int32) (l : Nat) : Bool := decide (p l ≠ -1)
def owF (p : Nat → Int32) (l : Nat) : Bool := hsF p l && (!hsF p 3 || decide (p l < p 3))
def shF (p : Nat → Int32) (l : Nat) : Bool := hsF p l && !owF p l
def ouF (p : Nat → Int32) (l : Nat) : Bool := hsF p l && (hsF p 2 && decide (p l < p 2))
def flF (p : Nat → Int32) : mF := (owF p 0, owF p 1, owF p 2, ouF p 0, ouF p 1)
/-- it returns nothing; then P of the heap -/
def rQ (g : aG) (L : aL) (P : aI → Prop) : aQ := fun o g' I' L' => o = .inl none ∧ g' = g ∧ L' = L ∧ P I'
theorem rQ_no {g g' : aG} {I' : aI} {L L' : aL} {P : aI → Prop} {E : String} : ¬ rQ g L P (.inr E) g' I' L' := fun h => by cases h.1
theorem bI_ne {b : Bool} (h : ¬ bI b = 0) : b = true := by cases b <;> simp [bI] at h ⊢
theorem bI_eq {b : Bool} (h : bI b = 0) : b = false := by cases b <;> simp [bI] at h ⊢
theorem bI_or (b : Bool) : bI b = 0 ∨ bI b = 1 := by cases b <;> simp [bI]
section Ref1
variable {lx ly : Nat} {g : aG} {I : aI} {L : aL} {d : Nat} {x : Int32} {l : Nat}
theorem r_has (hw : WS lx ly g) (hx : x = nI l) (hl : l < 4) : Mx mX9_has d 0 0 [vS 328, vI x] g I L (qV (some (vI (bI (hsF (I 336) l)))) g I L) := by
  subst hx
  refine Mx_in (by decide +kernel) rfl rfl (Ex_wx [] 9 oX9_has hw ?_)
  refine And.intro (inN hl (by omega)) ?_
  refine And.intro (fun c => ?_) (fun c => ?_)
  · rw [clN (by omega)] at c
    exact ⟨Or.inl rfl, by simp [hsF, c, bI], rfl, rfl, rfl⟩
  · rw [clN (by omega)] at c
    exact ⟨Or.inr rfl, by simp [hsF, c, bI], rfl, rfl, rfl⟩
theorem r_isOwn (hw : WS lx ly g) (hx : x = nI l) (hl : l < 4) (hd : 1 ≤ d) : Mx mX9_isOwn d 0 0 [vS 328, vI x] g I L (qV (some (vI (bI (owF (I 336) l)))) g I L) := by
  subst hx
  have h0 := (hw 328 _ rfl).2.1
  refine Mx_in (by decide +kernel) rfl rfl (Ex_wx [] 9 oX9_isOwn hw ?_)
  refine Ex_v (As := [vI (nI l)]) (st := []) (d' := 0) vX9_175 rfl rfl (r_has hw rfl hl) h0 hd rfl (dc_ok oX9_isOwn rfl) ?_
  refine Ex_wx [8] 9 oX9_isOwn hw ?_
  refine And.intro (fun c => ?_) (fun c => ?_)
  · have c1 := bI_eq c
    exact ⟨Or.inl rfl, by simp [owF, c1, bI], rfl, rfl, rfl⟩
  · have c1 := bI_ne c
    refine Ex_wx [] 9 oX9_isOwn hw ?_
    refine Ex_v (As := [vI 3]) (st := []) (d' := 0) vX9_175 rfl rfl (r_has hw (l := 3) rfl (by omega)) h0 hd rfl (dc_ok oX9_isOwn rfl) ?_
    refine Ex_wx [16] 9 oX9_isOwn hw ?_
    refine And.intro (fun c => ?_) (fun c => ?_)
    · have c2 := bI_eq c
      exact ⟨Or.inr rfl, by simp [owF, c1, c2, bI], rfl, rfl, rfl⟩
    · have c2 := bI_ne c
      refine Ex_wx [] 9 oX9_isOwn hw ?_
      refine And.intro (inN hl (by omega)) ?_
      refine And.intro (show vp_in (nI 3) 4 from inN (by omega) (by omega)) ?_
      refine And.intro (fun c => ?_) (fun c => ?_)
      · rw [clN (by omega)] at c
        have c3 : ¬ I 336 l < I 336 3 := Int32.not_lt.mpr c
        exact ⟨Or.inl rfl, by simp [owF, c1, c2, c3, bI], rfl, rfl, rfl⟩
      · rw [clN (by omega)] at c
        have c3 : I 336 l < I 336 3 := Int32.not_le.mp c
        exact ⟨Or.inr rfl, by simp [owF, c1, c2, c3, bI], rfl, rfl, rfl⟩
theorem r_isShared (hw : WS lx ly g) (hx : x = nI l) (hl : l < 4) (hd : 2 ≤ d) : Mx mX9_isShared d 0 0 [vS 328, vI x] g I L (qV (some (vI (bI (shF (I 336) l)))) g I L) := by
  subst hx
  have h0 := (hw 328 _ rfl).2.1
  refine Mx_in (by decide +kernel) rfl rfl (Ex_wx [] 9 oX9_isShared hw ?_)
  refine Ex_v (As := [vI (nI l)]) (st := []) (d' := 0) vX9_175 rfl rfl (r_has hw rfl hl) h0 (by omega) rfl (dc_ok oX9_isShared rfl) ?_
  refine Ex_wx [8] 9 oX9_isShared hw ?_
  refine And.intro (fun c => ?_) (fun c => ?_)
  · have c1 := bI_eq c
    exact ⟨Or.inl rfl, by simp [shF, c1, bI], rfl, rfl, rfl⟩
  · have c1 := bI_ne c
    refine Ex_wx [] 9 oX9_isShared hw ?_
    refine Ex_v (As := [vI (nI l)]) (st := []) (d' := 1) vX9_178 rfl rfl (r_isOwn hw rfl hl (by omega)) h0 (by omega) rfl (dc_ok oX9_isShared rfl) ?_
    refine Ex_wx [] 9 oX9_isShared hw ?_
    refine And.intro (fun c => ?_) (fun c => ?_)
    · have c2 := bI_eq c
      exact ⟨Or.inr rfl, by simp [shF, c1, c2, bI], rfl, rfl, rfl⟩
    · have c2 := bI_ne c
      exact ⟨Or.inl rfl, by simp [shF, c1, c2, bI], rfl, rfl, rfl⟩
theorem r_isOutside (hw : WS lx ly g) (hx : x = nI l) (hl : l < 4) (hd : 1 ≤ d) : Mx mX9_isOutside d 0 0 [vS 328, vI x] g I L (qV (some (vI (bI (ouF (I 336) l)))) g I L) := by
  subst hx
  have h0 := (hw 328 _ rfl).2.1
  refine Mx_in (by decide +kernel) rfl rfl (Ex_wx [] 9 oX9_isOutside hw ?_)
  refine Ex_v (As := [vI (nI l)]) (st := []) (d' := 0) vX9_175 rfl rfl (r_has hw rfl hl) h0 hd rfl (dc_ok oX9_isOutside rfl) ?_
  refine Ex_wx [8] 9 oX9_isOutside hw ?_
  refine And.intro (fun c => ?_) (fun c => ?_)
  · have c1 := bI_eq c
    exact ⟨Or.inl rfl, by simp [ouF, c1, bI], rfl, rfl, rfl⟩
  · have c1 := bI_ne c
    refine Ex_wx [] 9 oX9_isOutside hw ?_
    refine Ex_v (As := [vI 2]) (st := []) (d' := 0) vX9_175 rfl rfl (r_has hw (l := 2) rfl (by omega)) h0 hd rfl (dc_ok oX9_isOutside rfl) ?_
    refine Ex_wx [16] 9 oX9_isOutside hw ?_
    refine And.intro (fun c => ?_) (fun c => ?_)
    · have c2 := bI_eq c
      exact ⟨Or.inl rfl, by simp [ouF, c1, c2, bI], rfl, rfl, rfl⟩
    · have c2 := bI_ne c
      refine Ex_wx [] 9 oX9_isOutside hw ?_
      refine And.intro (inN hl (by omega)) ?_
      refine And.intro (show vp_in (nI 2) 4 from inN (by omega) (by omega)) ?_
      refine And.intro (fun c => ?_) (fun c => ?_)
      · rw [clN (by omega)] at c
        have c3 : ¬ I 336 l < I 336 2 := Int32.not_lt.mpr c
        exact ⟨Or.inl rfl, by simp [ouF, c1, c2, c3, bI], rfl, rfl, rfl⟩
      · rw [clN (by omega)] at c
        have c3 : I 336 l < I 336 2 := Int32.not_le.mp c
        exact ⟨Or.inr rfl, by simp [ouF, c1, c2, c3, bI], rfl, rfl, rfl⟩
theorem r_row {h : Nat} (hw : WS lx ly g) (hx : x = nI l) : Mx mX9_row d 0 0 [vS 328, vI (nI h), vI x] g I L (qV (some (vI (nI (100 * h + 50 * l)))) g I L) := by
  subst hx
  refine Mx_in (by decide +kernel) rfl rfl (Ex_wx [] 9 oX9_row hw ?_)
  refine ⟨?_, rfl, rfl, rfl⟩
  have : (50 : Int32) * (2 * nI h + nI l) = nI (100 * h + 50 * l) := by
    rw [show (2 : Int32) * nI h = nI (2 * h) from nI_mul 2 h, nI_add, show (50 : Int32) * nI (2 * h + l) = nI (50 * (2 * h + l)) from nI_mul 50 _]
    congr 1; omega
  rw [this]
theorem nm_eq {env : Nat → Int32} {j : Nat} (h : j < 8) : nmF env (nI j) = env j := by
  unfold nmF
  rw [if_pos (nm_ok h), clN (by omega)]
theorem r_value {h : Nat} {env : Nat → Int32} {nd : Int32} (hw : WS lx ly g) (hh : h < 32) (he : ∀ k, k < 8 → I 348 (8 * h + k) = env k) (hn : nd = 0 ∨ (nd = 1 ∧ ∃ j, j < 8 ∧ x = nI j)) : Mx mX9_value d 0 0 [vS 328, vI (nI h), vI x, vI nd] g I L (qV (some (vI (opF env nd x))) g I L) := by
  refine Mx_in (by decide +kernel) rfl rfl (Ex_wx [] 9 oX9_value hw ?_)
  rcases hn with rfl | ⟨rfl, j, hj, rfl⟩
  · refine And.intro (fun _ => ?_) (fun c => absurd rfl c)
    exact ⟨by rw [opF, if_pos rfl], rfl, rfl, rfl⟩
  · refine And.intro (fun c => absurd c (by decide)) (fun _ => ?_)
    have e1 : (8 : Int32) * nI h + nI j = nI (8 * h + j) := by rw [show (8 : Int32) * nI h = nI (8 * h) from nI_mul 8 h, nI_add]
    refine And.intro (by rw [e1]; exact inN (by omega) (by omega)) ?_
    exact ⟨by rw [e1, clN (by omega), he j hj, opF, if_neg (by decide), nm_eq hj], rfl, rfl, rfl⟩
theorem r_op {k : Nat} {p q : Int32} (hw : WS lx ly g) (hk : 14 ≤ k) (hk2 : k ≤ 18) : Mx mX9_op d 0 0 [vI (nI (k - 14)), vI p, vI q] g I L (qV (some (vI (rkF k p q))) g I L) := by
  have h14 : k = 14 ∨ k = 15 ∨ k = 16 ∨ k = 17 ∨ k = 18 := by omega
  refine Mx_in (by decide +kernel) rfl rfl (Ex_wx [] 9 oX9_op hw ?_)
  rcases h14 with rfl | rfl | rfl | rfl | rfl
  · refine And.intro (fun _ => ?_) (fun c => absurd rfl c)
    exact ⟨rfl, rfl, rfl, rfl⟩
  · refine And.intro (fun c => absurd c (by decide)) (fun _ => ?_)
    refine And.intro (fun _ => ?_) (fun c => absurd rfl c)
    exact ⟨rfl, rfl, rfl, rfl⟩
  · refine And.intro (fun c => absurd c (by decide)) (fun _ => ?_)
    refine And.intro (fun c => absurd c (by decide)) (fun _ => ?_)
    refine And.intro (fun _ => ?_) (fun c => absurd rfl c)
    exact ⟨rfl, rfl, rfl, rfl⟩
  · refine And.intro (fun c => absurd c (by decide)) (fun _ => ?_)
    refine And.intro (fun c => absurd c (by decide)) (fun _ => ?_)
    refine And.intro (fun c => absurd c (by decide)) (fun _ => ?_)
    refine And.intro (fun _ => ?_) (fun c => absurd rfl c)
    refine And.intro (fun c => ?_) (fun c => ?_)
    · exact ⟨by simp [rkF, Int32.not_lt.mpr c], rfl, rfl, rfl⟩
    · exact ⟨by simp [rkF, Int32.not_le.mp c], rfl, rfl, rfl⟩
  · refine And.intro (fun c => absurd c (by decide)) (fun _ => ?_)
    refine And.intro (fun c => absurd c (by decide)) (fun _ => ?_)
    refine And.intro (fun c => absurd c (by decide)) (fun _ => ?_)
    refine And.intro (fun c => absurd c (by decide)) (fun _ => ?_)
    refine And.intro (fun c => ?_) (fun c => ?_)
    · exact ⟨by simp [rkF, c], rfl, rfl, rfl⟩
    · exact ⟨by simp [rkF, c], rfl, rfl, rfl⟩
theorem r_finish {h : Nat} (hw : WS lx ly g) (h14 : I 328 14 = nI (h + 1)) : Mx mX9_finish d 0 0 [vS 328] g I L (qV none g (up2 I 328 14 (nI h)) L) := by
  refine Mx_in (by decide +kernel) rfl rfl (Ex_wx [] 9 oX9_finish hw ?_)
  exact ⟨rfl, rfl, by rw [h14, nI_pred], rfl⟩
/-- the heap with one more RESULT told -/
def tellI (I : aI) (h m : Nat) (er v st lg : Int32) : aI := up2 (up2 (up2 (up2 (up2 I 350 (100 * h + 50 + m) er) 351 (100 * h + 50 + m) v) 352 (100 * h + 50 + m) st) 353 (100 * h + 50 + m) lg) 349 (2 * h + 1) (nI (m + 1))
theorem r_tell {h m : Nat} {er v st lg : Int32} (hw : WS lx ly g) (hh : h < 32) (hm : I 349 (2 * h + 1) = nI m) (hm2 : m ≤ 50) (he : er = 0 ∨ er = 1) (hd : 1 ≤ d) : Mx mX9_tell d 0 0 [vS 328, vI (nI h), vI er, vI v, vI st, vI lg] g I L (qV none g (if m = 50 then up2 I 328 33 1 else tellI I h m er v st lg) L) := by
  have h0 := (hw 328 _ rfl).2.1
  have e1 : (2 : Int32) * nI h + 1 = nI (2 * h + 1) := by rw [show (2 : Int32) * nI h = nI (2 * h) from nI_mul 2 h, nI_1]
  have v1 : vp_in ((2 : Int32) * nI h + 1) 64 := by rw [e1]; exact inN (by omega) (by omega)
  have c1 : ((2 : Int32) * nI h + 1).toNatClampNeg = 2 * h + 1 := by rw [e1]; exact clN (by omega)
  refine Mx_in (by decide +kernel) rfl rfl (Ex_wx [21] 9 oX9_tell hw ?_)
  refine And.intro v1 ?_
  refine And.intro (fun c => ?_) (fun c => ?_)
  · rw [c1, hm] at c
    have := eqN (b := 50) c (by omega) (by omega)
    refine ⟨Or.inr rfl, rfl, rfl, ?_, rfl⟩
    rw [if_pos this]
  · rw [c1, hm] at c
    have hne : m ≠ 50 := fun q => c (by rw [q]; rfl)
    rw [if_neg hne]
    refine Ex_wx [] 9 oX9_tell hw ?_
    refine Ex_v (As := [vI (nI h), vI 1]) (st := []) (d' := 0) vX9_200 rfl rfl (r_row hw (l := 1) rfl) h0 hd rfl (dc_ok oX9_tell rfl) ?_
    refine Ex_bn 10 oX9_tell hw ?_
    refine And.intro v1 ?_
    show Ex mX9_tell d 0 0 _ 40 [some (vS 328), some (vI (nI h)), some (vI er), some (vI v), some (vI st), some (vI lg), some (vI (nI (100 * h + 50 * 1) + I 349 ((2 : Int32) * nI h + 1).toNatClampNeg))] [] g I L
    rw [c1, hm, nI_add, show 100 * h + 50 * 1 + m = 100 * h + 50 + m by omega]
    refine Ex_wx [] 9 oX9_tell hw ?_
    have v2 : vp_in (nI (100 * h + 50 + m)) 3200 := inN (by omega) (by omega)
    have c2 : (nI (100 * h + 50 + m)).toNatClampNeg = 100 * h + 50 + m := clN (by omega)
    refine And.intro ⟨v2, he⟩ ?_
    refine And.intro v2 ?_
    refine And.intro v2 ?_
    refine And.intro v2 ?_
    refine And.intro v1 ?_
    refine And.intro v1 ?_
    refine ⟨rfl, rfl, ?_, rfl⟩
    rw [c1, c2]
    have e2 : up2 (up2 (up2 (up2 I 350 (100 * h + 50 + m) er) 351 (100 * h + 50 + m) v) 352 (100 * h + 50 + m) st) 353 (100 * h + 50 + m) lg 349 (2 * h + 1) = nI m := by
      rw [up2_i (by omega), up2_i (by omega), up2_i (by omega), up2_i (by omega)]; exact hm
    rw [e2, nI_1]
    rfl
end Ref1
