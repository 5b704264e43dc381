/-! the machine's small methods -/
def bI (b : Bool) : Int32 := if b = true then 1 else 0
theorem bI_0 {b : Bool} : bI b = 0 ↔ b = false := by cases b <;> simp [bI]
def Mch (I : aI) (lim : Nat) (e : mE) (env : Nat → Int32) (top : Nat) : Prop :=
  I 3 7 = nI (mE.sp e) ∧ I 3 6 = nI lim ∧ I 3 4 = mE.s e ∧ I 3 5 = mE.l e ∧ I 3 8 = mE.en e ∧ I 9 3 = nI (mE.us e) ∧ I 10 = mE.nu e ∧ I 11 = mE.be e ∧ I 12 = mE.le e ∧ (∀ k, k < 8 → I 13 k = env k) ∧ I 4 4 = nI top
def Lay (I : aI) (ly : Nat) (F : mF) : Prop := I ly 1 = bI F.1 ∧ I ly 2 = bI F.2.1 ∧ I ly 3 = bI F.2.2.1 ∧ I ly 6 = bI F.2.2.2.1 ∧ I ly 7 = bI F.2.2.2.2
def Cm (lx ly : Nat) (g : aG) : Prop := WS lx ly g ∧ g.2.1 ly = some (.inl 1) ∧ 13 < ly
def Rows (I : aI) (base : Nat) (rs : List mR) : Prop := ∀ (j : Nat) (r : mR), rs[j]? = some r → resAt I (base + j) = r
def Keep (I I' : aI) (base : Nat) : Prop := ∀ k, k < base → resAt I' k = resAt I k
def Frm (I I' : aI) : Prop := ∀ i, i < 3 ∨ 13 < i → I' i = I i
theorem Frm.refl {I : aI} : Frm I I := fun _ _ => rfl
theorem Frm.trans {I I' I'' : aI} (h : Frm I I') (h' : Frm I' I'') : Frm I I'' := fun i hi => (h' i hi).trans (h i hi)
theorem Keep.refl {I : aI} {b : Nat} : Keep I I b := fun _ _ => rfl
theorem Keep.trans {I I' I'' : aI} {b : Nat} (h : Keep I I' b) (h' : Keep I' I'' b) : Keep I I'' b := fun i hi => (h' i hi).trans (h i hi)
theorem Keep.mono {I I' : aI} {b b' : Nat} (h : Keep I I' b) (hb : b' ≤ b) : Keep I I' b' := fun i hi => h i (by omega)
theorem Lay.frm {I I' : aI} {ly : Nat} {F : mF} (h : Lay I ly F) (hf : Frm I I') (hl : 13 < ly) : Lay I' ly F := by
  unfold Lay
  rw [hf ly (Or.inr hl)]
  exact h
theorem push_frm {I : aI} {t : Nat} {x e s l : Int32} : Frm I (pushI I t x e s l) := fun i hi => push_else (by omega)
theorem push_keep {I : aI} {t : Nat} {x e s l : Int32} : Keep I (pushI I t x e s l) t := fun k hk => by rw [resAt_push, if_neg (by omega)]
theorem push_rows {I : aI} {t : Nat} {x e s l : Int32} : Rows (pushI I t x e s l) t [(x, e, s, l)] := by
  intro j r h
  cases j with
  | zero =>
    have h2 : (x, e, s, l) = r := Option.some.inj h
    rw [Nat.add_zero, resAt_push, if_pos rfl]; exact h2
  | succ j => simp at h
theorem Mch.push {I : aI} {lim : Nat} {e : mE} {env : Nat → Int32} {t : Nat} {x er s l : Int32} (h : Mch I lim e env t) : Mch (pushI I t x er s l) lim e env (t + 1) := by
  obtain ⟨h1, h2, h3, h4, h5, h6, h7, h8, h9, h10, h11⟩ := h
  have q : ∀ i, i < 4 ∨ 8 < i → pushI I t x er s l i = I i := fun i hi => push_else hi
  refine ⟨?_, ?_, ?_, ?_, ?_, ?_, ?_, ?_, ?_, ?_, push_top⟩
  · rw [q 3 (by omega)]; exact h1
  · rw [q 3 (by omega)]; exact h2
  · rw [q 3 (by omega)]; exact h3
  · rw [q 3 (by omega)]; exact h4
  · rw [q 3 (by omega)]; exact h5
  · rw [q 9 (by omega)]; exact h6
  · rw [q 10 (by omega)]; exact h7
  · rw [q 11 (by omega)]; exact h8
  · rw [q 12 (by omega)]; exact h9
  · intro k hk; rw [q 13 (by omega)]; exact h10 k hk
theorem Mch.cut {I : aI} {lim : Nat} {e : mE} {env : Nat → Int32} {t t' : Nat} (h : Mch I lim e env t) : Mch (up2 I 4 4 (nI t')) lim e env t' := by
  obtain ⟨h1, h2, h3, h4, h5, h6, h7, h8, h9, h10, h11⟩ := h
  have q : ∀ i, i < 4 ∨ 8 < i → up2 I 4 4 (nI t') i = I i := fun i hi => cut_else hi
  refine ⟨?_, ?_, ?_, ?_, ?_, ?_, ?_, ?_, ?_, ?_, up2_s⟩
  · rw [q 3 (by omega)]; exact h1
  · rw [q 3 (by omega)]; exact h2
  · rw [q 3 (by omega)]; exact h3
  · rw [q 3 (by omega)]; exact h4
  · rw [q 3 (by omega)]; exact h5
  · rw [q 9 (by omega)]; exact h6
  · rw [q 10 (by omega)]; exact h7
  · rw [q 11 (by omega)]; exact h8
  · rw [q 12 (by omega)]; exact h9
  · intro k hk; rw [q 13 (by omega)]; exact h10 k hk
/-- the results change alone: the machine else is as it was -/
theorem Mch.res {I I' : aI} {lim : Nat} {e : mE} {env : Nat → Int32} {t t' : Nat} (h : Mch I lim e env t) (q : ∀ i, i < 4 ∨ 8 < i → I' i = I i) (ht : I' 4 4 = nI t') : Mch I' lim e env t' := by
  obtain ⟨h1, h2, h3, h4, h5, h6, h7, h8, h9, h10, h11⟩ := h
  refine ⟨?_, ?_, ?_, ?_, ?_, ?_, ?_, ?_, ?_, ?_, ht⟩
  · rw [q 3 (by omega)]; exact h1
  · rw [q 3 (by omega)]; exact h2
  · rw [q 3 (by omega)]; exact h3
  · rw [q 3 (by omega)]; exact h4
  · rw [q 3 (by omega)]; exact h5
  · rw [q 9 (by omega)]; exact h6
  · rw [q 10 (by omega)]; exact h7
  · rw [q 11 (by omega)]; exact h8
  · rw [q 12 (by omega)]; exact h9
  · intro k hk; rw [q 13 (by omega)]; exact h10 k hk
def ownI (F : mF) (I : aI) (s l : Int32) : aI := if F.2.1 = true then up2 (if F.1 = true then up2 I 3 4 s else I) 3 5 l else (if F.1 = true then up2 I 3 4 s else I)
theorem own_else {F : mF} {I : aI} {s l : Int32} {i : Nat} (h : i ≠ 3) : ownI F I s l i = I i := by
  funext k
  unfold ownI
  cases F.1 <;> cases F.2.1 <;> simp [up2, h]
theorem own_frm {F : mF} {I : aI} {s l : Int32} : Frm I (ownI F I s l) := fun i hi => own_else (by omega)
theorem own_res {F : mF} {I : aI} {s l : Int32} {k : Nat} : resAt (ownI F I s l) k = resAt I k := by
  unfold resAt
  rw [own_else (by omega), own_else (by omega), own_else (by omega), own_else (by omega)]
theorem Mch.own {F : mF} {I : aI} {lim : Nat} {e : mE} {env : Nat → Int32} {t : Nat} {s l : Int32} (h : Mch I lim e env t) : Mch (ownI F I s l) lim (own2 F e s l) env t := by
  obtain ⟨h1, h2, h3, h4, h5, h6, h7, h8, h9, h10, h11⟩ := h
  refine ⟨?_, ?_, ?_, ?_, ?_, ?_, ?_, ?_, ?_, ?_, ?_⟩
  · have : ownI F I s l 3 7 = I 3 7 := by unfold ownI; cases F.1 <;> cases F.2.1 <;> simp [up2]
    rw [this]; exact h1
  · have : ownI F I s l 3 6 = I 3 6 := by unfold ownI; cases F.1 <;> cases F.2.1 <;> simp [up2]
    rw [this]; exact h2
  · show ownI F I s l 3 4 = if F.1 = true then s else mE.s e
    rw [← h3]; unfold ownI; cases F.1 <;> cases F.2.1 <;> simp [up2]
  · show ownI F I s l 3 5 = if F.2.1 = true then l else mE.l e
    rw [← h4]; unfold ownI; cases F.1 <;> cases F.2.1 <;> simp [up2]
  · have : ownI F I s l 3 8 = I 3 8 := by unfold ownI; cases F.1 <;> cases F.2.1 <;> simp [up2]
    rw [this]; exact h5
  · rw [own_else (by omega)]; exact h6
  · rw [own_else (by omega)]; exact h7
  · rw [own_else (by omega)]; exact h8
  · rw [own_else (by omega)]; exact h9
  · intro k hk; rw [own_else (by omega)]; exact h10 k hk
  · rw [own_else (by omega)]; exact h11
section Mac
variable {lx ly : Nat} {g : aG} {I : aI} {L : aL} {d t base lim : Nat} {e : mE} {env : Nat → Int32} {F : mF}
theorem e3_takeOwn {s l : Int32} (hC : Cm lx ly g) (hL : Lay I ly F) : Mx mX3_takeOwn d 0 0 [vS 3, vI s, vI l] g I L (qV none g (ownI F I s l) L) := by
  obtain ⟨hw, hly, hl13⟩ := hC
  have hl3 : ¬ ly = 3 := by omega
  refine Mx_in (by decide +kernel) rfl rfl (Ex_wx [10, 15] 9 oX3_takeOwn hw ?_)
  refine And.intro hly ?_
  have tail : ∀ I1 : aI, I1 = (if F.1 = true then up2 I 3 4 s else I) → Ex mX3_takeOwn d 0 0 (qV none g (ownI F I s l) L) 15 [some (vS 3), some (vI s), some (vI l)] [] g I1 L := by
    intro I1 hI1
    have hly2 : I1 ly 2 = bI F.2.1 := by
      rw [hI1, ← hL.2.1]; split
      · exact up2_i hl3
      · rfl
    refine Ex_wx [] 9 oX3_takeOwn hw ?_
    refine And.intro hly ?_
    refine And.intro (fun c => ?_) (fun c => ?_)
    · rw [hly2] at c
      refine ⟨rfl, rfl, ?_, rfl⟩
      unfold ownI; rw [bI_0.mp c, if_neg (by decide)]; exact hI1
    · rw [hly2] at c
      have : F.2.1 = true := by cases h : F.2.1 with | true => rfl | false => exact absurd (bI_0.mpr h) c
      refine ⟨rfl, rfl, ?_, rfl⟩
      unfold ownI; rw [if_pos this, hI1]
  refine And.intro (fun c => ?_) (fun c => ?_)
  · rw [hL.1] at c
    exact tail I (by rw [bI_0.mp c, if_neg (by decide)])
  · rw [hL.1] at c
    have : F.1 = true := by cases h : F.1 with | true => rfl | false => exact absurd (bI_0.mpr h) c
    exact Ex_bn 3 oX3_takeOwn hw (tail _ (by rw [if_pos this]))
theorem e3_isTooMany (hC : Cm lx ly g) (ht : I 4 4 = nI t) (h3 : t ≤ 3100) (hb : base ≤ t) (hd : 1 ≤ d) : Mx mX3_isTooMany d 0 0 [vS 3, vI (nI base)] g I L (qV (some (vI (if 50 < t - base then 1 else 0))) g I L) := by
  refine Mx_in (by decide +kernel) rfl rfl (Ex_wx [] 9 oX3_isTooMany hC.1 ?_)
  refine Ex_v (As := []) (st := []) (d' := 0) vX3_52 rfl rfl (e5_size hC.1) (hC.1 4 _ rfl).2.1 hd rfl (dc_ok oX3_isTooMany rfl) ?_
  have e1 : I 4 4 - nI base = nI (t - base) := by rw [ht]; exact pk_sub hb
  refine Ex_wx [] 9 oX3_isTooMany hC.1 ?_
  refine And.intro (fun c => ?_) (fun c => ?_)
  · rw [e1] at c
    have c2 := leN (b := 50) c (by omega) (by omega)
    exact ⟨Or.inl rfl, by rw [if_neg (by omega)], rfl, rfl, rfl⟩
  · rw [e1] at c
    have c2 : ¬ (t - base ≤ 50) := fun h => c (nI_le (b := 50) h (by omega))
    exact ⟨Or.inr rfl, by rw [if_pos (by omega)], rfl, rfl, rfl⟩
theorem e3_numberOf {n : Int32} (hC : Cm lx ly g) (he : ∀ k, k < 8 → I 13 k = env k) : Mx mX3_numberOf d 0 0 [vS 3, vI n] g I L (qV (some (vI (nmF env n))) g I L) := by
  refine Mx_in (by decide +kernel) rfl rfl (Ex_wx [] 9 oX3_numberOf hC.1 ?_)
  refine And.intro (fun c => ?_) (fun c => ?_)
  · exact ⟨by unfold nmF; rw [if_neg (fun h => absurd h.1 (Int32.not_le.mpr c))], rfl, rfl, rfl⟩
  refine And.intro (fun c2 => ?_) (fun c2 => ?_)
  · exact ⟨by unfold nmF; rw [if_neg (fun h => absurd h.2 (Int32.not_lt.mpr c2))], rfl, rfl, rfl⟩
  · have h0 : 0 ≤ n := Int32.not_lt.mp c
    have h8 : n < 8 := Int32.not_le.mp c2
    have hv : vp_in n 8 := by
      refine vp_in_iff.mpr ?_
      have h1 := Int32.le_iff_toInt_le.mp h0
      have h3 := Int32.lt_iff_toInt_lt.mp h8
      simp only [Int32.toInt_zero] at h1
      have h9 : (8 : Int32).toInt = 8 := by decide
      omega
    refine And.intro hv ?_
    obtain ⟨j, hj, rfl⟩ := vp_in_of hv (by omega)
    refine ⟨?_, rfl, rfl, rfl⟩
    unfold nmF
    rw [if_pos ⟨h0, h8⟩, clN (by omega), he j hj]
theorem e3_operandOf {q : Nat} (hC : Cm lx ly g) (he : ∀ k, k < 8 → I 13 k = env k) (hq : g.2.1 q = some (.inl 7)) (hd : 1 ≤ d) : Mx mX3_operandOf d 0 0 [vS 3, vD (some q)] g I L (qV (some (vI (opF env (I q 1) (I q 2)))) g I L) := by
  refine Mx_in (by decide +kernel) rfl rfl (Ex_wx [] 9 oX3_operandOf hC.1 ?_)
  refine And.intro hq ?_
  refine And.intro (fun c => ?_) (fun c => ?_)
  · refine And.intro hq ?_
    exact ⟨by unfold opF; rw [if_pos c], rfl, rfl, rfl⟩
  · refine And.intro hq ?_
    refine Ex_v (As := [vI (I q 2)]) (st := []) (d' := 0) vX3_173 rfl rfl (e3_numberOf hC he) (hC.1 3 _ rfl).2.1 hd rfl (dc_ok oX3_operandOf rfl) ?_
    refine Ex_wx [] 9 oX3_operandOf hC.1 ?_
    exact ⟨by unfold opF; rw [if_neg c], rfl, rfl, rfl⟩
theorem e3_answer {x : Int32} (hC : Cm lx ly g) (hM : Mch I lim e env t) (h3 : t < 3100) (hd : 1 ≤ d) : Mx mX3_answer d 0 0 [vS 3, vI x] g I L (qV (some (vI 0)) g (pushI I t x 0 (mE.s e) (mE.l e)) L) := by
  refine Mx_in (by decide +kernel) rfl rfl (Ex_wx [] 9 oX3_answer hC.1 ?_)
  refine Ex_v (As := [vI x, vI 0, vI (I 3 4), vI (I 3 5)]) (st := []) (d' := 0) vX3_203 rfl rfl (e5_push hC.1 hM.2.2.2.2.2.2.2.2.2.2 h3 (Or.inl rfl)) (hC.1 4 _ rfl).2.1 hd rfl (dc_ok oX3_answer rfl) ?_
  rw [hM.2.2.1, hM.2.2.2.1]
  refine Ex_wx [] 9 oX3_answer hC.1 ?_
  refine And.intro (fun c => absurd c (by decide)) (fun _ => ?_)
  exact ⟨rfl, rfl, rfl, rfl⟩
end Mac
