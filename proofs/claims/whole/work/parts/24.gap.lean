/-! closeGap -/
abbrev mR : Type := Int32 × Int32 × Int32 × Int32
def resAt (I : aI) (k : Nat) : mR := (I 5 k, I 6 k, I 7 k, I 8 k)
theorem resAt_push {I : aI} {t k : Nat} {x e s l : Int32} : resAt (pushI I t x e s l) k = if k = t then (x, e, s, l) else resAt I k := by
  unfold resAt pushI up2
  by_cases h : k = t <;> simp [h]
theorem push_top {I : aI} {t : Nat} {x e s l : Int32} : pushI I t x e s l 4 4 = nI (t + 1) := by simp [pushI, up2]
theorem push_else {I : aI} {t i : Nat} {x e s l : Int32} (h : i < 4 ∨ 8 < i) : pushI I t x e s l i = I i := by
  funext k
  unfold pushI up2
  rw [if_neg (by omega), if_neg (by omega), if_neg (by omega), if_neg (by omega), if_neg (by omega)]
theorem cut_res {I : aI} {k : Nat} {x : Int32} : resAt (up2 I 4 4 x) k = resAt I k := by simp [resAt, up2]
theorem cut_else {I : aI} {i : Nat} {x : Int32} (h : i < 4 ∨ 8 < i) : up2 I 4 4 x i = I i := by
  funext k
  unfold up2
  rw [if_neg (by omega)]
def gapP (I I' : aI) (base fr t : Nat) : Prop := I' 4 4 = nI (base + (t - fr)) ∧ (∀ k, k < base → resAt I' k = resAt I k) ∧ (∀ j, j < t - fr → resAt I' (base + j) = resAt I (fr + j)) ∧ ∀ i, i < 4 ∨ 8 < i → I' i = I i
section Gap
variable {lx ly : Nat} {g : aG} {I : aI} {L : aL} {d t base fr : Nat}
theorem e5_gapL (hw : WS lx ly g) (h3 : t ≤ 3100) (hb : base ≤ fr) (hd : 1 ≤ d) (he : ∀ k, fr ≤ k → k < t → I 6 k = 0 ∨ I 6 k = 1) : ∀ (n i : Nat) (I1 : aI), t - i = n → fr ≤ i → i ≤ t → I1 4 4 = nI (base + (i - fr)) → (∀ k, k < base → resAt I1 k = resAt I k) → (∀ j, j < i - fr → resAt I1 (base + j) = resAt I (fr + j)) → (∀ k, i ≤ k → resAt I1 k = resAt I k) → (∀ i, i < 4 ∨ 8 < i → I1 i = I i) →
    Ex mX5_closeGap d 0 0 (fun o g' I' L' => o = .inl none ∧ g' = g ∧ L' = L ∧ gapP I I' base fr t) 23 [some (vS 4), some (vI (nI base)), some (vI (nI fr)), some (vI (nI t)), some (vI (nI i))] [] g I1 L := by
  intro n
  induction n with
  | zero =>
    intro i I1 hn hi1 hi2 j1 j2 j3 j4 j5
    have : i = t := by omega
    subst this
    refine Ex_wx [] 9 oX5_closeGap hw ?_
    refine And.intro (fun _ => ?_) (fun c => absurd (Int32.le_refl _) c)
    exact ⟨rfl, rfl, rfl, j1, j2, j3, j5⟩
  | succ n ih =>
    intro i I1 hn hi1 hi2 j1 j2 j3 j4 j5
    refine Ex_wx [] 9 oX5_closeGap hw ?_
    refine And.intro (fun c => absurd (leN c (by omega) (by omega)) (by omega)) (fun _ => ?_)
    have hc : (nI i).toNatClampNeg = i := clN (by omega)
    have hv : vp_in (nI i) 3100 := inN (by omega) (by omega)
    refine And.intro hv (And.intro hv (And.intro hv (And.intro hv ?_)))
    have h6 : I1 6 i = 0 ∨ I1 6 i = 1 := by
      have h7 := j4 i (Nat.le_refl i)
      have h8 : I1 6 i = I 6 i := congrArg (fun r : mR => r.2.1) h7
      rw [h8]; exact he i hi1 (by omega)
    refine Ex_v (As := [vI (I1 5 (nI i).toNatClampNeg), vI (I1 6 (nI i).toNatClampNeg), vI (I1 7 (nI i).toNatClampNeg), vI (I1 8 (nI i).toNatClampNeg)]) (st := []) (d' := 0) vX5_48 rfl rfl (e5_push hw j1 (by omega) (by rw [hc]; exact h6)) (hw 4 _ rfl).2.1 hd rfl (dc_ok oX5_closeGap rfl) ?_
    rw [hc]
    refine Ex_wx [23] 9 oX5_closeGap hw ?_
    have e1 : nI i + 1 = nI (i + 1) := nI_1 i
    show Ex mX5_closeGap d 0 0 _ 23 [some (vS 4), some (vI (nI base)), some (vI (nI fr)), some (vI (nI t)), some (vI (nI i + 1))] [] g (pushI I1 (base + (i - fr)) (I1 5 i) (I1 6 i) (I1 7 i) (I1 8 i)) L
    rw [e1]
    refine ih (i + 1) _ (by omega) (by omega) (by omega) ?_ ?_ ?_ ?_ ?_
    · rw [push_top]; congr 1; omega
    · intro k hk; rw [resAt_push, if_neg (by omega)]; exact j2 k hk
    · intro j hj
      rw [resAt_push]
      by_cases hj2 : base + j = base + (i - fr)
      · rw [if_pos hj2]
        have : j = i - fr := by omega
        subst this
        rw [show fr + (i - fr) = i by omega]
        exact j4 i (Nat.le_refl i)
      · rw [if_neg hj2]; exact j3 j (by omega)
    · intro k hk; rw [resAt_push, if_neg (by omega)]; exact j4 k (by omega)
    · intro i' hi'; rw [push_else hi']; exact j5 i' hi'
theorem e5_closeGap (hw : WS lx ly g) (ht : I 4 4 = nI t) (h3 : t ≤ 3100) (hb : base ≤ fr) (hf : fr ≤ t) (hd : 1 ≤ d) (he : ∀ k, fr ≤ k → k < t → I 6 k = 0 ∨ I 6 k = 1) : Mx mX5_closeGap d 0 0 [vS 4, vI (nI base), vI (nI fr)] g I L (fun o g' I' L' => o = .inl none ∧ g' = g ∧ L' = L ∧ gapP I I' base fr t) := by
  refine Mx_in (by decide +kernel) rfl rfl (Ex_wx [] 9 oX5_closeGap hw ?_)
  refine Ex_s (As := [vI (I 4 4), vI 3100]) (st := []) (d' := 0) sX5_52 rfl rfl (e_min hw) hd rfl (dc_ok oX5_closeGap rfl) ?_
  rw [if_neg (by rw [ht]; exact nI_nlt (b := t) (a := 3100) h3 (by omega)), ht]
  refine Ex_wx [] 9 oX5_closeGap hw ?_
  refine Ex_v (As := [vI (nI base)]) (st := []) (d' := 0) vX5_58 rfl rfl (e5_cutTo hw ht h3 (by omega)) (hw 4 _ rfl).2.1 hd rfl (dc_ok oX5_closeGap rfl) ?_
  refine Ex_wx [] 9 oX5_closeGap hw ?_
  refine Ex_s (As := [vI 0, vI (nI fr)]) (st := []) (d' := 0) sX5_62 rfl rfl (e_max hw) hd rfl (dc_ok oX5_closeGap rfl) ?_
  have hm : (if (0 : Int32) < nI fr then nI fr else 0) = nI fr := by
    by_cases h0 : fr = 0
    · subst h0; rfl
    · rw [if_pos (show (0 : Int32) < nI fr from nI_lt (a := 0) (b := fr) (by omega) (by omega))]
  rw [hm]
  refine Ex_bn 1 oX5_closeGap hw ?_
  refine e5_gapL hw h3 hb hd he (t - fr) fr _ rfl (Nat.le_refl _) hf ?_ ?_ ?_ ?_ ?_
  · rw [Nat.sub_self]; exact up2_s
  · intro k _; exact cut_res
  · intro j hj; omega
  · intro k _; exact cut_res
  · intro i hi; exact cut_else hi
end Gap
