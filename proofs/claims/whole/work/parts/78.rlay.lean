/-! the reference: laying by what is kept -/
def SpT (I : aI) (k : Nat) (R : aRw) : Prop := I 366 k = R.2 0 ∧ I 365 k = R.2 1 ∧ I 367 k = R.2 2 ∧ I 368 k = R.2 3 ∧ I 369 k = R.2 4 ∧ ∀ i, i < R.1 → I 370 (60 * k + i) = R.2 (5 + i)
def SpR (I : aI) (p : Nat → Int32) (q : mO) : Prop := I 363 0 = ansO q ∧ (¬ q.1 = 2 → (∀ i, i < 5 → I 363 (1 + i) = (comO p q).2 i) ∧ ∀ i, i < (comO p q).1 → I 364 i = (comO p q).2 (5 + i)) ∧ (q.1 = 0 → ∀ (k : Nat) (r : mR), q.2.1[k]? = some r → SpT I k (resG p q.2.2 r))
def ql (p : Nat → Int32) (q : mO) : Prop := (q.1 = 0 → q.2.1.length ≤ 50) ∧ (¬ q.1 = 2 → LenOk ((comO p q).2 4) (comO p q).1 ∧ (comO p q).1 ≤ 60) ∧ (q.1 = 0 → ∀ (k : Nat) (r : mR), q.2.1[k]? = some r → LenOk ((resG p q.2.2 r).2 4) (resG p q.2.2 r).1 ∧ (resG p q.2.2 r).1 ≤ 60)
theorem len_lt {x : Int32} {m j : Nat} (h : LenOk x m) (hj : j ≤ 60) : nI j < x ↔ j < m := by
  rcases h with ⟨rfl, h6⟩ | ⟨rfl, rfl⟩
  · exact ⟨fun c => ltN c (by omega) (by omega), fun c => nI_lt c (by omega)⟩
  · refine ⟨fun c => ?_, fun c => by omega⟩
    have h3 := Int32.lt_iff_toInt_lt.mp c
    rw [nI_toInt (by omega)] at h3
    have e1 : (-1 : Int32).toInt = -1 := rfl
    omega
theorem SpT.eq {I I' : aI} {k k' : Nat} {R : aRw} (h : SpT I k R) (q : ∀ i c, ¬ ((365 ≤ i ∧ i ≤ 369 ∧ c = k') ∨ (i = 370 ∧ 60 * k' ≤ c ∧ c < 60 * k' + 60)) → I' i c = I i c) (hk : k ≠ k') (h6 : R.1 ≤ 60) : SpT I' k R := by
  obtain ⟨h1, h2, h3, h4, h5, h7⟩ := h
  refine ⟨?_, ?_, ?_, ?_, ?_, fun i hi => ?_⟩
  · rw [q _ _ (by omega)]; exact h1
  · rw [q _ _ (by omega)]; exact h2
  · rw [q _ _ (by omega)]; exact h3
  · rw [q _ _ (by omega)]; exact h4
  · rw [q _ _ (by omega)]; exact h5
  · rw [q _ _ (by omega)]; exact h7 i hi
section RLay
variable {lx ly : Nat} {g : aG} {I : aI} {L : aL} {d : Nat} {p : Nat → Int32} {q : mO} {Q : aQ}
theorem r_layB {I1 : aI} {k : Nat} {R : aRw} {v2 v3 : Option aV} (hw : WS lx ly g) (hk : k < 50) (hn : ∃ n, I1 354 1 = nI n ∧ k < n ∧ n ≤ 50) (hK : KtR I1 (50 + k) R) (hl : LenOk (R.2 4) R.1 ∧ R.1 ≤ 60) (hb : (R.2 1 = 0 ∨ R.2 1 = 1) ∧ (R.2 2 = 0 ∨ R.2 2 = 1))
    (hfin : ∀ (J : aI) (u2 u3 : Option aV), (∀ i c, ¬ ((365 ≤ i ∧ i ≤ 369 ∧ c = k) ∨ (i = 370 ∧ 60 * k ≤ c ∧ c < 60 * k + 60)) → J i c = I1 i c) → SpT J k R → Ex mX9_lay d 0 0 Q 60 [some (vS 328), some (vI (nI (k + 1))), u2, u3] [] g J L) :
    Ex mX9_lay d 0 0 Q 60 [some (vS 328), some (vI (nI k)), v2, v3] [] g I1 L := by
  obtain ⟨n, en, hkn, hn5⟩ := hn
  obtain ⟨t0, t1, t2, t3, t4, t5⟩ := hK
  obtain ⟨l1, l2⟩ := hl
  generalize hi0 : 50 + k = i0 at *
  -- the inner loop
  have hin : ∀ (m j : Nat) (J : aI), j + m = R.1 → (∀ i c, ¬ ((365 ≤ i ∧ i ≤ 369 ∧ c = k) ∨ (i = 370 ∧ 60 * k ≤ c ∧ c < 60 * k + 60)) → J i c = I1 i c) → (J 366 k = R.2 0 ∧ J 365 k = R.2 1 ∧ J 367 k = R.2 2 ∧ J 368 k = R.2 3 ∧ J 369 k = R.2 4 ∧ ∀ i, i < j → J 370 (60 * k + i) = R.2 (5 + i)) →
      Ex mX9_lay d 0 0 Q 137 [some (vS 328), some (vI (nI k)), some (vI (nI i0)), some (vI (nI j))] [] g J L := by
    intro m
    induction m with
    | zero =>
      intro j J hj hJ hf
      have ej : j = R.1 := by omega
      subst ej
      refine Ex_wx [175, 147] 9 oX9_lay hw ?_
      refine And.intro (inN (by omega) (by omega)) ?_
      rw [clN (by omega), hJ 359 i0 (by omega), t4]
      refine And.intro (fun _ => ?_) (fun c => ?_)
      · refine Ex_wx [60] 9 oX9_lay hw ?_
        show Ex mX9_lay d 0 0 Q 60 [some (vS 328), some (vI (nI k + 1)), some (vI (nI i0)), some (vI (nI R.1))] [] g J L
        rw [← nI_succ]
        exact hfin J _ _ hJ hf
      · exact absurd ((len_lt l1 (by omega)).mp (Int32.not_le.mp c)) (Nat.lt_irrefl _)
    | succ m ih =>
      intro j J hj hJ ⟨f0, f1, f2, f3, f4, f5⟩
      refine Ex_wx [175, 147] 9 oX9_lay hw ?_
      refine And.intro (inN (by omega) (by omega)) ?_
      rw [clN (by omega), hJ 359 i0 (by omega), t4]
      refine And.intro (fun c => absurd ((len_lt l1 (by omega)).mpr (show j < R.1 by omega)) (Int32.not_lt.mpr c)) (fun _ => ?_)
      have e1 : (60 : Int32) * nI k + nI j = nI (60 * k + j) := by rw [show (60 : Int32) * nI k = nI (60 * k) from nI_mul 60 k, nI_add]
      have e2 : (60 : Int32) * nI i0 + nI j = nI (60 * i0 + j) := by rw [show (60 : Int32) * nI i0 = nI (60 * i0) from nI_mul 60 i0, nI_add]
      refine Ex_wx [137] 12 oX9_lay hw ?_
      refine And.intro (by rw [e2]; exact inN (by omega) (by omega)) ?_
      refine And.intro (by rw [e1]; exact inN (by omega) (by omega)) ?_
      show Ex mX9_lay d 0 0 Q 137 [some (vS 328), some (vI (nI k)), some (vI (nI i0)), some (vI (nI j + 1))] [] g (up2 J 370 (60 * nI k + nI j).toNatClampNeg (J 360 (60 * nI i0 + nI j).toNatClampNeg)) L
      rw [e1, e2, clN (by omega), clN (by omega), ← nI_succ]
      refine ih (j + 1) _ (by omega) (fun i c hc => ?_) ⟨?_, ?_, ?_, ?_, ?_, fun i hi => ?_⟩
      · rw [up2_n (by omega)]; exact hJ i c hc
      · rw [up2_i (by omega)]; exact f0
      · rw [up2_i (by omega)]; exact f1
      · rw [up2_i (by omega)]; exact f2
      · rw [up2_i (by omega)]; exact f3
      · rw [up2_i (by omega)]; exact f4
      · by_cases c : i = j
        · subst c
          rw [up2_s, hJ 360 _ (by omega)]
          exact t5 i (by omega)
        · rw [up2_k (by omega)]; exact f5 i (by omega)
  refine Ex_wx [181, 70] 9 oX9_lay hw ?_
  refine And.intro (show vp_in (nI 1) 2 from inN (by omega) (by omega)) ?_
  have e354 : I1 354 (1 : Int32).toNatClampNeg = nI n := en
  rw [e354]
  refine And.intro (fun c => absurd c (nI_ge hkn (by omega))) (fun _ => ?_)
  refine Ex_bn 4 oX9_lay hw ?_
  show Ex mX9_lay d 0 0 Q 75 [some (vS 328), some (vI (nI k)), some (vI (50 + nI k)), v3] [] g I1 L
  rw [show (50 : Int32) + nI k = nI (50 + k) from nI_add 50 k, hi0]
  have e355 : I1 355 (nI i0).toNatClampNeg = R.2 1 := by rw [clN (by omega)]; exact t1
  -- five copies
  refine Ex_bn 8 oX9_lay hw ?_
  refine And.intro (inN (by omega) (by omega)) ?_
  refine And.intro ⟨inN (by omega) (by omega), by rw [e355]; exact hb.1⟩ ?_
  rw [e355, clN (k := k) (by omega)]
  refine Ex_bn 8 oX9_lay hw ?_
  refine And.intro (inN (by omega) (by omega)) ?_
  refine And.intro (inN (by omega) (by omega)) ?_
  rw [clN (k := k) (by omega), clN (k := i0) (by omega), up2_i (i := 365) (j := 356) (by omega), t0]
  refine Ex_bn 8 oX9_lay hw ?_
  refine And.intro (inN (by omega) (by omega)) ?_
  have e357 : up2 (up2 I1 365 k (R.2 1)) 366 k (R.2 0) 357 (nI i0).toNatClampNeg = R.2 2 := by rw [clN (by omega), up2_i (by omega), up2_i (by omega)]; exact t2
  refine And.intro ⟨inN (by omega) (by omega), by rw [e357]; exact hb.2⟩ ?_
  rw [e357, clN (k := k) (by omega)]
  refine Ex_bn 8 oX9_lay hw ?_
  refine And.intro (inN (by omega) (by omega)) ?_
  refine And.intro (inN (by omega) (by omega)) ?_
  have e358 : up2 (up2 (up2 I1 365 k (R.2 1)) 366 k (R.2 0)) 367 k (R.2 2) 358 (nI i0).toNatClampNeg = R.2 3 := by rw [clN (by omega), up2_i (by omega), up2_i (by omega), up2_i (by omega)]; exact t3
  rw [e358, clN (k := k) (by omega)]
  refine Ex_bn 10 oX9_lay hw ?_
  refine And.intro (inN (by omega) (by omega)) ?_
  refine And.intro (inN (by omega) (by omega)) ?_
  have e359 : up2 (up2 (up2 (up2 I1 365 k (R.2 1)) 366 k (R.2 0)) 367 k (R.2 2)) 368 k (R.2 3) 359 (nI i0).toNatClampNeg = R.2 4 := by rw [clN (by omega), up2_i (by omega), up2_i (by omega), up2_i (by omega), up2_i (by omega)]; exact t4
  rw [e359, clN (k := k) (by omega)]
  refine hin R.1 0 _ (Nat.zero_add _) (fun i c hc => ?_) ⟨?_, ?_, ?_, ?_, up2_s, fun i hi => by omega⟩
  · rw [up2_n (by omega), up2_n (by omega), up2_n (by omega), up2_n (by omega), up2_n (by omega)]
  · rw [up2_i (by omega), up2_i (by omega), up2_i (by omega), up2_s]
  · rw [up2_i (by omega), up2_i (by omega), up2_i (by omega), up2_i (by omega), up2_s]
  · rw [up2_i (by omega), up2_i (by omega), up2_s]
  · rw [up2_i (by omega), up2_s]
theorem r_lay (hw : WS lx ly g) (hK : KeptR I 1 p q) (hq : ql p q) : Mx mX9_lay d 0 0 [vS 328] g I L (rQ g L (fun I' => SpR I' p q ∧ ∀ i c, i < 363 ∨ 370 < i → I' i c = I i c)) := by
  obtain ⟨k1, k2, k3, k4⟩ := hK
  obtain ⟨q1, q2, q3⟩ := hq
  have h60 : ∀ (m k : Nat) (J : aI) (v2 v3 : Option aV), k + m = (if q.1 = 0 then q.2.1.length else 0) → (∀ i c, i < 363 ∨ 370 < i → J i c = I i c) → (∀ j, j < 6 → J 363 j = I 361 (6 + j)) → (∀ j, j < 60 → J 364 j = I 362 (60 + j)) → (∀ (j : Nat) (r : mR), j < k → q.1 = 0 → q.2.1[j]? = some r → SpT J j (resG p q.2.2 r)) →
      Ex mX9_lay d 0 0 (rQ g L (fun I' => SpR I' p q ∧ ∀ i c, i < 363 ∨ 370 < i → I' i c = I i c)) 60 [some (vS 328), some (vI (nI k)), v2, v3] [] g J L := by
    intro m
    induction m with
    | zero =>
      intro k J v2 v3 hk hf f3 f4 f5
      refine Ex_wx [181, 70] 9 oX9_lay hw ?_
      refine And.intro (show vp_in (nI 1) 2 from inN (by omega) (by omega)) ?_
      have e354 : J 354 (1 : Int32).toNatClampNeg = nI k := by
        show J 354 1 = nI k
        rw [hf _ _ (by omega), k1, ← hk]; rfl
      rw [e354]
      refine And.intro (fun _ => ?_) (fun c => absurd (Int32.le_refl _) c)
      refine Ex_wx [] 9 oX9_lay hw ?_
      refine ⟨rfl, rfl, rfl, ⟨?_, fun c => ⟨fun i hi => ?_, fun i hi => ?_⟩, fun c j r hj => ?_⟩, hf⟩
      · rw [f3 0 (by omega)]; exact k2
      · rw [f3 (1 + i) (by omega)]
        have := (k3 c).1 i hi
        rw [show 6 * 1 + (1 + i) = 6 + (1 + i) by omega] at this
        exact this
      · have l6 := (q2 c).2
        rw [f4 i (by omega)]
        exact (k3 c).2 i hi
      · refine f5 j r ?_ c hj
        rw [if_pos c] at hk
        have := (List.getElem?_eq_some_iff.mp hj).1
        omega
    | succ m ih =>
      intro k J v2 v3 hk hf f3 f4 f5
      by_cases c : q.1 = 0
      rotate_left
      · rw [if_neg c] at hk; omega
      rw [if_pos c] at hk
      have h50 := q1 c
      have hkl : k < q.2.1.length := by omega
      obtain ⟨r, hr⟩ : ∃ r, q.2.1[k]? = some r := ⟨_, List.getElem?_eq_getElem hkl⟩
      obtain ⟨a0, a1, a2, a3, a4, a5⟩ := k4 c k r hr
      obtain ⟨l1, l2⟩ := q3 c k r hr
      rw [show 50 * 1 + k = 50 + k by omega] at a0 a1 a2 a3 a4 a5
      refine r_layB (R := resG p q.2.2 r) hw (by omega) ⟨q.2.1.length, by rw [hf _ _ (by omega), k1, if_pos c], hkl, h50⟩ ⟨?_, ?_, ?_, ?_, ?_, fun i hi => ?_⟩ ⟨l1, l2⟩ ⟨bI_or _, bI_or _⟩ ?_
      · rw [hf _ _ (by omega)]; exact a0
      · rw [hf _ _ (by omega)]; exact a1
      · rw [hf _ _ (by omega)]; exact a2
      · rw [hf _ _ (by omega)]; exact a3
      · rw [hf _ _ (by omega)]; exact a4
      · rw [hf _ _ (by omega)]; exact a5 i hi
      intro J2 u2 u3 hJ2 hS
      refine ih (k + 1) J2 u2 u3 (by rw [if_pos c]; omega) (fun i e he => by rw [hJ2 i e (by omega)]; exact hf i e he) (fun j hj => by rw [hJ2 _ _ (by omega)]; exact f3 j hj) (fun j hj => by rw [hJ2 _ _ (by omega)]; exact f4 j hj) (fun j r' hj hc hr' => ?_)
      by_cases e : j = k
      · subst e
        rw [hr] at hr'
        cases hr'
        exact hS
      · exact (f5 j r' (by omega) hc hr').eq hJ2 e (q3 c j r' hr').2
  have h31 : ∀ (m k : Nat) (J : aI), k + m = 60 → (∀ i c, i < 363 ∨ 370 < i → J i c = I i c) → (∀ j, j < 6 → J 363 j = I 361 (6 + j)) → (∀ j, j < k → J 364 j = I 362 (60 + j)) →
      Ex mX9_lay d 0 0 (rQ g L (fun I' => SpR I' p q ∧ ∀ i c, i < 363 ∨ 370 < i → I' i c = I i c)) 31 [some (vS 328), some (vI (nI k)), none, none] [] g J L := by
    intro m
    induction m with
    | zero =>
      intro k J hk hf f3 f4
      have ek : k = 60 := by omega
      subst ek
      refine Ex_wx [58, 37] 9 oX9_lay hw ?_
      refine And.intro (fun _ => ?_) (fun c => absurd (by decide) c)
      refine Ex_bn 2 oX9_lay hw ?_
      exact h60 _ 0 J none none (Nat.zero_add _) hf f3 f4 (fun j r hj => by omega)
    | succ m ih =>
      intro k J hk hf f3 f4
      refine Ex_wx [58, 37] 9 oX9_lay hw ?_
      refine And.intro (fun c => absurd (show nI 60 ≤ nI k from c) (nI_ge (by omega) (by omega))) (fun _ => ?_)
      refine Ex_wx [31] 9 oX9_lay hw ?_
      refine And.intro (idxV (a := 60) (by omega) (by omega)) ?_
      refine And.intro (inN (by omega) (by omega)) ?_
      have ix : ((60 : Int32) + nI k).toNatClampNeg = 60 + k := idxN (a := 60) (by omega)
      show Ex mX9_lay d 0 0 _ 31 [some (vS 328), some (vI (nI k + 1)), none, none] [] g (up2 J 364 (nI k).toNatClampNeg (J 362 ((60 : Int32) + nI k).toNatClampNeg)) L
      rw [ix, clN (by omega), ← nI_succ]
      refine ih (k + 1) _ (by omega) (fun i c hc => by rw [up2_i (by omega)]; exact hf i c hc) (fun j hj => by rw [up2_i (by omega)]; exact f3 j hj) (fun j hj => ?_)
      by_cases e : j = k
      · subst e
        rw [up2_s]; exact hf _ _ (by omega)
      · rw [up2_k e]; exact f4 j (by omega)
  have h2 : ∀ (m k : Nat) (J : aI), k + m = 6 → (∀ i c, i < 363 ∨ 370 < i → J i c = I i c) → (∀ j, j < k → J 363 j = I 361 (6 + j)) →
      Ex mX9_lay d 0 0 (rQ g L (fun I' => SpR I' p q ∧ ∀ i c, i < 363 ∨ 370 < i → I' i c = I i c)) 2 [some (vS 328), some (vI (nI k)), none, none] [] g J L := by
    intro m
    induction m with
    | zero =>
      intro k J hk hf f3
      have ek : k = 6 := by omega
      subst ek
      refine Ex_wx [29, 8] 9 oX9_lay hw ?_
      refine And.intro (fun _ => ?_) (fun c => absurd (by decide) c)
      refine Ex_bn 2 oX9_lay hw ?_
      exact h31 60 0 J rfl hf f3 (fun j hj => by omega)
    | succ m ih =>
      intro k J hk hf f3
      refine Ex_wx [29, 8] 9 oX9_lay hw ?_
      refine And.intro (fun c => absurd (show nI 6 ≤ nI k from c) (nI_ge (by omega) (by omega))) (fun _ => ?_)
      refine Ex_wx [2] 9 oX9_lay hw ?_
      refine And.intro (idxV (a := 6) (by omega) (by omega)) ?_
      refine And.intro (inN (by omega) (by omega)) ?_
      have ix : ((6 : Int32) + nI k).toNatClampNeg = 6 + k := idxN (a := 6) (by omega)
      show Ex mX9_lay d 0 0 _ 2 [some (vS 328), some (vI (nI k + 1)), none, none] [] g (up2 J 363 (nI k).toNatClampNeg (J 361 ((6 : Int32) + nI k).toNatClampNeg)) L
      rw [ix, clN (by omega), ← nI_succ]
      refine ih (k + 1) _ (by omega) (fun i c hc => by rw [up2_i (by omega)]; exact hf i c hc) (fun j hj => ?_)
      by_cases e : j = k
      · subst e
        rw [up2_s]; exact hf _ _ (by omega)
      · rw [up2_k e]; exact f3 j (by omega)
  refine Mx_in (by decide +kernel) rfl rfl (Ex_bn 2 oX9_lay hw ?_)
  exact h2 6 0 I rfl (fun _ _ _ => rfl) (fun j hj => by omega)
end RLay
