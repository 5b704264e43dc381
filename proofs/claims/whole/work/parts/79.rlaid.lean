/-! the reference: is what is kept as what was laid by -/
section RLaid
variable {lx ly : Nat} {g : aG} {I : aI} {L : aL} {d : Nat} {p : Nat → Int32} {q q' : mO}
theorem r_isAsLaid (hw : WS lx ly g) (hS : SpR I p q) (hK : KeptR I 1 p q') (hq : ql p q) (hq' : ql p q') (h2 : q.1 ≤ 2) (h2' : q'.1 ≤ 2) : Mx mX9_isAsLaid d 0 0 [vS 328] g I L (lQ (likeO p q q') g I L) := by
  obtain ⟨s1, s2, s3⟩ := hS
  obtain ⟨k1, k2, k3, k4⟩ := hK
  obtain ⟨a1, a2, a3⟩ := hq
  obtain ⟨a1', a2', a3'⟩ := hq'
  generalize hQ : lQ (likeO p q q') g I L = Q
  -- where it is not so
  have f276 : ¬ likeO p q q' → ∀ u2 u3 u4, Ex mX9_isAsLaid d 0 0 Q 276 [some (vS 328), some (vI 0), u2, u3, u4] [] g I L := by
    intro hn u2 u3 u4
    refine Ex_wx [] 9 oX9_isAsLaid hw ?_
    rw [← hQ]
    exact ⟨Or.inl rfl, rfl, rfl, rfl, Or.inr ⟨rfl, hn⟩⟩
  have f113 : ¬ likeO p q q' → ∀ u2 u3 u4, Ex mX9_isAsLaid d 0 0 Q 113 [some (vS 328), some (vI 0), u2, u3, u4] [] g I L := by
    intro hn u2 u3 u4
    refine Ex_wx [276, 117] 9 oX9_isAsLaid hw ?_
    exact And.intro (fun _ => f276 hn _ _ _) (fun c => absurd rfl c)
  have f66 : ¬ likeO p q q' → ∀ u2 u3 u4, Ex mX9_isAsLaid d 0 0 Q 66 [some (vS 328), some (vI 0), u2, u3, u4] [] g I L := by
    intro hn u2 u3 u4
    refine Ex_wx [111, 70] 9 oX9_isAsLaid hw ?_
    refine And.intro (fun _ => ?_) (fun c => absurd rfl c)
    refine Ex_bn 2 oX9_isAsLaid hw ?_
    exact f113 hn _ _ _
  have f19 : ¬ likeO p q q' → ∀ (m k : Nat) u3 u4, k + m = 6 → Ex mX9_isAsLaid d 0 0 Q 19 [some (vS 328), some (vI 0), some (vI (nI k)), u3, u4] [] g I L := by
    intro hn m
    induction m with
    | zero =>
      intro k u3 u4 hk
      have ek : k = 6 := by omega
      subst ek
      refine Ex_wx [64, 25] 9 oX9_isAsLaid hw ?_
      refine And.intro (fun _ => ?_) (fun c => absurd (by decide) c)
      refine Ex_bn 2 oX9_isAsLaid hw ?_
      exact f66 hn _ _ _
    | succ m ih =>
      intro k u3 u4 hk
      refine Ex_wx [64, 25] 9 oX9_isAsLaid hw ?_
      refine And.intro (fun c => absurd (show nI 6 ≤ nI k from c) (nI_ge (by omega) (by omega))) (fun _ => ?_)
      refine Ex_wx [56, 29] 9 oX9_isAsLaid hw ?_
      refine And.intro (fun _ => ?_) (fun c => absurd rfl c)
      refine Ex_wx [19] 9 oX9_isAsLaid hw ?_
      show Ex mX9_isAsLaid d 0 0 Q 19 [some (vS 328), some (vI 0), some (vI (nI k + 1)), u3, u4] [] g I L
      rw [← nI_succ]
      exact ih (k + 1) u3 u4 (by omega)
  have f270 : ¬ likeO p q q' → ∀ (k : Nat) u3 u4, Ex mX9_isAsLaid d 0 0 Q 270 [some (vS 328), some (vI 0), some (vI (nI k)), u3, u4] [] g I L := by
    intro hn k u3 u4
    refine Ex_wx [113] 9 oX9_isAsLaid hw ?_
    exact f113 hn _ _ _
  have f216 : ¬ likeO p q q' → ∀ (k : Nat) u3 u4, Ex mX9_isAsLaid d 0 0 Q 216 [some (vS 328), some (vI 0), some (vI (nI k)), u3, u4] [] g I L := by
    intro hn k u3 u4
    refine Ex_wx [270, 220] 9 oX9_isAsLaid hw ?_
    exact And.intro (fun _ => f270 hn _ _ _) (fun c => absurd rfl c)
  have f211 : ¬ likeO p q q' → ∀ (k : Nat) u1 u3 u4, Ex mX9_isAsLaid d 0 0 Q 211 [some (vS 328), u1, some (vI (nI k)), u3, u4] [] g I L := by
    intro hn k u1 u3 u4
    refine Ex_bn 4 oX9_isAsLaid hw ?_
    exact f216 hn _ _ _
  -- what being alike asks of the first six
  have L1 : likeO p q q' → ∀ j, j < 6 → j ≠ 2 → I 363 j = I 361 (6 + j) := by
    rintro ⟨c1, c2, c3, -⟩ j hj hj2
    have c1' : ¬ q'.1 = 2 := fun z => c1 (by
      have := (ans_3 a1).mp (c2.trans ((ans_3 a1').mpr (by omega)))
      omega)
    have hs := (s2 c1).1
    have hk := (k3 c1').1
    match j, hj, hj2 with
    | 0, _, _ => rw [s1]; exact c2.trans k2.symm
    | j + 1, hj, hj2 =>
      have e1 := hs j (by omega)
      have e2 := hk j (by omega)
      rw [show 6 * 1 + (1 + j) = 6 + (j + 1) by omega] at e2
      rw [show 1 + j = j + 1 by omega] at e1
      rw [e1, e2]
      exact c3 j (by omega) (fun z => by have := eqN (show nI j = nI 1 from z) (by omega) (by omega); omega)
  -- the last: all is alike
  have hall : likeO p q q' → ∀ u2 u3 u4, Ex mX9_isAsLaid d 0 0 Q 276 [some (vS 328), some (vI 1), u2, u3, u4] [] g I L := by
    intro hy u2 u3 u4
    refine Ex_wx [] 9 oX9_isAsLaid hw ?_
    rw [← hQ]
    exact ⟨Or.inr rfl, rfl, rfl, rfl, Or.inl ⟨rfl, hy⟩⟩
  have main : ¬ q.1 = 2 → (∀ j, j < 6 → j ≠ 2 → I 363 j = I 361 (6 + j)) → ∀ u2 u3 u4, Ex mX9_isAsLaid d 0 0 Q 64 [some (vS 328), some (vI 1), u2, u3, u4] [] g I L := by
    intro c1 h6 u2 u3 u4
    have c2 : ansO q = ansO q' := by rw [← s1, h6 0 (by omega) (by omega)]; exact k2
    have c1' : ¬ q'.1 = 2 := fun z => c1 (by
      have := (ans_3 a1).mp (c2.trans ((ans_3 a1').mpr (by omega)))
      omega)
    obtain ⟨hs, hsl⟩ := s2 c1
    obtain ⟨hk, hkl⟩ := k3 c1'
    obtain ⟨l1, l2⟩ := a2 c1
    obtain ⟨l1', l2'⟩ := a2' c1'
    have hcom : ∀ i, i < 5 → i ≠ 1 → (comO p q).2 i = (comO p q').2 i := by
      intro i hi hi1
      have e1 := hs i hi
      have e2 := hk i hi
      rw [show 6 * 1 + (1 + i) = 6 + (1 + i) by omega] at e2
      rw [← e1, ← e2]
      exact h6 (1 + i) (by omega) (by omega)
    have hm : (comO p q).1 = (comO p q').1 := by
      have e4 := hcom 4 (by omega) (by omega)
      rw [e4] at l1
      exact l1.inj l1'
    have e11 : I 361 11 = (comO p q').2 4 := hk 4 (by omega)
    -- the rows
    have h113 : likeR (comO p q) (comO p q') 1 → ∀ (m k : Nat) u3 u4, k + m = (if q'.1 = 0 then q'.2.1.length else 0) → (∀ (j : Nat) (r r' : mR), j < k → q.1 = 0 → q.2.1[j]? = some r → q'.2.1[j]? = some r' → likeR (resG p q.2.2 r) (resG p q'.2.2 r') (-1)) →
        Ex mX9_isAsLaid d 0 0 Q 113 [some (vS 328), some (vI 1), some (vI (nI k)), u3, u4] [] g I L := by
      intro hc m
      induction m with
      | zero =>
        intro k u3 u4 hk0 hj
        refine Ex_wx [276, 117] 9 oX9_isAsLaid hw ?_
        refine And.intro (fun c => absurd c (by decide)) (fun _ => ?_)
        refine Ex_wx [276, 127] 9 oX9_isAsLaid hw ?_
        refine And.intro (show vp_in (nI 1) 2 from inN (by omega) (by omega)) ?_
        have e354 : I 354 (1 : Int32).toNatClampNeg = nI k := by
          show I 354 1 = nI k
          rw [k1, ← hk0]; rfl
        rw [e354]
        refine And.intro (fun _ => hall ⟨c1, c2, hc, fun h0 j r r' e1 e2 => hj j r r' ?_ h0 e1 e2⟩ _ _ _) (fun c => absurd (Int32.le_refl _) c)
        obtain ⟨z0, zl⟩ := ans_0 a1 a1' c2 h0
        rw [if_pos z0] at hk0
        have := (List.getElem?_eq_some_iff.mp e1).1
        omega
      | succ m ih =>
        intro k u3 u4 hk0 hj
        by_cases z0' : q'.1 = 0
        rotate_left
        · rw [if_neg z0'] at hk0; omega
        rw [if_pos z0'] at hk0
        obtain ⟨z0, zl⟩ := ans_0 a1' a1 c2.symm z0'
        have h50' := a1' z0'
        have h50 := a1 z0
        obtain ⟨r, hr⟩ : ∃ r, q.2.1[k]? = some r := ⟨_, List.getElem?_eq_getElem (by omega)⟩
        obtain ⟨r', hr'⟩ : ∃ r, q'.2.1[k]? = some r := ⟨_, List.getElem?_eq_getElem (by omega)⟩
        obtain ⟨b0, b1, b2, b3, b4, b5⟩ := s3 z0 k r hr
        obtain ⟨t0, t1, t2, t3, t4, t5⟩ := k4 z0' k r' hr'
        rw [show 50 * 1 + k = 50 + k by omega] at t0 t1 t2 t3 t4 t5
        obtain ⟨n1, n2⟩ := a3 z0 k r hr
        obtain ⟨n1', n2'⟩ := a3' z0' k r' hr'
        have hno : ¬ likeR (resG p q.2.2 r) (resG p q'.2.2 r') (-1) → ¬ likeO p q q' := fun hn hy => hn (hy.2.2.2 z0 k r r' hr hr')
        have hpos : likeR (resG p q.2.2 r) (resG p q'.2.2 r') (-1) → ∀ u3 u4, Ex mX9_isAsLaid d 0 0 Q 270 [some (vS 328), some (vI 1), some (vI (nI k)), u3, u4] [] g I L := by
          intro hy u3 u4
          refine Ex_wx [113] 9 oX9_isAsLaid hw ?_
          show Ex mX9_isAsLaid d 0 0 Q 113 [some (vS 328), some (vI 1), some (vI (nI k + 1)), u3, u4] [] g I L
          rw [← nI_succ]
          refine ih (k + 1) u3 u4 (by rw [if_pos z0']; omega) (fun j s s' j1 j2 j3 j4 => ?_)
          by_cases cj : j = k
          · subst cj
            rw [hr] at j3; rw [hr'] at j4
            cases j3; cases j4
            exact hy
          · exact hj j s s' (by omega) j2 j3 j4
        generalize resG p q.2.2 r = R at *
        generalize resG p q'.2.2 r' = R' at *
        have ne1 : ∀ i, i < 5 → nI i ≠ -1 := by
          intro i hi c
          exact nI_pos (n := i) (by omega) (by rw [c]; decide)
        generalize hi0 : 50 + k = i0 at *
        -- the entries
        have hin : (∀ i, i < 5 → R.2 i = R'.2 i) → ∀ (m j : Nat), j + m = R'.1 → (∀ i, i < j → R.2 (5 + i) = R'.2 (5 + i)) → Ex mX9_isAsLaid d 0 0 Q 216 [some (vS 328), some (vI 1), some (vI (nI k)), some (vI (nI i0)), some (vI (nI j))] [] g I L := by
          intro h5 m
          have em : R.1 = R'.1 := by
            have e4 := h5 4 (by omega)
            rw [e4] at n1
            exact n1.inj n1'
          induction m with
          | zero =>
            intro j hjm he
            have ej : j = R'.1 := by omega
            subst ej
            refine Ex_wx [270, 220] 9 oX9_isAsLaid hw ?_
            refine And.intro (fun c => absurd c (by decide)) (fun _ => ?_)
            refine Ex_wx [270, 231] 9 oX9_isAsLaid hw ?_
            refine And.intro (inN (by omega) (by omega)) ?_
            rw [clN (by omega), t4]
            refine And.intro (fun _ => hpos (fun i hi _ => ?_) _ _) (fun c => absurd ((len_lt n1' (by omega)).mp (Int32.not_le.mp c)) (Nat.lt_irrefl _))
            by_cases c5 : i < 5
            · exact h5 i c5
            · have := he (i - 5) (by omega)
              rw [show 5 + (i - 5) = i by omega] at this
              exact this
          | succ m ih2 =>
            intro j hjm he
            refine Ex_wx [270, 220] 9 oX9_isAsLaid hw ?_
            refine And.intro (fun c => absurd c (by decide)) (fun _ => ?_)
            refine Ex_wx [270, 231] 9 oX9_isAsLaid hw ?_
            refine And.intro (inN (by omega) (by omega)) ?_
            rw [clN (by omega), t4]
            refine And.intro (fun c => absurd ((len_lt n1' (by omega)).mpr (show j < R'.1 by omega)) (Int32.not_lt.mpr c)) (fun _ => ?_)
            have e1 : (60 : Int32) * nI k + nI j = nI (60 * k + j) := by rw [show (60 : Int32) * nI k = nI (60 * k) from nI_mul 60 k, nI_add]
            have e2 : (60 : Int32) * nI i0 + nI j = nI (60 * i0 + j) := by rw [show (60 : Int32) * nI i0 = nI (60 * i0) from nI_mul 60 i0, nI_add]
            have g1 : I 370 ((60 : Int32) * nI k + nI j).toNatClampNeg = R.2 (5 + j) := by rw [e1, clN (by omega)]; exact b5 j (by omega)
            have g2 : I 360 ((60 : Int32) * nI i0 + nI j).toNatClampNeg = R'.2 (5 + j) := by rw [e2, clN (by omega)]; exact t5 j (by omega)
            refine Ex_wx [262, 263] 12 oX9_isAsLaid hw ?_
            refine And.intro (by rw [e1]; exact inN (by omega) (by omega)) ?_
            refine And.intro (by rw [e2]; exact inN (by omega) (by omega)) ?_
            rw [g1, g2]
            refine And.intro (fun c => ?_) (fun c => ?_)
            · refine Ex_wx [216] 9 oX9_isAsLaid hw ?_
              show Ex mX9_isAsLaid d 0 0 Q 216 [some (vS 328), some (vI 1), some (vI (nI k)), some (vI (nI i0)), some (vI (nI j + 1))] [] g I L
              rw [← nI_succ]
              refine ih2 (j + 1) (by omega) (fun i hi => ?_)
              by_cases ci : i = j
              · subst ci; exact c
              · exact he i (by omega)
            · refine Ex_wx [216] 9 oX9_isAsLaid hw ?_
              refine f216 (hno (fun hy => c (hy (5 + j) (by omega) ?_))) _ _ _
              intro z
              exact nI_pos (n := 5 + j) (by omega) (by rw [z]; decide)
        refine Ex_wx [276, 117] 9 oX9_isAsLaid hw ?_
        refine And.intro (fun c => absurd c (by decide)) (fun _ => ?_)
        refine Ex_wx [276, 127] 9 oX9_isAsLaid hw ?_
        refine And.intro (show vp_in (nI 1) 2 from inN (by omega) (by omega)) ?_
        have e354 : I 354 (1 : Int32).toNatClampNeg = nI q'.2.1.length := by
          show I 354 1 = _
          rw [k1, if_pos z0']
        rw [e354]
        refine And.intro (fun c => absurd c (nI_ge (by omega) (by omega))) (fun _ => ?_)
        refine Ex_bn 4 oX9_isAsLaid hw ?_
        show Ex mX9_isAsLaid d 0 0 Q 132 [some (vS 328), some (vI 1), some (vI (nI k)), some (vI (50 + nI k)), u4] [] g I L
        rw [show (50 : Int32) + nI k = nI (50 + k) from nI_add 50 k, hi0]
        refine Ex_wx [211, 147] 9 oX9_isAsLaid hw ?_
        refine And.intro (inN (by omega) (by omega)) (And.intro (inN (by omega) (by omega)) ?_)
        rw [clN (by omega), clN (by omega), b1, t1]
        refine And.intro (fun y1 => ?_) (fun c => f211 (hno (fun hy => c (hy 1 (by omega) (ne1 1 (by omega))))) _ _ _ _)
        refine Ex_wx [211, 162] 9 oX9_isAsLaid hw ?_
        refine And.intro (inN (by omega) (by omega)) (And.intro (inN (by omega) (by omega)) ?_)
        rw [clN (by omega), clN (by omega), b0, t0]
        refine And.intro (fun y0 => ?_) (fun c => f211 (hno (fun hy => c (hy 0 (by omega) (ne1 0 (by omega))))) _ _ _ _)
        refine Ex_wx [211, 177] 9 oX9_isAsLaid hw ?_
        refine And.intro (inN (by omega) (by omega)) (And.intro (inN (by omega) (by omega)) ?_)
        rw [clN (by omega), clN (by omega), b2, t2]
        refine And.intro (fun y2 => ?_) (fun c => f211 (hno (fun hy => c (hy 2 (by omega) (ne1 2 (by omega))))) _ _ _ _)
        refine Ex_wx [211, 192] 9 oX9_isAsLaid hw ?_
        refine And.intro (inN (by omega) (by omega)) (And.intro (inN (by omega) (by omega)) ?_)
        rw [clN (by omega), clN (by omega), b3, t3]
        refine And.intro (fun y3 => ?_) (fun c => f211 (hno (fun hy => c (hy 3 (by omega) (ne1 3 (by omega))))) _ _ _ _)
        refine Ex_wx [211, 207] 9 oX9_isAsLaid hw ?_
        refine And.intro (inN (by omega) (by omega)) (And.intro (inN (by omega) (by omega)) ?_)
        rw [clN (by omega), clN (by omega), b4, t4]
        refine And.intro (fun y4 => ?_) (fun c => f211 (hno (fun hy => c (hy 4 (by omega) (ne1 4 (by omega))))) _ _ _ _)
        refine Ex_wx [212] 9 oX9_isAsLaid hw ?_
        refine Ex_bn 3 oX9_isAsLaid hw ?_
        refine hin (fun i hi => ?_) R'.1 0 (Nat.zero_add _) (fun i hi => by omega)
        match i, hi with
        | 0, _ => exact y0
        | 1, _ => exact y1
        | 2, _ => exact y2
        | 3, _ => exact y3
        | 4, _ => exact y4
    -- the common log
    have h66 : ∀ (m k : Nat) u3 u4, k + m = (comO p q').1 → (∀ i, i < k → (comO p q).2 (5 + i) = (comO p q').2 (5 + i)) → Ex mX9_isAsLaid d 0 0 Q 66 [some (vS 328), some (vI 1), some (vI (nI k)), u3, u4] [] g I L := by
      intro m
      induction m with
      | zero =>
        intro k u3 u4 hk0 he
        have ek : k = (comO p q').1 := by omega
        subst ek
        refine Ex_wx [111, 70] 9 oX9_isAsLaid hw ?_
        refine And.intro (fun c => absurd c (by decide)) (fun _ => ?_)
        refine Ex_wx [111, 81] 9 oX9_isAsLaid hw ?_
        refine And.intro (show vp_in (nI 11) 12 from inN (by omega) (by omega)) ?_
        have e11' : I 361 (11 : Int32).toNatClampNeg = (comO p q').2 4 := e11
        rw [e11']
        refine And.intro (fun _ => ?_) (fun c => absurd ((len_lt l1' l2').mp (Int32.not_le.mp c)) (Nat.lt_irrefl _))
        refine Ex_bn 2 oX9_isAsLaid hw ?_
        refine h113 (fun i hi hi1 => ?_) _ 0 _ _ (Nat.zero_add _) (fun j r r' hj => by omega)
        by_cases c5 : i < 5
        · exact hcom i c5 (fun z => hi1 (by rw [z]; rfl))
        · have := he (i - 5) (by omega)
          rw [show 5 + (i - 5) = i by omega] at this
          exact this
      | succ m ih =>
        intro k u3 u4 hk0 he
        refine Ex_wx [111, 70] 9 oX9_isAsLaid hw ?_
        refine And.intro (fun c => absurd c (by decide)) (fun _ => ?_)
        refine Ex_wx [111, 81] 9 oX9_isAsLaid hw ?_
        refine And.intro (show vp_in (nI 11) 12 from inN (by omega) (by omega)) ?_
        have e11' : I 361 (11 : Int32).toNatClampNeg = (comO p q').2 4 := e11
        rw [e11']
        refine And.intro (fun c => absurd ((len_lt l1' (by omega)).mpr (show k < (comO p q').1 by omega)) (Int32.not_lt.mpr c)) (fun _ => ?_)
        have g1 : I 364 (nI k).toNatClampNeg = (comO p q).2 (5 + k) := by rw [clN (by omega)]; exact hsl k (by omega)
        have g2 : I 362 ((60 : Int32) + nI k).toNatClampNeg = (comO p q').2 (5 + k) := by
          rw [show ((60 : Int32) + nI k).toNatClampNeg = 60 + k from idxN (a := 60) (by omega)]
          have := hkl k (by omega)
          rw [show 60 * 1 + k = 60 + k by omega] at this
          exact this
        refine Ex_wx [103, 104] 9 oX9_isAsLaid hw ?_
        refine And.intro (inN (by omega) (by omega)) (And.intro (idxV (a := 60) (by omega) (by omega)) ?_)
        rw [g1, g2]
        refine And.intro (fun c => ?_) (fun c => ?_)
        · refine Ex_wx [66] 9 oX9_isAsLaid hw ?_
          show Ex mX9_isAsLaid d 0 0 Q 66 [some (vS 328), some (vI 1), some (vI (nI k + 1)), u3, u4] [] g I L
          rw [← nI_succ]
          refine ih (k + 1) u3 u4 (by omega) (fun i hi => ?_)
          by_cases ci : i = k
          · subst ci; exact c
          · exact he i (by omega)
        · refine Ex_wx [66] 9 oX9_isAsLaid hw ?_
          refine f66 (fun hy => c (hy.2.2.1 (5 + k) (by omega) (fun z => ?_))) _ _ _
          have := eqN (show nI (5 + k) = nI 1 from z) (by omega) (by omega)
          omega
    refine Ex_bn 2 oX9_isAsLaid hw ?_
    exact h66 _ 0 _ _ (Nat.zero_add _) (fun i hi => by omega)
  -- the first six
  have h19 : ¬ q.1 = 2 → ∀ (m k : Nat) u3 u4, k + m = 6 → (∀ j, j < k → j ≠ 2 → I 363 j = I 361 (6 + j)) → Ex mX9_isAsLaid d 0 0 Q 19 [some (vS 328), some (vI 1), some (vI (nI k)), u3, u4] [] g I L := by
    intro c1 m
    induction m with
    | zero =>
      intro k u3 u4 hk he
      have ek : k = 6 := by omega
      subst ek
      refine Ex_wx [64, 25] 9 oX9_isAsLaid hw ?_
      exact And.intro (fun _ => main c1 he _ _ _) (fun c => absurd (by decide) c)
    | succ m ih =>
      intro k u3 u4 hk he
      have h52 : (k ≠ 2 → I 363 k = I 361 (6 + k)) → Ex mX9_isAsLaid d 0 0 Q 52 [some (vS 328), some (vI 1), some (vI (nI k)), u3, u4] [] g I L := by
        intro hy
        refine Ex_wx [57] 9 oX9_isAsLaid hw ?_
        refine Ex_wx [19] 9 oX9_isAsLaid hw ?_
        show Ex mX9_isAsLaid d 0 0 Q 19 [some (vS 328), some (vI 1), some (vI (nI k + 1)), u3, u4] [] g I L
        rw [← nI_succ]
        refine ih (k + 1) u3 u4 (by omega) (fun j hj hj2 => ?_)
        by_cases cj : j = k
        · subst cj; exact hy hj2
        · exact he j (by omega) hj2
      refine Ex_wx [64, 25] 9 oX9_isAsLaid hw ?_
      refine And.intro (fun c => absurd (show nI 6 ≤ nI k from c) (nI_ge (by omega) (by omega))) (fun _ => ?_)
      refine Ex_wx [56, 29] 9 oX9_isAsLaid hw ?_
      refine And.intro (fun c => absurd c (by decide)) (fun _ => ?_)
      refine Ex_wx [52, 34] 9 oX9_isAsLaid hw ?_
      refine And.intro (fun c => h52 (fun hk2 => absurd (eqN (show nI k = nI 2 from c) (by omega) (by omega)) hk2)) (fun c => ?_)
      have hk2 : k ≠ 2 := fun z => c (by rw [z]; rfl)
      have g2 : I 361 ((6 : Int32) + nI k).toNatClampNeg = I 361 (6 + k) := by rw [show ((6 : Int32) + nI k).toNatClampNeg = 6 + k from idxN (a := 6) (by omega)]
      refine Ex_wx [56, 52] 9 oX9_isAsLaid hw ?_
      refine And.intro (inN (by omega) (by omega)) (And.intro (idxV (a := 6) (by omega) (by omega)) ?_)
      rw [clN (by omega), g2]
      refine And.intro (fun y => h52 (fun _ => y)) (fun y => ?_)
      have hn : ¬ likeO p q q' := fun hy => y (L1 hy k (by omega) hk2)
      refine Ex_wx [19] 9 oX9_isAsLaid hw ?_
      show Ex mX9_isAsLaid d 0 0 Q 19 [some (vS 328), some (vI 0), some (vI (nI k + 1)), u3, u4] [] g I L
      rw [← nI_succ]
      exact f19 hn m (k + 1) u3 u4 (by omega)
  refine Mx_in (by decide +kernel) rfl rfl (Ex_wx [15, 16] 9 oX9_isAsLaid hw ?_)
  refine And.intro (show vp_in (nI 0) 6 from inN (by omega) (by omega)) ?_
  have e0 : I 363 (0 : Int32).toNatClampNeg = ansO q := s1
  rw [e0]
  refine And.intro (fun c => ?_) (fun c => ?_)
  · have c1 := (ans_3 a1).mp c
    refine Ex_bn 4 oX9_isAsLaid hw ?_
    exact f19 (fun hy => hy.1 (by omega)) 6 0 _ _ rfl
  · refine Ex_bn 3 oX9_isAsLaid hw ?_
    exact h19 (fun z => c ((ans_3 a1).mpr (by omega))) 6 0 _ _ rfl (fun j hj => by omega)
end RLaid
