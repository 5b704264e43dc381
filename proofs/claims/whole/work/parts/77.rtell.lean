/-! the reference: result, shared -/
theorem posI {y : Int32} (h : 0 ≤ y) : y = nI y.toNatClampNeg ∧ y.toNatClampNeg < 2 ^ 31 := by
  have h1 := Int32.le_iff_toInt_le.mp h
  have e0 : (0 : Int32).toInt = 0 := rfl
  rw [e0] at h1
  have h2 := Int32.toInt_lt y
  have h3 : y.toNatClampNeg < 2 ^ 31 := by unfold Int32.toNatClampNeg; omega
  refine ⟨?_, h3⟩
  apply Int32.toInt_inj.mp
  rw [nI_toInt h3]
  unfold Int32.toNatClampNeg
  omega
theorem nI_sub5 {n : Nat} (h : 5 ≤ n) : nI n - 5 = nI (n - 5) := by
  have e : nI n = nI (n - 5) + 5 := by
    rw [show (5 : Int32) = nI 5 from rfl, nI_add]
    congr 1; omega
  rw [e, Int32.add_sub_cancel]
theorem tl_5 {R : aRw} {n : Nat} (hl : LenOk (R.2 4) R.1) (hn : 5 ≤ n) (h2 : n < 2 ^ 31) : (nI n - 5 < R.2 4) ↔ n < 5 + R.1 := by
  rw [nI_sub5 hn]
  rcases hl with ⟨e, h6⟩ | ⟨e, h0⟩
  · rw [e]
    exact ⟨fun c => by have := ltN c (by omega) (by omega); omega, fun c => nI_lt (by omega) (by omega)⟩
  · rw [e, h0]
    refine ⟨fun c => ?_, fun c => by omega⟩
    exfalso
    have h3 := Int32.lt_iff_toInt_lt.mp c
    rw [nI_toInt (by omega)] at h3
    have e1 : (-1 : Int32).toInt = -1 := rfl
    omega
section RTell
variable {lx ly : Nat} {g : aG} {I : aI} {L : aL} {d : Nat} {A A' : aA} {x y code val : Int32}
theorem q_result (hw : WS lx ly g) (hS : SR A I) (ho : okA A.la) (hrows : ∀ (R : aRw) (k : Int32), (rowA A.la k = some R ∨ comA A.la = some R) → LenOk (R.2 4) R.1 ∧ R.1 ≤ 60) (hR : tqR A (rowA A.la x) y code val A') (hd : 1 ≤ d) : Mx mX9_result d 0 0 [vS 328, vI x, vI y] g I L (rfQ code val A' g I L) := by
  have h0 := (hw 328 _ rfl).2.1
  have h6 : rw6 A.la := fun R k h => (hrows R k h).2
  have h1 := hS.thr (v := 0) ho h6
  obtain ⟨rfl, hR⟩ := hR
  have h26 : rowA A'.la x = none → Ex mX9_result d 0 0 (rfQ code val A' g I L) 26 [some (vS 328), some (vI x), some (vI y)] [] g (up2 I 328 0 0) L := by
    intro hn
    rcases hR with ⟨R, c, -⟩ | ⟨rfl, -⟩ | ⟨-, R, c, -⟩
    · rw [hn] at c; cases c
    rotate_left
    · rw [hn] at c; cases c
    refine Ex_wx [] 9 oX9_result hw ?_
    refine Ex_v (As := [vI 1]) (st := []) (d' := 0) vX9_152 rfl rfl (r_refuse hw) h0 (by omega) rfl (dc_ok oX9_result rfl) ?_
    refine Ex_wx [] 9 oX9_result hw ?_
    exact rf_no hS ho h6 (by decide)
  obtain ⟨s1, s2, s3, s4⟩ := id h1
  cases hla : A'.la with
  | none =>
    rw [hla] at s4 h26
    have s5 : up2 I 328 0 0 328 45 = 0 := s4
    refine Mx_in (by decide +kernel) rfl rfl (Ex_wx [26, 12] 9 oX9_result hw ?_)
    exact And.intro (fun _ => h26 rfl) (fun c => absurd s5 c)
  | some q =>
    rw [hla] at s4 h26 hR hrows ho
    obtain ⟨s5, k1, k2, k3, k4⟩ := s4
    have hJ : ∀ i k, i ≠ 328 → up2 I 328 0 0 i k = I i k := fun i k hi => up2_i hi
    generalize hJ0 : up2 I 328 0 0 = J at *
    refine Mx_in (by decide +kernel) rfl rfl (Ex_bn 3 oX9_result hw ?_)
    show Ex mX9_result d 0 0 _ 5 [some (vS 328), some (vI x), some (vI y)] [] g (up2 I 328 0 0) L
    rw [hJ0]
    refine Ex_wx [26, 12] 9 oX9_result hw ?_
    refine And.intro (fun c => absurd (s5 ▸ c) (by decide)) (fun _ => ?_)
    refine Ex_wx [26, 16] 9 oX9_result hw ?_
    refine And.intro (fun c => h26 (rowA_no ho.2 (fun c2 => absurd c (Int32.not_lt.mpr c2.1)))) (fun c0 => ?_)
    have c0 : 0 ≤ x := Int32.not_lt.mp c0
    refine Ex_wx [26, 32] 9 oX9_result hw ?_
    refine And.intro (show vp_in (nI 0) 2 from inN (by omega) (by omega)) ?_
    have e354 : J 354 (0 : Int32).toNatClampNeg = nI (if q.2.1 = 0 then q.2.2.1.length else 0) := k1
    rw [e354]
    refine And.intro (fun c1 => ?_) (fun c1 => ?_)
    rotate_left
    · refine h26 (rowA_no ho.2 (fun c2 => ?_))
      obtain ⟨z0, j, hj, ej⟩ := ans_lt ho.2 c2.1 c2.2
      rw [if_pos z0] at c1
      have := ho.2 z0
      exact c1 (by rw [ej]; exact nI_lt hj (by omega))
    have z0 : q.2.1 = 0 := by
      by_cases z : q.2.1 = 0
      · exact z
      · rw [if_neg z] at c1
        exact absurd c1 (Int32.not_lt.mpr c0)
    rw [if_pos z0] at c1
    have h50 := ho.2 z0
    obtain ⟨j, hj, ej⟩ := tmP.idx (cnt := q.2.2.1.length) ⟨c0, c1⟩ (by omega)
    subst ej
    obtain ⟨rr, hrr⟩ : ∃ rr, q.2.2.1[j]? = some rr := ⟨_, List.getElem?_eq_getElem hj⟩
    have eR := rowA_at z0 (by omega) hrr
    obtain ⟨l1, l2⟩ := hrows _ _ (Or.inl eR)
    obtain ⟨t0, t1, t2, t3, t4, t5⟩ := k4 z0 j rr hrr
    rw [show 50 * 0 + j = j by omega] at t0 t1 t2 t3 t4 t5
    have b1 : resG q.1 q.2.2.2 rr = rowG rr.1 (bI (erB rr)) (owF q.1 0 && !(erB rr && ouF q.1 0)) rr.2.2.1 (owF q.1 1 && !(erB rr && ouF q.1 1)) q.2.2.2 rr.2.2.2 := rfl
    have r1 : ∃ v, (resG q.1 q.2.2.2 rr).2 1 = bI v := ⟨_, rfl⟩
    have r2 : ∃ v, (resG q.1 q.2.2.2 rr).2 2 = bI v := ⟨_, rfl⟩
    generalize resG q.1 q.2.2.2 rr = R at *
    have h53 : ¬ tlP R y → Ex mX9_result d 0 0 (rfQ code val A' g I L) 53 [some (vS 328), some (vI (nI j)), some (vI y)] [] g J L := by
      intro hn
      rcases hR with ⟨R', c, c2, -⟩ | ⟨-, c⟩ | ⟨rfl, R', c, -⟩
      · rw [eR] at c; cases c; exact absurd c2 hn
      · rw [eR] at c; cases c
      refine Ex_wx [] 9 oX9_result hw ?_
      refine Ex_v (As := [vI 2]) (st := []) (d' := 0) vX9_152 rfl rfl (r_refuse hw) h0 (by omega) rfl (dc_ok oX9_result rfl) ?_
      refine Ex_wx [] 9 oX9_result hw ?_
      rw [← hJ0]
      exact rf_no hS (by rw [hla]; exact ho) h6 (by decide)
    have hend : tlP R y → ∀ v, v = R.2 y.toNatClampNeg → rfQ code val A' g I L (.inl (some (vI v))) g J L := by
      intro ht v hv
      rcases hR with ⟨R', c, c2, rfl, rfl⟩ | ⟨-, c⟩ | ⟨-, R', c, c2⟩
      · rw [eR] at c; cases c
        exact ⟨rfl, rfl, ⟨v, rfl, fun _ => hv⟩, by rw [← hJ0]; exact up2_s, h1, by rw [← hJ0]; exact FrR.thr⟩
      · rw [eR] at c; cases c
      · rw [eR] at c; cases c; exact absurd ht c2
    have h59 : tlP R y → Ex mX9_result d 0 0 (rfQ code val A' g I L) 59 [some (vS 328), some (vI (nI j)), some (vI y)] [] g J L := by
      intro ht
      have hv := hend ht
      obtain ⟨n, hn, ey⟩ := tmP.idx (cnt := 5 + R.1) ⟨ht.1, ht.2⟩ (by omega)
      have en : y.toNatClampNeg = n := by rw [ey]; exact clN (by omega)
      rw [en] at hv
      subst ey
      refine Ex_wx [] 9 oX9_result hw ?_
      have cases5 : n = 0 ∨ n = 1 ∨ n = 2 ∨ n = 3 ∨ n = 4 ∨ 5 ≤ n := by omega
      rcases cases5 with rfl | rfl | rfl | rfl | rfl | h5
      · refine Ex_tableIn (tgt := 96) (off := 36) (dc_ok oX9_result rfl) (by decide) (by decide) (by decide) (by decide) ?_
        refine Ex_wx [] 9 oX9_result hw ?_
        exact And.intro (inN (by omega) (by omega)) (hv _ (by rw [clN (by omega)]; exact t0))
      · refine Ex_tableIn (tgt := 103) (off := 43) (dc_ok oX9_result rfl) (by decide) (by decide) (by decide) (by decide) ?_
        refine Ex_wx [] 9 oX9_result hw ?_
        refine And.intro (inN (by omega) (by omega)) ?_
        rw [clN (by omega), t1]
        obtain ⟨v, ev⟩ := r1
        rw [ev] at hv ⊢
        exact And.intro (fun c => hv 0 (by rw [bI_eq c]; rfl)) (fun c => hv 1 (by rw [bI_ne c]; rfl))
      · refine Ex_tableIn (tgt := 118) (off := 58) (dc_ok oX9_result rfl) (by decide) (by decide) (by decide) (by decide) ?_
        refine Ex_wx [] 9 oX9_result hw ?_
        refine And.intro (inN (by omega) (by omega)) ?_
        rw [clN (by omega), t2]
        obtain ⟨v, ev⟩ := r2
        rw [ev] at hv ⊢
        exact And.intro (fun c => hv 0 (by rw [bI_eq c]; rfl)) (fun c => hv 1 (by rw [bI_ne c]; rfl))
      · refine Ex_tableIn (tgt := 133) (off := 73) (dc_ok oX9_result rfl) (by decide) (by decide) (by decide) (by decide) ?_
        refine Ex_wx [] 9 oX9_result hw ?_
        exact And.intro (inN (by omega) (by omega)) (hv _ (by rw [clN (by omega)]; exact t3))
      · refine Ex_tableIn (tgt := 140) (off := 80) (dc_ok oX9_result rfl) (by decide) (by decide) (by decide) (by decide) ?_
        refine Ex_wx [] 9 oX9_result hw ?_
        exact And.intro (inN (by omega) (by omega)) (hv _ (by rw [clN (by omega)]; exact t4))
      · refine Ex_tableOut (tgt := 147) (dc_ok oX9_result rfl) (Or.inr (by rw [nI_toInt (by omega)]; omega)) (by decide) ?_
        have ei : (60 : Int32) * nI j + nI n - 5 = nI (60 * j + (n - 5)) := by
          rw [show (60 : Int32) * nI j = nI (60 * j) from nI_mul 60 j, nI_add, nI_sub5 (by omega)]
          congr 1; omega
        refine Ex_wx [] 9 oX9_result hw ?_
        refine And.intro (by rw [ei]; exact inN (by omega) (by omega)) ?_
        refine hv _ ?_
        have h9 := t5 (n - 5) (by omega)
        rw [show 5 + (n - 5) = n by omega] at h9
        rw [ei, clN (by omega)]
        exact h9
    refine Ex_wx [53, 36] 9 oX9_result hw ?_
    refine And.intro (fun c => h53 (fun q => absurd c (Int32.not_lt.mpr q.1))) (fun cy => ?_)
    have cy := Int32.not_lt.mp cy
    obtain ⟨ey, hy31⟩ := posI cy
    refine Ex_wx [59, 41] 9 oX9_result hw ?_
    refine And.intro (fun c4 => ?_) (fun c4 => ?_)
    · have h4 : y.toNatClampNeg ≤ 4 := by
        rw [ey] at c4
        exact leN (show nI y.toNatClampNeg ≤ nI 4 from c4) hy31 (by omega)
      exact h59 ⟨cy, by rw [ey]; exact nI_lt (by omega) (by omega)⟩
    · have h5 : 5 ≤ y.toNatClampNeg := by
        rcases Nat.lt_or_ge y.toNatClampNeg 5 with z | z
        · exact absurd (show y ≤ 4 by rw [ey]; exact (show nI y.toNatClampNeg ≤ nI 4 from nI_le (by omega) (by omega))) c4
        · exact z
      have tl := tl_5 l1 h5 hy31
      rw [← ey] at tl
      refine Ex_wx [59, 53] 9 oX9_result hw ?_
      refine And.intro (inN (by omega) (by omega)) ?_
      rw [clN (by omega), t4]
      refine And.intro (fun c => h59 ⟨cy, by rw [ey]; exact nI_lt (tl.mp c) (by omega)⟩) (fun c => h53 (fun q => c (tl.mpr ?_)))
      have q2 := q.2
      rw [ey] at q2
      exact ltN q2 hy31 (by omega)
theorem q_shared (hw : WS lx ly g) (hS : SR A I) (ho : okA A.la) (hrows : ∀ (R : aRw) (k : Int32), (rowA A.la k = some R ∨ comA A.la = some R) → LenOk (R.2 4) R.1 ∧ R.1 ≤ 60) (hR : tqR A (comA A.la) y code val A') (hd : 1 ≤ d) : Mx mX9_shared d 0 0 [vS 328, vI y] g I L (rfQ code val A' g I L) := by
  have h0 := (hw 328 _ rfl).2.1
  have h6 : rw6 A.la := fun R k h => (hrows R k h).2
  have h1 := hS.thr (v := 0) ho h6
  obtain ⟨rfl, hR⟩ := hR
  have h23 : comA A'.la = none → Ex mX9_shared d 0 0 (rfQ code val A' g I L) 23 [some (vS 328), some (vI y)] [] g (up2 I 328 0 0) L := by
    intro hn
    rcases hR with ⟨R, c, -⟩ | ⟨rfl, -⟩ | ⟨-, R, c, -⟩
    · rw [hn] at c; cases c
    rotate_left
    · rw [hn] at c; cases c
    refine Ex_wx [] 9 oX9_shared hw ?_
    refine Ex_v (As := [vI 1]) (st := []) (d' := 0) vX9_152 rfl rfl (r_refuse hw) h0 (by omega) rfl (dc_ok oX9_shared rfl) ?_
    refine Ex_wx [] 9 oX9_shared hw ?_
    exact rf_no hS ho h6 (by decide)
  obtain ⟨s1, s2, s3, s4⟩ := id h1
  cases hla : A'.la with
  | none =>
    rw [hla] at s4 h23
    have s5 : up2 I 328 0 0 328 45 = 0 := s4
    refine Mx_in (by decide +kernel) rfl rfl (Ex_wx [23, 12] 9 oX9_shared hw ?_)
    exact And.intro (fun _ => h23 rfl) (fun c => absurd s5 c)
  | some q =>
    rw [hla] at s4 h23 hR hrows ho
    obtain ⟨s5, k1, k2, k3, k4⟩ := s4
    generalize hJ0 : up2 I 328 0 0 = J at *
    refine Mx_in (by decide +kernel) rfl rfl (Ex_bn 3 oX9_shared hw ?_)
    show Ex mX9_shared d 0 0 _ 5 [some (vS 328), some (vI y)] [] g (up2 I 328 0 0) L
    rw [hJ0]
    refine Ex_wx [23, 12] 9 oX9_shared hw ?_
    refine And.intro (fun c => absurd (s5 ▸ c) (by decide)) (fun _ => ?_)
    refine Ex_wx [23, 29] 9 oX9_shared hw ?_
    refine And.intro (show vp_in (nI 0) 12 from inN (by omega) (by omega)) ?_
    have e361 : J 361 (0 : Int32).toNatClampNeg = ansO q.2 := k2
    rw [e361]
    have ho1 := ho.1
    refine And.intro (fun c => ?_) (fun c => ?_)
    · have c1 := (ans_3 ho.2).mp c
      exact h23 (by show (if q.2.1 = 2 then none else some (comO q.1 q.2)) = none; rw [if_pos (by omega)])
    have c2 : ¬ q.2.1 = 2 := fun z => c ((ans_3 ho.2).mpr (by omega))
    have eR : comA (some q) = some (comO q.1 q.2) := by show (if q.2.1 = 2 then none else some (comO q.1 q.2)) = _; rw [if_neg c2]
    obtain ⟨l1, l2⟩ := hrows _ 0 (Or.inr eR)
    obtain ⟨t0, t5⟩ := k3 c2
    generalize comO q.1 q.2 = R at *
    have t4 : J 361 5 = R.2 4 := t0 4 (by omega)
    have h50 : ¬ tlP R y → Ex mX9_shared d 0 0 (rfQ code val A' g I L) 50 [some (vS 328), some (vI y)] [] g J L := by
      intro hn
      rcases hR with ⟨R', c, c2, -⟩ | ⟨-, c⟩ | ⟨rfl, R', c, -⟩
      · rw [eR] at c; cases c; exact absurd c2 hn
      · rw [eR] at c; cases c
      refine Ex_wx [] 9 oX9_shared hw ?_
      refine Ex_v (As := [vI 2]) (st := []) (d' := 0) vX9_152 rfl rfl (r_refuse hw) h0 (by omega) rfl (dc_ok oX9_shared rfl) ?_
      refine Ex_wx [] 9 oX9_shared hw ?_
      rw [← hJ0]
      exact rf_no hS (by rw [hla]; exact ho) h6 (by decide)
    have hend : tlP R y → ∀ v, v = R.2 y.toNatClampNeg → rfQ code val A' g I L (.inl (some (vI v))) g J L := by
      intro ht v hv
      rcases hR with ⟨R', c, c2, rfl, rfl⟩ | ⟨-, c⟩ | ⟨-, R', c, c2⟩
      · rw [eR] at c; cases c
        exact ⟨rfl, rfl, ⟨v, rfl, fun _ => hv⟩, by rw [← hJ0]; exact up2_s, h1, by rw [← hJ0]; exact FrR.thr⟩
      · rw [eR] at c; cases c
      · rw [eR] at c; cases c; exact absurd ht c2
    have h56 : tlP R y → Ex mX9_shared d 0 0 (rfQ code val A' g I L) 56 [some (vS 328), some (vI y)] [] g J L := by
      intro ht
      have hv := hend ht
      obtain ⟨n, hn, ey⟩ := tmP.idx (cnt := 5 + R.1) ⟨ht.1, ht.2⟩ (by omega)
      have en : y.toNatClampNeg = n := by rw [ey]; exact clN (by omega)
      rw [en] at hv
      subst ey
      refine Ex_wx [72, 61] 9 oX9_shared hw ?_
      refine And.intro (fun c => ?_) (fun c => ?_)
      · have h5 : 5 ≤ n := leN (show nI 5 ≤ nI n from c) (by omega) (by omega)
        refine Ex_wx [] 9 oX9_shared hw ?_
        refine And.intro (by rw [nI_sub5 h5]; exact inN (by omega) (by omega)) (hv _ ?_)
        have h9 := t5 (n - 5) (by omega)
        rw [show 60 * 0 + (n - 5) = n - 5 by omega, show 5 + (n - 5) = n by omega] at h9
        rw [nI_sub5 h5, clN (by omega)]
        exact h9
      · have h5 : n < 5 := by
          rcases Nat.lt_or_ge n 5 with z | z
          · exact z
          · exact absurd (show nI 5 ≤ nI n from nI_le z (by omega)) c
        refine Ex_wx [] 9 oX9_shared hw ?_
        refine And.intro (idxV (a := 1) (by omega) (by omega)) (hv _ ?_)
        have ix : ((1 : Int32) + nI n).toNatClampNeg = 1 + n := idxN (a := 1) (by omega)
        rw [ix]
        have h9 := t0 n h5
        rw [show 6 * 0 + (1 + n) = 1 + n by omega] at h9
        exact h9
    refine Ex_wx [50, 33] 9 oX9_shared hw ?_
    refine And.intro (fun c => h50 (fun q => absurd c (Int32.not_lt.mpr q.1))) (fun cy => ?_)
    have cy := Int32.not_lt.mp cy
    obtain ⟨ey, hy31⟩ := posI cy
    refine Ex_wx [56, 38] 9 oX9_shared hw ?_
    refine And.intro (fun c4 => ?_) (fun c4 => ?_)
    · have h4 : y.toNatClampNeg ≤ 4 := by
        rw [ey] at c4
        exact leN (show nI y.toNatClampNeg ≤ nI 4 from c4) hy31 (by omega)
      exact h56 ⟨cy, by rw [ey]; exact nI_lt (by omega) (by omega)⟩
    · have h5 : 5 ≤ y.toNatClampNeg := by
        rcases Nat.lt_or_ge y.toNatClampNeg 5 with z | z
        · exact absurd (show y ≤ 4 by rw [ey]; exact (show nI y.toNatClampNeg ≤ nI 4 from nI_le (by omega) (by omega))) c4
        · exact z
      have tl := tl_5 l1 h5 hy31
      rw [← ey] at tl
      refine Ex_wx [56, 50] 9 oX9_shared hw ?_
      refine And.intro (show vp_in (nI 5) 12 from inN (by omega) (by omega)) ?_
      have e5 : J 361 (5 : Int32).toNatClampNeg = R.2 4 := t4
      rw [e5]
      refine And.intro (fun c => h56 ⟨cy, by rw [ey]; exact nI_lt (tl.mp c) (by omega)⟩) (fun c => h50 (fun q => c (tl.mpr ?_)))
      have q2 := q.2
      rw [ey] at q2
      exact ltN q2 hy31 (by omega)
end RTell
