/-! the reference: order -/
def wvI (i : Nat) : Int32 := if i = 0 then -1 else nI (i - 1)
def tcI (x : Int32) : Int32 := if pvI x = -1 then 0 else 1
def chk (i j k l : Nat) : Bool := match ordF (wvI i) (wvI j) (wvI k) (wvI l) with
  | none => true
  | some m => decide (0 + tcI (plI 0 (wvI i) (wvI j) (wvI k) (wvI l)) + tcI (plI 1 (wvI i) (wvI j) (wvI k) (wvI l)) + tcI (plI 2 (wvI i) (wvI j) (wvI k) (wvI l)) + tcI (plI 3 (wvI i) (wvI j) (wvI k) (wvI l)) = nI (popN m))
theorem chk_ok : ∀ i, i < 5 → ∀ j, j < 5 → ∀ k, k < 5 → ∀ l, l < 5 → chk i j k l = true := by decide +kernel
theorem wl_v {m m' : Nat} {v : Int32} (h : wlF m v = some m') : ∃ i, i < 5 ∧ v = wvI i := by
  unfold wlF at h
  by_cases c : v = -1
  · exact ⟨0, by omega, c⟩
  rw [if_neg c] at h
  by_cases c2 : 0 ≤ v ∧ v ≤ 3 ∧ m.testBit v.toNatClampNeg = false
  · obtain ⟨j, hj, rfl⟩ := three4 ⟨c2.1, c2.2.1⟩
    exact ⟨j + 1, by omega, by unfold wvI; rw [if_neg (by omega)]; rfl⟩
  · rw [if_neg c2] at h; cases h
theorem ord_cnt {a b c e : Int32} {m : Nat} (h : ordF a b c e = some m) : 0 + tcI (plI 0 a b c e) + tcI (plI 1 a b c e) + tcI (plI 2 a b c e) + tcI (plI 3 a b c e) = nI (popN m) := by
  have h' := h
  unfold ordF at h
  cases w1 : wlF 0 a with
  | none => rw [w1] at h; cases h
  | some m1 =>
  rw [w1] at h
  change (wlF m1 b).bind _ = _ at h
  cases w2 : wlF m1 b with
  | none => rw [w2] at h; cases h
  | some m2 =>
  rw [w2] at h
  change (wlF m2 c).bind _ = _ at h
  cases w3 : wlF m2 c with
  | none => rw [w3] at h; cases h
  | some m3 =>
  rw [w3] at h
  change wlF m3 e = _ at h
  obtain ⟨i, hi, rfl⟩ := wl_v w1
  obtain ⟨j, hj, rfl⟩ := wl_v w2
  obtain ⟨k, hk, rfl⟩ := wl_v w3
  obtain ⟨l, hl, rfl⟩ := wl_v h
  have h9 := chk_ok i hi j hj k hk l hl
  unfold chk at h9
  rw [h'] at h9
  exact of_decide_eq_true h9
theorem bit0 : ∀ n, n < 16 → ∀ l, l < 4 → ((nI n >>> (nI l &&& 31)) &&& 1 = 0 ↔ n.testBit l = false) := by decide +kernel
section ROrd
variable {lx ly : Nat} {g : aG} {I J : aI} {L : aL} {d : Nat} {A A' : aA} {a b c e v code val : Int32} {Q : aQ}
theorem lt4I {v : Int32} : (0 ≤ v ∧ v < 4) ↔ (0 ≤ v ∧ v ≤ 3) := by
  rw [Int32.le_iff_toInt_le, Int32.lt_iff_toInt_lt, Int32.le_iff_toInt_le]
  show (0 ≤ v.toInt ∧ v.toInt < 4) ↔ (0 ≤ v.toInt ∧ v.toInt ≤ 3)
  omega
theorem ge1I {v : Int32} (h : ¬ v < -1) (hn : ¬ v = -1) : 0 ≤ v := by
  rw [Int32.lt_iff_toInt_lt] at h
  rw [Int32.le_iff_toInt_le]
  have h1 : (-1 : Int32).toInt = -1 := rfl
  have h0 : (0 : Int32).toInt = 0 := rfl
  rw [h1] at h
  rw [h0]
  have h2 : v.toInt ≠ -1 := fun z => hn (Int32.toInt_inj.mp (z.trans h1.symm))
  omega
/-- one step of looking at what is asked for; none: it was not right -/
def okS (o : Option Nat) (bits right : Int32) : Prop := match o with
  | none => right = 0
  | some m => right = 1 ∧ bits = nI m ∧ m < 16
theorem r_ordS {k : Nat} {o : Option Nat} {bits right : Int32} {u8 : Option aV} (hw : WS lx ly g) (hs : okS o bits right)
    (hk : ∀ (bits' right' : Int32) (w8 : Option aV), okS (o.bind fun m => wlF m v) bits' right' → Ex mX9_order d 0 0 Q 14 [some (vS 328), some (vI a), some (vI b), some (vI c), some (vI e), some (vI bits'), some (vI right'), some (vI (nI (k + 1))), w8] [] g J L) :
    Ex mX9_order d 0 0 Q 51 [some (vS 328), some (vI a), some (vI b), some (vI c), some (vI e), some (vI bits), some (vI right), some (vI (nI k)), u8] [vI v] g J L := by
  have h113 : ∀ bits' right', okS (o.bind fun m => wlF m v) bits' right' → Ex mX9_order d 0 0 Q 113 [some (vS 328), some (vI a), some (vI b), some (vI c), some (vI e), some (vI bits'), some (vI right'), some (vI (nI k)), some (vI v)] [] g J L := by
    intro bits' right' h
    refine Ex_wx [14] 9 oX9_order hw ?_
    show Ex mX9_order d 0 0 Q 14 [some (vS 328), some (vI a), some (vI b), some (vI c), some (vI e), some (vI bits'), some (vI right'), some (vI (nI k + 1)), some (vI v)] [] g J L
    rw [← nI_succ]
    exact hk _ _ _ h
  have h90 : (o.bind fun m => wlF m v) = none → Ex mX9_order d 0 0 Q 90 [some (vS 328), some (vI a), some (vI b), some (vI c), some (vI e), some (vI bits), some (vI right), some (vI (nI k)), some (vI v)] [] g J L := by
    intro hn
    refine Ex_wx [113, 98] 9 oX9_order hw ?_
    refine And.intro (fun _ => h113 _ _ (by rw [hn]; rfl)) (fun z => absurd rfl z)
  refine Ex_wx [90, 58] 9 oX9_order hw ?_
  refine And.intro (fun z => ?_) (fun z => ?_)
  · cases o with
    | none => exact h90 rfl
    | some m => exact absurd (hs.1 ▸ z) (by decide)
  cases o with
  | none => exact absurd hs z
  | some m =>
  obtain ⟨hr, hb, hm⟩ := hs
  have eb : ((some m).bind fun m => wlF m v) = wlF m v := rfl
  rw [eb] at h113 h90
  refine Ex_wx [90, 64] 9 oX9_order hw ?_
  refine And.intro (fun z1 => h90 ?_) (fun z1 => ?_)
  · unfold wlF
    have hv0 : ¬ 0 ≤ v := fun q => by
      rw [Int32.lt_iff_toInt_lt] at z1
      rw [Int32.le_iff_toInt_le] at q
      have h1 : (-1 : Int32).toInt = -1 := rfl
      have h0 : (0 : Int32).toInt = 0 := rfl
      omega
    rw [if_neg (fun q => by rw [q] at z1; exact absurd z1 (by decide)), if_neg (fun q => hv0 q.1)]
  refine Ex_wx [90, 70] 9 oX9_order hw ?_
  refine And.intro (fun z2 => h90 ?_) (fun z2 => ?_)
  · unfold wlF
    have hv3 : ¬ v ≤ 3 := fun q => by
      rw [Int32.le_iff_toInt_le] at z2 q
      have h1 : (4 : Int32).toInt = 4 := rfl
      have h0 : (3 : Int32).toInt = 3 := rfl
      omega
    rw [if_neg (fun q => by rw [q] at z2; exact absurd z2 (by decide)), if_neg (fun q => hv3 q.2.1)]
  have h86 : ∀ m', wlF m v = some m' → Ex mX9_order d 0 0 Q 86 [some (vS 328), some (vI a), some (vI b), some (vI c), some (vI e), some (vI bits), some (vI right), some (vI (nI k)), some (vI v)] [] g J L := by
    intro m' hm'
    refine Ex_wx [91] 9 oX9_order hw ?_
    refine Ex_wx [113, 98] 9 oX9_order hw ?_
    refine And.intro (fun q => absurd q (by decide)) (fun _ => ?_)
    refine Ex_wx [113, 104] 9 oX9_order hw ?_
    refine And.intro (fun q => ?_) (fun q => ?_)
    · refine h113 _ _ ?_
      have e1 : wlF m v = some m := by unfold wlF; rw [if_pos q]
      rw [e1]
      exact ⟨rfl, hb, hm⟩
    · have hv : 0 ≤ v := ge1I z1 q
      obtain ⟨j, hj, ej⟩ := three4 (lt4I.mp ⟨hv, Int32.not_le.mp z2⟩)
      refine Ex_bn 6 oX9_order hw ?_
      refine h113 _ _ ?_
      rw [hm']
      have e1 : m' = m ||| (1 <<< j) := by
        unfold wlF at hm'
        rw [if_neg q] at hm'
        by_cases q2 : 0 ≤ v ∧ v ≤ 3 ∧ m.testBit v.toNatClampNeg = false
        · rw [if_pos q2] at hm'
          rw [ej, clN (by omega)] at hm'
          exact (Option.some.inj hm').symm
        · rw [if_neg q2] at hm'; cases hm'
      rw [e1, ej, hb]
      exact ⟨rfl, (sh_or m hm j hj).1, (sh_or m hm j hj).2⟩
  refine Ex_wx [86, 76] 9 oX9_order hw ?_
  refine And.intro (fun z3 => h86 m (by unfold wlF; rw [if_pos z3])) (fun z3 => ?_)
  have hv : 0 ≤ v := ge1I z1 z3
  have h03 := lt4I.mp ⟨hv, Int32.not_le.mp z2⟩
  obtain ⟨j, hj, ej⟩ := three4 h03
  have ecl : v.toNatClampNeg = j := by rw [ej]; exact clN (by omega)
  refine Ex_wx [90, 86] 9 oX9_order hw ?_
  refine And.intro (fun z4 => ?_) (fun z4 => h90 ?_)
  · rw [hb, ej] at z4
    refine h86 (m ||| (1 <<< j)) ?_
    unfold wlF
    rw [if_neg z3, if_pos ⟨h03.1, h03.2, by rw [ecl]; exact (bit0 m hm j hj).mp z4⟩, ecl]
  · rw [hb, ej] at z4
    unfold wlF
    rw [if_neg z3, if_neg (fun q => z4 ((bit0 m hm j hj).mpr (by have := q.2.2; rw [ecl] at this; exact this)))]
theorem r_plS {l : Nat} {n : Int32} {u5 u6 : Option aV} (hw : WS lx ly g) (hl : l < 4)
    (hk : Ex mX9_order d 0 0 Q 136 [some (vS 328), some (vI a), some (vI b), some (vI c), some (vI e), u5, u6, some (vI (n + tcI (plI (nI l) a b c e))), some (vI (nI (l + 1)))] [] g (up2 J 336 l (pvI (plI (nI l) a b c e))) L) :
    Ex mX9_order d 0 0 Q 136 [some (vS 328), some (vI a), some (vI b), some (vI c), some (vI e), u5, u6, some (vI n), some (vI (nI l))] [] g J L := by
  have h209 : ∀ x, x = tcI (plI (nI l) a b c e) → Ex mX9_order d 0 0 Q 209 [some (vS 328), some (vI a), some (vI b), some (vI c), some (vI e), u5, u6, some (vI n), some (vI (nI l))] [vI x, vI n] g (up2 J 336 l (pvI (plI (nI l) a b c e))) L := by
    rintro x rfl
    refine Ex_wx [136] 9 oX9_order hw ?_
    show Ex mX9_order d 0 0 Q 136 [some (vS 328), some (vI a), some (vI b), some (vI c), some (vI e), u5, u6, some (vI (n + tcI (plI (nI l) a b c e))), some (vI (nI l + 1))] [] g (up2 J 336 l (pvI (plI (nI l) a b c e))) L
    rw [← nI_succ]
    exact hk
  have h190 : ∀ x, x = pvI (plI (nI l) a b c e) → Ex mX9_order d 0 0 Q 190 [some (vS 328), some (vI a), some (vI b), some (vI c), some (vI e), u5, u6, some (vI n), some (vI (nI l))] [vI x, vI (nI l), vS 336] g J L := by
    rintro x rfl
    refine Ex_bn 1 oX9_order hw ?_
    refine And.intro (inN hl (by omega)) ?_
    rw [clN (by omega)]
    refine Ex_wx [208, 209] 9 oX9_order hw ?_
    refine And.intro (inN hl (by omega)) ?_
    rw [clN (by omega), up2_s]
    refine And.intro (fun q => ?_) (fun q => ?_)
    · exact h209 0 (by unfold tcI; rw [if_pos q])
    · refine Ex_bn 1 oX9_order hw ?_
      exact h209 1 (by unfold tcI; rw [if_neg q])
  refine Ex_wx [218, 142] 9 oX9_order hw ?_
  refine And.intro (fun q => absurd (show nI 4 ≤ nI l from q) (nI_ge (by omega) (by omega))) (fun _ => ?_)
  refine Ex_wx [158, 190] 9 oX9_order hw ?_
  refine And.intro (fun q => h190 0 (by unfold plI; rw [if_pos q]; rfl)) (fun q1 => ?_)
  refine Ex_wx [168, 190] 9 oX9_order hw ?_
  refine And.intro (fun q => h190 1 (by unfold plI; rw [if_neg q1, if_pos q]; rfl)) (fun q2 => ?_)
  refine Ex_wx [178, 190] 9 oX9_order hw ?_
  refine And.intro (fun q => h190 2 (by unfold plI; rw [if_neg q1, if_neg q2, if_pos q]; rfl)) (fun q3 => ?_)
  refine Ex_wx [189, 190] 9 oX9_order hw ?_
  refine And.intro (fun q => h190 3 (by unfold plI; rw [if_neg q1, if_neg q2, if_neg q3, if_pos q]; rfl)) (fun q4 => ?_)
  refine Ex_bn 1 oX9_order hw ?_
  exact h190 (-1) (by unfold plI; rw [if_neg q1, if_neg q2, if_neg q3, if_neg q4]; rfl)
theorem q_order (hw : WS lx ly g) (hS : SR A I) (ho : okA A.la) (h6 : rw6 A.la) (hR : orR A a b c e code val A') (hd : 1 ≤ d) : Mx mX9_order d 0 0 [vS 328, vI a, vI b, vI c, vI e] g I L (rfQ code val A' g I L) := by
  have h0 := (hw 328 _ rfl).2.1
  have h1 := hS.thr (v := 0) ho h6
  generalize hQ : rfQ code val A' g I L = Q
  have h119 : ∀ (bits right : Int32) (w8 : Option aV), okS (ordF a b c e) bits right → Ex mX9_order d 0 0 Q 119 [some (vS 328), some (vI a), some (vI b), some (vI c), some (vI e), some (vI bits), some (vI right), some (vI (nI 4)), w8] [] g (up2 I 328 0 0) L := by
    intro bits right w8 h
    rcases hR with ⟨rfl, m, hm, rfl, rfl⟩ | ⟨rfl, hm, rfl⟩
    · rw [hm] at h
      obtain ⟨rfl, hb, hm6⟩ := h
      refine Ex_wx [130, 124] 9 oX9_order hw ?_
      refine And.intro (fun q => absurd q (by decide)) (fun _ => ?_)
      refine Ex_bn 4 oX9_order hw ?_
      show Ex mX9_order d 0 0 Q 136 [some (vS 328), some (vI a), some (vI b), some (vI c), some (vI e), some (vI bits), some (vI 1), some (vI 0), some (vI (nI 0))] [] g (up2 I 328 0 0) L
      refine r_plS hw (by omega) (r_plS hw (by omega) (r_plS hw (by omega) (r_plS hw (by omega) ?_)))
      refine Ex_wx [218, 142] 9 oX9_order hw ?_
      refine And.intro (fun _ => ?_) (fun q => absurd (by decide) q)
      have e0 : (nI 0) = (0 : Int32) := rfl
      have e1 : (nI 1) = (1 : Int32) := rfl
      have e2 : (nI 2) = (2 : Int32) := rfl
      have e3 : (nI 3) = (3 : Int32) := rfl
      refine Ex_wx [] 9 oX9_order hw ?_
      rw [← hQ]
      obtain ⟨s1, s2, s3, s4⟩ := id h1
      have ex : ∀ i k, i ≠ 336 → up2 (up2 (up2 (up2 (up2 I 328 0 0) 336 0 (pvI (plI (nI 0) a b c e))) 336 1 (pvI (plI (nI 1) a b c e))) 336 2 (pvI (plI (nI 2) a b c e))) 336 3 (pvI (plI (nI 3) a b c e)) i k = up2 I 328 0 0 i k := fun i k hi => by rw [up2_i hi, up2_i hi, up2_i hi, up2_i hi]
      have e336 : up2 (up2 (up2 (up2 (up2 I 328 0 0) 336 0 (pvI (plI (nI 0) a b c e))) 336 1 (pvI (plI (nI 1) a b c e))) 336 2 (pvI (plI (nI 2) a b c e))) 336 3 (pvI (plI (nI 3) a b c e)) 336 = plP A.p a b c e := by
        funext l
        unfold plP
        have hl : l = 0 ∨ l = 1 ∨ l = 2 ∨ l = 3 ∨ 4 ≤ l := by omega
        rcases hl with rfl | rfl | rfl | rfl | hl
        · rw [up2_k (by omega), up2_k (by omega), up2_k (by omega), up2_s, if_pos (by omega)]
        · rw [up2_k (by omega), up2_k (by omega), up2_s, if_pos (by omega)]
        · rw [up2_k (by omega), up2_s, if_pos (by omega)]
        · rw [up2_s, if_pos (by omega)]
        · rw [up2_k (by omega), up2_k (by omega), up2_k (by omega), up2_k (by omega), if_neg (by omega), s2.1]
      generalize up2 (up2 (up2 (up2 (up2 I 328 0 0) 336 0 (pvI (plI (nI 0) a b c e))) 336 1 (pvI (plI (nI 1) a b c e))) 336 2 (pvI (plI (nI 2) a b c e))) 336 3 (pvI (plI (nI 3) a b c e)) = J at *
      refine ⟨rfl, rfl, ⟨_, rfl, fun _ => ord_cnt hm⟩, by rw [ex _ _ (by omega)]; exact up2_s, ⟨⟨?_, s1.2.1, fun t ht => ?_⟩, ⟨e336, fun t ht => (s2.2 t ht).eq (fun i i1 i2 => ex _ _ (by omega))⟩, ⟨?_, ?_, ?_⟩, s4.eq2 ho h6 (fun i k q => ex _ _ (by omega))⟩, fun i hi => by funext k; rw [ex _ _ (by omega), up2_i (by omega)]⟩
      · rw [ex _ _ (by omega)]; exact s1.1
      · rw [ex _ _ (by omega), ex _ _ (by omega)]; exact s1.2.2 t ht
      · rw [ex _ _ (by omega)]; exact s3.1
      · rw [ex _ _ (by omega)]; exact s3.2.1
      · rw [ex _ _ (by omega)]; exact s3.2.2
    · rw [hm] at h
      have hr : right = 0 := h
      subst hr
      refine Ex_wx [130, 124] 9 oX9_order hw ?_
      refine And.intro (fun _ => ?_) (fun q => absurd rfl q)
      refine Ex_wx [] 9 oX9_order hw ?_
      refine Ex_v (As := [vI 1]) (st := []) (d' := 0) vX9_152 rfl rfl (r_refuse hw) h0 (by omega) rfl (dc_ok oX9_order rfl) ?_
      refine Ex_wx [] 9 oX9_order hw ?_
      rw [← hQ]
      exact rf_no hS ho h6 (by decide)
  refine Mx_in (by decide +kernel) rfl rfl (Ex_bn 9 oX9_order hw ?_)
  show Ex mX9_order d 0 0 Q 14 [some (vS 328), some (vI a), some (vI b), some (vI c), some (vI e), some (vI 0), some (vI 1), some (vI 0), none] [] g (up2 I 328 0 0) L
  refine Ex_wx [51] 9 oX9_order hw ?_
  refine And.intro (fun q => absurd q (by decide)) (fun _ => And.intro (fun _ => ?_) (fun q => absurd rfl q))
  refine r_ordS (k := 0) (o := some 0) hw ⟨rfl, rfl, by omega⟩ ?_
  intro b1 r1 w1 s1
  refine Ex_wx [51] 9 oX9_order hw ?_
  refine And.intro (fun q => absurd q (by decide)) (fun _ => And.intro (fun q => absurd q (by decide)) (fun _ => And.intro (fun _ => ?_) (fun q => absurd rfl q)))
  refine r_ordS (k := 1) hw s1 ?_
  intro b2 r2 w2 s2
  refine Ex_wx [51] 9 oX9_order hw ?_
  refine And.intro (fun q => absurd q (by decide)) (fun _ => And.intro (fun q => absurd q (by decide)) (fun _ => And.intro (fun q => absurd q (by decide)) (fun _ => And.intro (fun _ => ?_) (fun q => absurd rfl q))))
  refine r_ordS (k := 2) hw s2 ?_
  intro b3 r3 w3 s3
  refine Ex_wx [51, 49] 9 oX9_order hw ?_
  refine And.intro (fun q => absurd q (by decide)) (fun _ => And.intro (fun q => absurd q (by decide)) (fun _ => And.intro (fun q => absurd q (by decide)) (fun _ => And.intro (fun q => absurd q (by decide)) (fun _ => ?_))))
  refine Ex_bn 1 oX9_order hw ?_
  refine r_ordS (k := 3) hw s3 ?_
  intro b4 r4 w4 s4
  refine Ex_wx [119] 9 oX9_order hw ?_
  refine And.intro (fun _ => ?_) (fun q => absurd (by decide) q)
  refine h119 b4 r4 w4 ?_
  have e : ((((some 0).bind fun m => wlF m a).bind fun m => wlF m b).bind fun m => wlF m c).bind (fun m => wlF m e) = ordF a b c e := by
    unfold ordF
    show (((wlF 0 a).bind fun m => wlF m b).bind fun m => wlF m c).bind (fun m => wlF m e) = _
    cases wlF 0 a with
    | none => rfl
    | some m1 =>
      show ((wlF m1 b).bind fun m => wlF m c).bind (fun m => wlF m e) = (wlF m1 b).bind _
      cases wlF m1 b with
      | none => rfl
      | some m2 => rfl
  rw [← e]
  exact s4
end ROrd
