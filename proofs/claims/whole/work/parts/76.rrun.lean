/-! the reference: terms, needs, run -/
def lkB (p : Nat → Int32) (n : Nat) : Nat → Bool
  | 0 => false
  | l + 1 => lkB p n l || (n.testBit l && !hsF p l)
theorem lkB_iff {p : Nat → Int32} {n : Nat} : ∀ l, lkB p n l = true ↔ ¬ ∀ j, j < l → n.testBit j = true → hsF p j = true
  | 0 => ⟨fun h => (by cases h), fun h => absurd (fun j hj => absurd hj (Nat.not_lt_zero _)) h⟩
  | l + 1 => by
    show (lkB p n l || (n.testBit l && !hsF p l)) = true ↔ _
    rw [Bool.or_eq_true, lkB_iff l]
    constructor
    · rintro (h | h) q
      · exact h (fun j hj => q j (by omega))
      · rw [Bool.and_eq_true, Bool.not_eq_true'] at h
        have := q l (by omega) h.1
        rw [h.2] at this
        cases this
    · intro h
      by_cases c : n.testBit l = true ∧ hsF p l = false
      · right
        rw [c.1, c.2]; rfl
      · left
        intro q
        refine h (fun j hj hb => ?_)
        by_cases e : j = l
        · subst e
          cases hh : hsF p j with
          | true => rfl
          | false => exact absurd ⟨hb, hh⟩ c
        · exact q j (by omega) hb
theorem bit16 : ∀ n, n < 16 → ∀ l, l < 4 → ((nI n >>> (nI l &&& 31)) &&& 1 = 1 ↔ n.testBit l = true) := by decide +kernel
theorem bI_or2 (a b : Bool) : bI a ||| bI b = bI (a || b) := by cases a <;> cases b <;> rfl
theorem kb4 {k : Nat} {p : Nat → Int32} (h : lkP p (kbN k)) : (k = 4 ∨ k = 8 → hsF p 2 = true) ∧ (k = 13 → hsF p 1 = true) := by
  refine ⟨fun c => h 2 (by omega) ?_, fun c => h 1 (by omega) ?_⟩
  · rcases c with rfl | rfl <;> decide
  · subst c; decide
theorem nb_okB {B : mB} {nd : Nat → Nat} {cnt : Nat} {p : Nat → Int32} (h : Nb B nd cnt) : okB p B cnt (fun t => lkP p (nd t)) := by
  intro t ht hk
  obtain ⟨h1, h2, h3⟩ := h t ht p hk
  exact ⟨(kb4 h1).1, (kb4 h1).2, h2, h3⟩
theorem DoP.z {F : mF} {lim : Nat} {q : mO} {I I' : aI} (h : DoP F lim q I I') : I' 337 0 = 0 ∧ I' 338 0 = 0 ∧ I' 339 0 = 0 := by
  rcases h.2 with ⟨-, h, -⟩ | ⟨-, -, -, -, -, h⟩ | ⟨-, h⟩
  · exact h.2.2.1
  · exact h.2.1
  · obtain ⟨-, e, -, -, -, h⟩ := h
    exact h.2.1
section RRun
variable {lx ly : Nat} {g : aG} {I : aI} {L : aL} {d : Nat} {A A' : aA} {x y z s code val : Int32}
theorem rf_no {cc : Int32} (hS : SR A I) (ho : okA A.la) (h6 : rw6 A.la) (hc : cc ≠ 0) : rfQ cc val A g I L (.inl (some (vI 0))) g (up2 (up2 I 328 0 0) 328 0 cc) L := by
  refine ⟨rfl, rfl, ⟨0, rfl, fun q => absurd q hc⟩, up2_s, by rw [up2_up]; exact hS.thr ho h6, fun i hi => ?_⟩
  funext k
  rw [up2_i (by omega), up2_i (by omega)]
theorem FrR.thr {v : Int32} : FrR I (up2 I 328 0 v) := fun i hi => by funext k; exact up2_i (by omega)
theorem q_terms (hw : WS lx ly g) (hS : SR A I) (ho : okA A.la) (h6 : rw6 A.la) : Mx mX9_terms d 0 0 [vS 328] g I L (rfQ 0 (nI A.cnt) A g I L) := by
  refine Mx_in (by decide +kernel) rfl rfl (Ex_wx [] 9 oX9_terms hw ?_)
  refine ⟨rfl, rfl, ⟨_, rfl, fun _ => ?_⟩, up2_s, hS.thr ho h6, FrR.thr⟩
  rw [up2_k (by omega)]
  exact hS.1.1
theorem q_needs (hw : WS lx ly g) (hS : SR A I) (ho : okA A.la) (h6 : rw6 A.la) (hR : neR A x code val A') (hd : 1 ≤ d) : Mx mX9_needs d 0 0 [vS 328, vI x] g I L (rfQ code val A' g I L) := by
  have h0 := (hw 328 _ rfl).2.1
  have h1 := hS.thr (v := 0) ho h6
  obtain ⟨rfl, hR⟩ := hR
  refine Mx_in (by decide +kernel) rfl rfl (Ex_wx [] 9 oX9_needs hw ?_)
  refine Ex_l (As := [vI x]) (st := []) (d' := 0) vX9_164 rfl rfl (r_isTerm hw h1.1.1) h0 (by omega) rfl (dc_ok oX9_needs rfl) (fun q1 => ?_) (fun q1 => ?_)
  · rcases hR with ⟨rfl, -, rfl⟩ | ⟨-, c⟩
    rotate_left
    · exact absurd q1 c
    obtain ⟨i1, i2, i3, i4, i5, i6, i7⟩ := h1.1.fa q1
    refine Ex_wx [22, 13] 9 oX9_needs hw ?_
    refine And.intro (fun c => absurd c (by decide)) (fun _ => ?_)
    refine Ex_wx [] 9 oX9_needs hw ?_
    refine And.intro i1 ⟨rfl, rfl, ⟨_, rfl, fun _ => i2⟩, up2_s, h1, FrR.thr⟩
  · rcases hR with ⟨-, c, -⟩ | ⟨rfl, -⟩
    · exact absurd c q1
    refine Ex_wx [22, 13] 9 oX9_needs hw ?_
    refine And.intro (fun _ => ?_) (fun c => absurd rfl c)
    refine Ex_wx [] 9 oX9_needs hw ?_
    refine Ex_v (As := [vI 1]) (st := []) (d' := 0) vX9_152 rfl rfl (r_refuse hw) h0 (by omega) rfl (dc_ok oX9_needs rfl) ?_
    refine Ex_wx [] 9 oX9_needs hw ?_
    exact rf_no hS ho h6 (by decide)
theorem r_lacks (hw : WS lx ly g) (h : MR I A.hg A.nd A.cnt) (hp : I 336 = A.p) (hx : tmP A.cnt x) (hd : 1 ≤ d) : Mx mX9_lacks d 0 0 [vS 328, vI x] g I L (lQ (¬ lkP A.p (A.nd x.toNatClampNeg)) g I L) := by
  have h0 := (hw 328 _ rfl).2.1
  obtain ⟨i1, i2, i3, i4, i5, i6, i7⟩ := h.fa hx
  generalize A.nd x.toNatClampNeg = n at *
  have hloop : ∀ (m l : Nat), l + m = 4 → Ex mX9_lacks d 0 0 (lQ (¬ lkP A.p n) g I L) 4 [some (vS 328), some (vI x), some (vI (bI (lkB A.p n l))), some (vI (nI l))] [] g I L := by
    intro m
    induction m with
    | zero =>
      intro l hl
      have e : l = 4 := by omega
      subst e
      refine Ex_wx [45, 9] 9 oX9_lacks hw ?_
      refine And.intro (fun _ => ?_) (fun c => absurd (by decide) c)
      refine Ex_wx [] 9 oX9_lacks hw ?_
      refine ⟨bI_or _, rfl, rfl, rfl, ?_⟩
      cases hb : lkB A.p n 4 with
      | true => exact Or.inl ⟨rfl, (lkB_iff 4).mp hb⟩
      | false =>
        refine Or.inr ⟨rfl, fun c => ?_⟩
        have := (lkB_iff 4).mpr c
        rw [hb] at this
        cases this
    | succ m ih =>
      intro l hl
      have h37 : ∀ v, v = bI (n.testBit l && !hsF A.p l) → Ex mX9_lacks d 0 0 (lQ (¬ lkP A.p n) g I L) 37 [some (vS 328), some (vI x), some (vI (bI (lkB A.p n l))), some (vI (nI l))] [vI v, vI (bI (lkB A.p n l))] g I L := by
        rintro v rfl
        refine Ex_wx [4] 9 oX9_lacks hw ?_
        show Ex mX9_lacks d 0 0 _ 4 [some (vS 328), some (vI x), some (vI (bI (lkB A.p n l) ||| bI (n.testBit l && !hsF A.p l))), some (vI (nI l + 1))] [] g I L
        rw [bI_or2, ← nI_succ]
        exact ih (l + 1) (by omega)
      refine Ex_wx [45, 9] 9 oX9_lacks hw ?_
      refine And.intro (fun c => absurd (show nI 4 ≤ nI l from c) (nI_ge (by omega) (by omega))) (fun _ => ?_)
      refine Ex_wx [36, 24] 9 oX9_lacks hw ?_
      refine And.intro i1 ?_
      rw [i2]
      refine And.intro (fun c => ?_) (fun c => ?_)
      · have c1 := (bit16 n i3 l (by omega)).mp c
        refine Ex_wx [] 9 oX9_lacks hw ?_
        have hX : Mx mX9_has 0 0 0 [vS 328, vI (nI l)] g I L (qV (some (vI (bI (hsF A.p l)))) g I L) := by
          rw [← hp]; exact r_has hw rfl (by omega)
        refine Ex_v (As := [vI (nI l)]) (st := [vI (bI (lkB A.p n l))]) (d' := 0) vX9_175 rfl rfl hX h0 (by omega) rfl (dc_ok oX9_lacks rfl) ?_
        refine Ex_wx [36, 32] 9 oX9_lacks hw ?_
        refine And.intro (fun c2 => ?_) (fun c2 => ?_)
        · refine Ex_wx [37] 9 oX9_lacks hw ?_
          exact h37 1 (by rw [c1, bI_eq c2]; rfl)
        · refine Ex_bn 1 oX9_lacks hw ?_
          exact h37 0 (by rw [c1, bI_ne c2]; rfl)
      · have c1 : n.testBit l = false := by
          cases hb : n.testBit l with
          | false => rfl
          | true => exact absurd ((bit16 n i3 l (by omega)).mpr hb) c
        refine Ex_bn 1 oX9_lacks hw ?_
        exact h37 0 (by rw [c1]; rfl)
  refine Mx_in (by decide +kernel) rfl rfl (Ex_bn 4 oX9_lacks hw ?_)
  exact hloop 4 0 rfl
/-- doing a TERM, and keeping what came -/
theorem r_doKeep {M : aM} {pc w t lim : Nat} {W : (Nat → Int32) × (Nat → Int32) × (Nat → Int32)} {u : Int32} {lo : List (Option aV)} {Q : aQ} (hM : M.y.cls = RX9) (hw : WS lx ly g) (hS : SR A I) (hP : SP A) (hx : x = nI t) (ht : t < A.cnt) (hz : z = nI lim) (hlim : lim ≤ 2000) (hk : lkP A.p (A.nd t)) (hu : u = nI w) (hw2 : w < 2) (hd : 8 ≤ d)
    (d1 : decode M.cc pc = .ok (.invokevirtual 281, 3)) (kk : ∀ I1, DoP (flF A.p) lim (evA A.p A.B lim t s W) I I1 → (Mx mX9_keep 3 0 0 [vS 328, vI u] g I1 L (rQ g L (fun I' => KeptR I' w A.p (evA A.p A.B lim t s W) ∧ ∀ i c, kf w i c → I' i c = I1 i c))) → Ex M d 0 0 Q (pc + 3) lo [] g I1 L) :
    Ex M d 0 0 Q pc lo [vI z, vI s, vI x, vS 328] g I L := by
  subst hx hz
  have h0 := (hw 328 _ rfl).2.1
  obtain ⟨p1, p2, p3, p4⟩ := hP
  obtain ⟨s1, s2, s3, s4⟩ := hS
  have hh := (s1.2.2 t ht).2.1
  have hdo := r_doIt (lx := lx) (ly := ly) (g := g) (I := I) (L := L) (p := A.p) (B := A.B) (hg := A.hg) (cnt := A.cnt) (lim := lim) (t := t) (f := 30) (okT := fun t => lkP A.p (A.nd t)) (s := s) (nu := W.1) (be := W.2.1) (le := W.2.2) ⟨hw, hlim, p4, p2, nb_okB p3⟩ ht hk hh hh s2 s3
  refine Ex_r (As := [vI (nI t), vI s, vI (nI lim)]) (st := []) vX9_281 hM rfl hdo h0 (by omega) rfl d1 ?_
  intro I1 hD
  refine kk I1 hD ?_
  have hok := evA_ok (p := A.p) (B := A.B) (s := s) (W := W) (lim := lim) (t := t)
  have hlg := ev_log (F := flF A.p) (B := A.B) hlim 30 t (fun _ => 0) (e0F W.1 W.2.1 W.2.2 s) e0_invE e0_invL
  exact r_keep hw (by rw [← s2.1]; funext c; exact hD.1 336 c (Or.inl (by omega))) hu hw2 hok hlim hlg.1 hlg.2.2 (by omega) hD.2
theorem q_run (hw : WS lx ly g) (hS : SR A I) (hP : SP A) (h6 : rw6 A.la) (hR : ruR A x s z code val A') (hd : 8 ≤ d) : Mx mX9_run d 0 0 [vS 328, vI x, vI s, vI z] g I L (rfQ code val A' g I L) := by
  have h0 := (hw 328 _ rfl).2.1
  have ho := hP.1
  have h1 := hS.thr (v := 0) ho h6
  refine Mx_in (by decide +kernel) rfl rfl (Ex_wx [] 9 oX9_run hw ?_)
  refine Ex_l (As := [vI x]) (st := []) (d' := 0) vX9_164 rfl rfl (r_isTerm hw h1.1.1) h0 (by omega) rfl (dc_ok oX9_run rfl) (fun q1 => ?_) (fun q1 => ?_)
  rotate_left
  · rcases hR with ⟨-, c, -⟩ | ⟨rfl, -, rfl⟩ | ⟨-, c, -⟩ | ⟨-, c, -⟩
    · exact absurd c q1
    rotate_left
    · exact absurd c q1
    · exact absurd c q1
    refine Ex_wx [19, 13] 9 oX9_run hw ?_
    refine And.intro (fun _ => ?_) (fun c => absurd rfl c)
    refine Ex_wx [] 9 oX9_run hw ?_
    refine Ex_v (As := [vI 1]) (st := []) (d' := 0) vX9_152 rfl rfl (r_refuse hw) h0 (by omega) rfl (dc_ok oX9_run rfl) ?_
    refine Ex_wx [] 9 oX9_run hw ?_
    exact rf_no hS ho h6 (by decide)
  refine Ex_wx [19, 13] 9 oX9_run hw ?_
  refine And.intro (fun c => absurd c (by decide)) (fun _ => ?_)
  have h31 : ¬ stP z → Ex mX9_run d 0 0 (rfQ code val A' g I L) 31 [some (vS 328), some (vI x), some (vI s), some (vI z)] [] g (up2 I 328 0 0) L := by
    intro q2
    rcases hR with ⟨-, -, c, -⟩ | ⟨-, c, -⟩ | ⟨rfl, -, -, rfl⟩ | ⟨-, -, c, -⟩
    · exact absurd c q2
    · exact absurd q1 c
    rotate_left
    · exact absurd c q2
    refine Ex_wx [] 9 oX9_run hw ?_
    refine Ex_v (As := [vI 2]) (st := []) (d' := 0) vX9_152 rfl rfl (r_refuse hw) h0 (by omega) rfl (dc_ok oX9_run rfl) ?_
    refine Ex_wx [] 9 oX9_run hw ?_
    exact rf_no hS ho h6 (by decide)
  refine Ex_wx [31, 24] 9 oX9_run hw ?_
  refine And.intro (fun c => h31 (fun q => absurd q.1 (Int32.not_le.mpr c))) (fun c1 => ?_)
  refine Ex_wx [31, 37] 9 oX9_run hw ?_
  refine And.intro (fun c2 => ?_) (fun c2 => h31 (fun q => c2 q.2))
  have q2 : stP z := ⟨Int32.not_lt.mp c1, c2⟩
  refine Ex_wx [] 9 oX9_run hw ?_
  refine Ex_l (As := [vI x]) (st := []) (d' := 1) vX9_278 rfl rfl (r_lacks hw h1.1 h1.2.1.1 q1 (by omega)) h0 (by omega) rfl (dc_ok oX9_run rfl) (fun q3 => ?_) (fun q3 => ?_)
  · rcases hR with ⟨-, -, -, c, -⟩ | ⟨-, c, -⟩ | ⟨-, -, c, -⟩ | ⟨rfl, -, -, -, rfl⟩
    · exact absurd c q3
    · exact absurd q1 c
    · exact absurd q2 c
    refine Ex_wx [51, 45] 9 oX9_run hw ?_
    refine And.intro (fun c => absurd c (by decide)) (fun _ => ?_)
    refine Ex_wx [] 9 oX9_run hw ?_
    refine Ex_v (As := [vI 3]) (st := []) (d' := 0) vX9_152 rfl rfl (r_refuse hw) h0 (by omega) rfl (dc_ok oX9_run rfl) ?_
    refine Ex_wx [] 9 oX9_run hw ?_
    exact rf_no hS ho h6 (by decide)
  · have q4 := Classical.byContradiction q3
    rcases hR with ⟨rfl, -, -, -, W, rfl, rfl⟩ | ⟨-, c, -⟩ | ⟨-, -, c, -⟩ | ⟨-, -, -, c, -⟩
    rotate_left
    · exact absurd q1 c
    · exact absurd q2 c
    · exact absurd q4 c
    obtain ⟨t, ht, ex⟩ := q1.idx h1.1.2.1
    obtain ⟨lim, hlim, ez⟩ := q2.idx
    have hp4 := hP.2.2.2
    have ex2 : x.toNatClampNeg = t := by rw [ex]; exact clN (by omega)
    have ez2 : z.toNatClampNeg = lim := by rw [ez]; exact clN (by omega)
    rw [ex2] at q4
    rw [ex2, ez2]
    refine Ex_wx [51, 45] 9 oX9_run hw ?_
    refine And.intro (fun _ => ?_) (fun c => absurd rfl c)
    refine Ex_wx [] 9 oX9_run hw ?_
    refine r_doKeep (W := W) (w := 0) (u := 0) rfl hw h1 hP ex ht ez hlim q4 rfl (by omega) hd (dc_ok oX9_run rfl) ?_
    intro I1 hD hK
    refine Ex_wx [] 9 oX9_run hw ?_
    refine Ex_r (As := [vI 0]) (st := []) vX9_285 rfl rfl hK h0 (by omega) rfl (dc_ok oX9_run rfl) ?_
    rintro I2 ⟨k1, k2⟩
    refine Ex_wx [] 9 oX9_run hw ?_
    refine And.intro (Or.inr rfl) ?_
    refine And.intro (show vp_in (nI 0) 12 from inN (by omega) (by omega)) ?_
    have fr : ∀ i k, kq i k → i < 354 ∨ 362 < i → ¬ (i = 328 ∧ k = 45) → up2 I2 328 45 1 i k = up2 I 328 0 0 i k := by
      intro i k a b c
      rw [up2_n (by omega), k2 i k (by unfold kf; omega)]
      exact hD.1 i k a
    obtain ⟨z1, z2, z3⟩ := hD.z
    obtain ⟨s1, s2, s3, s4⟩ := h1
    refine ⟨rfl, rfl, ⟨_, rfl, fun _ => ?_⟩, ?_, ⟨⟨?_, s1.2.1, fun t ht => ?_⟩, ⟨?_, fun t ht => ?_⟩, ⟨?_, ?_, ?_⟩, ?_, ?_⟩, fun i hi => ?_⟩
    · show up2 I2 328 45 1 361 0 = _
      rw [up2_i (by omega)]; exact k1.2.1
    · rw [fr _ _ (by unfold kq; omega) (by omega) (by omega)]; exact up2_s
    · rw [fr _ _ (by unfold kq; omega) (by omega) (by omega)]; exact s1.1
    · rw [fr _ _ (by unfold kq; omega) (by omega) (by omega), fr _ _ (by unfold kq; omega) (by omega) (by omega)]; exact s1.2.2 t ht
    · show up2 I2 328 45 1 336 = A.p
      rw [← s2.1]; funext k; exact fr _ _ (by unfold kq; omega) (by omega) (by omega)
    · exact (s2.2 t ht).eq (fun i i1 i2 => fr _ _ (by unfold kq; omega) (by omega) (by omega))
    · rw [up2_i (by omega), k2 _ _ (by unfold kf; omega)]; exact z1
    · rw [up2_i (by omega), k2 _ _ (by unfold kf; omega)]; exact z2
    · rw [up2_i (by omega), k2 _ _ (by unfold kf; omega)]; exact z3
    · exact up2_s
    · obtain ⟨y1, y2, y3, y4⟩ := k1
      refine ⟨by rw [up2_i (by omega)]; exact y1, by rw [up2_i (by omega)]; exact y2, fun c => ?_, fun c k r hk => ?_⟩
      · obtain ⟨c1, c2⟩ := y3 c
        exact ⟨fun i hi => by rw [up2_i (by omega)]; exact c1 i hi, fun i hi => by rw [up2_i (by omega)]; exact c2 i hi⟩
      · obtain ⟨c1, c2, c3, c4, c5, c6⟩ := y4 c k r hk
        exact ⟨by rw [up2_i (by omega)]; exact c1, by rw [up2_i (by omega)]; exact c2, by rw [up2_i (by omega)]; exact c3, by rw [up2_i (by omega)]; exact c4, by rw [up2_i (by omega)]; exact c5, fun i hi => by rw [up2_i (by omega)]; exact c6 i hi⟩
    · funext k
      rw [fr _ _ (by unfold kq; omega) (by omega) (by omega), up2_i (by omega)]
end RRun
