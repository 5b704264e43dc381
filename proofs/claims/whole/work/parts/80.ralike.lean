/-! the reference: alike -/
theorem LaR.eq2 {I I' : aI} {la : aLa} (h : LaR I la) (ho : okA la) (hl : rw6 la) (a : ∀ i k, (i = 328 ∧ k = 45) ∨ (kf 1 i k ∧ 353 < i ∧ i ≤ 362) → I' i k = I i k) : LaR I' la := by
  have h9 : LaR (fun i k => if i = 328 ∧ k = 45 ∨ (353 < i ∧ i ≤ 362) then I' i k else I i k) la := by
    refine LaR.eq h ho hl ?_
    intro i k c
    by_cases z : i = 328 ∧ k = 45 ∨ (353 < i ∧ i ≤ 362)
    · show (if _ then _ else _) = _
      rw [if_pos z]
      refine a i k ?_
      rcases z with z | z
      · exact Or.inl z
      · rcases c with c | c
        · exact Or.inl c
        · exact Or.inr ⟨c.1, z⟩
    · show (if _ then _ else _) = _
      rw [if_neg z]
  · cases la with
    | none =>
      have h8 : (if (328 : Nat) = 328 ∧ (45 : Nat) = 45 ∨ (353 < 328 ∧ 328 ≤ 362) then I' 328 45 else I 328 45) = 0 := h9
      rw [if_pos (by omega)] at h8
      exact h8
    | some z =>
      have un : ∀ i k, 353 < i → i ≤ 362 → (fun i k => if i = 328 ∧ k = 45 ∨ (353 < i ∧ i ≤ 362) then I' i k else I i k) i k = I' i k := fun i k h1 h2 => by
        show (if _ then _ else _) = _
        rw [if_pos (Or.inr ⟨h1, h2⟩)]
      obtain ⟨h0, h1, h2, h3, h4⟩ := h9
      rw [un _ _ (by omega) (by omega)] at h1 h2
      refine ⟨?_, h1, h2, fun c => ?_, fun c k r hk => ?_⟩
      · have h8 : (if (328 : Nat) = 328 ∧ (45 : Nat) = 45 ∨ (353 < 328 ∧ 328 ≤ 362) then I' 328 45 else I 328 45) = 1 := h0
        rw [if_pos (by omega)] at h8
        exact h8
      · obtain ⟨c1, c2⟩ := h3 c
        refine ⟨fun i hi => ?_, fun i hi => ?_⟩
        · have := c1 i hi; rw [un _ _ (by omega) (by omega)] at this; exact this
        · have := c2 i hi; rw [un _ _ (by omega) (by omega)] at this; exact this
      · obtain ⟨c1, c2, c3, c4, c5, c6⟩ := h4 c k r hk
        rw [un _ _ (by omega) (by omega)] at c1 c2 c3 c4 c5
        refine ⟨c1, c2, c3, c4, c5, fun i hi => ?_⟩
        have := c6 i hi; rw [un _ _ (by omega) (by omega)] at this; exact this
theorem SR.frame {A : aA} {I I' : aI} (h : SR A I) (ho : okA A.la) (h6 : rw6 A.la) (a : ∀ i k, (329 ≤ i ∧ i ≤ 336) ∨ (i = 328 ∧ (k = 1 ∨ k = 45)) ∨ (kf 1 i k ∧ 353 < i ∧ i ≤ 362) → I' i k = I i k) (hz : I' 337 0 = 0 ∧ I' 338 0 = 0 ∧ I' 339 0 = 0) : SR A I' := by
  obtain ⟨h1, h2, h3, h4⟩ := h
  refine ⟨⟨?_, h1.2.1, fun t ht => ?_⟩, ⟨?_, fun t ht => (h2.2 t ht).eq (fun i i1 i2 => a _ _ (by omega))⟩, hz, h4.eq2 ho h6 (fun i k c => a i k (by rcases c with c | c; exact Or.inr (Or.inl ⟨c.1, Or.inr c.2⟩); exact Or.inr (Or.inr c)))⟩
  · rw [a _ _ (by omega)]; exact h1.1
  · rw [a _ _ (by omega), a _ _ (by omega)]; exact h1.2.2 t ht
  · rw [← h2.1]; funext k; exact a _ _ (by omega)
theorem rowG_len {h1 h2 s l : Int32} {bS bL : Bool} {e : mE} (h : lnF bL e l ≤ 60) : LenOk ((rowG h1 h2 bS s bL e l).2 4) (rowG h1 h2 bS s bL e l).1 ∧ (rowG h1 h2 bS s bL e l).1 ≤ 60 := by
  refine ⟨?_, h⟩
  show LenOk (if bL = true then nI (lnF bL e l) else -1) (lnF bL e l)
  cases bL
  · exact Or.inr ⟨rfl, rfl⟩
  · exact Or.inl ⟨rfl, h⟩
theorem ql_ev {p : Nat → Int32} {B : mB} {lim t : Nat} {s : Int32} {W : (Nat → Int32) × (Nat → Int32) × (Nat → Int32)} (hlim : lim ≤ 2000) : ql p (evA p B lim t s W) := by
  have hok := evA_ok (p := p) (B := B) (s := s) (W := W) (lim := lim) (t := t)
  have hlg := ev_log (F := flF p) (B := B) hlim 30 t (fun _ => 0) (e0F W.1 W.2.1 W.2.2 s) e0_invE e0_invL
  change okL _ (evA p B lim t s W) at hlg
  generalize evA p B lim t s W = q at *
  have hus : mE.us q.2.2 ≤ 2001 := hok.2.1.us hlim
  refine ⟨fun c => (hok.2.2 c).1, fun _ => rowG_len (ln_ok hlg.1 hus hlg.1.2).1, fun c k r hr => rowG_len (ln_ok hlg.1 hus (hlg.2.2 r (List.mem_of_getElem? hr))).1⟩
theorem SpR.eq {I I' : aI} {p : Nat → Int32} {q : mO} (h : SpR I p q) (a : ∀ i k, 363 ≤ i → i ≤ 370 → I' i k = I i k) : SpR I' p q := by
  obtain ⟨h1, h2, h3⟩ := h
  refine ⟨by rw [a _ _ (by omega) (by omega)]; exact h1, fun c => ⟨fun i hi => ?_, fun i hi => ?_⟩, fun c k r hr => ?_⟩
  · rw [a _ _ (by omega) (by omega)]; exact (h2 c).1 i hi
  · rw [a _ _ (by omega) (by omega)]; exact (h2 c).2 i hi
  · obtain ⟨c1, c2, c3, c4, c5, c6⟩ := h3 c k r hr
    refine ⟨by rw [a _ _ (by omega) (by omega)]; exact c1, by rw [a _ _ (by omega) (by omega)]; exact c2, by rw [a _ _ (by omega) (by omega)]; exact c3, by rw [a _ _ (by omega) (by omega)]; exact c4, by rw [a _ _ (by omega) (by omega)]; exact c5, fun i hi => by rw [a _ _ (by omega) (by omega)]; exact c6 i hi⟩
section RAlike
variable {lx ly : Nat} {g : aG} {I : aI} {L : aL} {d : Nat} {A A' : aA} {x y z s code val : Int32}
theorem q_alike (hw : WS lx ly g) (hS : SR A I) (hP : SP A) (h6 : rw6 A.la) (hR : alR A x y s z code val A') (hd : 8 ≤ d) : Mx mX9_alike d 0 0 [vS 328, vI x, vI y, vI s, vI z] g I L (rfQ code val A' g I L) := by
  have h0 := (hw 328 _ rfl).2.1
  have ho := hP.1
  have h1 := hS.thr (v := 0) ho h6
  obtain ⟨rfl, hR⟩ := hR
  have h21 : ¬ (tmP A'.cnt x ∧ tmP A'.cnt y) → Ex mX9_alike d 0 0 (rfQ code val A' g I L) 21 [some (vS 328), some (vI x), some (vI y), some (vI s), some (vI z)] [] g (up2 I 328 0 0) L := by
    intro hn
    rcases hR with ⟨-, c, -⟩ | ⟨rfl, -⟩ | ⟨-, c, -⟩ | ⟨-, c, -⟩
    · exact absurd c hn
    rotate_left
    · exact absurd c hn
    · exact absurd c hn
    refine Ex_wx [] 9 oX9_alike hw ?_
    refine Ex_v (As := [vI 1]) (st := []) (d' := 0) vX9_152 rfl rfl (r_refuse hw) h0 (by omega) rfl (dc_ok oX9_alike rfl) ?_
    refine Ex_wx [] 9 oX9_alike hw ?_
    exact And.intro (fun _ => ⟨Or.inl rfl, rf_no hS ho h6 (by decide)⟩) (fun c => absurd (by decide) c)
  refine Mx_in (by decide +kernel) rfl rfl (Ex_wx [] 9 oX9_alike hw ?_)
  refine Ex_l (As := [vI x]) (st := []) (d' := 0) vX9_164 rfl rfl (r_isTerm hw h1.1.1) h0 (by omega) rfl (dc_ok oX9_alike rfl) (fun q1 => ?_) (fun q1 => ?_)
  rotate_left
  · refine Ex_wx [21, 13] 9 oX9_alike hw ?_
    exact And.intro (fun _ => h21 (fun c => q1 c.1)) (fun c => absurd rfl c)
  refine Ex_wx [21, 13] 9 oX9_alike hw ?_
  refine And.intro (fun c => absurd c (by decide)) (fun _ => ?_)
  refine Ex_wx [] 9 oX9_alike hw ?_
  refine Ex_l (As := [vI y]) (st := []) (d' := 0) vX9_164 rfl rfl (r_isTerm hw h1.1.1) h0 (by omega) rfl (dc_ok oX9_alike rfl) (fun q1' => ?_) (fun q1' => ?_)
  rotate_left
  · refine Ex_wx [21, 35] 9 oX9_alike hw ?_
    exact And.intro (fun _ => h21 (fun c => q1' c.2)) (fun c => absurd rfl c)
  refine Ex_wx [21, 35] 9 oX9_alike hw ?_
  refine And.intro (fun c => absurd c (by decide)) (fun _ => ?_)
  have h49 : ¬ stP z → Ex mX9_alike d 0 0 (rfQ code val A' g I L) 49 [some (vS 328), some (vI x), some (vI y), some (vI s), some (vI z)] [] g (up2 I 328 0 0) L := by
    intro q2
    rcases hR with ⟨-, -, c, -⟩ | ⟨-, c⟩ | ⟨rfl, -, -⟩ | ⟨-, -, c, -⟩
    · exact absurd c q2
    · exact absurd ⟨q1, q1'⟩ c
    rotate_left
    · exact absurd c q2
    refine Ex_wx [] 9 oX9_alike hw ?_
    refine Ex_v (As := [vI 2]) (st := []) (d' := 0) vX9_152 rfl rfl (r_refuse hw) h0 (by omega) rfl (dc_ok oX9_alike rfl) ?_
    refine Ex_wx [] 9 oX9_alike hw ?_
    exact And.intro (fun _ => ⟨Or.inl rfl, rf_no hS ho h6 (by decide)⟩) (fun c => absurd (by decide) c)
  refine Ex_wx [49, 41] 9 oX9_alike hw ?_
  refine And.intro (fun c => h49 (fun q => absurd q.1 (Int32.not_le.mpr c))) (fun c1 => ?_)
  refine Ex_wx [49, 63] 9 oX9_alike hw ?_
  refine And.intro (fun c2 => ?_) (fun c2 => h49 (fun q => c2 q.2))
  have q2 : stP z := ⟨Int32.not_lt.mp c1, c2⟩
  have h79 : ¬ (lkP A'.p (A'.nd x.toNatClampNeg) ∧ lkP A'.p (A'.nd y.toNatClampNeg)) → Ex mX9_alike d 0 0 (rfQ code val A' g I L) 79 [some (vS 328), some (vI x), some (vI y), some (vI s), some (vI z)] [] g (up2 I 328 0 0) L := by
    intro q3
    rcases hR with ⟨-, -, -, c, -⟩ | ⟨-, c⟩ | ⟨-, -, c⟩ | ⟨rfl, -, -, -⟩
    · exact absurd c q3
    · exact absurd ⟨q1, q1'⟩ c
    · exact absurd q2 c
    refine Ex_wx [] 9 oX9_alike hw ?_
    refine Ex_v (As := [vI 3]) (st := []) (d' := 0) vX9_152 rfl rfl (r_refuse hw) h0 (by omega) rfl (dc_ok oX9_alike rfl) ?_
    refine Ex_wx [] 9 oX9_alike hw ?_
    exact And.intro (fun _ => ⟨Or.inl rfl, rf_no hS ho h6 (by decide)⟩) (fun c => absurd (by decide) c)
  refine Ex_wx [] 9 oX9_alike hw ?_
  refine Ex_l (As := [vI x]) (st := []) (d' := 1) vX9_278 rfl rfl (r_lacks hw h1.1 h1.2.1.1 q1 (by omega)) h0 (by omega) rfl (dc_ok oX9_alike rfl) (fun q3 => ?_) (fun q3 => ?_)
  · refine Ex_wx [79, 71] 9 oX9_alike hw ?_
    exact And.intro (fun c => absurd c (by decide)) (fun _ => h79 (fun c => q3 c.1))
  refine Ex_wx [79, 71] 9 oX9_alike hw ?_
  refine And.intro (fun _ => ?_) (fun c => absurd rfl c)
  refine Ex_wx [] 9 oX9_alike hw ?_
  refine Ex_l (As := [vI y]) (st := []) (d' := 1) vX9_278 rfl rfl (r_lacks hw h1.1 h1.2.1.1 q1' (by omega)) h0 (by omega) rfl (dc_ok oX9_alike rfl) (fun q3' => ?_) (fun q3' => ?_)
  · refine Ex_wx [93, 79] 9 oX9_alike hw ?_
    exact And.intro (fun c => absurd c (by decide)) (fun _ => h79 (fun c => q3' c.2))
  refine Ex_wx [93, 79] 9 oX9_alike hw ?_
  refine And.intro (fun _ => ?_) (fun c => absurd rfl c)
  have q4 := Classical.byContradiction q3
  have q4' := Classical.byContradiction q3'
  rcases hR with ⟨rfl, -, -, -, W, W', hv⟩ | ⟨-, c⟩ | ⟨-, -, c⟩ | ⟨-, -, -, c⟩
  rotate_left
  · exact absurd ⟨q1, q1'⟩ c
  · exact absurd q2 c
  · exact absurd ⟨q4, q4'⟩ c
  obtain ⟨t, ht, ex⟩ := q1.idx h1.1.2.1
  obtain ⟨u, hu, ey⟩ := q1'.idx h1.1.2.1
  obtain ⟨lim, hlim, ez⟩ := q2.idx
  have hp4 := hP.2.2.2
  have ex2 : x.toNatClampNeg = t := by rw [ex]; exact clN (by omega)
  have ey2 : y.toNatClampNeg = u := by rw [ey]; exact clN (by omega)
  have ez2 : z.toNatClampNeg = lim := by rw [ez]; exact clN (by omega)
  rw [ex2] at q4
  rw [ey2] at q4'
  rw [ex2, ey2, ez2] at hv
  refine Ex_wx [] 9 oX9_alike hw ?_
  refine r_doKeep (W := W) (w := 1) (u := 1) rfl hw h1 hP ex ht ez hlim q4 rfl (by omega) hd (dc_ok oX9_alike rfl) ?_
  intro I1 hD hK
  refine Ex_wx [] 9 oX9_alike hw ?_
  refine Ex_r (As := [vI 1]) (st := []) vX9_285 rfl rfl hK h0 (by omega) rfl (dc_ok oX9_alike rfl) ?_
  rintro I2 ⟨k1, k2⟩
  refine Ex_wx [] 9 oX9_alike hw ?_
  refine Ex_r (As := []) (st := []) (d' := 0) vX9_291 rfl rfl (r_lay hw k1 (ql_ev hlim)) h0 (by omega) rfl (dc_ok oX9_alike rfl) ?_
  rintro I3 ⟨l1, l2⟩
  have fr3 : ∀ i k, kq i k → kf 1 i k → i < 363 ∨ 370 < i → I3 i k = up2 I 328 0 0 i k := fun i k a b c => by rw [l2 i k c, k2 i k b]; exact hD.1 i k a
  obtain ⟨z1, z2, z3⟩ := hD.z
  have hS3 : SR A' I3 := h1.frame ho h6 (fun i k c => fr3 i k (by unfold kq; omega) (by rcases c with c | c | c; exact Or.inl (by omega); exact Or.inl (by omega); exact c.1) (by omega)) ⟨by rw [l2 _ _ (by omega), k2 _ _ (Or.inl (by omega))]; exact z1, by rw [l2 _ _ (by omega), k2 _ _ (Or.inl (by omega))]; exact z2, by rw [l2 _ _ (by omega), k2 _ _ (Or.inl (by omega))]; exact z3⟩
  refine Ex_wx [] 9 oX9_alike hw ?_
  refine r_doKeep (W := W') (w := 1) (u := 1) rfl hw hS3 hP ey hu ez hlim q4' rfl (by omega) hd (dc_ok oX9_alike rfl) ?_
  intro I4 hD2 hK2
  refine Ex_wx [] 9 oX9_alike hw ?_
  refine Ex_r (As := [vI 1]) (st := []) vX9_285 rfl rfl hK2 h0 (by omega) rfl (dc_ok oX9_alike rfl) ?_
  rintro I5 ⟨m1, m2⟩
  have fr5 : ∀ i k, kq i k → kf 1 i k → I5 i k = I3 i k := fun i k a b => by rw [m2 i k b]; exact hD2.1 i k a
  obtain ⟨y1, y2, y3⟩ := hD2.z
  have hS5 : SR A' I5 := hS3.frame ho h6 (fun i k c => fr5 i k (by unfold kq; omega) (by rcases c with c | c | c; exact Or.inl (by omega); exact Or.inl (by omega); exact c.1)) ⟨by rw [m2 _ _ (Or.inl (by omega))]; exact y1, by rw [m2 _ _ (Or.inl (by omega))]; exact y2, by rw [m2 _ _ (Or.inl (by omega))]; exact y3⟩
  have hsp : SpR I5 A'.p (evA A'.p A'.B lim t s W) := l1.eq (fun i k a b => fr5 i k (by unfold kq; omega) (by unfold kf; omega))
  have k1' := evA_ok (p := A'.p) (B := A'.B) (s := s) (W := W) (lim := lim) (t := t)
  have k2' := evA_ok (p := A'.p) (B := A'.B) (s := s) (W := W') (lim := lim) (t := u)
  have e0 : I5 328 0 = 0 := by
    rw [fr5 _ _ (by unfold kq; omega) (by unfold kf; omega), fr3 _ _ (by unfold kq; omega) (by unfold kf; omega) (by omega)]
    exact up2_s
  have eF : FrR I I5 := fun i hi => by
    funext k
    rw [fr5 _ _ (by unfold kq; omega) (by unfold kf; omega), fr3 _ _ (by unfold kq; omega) (by unfold kf; omega) (by omega), up2_i (by omega)]
  refine Ex_wx [] 9 oX9_alike hw ?_
  refine Ex_l (As := []) (st := []) (d' := 0) vX9_294 rfl rfl (r_isAsLaid hw hsp m1 (ql_ev hlim) (ql_ev hlim) k1'.1 k2'.1) h0 (by omega) rfl (dc_ok oX9_alike rfl) (fun hy => ?_) (fun hy => ?_)
  · refine Ex_wx [] 9 oX9_alike hw ?_
    refine ⟨Or.inr rfl, rfl, rfl, ⟨1, rfl, fun _ => ?_⟩, e0, hS5, eF⟩
    rcases hv with ⟨rfl, -⟩ | ⟨-, c⟩
    · rfl
    · exact absurd hy c
  · refine Ex_wx [] 9 oX9_alike hw ?_
    refine ⟨Or.inl rfl, rfl, rfl, ⟨0, rfl, fun _ => ?_⟩, e0, hS5, eF⟩
    rcases hv with ⟨-, c⟩ | ⟨rfl, -⟩
    · exact absurd c hy
    · rfl
end RAlike
