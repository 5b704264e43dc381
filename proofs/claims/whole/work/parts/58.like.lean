/-! the class: what is told alike -/
/-- it answers whether P -/
def lQ (P : Prop) (g : aG) (I : aI) (L : aL) : aQ := fun o g' I' L' => g' = g ∧ I' = I ∧ L' = L ∧ ((o = .inl (some (vI 1)) ∧ P) ∨ (o = .inl (some (vI 0)) ∧ ¬ P))
section UseL
variable {M N : aM} {d d' : Nat} {Q : aQ} {pc idx n ci i : Nat} {own : String} {lo : List (Option aV)} {st As : List aV} {g : aG} {I : aI} {L : aL} {P : Prop}
theorem Ex_l (ok : vOk own N idx n ci) (ho : M.y.cls = own) (hn : As.length = n) (hM : Mx N d' 0 0 (vS i :: As) g I L (lQ P g I L)) (hi : g.2.1 i = some (.inl ci)) (hd' : d' + 1 ≤ d) (hst : Nat.ble (catL st) 8 = true) (hd : decode M.cc pc = .ok (.invokevirtual idx, 3))
    (kt : P → Ex M d 0 0 Q (pc + 3) lo (vI 1 :: st) g I L) (kf : ¬ P → Ex M d 0 0 Q (pc + 3) lo (vI 0 :: st) g I L) : Ex M d 0 0 Q pc lo (As.reverse ++ vS i :: st) g I L := by
  refine Ex_cV (kc := 0) (ks := 0) (kc' := 0) (ks' := 0) ok ho hn hi hM hd' hst hd ?_ ?_
  · rintro _ _ _ _ ⟨rfl, rfl, rfl, ⟨e, h⟩ | ⟨e, h⟩⟩
    · cases e; exact kt h
    · cases e; exact kf h
  · rintro _ _ _ _ ⟨-, -, -, ⟨e, -⟩ | ⟨e, -⟩⟩ <;> cases e
theorem Ex_lD (ok : vOk own N idx n ci) (ho : M.y.cls = own) (hn : As.length = n) (hM : Mx N d' 0 0 (vD (some i) :: As) g I L (lQ P g I L)) (hi : g.2.1 i = some (.inl ci)) (hd' : d' + 1 ≤ d) (hst : Nat.ble (catL st) 8 = true) (hd : decode M.cc pc = .ok (.invokevirtual idx, 3))
    (kt : P → Ex M d 0 0 Q (pc + 3) lo (vI 1 :: st) g I L) (kf : ¬ P → Ex M d 0 0 Q (pc + 3) lo (vI 0 :: st) g I L) : Ex M d 0 0 Q pc lo (As.reverse ++ vD (some i) :: st) g I L := st_SD (Ex_l ok ho hn (Mx_SD hM) hi hd' hst hd kt kf)
end UseL
def likeR (R R' : Nat × (Nat → Int32)) (ex : Int32) : Prop := ∀ i, i < 5 + R.1 → nI i ≠ ex → R.2 i = R'.2 i
theorem LenOk.inj {x : Int32} {m m' : Nat} (h : LenOk x m) (h' : LenOk x m') : m = m' := by
  rcases h with ⟨e, h⟩ | ⟨e, h⟩ <;> rcases h' with ⟨e', h'⟩ | ⟨e', h'⟩
  · rw [e] at e'
    exact eqN e' (by omega) (by omega)
  · rw [e'] at e
    exact absurd (e ▸ (by decide : (-1 : Int32) < 0)) (nI_pos (n := m) (by omega))
  · rw [e] at e'
    exact absurd (e' ▸ (by decide : (-1 : Int32) < 0)) (nI_pos (n := m') (by omega))
  · omega
theorem RowIs.len {I : aI} {a : Nat} {R : Nat × (Nat → Int32)} (h : RowIs I a R) : LenOk (I a 4) R.1 ∧ R.1 ≤ 60 := by
  refine ⟨by rw [h.2 4 (by omega)]; exact h.1, ?_⟩
  exact h.1.max.2
section Like
variable {lx ly : Nat} {g : aG} {I : aI} {L : aL} {d r a r' a' m k : Nat} {ex : Int32} {R R' : Nat × (Nat → Int32)}
theorem e6_tellsN (hw : WS lx ly g) (hR : RG g r a) (h4 : LenOk (I a 4) m) (hk : k ≤ 65) (hd : 1 ≤ d) : Mx mX6_tells d 0 0 [vD (some r), vI (nI k)] g I L (qV (some (vI (bI (decide (k < 5 + m))))) g I L) := by
  have h := e6_tells (L := L) (x := nI k) hw hR h4 hd
  have h6 := h4.max.2
  have e : (0 ≤ nI k ∧ nI k < nI (5 + m)) ↔ k < 5 + m := ⟨fun q => ltN q.2 (by omega) (by omega), fun q => ⟨nI_pos' (by omega), nI_lt q (by omega)⟩⟩
  rw [decide_eq_decide.mpr e] at h
  exact h
theorem e6_isLike (hw : WS lx ly g) (hR : RG g r a) (hR' : RG g r' a') (h : RowIs I a R) (h' : RowIs I a' R') (hex : ex = 1 ∨ ex = -1) (hd : 3 ≤ d) :
    Mx mX6_isLike d 0 0 [vD (some r), vD (some r'), vI ex] g I L (lQ (likeR R R' ex) g I L) := by
  obtain ⟨r1, r2, r3, r4⟩ := id hR
  obtain ⟨s1, s2, s3, s4⟩ := id hR'
  obtain ⟨l1, l2⟩ := h.len
  obtain ⟨l1', l2'⟩ := h'.len
  have hex4 : nI 4 ≠ ex := by rcases hex with rfl | rfl <;> decide
  have hyes : ∀ k, k = 5 + R.1 → (∀ j, j < k → nI j ≠ ex → R.2 j = R'.2 j) → Ex mX6_isLike d 0 0 (lQ (likeR R R' ex) g I L) 66 [some (vD (some r)), some (vD (some r')), some (vI ex), some (vI (nI k))] [] g I L := by
    intro k hk hj
    refine Ex_wx [] 9 oX6_isLike hw ?_
    exact ⟨Or.inr rfl, rfl, rfl, rfl, Or.inl ⟨rfl, fun i hi => hj i (by omega)⟩⟩
  have hloop : ∀ (n k : Nat), k + n = 5 + R.1 → (5 ≤ k → R.1 = R'.1) → (∀ j, j < k → nI j ≠ ex → R.2 j = R'.2 j) → Ex mX6_isLike d 0 0 (lQ (likeR R R' ex) g I L) 2 [some (vD (some r)), some (vD (some r')), some (vI ex), some (vI (nI k))] [] g I L := by
    intro n
    induction n with
    | zero =>
      intro k hk h5 hj
      have hkk : k = 5 + R.1 := by omega
      refine Ex_bn 3 oX6_isLike hw ?_
      refine And.intro r1 ?_
      show Ex mX6_isLike d 0 0 _ 7 [some (vD (some r)), some (vD (some r')), some (vI ex), some (vI (nI k))] [vD (g.2.2 r 0), vI (nI k)] g I L
      rw [r2]
      refine Ex_wx [66, 11] 9 oX6_isLike hw ?_
      refine ⟨.int, 65, ⟨by simp [qTy], r3⟩, ?_⟩
      refine And.intro (fun c => hyes k hkk hj) (fun c => ?_)
      refine Ex_wx [] 9 oX6_isLike hw ?_
      refine Ex_vD (As := [vI (nI k)]) (st := []) (d' := 1) vX6_21 rfl rfl (e6_tellsN hw hR l1 (by omega) (by omega)) r1 (by omega) rfl (dc_ok oX6_isLike rfl) ?_
      rw [decide_eq_false (show ¬ k < 5 + R.1 by omega)]
      refine Ex_wx [27, 19] 9 oX6_isLike hw ?_
      refine And.intro (fun _ => ?_) (fun c => absurd rfl c)
      refine Ex_wx [] 9 oX6_isLike hw ?_
      refine Ex_vD (As := [vI (nI k)]) (st := []) (d' := 1) vX6_21 rfl rfl (e6_tellsN hw hR' l1' (by omega) (by omega)) s1 (by omega) rfl (dc_ok oX6_isLike rfl) ?_
      rw [decide_eq_false (show ¬ k < 5 + R'.1 by have := h5 (by omega); omega)]
      refine Ex_wx [66, 27] 9 oX6_isLike hw ?_
      exact And.intro (fun _ => hyes k hkk hj) (fun c => absurd rfl c)
    | succ n ih =>
      intro k hk h5 hj
      have hk1 : k < 5 + R.1 := by omega
      have hk2 : k < 5 + R'.1 := by
        by_cases c : 5 ≤ k
        · have := h5 c; omega
        · omega
      have h60 : (nI k ≠ ex → R.2 k = R'.2 k) → Ex mX6_isLike d 0 0 (lQ (likeR R R' ex) g I L) 60 [some (vD (some r)), some (vD (some r')), some (vI ex), some (vI (nI k))] [] g I L := by
        intro hq
        refine Ex_wx [2] 9 oX6_isLike hw ?_
        show Ex mX6_isLike d 0 0 _ 2 [some (vD (some r)), some (vD (some r')), some (vI ex), some (vI (nI k + 1))] [] g I L
        rw [← nI_succ]
        refine ih (k + 1) (by omega) (fun c => ?_) (fun j hj1 hj2 => ?_)
        · by_cases c5 : 5 ≤ k
          · exact h5 c5
          · have k4 : k = 4 := by omega
            subst k4
            have e := hq hex4
            exact (h.1).inj (e ▸ h'.1)
        · by_cases c : j = k
          · subst c; exact hq hj2
          · exact hj j (by omega) hj2
      refine Ex_bn 3 oX6_isLike hw ?_
      refine And.intro r1 ?_
      show Ex mX6_isLike d 0 0 _ 7 [some (vD (some r)), some (vD (some r')), some (vI ex), some (vI (nI k))] [vD (g.2.2 r 0), vI (nI k)] g I L
      rw [r2]
      refine Ex_wx [66, 11] 9 oX6_isLike hw ?_
      refine ⟨.int, 65, ⟨by simp [qTy], r3⟩, ?_⟩
      refine And.intro (fun c => absurd (show nI 65 ≤ nI k from c) (nI_ge (by omega) (by omega))) (fun c => ?_)
      refine Ex_wx [] 9 oX6_isLike hw ?_
      refine Ex_vD (As := [vI (nI k)]) (st := []) (d' := 1) vX6_21 rfl rfl (e6_tellsN hw hR l1 (by omega) (by omega)) r1 (by omega) rfl (dc_ok oX6_isLike rfl) ?_
      rw [decide_eq_true hk1]
      refine Ex_wx [27, 19] 9 oX6_isLike hw ?_
      refine And.intro (fun c => absurd c (by decide)) (fun _ => ?_)
      refine Ex_wx [60, 32] 9 oX6_isLike hw ?_
      refine And.intro (fun c => h60 (fun q => absurd c q)) (fun c => ?_)
      refine Ex_wx [] 9 oX6_isLike hw ?_
      refine Ex_vD (As := [vI (nI k)]) (st := []) (d' := 1) vX6_21 rfl rfl (e6_tellsN hw hR l1 (by omega) (by omega)) r1 (by omega) rfl (dc_ok oX6_isLike rfl) ?_
      rw [decide_eq_true hk1]
      refine Ex_wx [] 9 oX6_isLike hw ?_
      refine Ex_vD (As := [vI (nI k)]) (st := [vI (bI true)]) (d' := 1) vX6_21 rfl rfl (e6_tellsN hw hR' l1' (by omega) (by omega)) s1 (by omega) rfl (dc_ok oX6_isLike rfl) ?_
      rw [decide_eq_true hk2]
      refine Ex_wx [45, 58] 9 oX6_isLike hw ?_
      refine And.intro (fun _ => ?_) (fun c => absurd rfl c)
      refine Ex_wx [] 9 oX6_isLike hw ?_
      refine Ex_vD (As := [vI (nI k)]) (st := []) (d' := 2) vX6_40 rfl rfl (e6_at hw hR l1 (by omega) (by omega)) r1 (by omega) rfl (dc_ok oX6_isLike rfl) ?_
      rw [if_pos hk1]
      refine Ex_wx [] 9 oX6_isLike hw ?_
      refine Ex_vD (As := [vI (nI k)]) (st := [vI (I a k)]) (d' := 2) vX6_40 rfl rfl (e6_at hw hR' l1' (by omega) (by omega)) s1 (by omega) rfl (dc_ok oX6_isLike rfl) ?_
      rw [if_pos hk2, h.2 k hk1, h'.2 k hk2]
      refine Ex_wx [60, 58] 9 oX6_isLike hw ?_
      refine And.intro (fun c2 => h60 (fun _ => c2)) (fun c2 => ?_)
      refine Ex_wx [] 9 oX6_isLike hw ?_
      exact ⟨Or.inl rfl, rfl, rfl, rfl, Or.inr ⟨rfl, fun q => c2 (q k hk1 c)⟩⟩
  refine Mx_in (by decide +kernel) rfl rfl (Ex_bn 2 oX6_isLike hw ?_)
  exact hloop (5 + R.1) 0 (by omega) (fun c => by omega) (fun j hj => by omega)
end Like
/-- the outcomes are told alike -/
def likeO (p : Nat → Int32) (q q' : mO) : Prop := ¬ q.1 = 2 ∧ ansO q = ansO q' ∧ likeR (comO p q) (comO p q') 1 ∧ (q.1 = 0 → ∀ (k : Nat) (r r' : mR), q.2.1[k]? = some r → q'.2.1[k]? = some r' → likeR (resG p q.2.2 r) (resG p q'.2.2 r') (-1))
theorem ans_3 {q : mO} (h : q.1 = 0 → q.2.1.length ≤ 50) : ansO q = -3 ↔ ¬ q.1 = 0 ∧ ¬ q.1 = 1 := by
  unfold ansO
  by_cases h0 : q.1 = 0
  · rw [if_pos h0]
    refine ⟨fun c => absurd (c ▸ (by decide : (-3 : Int32) < 0)) (nI_pos (n := q.2.1.length) (by have := h h0; omega)), fun c => absurd h0 c.1⟩
  · rw [if_neg h0]
    by_cases h1 : q.1 = 1
    · rw [if_pos h1]
      exact ⟨fun c => absurd c (by decide), fun c => absurd h1 c.2⟩
    · rw [if_neg h1]
      exact ⟨fun _ => ⟨h0, h1⟩, fun _ => rfl⟩
theorem ans_0 {q q' : mO} (h : q.1 = 0 → q.2.1.length ≤ 50) (h' : q'.1 = 0 → q'.2.1.length ≤ 50) (e : ansO q = ansO q') (h0 : q.1 = 0) : q'.1 = 0 ∧ q'.2.1.length = q.2.1.length := by
  have h5 := h h0
  unfold ansO at e
  rw [if_pos h0] at e
  by_cases c0 : q'.1 = 0
  · rw [if_pos c0] at e
    have := h' c0
    exact ⟨c0, (eqN e (by omega) (by omega)).symm⟩
  · rw [if_neg c0] at e
    by_cases c1 : q'.1 = 1
    · rw [if_pos c1] at e
      exact absurd (e ▸ (by decide : (-2 : Int32) < 0)) (nI_pos (n := q.2.1.length) (by omega))
    · rw [if_neg c1] at e
      exact absurd (e ▸ (by decide : (-3 : Int32) < 0)) (nI_pos (n := q.2.1.length) (by omega))
section LikeO
variable {lx ly : Nat} {g : aG} {I : aI} {L : aL} {d o o' : Nat} {p : Nat → Int32} {q q' : mO}
theorem e4_isLike (hw : WS lx ly g) (hO : OG g o) (hO' : OG g o') (hq : q.1 ≤ 2 ∧ (q.1 = 0 → q.2.1.length ≤ 50)) (hq' : q'.1 ≤ 2 ∧ (q'.1 = 0 → q'.2.1.length ≤ 50)) (h : OutC I o p q) (h' : OutC I o' p q') (hd : 4 ≤ d) :
    Mx mX4_isLike d 0 0 [vD (some o), vD (some o')] g I L (lQ (likeO p q q') g I L) := by
  obtain ⟨o0, o1, o2, o3, o4, o5, o6⟩ := id hO
  obtain ⟨b0, b1, b2, b3, b4, b5, b6⟩ := id hO'
  obtain ⟨h1, h2, h3⟩ := h
  obtain ⟨k1, k2, k3⟩ := h'
  have hno : ∀ w w3 w4, ¬ likeO p q q' → Ex mX4_isLike d 0 0 (lQ (likeO p q q') g I L) 35 [some (vD (some o)), some (vD (some o')), w, w3, w4] [] g I L := by
    intro w w3 w4 hn
    refine Ex_wx [] 9 oX4_isLike hw ?_
    exact ⟨Or.inl rfl, rfl, rfl, rfl, Or.inr ⟨rfl, hn⟩⟩
  refine Mx_in (by decide +kernel) rfl rfl (Ex_wx [35, 9] 9 oX4_isLike hw ?_)
  refine And.intro o1 ?_
  refine And.intro (fun c => ?_) (fun c => ?_)
  · rw [h1] at c
    have := (ans_3 hq.2).mp c
    exact hno _ _ _ (fun z => z.1 (by omega))
  rw [h1] at c
  have c2 : ¬ q.1 = 2 := fun z => c ((ans_3 hq.2).mpr (by omega))
  refine Ex_wx [35, 20] 9 oX4_isLike hw ?_
  refine And.intro o1 (And.intro b1 ?_)
  refine And.intro (fun c3 => ?_) (fun c3 => ?_)
  rotate_left
  · rw [h1, k1] at c3
    exact hno _ _ _ (fun z => c3 z.2.1)
  rw [h1, k1] at c3
  have c2' : ¬ q'.1 = 2 := fun z => c (c3.trans ((ans_3 hq'.2).mpr (by omega)))
  refine Ex_bn 2 oX4_isLike hw ?_
  refine And.intro o1 ?_
  show Ex mX4_isLike d 0 0 _ 24 [some (vD (some o)), some (vD (some o')), none, none, none] [vD (g.2.2 o 1)] g I L
  rw [o2]
  refine Ex_bn 2 oX4_isLike hw ?_
  refine And.intro b1 ?_
  show Ex mX4_isLike d 0 0 _ 28 [some (vD (some o)), some (vD (some o')), none, none, none] [vD (g.2.2 o' 1), vD (some (o + 1))] g I L
  rw [b2]
  refine Ex_wx [] 9 oX4_isLike hw ?_
  refine Ex_lD (As := [vD (some (o' + 1)), vI 1]) (st := []) (d' := 3) vX4_26 rfl rfl (e6_isLike hw o5 b5 (h2 c2) (k2 c2') (Or.inl rfl) (by omega)) o5.1 (by omega) rfl (dc_ok oX4_isLike rfl) (fun hc => ?_) (fun hc => ?_)
  rotate_left
  · refine Ex_wx [37, 35] 9 oX4_isLike hw ?_
    exact And.intro (fun _ => hno _ _ _ (fun z => hc z.2.2.1)) (fun z => absurd rfl z)
  refine Ex_wx [37, 35] 9 oX4_isLike hw ?_
  refine And.intro (fun z => absurd z (by decide)) (fun _ => ?_)
  refine Ex_bn 2 oX4_isLike hw ?_
  show Ex mX4_isLike d 0 0 _ 39 [some (vD (some o)), some (vD (some o')), some (vI (nI 0)), none, none] [] g I L
  have hloop : ∀ (n k : Nat) (w3 w4 : Option aV), k + n = (if q.1 = 0 then q.2.1.length else 0) → (∀ (j : Nat) (r r' : mR), j < k → q.2.1[j]? = some r → q'.2.1[j]? = some r' → likeR (resG p q.2.2 r) (resG p q'.2.2 r') (-1)) →
      Ex mX4_isLike d 0 0 (lQ (likeO p q q') g I L) 39 [some (vD (some o)), some (vD (some o')), some (vI (nI k)), w3, w4] [] g I L := by
    intro n
    induction n with
    | zero =>
      intro k w3 w4 hk hj
      refine Ex_wx [93, 47] 9 oX4_isLike hw ?_
      refine And.intro o1 ?_
      refine And.intro (fun z => ?_) (fun z => ?_)
      · refine Ex_wx [] 9 oX4_isLike hw ?_
        refine ⟨Or.inr rfl, rfl, rfl, rfl, Or.inl ⟨rfl, c2, c3, hc, fun h0 j r r' e1 e2 => hj j r r' ?_ e1 e2⟩⟩
        rw [if_pos h0] at hk
        have := (List.getElem?_eq_some_iff.mp e1).1
        omega
      · exfalso
        rw [h1] at z
        unfold ansO at z
        by_cases h0 : q.1 = 0
        · rw [if_pos h0] at z hk
          have := hq.2 h0
          exact z (nI_le (by omega) (by omega))
        · rw [if_neg h0] at z hk
          have hk0 : k = 0 := by omega
          subst hk0
          rw [if_pos (by omega)] at z
          exact z (by decide)
    | succ n ih =>
      intro k w3 w4 hk hj
      by_cases h0 : q.1 = 0
      rotate_left
      · rw [if_neg h0] at hk; omega
      rw [if_pos h0] at hk
      have h50 := hq.2 h0
      obtain ⟨z0, zl⟩ := ans_0 hq.2 hq'.2 c3 h0
      have hkl : k < q.2.1.length := by omega
      obtain ⟨rr, hrr⟩ : ∃ rr, q.2.1[k]? = some rr := ⟨_, List.getElem?_eq_getElem hkl⟩
      obtain ⟨rr', hrr'⟩ : ∃ rr, q'.2.1[k]? = some rr := ⟨_, List.getElem?_eq_getElem (by omega)⟩
      have ha2 : I o 0 = nI q.2.1.length := by rw [h1]; unfold ansO; rw [if_pos h0]
      have ha3 : I o' 0 = nI q'.2.1.length := by rw [k1]; unfold ansO; rw [if_pos z0]
      refine Ex_wx [93, 47] 9 oX4_isLike hw ?_
      refine And.intro o1 ?_
      refine And.intro (fun z => ?_) (fun z => ?_)
      · rw [ha2] at z
        exact absurd z (nI_ge hkl (by omega))
      refine Ex_wx [93, 53] 9 oX4_isLike hw ?_
      refine And.intro (fun z => absurd (show nI 50 ≤ nI k from z) (nI_ge (by omega) (by omega))) (fun z => ?_)
      refine Ex_wx [] 9 oX4_isLike hw ?_
      refine Ex_vD (As := [vI (nI k)]) (st := []) (d' := 0) vX4_30 rfl rfl (e4_rowOf hw hO ha2 hkl h50) o1 (by omega) rfl (dc_ok oX4_isLike rfl) ?_
      refine Ex_wx [] 9 oX4_isLike hw ?_
      refine Ex_vD (As := [vI (nI k)]) (st := []) (d' := 0) vX4_30 rfl rfl (e4_rowOf hw hO' ha3 (by omega) (by omega)) b1 (by omega) rfl (dc_ok oX4_isLike rfl) ?_
      refine Ex_wx [] 9 oX4_isLike hw ?_
      refine Ex_lD (As := [vD (some (o' + 4 + 2 * k)), vI (-1)]) (st := []) (d' := 3) vX4_26 rfl rfl (e6_isLike hw (o6 k (by omega)).2 (b6 k (by omega)).2 (h3 h0 k rr hrr) (k3 z0 k rr' hrr') (Or.inr rfl) (by omega)) (o6 k (by omega)).2.1 (by omega) rfl (dc_ok oX4_isLike rfl) (fun hc => ?_) (fun hc => ?_)
      · refine Ex_wx [87, 85] 9 oX4_isLike hw ?_
        refine And.intro (fun z => absurd z (by decide)) (fun _ => ?_)
        refine Ex_wx [39] 9 oX4_isLike hw ?_
        show Ex mX4_isLike d 0 0 _ 39 [some (vD (some o)), some (vD (some o')), some (vI (nI k + 1)), some (vD (some (o + 4 + 2 * k))), some (vD (some (o' + 4 + 2 * k)))] [] g I L
        rw [← nI_succ]
        refine ih (k + 1) _ _ (by rw [if_pos h0]; omega) (fun j r r' j1 j2 j3 => ?_)
        by_cases cj : j = k
        · subst cj
          rw [hrr] at j2; rw [hrr'] at j3
          cases j2; cases j3
          exact hc
        · exact hj j r r' (by omega) j2 j3
      · refine Ex_wx [87, 85] 9 oX4_isLike hw ?_
        refine And.intro (fun _ => ?_) (fun z => absurd rfl z)
        refine Ex_wx [] 9 oX4_isLike hw ?_
        exact ⟨Or.inl rfl, rfl, rfl, rfl, Or.inr ⟨rfl, fun z => hc (z.2.2.2 h0 k rr rr' hrr hrr')⟩⟩
  exact hloop _ 0 _ _ (Nat.zero_add _) (fun j r r' j1 => by omega)
end LikeO
