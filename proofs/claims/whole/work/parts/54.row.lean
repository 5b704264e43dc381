/-! rows: what is told -/
theorem Mx_SD {N : aM} {d kc ks i : Nat} {As : List aV} {g : aG} {I : aI} {L : aL} {Q : aQ} (h : Mx N d kc ks (vD (some i) :: As) g I L Q) : Mx N d kc ks (vS i :: As) g I L Q := h
theorem st_SD {M : aM} {d kc ks pc i : Nat} {Q : aQ} {lo : List (Option aV)} {a b : List aV} {g : aG} {I : aI} {L : aL} (h : Ex M d kc ks Q pc lo (a ++ vS i :: b) g I L) : Ex M d kc ks Q pc lo (a ++ vD (some i) :: b) g I L := by
  intro D K b1 b0 SA p l e R s m args below meth c H locs cells slots mc ms ls C hc hs hz hS hl
  have h9 := h D K b1 b0 SA p l e R s m args below meth c H locs cells slots mc ms ls C hc hs hz hS hl
  have e1 : (a ++ vS i :: b).map (cv (qa b1 b0)) = (a ++ vD (some i) :: b).map (cv (qa b1 b0)) := by
    rw [List.map_append, List.map_append]; rfl
  rw [e1] at h9
  exact h9
section UseD
variable {M N : aM} {d d' : Nat} {Q Q' : aQ} {pc idx n ci i : Nat} {own : String} {lo : List (Option aV)} {st As : List aV} {g g' : aG} {I I' : aI} {L L' : aL} {v : Option aV}
theorem Ex_vD (ok : vOk own N idx n ci) (ho : M.y.cls = own) (hn : As.length = n) (hM : Mx N d' 0 0 (vD (some i) :: As) g I L (qV v g' I' L')) (hi : g.2.1 i = some (.inl ci)) (hd' : d' + 1 ≤ d) (hst : Nat.ble (catL st) 8 = true) (hd : decode M.cc pc = .ok (.invokevirtual idx, 3))
    (kk : Ex M d 0 0 Q (pc + 3) lo (v.toList ++ st) g' I' L') : Ex M d 0 0 Q pc lo (As.reverse ++ vD (some i) :: st) g I L := st_SD (Ex_v ok ho hn (Mx_SD hM) hi hd' hst hd kk)
theorem Ex_rD {P : aI → Prop} (ok : vOk own N idx n ci) (ho : M.y.cls = own) (hn : As.length = n) (hM : Mx N d' 0 0 (vD (some i) :: As) g I L (rQ g L P)) (hi : g.2.1 i = some (.inl ci)) (hd' : d' + 1 ≤ d) (hst : Nat.ble (catL st) 8 = true) (hd : decode M.cc pc = .ok (.invokevirtual idx, 3))
    (kk : ∀ I1, P I1 → Ex M d 0 0 Q (pc + 3) lo st g I1 L) : Ex M d 0 0 Q pc lo (As.reverse ++ vD (some i) :: st) g I L := st_SD (Ex_r ok ho hn (Mx_SD hM) hi hd' hst hd kk)
end UseD
/-- a row and its numbers -/
def RG (g : aG) (r a : Nat) : Prop := g.2.1 r = some (.inl 6) ∧ g.2.2 r 0 = some a ∧ g.2.1 a = some (.inr (.int, 65)) ∧ a ≠ 0
def LenOk (x : Int32) (m : Nat) : Prop := (x = nI m ∧ m ≤ 60) ∨ (x = -1 ∧ m = 0)
theorem LenOk.max {x : Int32} {m : Nat} (h : LenOk x m) : (if (0 : Int32) < x then x else 0) = nI m ∧ m ≤ 60 := by
  rcases h with ⟨rfl, h⟩ | ⟨rfl, rfl⟩
  · refine ⟨?_, h⟩
    by_cases h0 : m = 0
    · subst h0; rfl
    · rw [if_pos (show (0 : Int32) < nI m from nI_lt (a := 0) (by omega) (by omega))]
  · exact ⟨rfl, by omega⟩
theorem sub1 (x : Int32) : x - 1 = x + (-1) := Int32.sub_eq_add_neg x 1
section Row
variable {lx ly : Nat} {g : aG} {I : aI} {L : aL} {d r a m : Nat} {x : Int32}
theorem e6_tells (hw : WS lx ly g) (hR : RG g r a) (h4 : LenOk (I a 4) m) (hd : 1 ≤ d) : Mx mX6_tells d 0 0 [vD (some r), vI x] g I L (qV (some (vI (bI (decide (0 ≤ x ∧ x < nI (5 + m)))))) g I L) := by
  obtain ⟨r1, r2, r3, r4⟩ := hR
  obtain ⟨hm, hm6⟩ := h4.max
  refine Mx_in (by decide +kernel) rfl rfl (Ex_wx [4] 9 oX6_tells hw ?_)
  refine And.intro (fun c => ?_) (fun c => ?_)
  · refine ⟨Or.inl rfl, ?_, rfl, rfl, rfl⟩
    rw [decide_eq_false (fun q => absurd c (Int32.not_lt.mpr q.1))]; rfl
  · have c0 : 0 ≤ x := Int32.not_lt.mp c
    refine Ex_bn 3 oX6_tells hw ?_
    refine And.intro r1 ?_
    show Ex mX6_tells d 0 0 _ 9 [some (vD (some r)), some (vI x)] [vD (g.2.2 r 0), vI x] g I L
    rw [r2]
    refine Ex_wx [13] 9 oX6_tells hw ?_
    refine ⟨.int, 65, ⟨by simp [qTy], r3⟩, ?_⟩
    refine And.intro (fun c => ?_) (fun c => ?_)
    · refine ⟨Or.inl rfl, ?_, rfl, rfl, rfl⟩
      rw [decide_eq_false (fun q => ?_)]; rfl
      have h1 : nI 65 ≤ x := c
      exact absurd (Int32.lt_of_le_of_lt h1 q.2) (nI_nlt (by omega) (by omega))
    · refine Ex_bn 5 oX6_tells hw ?_
      refine And.intro r1 ?_
      show Ex mX6_tells d 0 0 _ 20 [some (vD (some r)), some (vI x)] [vD (g.2.2 r 0), vI 0, vI 5, vI x] g I L
      rw [r2]
      refine Ex_wx [] 9 oX6_tells hw ?_
      refine ⟨65, ⟨r3, inN (k := 4) (by omega) (by omega)⟩, ?_⟩
      refine Ex_s (As := [vI 0, vI (I a (4 : Int32).toNatClampNeg)]) (st := [vI 5, vI x]) (d' := 0) sX6_15 rfl rfl (e_max hw) hd rfl (dc_ok oX6_tells rfl) ?_
      rw [show (4 : Int32).toNatClampNeg = 4 from rfl, hm]
      refine Ex_wx [] 9 oX6_tells hw ?_
      have e5 : (5 : Int32) + nI m = nI (5 + m) := nI_add 5 m
      refine And.intro (fun c => ?_) (fun c => ?_)
      · have c : 5 + nI m ≤ x := c
        rw [e5] at c
        refine ⟨Or.inl rfl, ?_, rfl, rfl, rfl⟩
        rw [decide_eq_false (fun q => absurd q.2 (Int32.not_lt.mpr c))]; rfl
      · have c : ¬ 5 + nI m ≤ x := c
        rw [e5] at c
        refine ⟨Or.inr rfl, ?_, rfl, rfl, rfl⟩
        rw [decide_eq_true ⟨c0, Int32.not_le.mp c⟩]; rfl
theorem e6_at {k : Nat} (hw : WS lx ly g) (hR : RG g r a) (h4 : LenOk (I a 4) m) (hk : k < 65) (hd : 2 ≤ d) : Mx mX6_at d 0 0 [vD (some r), vI (nI k)] g I L (qV (some (vI (if k < 5 + m then I a k else 0))) g I L) := by
  obtain ⟨r1, r2, r3, r4⟩ := id hR
  have hm6 := h4.max.2
  refine Mx_in (by decide +kernel) rfl rfl (Ex_wx [] 9 oX6_at hw ?_)
  refine Ex_vD (As := [vI (nI k)]) (st := []) (d' := 1) vX6_21 rfl rfl (e6_tells hw hR h4 (by omega)) r1 (by omega) rfl (dc_ok oX6_at rfl) ?_
  by_cases c : k < 5 + m
  · rw [decide_eq_true ⟨nI_pos' (by omega), nI_lt c (by omega)⟩, if_pos c]
    refine Ex_wx [8] 9 oX6_at hw ?_
    refine And.intro (fun c => absurd c (by decide)) (fun _ => ?_)
    refine Ex_bn 2 oX6_at hw ?_
    refine And.intro r1 ?_
    show Ex mX6_at d 0 0 _ 12 [some (vD (some r)), some (vI (nI k))] [vD (g.2.2 r 0)] g I L
    rw [r2]
    refine Ex_wx [] 9 oX6_at hw ?_
    refine ⟨65, ⟨r3, inN hk (by omega)⟩, ?_⟩
    exact ⟨by rw [clN (by omega)], rfl, rfl, rfl⟩
  · rw [decide_eq_false (fun q => absurd (ltN q.2 (by omega) (by omega)) c), if_neg c]
    refine Ex_wx [] 9 oX6_at hw ?_
    refine And.intro (fun _ => ?_) (fun c => absurd rfl c)
    exact ⟨rfl, rfl, rfl, rfl⟩
theorem e6_setHead {n s : Int32} (hw : WS lx ly g) (hR : RG g r a) : Mx mX6_setHead d 0 0 [vD (some r), vI n, vI s] g I L (qV none g (up2 (up2 I a 0 n) a 1 s) L) := by
  obtain ⟨r1, r2, r3, r4⟩ := hR
  refine Mx_in (by decide +kernel) rfl rfl (Ex_bn 2 oX6_setHead hw ?_)
  refine And.intro r1 ?_
  show Ex mX6_setHead d 0 0 _ 4 [some (vD (some r)), some (vI n), some (vI s)] [vD (g.2.2 r 0)] g I L
  rw [r2]
  refine Ex_bn 5 oX6_setHead hw ?_
  refine ⟨65, ⟨r3, r4, inN (k := 0) (by omega) (by omega)⟩, ?_⟩
  refine And.intro r1 ?_
  show Ex mX6_setHead d 0 0 _ 11 [some (vD (some r)), some (vI n), some (vI s)] [vD (g.2.2 r 0)] g (up2 I a 0 n) L
  rw [r2]
  refine Ex_wx [] 9 oX6_setHead hw ?_
  refine ⟨65, ⟨r3, r4, inN (k := 1) (by omega) (by omega)⟩, ?_⟩
  exact ⟨rfl, rfl, rfl, rfl⟩
theorem e6_setState {b : Bool} {s : Int32} (hw : WS lx ly g) (hR : RG g r a) : Mx mX6_setState d 0 0 [vD (some r), vI (bI b), vI s] g I L (qV none g (up2 (up2 I a 2 (bI b)) a 3 (if b = true then s else 0)) L) := by
  obtain ⟨r1, r2, r3, r4⟩ := hR
  have h15 : ∀ J : aI, J = up2 I a 2 (bI b) → Ex mX6_setState d 0 0 (qV none g (up2 (up2 I a 2 (bI b)) a 3 (if b = true then s else 0)) L) 15 [some (vD (some r)), some (vI (bI b)), some (vI s)] [] g J L := by
    rintro J rfl
    refine Ex_bn 2 oX6_setState hw ?_
    refine And.intro r1 ?_
    show Ex mX6_setState d 0 0 _ 19 [some (vD (some r)), some (vI (bI b)), some (vI s)] [vD (g.2.2 r 0)] g _ L
    rw [r2]
    refine Ex_wx [] 9 oX6_setState hw ?_
    refine And.intro (fun c => ?_) (fun c => ?_)
    · refine ⟨65, ⟨r3, r4, inN (k := 3) (by omega) (by omega)⟩, ?_⟩
      refine ⟨rfl, rfl, ?_, rfl⟩
      rw [if_neg (by rw [bI_eq c]; decide)]; rfl
    · refine ⟨65, ⟨r3, r4, inN (k := 3) (by omega) (by omega)⟩, ?_⟩
      refine ⟨rfl, rfl, ?_, rfl⟩
      rw [if_pos (bI_ne c)]; rfl
  refine Mx_in (by decide +kernel) rfl rfl (Ex_bn 2 oX6_setState hw ?_)
  refine And.intro r1 ?_
  show Ex mX6_setState d 0 0 _ 4 [some (vD (some r)), some (vI (bI b)), some (vI s)] [vD (g.2.2 r 0)] g I L
  rw [r2]
  refine Ex_wx [13, 14] 9 oX6_setState hw ?_
  refine And.intro (fun c => ?_) (fun c => ?_)
  · refine Ex_bn 2 oX6_setState hw ?_
    refine ⟨65, ⟨r3, r4, inN (k := 2) (by omega) (by omega)⟩, ?_⟩
    exact h15 _ (by rw [bI_eq c]; rfl)
  · refine Ex_bn 1 oX6_setState hw ?_
    refine ⟨65, ⟨r3, r4, inN (k := 2) (by omega) (by omega)⟩, ?_⟩
    exact h15 _ (by rw [bI_ne c]; rfl)
/-- a LOG from behind -/
def dn (be : Nat → Int32) (us : Nat) : Nat → Int32 → Int32
  | 0, l => l
  | c + 1, l => gtL be us (dn be us c l)
/-- the entry i of a LOG with n of them -/
def entL (nu be : Nat → Int32) (us n : Nat) (l : Int32) (i : Nat) : Int32 := gtL nu us (dn be us (n - 1 - i) l)
def LgP (I : aI) (a us n : Nat) (x l : Int32) (I' : aI) : Prop := I' a 4 = x ∧ (∀ i, i < n → I' a (5 + i) = entL (I 10) (I 11) us n l i) ∧ ∀ i k, ¬ (i = a ∧ 4 ≤ k) → I' i k = I i k
theorem e6_setLogL {us n : Nat} {w1 : Option aV} {l : Int32} (hw : WS lx ly g) (hR : RG g r a) (ha : a ≠ 9 ∧ a ≠ 10 ∧ a ≠ 11 ∧ a ≠ 12) (hu : I 9 3 = nI us) (h2 : us ≤ 2001) (hn : n ≤ 60) (hd : 2 ≤ d) {w3 : Option aV} :
    ∀ (k : Nat) (I1 : aI), k ≤ n → I1 a 4 = x → (∀ i, k ≤ i → i < n → I1 a (5 + i) = entL (I 10) (I 11) us n l i) → (∀ i k, ¬ (i = a ∧ 4 ≤ k) → I1 i k = I i k) →
    Ex mX6_setLog d 0 0 (rQ g L (LgP I a us n x l)) 37 [some (vD (some r)), w1, some (vS 9), w3, some (vI (dn (I 11) us (n - k) l)), some (vI (nI k + (-1)))] [] g I1 L := by
  obtain ⟨r1, r2, r3, r4⟩ := hR
  have h9 := (hw 9 _ rfl).2.1
  intro k
  induction k with
  | zero =>
    intro I1 hk i4 ie io
    refine Ex_wx [42] 9 oX6_setLog hw ?_
    refine And.intro (fun _ => ?_) (fun c => absurd (by decide) c)
    exact ⟨rfl, rfl, rfl, i4, fun i hi => ie i (Nat.zero_le _) hi, io⟩
  | succ k ih =>
    intro I1 hk i4 ie io
    have ek : nI (k + 1) + (-1) = nI k := by rw [← sub1, nI_pred]
    rw [ek]
    have q9 : I1 9 3 = nI us := by rw [io _ _ (by omega)]; exact hu
    have q10 : I1 10 = I 10 := by funext j; exact io _ _ (by omega)
    have q11 : I1 11 = I 11 := by funext j; exact io _ _ (by omega)
    refine Ex_wx [42] 9 oX6_setLog hw ?_
    refine And.intro (fun c => absurd c (nI_pos (by omega))) (fun _ => ?_)
    refine Ex_bn 2 oX6_setLog hw ?_
    refine And.intro r1 ?_
    show Ex mX6_setLog d 0 0 _ 46 [some (vD (some r)), w1, some (vS 9), w3, some (vI (dn (I 11) us (n - (k + 1)) l)), some (vI (nI k))] [vD (g.2.2 r 0)] g I1 L
    rw [r2]
    refine Ex_wx [] 9 oX6_setLog hw ?_
    refine Ex_v (As := [vI (dn (I 11) us (n - (k + 1)) l)]) (st := [vI (5 + nI k), vD (some a)]) (d' := 1) vX6_34 rfl rfl (e2_lastOf hw q9 h2 (by omega)) h9 (by omega) rfl (dc_ok oX6_setLog rfl) ?_
    rw [q10, show (5 : Int32) + nI k = nI (5 + k) from nI_add 5 k]
    refine Ex_bn 3 oX6_setLog hw ?_
    refine ⟨65, ⟨r3, r4, inN (by omega) (by omega)⟩, ?_⟩
    rw [clN (by omega)]
    have q9' : up2 I1 a (5 + k) (gtL (I 10) us (dn (I 11) us (n - (k + 1)) l)) 9 3 = nI us := by rw [up2_i (by omega)]; exact q9
    refine Ex_v (As := [vI (dn (I 11) us (n - (k + 1)) l)]) (st := []) (d' := 1) vX6_37 rfl rfl (e2_withoutLast hw q9' h2 (by omega)) h9 (by omega) rfl (dc_ok oX6_setLog rfl) ?_
    have q11' : up2 I1 a (5 + k) (gtL (I 10) us (dn (I 11) us (n - (k + 1)) l)) 11 = I 11 := by funext j; rw [up2_i (by omega)]; exact io _ _ (by omega)
    rw [q11']
    refine Ex_wx [37] 9 oX6_setLog hw ?_
    have edn : gtL (I 11) us (dn (I 11) us (n - (k + 1)) l) = dn (I 11) us (n - k) l := by
      rw [show n - k = (n - (k + 1)) + 1 by omega]; rfl
    show Ex mX6_setLog d 0 0 _ 37 [some (vD (some r)), w1, some (vS 9), w3, some (vI (gtL (I 11) us (dn (I 11) us (n - (k + 1)) l))), some (vI (nI k + (-1)))] [] g _ L
    rw [edn]
    refine ih _ (by omega) (by rw [up2_k (by omega)]; exact i4) ?_ ?_
    · intro i h1 h3
      by_cases hik : i = k
      · subst hik
        rw [up2_s]
        show _ = gtL (I 10) us (dn (I 11) us (n - 1 - i) l)
        rw [show n - 1 - i = n - (i + 1) by omega]
      · rw [up2_k (by omega)]; exact ie i (by omega) h3
    · intro i j c
      rw [up2_n (by omega)]; exact io i j c
theorem e6_setLog {us n : Nat} {b : Bool} {l : Int32} (hw : WS lx ly g) (hR : RG g r a) (ha : a ≠ 9 ∧ a ≠ 10 ∧ a ≠ 11 ∧ a ≠ 12) (hu : I 9 3 = nI us) (h2 : us ≤ 2001) (hn : n ≤ 60) (hb : (b = true ∧ gtL (I 12) us l = nI n) ∨ (b = false ∧ n = 0)) (hd : 2 ≤ d) :
    Mx mX6_setLog d 0 0 [vD (some r), vI (bI b), vS 9, vI l] g I L (rQ g L (LgP I a us n (if b = true then nI n else -1) l)) := by
  obtain ⟨r1, r2, r3, r4⟩ := id hR
  have h9 := (hw 9 _ rfl).2.1
  -- from 24 on
  have h24 : ∀ x, x = (if b = true then nI n else -1) → Ex mX6_setLog d 0 0 (rQ g L (LgP I a us n (if b = true then nI n else -1) l)) 24 [some (vD (some r)), some (vI (bI b)), some (vS 9), some (vI l), none, none] [] g (up2 I a 4 x) L := by
    rintro x rfl
    refine Ex_bn 4 oX6_setLog hw ?_
    refine And.intro r1 ?_
    show Ex mX6_setLog d 0 0 _ 31 [some (vD (some r)), some (vI (bI b)), some (vS 9), some (vI l), some (vI l), none] [vD (g.2.2 r 0)] g (up2 I a 4 (if b = true then nI n else -1)) L
    rw [r2]
    refine Ex_bn 5 oX6_setLog hw ?_
    refine ⟨65, ⟨r3, inN (k := 4) (by omega) (by omega)⟩, ?_⟩
    show Ex mX6_setLog d 0 0 _ 37 [some (vD (some r)), some (vI (bI b)), some (vS 9), some (vI l), some (vI l), some (vI (up2 I a 4 (if b = true then nI n else -1) a 4 - 1))] [] g (up2 I a 4 (if b = true then nI n else -1)) L
    rw [up2_s]
    rcases hb with ⟨rfl, hbl⟩ | ⟨rfl, rfl⟩
    · rw [if_pos rfl, sub1]
      have h8 := e6_setLogL (I := I) (L := L) (x := nI n) (w1 := some (vI (bI true))) (w3 := some (vI l)) (n := n) (l := l) hw hR ha hu h2 hn hd n (up2 I a 4 (nI n)) (Nat.le_refl _) up2_s (fun i h1 h3 => by omega) (fun i k c => up2_n (by omega))
      rw [Nat.sub_self] at h8
      exact h8
    · rw [if_neg (by decide)]
      refine Ex_wx [42] 9 oX6_setLog hw ?_
      refine And.intro (fun _ => ?_) (fun c => absurd (by decide) c)
      exact ⟨rfl, rfl, rfl, up2_s, fun i hi => by omega, fun i k c => up2_n (by omega)⟩
  refine Mx_in (by decide +kernel) rfl rfl (Ex_bn 2 oX6_setLog hw ?_)
  refine And.intro r1 ?_
  show Ex mX6_setLog d 0 0 _ 4 [some (vD (some r)), some (vI (bI b)), some (vS 9), some (vI l), none, none] [vD (g.2.2 r 0)] g I L
  rw [r2]
  refine Ex_wx [9, 22] 9 oX6_setLog hw ?_
  rcases hb with ⟨rfl, hbl⟩ | ⟨rfl, rfl⟩
  · refine And.intro (fun c => absurd c (by decide)) (fun _ => ?_)
    refine Ex_wx [] 9 oX6_setLog hw ?_
    refine Ex_v (As := [vI l]) (st := [vI 4, vD (some a)]) (d' := 1) vX6_25 rfl rfl (e2_lengthOf hw hu h2 (by omega)) h9 (by omega) rfl (dc_ok oX6_setLog rfl) ?_
    rw [hbl]
    refine Ex_wx [] 9 oX6_setLog hw ?_
    refine Ex_s (As := [vI (nI n), vI 60]) (st := [vI 4, vD (some a)]) (d' := 0) sX6_31 rfl rfl (e_min hw) (by omega) rfl (dc_ok oX6_setLog rfl) ?_
    rw [if_neg (show ¬ (60 : Int32) < nI n from nI_nlt (b := n) (a := 60) hn (by omega))]
    refine Ex_wx [23] 9 oX6_setLog hw ?_
    refine Ex_bn 1 oX6_setLog hw ?_
    refine ⟨65, ⟨r3, r4, inN (k := 4) (by omega) (by omega)⟩, ?_⟩
    exact h24 _ (by rw [if_pos rfl])
  · refine And.intro (fun _ => ?_) (fun c => absurd rfl c)
    refine Ex_bn 2 oX6_setLog hw ?_
    refine ⟨65, ⟨r3, r4, inN (k := 4) (by omega) (by omega)⟩, ?_⟩
    exact h24 _ (by rw [if_neg (by decide)])
end Row
