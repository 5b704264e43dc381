/-! more acts -/
theorem outP.pre {q : mO} {o : aO} {I I1 I2 : aI} {lim : Nat} {env : Nat → Int32} {base : Nat} (h : outP q o I1 I2 lim env base) (hk : Keep I I1 base) : outP q o I I2 lim env base := by
  rcases h with ⟨h1, h2, h3, h4, h5⟩ | ⟨h1, h2, h3, h5⟩ | h
  · exact Or.inl ⟨h1, h2, h3, h4, hk.trans h5⟩
  · exact Or.inr (Or.inl ⟨h1, h2, h3, hk.trans h5⟩)
  · exact Or.inr (Or.inr h)
theorem e5_cutN {lx ly : Nat} {g : aG} {I : aI} {L : aL} {d t k : Nat} (hw : WS lx ly g) (ht : I 4 4 = nI t) (h3 : t ≤ 3100) (hk : t ≤ k) (hk2 : k < 2 ^ 31) : Mx mX5_cutTo d 0 0 [vS 4, vI (nI k)] g I L (qV none g I L) := by
  refine Mx_in (by decide +kernel) rfl rfl (Ex_wx [] 9 oX5_cutTo hw ?_)
  refine And.intro (fun c => absurd c (nI_pos (by omega))) (fun _ => ?_)
  refine And.intro (fun c => ?_) (fun c => absurd (ht ▸ nI_le hk hk2) c)
  exact ⟨rfl, rfl, rfl, rfl⟩
section Acts2
variable {lx ly : Nat} {g : aG} {τ : Nat → Nat} {B : mB} {hg : Nat → Nat} {cnt : Nat} {F : mF} {lim f : Nat}
variable {t a b : Nat} {env : Nat → Int32} {e : mE} {base d : Nat} {I : aI} {L : aL} {x nm : Int32}
theorem e3_then (hC : Cm lx ly g) (hP : pfC lx ly g τ B hg cnt F lim f) (ht : t < cnt) (hnm : I (τ t) 3 = nm) (ha : a < cnt) (hha : hg a ≤ f) (hA : g.2.2 (τ t) 4 = some (τ a)) (hb : b < cnt) (hhb : hg b ≤ f) (hB : g.2.2 (τ t) 5 = some (τ b)) (hT : Tb g I τ B hg cnt) (hL : Lay I ly F) (hM : Mch I lim e env base) (hi : invE lim e) (hlim : lim ≤ 2000) (hbs : base + 100 * (f + 1) ≤ 3100) :
    Mx mX3_performThen (4 * f + 7) 0 0 [vS 3, vD (some (τ t))] g I L (pfQ (if (ev F B lim f a env e).1 ≠ 0 then ((ev F B lim f a env e).1, [], (ev F B lim f a env e).2.2) else eachF F (ev F B lim f b) 0 nm env (ev F B lim f a env e).2.1 [] (ev F B lim f a env e).2.2) g I L lim env base) := by
  have h3 := (hC.1 3 _ rfl).2.1
  have h4 := (hC.1 4 _ rfl).2.1
  have hq := (hT t ht).2.1
  have h13 := (hT t ht).1
  refine Mx_in (by decide +kernel) rfl rfl (Ex_wx [] 9 oX3_performThen hC.1 ?_)
  refine Ex_v (As := []) (st := []) (d' := 0) vX3_52 rfl rfl (e5_size hC.1) h4 (by omega) rfl (dc_ok oX3_performThen rfl) ?_
  rw [hM.2.2.2.2.2.2.2.2.2.2]
  refine Ex_wx [] 9 oX3_performThen hC.1 ?_
  refine And.intro hq ?_
  have hx := hP a env e base I L ha hha hT hL hM hi (by omega)
  refine Ex_cV (kc := 0) (ks := 0) (kc' := 0) (ks' := 0) (As := [vD (g.2.2 (τ t) 4)]) (st := []) vX3_48 rfl rfl h3 (by rw [hA]; exact hx) (by omega) rfl (dc_ok oX3_performThen rfl) ?_ (fun E g' I' L' hq => absurd hq pfQ_no)
  rintro w g I1 L ⟨rfl, rfl, hf, ho⟩
  have hok := ev_ok (F := F) (B := B) f a env e hi
  rcases out_split ho with ⟨h1, h2, hm, hrw, hkp⟩ | ⟨h1, x, h2, hx0, hst⟩
  · cases h2
    rw [if_neg (fun q => q h1)]
    refine Ex_wx [] 9 oX3_performThen hC.1 ?_
    refine And.intro (fun _ => ?_) (fun c => absurd rfl c)
    refine And.intro hq (And.intro hq ?_)
    have hE := e3_each (L := L) (oe := 0) (nm := nm) (I := I1) hC hP hb hhb (hT.frm hf) (hL.frm hf hC.2.2) (hok.2.2 h1).1 (hok.2.2 h1).2 hbs hlim hm hrw hok.2.1
    refine Ex_cV (kc := 0) (ks := 0) (kc' := 0) (ks' := 0) (As := [vI (nI base), vI 0, vI (I1 (τ t) 3), vD (g.2.2 (τ t) 5)]) (st := []) vX3_220 rfl rfl h3 (by rw [hf (τ t) (Or.inr h13), hnm, hB]; exact hE) (by omega) rfl (dc_ok oX3_performThen rfl) ?_ (fun E g' I' L' hq => absurd hq pfQ_no)
    rintro w g I2 L ⟨rfl, rfl, hf2, ho2⟩
    obtain ⟨y, rfl⟩ := out_val ho2
    refine Ex_wx [] 9 oX3_performThen hC.1 ?_
    exact ⟨rfl, rfl, hf.trans hf2, ho2.pre hkp⟩
  · cases h2
    rw [if_pos h1]
    refine Ex_wx [] 9 oX3_performThen hC.1 ?_
    refine And.intro (fun c => absurd c hx0) (fun _ => ?_)
    exact ⟨rfl, rfl, hf, hst I base (Nat.le_refl _) Keep.refl⟩
theorem e3_once (hC : Cm lx ly g) (hP : pfC lx ly g τ B hg cnt F lim f) (ht : t < cnt) (ha : a < cnt) (hha : hg a ≤ f) (hA : g.2.2 (τ t) 4 = some (τ a)) (hT : Tb g I τ B hg cnt) (hL : Lay I ly F) (hM : Mch I lim e env base) (hi : invE lim e) (hbs : base + 100 * (f + 1) ≤ 3100) :
    Mx mX3_performOnce (4 * f + 7) 0 0 [vS 3, vD (some (τ t))] g I L (pfQ (if (ev F B lim f a env e).1 ≠ 0 then ((ev F B lim f a env e).1, [], (ev F B lim f a env e).2.2) else (0, (ev F B lim f a env e).2.1.take 1, (ev F B lim f a env e).2.2)) g I L lim env base) := by
  have h3 := (hC.1 3 _ rfl).2.1
  have h4 := (hC.1 4 _ rfl).2.1
  have hq := (hT t ht).2.1
  refine Mx_in (by decide +kernel) rfl rfl (Ex_wx [] 9 oX3_performOnce hC.1 ?_)
  refine Ex_v (As := []) (st := []) (d' := 0) vX3_52 rfl rfl (e5_size hC.1) h4 (by omega) rfl (dc_ok oX3_performOnce rfl) ?_
  rw [hM.2.2.2.2.2.2.2.2.2.2]
  refine Ex_wx [] 9 oX3_performOnce hC.1 ?_
  refine And.intro hq ?_
  have hx := hP a env e base I L ha hha hT hL hM hi (by omega)
  refine Ex_cV (kc := 0) (ks := 0) (kc' := 0) (ks' := 0) (As := [vD (g.2.2 (τ t) 4)]) (st := []) vX3_48 rfl rfl h3 (by rw [hA]; exact hx) (by omega) rfl (dc_ok oX3_performOnce rfl) ?_ (fun E g' I' L' hq => absurd hq pfQ_no)
  rintro w g I1 L ⟨rfl, rfl, hf, ho⟩
  have hok := ev_ok (F := F) (B := B) f a env e hi
  rcases out_split ho with ⟨h1, h2, hm, hrw, hkp⟩ | ⟨h1, x, h2, hx0, hst⟩
  · cases h2
    rw [if_neg (fun q => q h1)]
    have h50 := (hok.2.2 h1).1
    refine Ex_wx [] 9 oX3_performOnce hC.1 ?_
    refine And.intro (fun _ => ?_) (fun c => absurd rfl c)
    cases hr : (ev F B lim f a env e).2.1 with
    | nil =>
      rw [hr] at hm
      refine Ex_v (As := [vI (nI base + 1)]) (st := []) (d' := 0) vX3_75 rfl rfl (by rw [nI_1]; exact e5_cutN hC.1 hm.2.2.2.2.2.2.2.2.2.2 (by simp only [List.length_nil]; omega) (by simp only [List.length_nil]; omega) (by omega)) h4 (by omega) rfl (dc_ok oX3_performOnce rfl) ?_
      refine Ex_wx [] 9 oX3_performOnce hC.1 ?_
      exact ⟨rfl, rfl, hf, Or.inl ⟨rfl, rfl, hm, fun j r h => by simp at h, hkp⟩⟩
    | cons r rs =>
      rw [hr] at hm hrw h50
      refine Ex_v (As := [vI (nI base + 1)]) (st := []) (d' := 0) vX3_75 rfl rfl (by rw [nI_1]; exact e5_cutTo hC.1 hm.2.2.2.2.2.2.2.2.2.2 (by simp only [List.length_cons] at h50 ⊢; omega) (by simp only [List.length_cons]; omega)) h4 (by omega) rfl (dc_ok oX3_performOnce rfl) ?_
      refine Ex_wx [] 9 oX3_performOnce hC.1 ?_
      refine ⟨rfl, rfl, hf.trans (fun i hi => cut_else (by omega)), Or.inl ⟨rfl, rfl, hm.cut, fun j r' h => ?_, hkp.trans (fun k hk => cut_res)⟩⟩
      rw [cut_res]
      cases j with
      | zero => exact hrw 0 r' h
      | succ j => simp at h
  · cases h2
    rw [if_pos h1]
    refine Ex_wx [] 9 oX3_performOnce hC.1 ?_
    refine And.intro (fun c => absurd c hx0) (fun _ => ?_)
    exact ⟨rfl, rfl, hf, hst I base (Nat.le_refl _) Keep.refl⟩
/-- the first j of the rows are changed by h -/
def MapR (I : aI) (base : Nat) (rs : List mR) (j : Nat) (h : mR → mR) : Prop := ∀ k r, rs[k]? = some r → resAt I (base + k) = if k < j then h r else r
theorem MapR.zero {rs : List mR} {h : mR → mR} (hr : Rows I base rs) : MapR I base rs 0 h := fun k r hk => by rw [if_neg (by omega)]; exact hr k r hk
theorem MapR.rows {rs : List mR} {h : mR → mR} (hm : MapR I base rs rs.length h) : Rows I base (rs.map h) := by
  intro j r hj
  rw [List.getElem?_map] at hj
  cases hq : rs[j]? with
  | none => rw [hq] at hj; cases hj
  | some q =>
    rw [hq] at hj
    cases hj
    have hl : j < rs.length := (List.getElem?_eq_some_iff.mp hq).1
    rw [hm j q hq, if_pos hl]
theorem MapR.step {I' : aI} {rs : List mR} {j : Nat} {h : mR → mR} {r : mR} (hm : MapR I base rs j h) (hr : rs[j]? = some r) (hs : resAt I' (base + j) = h r) (ho : ∀ k, k ≠ base + j → resAt I' k = resAt I k) : MapR I' base rs (j + 1) h := by
  intro k q hk
  by_cases e : k = j
  · subst e
    have e2 : q = r := Option.some.inj (hk.symm.trans hr)
    rw [if_pos (by omega), hs, e2]
  · rw [ho (base + k) (by omega), hm k q hk]
    by_cases h2 : k < j
    · rw [if_pos h2, if_pos (by omega)]
    · rw [if_neg h2, if_neg (by omega)]
end Acts2
