/-! perform: its contract, and what goes round it -/
def Tb (g : aG) (I : aI) (τ : Nat → Nat) (B : mB) (hg : Nat → Nat) (cnt : Nat) : Prop := ∀ t, t < cnt → 13 < τ t ∧ g.2.1 (τ t) = some (.inl 7) ∧ (I (τ t) 0 = nI (B t).1 ∧ (B t).1 ≤ 18 ∧ I (τ t) 1 = (B t).2.1 ∧ I (τ t) 2 = (B t).2.2.1 ∧ I (τ t) 3 = (B t).2.2.2.1) ∧ 1 ≤ hg t ∧
  (6 ≤ (B t).1 → (B t).1 ≤ 13 → (B t).2.2.2.2.1 < cnt ∧ hg (B t).2.2.2.2.1 < hg t ∧ g.2.2 (τ t) 4 = some (τ (B t).2.2.2.2.1)) ∧ (6 ≤ (B t).1 → (B t).1 ≤ 9 → (B t).2.2.2.2.2 < cnt ∧ hg (B t).2.2.2.2.2 < hg t ∧ g.2.2 (τ t) 5 = some (τ (B t).2.2.2.2.2))
theorem Tb.frm {g : aG} {I I' : aI} {τ : Nat → Nat} {B : mB} {hg : Nat → Nat} {cnt : Nat} (h : Tb g I τ B hg cnt) (hf : Frm I I') : Tb g I' τ B hg cnt := by
  intro t ht
  obtain ⟨h1, h2, h3, h4⟩ := h t ht
  rw [hf (τ t) (Or.inr h1)]
  exact ⟨h1, h2, h3, h4⟩
def outP (q : mO) (o : aO) (I I' : aI) (lim : Nat) (env : Nat → Int32) (base : Nat) : Prop :=
  (q.1 = 0 ∧ o = .inl (some (vI 0)) ∧ Mch I' lim q.2.2 env (base + q.2.1.length) ∧ Rows I' base q.2.1 ∧ Keep I I' base) ∨
  (q.1 = 1 ∧ o = .inl (some (vI (-2))) ∧ (∃ top, base ≤ top ∧ top ≤ 3100 ∧ Mch I' lim q.2.2 env top) ∧ Keep I I' base) ∨
  (q.1 = 2 ∧ o = .inl (some (vI (-3))) ∧ ∃ top, top ≤ 3100 ∧ I' 4 4 = nI top)
def pfQ (q : mO) (g : aG) (I : aI) (L : aL) (lim : Nat) (env : Nat → Int32) (base : Nat) : aQ := fun o g' I' L' => g' = g ∧ L' = L ∧ Frm I I' ∧ outP q o I I' lim env base
theorem pfQ_no {q : mO} {g g' : aG} {I I' : aI} {L L' : aL} {lim : Nat} {env : Nat → Int32} {base : Nat} {E : String} : ¬ pfQ q g I L lim env base (.inr E) g' I' L' := by
  rintro ⟨-, -, -, h⟩
  rcases h with ⟨-, h, -⟩ | ⟨-, h, -⟩ | ⟨-, h, -⟩ <;> cases h
/-- perform, at fuel f -/
def pfC (lx ly : Nat) (g : aG) (τ : Nat → Nat) (B : mB) (hg : Nat → Nat) (cnt : Nat) (F : mF) (lim f : Nat) : Prop := ∀ (t : Nat) (env : Nat → Int32) (e : mE) (base : Nat) (I : aI) (L : aL), t < cnt → hg t ≤ f → Tb g I τ B hg cnt → Lay I ly F → Mch I lim e env base → invE lim e → base + 100 * f ≤ 3100 →
  Mx mX3_perform (4 * f + 4) 0 0 [vS 3, vD (some (τ t))] g I L (pfQ (ev F B lim f t env e) g I L lim env base)
theorem name_cases (n : Int32) : (¬ (0 ≤ n ∧ n < 8) ∧ (n < 0 ∨ 8 ≤ n)) ∨ ∃ j, j < 8 ∧ n = nI j := by
  by_cases h : 0 ≤ n ∧ n < 8
  · right
    have hv : vp_in n 8 := by
      refine vp_in_iff.mpr ?_
      have h1 := Int32.le_iff_toInt_le.mp h.1
      have h3 := Int32.lt_iff_toInt_lt.mp h.2
      simp only [Int32.toInt_zero] at h1
      have h9 : (8 : Int32).toInt = 8 := by decide
      omega
    exact vp_in_of hv (by omega)
  · left
    refine ⟨h, ?_⟩
    by_cases h0 : n < 0
    · exact Or.inl h0
    · exact Or.inr (Int32.not_lt.mp (fun h8 => h ⟨Int32.not_lt.mp h0, h8⟩))
theorem nm_ok {j : Nat} (h : j < 8) : 0 ≤ nI j ∧ nI j < 8 := ⟨nI_pos' (by omega), nI_lt (b := 8) h (by omega)⟩
section Perf
variable {lx ly : Nat} {g : aG} {τ : Nat → Nat} {B : mB} {hg : Nat → Nat} {cnt : Nat} {F : mF} {lim f : Nat}
variable {t : Nat} {env : Nat → Int32} {e : mE} {base : Nat} {I : aI} {L : aL}
theorem Mch.name {j : Nat} {v : Int32} {top : Nat} (h : Mch I lim e env top) (hj : j < 8) : Mch (up2 I 13 j v) lim e (up1 env j v) top := by
  obtain ⟨h1, h2, h3, h4, h5, h6, h7, h8, h9, h10, h11⟩ := h
  have q : ∀ i, i ≠ 13 → up2 I 13 j v i = I i := fun i hi => by funext k; exact up2_i hi
  refine ⟨?_, ?_, ?_, ?_, ?_, ?_, ?_, ?_, ?_, ?_, ?_⟩
  · rw [q 3 (by omega)]; exact h1
  · rw [q 3 (by omega)]; exact h2
  · rw [q 3 (by omega)]; exact h3
  · rw [q 3 (by omega)]; exact h4
  · rw [q 3 (by omega)]; exact h5
  · rw [q 9 (by omega)]; exact h6
  · rw [q 10 (by omega)]; exact h7
  · rw [q 11 (by omega)]; exact h8
  · rw [q 12 (by omega)]; exact h9
  · intro k hk
    unfold up1
    by_cases hkj : k = j
    · subst hkj; rw [if_pos rfl]; exact up2_s
    · rw [if_neg hkj, up2_k hkj]; exact h10 k hk
  · rw [q 4 (by omega)]; exact h11
theorem Mch.envs {env' : Nat → Int32} {top : Nat} (h : Mch I lim e env top) (he : ∀ k, k < 8 → env k = env' k) : Mch I lim e env' top := by
  obtain ⟨h1, h2, h3, h4, h5, h6, h7, h8, h9, h10, h11⟩ := h
  exact ⟨h1, h2, h3, h4, h5, h6, h7, h8, h9, fun k hk => (h10 k hk).trans (he k hk), h11⟩
theorem up13_frm {j : Nat} {v : Int32} : Frm I (up2 I 13 j v) := fun i hi => by funext k; exact up2_i (by omega)
theorem up13_res {j k : Nat} {v : Int32} : resAt (up2 I 13 j v) k = resAt I k := by simp [resAt, up2]
theorem outP.rest {q : mO} {o : aO} {I1 I' : aI} {j : Nat} {v w : Int32} (hj : j < 8) (hw : I 13 j = w) (hE : ∀ k, k < 8 → I 13 k = env k) (h : outP q o (up2 I 13 j v) I' lim (up1 env j v) base) : outP q o I (up2 I' 13 j w) lim env base := by
  have hk : ∀ {b}, Keep (up2 I 13 j v) I' b → Keep I (up2 I' 13 j w) b := fun hk k hkb => by rw [up13_res, hk k hkb, up13_res]
  have hm : ∀ {e top}, Mch I' lim e (up1 env j v) top → Mch (up2 I' 13 j w) lim e env top := fun hm => (hm.name (v := w) hj).envs (fun k hk => by
    unfold up1
    by_cases hkj : k = j
    · rw [if_pos hkj, hkj, ← hw]; exact hE j hj
    · rw [if_neg hkj, if_neg hkj])
  rcases h with ⟨h1, h2, h3, h4, h5⟩ | ⟨h1, h2, ⟨top, h3, h4, h5⟩, h6⟩ | ⟨h1, h2, top, h3, h4⟩
  · exact Or.inl ⟨h1, h2, hm h3, fun j r hr => by rw [up13_res]; exact h4 j r hr, hk h5⟩
  · exact Or.inr (Or.inl ⟨h1, h2, ⟨top, h3, h4, hm h5⟩, hk h6⟩)
  · exact Or.inr (Or.inr ⟨h1, h2, top, h3, by rw [up2_i (by omega)]; exact h4⟩)
theorem e3_naming {nm v : Int32} (hC : Cm lx ly g) (hP : pfC lx ly g τ B hg cnt F lim f) (ht : t < cnt) (hh : hg t ≤ f) (hT : Tb g I τ B hg cnt) (hL : Lay I ly F) (hM : Mch I lim e env base) (hi : invE lim e) (hb : base + 100 * f ≤ 3100) :
    Mx mX3_performNaming (4 * f + 5) 0 0 [vS 3, vI nm, vI v, vD (some (τ t))] g I L (pfQ (ev F B lim f t (upE env nm v) e) g I L lim env base) := by
  have h3 := (hC.1 3 _ rfl).2.1
  refine Mx_in (by decide +kernel) rfl rfl (Ex_wx [10, 16] 9 oX3_performNaming hC.1 ?_)
  have bad : ¬ (0 ≤ nm ∧ nm < 8) → Ex mX3_performNaming (4 * f + 5) 0 0 (pfQ (ev F B lim f t (upE env nm v) e) g I L lim env base) 10 [some (vS 3), some (vI nm), some (vI v), some (vD (some (τ t))), none, none] [] g I L := by
    intro hn
    refine Ex_wx [] 9 oX3_performNaming hC.1 ?_
    refine Ex_cV (kc := 0) (ks := 0) (kc' := 0) (ks' := 0) (As := [vD (some (τ t))]) (st := []) vX3_48 rfl rfl h3 (hP t env e base I L ht hh hT hL hM hi hb) (by omega) rfl (dc_ok oX3_performNaming rfl) ?_ (fun E g' I' L' hq => absurd hq pfQ_no)
    rintro w g' I' L' ⟨rfl, rfl, hf, ho⟩
    have hu : upE env nm v = env := by unfold upE; rw [if_neg hn]
    rw [hu]
    have hw : ∃ x, w = some (vI x) := by rcases ho with ⟨-, h, -⟩ | ⟨-, h, -⟩ | ⟨-, h, -⟩ <;> (cases h; exact ⟨_, rfl⟩)
    obtain ⟨x, rfl⟩ := hw
    refine Ex_wx [] 9 oX3_performNaming hC.1 ?_
    exact ⟨rfl, rfl, hf, ho⟩
  rcases name_cases nm with ⟨hn, hc⟩ | ⟨j, hj, rfl⟩
  · refine And.intro (fun _ => bad hn) (fun c => ?_)
    refine And.intro (fun c2 => absurd ⟨Int32.not_lt.mp c, c2⟩ hn) (fun _ => bad hn)
  · refine And.intro (fun c => absurd c (nI_pos (by omega))) (fun _ => ?_)
    refine And.intro (fun _ => ?_) (fun c => absurd (nm_ok hj).2 c)
    refine Ex_wx [] 9 oX3_performNaming hC.1 ?_
    have hcl : (nI j).toNatClampNeg = j := clN (by omega)
    have hin : vp_in (nI j) 8 := inN hj (by omega)
    refine And.intro hin (And.intro hin ?_)
    have hu : upE env (nI j) v = up1 env j v := by unfold upE; rw [if_pos (nm_ok hj), hcl]
    rw [hu]
    have hx := hP t (up1 env j v) e base (up2 I 13 j v) L ht hh (hT.frm up13_frm) (hL.frm up13_frm hC.2.2) (hM.name hj) hi hb
    have hE := hM.2.2.2.2.2.2.2.2.2.1
    refine Ex_cV (kc := 0) (ks := 0) (kc' := 0) (ks' := 0) (As := [vD (some (τ t))]) (st := []) (I := up2 I 13 (nI j).toNatClampNeg v) vX3_48 rfl rfl h3 (by rw [hcl]; exact hx) (by omega) rfl (dc_ok oX3_performNaming rfl) ?_ (fun E g' I' L' hq => absurd hq pfQ_no)
    rintro w g' I' L' ⟨rfl, rfl, hf, ho⟩
    have hw : ∃ x, w = some (vI x) := by rcases ho with ⟨-, h, -⟩ | ⟨-, h, -⟩ | ⟨-, h, -⟩ <;> (cases h; exact ⟨_, rfl⟩)
    obtain ⟨x, rfl⟩ := hw
    refine Ex_wx [] 9 oX3_performNaming hC.1 ?_
    refine And.intro hin ?_
    refine ⟨rfl, rfl, ?_, ?_⟩
    · rw [hcl]; exact (up13_frm.trans hf).trans up13_frm
    · rw [hcl]; exact outP.rest (I1 := I) hj rfl hE ho
end Perf
