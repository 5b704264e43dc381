/-! TIMES, OF, and perform itself -/
theorem clamp_ok (x : Int32) : (if (0 : Int32) < (if x < 8 then x else 8) then (if x < 8 then x else 8) else 0) = nI (clampF x) ∧ clampF x ≤ 8 := by
  unfold clampF
  by_cases h0 : x < 0
  · have h8 : x < 8 := Int32.lt_trans h0 (by decide)
    rw [if_pos h8, if_pos h0, if_neg (fun h => Int32.lt_irrefl (Int32.lt_trans h0 h))]
    exact ⟨rfl, by omega⟩
  · rw [if_neg h0]
    by_cases h8 : 8 < x
    · rw [if_pos h8, if_neg (fun h => Int32.lt_irrefl (Int32.lt_trans h8 h)), if_pos (by decide)]
      exact ⟨rfl, by omega⟩
    · rw [if_neg h8]
      obtain ⟨j, hj, rfl⟩ := nI_of2 (M := 8) (n := 8) (by decide) h0 (Int32.not_lt.mp h8)
      rw [clN (by omega)]
      refine ⟨?_, hj⟩
      by_cases hj8 : j = 8
      · subst hj8; rfl
      · rw [if_pos (show nI j < 8 from nI_lt (a := j) (b := 8) (by omega) (by omega))]
        by_cases hj0 : j = 0
        · subst hj0; rfl
        · rw [if_pos (show (0 : Int32) < nI j from nI_lt (a := 0) (by omega) (by omega))]
section Perf2
variable {lx ly : Nat} {g : aG} {τ : Nat → Nat} {B : mB} {hg : Nat → Nat} {cnt : Nat} {F : mF} {lim f : Nat}
variable {t a b : Nat} {env : Nat → Int32} {e : mE} {base d : Nat} {I : aI} {L : aL} {x nm : Int32}
theorem e3_timesL {n : Nat} (hn8 : n ≤ 8) (hC : Cm lx ly g) (hP : pfC lx ly g τ B hg cnt F lim f) (ht : t < cnt) (ha : a < cnt) (hha : hg a ≤ f) (hA : g.2.2 (τ t) 4 = some (τ a)) (hT : Tb g I τ B hg cnt) (hL : Lay I ly F) (hlim : lim ≤ 2000) (hbs : base + 100 * (f + 1) ≤ 3100) :
    ∀ (m i : Nat) (rs : List mR) (e1 : mE) (I1 : aI), n - i = m → i ≤ n → Mch I1 lim e1 env (base + rs.length) → Rows I1 base rs → Keep I I1 base → Frm I I1 → invE lim e1 → errR rs → rs.length ≤ 50 →
    Ex mX3_performTimes (4 * f + 7) 0 0 (pfQ (timesF F (ev F B lim f a) env m rs e1) g I L lim env base) 33 [some (vS 3), some (vD (some (τ t))), some (vI (nI base)), some (vI (nI n)), some (vI 0), some (vI (nI i))] [] g I1 L := by
  have h3 := (hC.1 3 _ rfl).2.1
  have hq := (hT t ht).2.1
  intro m
  induction m with
  | zero =>
    intro i rs e1 I1 hm hi hM hR hK hF hin hre h50
    have : i = n := by omega
    subst this
    refine Ex_wx [] 9 oX3_performTimes hC.1 ?_
    refine And.intro (fun _ => ?_) (fun c => absurd (Int32.le_refl _) c)
    exact ⟨rfl, rfl, hF, Or.inl ⟨rfl, rfl, hM, hR, hK⟩⟩
  | succ m ih =>
    intro i rs e1 I1 hm hi hM hR hK hF hin hre h50
    refine Ex_wx [] 9 oX3_performTimes hC.1 ?_
    refine And.intro (fun c => absurd (leN c (by omega) (by omega)) (by omega)) (fun _ => ?_)
    refine And.intro (fun _ => ?_) (fun c => absurd rfl c)
    refine And.intro hq ?_
    have hE := e3_each (L := L) (oe := 0) (nm := -1) (I := I1) hC hP ha hha (hT.frm hF) (hL.frm hF hC.2.2) h50 hre hbs hlim hM hR hin
    refine Ex_cV (kc := 0) (ks := 0) (kc' := 0) (ks' := 0) (As := [vI (nI base), vI 0, vI (-1), vD (g.2.2 (τ t) 4)]) (st := []) vX3_220 rfl rfl h3 (by rw [hA]; exact hE) (by omega) rfl (dc_ok oX3_performTimes rfl) ?_ (fun E g' I' L' hq => absurd hq pfQ_no)
    rintro w g I2 L ⟨rfl, rfl, hf, ho⟩
    have hok := each_ok (F := F) (oe := 0) (nm := -1) (env := env) (fun env e h => ev_ok (F := F) (B := B) (lim := lim) f a env e h) rs [] e1 hin hre (fun x hx => by cases hx) (by simp)
    simp only [timesF]
    rcases out_split ho with ⟨h1, h2, hm2, hrw, hkp⟩ | ⟨h1, x, h2, hx0, hst⟩
    · cases h2
      rw [if_neg (fun q => q h1)]
      refine Ex_wx [33] 9 oX3_performTimes hC.1 ?_
      show Ex mX3_performTimes (4 * f + 7) 0 0 _ 33 [some (vS 3), some (vD (some (τ t))), some (vI (nI base)), some (vI (nI n)), some (vI 0), some (vI (nI i + 1))] [] g I2 L
      rw [nI_1]
      exact ih (i + 1) _ _ I2 (by omega) (by omega) hm2 hrw (hK.trans hkp) (hF.trans hf) hok.2.1 (hok.2.2 h1).2 (hok.2.2 h1).1
    · cases h2
      rw [if_pos h1]
      have hend := hst I base (Nat.le_refl _) hK
      refine Ex_wx [33] 9 oX3_performTimes hC.1 ?_
      refine Ex_wx [] 9 oX3_performTimes hC.1 ?_
      refine And.intro (fun _ => ?_) (fun _ => ?_)
      · exact ⟨rfl, rfl, hF.trans hf, hend⟩
      · refine And.intro (fun c => absurd c hx0) (fun _ => ?_)
        exact ⟨rfl, rfl, hF.trans hf, hend⟩
theorem e3_times (hC : Cm lx ly g) (hP : pfC lx ly g τ B hg cnt F lim f) (ht : t < cnt) (ha : a < cnt) (hha : hg a ≤ f) (hA : g.2.2 (τ t) 4 = some (τ a)) (hT : Tb g I τ B hg cnt) (hL : Lay I ly F) (hM : Mch I lim e env base) (hi : invE lim e) (hlim : lim ≤ 2000) (hbs : base + 100 * (f + 1) ≤ 3100) :
    Mx mX3_performTimes (4 * f + 7) 0 0 [vS 3, vD (some (τ t))] g I L (pfQ (timesF F (ev F B lim f a) env (clampF (opF env (I (τ t) 1) (I (τ t) 2))) [(0, 0, mE.s e, mE.l e)] e) g I L lim env base) := by
  have h3 := (hC.1 3 _ rfl).2.1
  have h4 := (hC.1 4 _ rfl).2.1
  have hq := (hT t ht).2.1
  refine Mx_in (by decide +kernel) rfl rfl (Ex_wx [] 9 oX3_performTimes hC.1 ?_)
  refine Ex_v (As := []) (st := []) (d' := 0) vX3_52 rfl rfl (e5_size hC.1) h4 (by omega) rfl (dc_ok oX3_performTimes rfl) ?_
  rw [hM.2.2.2.2.2.2.2.2.2.2]
  refine Ex_wx [] 9 oX3_performTimes hC.1 ?_
  refine Ex_v (As := [vD (some (τ t))]) (st := [vI 8, vI 0]) (d' := 1) vX3_147 rfl rfl (e3_operandOf hC hM.2.2.2.2.2.2.2.2.2.1 hq (by omega)) h3 (by omega) rfl (dc_ok oX3_performTimes rfl) ?_
  refine Ex_s (As := [vI 8, vI (opF env (I (τ t) 1) (I (τ t) 2))]) (st := [vI 0]) (d' := 0) sX3_232 rfl rfl (e_min hC.1) (by omega) rfl (dc_ok oX3_performTimes rfl) ?_
  refine Ex_s (As := [vI 0, vI (if opF env (I (τ t) 1) (I (τ t) 2) < 8 then opF env (I (τ t) 1) (I (τ t) 2) else 8)]) (st := []) (d' := 0) sX3_237 rfl rfl (e_max hC.1) (by omega) rfl (dc_ok oX3_performTimes rfl) ?_
  obtain ⟨hcl, hc8⟩ := clamp_ok (opF env (I (τ t) 1) (I (τ t) 2))
  rw [hcl]
  refine Ex_wx [] 9 oX3_performTimes hC.1 ?_
  refine Ex_v (As := [vI 0]) (st := []) (d' := 1) vX3_150 rfl rfl (e3_answer hC hM (by omega) (by omega)) h3 (by omega) rfl (dc_ok oX3_performTimes rfl) ?_
  refine Ex_bn 3 oX3_performTimes hC.1 ?_
  exact e3_timesL hc8 hC hP ht ha hha hA hT hL hlim hbs _ 0 _ e _ rfl (Nat.zero_le _) hM.push push_rows push_keep push_frm hi (fun r hr => by rw [List.mem_singleton.mp hr]; exact Or.inl rfl) (by simp)
theorem e3_reckon {k : Nat} {p q : Int32} (hC : Cm lx ly g) (h1 : 14 ≤ k) (h2 : k ≤ 18) : Mx mX3_reckon d 0 0 [vI (nI k), vI p, vI q] g I L (qV (some (vI (rkF k p q))) g I L) := by
  refine Mx_in (by decide +kernel) rfl rfl (Ex_bn 1 oX3_reckon hC.1 ?_)
  have hk : k = 14 ∨ k = 15 ∨ k = 16 ∨ k = 17 ∨ k = 18 := by omega
  rcases hk with rfl | rfl | rfl | rfl | rfl
  · refine Ex_tableIn (tgt := 32) (off := 31) (dc_ok oX3_reckon rfl) (by decide) (by decide) (by decide) (by decide) ?_
    refine Ex_wx [] 9 oX3_reckon hC.1 ?_
    exact ⟨rfl, rfl, rfl, rfl⟩
  · refine Ex_tableIn (tgt := 36) (off := 35) (dc_ok oX3_reckon rfl) (by decide) (by decide) (by decide) (by decide) ?_
    refine Ex_wx [] 9 oX3_reckon hC.1 ?_
    exact ⟨rfl, rfl, rfl, rfl⟩
  · refine Ex_tableIn (tgt := 40) (off := 39) (dc_ok oX3_reckon rfl) (by decide) (by decide) (by decide) (by decide) ?_
    refine Ex_wx [] 9 oX3_reckon hC.1 ?_
    exact ⟨rfl, rfl, rfl, rfl⟩
  · refine Ex_tableIn (tgt := 44) (off := 43) (dc_ok oX3_reckon rfl) (by decide) (by decide) (by decide) (by decide) ?_
    refine Ex_wx [] 9 oX3_reckon hC.1 ?_
    refine And.intro (fun c => ?_) (fun c => ?_)
    · exact ⟨by show _ = (Sum.inl (some (vI (if p < q then 1 else 0))) : aO); rw [if_neg (Int32.not_lt.mpr c)], rfl, rfl, rfl⟩
    · exact ⟨by show _ = (Sum.inl (some (vI (if p < q then 1 else 0))) : aO); rw [if_pos (Int32.not_le.mp c)], rfl, rfl, rfl⟩
  · refine Ex_tableOut (tgt := 55) (dc_ok oX3_reckon rfl) (by decide) (by decide) ?_
    refine Ex_wx [] 9 oX3_reckon hC.1 ?_
    refine And.intro (fun c => ?_) (fun c => ?_)
    · exact ⟨by show _ = (Sum.inl (some (vI (if p = q then 1 else 0))) : aO); rw [if_pos c], rfl, rfl, rfl⟩
    · exact ⟨by show _ = (Sum.inl (some (vI (if p = q then 1 else 0))) : aO); rw [if_neg c], rfl, rfl, rfl⟩
end Perf2
