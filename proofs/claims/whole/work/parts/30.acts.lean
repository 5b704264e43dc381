/-! the acts -/
theorem outP.stop {q : mO} {o : aO} {I I1 I2 : aI} {lim : Nat} {env : Nat → Int32} {base b' : Nat} (h : outP q o I1 I2 lim env b') (hq : q.1 ≠ 0) (hb : base ≤ b') (hk : Keep I I1 base) : outP (q.1, [], q.2.2) o I I2 lim env base := by
  rcases h with ⟨h1, -⟩ | ⟨h1, h2, ⟨top, h3, h4, h5⟩, h6⟩ | ⟨h1, h2, h3⟩
  · exact absurd h1 hq
  · exact Or.inr (Or.inl ⟨h1, h2, ⟨top, by omega, h4, h5⟩, hk.trans (h6.mono hb)⟩)
  · exact Or.inr (Or.inr ⟨h1, h2, h3⟩)
theorem out_split {q : mO} {o : aO} {I1 I2 : aI} {lim : Nat} {env : Nat → Int32} {b' : Nat} (h : outP q o I1 I2 lim env b') :
    (q.1 = 0 ∧ o = .inl (some (vI 0)) ∧ Mch I2 lim q.2.2 env (b' + q.2.1.length) ∧ Rows I2 b' q.2.1 ∧ Keep I1 I2 b') ∨
    (q.1 ≠ 0 ∧ ∃ x : Int32, o = .inl (some (vI x)) ∧ x ≠ 0 ∧ ∀ (I : aI) (base : Nat), base ≤ b' → Keep I I1 base → outP (q.1, [], q.2.2) o I I2 lim env base) := by
  rcases h with h | h | h
  · exact Or.inl h
  · have hn : q.1 ≠ 0 := by rw [h.1]; decide
    exact Or.inr ⟨hn, -2, h.2.1, by decide, fun I base hb hk => outP.stop (Or.inr (Or.inl h)) hn hb hk⟩
  · have hn : q.1 ≠ 0 := by rw [h.1]; decide
    exact Or.inr ⟨hn, -3, h.2.1, by decide, fun I base hb hk => outP.stop (I1 := I1) (b' := b') (Or.inr (Or.inr h)) hn hb hk⟩
section Acts
variable {lx ly : Nat} {g : aG} {τ : Nat → Nat} {B : mB} {hg : Nat → Nat} {cnt : Nat} {F : mF} {lim f : Nat}
variable {t a b : Nat} {env : Nat → Int32} {e : mE} {base d : Nat} {I : aI} {L : aL} {x nm : Int32}
theorem e3_write (hC : Cm lx ly g) (hM : Mch I lim e env base) (h3 : base < 3100) (hd : 2 ≤ d) : Mx mX3_performWrite d 0 0 [vS 3, vI x] g I L (pfQ (ansF (mE.s e) (setSL e x (mE.l e))) g I L lim env base) := by
  have hM2 : Mch (up2 I 3 4 x) lim (setSL e x (mE.l e)) env base := by
    obtain ⟨h1, h2, h3, h4, h5, h6, h7, h8, h9, h10, h11⟩ := hM
    have q : ∀ i, i ≠ 3 → up2 I 3 4 x i = I i := fun i hi => by funext k; exact up2_i hi
    exact ⟨by rw [up2_k (by omega)]; exact h1, by rw [up2_k (by omega)]; exact h2, up2_s, by rw [up2_k (by omega)]; exact h4, by rw [up2_k (by omega)]; exact h5, by rw [q 9 (by omega)]; exact h6, by rw [q 10 (by omega)]; exact h7, by rw [q 11 (by omega)]; exact h8, by rw [q 12 (by omega)]; exact h9, fun k hk => by rw [q 13 (by omega)]; exact h10 k hk, by rw [q 4 (by omega)]; exact h11⟩
  refine Mx_in (by decide +kernel) rfl rfl (Ex_wx [] 9 oX3_performWrite hC.1 ?_)
  refine Ex_v (As := [vI (I 3 4)]) (st := []) (d' := 1) vX3_150 rfl rfl (e3_answer hC hM2 h3 (by omega)) (hC.1 3 _ rfl).2.1 (by omega) rfl (dc_ok oX3_performWrite rfl) ?_
  rw [hM.2.2.1]
  refine Ex_wx [] 9 oX3_performWrite hC.1 ?_
  refine ⟨rfl, rfl, ?_, Or.inl ⟨rfl, rfl, hM2.push, push_rows, ?_⟩⟩
  · exact Frm.trans (fun i hi => by funext k; exact up2_i (by omega)) push_frm
  · exact Keep.trans (fun k hk => by simp [resAt, up2]) push_keep
theorem e3_say (hC : Cm lx ly g) (hM : Mch I lim e env base) (hi : invE lim e) (hsu : mE.us e ≤ mE.sp e) (hlim : lim ≤ 2000) (h3 : base < 3100) (hd : 3 ≤ d) : Mx mX3_performSay d 0 0 [vS 3, vI x] g I L (pfQ (if 60 < lenF e (mE.l e) + 1 then (2, [], e) else ansF x (sayF e x)) g I L lim env base) := by
  have q3 := (hC.1 3 _ rfl).2.1
  have q9 := (hC.1 9 _ rfl).2.1
  have hu := hM.2.2.2.2.2.1
  have hlen : gtL (I 12) (mE.us e) (I 3 5) = lenF e (mE.l e) := by rw [hM.2.2.2.2.2.2.2.2.1, hM.2.2.2.1]; rfl
  have hus : mE.us e ≤ 2000 := Nat.le_trans hsu (Nat.le_trans hi.2.2 hlim)
  refine Mx_in (by decide +kernel) rfl rfl (Ex_wx [] 9 oX3_performSay hC.1 ?_)
  by_cases h60 : 60 < lenF e (mE.l e) + 1
  · rw [if_pos h60]
    refine Ex_v (As := [vI (I 3 5), vI x]) (st := []) (d' := 2) vX3_207 rfl rfl (e2_without hC.1 hu (by omega) (by omega) (by rw [hlen]; exact h60)) q9 (by omega) rfl (dc_ok oX3_performSay rfl) ?_
    refine Ex_wx [] 9 oX3_performSay hC.1 ?_
    refine And.intro (fun _ => ?_) (fun c => absurd rfl c)
    exact ⟨rfl, rfl, Frm.refl, Or.inr (Or.inr ⟨rfl, rfl, base, by omega, hM.2.2.2.2.2.2.2.2.2.2⟩)⟩
  · rw [if_neg h60]
    refine Ex_v (As := [vI (I 3 5), vI x]) (st := []) (d' := 2) vX3_207 rfl rfl (e2_with hC.1 hu hi.1 hus (by omega) (by rw [hlen]; exact h60)) q9 (by omega) rfl (dc_ok oX3_performSay rfl) ?_
    rw [hlen]
    have hne : ¬ nI (mE.us e) = -1 := by
      intro h
      have h1 := congrArg Int32.toInt h
      rw [nI_toInt (by omega)] at h1
      have h2 : (-1 : Int32).toInt = -1 := by decide
      omega
    refine Ex_wx [] 9 oX3_performSay hC.1 ?_
    refine And.intro (fun c => absurd c hne) (fun _ => ?_)
    have hM2 : Mch (up2 (withI I (mE.us e) (I 3 5) x (lenF e (mE.l e) + 1)) 3 5 (nI (mE.us e))) lim (sayF e x) env base := by
      obtain ⟨h1, h2, h3, h4, h5, h6, h7, h8, h9, h10, h11⟩ := hM
      refine ⟨?_, ?_, ?_, ?_, ?_, ?_, ?_, ?_, ?_, ?_, ?_⟩
      · exact (by simp [up2, withI] : up2 (withI I (mE.us e) (I 3 5) x (lenF e (mE.l e) + 1)) 3 5 (nI (mE.us e)) 3 7 = I 3 7).trans h1
      · exact (by simp [up2, withI] : up2 (withI I (mE.us e) (I 3 5) x (lenF e (mE.l e) + 1)) 3 5 (nI (mE.us e)) 3 6 = I 3 6).trans h2
      · exact (by simp [up2, withI] : up2 (withI I (mE.us e) (I 3 5) x (lenF e (mE.l e) + 1)) 3 5 (nI (mE.us e)) 3 4 = I 3 4).trans h3
      · exact up2_s
      · exact (by simp [up2, withI] : up2 (withI I (mE.us e) (I 3 5) x (lenF e (mE.l e) + 1)) 3 5 (nI (mE.us e)) 3 8 = I 3 8).trans h5
      · show up2 (withI I (mE.us e) (I 3 5) x (lenF e (mE.l e) + 1)) 3 5 (nI (mE.us e)) 9 3 = nI (mE.us e + 1)
        simp [up2, withI]
      · show _ = up1 (mE.nu e) (mE.us e) x
        rw [← h7]; funext k; simp [up2, withI, up1]
      · show _ = up1 (mE.be e) (mE.us e) (mE.l e)
        rw [← h8, ← h4]; funext k; simp [up2, withI, up1]
      · show _ = up1 (mE.le e) (mE.us e) (lenF e (mE.l e) + 1)
        rw [← h9]; funext k; simp [up2, withI, up1]
      · intro k hk
        exact (by simp [up2, withI] : up2 (withI I (mE.us e) (I 3 5) x (lenF e (mE.l e) + 1)) 3 5 (nI (mE.us e)) 13 k = I 13 k).trans (h10 k hk)
      · exact (by simp [up2, withI] : up2 (withI I (mE.us e) (I 3 5) x (lenF e (mE.l e) + 1)) 3 5 (nI (mE.us e)) 4 4 = I 4 4).trans h11
    refine Ex_v (As := [vI x]) (st := []) (d' := 2) vX3_150 rfl rfl (e3_answer hC hM2 h3 (by omega)) q3 (by omega) rfl (dc_ok oX3_performSay rfl) ?_
    refine Ex_wx [] 9 oX3_performSay hC.1 ?_
    refine ⟨rfl, rfl, ?_, Or.inl ⟨rfl, rfl, hM2.push, push_rows, ?_⟩⟩
    · refine Frm.trans (fun i hi => ?_) push_frm
      funext k
      unfold withI
      rw [up2_i (by omega), up2_i (by omega), up2_i (by omega), up2_i (by omega), up2_i (by omega)]
    · exact Keep.trans (fun k hk => by simp [resAt, up2, withI]) push_keep
theorem e3_fail (hC : Cm lx ly g) (hL : Lay I ly F) (hM : Mch I lim e env base) (h3 : base < 3100) (hd : 1 ≤ d) : Mx mX3_performFail d 0 0 [vS 3, vI x] g I L (pfQ (if F.2.2.1 = true then (0, [(x, 1, mE.s e, mE.l e)], e) else (1, [], (mE.sp e, mE.us e, mE.nu e, mE.be e, mE.le e, mE.s e, mE.l e, x))) g I L lim env base) := by
  refine Mx_in (by decide +kernel) rfl rfl (Ex_wx [] 9 oX3_performFail hC.1 ?_)
  refine And.intro hC.2.1 ?_
  have hl := hL.2.2.1
  refine And.intro (fun c => ?_) (fun c => ?_)
  · rw [hl] at c
    rw [bI_0.mp c, if_neg (by decide)]
    refine ⟨rfl, rfl, fun i hi => by funext k; exact up2_i (by omega), Or.inr (Or.inl ⟨rfl, rfl, ⟨base, Nat.le_refl _, by omega, ?_⟩, fun k hk => by simp [resAt, up2]⟩)⟩
    obtain ⟨h1, h2, h3, h4, h5, h6, h7, h8, h9, h10, h11⟩ := hM
    have q : ∀ i, i ≠ 3 → up2 I 3 8 x i = I i := fun i hi => by funext k; exact up2_i hi
    exact ⟨by rw [up2_k (by omega)]; exact h1, by rw [up2_k (by omega)]; exact h2, by rw [up2_k (by omega)]; exact h3, by rw [up2_k (by omega)]; exact h4, up2_s, by rw [q 9 (by omega)]; exact h6, by rw [q 10 (by omega)]; exact h7, by rw [q 11 (by omega)]; exact h8, by rw [q 12 (by omega)]; exact h9, fun k hk => by rw [q 13 (by omega)]; exact h10 k hk, by rw [q 4 (by omega)]; exact h11⟩
  · rw [hl] at c
    have hF : F.2.2.1 = true := by cases h : F.2.2.1 with | true => rfl | false => exact absurd (bI_0.mpr h) c
    rw [if_pos hF]
    refine Ex_v (As := [vI x, vI 1, vI (I 3 4), vI (I 3 5)]) (st := []) (d' := 0) vX3_203 rfl rfl (e5_push hC.1 hM.2.2.2.2.2.2.2.2.2.2 h3 (Or.inr rfl)) (hC.1 4 _ rfl).2.1 hd rfl (dc_ok oX3_performFail rfl) ?_
    rw [hM.2.2.1, hM.2.2.2.1]
    refine Ex_wx [] 9 oX3_performFail hC.1 ?_
    refine And.intro (fun c => absurd c (by decide)) (fun _ => ?_)
    exact ⟨rfl, rfl, push_frm, Or.inl ⟨rfl, rfl, hM.push, push_rows, push_keep⟩⟩
theorem e3_either (hC : Cm lx ly g) (hP : pfC lx ly g τ B hg cnt F lim f) (hq : g.2.1 (τ t) = some (.inl 7)) (ha : a < cnt) (hha : hg a ≤ f) (hA : g.2.2 (τ t) 4 = some (τ a)) (hb : b < cnt) (hhb : hg b ≤ f) (hB : g.2.2 (τ t) 5 = some (τ b)) (hT : Tb g I τ B hg cnt) (hL : Lay I ly F) (hM : Mch I lim e env base) (hi : invE lim e) (hbs : base + 100 * (f + 1) ≤ 3100) :
    Mx mX3_performEither (4 * f + 7) 0 0 [vS 3, vD (some (τ t))] g I L (pfQ (eitherF F e (ev F B lim f a env e) (ev F B lim f b env)) g I L lim env base) := by
  have h3 := (hC.1 3 _ rfl).2.1
  have h4 := (hC.1 4 _ rfl).2.1
  have hf1 : 1 ≤ f := Nat.le_trans (hT a ha).2.2.2.1 hha
  refine Mx_in (by decide +kernel) rfl rfl (Ex_wx [] 9 oX3_performEither hC.1 ?_)
  refine Ex_v (As := []) (st := []) (d' := 0) vX3_52 rfl rfl (e5_size hC.1) h4 (by omega) rfl (dc_ok oX3_performEither rfl) ?_
  rw [hM.2.2.2.2.2.2.2.2.2.2]
  refine Ex_wx [] 9 oX3_performEither hC.1 ?_
  refine And.intro hq ?_
  have hx := hP a env e base I L ha hha hT hL hM hi (by omega)
  refine Ex_cV (kc := 0) (ks := 0) (kc' := 0) (ks' := 0) (As := [vD (g.2.2 (τ t) 4)]) (st := []) vX3_48 rfl rfl h3 (by rw [hA]; exact hx) (by omega) rfl (dc_ok oX3_performEither rfl) ?_ (fun E g' I' L' hq => absurd hq pfQ_no)
  rintro w g I1 L ⟨rfl, rfl, hf, ho⟩
  have hok := ev_ok (F := F) (B := B) f a env e hi
  unfold eitherF
  rcases ho with ⟨h1, h2, hm, hrw, hkp⟩ | ho | ho
  · cases h2
    rw [if_neg (fun q => q h1)]
    refine Ex_wx [37] 9 oX3_performEither hC.1 ?_
    refine And.intro (fun _ => ?_) (fun c => absurd rfl c)
    refine Ex_wx [] 9 oX3_performEither hC.1 ?_
    rw [hM.2.2.1, hM.2.2.2.1]
    refine Ex_v (As := [vI (mE.s e), vI (mE.l e)]) (st := []) (d' := 1) vX3_214 rfl rfl (e3_takeOwn hC (hL.frm hf hC.2.2)) h3 (by omega) rfl (dc_ok oX3_performEither rfl) ?_
    refine Ex_wx [] 9 oX3_performEither hC.1 ?_
    refine And.intro hq ?_
    have h50 := (hok.2.2 h1).1
    have hy := hP b env _ _ (ownI F I1 (mE.s e) (mE.l e)) L hb hhb (hT.frm (hf.trans own_frm)) (hL.frm (hf.trans own_frm) hC.2.2) (hm.own (F := F) (s := mE.s e) (l := mE.l e)) (own2_inv hok.2.1) (by omega)
    refine Ex_cV (kc := 0) (ks := 0) (kc' := 0) (ks' := 0) (As := [vD (g.2.2 (τ t) 5)]) (st := []) vX3_48 rfl rfl h3 (by rw [hB]; exact hy) (by omega) rfl (dc_ok oX3_performEither rfl) ?_ (fun E g' I' L' hq => absurd hq pfQ_no)
    rintro w g I2 L ⟨rfl, rfl, hf2, ho⟩
    have hok2 := ev_ok (F := F) (B := B) f b env _ (own2_inv (F := F) (s := mE.s e) (l := mE.l e) hok.2.1)
    have hkp2 : ∀ {n}, Keep (ownI F I1 (mE.s e) (mE.l e)) I2 n → Keep I1 I2 n := fun h k hk => by rw [h k hk, own_res]
    rcases ho with ⟨g1, g2, gm, grw, gkp⟩ | ho | ho
    · cases g2
      simp only
      rw [if_neg (fun q => q g1)]
      refine Ex_wx [] 9 oX3_performEither hC.1 ?_
      refine And.intro (fun _ => ?_) (fun c => absurd rfl c)
      have h50b := (hok2.2.2 g1).1
      refine Ex_v (As := [vI (nI base)]) (st := []) (d' := 1) vX3_217 rfl rfl (e3_isTooMany hC gm.2.2.2.2.2.2.2.2.2.2 (by omega) (by omega) (by omega)) h3 (by omega) rfl (dc_ok oX3_performEither rfl) ?_
      by_cases hmany : 50 < ((ev F B lim f a env e).2.1 ++ (ev F B lim f b env (own2 F (ev F B lim f a env e).2.2 (mE.s e) (mE.l e))).2.1).length
      · rw [if_pos hmany, if_pos (by rw [List.length_append] at hmany; omega)]
        refine Ex_wx [] 9 oX3_performEither hC.1 ?_
        refine And.intro (fun c => absurd c (by decide)) (fun _ => ?_)
        exact ⟨rfl, rfl, hf.trans (own_frm.trans hf2), Or.inr (Or.inr ⟨rfl, rfl, _, by omega, gm.2.2.2.2.2.2.2.2.2.2⟩)⟩
      · rw [if_neg hmany, if_neg (by rw [List.length_append] at hmany; omega)]
        refine Ex_wx [] 9 oX3_performEither hC.1 ?_
        refine And.intro (fun _ => ?_) (fun c => absurd rfl c)
        refine ⟨rfl, rfl, hf.trans (own_frm.trans hf2), Or.inl ⟨rfl, rfl, ?_, (hrw.keep (hkp2 gkp) (Nat.le_refl _)).app grw, hkp.trans ((hkp2 gkp).mono (by omega))⟩⟩
        rw [List.length_append, ← Nat.add_assoc]
        exact gm
    · have hn : (ev F B lim f b env (own2 F (ev F B lim f a env e).2.2 (mE.s e) (mE.l e))).1 ≠ 0 := by rw [ho.1]; decide
      have ho2 := outP.stop (I := I) (base := base) (Or.inr (Or.inl ho)) hn (by omega) (hkp.trans (fun k hk => own_res))
      cases ho.2.1
      simp only
      rw [if_pos hn]
      refine Ex_wx [] 9 oX3_performEither hC.1 ?_
      refine And.intro (fun c => absurd c (by decide)) (fun _ => ?_)
      exact ⟨rfl, rfl, hf.trans (own_frm.trans hf2), ho2⟩
    · have hn : (ev F B lim f b env (own2 F (ev F B lim f a env e).2.2 (mE.s e) (mE.l e))).1 ≠ 0 := by rw [ho.1]; decide
      have ho2 := outP.stop (I := I) (I1 := I) (lim := lim) (env := env) (base := base) (b' := base) (Or.inr (Or.inr ho)) hn (Nat.le_refl _) Keep.refl
      cases ho.2.1
      simp only
      rw [if_pos hn]
      refine Ex_wx [] 9 oX3_performEither hC.1 ?_
      refine And.intro (fun c => absurd c (by decide)) (fun _ => ?_)
      exact ⟨rfl, rfl, hf.trans (own_frm.trans hf2), ho2⟩
  · have hn : (ev F B lim f a env e).1 ≠ 0 := by rw [ho.1]; decide
    have ho2 := outP.stop (I := I) (base := base) (Or.inr (Or.inl ho)) hn (Nat.le_refl _) Keep.refl
    cases ho.2.1
    rw [if_pos hn]
    refine Ex_wx [37] 9 oX3_performEither hC.1 ?_
    refine And.intro (fun c => absurd c (by decide)) (fun _ => ?_)
    exact ⟨rfl, rfl, hf, ho2⟩
  · have hn : (ev F B lim f a env e).1 ≠ 0 := by rw [ho.1]; decide
    have ho2 := outP.stop (I := I) (I1 := I) (lim := lim) (env := env) (base := base) (b' := base) (Or.inr (Or.inr ho)) hn (Nat.le_refl _) Keep.refl
    cases ho.2.1
    rw [if_pos hn]
    refine Ex_wx [37] 9 oX3_performEither hC.1 ?_
    refine And.intro (fun c => absurd c (by decide)) (fun _ => ?_)
    exact ⟨rfl, rfl, hf, ho2⟩
end Acts
