/-! acts that go over their RESULTS -/
theorem set5_res {I : aI} {k m : Nat} {x : Int32} : resAt (up2 I 5 k x) m = if m = k then (x, I 6 m, I 7 m, I 8 m) else resAt I m := by
  by_cases h : m = k <;> simp [resAt, up2, h]
theorem set7_res {I : aI} {k m : Nat} {x : Int32} : resAt (up2 I 7 k x) m = if m = k then (I 5 m, I 6 m, x, I 8 m) else resAt I m := by
  by_cases h : m = k <;> simp [resAt, up2, h]
theorem set8_res {I : aI} {k m : Nat} {x : Int32} : resAt (up2 I 8 k x) m = if m = k then (I 5 m, I 6 m, I 7 m, x) else resAt I m := by
  by_cases h : m = k <;> simp [resAt, up2, h]
theorem setR_else {I : aI} {a k : Nat} {x : Int32} (ha : 5 ≤ a ∧ a ≤ 8) : ∀ i, i < 4 ∨ 8 < i → up2 I a k x i = I i := fun i hi => by funext m; exact up2_i (by omega)
theorem setR_frm {I : aI} {a k : Nat} {x : Int32} (ha : 5 ≤ a ∧ a ≤ 8) : Frm I (up2 I a k x) := fun i hi => setR_else ha i (by omega)
theorem Mch.setR {I : aI} {lim : Nat} {e : mE} {env : Nat → Int32} {t a k : Nat} {x : Int32} (h : Mch I lim e env t) (ha : 5 ≤ a ∧ a ≤ 8) : Mch (up2 I a k x) lim e env t := h.res (setR_else ha) (by rw [up2_i (by omega)]; exact h.2.2.2.2.2.2.2.2.2.2)
section Acts3
variable {lx ly : Nat} {g : aG} {τ : Nat → Nat} {B : mB} {hg : Nat → Nat} {cnt : Nat} {F : mF} {lim f : Nat}
variable {t a b : Nat} {env : Nat → Int32} {e : mE} {base d : Nat} {I : aI} {L : aL} {x nm : Int32}
theorem e3_hiddenL {rs : List mR} {e2 : mE} {l0 : Int32} {v1 : Option aV} (hC : Cm lx ly g) (hd : 3 ≤ d) (h31 : base + rs.length ≤ 3100) : ∀ (n j : Nat) (I1 : aI), rs.length - j = n → j ≤ rs.length → Mch I1 lim e2 env (base + rs.length) → MapR I1 base rs j (hiddenM l0) → Keep I I1 base → Frm I I1 →
    Ex mX3_performHidden d 0 0 (pfQ (0, rs.map (hiddenM l0), e2) g I L lim env base) 48 [some (vS 3), v1, some (vI (nI base)), some (vI l0), some (vI 0), some (vI (nI (base + rs.length))), some (vI (nI (base + j)))] [] g I1 L := by
  have h4 := (hC.1 4 _ rfl).2.1
  intro n
  induction n with
  | zero =>
    intro j I1 hn hj hM hR hK hF
    have : j = rs.length := by omega
    subst this
    refine Ex_wx [] 9 oX3_performHidden hC.1 ?_
    refine And.intro (fun _ => ?_) (fun c => absurd (Int32.le_refl _) c)
    exact ⟨rfl, rfl, hF, Or.inl ⟨rfl, rfl, by rw [List.length_map]; exact hM, hR.rows, hK⟩⟩
  | succ n ih =>
    intro j I1 hn hj hM hR hK hF
    have hjl : j < rs.length := by omega
    have htop := hM.2.2.2.2.2.2.2.2.2.2
    refine Ex_wx [] 9 oX3_performHidden hC.1 ?_
    refine And.intro (fun c => absurd (leN c (by omega) (by omega)) (by omega)) (fun _ => ?_)
    refine Ex_v (As := [vI (nI (base + j)), vI l0]) (st := []) (d' := 1) vX3_230 rfl rfl (e5_setLog hC.1 htop (by omega) (by omega) (by omega)) h4 (by omega) rfl (dc_ok oX3_performHidden rfl) ?_
    refine Ex_wx [48] 9 oX3_performHidden hC.1 ?_
    show Ex mX3_performHidden d 0 0 _ 48 [some (vS 3), v1, some (vI (nI base)), some (vI l0), some (vI 0), some (vI (nI (base + rs.length))), some (vI (nI (base + j) + 1))] [] g (up2 I1 8 (base + j) l0) L
    rw [nI_1, show base + j + 1 = base + (j + 1) by omega]
    have hrj := List.getElem?_eq_getElem hjl
    have hat := hR j _ hrj
    rw [if_neg (by omega)] at hat
    refine ih (j + 1) _ (by omega) (by omega) (hM.setR (by omega)) (hR.step hrj ?_ (fun k hk => by rw [set8_res, if_neg hk])) (hK.trans (fun k hk => by rw [set8_res, if_neg (by omega)])) (hF.trans (setR_frm (by omega)))
    rw [set8_res, if_pos rfl]
    show (I1 5 (base + j), I1 6 (base + j), I1 7 (base + j), l0) = hiddenM l0 rs[j]
    rw [← hat]
    rfl
theorem e3_hidden (hC : Cm lx ly g) (hP : pfC lx ly g τ B hg cnt F lim f) (ht : t < cnt) (ha : a < cnt) (hha : hg a ≤ f) (hA : g.2.2 (τ t) 4 = some (τ a)) (hT : Tb g I τ B hg cnt) (hL : Lay I ly F) (hM : Mch I lim e env base) (hi : invE lim e) (hbs : base + 100 * (f + 1) ≤ 3100) :
    Mx mX3_performHidden (4 * f + 7) 0 0 [vS 3, vD (some (τ t))] g I L (pfQ (if (ev F B lim f a env e).1 ≠ 0 then ((ev F B lim f a env e).1, [], (ev F B lim f a env e).2.2) else (0, (ev F B lim f a env e).2.1.map (hiddenM (mE.l e)), setSL (ev F B lim f a env e).2.2 (mE.s (ev F B lim f a env e).2.2) (mE.l e))) g I L lim env base) := by
  have h3 := (hC.1 3 _ rfl).2.1
  have h4 := (hC.1 4 _ rfl).2.1
  have hq := (hT t ht).2.1
  refine Mx_in (by decide +kernel) rfl rfl (Ex_wx [] 9 oX3_performHidden hC.1 ?_)
  refine Ex_v (As := []) (st := []) (d' := 0) vX3_52 rfl rfl (e5_size hC.1) h4 (by omega) rfl (dc_ok oX3_performHidden rfl) ?_
  rw [hM.2.2.2.2.2.2.2.2.2.2]
  refine Ex_wx [] 9 oX3_performHidden hC.1 ?_
  refine And.intro hq ?_
  have hx := hP a env e base I L ha hha hT hL hM hi (by omega)
  refine Ex_cV (kc := 0) (ks := 0) (kc' := 0) (ks' := 0) (As := [vD (g.2.2 (τ t) 4)]) (st := []) vX3_48 rfl rfl h3 (by rw [hA]; exact hx) (by omega) rfl (dc_ok oX3_performHidden rfl) ?_ (fun E g' I' L' hq => absurd hq pfQ_no)
  rw [hM.2.2.2.1]
  rintro w g I1 L ⟨rfl, rfl, hf, ho⟩
  have hok := ev_ok (F := F) (B := B) f a env e hi
  rcases out_split ho with ⟨h1, h2, hm, hrw, hkp⟩ | ⟨h1, x, h2, hx0, hst⟩
  · cases h2
    rw [if_neg (fun q => q h1)]
    have h50 := (hok.2.2 h1).1
    refine Ex_wx [31] 9 oX3_performHidden hC.1 ?_
    refine And.intro (fun _ => ?_) (fun c => absurd rfl c)
    refine Ex_bn 5 oX3_performHidden hC.1 ?_
    have hm2 : Mch (up2 I1 3 5 (mE.l e)) lim (setSL (ev F B lim f a env e).2.2 (mE.s (ev F B lim f a env e).2.2) (mE.l e)) env (base + (ev F B lim f a env e).2.1.length) := by
      obtain ⟨h1, h2, h3, h4, h5, h6, h7, h8, h9, h10, h11⟩ := hm
      have q : ∀ i, i ≠ 3 → up2 I1 3 5 (mE.l e) i = I1 i := fun i hi => by funext k; exact up2_i hi
      exact ⟨by rw [up2_k (by omega)]; exact h1, by rw [up2_k (by omega)]; exact h2, by rw [up2_k (by omega)]; exact h3, up2_s, by rw [up2_k (by omega)]; exact h5, by rw [q 9 (by omega)]; exact h6, by rw [q 10 (by omega)]; exact h7, by rw [q 11 (by omega)]; exact h8, by rw [q 12 (by omega)]; exact h9, fun k hk => by rw [q 13 (by omega)]; exact h10 k hk, by rw [q 4 (by omega)]; exact h11⟩
    have hres : ∀ k, resAt (up2 I1 3 5 (mE.l e)) k = resAt I1 k := fun k => by simp [resAt, up2]
    refine Ex_v (As := []) (st := []) (d' := 0) vX3_52 rfl rfl (e5_size hC.1) h4 (by omega) rfl (dc_ok oX3_performHidden rfl) ?_
    rw [hm2.2.2.2.2.2.2.2.2.2.2]
    refine Ex_bn 3 oX3_performHidden hC.1 ?_
    exact e3_hiddenL hC (by omega) (by omega) _ 0 _ rfl (Nat.zero_le _) hm2 (MapR.zero (fun j r h => by rw [hres]; exact hrw j r h)) (hkp.trans (fun k hk => hres k)) (hf.trans (fun i hi => by funext k; exact up2_i (by omega)))
  · cases h2
    rw [if_pos h1]
    refine Ex_wx [31] 9 oX3_performHidden hC.1 ?_
    refine And.intro (fun c => absurd c hx0) (fun _ => ?_)
    exact ⟨rfl, rfl, hf, hst I base (Nat.le_refl _) Keep.refl⟩
theorem e3_heardL {rs : List mR} {e2 : mE} {len0 : Int32} {v1 : Option aV} (hC : Cm lx ly g) (hL : Lay I ly F) (hre : errR rs) (hi : invE lim e2) (hlim : lim ≤ 2000) (hd : 3 ≤ d) (h31 : base + rs.length ≤ 3100) : ∀ (n j : Nat) (I1 : aI) (v6 : Option aV), rs.length - j = n → j ≤ rs.length → Mch I1 lim e2 env (base + rs.length) → MapR I1 base rs j (heardM F len0 e2) → Keep I I1 base → Frm I I1 →
    Ex mX3_performHeard d 0 0 (pfQ (0, rs.map (heardM F len0 e2), e2) g I L lim env base) 50 [some (vS 3), v1, some (vI (nI base)), some (vI len0), some (vI 0), some (vI (nI (base + rs.length))), some (vI (nI (base + j))), v6] [] g I1 L := by
  have h4 := (hC.1 4 _ rfl).2.1
  have h9 := (hC.1 9 _ rfl).2.1
  intro n
  induction n with
  | zero =>
    intro j I1 v6 hn hj hM hR hK hF
    have : j = rs.length := by omega
    subst this
    refine Ex_wx [] 9 oX3_performHeard hC.1 ?_
    refine And.intro (fun _ => ?_) (fun c => absurd (Int32.le_refl _) c)
    exact ⟨rfl, rfl, hF, Or.inl ⟨rfl, rfl, by rw [List.length_map]; exact hM, hR.rows, hK⟩⟩
  | succ n ih =>
    intro j I1 v6 hn hj hM hR hK hF
    have hjl : j < rs.length := by omega
    have htop := hM.2.2.2.2.2.2.2.2.2.2
    have hrj := List.getElem?_eq_getElem hjl
    have hat := hR j _ hrj
    rw [if_neg (by omega)] at hat
    have q6 : I1 6 (base + j) = rs[j].2.1 := congrArg (fun r : mR => r.2.1) hat
    have q8 : I1 8 (base + j) = rs[j].2.2.2 := congrArg (fun r : mR => r.2.2.2) hat
    have hr01 := hre _ (List.getElem_mem hjl)
    have hLay1 : Lay I1 ly F := hL.frm hF hC.2.2
    refine Ex_wx [] 9 oX3_performHeard hC.1 ?_
    refine And.intro (fun c => absurd (leN c (by omega) (by omega)) (by omega)) (fun _ => ?_)
    refine Ex_v (As := [vI (nI (base + j))]) (st := []) (d' := 1) vX3_122 rfl rfl (e5_isError hC.1 htop (by omega) (by omega) (by omega)) h4 (by omega) rfl (dc_ok oX3_performHeard rfl) ?_
    rw [q6, bz_01 hr01]
    -- at 117
    have nxt : ∀ (I2 : aI) (v6 : Option aV), Mch I2 lim e2 env (base + rs.length) → MapR I2 base rs (j + 1) (heardM F len0 e2) → Keep I I2 base → Frm I I2 →
        Ex mX3_performHeard d 0 0 (pfQ (0, rs.map (heardM F len0 e2), e2) g I L lim env base) 117 [some (vS 3), v1, some (vI (nI base)), some (vI len0), some (vI 0), some (vI (nI (base + rs.length))), some (vI (nI (base + j))), v6] [] g I2 L := by
      intro I2 v6 m1 m2 m3 m4
      refine Ex_wx [50] 9 oX3_performHeard hC.1 ?_
      show Ex mX3_performHeard d 0 0 _ 50 [some (vS 3), v1, some (vI (nI base)), some (vI len0), some (vI 0), some (vI (nI (base + rs.length))), some (vI (nI (base + j) + 1)), v6] [] g I2 L
      rw [nI_1, show base + j + 1 = base + (j + 1) by omega]
      exact ih (j + 1) I2 v6 (by omega) (by omega) m1 m2 m3 m4
    -- at 95, with its log on the stack
    have mid : rs[j].2.1 = 0 → ∀ lg : Int32, lg = (if F.2.1 = true then rs[j].2.2.2 else mE.l e2) → Ex mX3_performHeard d 0 0 (pfQ (0, rs.map (heardM F len0 e2), e2) g I L lim env base) 95 [some (vS 3), v1, some (vI (nI base)), some (vI len0), some (vI 0), some (vI (nI (base + rs.length))), some (vI (nI (base + j))), v6] [vI lg] g I1 L := by
      intro hz lg hlg
      refine Ex_wx [] 9 oX3_performHeard hC.1 ?_
      have hus : mE.us e2 ≤ 2001 := Nat.le_trans hi.2.1 (by have := hi.2.2; omega)
      refine Ex_v (As := [vI lg]) (st := [vI (nI (base + j)), vS 4]) (d' := 1) vX3_240 rfl rfl (e2_lengthOf hC.1 hM.2.2.2.2.2.1 hus (by omega)) h9 (by omega) rfl (dc_ok oX3_performHeard rfl) ?_
      refine Ex_wx [] 9 oX3_performHeard hC.1 ?_
      refine Ex_v (As := [vI (nI (base + j)), vI (gtL (I1 12) (mE.us e2) lg - len0)]) (st := []) (d' := 1) vX3_243 rfl rfl (e5_setNumber hC.1 htop (by omega) (by omega) (by omega)) h4 (by omega) rfl (dc_ok oX3_performHeard rfl) ?_
      refine nxt _ _ (hM.setR (by omega)) (hR.step hrj ?_ (fun k hk => by rw [set5_res, if_neg hk])) (hK.trans (fun k hk => by rw [set5_res, if_neg (by omega)])) (hF.trans (setR_frm (by omega)))
      rw [set5_res, if_pos rfl]
      unfold heardM
      rw [if_pos hz]
      show (gtL (I1 12) (mE.us e2) lg - len0, I1 6 (base + j), I1 7 (base + j), I1 8 (base + j)) = _
      have q7 : I1 7 (base + j) = rs[j].2.2.1 := congrArg (fun r : mR => r.2.2.1) hat
      rw [q6, q7, q8, hM.2.2.2.2.2.2.2.2.1, hlg]
      rfl
    refine Ex_wx [69, 117] 9 oX3_performHeard hC.1 ?_
    refine And.intro (fun c => ?_) (fun c => ?_)
    · refine Ex_wx [79, 91, 95] 9 oX3_performHeard hC.1 ?_
      refine And.intro hC.2.1 ?_
      have hl := hLay1.2.1
      refine And.intro (fun c2 => ?_) (fun c2 => ?_)
      · rw [hl] at c2
        refine Ex_bn 2 oX3_performHeard hC.1 ?_
        refine mid c _ ?_
        rw [if_neg (by rw [bI_0.mp c2]; decide)]
        exact hM.2.2.2.1
      · rw [hl] at c2
        have hF2 : F.2.1 = true := by cases h : F.2.1 with | true => rfl | false => exact absurd (bI_0.mpr h) c2
        refine Ex_wx [] 9 oX3_performHeard hC.1 ?_
        refine Ex_v (As := [vI (nI (base + j))]) (st := []) (d' := 1) vX3_139 rfl rfl (e5_logOf hC.1 htop (by omega) (by omega) (by omega)) h4 (by omega) rfl (dc_ok oX3_performHeard rfl) ?_
        refine Ex_wx [95] 9 oX3_performHeard hC.1 ?_
        refine mid c _ ?_
        rw [if_pos hF2]
        exact q8
    · refine nxt I1 v6 hM (hR.step hrj ?_ (fun k hk => rfl)) hK hF
      rw [hat]
      unfold heardM
      rw [if_neg c]
theorem e3_heard (hC : Cm lx ly g) (hP : pfC lx ly g τ B hg cnt F lim f) (ht : t < cnt) (ha : a < cnt) (hha : hg a ≤ f) (hA : g.2.2 (τ t) 4 = some (τ a)) (hT : Tb g I τ B hg cnt) (hL : Lay I ly F) (hM : Mch I lim e env base) (hi : invE lim e) (hlim : lim ≤ 2000) (hbs : base + 100 * (f + 1) ≤ 3100) :
    Mx mX3_performHeard (4 * f + 7) 0 0 [vS 3, vD (some (τ t))] g I L (pfQ (if (ev F B lim f a env e).1 ≠ 0 then ((ev F B lim f a env e).1, [], (ev F B lim f a env e).2.2) else (0, (ev F B lim f a env e).2.1.map (heardM F (lenF e (mE.l e)) (ev F B lim f a env e).2.2), (ev F B lim f a env e).2.2)) g I L lim env base) := by
  have h3 := (hC.1 3 _ rfl).2.1
  have h4 := (hC.1 4 _ rfl).2.1
  have h9 := (hC.1 9 _ rfl).2.1
  have hq := (hT t ht).2.1
  have hus : mE.us e ≤ 2001 := Nat.le_trans hi.2.1 (by have := hi.2.2; omega)
  refine Mx_in (by decide +kernel) rfl rfl (Ex_wx [] 9 oX3_performHeard hC.1 ?_)
  refine Ex_v (As := []) (st := []) (d' := 0) vX3_52 rfl rfl (e5_size hC.1) h4 (by omega) rfl (dc_ok oX3_performHeard rfl) ?_
  rw [hM.2.2.2.2.2.2.2.2.2.2]
  refine Ex_wx [] 9 oX3_performHeard hC.1 ?_
  refine Ex_v (As := [vI (I 3 5)]) (st := []) (d' := 1) vX3_240 rfl rfl (e2_lengthOf hC.1 hM.2.2.2.2.2.1 hus (by omega)) h9 (by omega) rfl (dc_ok oX3_performHeard rfl) ?_
  rw [show gtL (I 12) (mE.us e) (I 3 5) = lenF e (mE.l e) by rw [hM.2.2.2.2.2.2.2.2.1, hM.2.2.2.1]; rfl]
  refine Ex_wx [] 9 oX3_performHeard hC.1 ?_
  refine And.intro hq ?_
  have hx := hP a env e base I L ha hha hT hL hM hi (by omega)
  refine Ex_cV (kc := 0) (ks := 0) (kc' := 0) (ks' := 0) (As := [vD (g.2.2 (τ t) 4)]) (st := []) vX3_48 rfl rfl h3 (by rw [hA]; exact hx) (by omega) rfl (dc_ok oX3_performHeard rfl) ?_ (fun E g' I' L' hq => absurd hq pfQ_no)
  rintro w g I1 L ⟨rfl, rfl, hf, ho⟩
  have hok := ev_ok (F := F) (B := B) f a env e hi
  rcases out_split ho with ⟨h1, h2, hm, hrw, hkp⟩ | ⟨h1, x, h2, hx0, hst⟩
  · cases h2
    rw [if_neg (fun q => q h1)]
    have h50 := (hok.2.2 h1).1
    refine Ex_wx [38] 9 oX3_performHeard hC.1 ?_
    refine And.intro (fun _ => ?_) (fun c => absurd rfl c)
    refine Ex_bn 2 oX3_performHeard hC.1 ?_
    refine Ex_v (As := []) (st := []) (d' := 0) vX3_52 rfl rfl (e5_size hC.1) h4 (by omega) rfl (dc_ok oX3_performHeard rfl) ?_
    rw [hm.2.2.2.2.2.2.2.2.2.2]
    refine Ex_bn 3 oX3_performHeard hC.1 ?_
    exact e3_heardL hC hL (hok.2.2 h1).2 hok.2.1 hlim (by omega) (by omega) _ 0 _ _ rfl (Nat.zero_le _) hm (MapR.zero hrw) hkp hf
  · cases h2
    rw [if_pos h1]
    refine Ex_wx [38] 9 oX3_performHeard hC.1 ?_
    refine And.intro (fun c => absurd c hx0) (fun _ => ?_)
    exact ⟨rfl, rfl, hf, hst I base (Nat.le_refl _) Keep.refl⟩
end Acts3
