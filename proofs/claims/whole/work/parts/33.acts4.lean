/-! SAVED and TIMES -/
section Acts4
variable {lx ly : Nat} {g : aG} {τ : Nat → Nat} {B : mB} {hg : Nat → Nat} {cnt : Nat} {F : mF} {lim f : Nat}
variable {t a b : Nat} {env : Nat → Int32} {e : mE} {base d : Nat} {I : aI} {L : aL} {x nm : Int32}
theorem Mch.sl {s' l' : Int32} {top : Nat} (hm : Mch I lim e env top) : Mch (up2 (up2 I 3 4 s') 3 5 l') lim (setSL e s' l') env top := by
  obtain ⟨h1, h2, h3, h4, h5, h6, h7, h8, h9, h10, h11⟩ := hm
  have q : ∀ i, i ≠ 3 → up2 (up2 I 3 4 s') 3 5 l' i = I i := fun i hi => by funext k; rw [up2_i hi, up2_i hi]
  exact ⟨by rw [up2_k (by omega), up2_k (by omega)]; exact h1, by rw [up2_k (by omega), up2_k (by omega)]; exact h2, by rw [up2_k (by omega)]; exact up2_s, up2_s, by rw [up2_k (by omega), up2_k (by omega)]; exact h5, by rw [q 9 (by omega)]; exact h6, by rw [q 10 (by omega)]; exact h7, by rw [q 11 (by omega)]; exact h8, by rw [q 12 (by omega)]; exact h9, fun k hk => by rw [q 13 (by omega)]; exact h10 k hk, by rw [q 4 (by omega)]; exact h11⟩
theorem bI_cases (b : Bool) : (b = true ∧ ¬ bI b = 0) ∨ (b = false ∧ bI b = 0) := by cases b <;> simp [bI]
theorem e3_savedL {rs : List mR} {e2 : mE} {v1 : Option aV} {Q : aQ} (hC : Cm lx ly g) (hL : Lay I ly F) (hre : errR rs) (hd : 3 ≤ d) (h31 : base + rs.length ≤ 3100)
    (K : ∀ (I2 : aI), Mch I2 lim e2 env (base + rs.length) → Rows I2 base (rs.map (savedM F e)) → Keep I I2 base → Frm I I2 → Ex mX3_performSaved d 0 0 Q 216 [some (vS 3), v1, some (vI (nI base)), some (vI (mE.s e)), some (vI (mE.l e)), some (vI 0), some (vI (nI (base + rs.length))), some (vI (nI (base + rs.length)))] [] g I2 L) :
    ∀ (n j : Nat) (I1 : aI), rs.length - j = n → j ≤ rs.length → Mch I1 lim e2 env (base + rs.length) → MapR I1 base rs j (savedM F e) → Keep I I1 base → Frm I I1 →
    Ex mX3_performSaved d 0 0 Q 126 [some (vS 3), v1, some (vI (nI base)), some (vI (mE.s e)), some (vI (mE.l e)), some (vI 0), some (vI (nI (base + rs.length))), some (vI (nI (base + j)))] [] g I1 L := by
  have h4 := (hC.1 4 _ rfl).2.1
  intro n
  induction n with
  | zero =>
    intro j I1 hn hj hM hR hK hF
    have : j = rs.length := by omega
    subst this
    refine Ex_wx [216] 9 oX3_performSaved hC.1 ?_
    refine And.intro (fun _ => ?_) (fun c => absurd (Int32.le_refl _) c)
    exact K I1 hM hR.rows hK hF
  | succ n ih =>
    intro j I1 hn hj hM hR hK hF
    have hjl : j < rs.length := by omega
    have htop := hM.2.2.2.2.2.2.2.2.2.2
    have hrj := List.getElem?_eq_getElem hjl
    have hat := hR j _ hrj
    rw [if_neg (by omega)] at hat
    have q5 : I1 5 (base + j) = rs[j].1 := congrArg (fun r : mR => r.1) hat
    have q6 : I1 6 (base + j) = rs[j].2.1 := congrArg (fun r : mR => r.2.1) hat
    have q7 : I1 7 (base + j) = rs[j].2.2.1 := congrArg (fun r : mR => r.2.2.1) hat
    have q8 : I1 8 (base + j) = rs[j].2.2.2 := congrArg (fun r : mR => r.2.2.2) hat
    have hr01 := hre _ (List.getElem_mem hjl)
    have hLay1 : Lay I1 ly F := hL.frm hF hC.2.2
    refine Ex_wx [] 9 oX3_performSaved hC.1 ?_
    refine And.intro (fun c => absurd (leN c (by omega) (by omega)) (by omega)) (fun _ => ?_)
    refine Ex_v (As := [vI (nI (base + j))]) (st := []) (d' := 1) vX3_122 rfl rfl (e5_isError hC.1 htop (by omega) (by omega) (by omega)) h4 (by omega) rfl (dc_ok oX3_performSaved rfl) ?_
    rw [q6, bz_01 hr01]
    have nxt : ∀ (I2 : aI), Mch I2 lim e2 env (base + rs.length) → MapR I2 base rs (j + 1) (savedM F e) → Keep I I2 base → Frm I I2 →
        Ex mX3_performSaved d 0 0 Q 210 [some (vS 3), v1, some (vI (nI base)), some (vI (mE.s e)), some (vI (mE.l e)), some (vI 0), some (vI (nI (base + rs.length))), some (vI (nI (base + j)))] [] g I2 L := by
      intro I2 m1 m2 m3 m4
      refine Ex_wx [126] 9 oX3_performSaved hC.1 ?_
      show Ex mX3_performSaved d 0 0 _ 126 [some (vS 3), v1, some (vI (nI base)), some (vI (mE.s e)), some (vI (mE.l e)), some (vI 0), some (vI (nI (base + rs.length))), some (vI (nI (base + j) + 1))] [] g I2 L
      rw [nI_1, show base + j + 1 = base + (j + 1) by omega]
      exact ih (j + 1) I2 (by omega) (by omega) m1 m2 m3 m4
    refine Ex_wx [145, 210] 9 oX3_performSaved hC.1 ?_
    refine And.intro (fun c => ?_) (fun c => ?_)
    · refine nxt I1 hM (hR.step hrj ?_ (fun k hk => rfl)) hK hF
      rw [hat]
      unfold savedM
      rw [if_pos c]
    · have at207 : ∀ (s' l' : Int32) (I2 : aI), I2 = up2 I1 7 (base + j) s' → s' = (if F.2.2.2.1 = true then mE.s e else rs[j].2.2.1) → l' = (if F.2.2.2.2 = true then mE.l e else rs[j].2.2.2) →
          Ex mX3_performSaved d 0 0 Q 207 [some (vS 3), v1, some (vI (nI base)), some (vI (mE.s e)), some (vI (mE.l e)), some (vI 0), some (vI (nI (base + rs.length))), some (vI (nI (base + j)))] [vI l', vI (nI (base + j)), vS 4] g I2 L := by
        intro s' l' I2 hI2 hs' hl'
        have hM2 : Mch I2 lim e2 env (base + rs.length) := by rw [hI2]; exact hM.setR (by omega)
        refine Ex_v (As := [vI (nI (base + j)), vI l']) (st := []) (d' := 1) vX3_230 rfl rfl (e5_setLog hC.1 hM2.2.2.2.2.2.2.2.2.2.2 (by omega) (by omega) (by omega)) h4 (by omega) rfl (dc_ok oX3_performSaved rfl) ?_
        refine nxt _ (hM2.setR (by omega)) (hR.step hrj ?_ (fun k hk => by rw [set8_res, if_neg hk, hI2, set7_res, if_neg hk])) (hK.trans (fun k hk => by rw [set8_res, if_neg (by omega), hI2, set7_res, if_neg (by omega)])) ?_
        · rw [set8_res, if_pos rfl, hI2]
          unfold savedM
          rw [if_neg c, ← hs', ← hl']
          rw [up2_i (by omega), up2_i (by omega), up2_s, q5, q6]
        · rw [hI2]; exact hF.trans ((setR_frm (by omega)).trans (setR_frm (by omega)))
      have at174 : ∀ (s' : Int32), s' = (if F.2.2.2.1 = true then mE.s e else rs[j].2.2.1) →
          Ex mX3_performSaved d 0 0 Q 174 [some (vS 3), v1, some (vI (nI base)), some (vI (mE.s e)), some (vI (mE.l e)), some (vI 0), some (vI (nI (base + rs.length))), some (vI (nI (base + j)))] [vI s', vI (nI (base + j)), vS 4] g I1 L := by
        intro s' hs'
        refine Ex_v (As := [vI (nI (base + j)), vI s']) (st := []) (d' := 1) vX3_228 rfl rfl (e5_setState hC.1 htop (by omega) (by omega) (by omega)) h4 (by omega) rfl (dc_ok oX3_performSaved rfl) ?_
        refine Ex_wx [193, 198, 207] 9 oX3_performSaved hC.1 ?_
        refine And.intro hC.2.1 ?_
        have hl : up2 I1 7 (base + j) s' ly 7 = bI F.2.2.2.2 := by rw [up2_i (by have := hC.2.2; omega)]; exact hLay1.2.2.2.2
        rcases bI_cases F.2.2.2.2 with ⟨hb1, hb2⟩ | ⟨hb1, hb2⟩
        · refine And.intro (fun c2 => absurd (hl ▸ c2) hb2) (fun _ => ?_)
          refine Ex_wx [207] 9 oX3_performSaved hC.1 ?_
          exact at207 s' _ _ rfl hs' (by rw [if_pos hb1])
        · refine And.intro (fun _ => ?_) (fun c2 => absurd (hl.trans hb2) c2)
          refine Ex_wx [] 9 oX3_performSaved hC.1 ?_
          have htop2 : up2 I1 7 (base + j) s' 4 4 = nI (base + rs.length) := by rw [up2_i (by omega)]; exact htop
          refine Ex_v (As := [vI (nI (base + j))]) (st := [vI (nI (base + j)), vS 4]) (d' := 1) vX3_139 rfl rfl (e5_logOf hC.1 htop2 (by omega) (by omega) (by omega)) h4 (by omega) rfl (dc_ok oX3_performSaved rfl) ?_
          refine at207 s' _ _ rfl hs' ?_
          rw [if_neg (by rw [hb1]; decide), up2_i (by omega)]
          exact q8
      refine Ex_wx [161, 165, 174] 9 oX3_performSaved hC.1 ?_
      refine And.intro hC.2.1 ?_
      have hl := hLay1.2.2.2.1
      rcases bI_cases F.2.2.2.1 with ⟨hb1, hb2⟩ | ⟨hb1, hb2⟩
      · refine And.intro (fun c2 => absurd (hl ▸ c2) hb2) (fun _ => ?_)
        refine Ex_wx [174] 9 oX3_performSaved hC.1 ?_
        exact at174 _ (by rw [if_pos hb1])
      · refine And.intro (fun _ => ?_) (fun c2 => absurd (hl.trans hb2) c2)
        refine Ex_wx [] 9 oX3_performSaved hC.1 ?_
        refine Ex_v (As := [vI (nI (base + j))]) (st := [vI (nI (base + j)), vS 4]) (d' := 1) vX3_133 rfl rfl (e5_stateOf hC.1 htop (by omega) (by omega) (by omega)) h4 (by omega) rfl (dc_ok oX3_performSaved rfl) ?_
        refine at174 _ ?_
        rw [if_neg (by rw [hb1]; decide)]
        exact q7
theorem e3_saved (hC : Cm lx ly g) (hP : pfC lx ly g τ B hg cnt F lim f) (ht : t < cnt) (hnm : I (τ t) 3 = nm) (ha : a < cnt) (hha : hg a ≤ f) (hA : g.2.2 (τ t) 4 = some (τ a)) (hb : b < cnt) (hhb : hg b ≤ f) (hB : g.2.2 (τ t) 5 = some (τ b)) (hT : Tb g I τ B hg cnt) (hL : Lay I ly F) (hM : Mch I lim e env base) (hi : invE lim e) (hlim : lim ≤ 2000) (hbs : base + 100 * (f + 1) ≤ 3100) :
    Mx mX3_performSaved (4 * f + 7) 0 0 [vS 3, vD (some (τ t))] g I L (pfQ (savedF F e (ev F B lim f a env e) (ev F B lim f b) nm env) g I L lim env base) := by
  have h3 := (hC.1 3 _ rfl).2.1
  have h4 := (hC.1 4 _ rfl).2.1
  have hq := (hT t ht).2.1
  have h13 := (hT t ht).1
  refine Mx_in (by decide +kernel) rfl rfl (Ex_wx [] 9 oX3_performSaved hC.1 ?_)
  refine Ex_v (As := []) (st := []) (d' := 0) vX3_52 rfl rfl (e5_size hC.1) h4 (by omega) rfl (dc_ok oX3_performSaved rfl) ?_
  rw [hM.2.2.2.2.2.2.2.2.2.2]
  refine Ex_wx [] 9 oX3_performSaved hC.1 ?_
  refine And.intro hq ?_
  have hx := hP a env e base I L ha hha hT hL hM hi (by omega)
  refine Ex_cV (kc := 0) (ks := 0) (kc' := 0) (ks' := 0) (As := [vD (g.2.2 (τ t) 4)]) (st := []) vX3_48 rfl rfl h3 (by rw [hA]; exact hx) (by omega) rfl (dc_ok oX3_performSaved rfl) ?_ (fun E g' I' L' hq => absurd hq pfQ_no)
  rw [hM.2.2.1, hM.2.2.2.1]
  rintro w g I1 L ⟨rfl, rfl, hf, ho⟩
  have hok := ev_ok (F := F) (B := B) f a env e hi
  unfold savedF
  rcases ho with ⟨h1, h2, hm, hrw, hkp⟩ | ⟨h1, h2, ⟨top, ht1, ht2, hm⟩, hkp⟩ | ⟨h1, h2, h5⟩
  · cases h2
    rw [if_neg (by rw [h1]; decide), if_neg (fun q => q h1)]
    have h50 := (hok.2.2 h1).1
    refine Ex_wx [106] 9 oX3_performSaved hC.1 ?_
    refine And.intro (fun c => absurd c (by decide)) (fun _ => ?_)
    refine Ex_wx [114] 9 oX3_performSaved hC.1 ?_
    refine And.intro (fun _ => ?_) (fun c => absurd rfl c)
    refine Ex_bn 2 oX3_performSaved hC.1 ?_
    refine Ex_v (As := []) (st := []) (d' := 0) vX3_52 rfl rfl (e5_size hC.1) h4 (by omega) rfl (dc_ok oX3_performSaved rfl) ?_
    rw [hm.2.2.2.2.2.2.2.2.2.2]
    refine Ex_bn 3 oX3_performSaved hC.1 ?_
    refine e3_savedL (e := e) hC hL (hok.2.2 h1).2 (by omega) (by omega) ?_ _ 0 _ rfl (Nat.zero_le _) hm (MapR.zero hrw) hkp hf
    intro I2 m1 m2 m3 m4
    refine Ex_wx [] 9 oX3_performSaved hC.1 ?_
    refine And.intro hq (And.intro hq ?_)
    have hre : errR ((ev F B lim f a env e).2.1.map (savedM F e)) := by
      intro r hr
      obtain ⟨r', hr', rfl⟩ := List.mem_map.mp hr
      have := (hok.2.2 h1).2 r' hr'
      unfold savedM
      split <;> exact this
    have hE := e3_each (L := L) (oe := 1) (nm := nm) (I := I2) hC hP hb hhb (hT.frm m4) (hL.frm m4 hC.2.2) (by rw [List.length_map]; exact h50) hre hbs hlim (by rw [List.length_map]; exact m1) m2 hok.2.1
    refine Ex_cV (kc := 0) (ks := 0) (kc' := 0) (ks' := 0) (As := [vI (nI base), vI 1, vI (I2 (τ t) 3), vD (g.2.2 (τ t) 5)]) (st := []) vX3_220 rfl rfl h3 (by rw [m4 (τ t) (Or.inr h13), hnm, hB]; exact hE) (by omega) rfl (dc_ok oX3_performSaved rfl) ?_ (fun E g' I' L' hq => absurd hq pfQ_no)
    rintro w g I3 L ⟨rfl, rfl, hf2, ho2⟩
    obtain ⟨y, rfl⟩ := out_val ho2
    refine Ex_wx [] 9 oX3_performSaved hC.1 ?_
    exact ⟨rfl, rfl, m4.trans hf2, ho2.pre m3⟩
  · cases h2
    rw [if_pos h1]
    refine Ex_wx [106] 9 oX3_performSaved hC.1 ?_
    refine And.intro (fun _ => ?_) (fun c => absurd rfl c)
    refine Ex_v (As := [vI (nI base)]) (st := []) (d' := 0) vX3_75 rfl rfl (e5_cutTo hC.1 hm.2.2.2.2.2.2.2.2.2.2 ht2 ht1) h4 (by omega) rfl (dc_ok oX3_performSaved rfl) ?_
    have hm2 : Mch (up2 I1 4 4 (nI base)) lim (ev F B lim f a env e).2.2 env base := hm.cut
    have hf2 : Frm I (up2 I1 4 4 (nI base)) := hf.trans (fun i hi => cut_else (by omega))
    have hk2 : Keep I (up2 I1 4 4 (nI base)) base := hkp.trans (fun k hk => cut_res)
    generalize up2 I1 4 4 (nI base) = I2 at hm2 hf2 hk2 ⊢
    have hLay : Lay I2 ly F := hL.frm hf2 hC.2.2
    have at86 : ∀ (s' l' : Int32), s' = (if F.2.2.2.1 = true then mE.s e else mE.s (ev F B lim f a env e).2.2) → l' = (if F.2.2.2.2 = true then mE.l e else mE.l (ev F B lim f a env e).2.2) →
        Ex mX3_performSaved (4 * f + 7) 0 0 (pfQ (ev F B lim f b (upE env nm (mE.en (ev F B lim f a env e).2.2)) (setSL (ev F B lim f a env e).2.2 (if F.2.2.2.1 = true then mE.s e else mE.s (ev F B lim f a env e).2.2) (if F.2.2.2.2 = true then mE.l e else mE.l (ev F B lim f a env e).2.2))) g I L lim env base) 86 [some (vS 3), some (vD (some (τ t))), some (vI (nI base)), some (vI (mE.s e)), some (vI (mE.l e)), some (vI (-2)), none, none] [vI l', vS 3] g (up2 I2 3 4 s') L := by
      intro s' l' hs' hl'
      rw [← hs', ← hl']
      refine Ex_wx [] 9 oX3_performSaved hC.1 ?_
      refine And.intro hq (And.intro hq ?_)
      have hm3 := hm2.sl (s' := s') (l' := l')
      have hf3 : Frm I (up2 (up2 I2 3 4 s') 3 5 l') := hf2.trans (fun i hi => by funext k; rw [up2_i (by omega), up2_i (by omega)])
      have hN := e3_naming (L := L) (nm := nm) (v := mE.en (ev F B lim f a env e).2.2) (I := up2 (up2 I2 3 4 s') 3 5 l') hC hP hb hhb (hT.frm hf3) (hL.frm hf3 hC.2.2) hm3 (setSL_inv hok.2.1) (by omega)
      refine Ex_cV (kc := 0) (ks := 0) (kc' := 0) (ks' := 0) (As := [vI (up2 (up2 I2 3 4 s') 3 5 l' (τ t) 3), vI (up2 (up2 I2 3 4 s') 3 5 l' 3 8), vD (g.2.2 (τ t) 5)]) (st := []) vX3_224 rfl rfl h3 (by rw [hf3 (τ t) (Or.inr h13), hnm, hB, hm3.2.2.2.2.1]; exact hN) (by omega) rfl (dc_ok oX3_performSaved rfl) ?_ (fun E g' I' L' hq => absurd hq pfQ_no)
      rintro w g I3 L ⟨rfl, rfl, hf4, ho2⟩
      obtain ⟨y, rfl⟩ := out_val ho2
      refine Ex_wx [] 9 oX3_performSaved hC.1 ?_
      exact ⟨rfl, rfl, hf3.trans hf4, ho2.pre (hk2.trans (fun k hk => by simp [resAt, up2]))⟩
    have at63 : ∀ (s' : Int32), s' = (if F.2.2.2.1 = true then mE.s e else mE.s (ev F B lim f a env e).2.2) →
        Ex mX3_performSaved (4 * f + 7) 0 0 (pfQ (ev F B lim f b (upE env nm (mE.en (ev F B lim f a env e).2.2)) (setSL (ev F B lim f a env e).2.2 (if F.2.2.2.1 = true then mE.s e else mE.s (ev F B lim f a env e).2.2) (if F.2.2.2.2 = true then mE.l e else mE.l (ev F B lim f a env e).2.2))) g I L lim env base) 63 [some (vS 3), some (vD (some (τ t))), some (vI (nI base)), some (vI (mE.s e)), some (vI (mE.l e)), some (vI (-2)), none, none] [vI s', vS 3] g I2 L := by
      intro s' hs'
      refine Ex_wx [77, 82, 86] 9 oX3_performSaved hC.1 ?_
      refine And.intro hC.2.1 ?_
      have hl : up2 I2 3 4 s' ly 7 = bI F.2.2.2.2 := by rw [up2_i (by have := hC.2.2; omega)]; exact hLay.2.2.2.2
      rcases bI_cases F.2.2.2.2 with ⟨hb1, hb2⟩ | ⟨hb1, hb2⟩
      · refine And.intro (fun c2 => absurd (hl ▸ c2) hb2) (fun _ => ?_)
        refine Ex_wx [86] 9 oX3_performSaved hC.1 ?_
        exact at86 s' _ hs' (by rw [if_pos hb1])
      · refine And.intro (fun _ => ?_) (fun c2 => absurd (hl.trans hb2) c2)
        refine Ex_bn 2 oX3_performSaved hC.1 ?_
        refine at86 s' _ hs' ?_
        rw [if_neg (by rw [hb1]; decide), up2_k (by omega)]
        exact hm2.2.2.2.1
    refine Ex_wx [55, 59, 63] 9 oX3_performSaved hC.1 ?_
    refine And.intro hC.2.1 ?_
    have hl := hLay.2.2.2.1
    rcases bI_cases F.2.2.2.1 with ⟨hb1, hb2⟩ | ⟨hb1, hb2⟩
    · refine And.intro (fun c2 => absurd (hl ▸ c2) hb2) (fun _ => ?_)
      refine Ex_wx [63] 9 oX3_performSaved hC.1 ?_
      exact at63 _ (by rw [if_pos hb1])
    · refine And.intro (fun _ => ?_) (fun c2 => absurd (hl.trans hb2) c2)
      refine Ex_bn 2 oX3_performSaved hC.1 ?_
      refine at63 _ ?_
      rw [if_neg (by rw [hb1]; decide)]
      exact hm2.2.2.1
  · cases h2
    rw [if_neg (by rw [h1]; decide), if_pos (by rw [h1]; decide)]
    refine Ex_wx [106] 9 oX3_performSaved hC.1 ?_
    refine And.intro (fun c => absurd c (by decide)) (fun _ => ?_)
    refine Ex_wx [] 9 oX3_performSaved hC.1 ?_
    refine And.intro (fun c => absurd c (by decide)) (fun _ => ?_)
    exact ⟨rfl, rfl, hf, Or.inr (Or.inr ⟨h1, rfl, h5⟩)⟩
end Acts4
