/-! the reference's run: all kinds -/
theorem clamp_nI {x : Int32} : (x < 0 → nI (clampF x) = 0) ∧ (¬ x < 0 → 8 < x → nI (clampF x) = 8) ∧ (¬ x < 0 → ¬ 8 < x → nI (clampF x) = x) ∧ clampF x ≤ 8 := by
  unfold clampF
  by_cases h : x < 0
  · rw [if_pos h]
    exact ⟨fun _ => rfl, fun c => absurd h c, fun c => absurd h c, by omega⟩
  · rw [if_neg h]
    by_cases h8 : 8 < x
    · rw [if_pos h8]
      exact ⟨fun c => absurd c h, fun _ _ => rfl, fun _ c => absurd h8 c, by omega⟩
    · rw [if_neg h8]
      obtain ⟨j, hj, rfl⟩ := nI_of2 (M := 8) (n := 8) (by decide) h (Int32.not_lt.mp h8)
      rw [clN (by omega)]
      exact ⟨fun c => absurd c h, fun _ c => absurd c h8, fun _ _ => rfl, hj⟩
theorem times_first {F : mF} {go : (Nat → Int32) → mE → mO} {env : Nat → Int32} {m lim : Nat} {e : mE} {q : mO} (hq : go env e = q) (hk : okO lim q) : timesF F go env (m + 1) [(0, 0, mE.s e, mE.l e)] e = if q.1 ≠ 0 then (q.1, [], q.2.2) else timesF F go env m q.2.1 q.2.2 := by
  have hsf : stepF F go 0 (-1) env (0, 0, mE.s e, mE.l e) e = q := by
    unfold stepF
    rw [if_pos rfl, upE_no, own2_self]; exact hq
  simp only [timesF]
  by_cases h : q.1 = 0
  · rw [each_go (by rw [hsf]; exact h) (by rw [hsf, List.nil_append]; have := (hk.2.2 h).1; omega), hsf, List.nil_append]
    have e1 : eachF F go 0 (-1) env [] q.2.1 q.2.2 = (0, q.2.1, q.2.2) := rfl
    rw [e1, if_neg (show ¬ ((0, q.2.1, q.2.2) : mO).1 ≠ 0 from fun c => c rfl), if_neg (show ¬ q.1 ≠ 0 from fun c => c h)]
  · rw [each_stop (by rw [hsf]; exact h), hsf, if_pos h, if_pos h]
section SimAll
variable {lx ly : Nat} {g : aG} {I : aI} {L : aL} {p : Nat → Int32} {B : mB} {hg : Nat → Nat} {cnt lim h t f : Nat} {okT : Nat → Prop} {Run : aI → Prop} {env : Nat → Int32} {e : mE}
theorem sim_times (ih : simC g L p B hg cnt lim okT Run f) (hst : stepR g L Run) (hB : Bw B hg cnt) (hO : okB p B cnt okT) (H : Lf lx ly g p B cnt lim I h t env e) (ho : okT t) (hk : (B t).1 = 10) (hf : hg t ≤ f + 1) (hd : h + hg t ≤ 30)
    (K : Cont g L (flF p) lim Run (timesF (flF p) (ev (flF p) B lim f (B t).2.2.2.2.1) env (clampF (opF env (B t).2.1 (B t).2.2.1)) [(0, 0, mE.s e, mE.l e)] e) I h) : Mx mX9_again 5 0 0 [vS 328, vI (nI h)] g I L (rQ g L Run) := by
  obtain ⟨hw, hlim, hc, ht, hh, hE, hl, hsu, hT, hS, hF⟩ := H
  obtain ⟨hk1, -, -, hk4, -, -, hk7⟩ := hT.2 t ht
  have h330 := hk4 (by omega) (by omega)
  obtain ⟨h331, h333, h33n⟩ := hk7 hk
  obtain ⟨-, -, hb3, -⟩ := hB t ht
  obtain ⟨ha1, ha2⟩ := hb3 (by omega) (by omega)
  have hoa := (hO t ht ho).2.2.1 (by omega) (by omega)
  have hkr : kR (B t).1 = 11 := by rw [hk]; rfl
  have h0 := (hw 328 _ rfl).2.1
  have ch : (nI h).toNatClampNeg = h := clN (by omega)
  have ctt : (nI t).toNatClampNeg = t := clN (by omega)
  have vh : vp_in (nI h) 32 := inN (by omega) (by omega)
  have vt : vp_in (nI t) 80 := inN (by omega) (by omega)
  generalize hx : opF env (B t).2.1 (B t).2.2.1 = x at K
  obtain ⟨cl1, cl2, cl3, cl4⟩ := clamp_nI (x := x)
  generalize clampF x = n at K cl1 cl2 cl3 cl4
  -- from 60 on: the rounds are set
  have h60 : Ex mX9_again 5 0 0 (rQ g L Run) 60 [some (vS 328), some (vI (nI h)), some (vI (nI t)), some (vI x)] [] g (up2 I 343 h (nI n)) L := by
    have hA : At I (up2 I 343 h (nI n)) h := fun i k c => up2_n (by unfold mt at c; omega)
    have hS1 := hS.at hA
    have hF1 := hF.1.at hA
    have hT1 := hT.bl hA.bl
    have oth : ∀ i k, ¬ (i = 343 ∧ k = h) → up2 I 343 h (nI n) i k = I i k := fun i k c => up2_n (by omega)
    have nx : up2 I 343 h (nI n) 343 h = nI n := up2_s
    generalize up2 I 343 h (nI n) = J at hA hS1 hF1 hT1 oth nx ⊢
    refine Ex_wx [69, 93] 9 oX9_again hw ?_
    refine And.intro vh ?_
    rw [ch, nx]
    cases n with
    | zero =>
      refine And.intro (fun _ => ?_) (fun c => absurd rfl c)
      have m0 : J 349 (2 * h + 1) = nI 0 := by rw [oth _ _ (by omega)]; exact hF.2.2.2.2.2
      refine Ex_wx [] 9 oX9_again hw ?_
      refine And.intro vh (And.intro vh ?_)
      rw [ch]
      refine Ex_v (As := [vI (nI h), vI 0, vI 0, vI (J 344 h), vI (J 345 h)]) (st := []) (d' := 1) vX9_203 rfl rfl (r_tell hw (by omega) m0 (by omega) (Or.inl rfl) (by omega)) h0 (by omega) rfl (dc_ok oX9_again rfl) ?_
      rw [if_neg (by decide)]
      have hA2 : At J (tellI J h 0 0 0 (J 344 h) (J 345 h)) h := cb_at (tell_cb (by omega))
      have hS2 := hS1.at hA2
      refine Ex_wx [] 9 oX9_again hw ?_
      refine Ex_v (As := []) (st := []) (d' := 0) vX9_262 rfl rfl (r_finish hw hS2.1.1) h0 (by omega) rfl (dc_ok oX9_again rfl) ?_
      refine Ex_wx [] 9 oX9_again hw ?_
      refine ⟨rfl, rfl, rfl, K.1 rfl _ hS2.high ?_ ?_ ((hA.bl.trans hA2.bl).trans high_bl)⟩
      · rw [up2_i (by omega), tell_many]; rfl
      · exact Rr.eq (tell_rows (acc := []) Rr.nil rfl hF1.2.2.1 hF1.2.2.2.2.1) (fun i k h1 h2 _ _ => up2_i (by omega))
    | succ m =>
      refine And.intro (fun c => absurd c (nI_ne0 (by omega) (by omega))) (fun _ => ?_)
      refine Ex_bn 5 oX9_again hw ?_
      refine And.intro vh ?_
      show Ex mX9_again 5 0 0 (rQ g L Run) 100 [some (vS 328), some (vI (nI h)), some (vI (nI t)), some (vI x)] [] g (up2 J 341 (nI h).toNatClampNeg 1) L
      rw [ch]
      have hA2 : At J (up2 J 341 h 1) h := fun i k c => up2_n (by unfold mt at c; omega)
      have hS2 := hS1.at hA2
      have hF2 := hF1.at hA2
      have hT2 := hT1.bl hA2.bl
      have bl2 : Bl I (up2 J 341 h 1) h := hA.bl.trans hA2.bl
      have q330 : up2 J 341 h 1 330 t = nI (B t).2.2.2.2.1 := by rw [up2_i (by omega), oth _ _ (by omega)]; exact h330
      have p2 : up2 J 341 h 1 341 h = 1 := up2_s
      have n2 : up2 J 341 h 1 343 h = nI (m + 1) := by rw [up2_i (by omega)]; exact nx
      have m2 : up2 J 341 h 1 349 (2 * h + 1) = 0 := by rw [up2_i (by omega), oth _ _ (by omega)]; exact hF.2.2.2.2.2
      generalize up2 J 341 h 1 = N at hA2 hS2 hF2 hT2 bl2 q330 p2 n2 m2 ⊢
      have hX := r_push (L := L) (d := 0) (t := (B t).2.2.2.2.1) (fr := nI h) (n := -1) (v := 0) (src := env) hw (by omega) hS2 hE.2.2 hlim (Or.inr ⟨h, by omega, rfl, hF2.2.1⟩) (Or.inl rfl) hF2.2.2.1 hF2.2.2.2.2.1
      rw [upE_no] at hX
      refine Ex_wx [] 9 oX9_again hw ?_
      refine And.intro vt (And.intro vh (And.intro vh ?_))
      rw [ch, ctt, q330]
      refine Ex_r (As := [vI (nI (B t).2.2.2.2.1), vI (nI h), vI (-1), vI 0, vI (N 344 h), vI (N 345 h)]) (st := []) vX9_237 rfl rfl hX h0 (by omega) rfl (dc_ok oX9_again rfl) ?_
      intro I2 hP
      refine Ex_wx [] 9 oX9_again hw ?_
      refine ⟨rfl, rfl, rfl, ?_⟩
      refine sim_child ih hP hS2 hT2 ha1 (by omega) hoa (by omega) hE hl hlim ?_
      have hkq := ev_ok (F := flF p) (B := B) f (B t).2.2.2.2.1 env e hE
      have hlq := ev_log (F := flF p) (B := B) hlim f (B t).2.2.2.2.1 env e hE hl
      generalize hqq : ev (flF p) B lim f (B t).2.2.2.2.1 env e = q at hkq hlq ⊢
      rw [times_first hqq hkq] at K
      refine cont_err (t := t) hw hh (by omega) hF2 ?_ (K.bl bl2) ?_ ?_ ?_
      · rw [(hT2.2 t ht).1, hkr]; exact fun c => absurd c.1 (by decide)
      · intro q1; rw [if_pos (by rw [q1]; decide)]; exact ⟨q1, rfl⟩
      · intro q1; rw [if_pos (by rw [q1]; decide)]; exact q1
      intro q0 I3 sS sm sr sb
      rw [if_neg (fun c => c q0)] at K
      have hT3 := hT2.bl sb
      have hF3 := hF2.bl sb
      have p3 : I3 341 h = 1 := by rw [sb 341 h (by unfold kp; omega)]; exact p2
      have n3 : I3 343 h = nI (m + 1) := by rw [sb 343 h (by unfold kp; omega)]; exact n2
      have m3 : I3 349 (2 * h + 1) = 0 := by rw [sb 349 _ (by unfold kp; omega)]; exact m2
      have bl3 : Bl I I3 h := bl2.trans (sb.mono (by omega))
      refine hst I3 h sS.1.1 (by omega) sS.1.2.2.2.1 (r_go_again hw sS.1.1 (by omega) hF3.1 (by omega) (by rw [(hT3.2 t ht).1, hkr]) ?_)
      refine Mx_in (by decide +kernel) rfl rfl (Ex_bn 5 oX9_again hw ?_)
      refine And.intro vh ?_
      show Ex mX9_again 5 0 0 (rQ g L Run) 7 [some (vS 328), some (vI (nI h)), some (vI (I3 340 (nI h).toNatClampNeg)), none] [] g I3 L
      rw [ch, hF3.1]
      refine Ex_wx [16] 9 oX9_again hw ?_
      refine And.intro vh ?_
      rw [ch, p3]
      refine And.intro (fun c => absurd c (by decide)) (fun _ => ?_)
      refine Ex_r (As := [vI (nI h)]) (st := []) vX9_259 rfl rfl (r_gather (acc := []) (d := 4) (F := flF p) hw (by omega) (by omega) m3 (by simp) Rr.nil sm sr (hkq.2.2 q0).2 (hkq.2.2 q0).1 sS.1.2.2.2.1) h0 (by omega) rfl (dc_ok oX9_again rfl) ?_
      intro I4 hG
      rcases hG.split sS hlq.1 hkq.2.1 hlim with ⟨hbig, -⟩ | ⟨-, hS4, m4, r4, hA4, hx4⟩
      · rw [List.nil_append] at hbig
        exact absurd (hkq.2.2 q0).1 (by omega)
      rw [List.nil_append] at m4 r4
      refine Ex_wx [139] 9 oX9_again hw ?_
      refine And.intro (fun _ => ?_) (fun c => absurd hS4.1.2.2.2.1 c)
      refine Ex_wx [149, 185] 9 oX9_again hw ?_
      refine And.intro vh ?_
      have p4 : I4 341 h = 1 := by rw [hx4 341 h (by unfold cb; omega)]; exact p3
      rw [ch, p4]
      refine And.intro (fun _ => ?_) (fun c => absurd rfl c)
      refine Ex_bn 13 oX9_again hw ?_
      refine And.intro vh (And.intro vh (And.intro vh ?_))
      show Ex mX9_again 5 0 0 (rQ g L Run) 166 [some (vS 328), some (vI (nI h)), some (vI (nI t)), none] [] g (up2 (up2 I4 341 (nI h).toNatClampNeg 2) 343 (nI h).toNatClampNeg (up2 I4 341 (nI h).toNatClampNeg 2 343 (nI h).toNatClampNeg - 1)) L
      rw [ch, show up2 I4 341 h 2 343 h = nI (m + 1) by rw [up2_i (by omega), hx4 343 h (by unfold cb; omega)]; exact n3, nI_pred]
      have hA5 : At I4 (up2 (up2 I4 341 h 2) 343 h (nI m)) h := fun i k c => by rw [up2_n (by unfold mt at c; omega), up2_n (by unfold mt at c; omega)]
      have hS5 := hS4.at hA5
      have hF5 := (hF3.at hA4).at hA5
      have hT5 := (hT3.bl hA4.bl).bl hA5.bl
      have bl5 := (bl3.trans hA4.bl).trans hA5.bl
      have p5 : up2 (up2 I4 341 h 2) 343 h (nI m) 341 h = nI 2 := by rw [up2_i (by omega)]; exact up2_s
      have n5 : up2 (up2 I4 341 h 2) 343 h (nI m) 343 h = nI m := up2_s
      have m5 : up2 (up2 I4 341 h 2) 343 h (nI m) 349 (2 * h + 1) = nI q.2.1.length := by rw [up2_i (by omega), up2_i (by omega)]; exact m4
      have r5 : Rr (flF p) (up2 (up2 I4 341 h 2) 343 h (nI m)) (100 * h + 50) q.2.1 := r4.eq (fun i k h1 h2 h3 h4 => by rw [up2_i (by omega), up2_i (by omega)])
      generalize up2 (up2 I4 341 h 2) 343 h (nI m) = M at hA5 hS5 hF5 hT5 bl5 p5 n5 m5 r5 ⊢
      refine Ex_wx [180] 9 oX9_again hw ?_
      refine And.intro vh ?_
      rw [ch, n5]
      cases m with
      | zero =>
        refine And.intro (fun _ => ?_) (fun c => absurd rfl c)
        refine Ex_v (As := []) (st := []) (d' := 0) vX9_262 rfl rfl (r_finish hw hS5.1.1) h0 (by omega) rfl (dc_ok oX9_again rfl) ?_
        refine Ex_wx [] 9 oX9_again hw ?_
        refine ⟨rfl, rfl, rfl, K.1 rfl _ hS5.high ?_ ?_ (bl5.trans high_bl)⟩
        · rw [up2_i (by omega)]; exact m5
        · exact r5.eq (fun i k h1 h2 h3 h4 => up2_i (by omega))
      | succ m =>
        refine And.intro (fun c => absurd c (nI_ne0 (by omega) (by omega))) (fun _ => ?_)
        refine Ex_wx [] 9 oX9_again hw ?_
        refine Ex_r (As := [vI (nI h)]) (st := []) (d' := 3) vX9_268 rfl rfl (r_turn (m := q.2.1.length) hw (by omega) (by omega) m5 (hkq.2.2 q0).1 (rr_err r5 (hkq.2.2 q0).2)) h0 (by omega) rfl (dc_ok oX9_again rfl) ?_
        intro I6 hU
        have hA6 := ct_at hU.2.2.2.2
        refine ag_loop (I := I) (e := e) ih hst hB hO hw hlim hc ht hh ho hk hf hd m (by omega) q.2.1 (hkq.2.2 q0).1 (hkq.2.2 q0).2 q.2.2 I6 none ⟨hS5.at hA6, hkq.2.1, hlq.1, hF5.at hA6, ?_, ?_, hU.2.2.1, hU.1, tu_rows hU r5 rfl, hU.2.1, Rr.nil, by simp, (fun x hx => by cases hx), hlq.2.2, rowL.nil, hT5.bl hA6.bl, bl5.trans hA6.bl⟩ K
        · rw [hU.2.2.2.2 _ _ (by unfold ct; omega)]; exact p5
        · rw [hU.2.2.2.2 _ _ (by unfold ct; omega)]; exact n5
  have h59 : ∀ w, w = nI n → Ex mX9_again 5 0 0 (rQ g L Run) 59 [some (vS 328), some (vI (nI h)), some (vI (nI t)), some (vI x)] [vI w, vI (nI h), vS 343] g I L := by
    intro w hwv
    refine Ex_bn 1 oX9_again hw ?_
    refine And.intro vh ?_
    rw [ch, hwv]
    exact h60
  refine Mx_in (by decide +kernel) rfl rfl (Ex_bn 5 oX9_again hw ?_)
  refine And.intro vh ?_
  show Ex mX9_again 5 0 0 (rQ g L Run) 7 [some (vS 328), some (vI (nI h)), some (vI (I 340 (nI h).toNatClampNeg)), none] [] g I L
  rw [ch, hF.1.1]
  refine Ex_wx [16] 9 oX9_again hw ?_
  refine And.intro vh ?_
  rw [ch, hF.2.1]
  refine And.intro (fun _ => ?_) (fun c => absurd rfl c)
  refine Ex_wx [] 9 oX9_again hw ?_
  refine And.intro vt (And.intro vt ?_)
  have hX : Mx mX9_value 0 0 0 [vS 328, vI (nI h), vI (I 331 (nI t).toNatClampNeg), vI (I 333 (nI t).toNatClampNeg)] g I L (qV (some (vI x)) g I L) := by
    rw [ctt, h331, h333, ← hx]; exact r_value hw (by omega) hF.1.2.1 h33n
  refine Ex_v (As := [vI (nI h), vI (I 331 (nI t).toNatClampNeg), vI (I 333 (nI t).toNatClampNeg)]) (st := []) (d' := 0) vX9_210 rfl rfl hX h0 (by omega) rfl (dc_ok oX9_again rfl) ?_
  refine Ex_bn 1 oX9_again hw ?_
  refine Ex_wx [59, 58] 9 oX9_again hw ?_
  refine And.intro (fun c => ?_) (fun c => ?_)
  · have c0 : ¬ x < 0 := Int32.not_lt.mpr c
    refine And.intro (fun c8 => ?_) (fun c8 => ?_)
    · refine Ex_bn 1 oX9_again hw ?_
      exact h59 x (cl3 c0 (Int32.not_lt.mpr c8)).symm
    · exact h59 8 (cl2 c0 (Int32.not_le.mp c8)).symm
  · exact h59 0 (cl1 (Int32.not_le.mp c)).symm
theorem sim_all (hst : stepR g L Run) (hW : Wd lx ly g p B hg cnt lim okT) : ∀ f, simC g L p B hg cnt lim okT Run f := by
  obtain ⟨hw, hlim, hc, hB, hO⟩ := hW
  intro f
  induction f with
  | zero =>
    intro t h env e I ht hf
    have := (hB t ht).2.1
    omega
  | succ f ih =>
    intro t h env e I ht hf ho hd hE hl hT hPd K
    have hg1 := (hB t ht).2.1
    rcases hPd with ⟨hsp, hOut⟩ | ⟨hsp, hS, hF⟩
    · have hev : ev (flF p) B lim (f + 1) t env e = (2, [], e) := by
        simp only [ev]
        rw [if_pos hsp]
      rw [hev] at K
      exact K.2.2 rfl I hOut Bl.refl
    · have hns : ¬ lim ≤ mE.sp e := by omega
      have hE1 : invE lim ((mE.sp e + 1, e.2) : mE) := ⟨hE.1, by have := hE.2.1; show mE.us e ≤ mE.sp e + 1 + 1; omega, by show mE.sp e + 1 ≤ lim; omega⟩
      have H : Lf lx ly g p B cnt lim I h t env ((mE.sp e + 1, e.2) : mE) := ⟨hw, hlim, hc, ht, by omega, hE1, hl, hE.2.1, hT, hS, hF⟩
      have hh : h ≤ 29 := by omega
      have k1 := (hT.2 t ht).1
      obtain ⟨k, hk⟩ : ∃ k, (B t).1 = k := ⟨_, rfl⟩
      have hk18 := (hB t ht).1
      rw [hk] at k1 hk18
      have hS1 := hS.1.1
      refine hst I h hS1 (by omega) hS.1.2.2.2.1 ?_
      have hcs : k = 0 ∨ k = 1 ∨ k = 2 ∨ k = 3 ∨ k = 4 ∨ k = 5 ∨ k = 6 ∨ k = 7 ∨ k = 8 ∨ k = 9 ∨ k = 10 ∨ k = 11 ∨ k = 12 ∨ k = 13 ∨ (14 ≤ k ∧ k ≤ 18) := by omega
      rcases hcs with rfl | rfl | rfl | rfl | rfl | rfl | rfl | rfl | rfl | rfl | rfl | rfl | rfl | rfl | ⟨hka, hkb⟩
      · refine r_go_leaf hw hS1 (by omega) hF.1.1 (by omega) k1 (by decide) (lf_give H hk ?_)
        simp only [ev] at K; rw [if_neg hns, hk] at K; exact K
      · refine r_go_leaf hw hS1 (by omega) hF.1.1 (by omega) k1 (by decide) (lf_read H hk ?_)
        simp only [ev] at K; rw [if_neg hns, hk] at K; exact K
      · refine r_go_leaf hw hS1 (by omega) hF.1.1 (by omega) k1 (by decide) (lf_write H hk ?_)
        simp only [ev] at K; rw [if_neg hns, hk] at K; exact K
      · refine r_go_leaf hw hS1 (by omega) hF.1.1 (by omega) k1 (by decide) (lf_say H hk ?_)
        simp only [ev] at K; rw [if_neg hns, hk] at K; exact K
      · refine r_go_leaf hw hS1 (by omega) hF.1.1 (by omega) k1 (by decide) (lf_fail H hk ((hO t ht ho).1 (Or.inl hk)) ?_)
        simp only [ev] at K; rw [if_neg hns, hk] at K; exact K
      · refine r_go_leaf hw hS1 (by omega) hF.1.1 (by omega) k1 (by decide) (lf_none H hk ?_)
        simp only [ev] at K; rw [if_neg hns, hk] at K; exact K
      · refine r_go_either hw hS1 (by omega) hF.1.1 (by omega) k1 (sim_either ih hst hB hO H ho hk hf hd ?_)
        simp only [ev] at K; rw [if_neg hns, hk] at K; exact K
      · refine r_go_along hw hS1 (by omega) hF.1.1 (by omega) k1 (by decide) (sim_then ih hst hB hO H ho hk hf hd rfl ?_)
        simp only [ev] at K; rw [if_neg hns, hk] at K; exact K
      · refine r_go_along hw hS1 (by omega) hF.1.1 (by omega) k1 (by decide) (sim_saved ih hst hB hO H ho hk hf hd rfl ?_)
        simp only [ev] at K; rw [if_neg hns, hk] at K; exact K
      · refine r_go_choose hw hS1 (by omega) hF.1.1 (by omega) k1 (sim_choose ih hst hB hO H ho hk hf hd ?_)
        simp only [ev] at K; rw [if_neg hns, hk] at K; exact K
      · refine r_go_again hw hS1 (by omega) hF.1.1 (by omega) k1 (sim_times ih hst hB hO H ho hk hf hd ?_)
        simp only [ev] at K; rw [if_neg hns, hk] at K; exact K
      · refine r_go_within hw hS1 (by omega) hF.1.1 (by omega) k1 (by decide) (wi_once ih hst hB hO H ho hk hf hd rfl ?_)
        simp only [ev] at K; rw [if_neg hns, hk] at K; exact K
      · refine r_go_within hw hS1 (by omega) hF.1.1 (by omega) k1 (by decide) (wi_heard ih hst hB hO H ho hk hf hd rfl ?_)
        simp only [ev] at K; rw [if_neg hns, hk] at K; exact K
      · refine r_go_within hw hS1 (by omega) hF.1.1 (by omega) k1 (by decide) (wi_hidden ih hst hB hO H ho hk hf hd rfl ?_)
        simp only [ev] at K; rw [if_neg hns, hk] at K; exact K
      · refine r_go_leaf hw hS1 (by omega) hF.1.1 (by omega) k1 (by unfold kR; rw [if_neg (by omega), if_neg (by omega)]; omega) (lf_of H (by omega) (by omega) ?_)
        simp only [ev] at K; rw [if_neg hns, hk] at K; rw [hk]
        have h14 : k = 14 ∨ k = 15 ∨ k = 16 ∨ k = 17 ∨ k = 18 := by omega
        rcases h14 with rfl | rfl | rfl | rfl | rfl <;> exact K
end SimAll
