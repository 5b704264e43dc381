/-! the reference: then and saved -/
section Saved
variable {lx ly : Nat} {g : aG} {I : aI} {L : aL} {p : Nat → Int32} {B : mB} {hg : Nat → Nat} {cnt lim h t f : Nat} {okT : Nat → Prop} {Run : aI → Prop} {env : Nat → Int32} {e : mE} {oe : Int32} {sv : mR → mR}
/-- the first part is done: its RESULTS are turned, and the second part's turn comes -/
theorem al_enter (ih : simC g L p B hg cnt lim okT Run f) (hst : stepR g L Run) (hB : Bw B hg cnt) (hO : okB p B cnt okT) (hw : WS lx ly g) (hlim : lim ≤ 2000) (hc : cnt ≤ 80) (ht : t < cnt) (hh : h ≤ 29) (hl0 : inL (mE.us e) (mE.l e)) (ho : okT t) (hk : (B t).1 = 7 ∨ (B t).1 = 8) (hsv : svK p e (B t).1 oe sv) (hf : hg t ≤ f + 1) (hd : h + hg t ≤ 30)
    {q : mO} {I3 : aI} (sS : Sr (flF p) I3 lim q.2.2 (h + 1)) (sm : I3 349 (2 * h + 3) = nI q.2.1.length) (sr : Rr (flF p) I3 (100 * h + 150) q.2.1) (hkq : okO lim q) (hlq : okL e q) (q0 : q.1 = 0) (hT3 : Tr I3 p B cnt) (hF3 : Fr (flF p) I3 h t env (mE.s e) (mE.l e)) (p3 : I3 341 h = 1) (m3 : I3 349 (2 * h + 1) = 0) (bl3 : Bl I I3 h)
    (K : Cont g L (flF p) lim Run (eachF (flF p) (ev (flF p) B lim f (B t).2.2.2.2.2) oe (B t).2.2.2.1 env (q.2.1.map sv) [] q.2.2) I h) : Run I3 := by
  have h0 := (hw 328 _ rfl).2.1
  have ch : (nI h).toNatClampNeg = h := clN (by omega)
  have ctt : (nI t).toNatClampNeg = t := clN (by omega)
  have vh : vp_in (nI h) 32 := inN (by omega) (by omega)
  have vt : vp_in (nI t) 80 := inN (by omega) (by omega)
  have hkr : kR (B t).1 = 8 ∨ kR (B t).1 = 9 := by
    rcases hk with q | q <;> rw [q] <;> simp [kR]
  have hoe : oe = 0 ∨ oe = 1 := by
    rcases hsv with ⟨q, -⟩ | ⟨q, -⟩
    · exact Or.inl q
    · exact Or.inr q
  have hoeK : (oe = 1 ↔ kR (B t).1 = 9) := by
    rcases hsv with ⟨q, q2, -⟩ | ⟨q, q2, -⟩
    · rw [q, q2]; simp [kR]
    · rw [q, q2]; simp [kR]
  refine hst I3 h sS.1.1 (by omega) sS.1.2.2.2.1 (r_go_along hw sS.1.1 (by omega) hF3.1 (by omega) (hT3.2 t ht).1 hkr ?_)
  refine Mx_in (by decide +kernel) rfl rfl (Ex_bn 5 oX9_along hw ?_)
  refine And.intro vh ?_
  show Ex mX9_along 5 0 0 (rQ g L Run) 7 [some (vS 328), some (vI (nI h)), some (vI (I3 340 (nI h).toNatClampNeg)), none, none, none, none, none] [] g I3 L
  rw [ch, hF3.1]
  refine Ex_wx [16] 9 oX9_along hw ?_
  refine And.intro vh ?_
  rw [ch, p3]
  refine And.intro (fun c => absurd c (by decide)) (fun _ => ?_)
  refine Ex_r (As := [vI (nI h)]) (st := []) vX9_265 rfl rfl (r_gn1 (F := flF p) hw hh p3 m3 sm sr (hkq.2.2 q0).2 (hkq.2.2 q0).1 sS.1.2.2.2.1) h0 (by omega) rfl (dc_ok oX9_along rfl) ?_
  intro I4 hG
  have hA4 := hG.at
  have hS4 := sS.at hA4
  obtain ⟨g1, g2, g3, g4, g5⟩ := hG
  refine Ex_wx [62] 9 oX9_along hw ?_
  refine And.intro (fun _ => ?_) (fun c => absurd hS4.1.2.2.2.1 c)
  refine Ex_wx [77] 9 oX9_along hw ?_
  refine And.intro vh ?_
  have p4 : I4 341 h = 1 := by rw [g5 341 h (by unfold cb; omega) (by unfold ct; omega)]; exact p3
  rw [ch, p4]
  refine And.intro (fun c => absurd c (by decide)) (fun _ => ?_)
  refine Ex_bn 5 oX9_along hw ?_
  refine And.intro vh ?_
  show Ex mX9_along 5 0 0 (rQ g L Run) 84 [some (vS 328), some (vI (nI h)), some (vI (nI t)), none, none, none, none, none] [] g (up2 I4 341 (nI h).toNatClampNeg 2) L
  rw [ch]
  have hA5 : At I4 (up2 I4 341 h 2) h := fun i k c => up2_n (by unfold mt at c; omega)
  have hT5 := (hT3.bl hA4.bl).bl hA5.bl
  have k5 := (hT5.2 t ht).1
  have h101 : Ex mX9_along 5 0 0 (rQ g L Run) 101 [some (vS 328), some (vI (nI h)), some (vI (nI t)), some (vI oe), none, none, none, none] [] g (up2 I4 341 h 2) L := by
    refine Ex_wx [] 9 oX9_along hw ?_
    refine Ex_v (As := [vI (nI h), vI 0]) (st := []) (d' := 0) vX9_200 rfl rfl (r_row hw (l := 0) rfl) h0 (by omega) rfl (dc_ok oX9_along rfl) ?_
    refine Ex_bn 1 oX9_along hw ?_
    rw [show 100 * h + 50 * 0 = 100 * h by omega]
    refine al_loop (rs := q.2.1) (I := I) ih hst hB hO hw hlim hc ht hh hl0 ho hk hsv hf hd (hkq.2.2 q0).1 (hkq.2.2 q0).2 q.2.1 0 [] q.2.2 _ none none none rfl (Nat.zero_le _) (hS4.at hA5) hkq.2.1 hlq.1 hlq.2.1.1 ((hF3.at hA4).at hA5) up2_s ?_ ?_ ?_ ?_ Rr.nil (by simp) (fun x hx => by cases hx) hlq.2.2 hT5 ((bl3.trans hA4.bl).trans hA5.bl) K
    · rw [up2_i (by omega)]; exact g3
    · rw [up2_i (by omega)]; exact g1
    · exact g4.eq (fun i k h1 h2 h3 h4 => up2_i (by omega))
    · rw [up2_i (by omega)]; exact g2
  refine Ex_wx [95, 99] 9 oX9_along hw ?_
  refine And.intro vt ?_
  rw [ctt, k5]
  refine And.intro (fun c9 => ?_) (fun c9 => ?_)
  · have : oe = 1 := hoeK.mpr (eqN (b := 9) c9 (by omega) (by omega))
    rw [this] at h101
    refine Ex_wx [100] 9 oX9_along hw ?_
    refine Ex_bn 1 oX9_along hw ?_
    exact h101
  · have : oe = 0 := hoe.resolve_right (fun q => c9 (by rw [hoeK.mp q]; rfl))
    rw [this] at h101
    refine Ex_bn 2 oX9_along hw ?_
    exact h101
/-- phase 0: the first part is pushed -/
theorem al_front (ih : simC g L p B hg cnt lim okT Run f) (hB : Bw B hg cnt) (hO : okB p B cnt okT) (H : Lf lx ly g p B cnt lim I h t env e) (ho : okT t) (hk : (B t).1 = 7 ∨ (B t).1 = 8) (hf : hg t ≤ f + 1) (hd : h + hg t ≤ 30) (K : Cont g L (flF p) lim Run (ev (flF p) B lim f (B t).2.2.2.2.1 env e) (up2 I 341 h 1) (h + 1)) : Mx mX9_along 5 0 0 [vS 328, vI (nI h)] g I L (rQ g L Run) := by
  obtain ⟨hw, hlim, hc, ht, hh, hE, hl, hsu, hT, hS, hF⟩ := H
  obtain ⟨hk1, -, -, hk4, -⟩ := hT.2 t ht
  have h330 := hk4 (by omega) (by omega)
  obtain ⟨-, -, hb3, -⟩ := hB t ht
  obtain ⟨ha1, ha2⟩ := hb3 (by omega) (by omega)
  have hoa := (hO t ht ho).2.2.1 (by omega) (by omega)
  have h0 := (hw 328 _ rfl).2.1
  have ch : (nI h).toNatClampNeg = h := clN (by omega)
  have ct : (nI t).toNatClampNeg = t := clN (by omega)
  have vh : vp_in (nI h) 32 := inN (by omega) (by omega)
  have vt : vp_in (nI t) 80 := inN (by omega) (by omega)
  have hA : At I (up2 I 341 h 1) h := fun i k c => up2_n (by unfold mt at c; omega)
  have hS1 := hS.at hA
  have hF1 := hF.1.at hA
  refine Mx_in (by decide +kernel) rfl rfl (Ex_bn 5 oX9_along hw ?_)
  refine And.intro vh ?_
  show Ex mX9_along 5 0 0 (rQ g L Run) 7 [some (vS 328), some (vI (nI h)), some (vI (I 340 (nI h).toNatClampNeg)), none, none, none, none, none] [] g I L
  rw [ch, hF.1.1]
  refine Ex_wx [16] 9 oX9_along hw ?_
  refine And.intro vh ?_
  rw [ch, hF.2.1]
  refine And.intro (fun _ => ?_) (fun c => absurd rfl c)
  refine Ex_bn 5 oX9_along hw ?_
  refine And.intro vh ?_
  show Ex mX9_along 5 0 0 (rQ g L Run) 23 [some (vS 328), some (vI (nI h)), some (vI (nI t)), none, none, none, none, none] [] g (up2 I 341 (nI h).toNatClampNeg 1) L
  rw [ch]
  have q330 : up2 I 341 h 1 330 t = nI (B t).2.2.2.2.1 := by rw [up2_i (by omega)]; exact h330
  have hX := r_push (L := L) (d := 0) (t := (B t).2.2.2.2.1) (fr := nI h) (n := -1) (v := 0) (src := env) hw (by omega) hS1 hE.2.2 hlim (Or.inr ⟨h, by omega, rfl, hF1.2.1⟩) (Or.inl rfl) hF1.2.2.1 hF1.2.2.2.2.1
  rw [upE_no] at hX
  refine Ex_wx [] 9 oX9_along hw ?_
  refine And.intro vt (And.intro vh (And.intro vh ?_))
  rw [ch, ct, q330]
  refine Ex_r (As := [vI (nI (B t).2.2.2.2.1), vI (nI h), vI (-1), vI 0, vI (up2 I 341 h 1 344 h), vI (up2 I 341 h 1 345 h)]) (st := []) vX9_237 rfl rfl hX h0 (by omega) rfl (dc_ok oX9_along rfl) ?_
  intro I2 hP
  refine Ex_wx [] 9 oX9_along hw ?_
  refine ⟨rfl, rfl, rfl, ?_⟩
  exact sim_child ih hP hS1 (hT.bl hA.bl) ha1 (by omega) hoa (by omega) hE hl hlim K
theorem sim_then (ih : simC g L p B hg cnt lim okT Run f) (hst : stepR g L Run) (hB : Bw B hg cnt) (hO : okB p B cnt okT) (H : Lf lx ly g p B cnt lim I h t env e) (ho : okT t) (hk : (B t).1 = 7) (hf : hg t ≤ f + 1) (hd : h + hg t ≤ 30) {q : mO} (hq : ev (flF p) B lim f (B t).2.2.2.2.1 env e = q)
    (K : Cont g L (flF p) lim Run (if q.1 ≠ 0 then (q.1, [], q.2.2) else eachF (flF p) (ev (flF p) B lim f (B t).2.2.2.2.2) 0 (B t).2.2.2.1 env q.2.1 [] q.2.2) I h) : Mx mX9_along 5 0 0 [vS 328, vI (nI h)] g I L (rQ g L Run) := by
  refine al_front ih hB hO H ho (Or.inl hk) hf hd ?_
  rw [hq]
  obtain ⟨hw, hlim, hc, ht, hh, hE, hl, hsu, hT, hS, hF⟩ := H
  have hkq := ev_ok (F := flF p) (B := B) f (B t).2.2.2.2.1 env e hE
  have hlq := ev_log (F := flF p) (B := B) hlim f (B t).2.2.2.2.1 env e hE hl
  rw [hq] at hkq hlq
  have hA : At I (up2 I 341 h 1) h := fun i k c => up2_n (by unfold mt at c; omega)
  refine cont_err (t := t) hw hh (by omega) (hF.1.at hA) ?_ (K.bl hA.bl) ?_ ?_ ?_
  · rw [up2_i (by omega), (hT.2 t ht).1, hk]
    exact fun c => absurd c.1 (by decide)
  · intro q1; rw [if_pos (by rw [q1]; decide)]; exact ⟨q1, rfl⟩
  · intro q1; rw [if_pos (by rw [q1]; decide)]; exact q1
  intro q0 I3 sS sm sr sb
  rw [if_neg (fun c => c q0)] at K
  refine al_enter (e := e) (oe := 0) (sv := fun r => r) (I := I) ih hst hB hO hw hlim hc ht hh hl.2 ho (Or.inl hk) (Or.inl ⟨rfl, hk, fun _ => rfl⟩) hf hd sS sm sr hkq hlq q0 ((hT.bl hA.bl).bl sb) ((hF.1.at hA).bl sb) ?_ ?_ (hA.bl.trans (sb.mono (by omega))) ?_
  · rw [sb 341 h (by unfold kp; omega)]; exact up2_s
  · rw [sb 349 _ (by unfold kp; omega), up2_i (by omega)]; exact hF.2.2.2.2.2
  · rw [List.map_id']; exact K
/-- caught: the part for an ERROR that is SHARED -/
theorem sv_catch (ih : simC g L p B hg cnt lim okT Run f) (hst : stepR g L Run) (hB : Bw B hg cnt) (hO : okB p B cnt okT) (hw : WS lx ly g) (hlim : lim ≤ 2000) (hc : cnt ≤ 80) (ht : t < cnt) (hh : h ≤ 29) (hl0 : inL (mE.us e) (mE.l e)) (ho : okT t) (hk : (B t).1 = 8) (hf : hg t ≤ f + 1) (hd : h + hg t ≤ 30) (hn : owF p 2 = false)
    {e1 : mE} {I3 : aI} {v : Int32} (hE1 : invE lim e1) (hl1 : invL e1) (hus : mE.us e ≤ mE.us e1) (sS : Sr (flF p) I3 lim e1 (h + 1)) (hT3 : Tr I3 p B cnt) (hF3 : Fr (flF p) I3 h t env (mE.s e) (mE.l e)) (p3 : I3 341 h = 1) (m3 : I3 349 (2 * h + 1) = 0) (bl3 : Bl I I3 h)
    (K : Cont g L (flF p) lim Run (ev (flF p) B lim f (B t).2.2.2.2.2 (upE env (B t).2.2.2.1 v) (setSL e1 (if (flF p).2.2.2.1 = true then mE.s e else mE.s e1) (if (flF p).2.2.2.2 = true then mE.l e else mE.l e1))) I h) : UR g L Run I3 v := by
  have h0 := (hw 328 _ rfl).2.1
  have ch : (nI h).toNatClampNeg = h := clN (by omega)
  have ct : (nI t).toNatClampNeg = t := clN (by omega)
  have vh : vp_in (nI h) 32 := inN (by omega) (by omega)
  have vt : vp_in (nI t) 80 := inN (by omega) (by omega)
  have hp2 : hsF p 2 = true := (hO t ht ho).1 (Or.inr hk)
  obtain ⟨-, -, -, hb4⟩ := hB t ht
  obtain ⟨hb1, hb2⟩ := hb4 (by omega) (by omega)
  have hob := (hO t ht ho).2.2.2 (by omega) (by omega)
  have k3 : I3 329 t = nI 9 := by rw [(hT3.2 t ht).1, hk]; rfl
  obtain ⟨t332, jn, hjn, hjn2⟩ := (hT3.2 t ht).2.2.2.2.2.1 (by omega) (by omega)
  have t331 := (hT3.2 t ht).2.2.2.2.1 (by omega) (by omega)
  have e14 : I3 328 14 - 1 = nI h := by rw [sS.1.1, nI_pred]
  have v14 : vp_in (I3 328 14 - 1) 32 := by rw [e14]; exact vh
  have c14 : (I3 328 14 - 1).toNatClampNeg = h := by rw [e14]; exact ch
  -- the push, from 143 on
  have h143 : ∀ J : aI, Sr (flF p) J lim (setSL e1 (if (flF p).2.2.2.1 = true then mE.s e else mE.s e1) (if (flF p).2.2.2.2 = true then mE.l e else mE.l e1)) (h + 1) → (∀ i k, ¬ (i = 328 ∧ (k = 29 ∨ k = 30)) → J i k = I3 i k) → Ex mX9_unwind 4 0 0 (rQ g L Run) 143 [some (vS 328), some (vI v), some (vI (nI h))] [] g J L := by
    intro J hSJ oJ
    have hFJ : Fr (flF p) J h t env (mE.s e) (mE.l e) := hF3.eq (fun i k c => oJ i k (by omega))
    have blJ : Bl I3 J h := fun i k c => oJ i k (by unfold kp at c; omega)
    refine Ex_bn 5 oX9_unwind hw ?_
    refine And.intro vh ?_
    show Ex mX9_unwind 4 0 0 (rQ g L Run) 150 [some (vS 328), some (vI v), some (vI (nI h))] [] g (up2 J 341 (nI h).toNatClampNeg 3) L
    rw [ch]
    have hA : At J (up2 J 341 h 3) h := fun i k c => up2_n (by unfold mt at c; omega)
    have hS1 := hSJ.at hA
    have hF1 := hFJ.at hA
    have q331 : up2 J 341 h 3 331 t = nI (B t).2.2.2.2.2 := by rw [up2_i (by omega), oJ _ _ (by omega)]; exact t331
    have q332 : up2 J 341 h 3 332 t = (B t).2.2.2.1 := by rw [up2_i (by omega), oJ _ _ (by omega)]; exact t332
    have hX := r_push (L := L) (d := 0) (t := (B t).2.2.2.2.2) (fr := nI h) (n := (B t).2.2.2.1) (v := v) (src := env) hw (by omega) hS1 hE1.2.2 hlim (Or.inr ⟨h, by omega, rfl, hF1.2.1⟩) (Or.inr ⟨jn, hjn, hjn2⟩)
      (fun c => (hF1.2.2.1 c).trans (by show _ = if (flF p).2.2.2.1 = true then _ else _; rw [if_pos (show (flF p).2.2.2.1 = true from fl_valid hp2 hn c)])) (fun c => (hF1.2.2.2.2.1 c).trans (by show _ = if (flF p).2.2.2.2 = true then _ else _; rw [if_pos (show (flF p).2.2.2.2 = true from fl_valid hp2 hn c)]))
    refine Ex_wx [] 9 oX9_unwind hw ?_
    have v340 : vp_in (up2 J 341 h 3 340 (nI h).toNatClampNeg) 80 := by rw [ch, hF1.1]; exact vt
    refine And.intro vh (And.intro v340 (And.intro vh (And.intro v340 (And.intro vh (And.intro vh ?_)))))
    rw [ch, hF1.1, ct, q331, q332]
    refine Ex_r (As := [vI (nI (B t).2.2.2.2.2), vI (nI h), vI (B t).2.2.2.1, vI v, vI (up2 J 341 h 3 344 h), vI (up2 J 341 h 3 345 h)]) (st := []) vX9_237 rfl rfl hX h0 (by omega) rfl (dc_ok oX9_unwind rfl) ?_
    intro I2 hP
    refine Ex_wx [] 9 oX9_unwind hw ?_
    refine ⟨rfl, rfl, rfl, ?_⟩
    have hiE : invE lim (setSL e1 (if (flF p).2.2.2.1 = true then mE.s e else mE.s e1) (if (flF p).2.2.2.2 = true then mE.l e else mE.l e1)) := setSL_inv hE1
    have hiL : invL (setSL e1 (if (flF p).2.2.2.1 = true then mE.s e else mE.s e1) (if (flF p).2.2.2.2 = true then mE.l e else mE.l e1)) := setSL_invL hl1 (by
      split
      · exact hl0.mono hus
      · exact hl1.2)
    have blA : Bl I (up2 J 341 h 3) h := (bl3.trans blJ).trans hA.bl
    have hTA : Tr (up2 J 341 h 3) p B cnt := (hT3.bl blJ).bl hA.bl
    have pA : up2 J 341 h 3 341 h = 3 := up2_s
    have mA : up2 J 341 h 3 349 (2 * h + 1) = 0 := by rw [up2_i (by omega), oJ _ _ (by omega)]; exact m3
    refine sim_child ih hP hS1 hTA hb1 (by omega) hob (by omega) hiE hiL hlim ?_
    have hkq := ev_ok (F := flF p) (B := B) f (B t).2.2.2.2.2 (upE env (B t).2.2.2.1 v) _ hiE
    have hlq := ev_log (F := flF p) (B := B) hlim f (B t).2.2.2.2.2 (upE env (B t).2.2.2.1 v) _ hiE hiL
    generalize ev (flF p) B lim f (B t).2.2.2.2.2 (upE env (B t).2.2.2.1 v) (setSL e1 (if (flF p).2.2.2.1 = true then mE.s e else mE.s e1) (if (flF p).2.2.2.2 = true then mE.l e else mE.l e1)) = q at K hkq hlq ⊢
    generalize up2 J 341 h 3 = N at hF1 blA hTA pA mA ⊢
    refine cont_err (t := t) (q2 := q) hw hh (by omega) hF1 ?_ (K.bl blA) (fun q1 => ⟨q1, rfl⟩) (fun q1 => q1) ?_
    · rw [pA]; exact fun c => absurd c.2 (by decide)
    intro q0 I5 sS5 sm5 sr5 sb5
    have hT5 := hTA.bl sb5
    have hF5 := hF1.bl sb5
    have p5 : I5 341 h = 3 := by rw [sb5 341 h (by unfold kp; omega)]; exact pA
    have m5 : I5 349 (2 * h + 1) = 0 := by rw [sb5 349 _ (by unfold kp; omega)]; exact mA
    have bl5 : Bl I I5 h := blA.trans (sb5.mono (by omega))
    refine hst I5 h sS5.1.1 (by omega) sS5.1.2.2.2.1 (r_go_along hw sS5.1.1 (by omega) hF5.1 (by omega) (hT5.2 t ht).1 (by rw [hk]; exact Or.inr rfl) ?_)
    refine Mx_in (by decide +kernel) rfl rfl (Ex_bn 5 oX9_along hw ?_)
    refine And.intro vh ?_
    show Ex mX9_along 5 0 0 (rQ g L Run) 7 [some (vS 328), some (vI (nI h)), some (vI (I5 340 (nI h).toNatClampNeg)), none, none, none, none, none] [] g I5 L
    rw [ch, hF5.1]
    refine Ex_wx [16] 9 oX9_along hw ?_
    refine And.intro vh ?_
    rw [ch, p5]
    refine And.intro (fun c => absurd c (by decide)) (fun _ => ?_)
    refine Ex_r (As := [vI (nI h)]) (st := []) vX9_265 rfl rfl (r_gn (acc := []) (F := flF p) hw hh (by rw [p5]; decide) m5 (by simp) Rr.nil sm5 sr5 (hkq.2.2 q0).2 (hkq.2.2 q0).1 sS5.1.2.2.2.1) h0 (by omega) rfl (dc_ok oX9_along rfl) ?_
    intro I6 hG
    rcases hG.split sS5 hlq.1 hkq.2.1 hlim with ⟨hbig, -⟩ | ⟨-, hS6, m6, r6, hA6, hx6⟩
    · rw [List.nil_append] at hbig
      exact absurd (hkq.2.2 q0).1 (by omega)
    · rw [List.nil_append] at m6 r6
      refine Ex_wx [62] 9 oX9_along hw ?_
      refine And.intro (fun _ => ?_) (fun c => absurd hS6.1.2.2.2.1 c)
      refine Ex_wx [] 9 oX9_along hw ?_
      refine And.intro vh ?_
      rw [ch, hx6 341 h (by unfold cb; omega), p5]
      refine And.intro (fun _ => ?_) (fun c => absurd rfl c)
      refine Ex_v (As := []) (st := []) (d' := 0) vX9_262 rfl rfl (r_finish hw hS6.1.1) h0 (by omega) rfl (dc_ok oX9_along rfl) ?_
      refine Ex_wx [] 9 oX9_along hw ?_
      refine ⟨rfl, rfl, rfl, K.1 q0 _ hS6.high ?_ ?_ ((bl5.trans hA6.bl).trans high_bl)⟩
      · rw [up2_i (by omega)]; exact m6
      · exact r6.eq (fun i k h1 h2 h3 h4 => up2_i (by omega))
  -- the log, from 117 on
  have h117 : ∀ J : aI, Sr (flF p) J lim (setSL e1 (if (flF p).2.2.2.1 = true then mE.s e else mE.s e1) (mE.l e1)) (h + 1) → (∀ i k, ¬ (i = 328 ∧ k = 29) → J i k = I3 i k) → Ex mX9_unwind 4 0 0 (rQ g L Run) 117 [some (vS 328), some (vI v), some (vI (nI h))] [] g J L := by
    intro J hSJ oJ
    have pJ : J 336 = p := by rw [← hT3.1]; funext b; exact oJ _ _ (by omega)
    have keep : (shF p 1 && ouF p 1) = false → Ex mX9_unwind 4 0 0 (rQ g L Run) 143 [some (vS 328), some (vI v), some (vI (nI h))] [] g J L := by
      intro hx
      refine h143 J ⟨hSJ.1, hSJ.2.1, hSJ.2.2.1, hSJ.2.2.2.1, hSJ.2.2.2.2.1, fun c => ?_⟩ (fun i k c => oJ i k (by omega))
      have : (flF p).2.2.2.2 = false := by rw [fl_shou c] at hx; exact hx
      show J 328 30 = if (flF p).2.2.2.2 = true then _ else _
      rw [if_neg (by rw [this]; decide)]
      exact hSJ.2.2.2.2.2 c
    refine Ex_wx [] 9 oX9_unwind hw ?_
    refine Ex_v (As := [vI 1]) (st := []) (d' := 2) vX9_221 rfl rfl (r_isShared hw (l := 1) rfl (by omega) (by omega)) h0 (by omega) rfl (dc_ok oX9_unwind rfl) ?_
    rw [pJ]
    refine Ex_wx [125, 143] 9 oX9_unwind hw ?_
    refine And.intro (fun c => keep (by rw [bI_eq c]; rfl)) (fun c => ?_)
    have cs := bI_ne c
    refine Ex_wx [] 9 oX9_unwind hw ?_
    refine Ex_v (As := [vI 1]) (st := []) (d' := 1) vX9_234 rfl rfl (r_isOutside hw (l := 1) rfl (by omega) (by omega)) h0 (by omega) rfl (dc_ok oX9_unwind rfl) ?_
    rw [pJ]
    refine Ex_wx [133, 143] 9 oX9_unwind hw ?_
    refine And.intro (fun c => keep (by rw [bI_eq c, Bool.and_false])) (fun c => ?_)
    have cou := bI_ne c
    have cow : (flF p).2.1 = false := by
      unfold shF at cs
      simp only [Bool.and_eq_true, Bool.not_eq_true'] at cs
      exact cs.2
    refine Ex_bn 6 oX9_unwind hw ?_
    refine And.intro vh ?_
    show Ex mX9_unwind 4 0 0 (rQ g L Run) 143 [some (vS 328), some (vI v), some (vI (nI h))] [] g (up2 J 328 30 (J 347 (nI h).toNatClampNeg)) L
    rw [ch, oJ 347 h (by omega), hF3.2.2.2.2.2 cow]
    refine h143 _ ?_ (fun i k c => by rw [up2_n (by omega)]; exact oJ i k (by omega))
    obtain ⟨⟨s1, s2, s3, s4, s5, s6⟩, l1, ⟨l2, l3, l4⟩, l5, l6, l7⟩ := hSJ
    refine ⟨⟨?_, ?_, ?_, ?_, ?_, ?_⟩, ?_, ⟨?_, ?_, ?_⟩, fun k k1 k2 => ?_, fun c => ?_, fun _ => ?_⟩
    · rw [up2_k (by omega)]; exact s1
    · rw [up2_k (by omega)]; exact s2
    · rw [up2_k (by omega)]; exact s3
    · rw [up2_k (by omega)]; exact s4
    · rw [up2_k (by omega)]; exact s5
    · rw [up2_k (by omega)]; exact s6
    · rw [up2_k (by omega)]; exact l1
    · rw [up2_i (by omega)]; exact l2
    · rw [up2_i (by omega)]; exact l3
    · rw [up2_i (by omega)]; exact l4
    · rw [up2_i (by omega), up2_i (by omega), up2_i (by omega)]; exact l5 k k1 k2
    · rw [up2_k (by omega)]; exact l6 c
    · show _ = if (flF p).2.2.2.2 = true then _ else _
      rw [if_pos (show (flF p).2.2.2.2 = true from cou)]; exact up2_s
  -- the state, from 91 on
  have h91 : Ex mX9_unwind 4 0 0 (rQ g L Run) 91 [some (vS 328), some (vI v), some (vI (nI h))] [] g I3 L := by
    have keep : (shF p 0 && ouF p 0) = false → Ex mX9_unwind 4 0 0 (rQ g L Run) 117 [some (vS 328), some (vI v), some (vI (nI h))] [] g I3 L := by
      intro hx
      refine h117 I3 ⟨sS.1, sS.2.1, sS.2.2.1, sS.2.2.2.1, fun c => ?_, sS.2.2.2.2.2⟩ (fun i k c => rfl)
      have : (flF p).2.2.2.1 = false := by rw [fl_shou c] at hx; exact hx
      show I3 328 29 = if (flF p).2.2.2.1 = true then _ else _
      rw [if_neg (by rw [this]; decide)]
      exact sS.2.2.2.2.1 c
    refine Ex_wx [] 9 oX9_unwind hw ?_
    refine Ex_v (As := [vI 0]) (st := []) (d' := 2) vX9_221 rfl rfl (r_isShared hw (l := 0) rfl (by omega) (by omega)) h0 (by omega) rfl (dc_ok oX9_unwind rfl) ?_
    rw [hT3.1]
    refine Ex_wx [99, 117] 9 oX9_unwind hw ?_
    refine And.intro (fun c => keep (by rw [bI_eq c]; rfl)) (fun c => ?_)
    have cs := bI_ne c
    refine Ex_wx [] 9 oX9_unwind hw ?_
    refine Ex_v (As := [vI 0]) (st := []) (d' := 1) vX9_234 rfl rfl (r_isOutside hw (l := 0) rfl (by omega) (by omega)) h0 (by omega) rfl (dc_ok oX9_unwind rfl) ?_
    rw [hT3.1]
    refine Ex_wx [107, 117] 9 oX9_unwind hw ?_
    refine And.intro (fun c => keep (by rw [bI_eq c, Bool.and_false])) (fun c => ?_)
    have cou := bI_ne c
    have cow : (flF p).1 = false := by
      unfold shF at cs
      simp only [Bool.and_eq_true, Bool.not_eq_true'] at cs
      exact cs.2
    refine Ex_bn 6 oX9_unwind hw ?_
    refine And.intro vh ?_
    show Ex mX9_unwind 4 0 0 (rQ g L Run) 117 [some (vS 328), some (vI v), some (vI (nI h))] [] g (up2 I3 328 29 (I3 346 (nI h).toNatClampNeg)) L
    rw [ch, hF3.2.2.2.1 cow]
    refine h117 _ ?_ (fun i k c => up2_n (by omega))
    have h9 := sS.put_s (x := mE.s e)
    rw [if_pos (show (flF p).2.2.2.1 = true from cou)]
    exact h9
  unfold UR
  refine Ex_wx [66] 9 oX9_unwind hw ?_
  refine And.intro (fun c => absurd (sS.1.1 ▸ c) (nI_nle (by omega) (by omega))) (fun _ => ?_)
  refine And.intro v14 ?_
  refine And.intro (by rw [c14, hF3.1]; exact vt) ?_
  rw [c14, hF3.1, ct, k3]
  refine And.intro (fun _ => ?_) (fun c => absurd rfl c)
  refine And.intro v14 ?_
  rw [c14, p3]
  refine And.intro (fun _ => ?_) (fun c => absurd rfl c)
  refine Ex_wx [84] 9 oX9_unwind hw ?_
  refine And.intro (fun c => absurd (sS.1.1 ▸ c) (nI_ne0 (by omega) (by omega))) (fun _ => ?_)
  refine Ex_bn 5 oX9_unwind hw ?_
  show Ex mX9_unwind 4 0 0 (rQ g L Run) 91 [some (vS 328), some (vI v), some (vI (I3 328 14 - 1))] [] g I3 L
  rw [e14]
  exact h91
theorem sim_saved (ih : simC g L p B hg cnt lim okT Run f) (hst : stepR g L Run) (hB : Bw B hg cnt) (hO : okB p B cnt okT) (H : Lf lx ly g p B cnt lim I h t env e) (ho : okT t) (hk : (B t).1 = 8) (hf : hg t ≤ f + 1) (hd : h + hg t ≤ 30) {q : mO} (hq : ev (flF p) B lim f (B t).2.2.2.2.1 env e = q)
    (K : Cont g L (flF p) lim Run (savedF (flF p) e q (ev (flF p) B lim f (B t).2.2.2.2.2) (B t).2.2.2.1 env) I h) : Mx mX9_along 5 0 0 [vS 328, vI (nI h)] g I L (rQ g L Run) := by
  refine al_front ih hB hO H ho (Or.inr hk) hf hd ?_
  rw [hq]
  obtain ⟨hw, hlim, hc, ht, hh, hE, hl, hsu, hT, hS, hF⟩ := H
  have hkq := ev_ok (F := flF p) (B := B) f (B t).2.2.2.2.1 env e hE
  have hlq := ev_log (F := flF p) (B := B) hlim f (B t).2.2.2.2.1 env e hE hl
  have hno := fun hF => ev_no1 (F := flF p) (B := B) (lim := lim) hF f (B t).2.2.2.2.1 env e
  rw [hq] at hkq hlq hno
  have hA : At I (up2 I 341 h 1) h := fun i k c => up2_n (by unfold mt at c; omega)
  unfold savedF at K
  refine ⟨fun q0 I3 sS sm sr sb => ?_, fun q1 I3 sS sb => ?_, fun q2 I3 sO sb => ?_⟩
  · rw [if_neg (by rw [q0]; decide), if_neg (fun c => c q0)] at K
    refine al_enter (e := e) (oe := 1) (sv := savedM (flF p) e) (I := I) ih hst hB hO hw hlim hc ht hh hl.2 ho (Or.inr hk) (Or.inr ⟨rfl, hk, fun _ => rfl⟩) hf hd sS ?_ ?_ hkq hlq q0 ((hT.bl hA.bl).bl sb) ((hF.1.at hA).bl sb) ?_ ?_ (hA.bl.trans (sb.mono (by omega))) K
    · rw [show 2 * h + 3 = 2 * (h + 1) + 1 by omega]; exact sm
    · rw [show 100 * h + 150 = 100 * (h + 1) + 50 by omega]; exact sr
    · rw [sb 341 h (by unfold kp; omega)]; exact up2_s
    · rw [sb 349 _ (by unfold kp; omega), up2_i (by omega)]; exact hF.2.2.2.2.2
  · rw [if_pos q1] at K
    have hn : owF p 2 = false := by
      cases hx : owF p 2 with
      | false => rfl
      | true => exact absurd q1 (hno hx)
    refine sv_catch (e := e) (I := I) ih hst hB hO hw hlim hc ht hh hl.2 ho hk hf hd hn hkq.2.1 hlq.1 hlq.2.1.1 sS ((hT.bl hA.bl).bl sb) ((hF.1.at hA).bl sb) ?_ ?_ (hA.bl.trans (sb.mono (by omega))) K
    · rw [sb 341 h (by unfold kp; omega)]; exact up2_s
    · rw [sb 349 _ (by unfold kp; omega), up2_i (by omega)]; exact hF.2.2.2.2.2
  · rw [if_neg (by rw [q2]; decide), if_pos (by rw [q2]; decide)] at K
    exact K.2.2 q2 I3 sO ((hA.bl.mono (Nat.zero_le _)).trans sb)
end Saved
