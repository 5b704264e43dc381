/-! the reference: a frame and its child; either, choose -/
theorem upE_no {env : Nat → Int32} {v : Int32} : upE env (-1) v = env := by
  rw [upE, if_neg (by decide)]
theorem Sr.own2 {F : mF} {I : aI} {lim hi : Nat} {e : mE} {s l : Int32} (h : Sr F I lim e hi) : Sr F I lim (own2 F e s l) hi := by
  refine ⟨h.1, h.2.1, h.2.2.1, h.2.2.2.1, fun c => ?_, fun c => ?_⟩
  · show I 328 29 = if F.1 = true then s else mE.s e
    rw [if_neg (by rw [c]; decide)]; exact h.2.2.2.2.1 c
  · show I 328 30 = if F.2.1 = true then l else mE.l e
    rw [if_neg (by rw [c]; decide)]; exact h.2.2.2.2.2 c
section Child
variable {lx ly : Nat} {g : aG} {I I2 : aI} {L : aL} {p : Nat → Int32} {B : mB} {hg : Nat → Nat} {cnt lim h t c f : Nat} {okT : Nat → Prop} {Run : aI → Prop} {env : Nat → Int32} {e e1 : mE} {v : Int32} {F : mF}
theorem sim_child (ih : simC g L p B hg cnt lim okT Run f) (hP : PushP (flF p) I lim e1 (h + 1) c env I2) (hS : Sr (flF p) I lim e1 (h + 1)) (hT : Tr I p B cnt) (hc : c < cnt) (hf : hg c ≤ f) (ho : okT c) (hh : h + 1 + hg c ≤ 30) (hE : invE lim e1) (hl : invL e1) (hlim : lim ≤ 2000) (K : Cont g L (flF p) lim Run (ev (flF p) B lim f c env e1) I (h + 1)) : Run I2 := by
  obtain ⟨hpd, hbl⟩ := hP.pd hS hl hE hlim
  exact ih c (h + 1) env e1 I2 hc hf ho hh hE hl (hT.bl hbl) hpd (K.bl hbl)
theorem ur_skip (hw : WS lx ly g) (hh : h < 32) (h14 : I 328 14 = nI (h + 1)) (ht : I 340 h = nI t) (h80 : t < 80) (hk : ¬ (I 329 t = nI 9 ∧ I 341 h = 1)) (K : UR g L Run (up2 I 328 14 (nI h)) v) : UR g L Run I v := by
  unfold UR
  have e1 : I 328 14 - 1 = nI h := by rw [h14, nI_pred]
  have v1 : vp_in (I 328 14 - 1) 32 := by rw [e1]; exact inN hh (by omega)
  have c1 : (I 328 14 - 1).toNatClampNeg = h := by rw [e1]; exact clN (by omega)
  have ct : (nI t).toNatClampNeg = t := clN (by omega)
  have fin : Ex mX9_unwind 4 0 0 (rQ g L Run) 10 [some (vS 328), some (vI v), none] [] g (up2 I 328 14 (I 328 14 - 1)) L := by
    rw [e1]; exact K
  refine Ex_wx [10, 66] 9 oX9_unwind hw ?_
  refine And.intro (fun c => absurd (h14 ▸ c) (nI_nle (by omega) (by omega))) (fun _ => ?_)
  refine And.intro v1 ?_
  refine And.intro (by rw [c1, ht]; exact inN h80 (by omega)) ?_
  rw [c1, ht, ct]
  refine And.intro (fun c2 => ?_) (fun c2 => fin)
  refine And.intro v1 ?_
  rw [c1]
  exact And.intro (fun c3 => absurd ⟨c2, c3⟩ hk) (fun _ => fin)
/-- how a child's end comes through, where nothing is caught: an ERROR that is SHARED, and OUT -/
theorem cont_err (hw : WS lx ly g) (hh : h ≤ 29) (h80 : t < 80) (hF : Fr F I h t env (mE.s e) (mE.l e)) (hk : ¬ (I 329 t = nI 9 ∧ I 341 h = 1)) {q q2 : mO} (K : Cont g L F lim Run q2 I h) (h1 : q.1 = 1 → q2.1 = 1 ∧ q2.2.2 = q.2.2) (h2 : q.1 = 2 → q2.1 = 2)
    (K0 : q.1 = 0 → ∀ I', Sr F I' lim q.2.2 (h + 1) → I' 349 (2 * h + 3) = nI q.2.1.length → Rr F I' (100 * h + 150) q.2.1 → Bl I I' (h + 1) → Run I') : Cont g L F lim Run q I (h + 1) := by
  refine ⟨fun q0 I' a1 a2 a3 a4 => ?_, fun q0 I' a1 a2 => ?_, fun q0 I' a1 a2 => K.2.2 (h2 q0) I' a1 a2⟩
  · refine K0 q0 I' a1 ?_ ?_ a4
    · rw [show 2 * h + 3 = 2 * (h + 1) + 1 by omega]; exact a2
    · rw [show 100 * h + 150 = 100 * (h + 1) + 50 by omega]; exact a3
  · obtain ⟨b1, b2⟩ := h1 q0
    have hF2 := hF.bl a2
    refine ur_skip hw (by omega) a1.1.1 hF2.1 h80 ?_ ?_
    · rw [a2 329 t (by unfold kp; omega), a2 341 h (by unfold kp; omega)]; exact hk
    · have h9 := K.2.1 b1 (up2 I' 328 14 (nI h)) (by rw [b2]; exact a1.high) ((a2.mono (by omega)).trans high_bl)
      rw [b2] at h9
      exact h9
/-- gather in a frame, then on with what came -/
theorem GaP.split {I I' : aI} {acc cs : List mR} (hG : GaP F I h acc cs I') (hS : Sr F I lim e (h + 1)) (hl : invL e) (hE : invE lim e) (hlim : lim ≤ 2000) :
    (50 < (acc ++ cs).length ∧ OutS F I' ∧ I' 328 33 = 1 ∧ ∀ i k, ¬ cb h i k → ¬ (i = 328 ∧ k = 33) → I' i k = I i k) ∨ ((acc ++ cs).length ≤ 50 ∧ Sr F I' lim e (h + 1) ∧ I' 349 (2 * h + 1) = nI (acc ++ cs).length ∧ Rr F I' (100 * h + 50) (acc ++ cs) ∧ At I I' h ∧ ∀ i k, ¬ cb h i k → I' i k = I i k) := by
  rcases hG with ⟨h1, h2, h3⟩ | ⟨h1, h2, h3, h4⟩
  · exact Or.inl ⟨h1, hS.out h2 (fun i k c => h3 i k (by unfold cb; omega) (by omega)) hl hE hlim, h2, h3⟩
  · exact Or.inr ⟨h1, hS.at (cb_at h4), h2, h3, cb_at h4, h4⟩
theorem OutS.put {I : aI} {i k : Nat} {x : Int32} (h : OutS F I) (hi : i ≠ 328 ∧ (i < 337 ∨ 339 < i)) : OutS F (up2 I i k x) := h.eq (fun j m c => up2_n (by omega))
end Child
section Either
variable {lx ly : Nat} {g : aG} {I : aI} {L : aL} {p : Nat → Int32} {B : mB} {hg : Nat → Nat} {cnt lim h t c f ph : Nat} {okT : Nat → Prop} {Run : aI → Prop} {env : Nat → Int32} {e e1 : mE} {F : mF} {s0 l0 : Int32}
theorem ei_step (hw : WS lx ly g) (hlim : lim ≤ 2000) (h80 : t < 80) (hh : h ≤ 29) (hS : Sr F I lim e1 (h + 1)) (hE : invE lim e1) (hF : Fr F I h t env s0 l0) (hph : I 341 h = nI ph) (hc : (ph = 0 ∧ I 330 t = nI c) ∨ (ph = 1 ∧ I 331 t = nI c)) (hs : F.1 = true → s0 = mE.s e1) (hl : F.2.1 = true → l0 = mE.l e1)
    (K : ∀ I2, PushP F (up2 I 341 h (nI (ph + 1))) lim e1 (h + 1) c env I2 → Run I2) : Ex mX9_either_ 5 0 0 (rQ g L Run) 14 [some (vS 328), some (vI (nI h))] [] g I L := by
  have h0 := (hw 328 _ rfl).2.1
  have ch : (nI h).toNatClampNeg = h := clN (by omega)
  have ct : (nI t).toNatClampNeg = t := clN (by omega)
  have vh : vp_in (nI h) 32 := inN (by omega) (by omega)
  have vt : vp_in (nI t) 80 := inN (by omega) (by omega)
  have hA : At I (up2 I 341 h (nI (ph + 1))) h := fun i k c => up2_n (by unfold mt at c; omega)
  refine Ex_bn 8 oX9_either_ hw ?_
  refine And.intro vh (And.intro vh ?_)
  show Ex mX9_either_ 5 0 0 (rQ g L Run) 24 [some (vS 328), some (vI (nI h))] [] g (up2 I 341 (nI h).toNatClampNeg (I 341 (nI h).toNatClampNeg + 1)) L
  rw [ch, hph, nI_1]
  have hS1 := hS.at hA
  have hF1 := hF.at hA
  have hp1 : up2 I 341 h (nI (ph + 1)) 341 h = nI (ph + 1) := up2_s
  have q330 : up2 I 341 h (nI (ph + 1)) 330 t = I 330 t := up2_i (by omega)
  have q331 : up2 I 341 h (nI (ph + 1)) 331 t = I 331 t := up2_i (by omega)
  generalize up2 I 341 h (nI (ph + 1)) = J at *
  refine Ex_wx [32] 9 oX9_either_ hw ?_
  refine And.intro (fun _ => ?_) (fun c => absurd hS1.1.2.2.2.1 c)
  refine Ex_wx [49] 9 oX9_either_ hw ?_
  refine And.intro vh ?_
  rw [ch, hp1]
  refine And.intro (fun c => absurd (eqN (b := 3) c (by omega) (by omega)) (by omega)) (fun _ => ?_)
  refine Ex_wx [60, 74] 9 oX9_either_ hw ?_
  refine And.intro vh ?_
  rw [ch, hp1]
  have hX := r_push (L := L) (d := 0) (t := c) (fr := nI h) (n := -1) (v := 0) (src := env) hw (by omega) hS1 hE.2.2 hlim (Or.inr ⟨h, by omega, rfl, hF1.2.1⟩) (Or.inl rfl) (fun c => (hF1.2.2.1 c).trans (hs c)) (fun c => (hF1.2.2.2.2.1 c).trans (hl c))
  rw [upE_no] at hX
  rcases hc with ⟨rfl, hc⟩ | ⟨rfl, hc⟩
  · refine And.intro (fun _ => ?_) (fun c => absurd rfl c)
    refine Ex_wx [] 9 oX9_either_ hw ?_
    refine And.intro vh ?_
    refine And.intro (by rw [ch, hF1.1]; exact vt) ?_
    refine And.intro vh (And.intro vh ?_)
    rw [ch, hF1.1, ct, q330, hc]
    refine Ex_r (As := [vI (nI c), vI (nI h), vI (-1), vI 0, vI (J 344 h), vI (J 345 h)]) (st := []) vX9_237 rfl rfl hX h0 (by omega) rfl (dc_ok oX9_either_ rfl) ?_
    intro I2 hP
    refine Ex_wx [] 9 oX9_either_ hw ?_
    exact ⟨rfl, rfl, rfl, K I2 hP⟩
  · refine And.intro (fun c => absurd (eqN (b := 1) c (by omega) (by omega)) (by omega)) (fun _ => ?_)
    refine Ex_wx [] 9 oX9_either_ hw ?_
    refine And.intro vh ?_
    refine And.intro (by rw [ch, hF1.1]; exact vt) ?_
    refine And.intro vh (And.intro vh ?_)
    rw [ch, hF1.1, ct, q331, hc]
    refine Ex_r (As := [vI (nI c), vI (nI h), vI (-1), vI 0, vI (J 344 h), vI (J 345 h)]) (st := []) vX9_237 rfl rfl hX h0 (by omega) rfl (dc_ok oX9_either_ rfl) ?_
    intro I2 hP
    refine Ex_wx [] 9 oX9_either_ hw ?_
    exact ⟨rfl, rfl, rfl, K I2 hP⟩
theorem sim_either (ih : simC g L p B hg cnt lim okT Run f) (hst : stepR g L Run) (hB : Bw B hg cnt) (hO : okB p B cnt okT) (H : Lf lx ly g p B cnt lim I h t env e) (ho : okT t) (hk : (B t).1 = 6) (hf : hg t ≤ f + 1) (hd : h + hg t ≤ 30)
    (K : Cont g L (flF p) lim Run (eitherF (flF p) e (ev (flF p) B lim f (B t).2.2.2.2.1 env e) (ev (flF p) B lim f (B t).2.2.2.2.2 env)) I h) : Mx mX9_either_ 5 0 0 [vS 328, vI (nI h)] g I L (rQ g L Run) := by
  obtain ⟨hw, hlim, hc, ht, hh, hE, hl, hsu, hT, hS, hF⟩ := H
  obtain ⟨hk1, -, -, hk4, hk5, -⟩ := hT.2 t ht
  have h330 := hk4 (by omega) (by omega)
  have h331 := hk5 (by omega) (by omega)
  rw [hk] at hk1
  obtain ⟨-, -, hb3, hb4⟩ := hB t ht
  obtain ⟨ha1, ha2⟩ := hb3 (by omega) (by omega)
  obtain ⟨hb1, hb2⟩ := hb4 (by omega) (by omega)
  obtain ⟨-, -, ho3, ho4⟩ := hO t ht ho
  have hoa := ho3 (by omega) (by omega)
  have hob := ho4 (by omega) (by omega)
  have h0 := (hw 328 _ rfl).2.1
  have ch : (nI h).toNatClampNeg = h := clN (by omega)
  have vh : vp_in (nI h) 32 := inN (by omega) (by omega)
  generalize hqa : ev (flF p) B lim f (B t).2.2.2.2.1 env e = qa at K
  have hla := ev_log (F := flF p) (B := B) hlim f (B t).2.2.2.2.1 env e hE hl
  have hka := ev_ok (F := flF p) (B := B) f (B t).2.2.2.2.1 env e hE
  rw [hqa] at hla hka
  generalize hqb : ev (flF p) B lim f (B t).2.2.2.2.2 env (own2 (flF p) qa.2.2 (mE.s e) (mE.l e)) = qb
  have hlb := ev_log (F := flF p) (B := B) hlim f (B t).2.2.2.2.2 env (own2 (flF p) qa.2.2 (mE.s e) (mE.l e)) (own2_inv hka.2.1) (own2_invL hla.1 (hl.2.mono hla.2.1.1))
  have hkb := ev_ok (F := flF p) (B := B) f (B t).2.2.2.2.2 env (own2 (flF p) qa.2.2 (mE.s e) (mE.l e)) (own2_inv hka.2.1)
  rw [hqb] at hlb hkb
  refine Mx_in (by decide +kernel) rfl rfl (Ex_wx [14] 9 oX9_either_ hw ?_)
  refine And.intro vh ?_
  rw [ch, hF.2.1]
  refine And.intro (fun _ => ?_) (fun c => absurd (by decide) c)
  refine ei_step (ph := 0) hw hlim (by omega) hh hS hE hF.1 hF.2.1 (Or.inl ⟨rfl, h330⟩) (fun _ => rfl) (fun _ => rfl) ?_
  intro I2 hP
  have hA : At I (up2 I 341 h (nI (0 + 1))) h := fun i k c => up2_n (by unfold mt at c; omega)
  refine sim_child ih hP (hS.at hA) (hT.bl hA.bl) ha1 (by omega) hoa (by omega) hE hl hlim ?_
  rw [hqa]
  refine cont_err (t := t) (q2 := eitherF (flF p) e qa (ev (flF p) B lim f (B t).2.2.2.2.2 env)) hw hh (by omega) (hF.1.at hA) ?_ (K.bl hA.bl) ?_ ?_ ?_
  · rw [up2_i (by omega), hk1]
    exact fun c => absurd c.1 (by decide)
  · intro q1
    unfold eitherF
    rw [if_pos (by rw [q1]; decide)]
    exact ⟨q1, rfl⟩
  · intro q1
    unfold eitherF
    rw [if_pos (by rw [q1]; decide)]
    exact q1
  intro q0 I3 sS sm sr sb
  unfold eitherF at K
  rw [if_neg (fun q => q q0), hqb] at K
  simp only at K
  have hT3 := (hT.bl hA.bl).bl sb
  have hF3 := (hF.1.at hA).bl sb
  have p3 : I3 341 h = nI 1 := by rw [sb 341 h (by unfold kp; omega)]; exact up2_s
  have m3 : I3 349 (2 * h + 1) = 0 := by rw [sb 349 _ (by unfold kp; omega), up2_i (by omega)]; exact hF.2.2.2.2.2
  have bl3 : Bl I I3 h := hA.bl.trans (sb.mono (by omega))
  refine hst I3 h sS.1.1 (by omega) sS.1.2.2.2.1 (r_go_either hw sS.1.1 (by omega) hF3.1 (by omega) (by rw [(hT3.2 t ht).1, hk]; rfl) ?_)
  refine Mx_in (by decide +kernel) rfl rfl (Ex_wx [9] 9 oX9_either_ hw ?_)
  refine And.intro vh ?_
  rw [ch, p3]
  refine And.intro (fun c => absurd c (by decide)) (fun _ => ?_)
  refine Ex_wx [] 9 oX9_either_ hw ?_
  refine Ex_r (As := [vI (nI h)]) (st := []) vX9_259 rfl rfl (r_gather (acc := []) (d := 4) (F := flF p) hw (by omega) (by omega) m3 (by simp) Rr.nil sm sr (hka.2.2 q0).2 (hka.2.2 q0).1 sS.1.2.2.2.1) h0 (by omega) rfl (dc_ok oX9_either_ rfl) ?_
  intro I4 hG
  rcases hG.split sS hla.1 hka.2.1 hlim with ⟨hbig, -⟩ | ⟨-, hS4, m4, r4, hA4, -⟩
  · rw [List.nil_append] at hbig
    exact absurd (hka.2.2 q0).1 (by omega)
  · rw [List.nil_append] at m4 r4
    have hF4 := hF3.at hA4
    have p4 : I4 341 h = nI 1 := by
      rcases hG with ⟨hbig, -⟩ | ⟨-, -, -, h4⟩
      · rw [List.nil_append] at hbig
        exact absurd (hka.2.2 q0).1 (by omega)
      · rw [h4 341 h (by unfold cb; omega)]; exact p3
    have hT4 := hT3.bl hA4.bl
    have e330 := (hT4.2 t ht).2.2.2.2.1 (by omega) (by omega)
    refine ei_step (ph := 1) (c := (B t).2.2.2.2.2) (e1 := own2 (flF p) qa.2.2 (mE.s e) (mE.l e)) hw hlim (by omega) hh hS4.own2 (own2_inv hka.2.1) hF4 p4 (Or.inr ⟨rfl, e330⟩) ?_ ?_ ?_
    · intro c
      show _ = if (flF p).1 = true then mE.s e else _
      rw [if_pos c]
    · intro c
      show _ = if (flF p).2.1 = true then mE.l e else _
      rw [if_pos c]
    intro I5 hP5
    have hA5 : At I4 (up2 I4 341 h (nI (1 + 1))) h := fun i k c => up2_n (by unfold mt at c; omega)
    have bl5 : Bl I (up2 I4 341 h (nI (1 + 1))) h := (bl3.trans hA4.bl).trans hA5.bl
    refine sim_child ih hP5 (hS4.own2.at hA5) (hT4.bl hA5.bl) hb1 (by omega) hob (by omega) (own2_inv hka.2.1) (own2_invL hla.1 (hl.2.mono hla.2.1.1)) hlim ?_
    rw [hqb]
    refine cont_err (t := t) hw hh (by omega) (hF4.at hA5) ?_ (K.bl bl5) ?_ ?_ ?_
    · rw [up2_i (by omega), (hT4.2 t ht).1, hk]
      exact fun c => absurd c.1 (by decide)
    · intro q1
      rw [if_pos (by rw [q1]; decide)]
      exact ⟨q1, rfl⟩
    · intro q1
      rw [if_pos (by rw [q1]; decide)]
      exact q1
    intro q0b I6 sS6 sm6 sr6 sb6
    rw [if_neg (fun q => q q0b)] at K
    have hT6 := (hT4.bl hA5.bl).bl sb6
    have hF6 := (hF4.at hA5).bl sb6
    have p6 : I6 341 h = nI 2 := by rw [sb6 341 h (by unfold kp; omega)]; exact up2_s
    have m6 : I6 349 (2 * h + 1) = nI qa.2.1.length := by rw [sb6 349 _ (by unfold kp; omega), up2_i (by omega)]; exact m4
    have r6 : Rr (flF p) I6 (100 * h + 50) qa.2.1 := r4.eq (fun i k h1 h2 h3 h4 => by
      have := (hka.2.2 q0).1
      rw [sb6 i k (by unfold kp; omega), up2_i (by omega)])
    have bl6 : Bl I I6 h := bl5.trans (sb6.mono (by omega))
    refine hst I6 h sS6.1.1 (by omega) sS6.1.2.2.2.1 (r_go_either hw sS6.1.1 (by omega) hF6.1 (by omega) (by rw [(hT6.2 t ht).1, hk]; rfl) ?_)
    refine Mx_in (by decide +kernel) rfl rfl (Ex_wx [9] 9 oX9_either_ hw ?_)
    refine And.intro vh ?_
    rw [ch, p6]
    refine And.intro (fun c => absurd c (by decide)) (fun _ => ?_)
    refine Ex_wx [] 9 oX9_either_ hw ?_
    refine Ex_r (As := [vI (nI h)]) (st := []) vX9_259 rfl rfl (r_gather (acc := qa.2.1) (d := 4) (F := flF p) hw (by omega) (by omega) m6 (hka.2.2 q0).1 r6 sm6 sr6 (hkb.2.2 q0b).2 (hkb.2.2 q0b).1 sS6.1.2.2.2.1) h0 (by omega) rfl (dc_ok oX9_either_ rfl) ?_
    intro I7 hG7
    rcases hG7.split sS6 hlb.1 hkb.2.1 hlim with ⟨hbig, hO7, o7, hx7⟩ | ⟨hsm, hS7, m7, r7, hA7, hx7⟩
    · rw [if_pos hbig] at K
      refine Ex_bn 8 oX9_either_ hw ?_
      refine And.intro vh (And.intro vh ?_)
      refine Ex_wx [] 9 oX9_either_ hw ?_
      refine And.intro (fun c => ?_) (fun _ => ?_)
      · rw [up2_i (by omega), o7] at c
        exact absurd c (by decide)
      · refine ⟨rfl, rfl, rfl, K.2.2 rfl _ (hO7.put (by omega)) ?_⟩
        intro i k c
        unfold kp at c
        rw [up2_n (by omega), hx7 i k (by unfold cb; omega) (by omega)]
        exact bl6 i k (by unfold kp; omega)
    · rw [if_neg (by omega)] at K
      refine Ex_bn 8 oX9_either_ hw ?_
      refine And.intro vh (And.intro vh ?_)
      show Ex mX9_either_ 5 0 0 (rQ g L Run) 24 [some (vS 328), some (vI (nI h))] [] g (up2 I7 341 (nI h).toNatClampNeg (I7 341 (nI h).toNatClampNeg + 1)) L
      have p7 : I7 341 h = nI 2 := by rw [hx7 341 h (by unfold cb; omega)]; exact p6
      rw [ch, p7, nI_1]
      have hA8 : At I7 (up2 I7 341 h (nI (2 + 1))) h := fun i k c => up2_n (by unfold mt at c; omega)
      have hS8 := hS7.at hA8
      refine Ex_wx [32] 9 oX9_either_ hw ?_
      refine And.intro (fun _ => ?_) (fun c => absurd hS8.1.2.2.2.1 c)
      refine Ex_wx [] 9 oX9_either_ hw ?_
      refine And.intro vh ?_
      rw [ch, up2_s]
      refine And.intro (fun _ => ?_) (fun c => absurd rfl c)
      refine Ex_v (As := []) (st := []) (d' := 0) vX9_262 rfl rfl (r_finish hw hS8.1.1) h0 (by omega) rfl (dc_ok oX9_either_ rfl) ?_
      refine Ex_wx [] 9 oX9_either_ hw ?_
      refine ⟨rfl, rfl, rfl, K.1 rfl _ hS8.high ?_ ?_ ((bl6.trans (hA7.bl.trans hA8.bl)).trans high_bl)⟩
      · rw [up2_i (by omega), up2_i (by omega)]; exact m7
      · exact r7.eq (fun i k h1 h2 h3 h4 => by rw [up2_i (by omega), up2_i (by omega)])
end Either
