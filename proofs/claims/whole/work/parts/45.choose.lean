/-! the reference: choose -/
section Choose
variable {lx ly : Nat} {g : aG} {I : aI} {L : aL} {p : Nat → Int32} {B : mB} {hg : Nat → Nat} {cnt lim h t c f : Nat} {okT : Nat → Prop} {Run : aI → Prop} {env : Nat → Int32} {e : mE}
theorem sim_choose (ih : simC g L p B hg cnt lim okT Run f) (hst : stepR g L Run) (hB : Bw B hg cnt) (hO : okB p B cnt okT) (H : Lf lx ly g p B cnt lim I h t env e) (ho : okT t) (hk : (B t).1 = 9) (hf : hg t ≤ f + 1) (hd : h + hg t ≤ 30)
    (K : Cont g L (flF p) lim Run (ev (flF p) B lim f (if nmF env (B t).2.2.2.1 = 0 then (B t).2.2.2.2.2 else (B t).2.2.2.2.1) env e) I h) : Mx mX9_choose 5 0 0 [vS 328, vI (nI h)] g I L (rQ g L Run) := by
  obtain ⟨hw, hlim, hc, ht, hh, hE, hl, hsu, hT, hS, hF⟩ := H
  obtain ⟨hk1, -, -, hk4, hk5, hk6, -⟩ := hT.2 t ht
  have h330 := hk4 (by omega) (by omega)
  have h331 := hk5 (by omega) (by omega)
  obtain ⟨h332, jn, hjn, hjn2⟩ := hk6 (by omega) (by omega)
  rw [hk] at hk1
  obtain ⟨-, -, hb3, hb4⟩ := hB t ht
  obtain ⟨ha1, ha2⟩ := hb3 (by omega) (by omega)
  obtain ⟨hb1, hb2⟩ := hb4 (by omega) (by omega)
  obtain ⟨-, -, ho3, ho4⟩ := hO t ht ho
  have hoa := ho3 (by omega) (by omega)
  have hob := ho4 (by omega) (by omega)
  have h0 := (hw 328 _ rfl).2.1
  have ch : (nI h).toNatClampNeg = h := clN (by omega)
  have ct : (nI t).toNatClampNeg = t := clN (by omega)
  have vh : vp_in (nI h) 32 := inN (by omega) (by omega)
  have vt : vp_in (nI t) 80 := inN (by omega) (by omega)
  have hnm : nmF env (B t).2.2.2.1 = env jn := by rw [hjn2, nm_eq hjn]
  rw [hnm] at K
  have hA : At I (up2 I 341 h 1) h := fun i k c => up2_n (by unfold mt at c; omega)
  have hS1 := hS.at hA
  have hF1 := hF.1.at hA
  -- the part that is chosen
  have part : ∀ (c : Nat), c < cnt → hg c < hg t → okT c → Cont g L (flF p) lim Run (ev (flF p) B lim f c env e) I h → ∀ I2, PushP (flF p) (up2 I 341 h 1) lim e (h + 1) c env I2 → Run I2 := by
    intro c hc1 hc2 hc3 K I2 hP
    have hkc := ev_ok (F := flF p) (B := B) f c env e hE
    have hlc := ev_log (F := flF p) (B := B) hlim f c env e hE hl
    refine sim_child ih hP hS1 (hT.bl hA.bl) hc1 (by omega) hc3 (by omega) hE hl hlim ?_
    generalize ev (flF p) B lim f c env e = q at *
    refine cont_err (t := t) (q2 := q) hw hh (by omega) hF1 ?_ (K.bl hA.bl) (fun q1 => ⟨q1, rfl⟩) (fun q1 => q1) ?_
    · rw [up2_i (by omega), hk1]
      exact fun c => absurd c.1 (by decide)
    intro q0 I3 sS sm sr sb
    have hT3 := (hT.bl hA.bl).bl sb
    have hF3 := hF1.bl sb
    have p3 : I3 341 h = 1 := by rw [sb 341 h (by unfold kp; omega)]; exact up2_s
    have m3 : I3 349 (2 * h + 1) = 0 := by rw [sb 349 _ (by unfold kp; omega), up2_i (by omega)]; exact hF.2.2.2.2.2
    have bl3 : Bl I I3 h := hA.bl.trans (sb.mono (by omega))
    refine hst I3 h sS.1.1 (by omega) sS.1.2.2.2.1 (r_go_choose hw sS.1.1 (by omega) hF3.1 (by omega) (by rw [(hT3.2 t ht).1, hk]; rfl) ?_)
    refine Mx_in (by decide +kernel) rfl rfl (Ex_wx [27] 9 oX9_choose hw ?_)
    refine And.intro vh (And.intro vh ?_)
    rw [ch, p3]
    refine And.intro (fun _ => ?_) (fun c => absurd rfl c)
    refine Ex_r (As := [vI (nI h)]) (st := []) vX9_259 rfl rfl (r_gather (acc := []) (d := 4) (F := flF p) hw (by omega) (by omega) m3 (by simp) Rr.nil sm sr (hkc.2.2 q0).2 (hkc.2.2 q0).1 sS.1.2.2.2.1) h0 (by omega) rfl (dc_ok oX9_choose rfl) ?_
    intro I4 hG
    rcases hG.split sS hlc.1 hkc.2.1 hlim with ⟨hbig, -⟩ | ⟨-, hS4, m4, r4, hA4, -⟩
    · rw [List.nil_append] at hbig
      exact absurd (hkc.2.2 q0).1 (by omega)
    · rw [List.nil_append] at m4 r4
      refine Ex_wx [] 9 oX9_choose hw ?_
      refine Ex_v (As := []) (st := []) (d' := 0) vX9_262 rfl rfl (r_finish hw hS4.1.1) h0 (by omega) rfl (dc_ok oX9_choose rfl) ?_
      refine Ex_wx [] 9 oX9_choose hw ?_
      refine ⟨rfl, rfl, rfl, K.1 q0 _ hS4.high ?_ ?_ ((bl3.trans hA4.bl).trans high_bl)⟩
      · rw [up2_i (by omega)]; exact m4
      · exact r4.eq (fun i k h1 h2 h3 h4 => up2_i (by omega))
  refine Mx_in (by decide +kernel) rfl rfl (Ex_bn 5 oX9_choose hw ?_)
  refine And.intro vh ?_
  show Ex mX9_choose 5 0 0 (rQ g L Run) 7 [some (vS 328), some (vI (nI h)), some (vI (I 340 (nI h).toNatClampNeg))] [] g I L
  rw [ch, hF.1.1]
  refine Ex_wx [27] 9 oX9_choose hw ?_
  refine And.intro vh ?_
  rw [ch, hF.2.1]
  refine And.intro (fun c => absurd c (by decide)) (fun _ => ?_)
  refine Ex_bn 5 oX9_choose hw ?_
  refine And.intro vh ?_
  show Ex mX9_choose 5 0 0 (rQ g L Run) 34 [some (vS 328), some (vI (nI h)), some (vI (nI t))] [] g (up2 I 341 (nI h).toNatClampNeg 1) L
  rw [ch]
  have q330 : up2 I 341 h 1 330 t = nI (B t).2.2.2.2.1 := by rw [up2_i (by omega)]; exact h330
  have q331 : up2 I 341 h 1 331 t = nI (B t).2.2.2.2.2 := by rw [up2_i (by omega)]; exact h331
  have q332 : up2 I 341 h 1 332 t = nI jn := by rw [up2_i (by omega), h332]; exact hjn2
  have q348 := hF1.2.1 jn hjn
  generalize up2 I 341 h 1 = J at *
  have e1 : (8 : Int32) * nI h + J 332 (nI t).toNatClampNeg = nI (8 * h + jn) := by rw [ct, q332, show (8 : Int32) * nI h = nI (8 * h) from nI_mul 8 h, nI_add]
  refine Ex_wx [54, 63] 9 oX9_choose hw ?_
  refine And.intro vt ?_
  refine And.intro (by rw [e1]; exact inN (by omega) (by omega)) ?_
  rw [e1, clN (by omega), q348]
  have hX := fun (c : Nat) => r_push (L := L) (d := 0) (t := c) (fr := nI h) (n := -1) (v := 0) (src := env) hw (by omega) hS1 hE.2.2 hlim (Or.inr ⟨h, by omega, rfl, hF1.2.1⟩) (Or.inl rfl) hF1.2.2.1 hF1.2.2.2.2.1
  refine And.intro (fun c0 => ?_) (fun c0 => ?_)
  · rw [if_pos c0] at K
    refine Ex_wx [] 9 oX9_choose hw ?_
    refine And.intro vt (And.intro vh (And.intro vh ?_))
    rw [ch, ct, q331]
    have hY := hX (B t).2.2.2.2.2
    rw [upE_no] at hY
    refine Ex_r (As := [vI (nI (B t).2.2.2.2.2), vI (nI h), vI (-1), vI 0, vI (J 344 h), vI (J 345 h)]) (st := []) vX9_237 rfl rfl hY h0 (by omega) rfl (dc_ok oX9_choose rfl) ?_
    intro I2 hP
    refine Ex_wx [] 9 oX9_choose hw ?_
    exact ⟨rfl, rfl, rfl, part _ hb1 hb2 hob K I2 hP⟩
  · rw [if_neg c0] at K
    refine Ex_wx [] 9 oX9_choose hw ?_
    refine And.intro vt (And.intro vh (And.intro vh ?_))
    rw [ch, ct, q330]
    have hY := hX (B t).2.2.2.2.1
    rw [upE_no] at hY
    refine Ex_r (As := [vI (nI (B t).2.2.2.2.1), vI (nI h), vI (-1), vI 0, vI (J 344 h), vI (J 345 h)]) (st := []) vX9_237 rfl rfl hY h0 (by omega) rfl (dc_ok oX9_choose rfl) ?_
    intro I2 hP
    refine Ex_wx [] 9 oX9_choose hw ?_
    exact ⟨rfl, rfl, rfl, part _ ha1 ha2 hoa K I2 hP⟩
end Choose
