/-! the reference's leaves -/
section Leaf
variable {lx ly : Nat} {g : aG} {I I1 : aI} {L : aL} {p : Nat → Int32} {B : mB} {cnt lim h t k : Nat} {Run : aI → Prop} {env : Nat → Int32} {e e1 : mE} {F : mF} {nd x v st lg s1 l1 : Int32} {w : Option aV} {Q : aQ}
theorem lf_head (hw : WS lx ly g) (hh : h < 32) (ht : I 340 h = nI t) (h80 : t < 80) (he : ∀ k, k < 8 → I 348 (8 * h + k) = env k) (hx : I 330 t = x) (hnd : I 333 t = nd) (hn : nd = 0 ∨ (nd = 1 ∧ ∃ j, j < 8 ∧ x = nI j)) (hk : I 329 t = nI k)
    (K : Ex mX9_leaf 5 0 0 Q 47 [some (vS 328), some (vI (nI h)), some (vI (nI t)), some (vI (opF env nd x)), some (vI (I 344 h)), some (vI (I 345 h)), none] [vI (nI k)] g I L) : Mx mX9_leaf 5 0 0 [vS 328, vI (nI h)] g I L Q := by
  have h0 := (hw 328 _ rfl).2.1
  have ch : (nI h).toNatClampNeg = h := clN (by omega)
  have ct : (nI t).toNatClampNeg = t := clN (by omega)
  have vh : vp_in (nI h) 32 := inN hh (by omega)
  have vt : vp_in (nI t) 80 := inN h80 (by omega)
  refine Mx_in (by decide +kernel) rfl rfl (Ex_bn 5 oX9_leaf hw ?_)
  refine And.intro vh ?_
  show Ex mX9_leaf 5 0 0 Q 7 [some (vS 328), some (vI (nI h)), some (vI (I 340 (nI h).toNatClampNeg)), none, none, none, none] [] g I L
  rw [ch, ht]
  refine Ex_wx [] 9 oX9_leaf hw ?_
  refine And.intro vt (And.intro vt ?_)
  have hX : Mx mX9_value 0 0 0 [vS 328, vI (nI h), vI (I 330 (nI t).toNatClampNeg), vI (I 333 (nI t).toNatClampNeg)] g I L (qV (some (vI (opF env nd x))) g I L) := by
    rw [ct, hx, hnd]; exact r_value hw hh he hn
  refine Ex_v (As := [vI (nI h), vI (I 330 (nI t).toNatClampNeg), vI (I 333 (nI t).toNatClampNeg)]) (st := []) (d' := 0) vX9_210 rfl rfl hX h0 (by omega) rfl (dc_ok oX9_leaf rfl) ?_
  refine Ex_bn 15 oX9_leaf hw ?_
  refine And.intro vh (And.intro vh (And.intro vt ?_))
  show Ex mX9_leaf 5 0 0 Q 47 [some (vS 328), some (vI (nI h)), some (vI (nI t)), some (vI (opF env nd x)), some (vI (I 344 (nI h).toNatClampNeg)), some (vI (I 345 (nI h).toNatClampNeg)), none] [vI (I 329 (nI t).toNatClampNeg)] g I L
  rw [ch, ct, hk]
  exact K
theorem lf_end {er : Int32} (hS : Sr F I1 lim e1 (h + 1)) (hm : I1 349 (2 * h + 1) = 0) (hB : Bl I I1 h) (hs : F.1 = true → st = s1) (hl : F.2.1 = true → lg = l1) (K : Cont g L F lim Run (0, [(v, er, s1, l1)], e1) I h) : Run (up2 (tellI I1 h 0 er v st lg) 328 14 (tellI I1 h 0 er v st lg 328 14 - 1)) := by
  have q14 : tellI I1 h 0 er v st lg 328 14 - 1 = nI h := by
    rw [tell_cb (by omega) 328 14 (by unfold cb; omega), hS.1.1, nI_pred]
  rw [q14]
  have hA : At I1 (tellI I1 h 0 er v st lg) h := cb_at (tell_cb (by omega))
  refine K.1 rfl _ ((hS.at hA).high) ?_ ?_ ((hB.trans hA.bl).trans high_bl)
  · rw [up2_i (by omega), tell_many]; rfl
  · exact Rr.eq (tell_rows (acc := []) Rr.nil rfl hs hl) (fun i k h1 h2 _ _ => up2_i (by omega))
theorem lf_tail (hw : WS lx ly g) (hh : h < 32) (hS : Sr F I1 lim e1 (h + 1)) (hm : I1 349 (2 * h + 1) = 0) (hB : Bl I I1 h) (hs : F.1 = true → st = s1) (hl : F.2.1 = true → lg = l1) (K : Cont g L F lim Run (0, [(v, 0, s1, l1)], e1) I h) : Ex mX9_leaf 5 0 0 (rQ g L Run) 280 [some (vS 328), some (vI (nI h)), some (vI (nI t)), some (vI v), some (vI st), some (vI lg), w] [] g I1 L := by
  have h0 := (hw 328 _ rfl).2.1
  refine Ex_wx [] 9 oX9_leaf hw ?_
  refine Ex_v (As := [vI (nI h), vI 0, vI v, vI st, vI lg]) (st := []) (d' := 1) vX9_203 rfl rfl (r_tell (m := 0) hw hh hm (by omega) (Or.inl rfl) (by omega)) h0 (by omega) rfl (dc_ok oX9_leaf rfl) ?_
  rw [if_neg (by decide)]
  refine Ex_wx [] 9 oX9_leaf hw ?_
  exact ⟨rfl, rfl, rfl, lf_end hS hm hB hs hl K⟩
theorem lf_tailE (hw : WS lx ly g) (hh : h < 32) (hS : Sr F I1 lim e1 (h + 1)) (hm : I1 349 (2 * h + 1) = 0) (hB : Bl I I1 h) (hs : F.1 = true → st = s1) (hl : F.2.1 = true → lg = l1) (K : Cont g L F lim Run (0, [(v, 1, s1, l1)], e1) I h) : Ex mX9_leaf 5 0 0 (rQ g L Run) 247 [some (vS 328), some (vI (nI h)), some (vI (nI t)), some (vI v), some (vI st), some (vI lg), w] [] g I1 L := by
  have h0 := (hw 328 _ rfl).2.1
  refine Ex_wx [] 9 oX9_leaf hw ?_
  refine Ex_v (As := [vI (nI h), vI 1, vI v, vI st, vI lg]) (st := []) (d' := 1) vX9_203 rfl rfl (r_tell (m := 0) hw hh hm (by omega) (Or.inr rfl) (by omega)) h0 (by omega) rfl (dc_ok oX9_leaf rfl) ?_
  rw [if_neg (by decide)]
  refine Ex_wx [] 9 oX9_leaf hw ?_
  exact ⟨rfl, rfl, rfl, lf_end hS hm hB hs hl K⟩
end Leaf
section Leaf2
variable {lx ly : Nat} {g : aG} {I : aI} {L : aL} {p : Nat → Int32} {B : mB} {cnt lim h t : Nat} {Run : aI → Prop} {env : Nat → Int32} {e : mE}
/-- what holds at a frame that has just been pushed -/
def Lf (lx ly : Nat) (g : aG) (p : Nat → Int32) (B : mB) (cnt lim : Nat) (I : aI) (h t : Nat) (env : Nat → Int32) (e : mE) : Prop := WS lx ly g ∧ lim ≤ 2000 ∧ cnt ≤ 80 ∧ t < cnt ∧ h ≤ 29 ∧ invE lim e ∧ invL e ∧ mE.us e ≤ mE.sp e ∧ Tr I p B cnt ∧ Sr (flF p) I lim e (h + 1) ∧ Fresh (flF p) I h t env (mE.s e) (mE.l e)
theorem lf_give (H : Lf lx ly g p B cnt lim I h t env e) (hk : (B t).1 = 0) (K : Cont g L (flF p) lim Run (ansF (opF env (B t).2.1 (B t).2.2.1) e) I h) : Mx mX9_leaf 5 0 0 [vS 328, vI (nI h)] g I L (rQ g L Run) := by
  obtain ⟨hw, hlim, hc, ht, hh, hE, hl, hsu, hT, hS, hF⟩ := H
  obtain ⟨hk1, hk2, -⟩ := hT.2 t ht
  obtain ⟨a1, a2, a3⟩ := hk2 (by omega)
  refine lf_head hw (by omega) hF.1.1 (by omega) hF.1.2.1 a1 a2 a3 hk1 ?_
  rw [hk]
  refine Ex_tableIn (tgt := 84) (off := 37) (dc_ok oX9_leaf rfl) (by decide) (by decide) (by decide) (by decide) ?_
  refine Ex_wx [280] 9 oX9_leaf hw ?_
  exact lf_tail hw (by omega) hS hF.2.2.2.2.2 Bl.refl hF.1.2.2.1 hF.1.2.2.2.2.1 K
theorem lf_of (H : Lf lx ly g p B cnt lim I h t env e) (hk : 14 ≤ (B t).1) (hk8 : (B t).1 ≤ 18) (K : Cont g L (flF p) lim Run (ansF (rkF (B t).1 (opF env (B t).2.1 (B t).2.2.1) (nmF env (B t).2.2.2.1)) e) I h) : Mx mX9_leaf 5 0 0 [vS 328, vI (nI h)] g I L (rQ g L Run) := by
  obtain ⟨hw, hlim, hc, ht, hh, hE, hl, hsu, hT, hS, hF⟩ := H
  obtain ⟨hk1, -, hk3, -⟩ := hT.2 t ht
  obtain ⟨a1, a2, a3, a4, a5, ⟨j1, b1, b2⟩, j2, c1, c2⟩ := hk3 hk
  have h0 := (hw 328 _ rfl).2.1
  have ch : (nI h).toNatClampNeg = h := clN (by omega)
  have ct : (nI t).toNatClampNeg = t := clN (by omega)
  have vh : vp_in (nI h) 32 := inN (by omega) (by omega)
  have vt : vp_in (nI t) 80 := inN (by omega) (by omega)
  refine lf_head hw (by omega) hF.1.1 (by omega) hF.1.2.1 a4 a2 (Or.inl rfl) hk1 ?_
  have hkr : kR (B t).1 = 1 := by unfold kR; rw [if_neg (by omega), if_neg (by omega)]
  rw [hkr]
  refine Ex_tableIn (tgt := 87) (off := 40) (dc_ok oX9_leaf rfl) (by decide) (by decide) (by decide) (by decide) ?_
  refine Ex_wx [] 9 oX9_leaf hw ?_
  have e1 : (8 : Int32) * nI h + I 330 (nI t).toNatClampNeg = nI (8 * h + j1) := by rw [ct, a4, b2, show (8 : Int32) * nI h = nI (8 * h) from nI_mul 8 h, nI_add]
  have e2 : (8 : Int32) * nI h + I 331 (nI t).toNatClampNeg = nI (8 * h + j2) := by rw [ct, a5, c2, show (8 : Int32) * nI h = nI (8 * h) from nI_mul 8 h, nI_add]
  refine And.intro vt (And.intro vt ?_)
  refine And.intro (by rw [e1]; exact inN (by omega) (by omega)) ?_
  refine And.intro vt ?_
  refine And.intro (by rw [e2]; exact inN (by omega) (by omega)) ?_
  have r1 : opF env (B t).2.1 (B t).2.2.1 = env j1 := by rw [opF, if_neg (by rw [a1]; decide), b2, nm_eq b1]
  have r2 : nmF env (B t).2.2.2.1 = env j2 := by rw [c2, nm_eq c1]
  have hX : Mx mX9_op 0 0 0 [vI (I 332 (nI t).toNatClampNeg), vI (I 348 ((8 : Int32) * nI h + I 330 (nI t).toNatClampNeg).toNatClampNeg), vI (I 348 ((8 : Int32) * nI h + I 331 (nI t).toNatClampNeg).toNatClampNeg)] g I L (qV (some (vI (rkF (B t).1 (opF env (B t).2.1 (B t).2.2.1) (nmF env (B t).2.2.2.1)))) g I L) := by
    rw [e1, e2, clN (k := 8 * h + j1) (by omega), clN (k := 8 * h + j2) (by omega), hF.1.2.1 j1 b1, hF.1.2.1 j2 c1, r1, r2, ct, a3]
    exact r_op hw hk hk8
  refine Ex_s (As := [vI (I 332 (nI t).toNatClampNeg), vI (I 348 ((8 : Int32) * nI h + I 330 (nI t).toNatClampNeg).toNatClampNeg), vI (I 348 ((8 : Int32) * nI h + I 331 (nI t).toNatClampNeg).toNatClampNeg)]) (st := []) (d' := 0) sX9_214 rfl rfl hX (by omega) rfl (dc_ok oX9_leaf rfl) ?_
  refine Ex_wx [280] 9 oX9_leaf hw ?_
  exact lf_tail hw (by omega) hS hF.2.2.2.2.2 Bl.refl hF.1.2.2.1 hF.1.2.2.2.2.1 K
theorem lf_read (H : Lf lx ly g p B cnt lim I h t env e) (hk : (B t).1 = 1) (K : Cont g L (flF p) lim Run (ansF (mE.s e) e) I h) : Mx mX9_leaf 5 0 0 [vS 328, vI (nI h)] g I L (rQ g L Run) := by
  obtain ⟨hw, hlim, hc, ht, hh, hE, hl, hsu, hT, hS, hF⟩ := H
  obtain ⟨hk1, hk2, -⟩ := hT.2 t ht
  obtain ⟨a1, a2, a3⟩ := hk2 (by omega)
  have h0 := (hw 328 _ rfl).2.1
  refine lf_head hw (by omega) hF.1.1 (by omega) hF.1.2.1 a1 a2 a3 hk1 ?_
  rw [hk]
  refine Ex_tableIn (tgt := 132) (off := 85) (dc_ok oX9_leaf rfl) (by decide) (by decide) (by decide) (by decide) ?_
  refine Ex_wx [] 9 oX9_leaf hw ?_
  refine Ex_v (As := [vI 0]) (st := []) (d' := 1) vX9_178 rfl rfl (r_isOwn hw (l := 0) rfl (by omega) (by omega)) h0 (by omega) rfl (dc_ok oX9_leaf rfl) ?_
  rw [hT.1]
  refine Ex_wx [280] 9 oX9_leaf hw ?_
  refine And.intro (fun c => ?_) (fun c => ?_)
  · have c1 : (flF p).1 = false := bI_eq c
    have hsv := hS.2.2.2.2.1 c1
    show Ex mX9_leaf 5 0 0 (rQ g L Run) 280 [some (vS 328), some (vI (nI h)), some (vI (nI t)), some (vI (I 328 29)), some (vI (I 344 h)), some (vI (I 345 h)), none] [] g I L
    rw [hsv]
    exact lf_tail hw (by omega) hS hF.2.2.2.2.2 Bl.refl hF.1.2.2.1 hF.1.2.2.2.2.1 K
  · have c1 : (flF p).1 = true := bI_ne c
    have hsv := hF.1.2.2.1 c1
    show Ex mX9_leaf 5 0 0 (rQ g L Run) 280 [some (vS 328), some (vI (nI h)), some (vI (nI t)), some (vI (I 344 h)), some (vI (I 344 h)), some (vI (I 345 h)), none] [] g I L
    rw [hsv]
    exact lf_tail hw (by omega) hS hF.2.2.2.2.2 Bl.refl (fun _ => rfl) hF.1.2.2.2.2.1 K
theorem lf_none (H : Lf lx ly g p B cnt lim I h t env e) (hk : (B t).1 = 5) (K : Cont g L (flF p) lim Run (0, [], e) I h) : Mx mX9_leaf 5 0 0 [vS 328, vI (nI h)] g I L (rQ g L Run) := by
  obtain ⟨hw, hlim, hc, ht, hh, hE, hl, hsu, hT, hS, hF⟩ := H
  obtain ⟨hk1, hk2, -⟩ := hT.2 t ht
  obtain ⟨a1, a2, a3⟩ := hk2 (by omega)
  refine lf_head hw (by omega) hF.1.1 (by omega) hF.1.2.1 a1 a2 a3 hk1 ?_
  rw [hk]
  refine Ex_tableOut (tgt := 269) (dc_ok oX9_leaf rfl) (Or.inr (by decide)) (by decide) ?_
  refine Ex_wx [] 9 oX9_leaf hw ?_
  refine ⟨rfl, rfl, rfl, ?_⟩
  rw [hS.1.1, nI_pred]
  refine K.1 rfl _ hS.high ?_ Rr.nil high_bl
  rw [up2_i (by omega)]; exact hF.2.2.2.2.2
theorem lf_write (H : Lf lx ly g p B cnt lim I h t env e) (hk : (B t).1 = 2) (K : Cont g L (flF p) lim Run (ansF (mE.s e) (setSL e (opF env (B t).2.1 (B t).2.2.1) (mE.l e))) I h) : Mx mX9_leaf 5 0 0 [vS 328, vI (nI h)] g I L (rQ g L Run) := by
  obtain ⟨hw, hlim, hc, ht, hh, hE, hl, hsu, hT, hS, hF⟩ := H
  obtain ⟨hk1, hk2, -⟩ := hT.2 t ht
  obtain ⟨a1, a2, a3⟩ := hk2 (by omega)
  have h0 := (hw 328 _ rfl).2.1
  refine lf_head hw (by omega) hF.1.1 (by omega) hF.1.2.1 a1 a2 a3 hk1 ?_
  rw [hk]
  refine Ex_tableIn (tgt := 153) (off := 106) (dc_ok oX9_leaf rfl) (by decide) (by decide) (by decide) (by decide) ?_
  refine Ex_wx [] 9 oX9_leaf hw ?_
  refine Ex_v (As := [vI 0]) (st := []) (d' := 1) vX9_178 rfl rfl (r_isOwn hw (l := 0) rfl (by omega) (by omega)) h0 (by omega) rfl (dc_ok oX9_leaf rfl) ?_
  rw [hT.1]
  refine Ex_wx [] 9 oX9_leaf hw ?_
  refine And.intro (fun c => ?_) (fun c => ?_)
  · have c1 : (flF p).1 = false := bI_eq c
    have hsv := hS.2.2.2.2.1 c1
    refine Ex_v (As := [vI 0]) (st := []) (d' := 1) vX9_178 rfl rfl (r_isOwn hw (l := 0) rfl (by omega) (by omega)) h0 (by omega) rfl (dc_ok oX9_leaf rfl) ?_
    rw [hT.1]
    refine Ex_wx [280] 9 oX9_leaf hw ?_
    refine And.intro (fun _ => ?_) (fun c2 => absurd c c2)
    rw [hsv]
    exact lf_tail hw (by omega) hS.put_s (by rw [up2_i (by omega)]; exact hF.2.2.2.2.2) (fun i k c => up2_n (by unfold kp at c; omega)) (fun q => by rw [c1] at q; cases q) hF.1.2.2.2.2.1 K
  · have c1 : (flF p).1 = true := bI_ne c
    have hsv := hF.1.2.2.1 c1
    refine Ex_v (As := [vI 0]) (st := []) (d' := 1) vX9_178 rfl rfl (r_isOwn hw (l := 0) rfl (by omega) (by omega)) h0 (by omega) rfl (dc_ok oX9_leaf rfl) ?_
    rw [hT.1]
    refine Ex_wx [280] 9 oX9_leaf hw ?_
    refine And.intro (fun c2 => absurd c2 c) (fun _ => ?_)
    rw [hsv]
    exact lf_tail hw (by omega) (hS.own_s c1) hF.2.2.2.2.2 Bl.refl (fun _ => rfl) hF.1.2.2.2.2.1 K
theorem lf_fail (H : Lf lx ly g p B cnt lim I h t env e) (hk : (B t).1 = 4) (hp : hsF p 2 = true) (K : Cont g L (flF p) lim Run (if (flF p).2.2.1 = true then (0, [(opF env (B t).2.1 (B t).2.2.1, 1, mE.s e, mE.l e)], e) else (1, [], (mE.sp e, mE.us e, mE.nu e, mE.be e, mE.le e, mE.s e, mE.l e, opF env (B t).2.1 (B t).2.2.1))) I h) : Mx mX9_leaf 5 0 0 [vS 328, vI (nI h)] g I L (rQ g L Run) := by
  obtain ⟨hw, hlim, hc, ht, hh, hE, hl, hsu, hT, hS, hF⟩ := H
  obtain ⟨hk1, hk2, -⟩ := hT.2 t ht
  obtain ⟨a1, a2, a3⟩ := hk2 (by omega)
  have h0 := (hw 328 _ rfl).2.1
  refine lf_head hw (by omega) hF.1.1 (by omega) hF.1.2.1 a1 a2 a3 hk1 ?_
  rw [hk]
  refine Ex_tableIn (tgt := 233) (off := 186) (dc_ok oX9_leaf rfl) (by decide) (by decide) (by decide) (by decide) ?_
  refine Ex_wx [] 9 oX9_leaf hw ?_
  refine Ex_v (As := [vI 2]) (st := []) (d' := 2) vX9_221 rfl rfl (r_isShared hw (l := 2) rfl (by omega) (by omega)) h0 (by omega) rfl (dc_ok oX9_leaf rfl) ?_
  rw [hT.1]
  refine Ex_wx [247] 9 oX9_leaf hw ?_
  refine And.intro (fun c => ?_) (fun c => ?_)
  · have c1 : (flF p).2.2.1 = true := by
      have := bI_eq c
      simp only [shF, hp, Bool.true_and, Bool.not_eq_false'] at this
      exact this
    rw [if_pos c1] at K
    exact lf_tailE hw (by omega) hS hF.2.2.2.2.2 Bl.refl hF.1.2.2.1 hF.1.2.2.2.2.1 K
  · have c1 : ¬ (flF p).2.2.1 = true := by
      have := bI_ne c
      simp only [shF, hp, Bool.true_and, Bool.not_eq_true'] at this
      intro q
      have q2 : owF p 2 = true := q
      rw [q2] at this
      cases this
    rw [if_neg c1] at K
    have hX : Mx mX9_unwind 4 0 0 [vS 328, vI (opF env (B t).2.1 (B t).2.2.1)] g I L (rQ g L Run) := by
      refine Mx_in (by decide +kernel) rfl rfl (Ex_bn 6 oX9_unwind hw ?_)
      show Ex mX9_unwind 4 0 0 _ 10 [some (vS 328), some (vI (opF env (B t).2.1 (B t).2.2.1)), none] [] g (up2 I 328 14 (I 328 14 - 1)) L
      rw [hS.1.1, nI_pred]
      exact K.2.1 rfl _ hS.high high_bl
    refine Ex_r (As := [vI (opF env (B t).2.1 (B t).2.2.1)]) (st := []) vX9_224 rfl rfl hX h0 (by omega) rfl (dc_ok oX9_leaf rfl) ?_
    intro I1 hP
    refine Ex_wx [] 9 oX9_leaf hw ?_
    exact ⟨rfl, rfl, rfl, hP⟩
end Leaf2
