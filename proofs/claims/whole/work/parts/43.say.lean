/-! the reference's leaves: say -/
theorem OutS.eq {F : mF} {I I' : aI} (h : OutS F I) (a : ∀ i k, (i = 328 ∧ (k = 10 ∨ k = 29 ∨ k = 30 ∨ k = 33)) ∨ (337 ≤ i ∧ i ≤ 339) → I' i k = I i k) : OutS F I' := by
  obtain ⟨h1, e, h2, h3, h4, h5⟩ := h
  exact ⟨by rw [a _ _ (by omega)]; exact h1, e, h2, h3, h4, h5.eq (fun i k c => a i k (by omega))⟩
section Say
variable {lx ly : Nat} {g : aG} {I I1 : aI} {L : aL} {p : Nat → Int32} {B : mB} {cnt lim h t : Nat} {Run : aI → Prop} {env : Nat → Int32} {e : mE} {F : mF} {v st lg : Int32} {w : Option aV}
theorem lf_tailO (hw : WS lx ly g) (hh : h < 32) (hO : OutS F I1) (hm : I1 349 (2 * h + 1) = 0) (hB : Bl I I1 0) (K : ∀ I', OutS F I' → Bl I I' 0 → Run I') : Ex mX9_leaf 5 0 0 (rQ g L Run) 280 [some (vS 328), some (vI (nI h)), some (vI (nI t)), some (vI v), some (vI st), some (vI lg), w] [] g I1 L := by
  have h0 := (hw 328 _ rfl).2.1
  refine Ex_wx [] 9 oX9_leaf hw ?_
  refine Ex_v (As := [vI (nI h), vI 0, vI v, vI st, vI lg]) (st := []) (d' := 1) vX9_203 rfl rfl (r_tell (m := 0) hw hh hm (by omega) (Or.inl rfl) (by omega)) h0 (by omega) rfl (dc_ok oX9_leaf rfl) ?_
  rw [if_neg (by decide)]
  refine Ex_wx [] 9 oX9_leaf hw ?_
  have hA : At I1 (tellI I1 h 0 0 v st lg) h := cb_at (tell_cb (by omega))
  refine ⟨rfl, rfl, rfl, K _ ?_ ?_⟩
  · refine hO.eq (fun i k c => ?_)
    rw [up2_n (by omega)]; exact hA i k (by unfold mt; omega)
  · exact (hB.trans (hA.bl.mono (Nat.zero_le _))).trans high_bl
theorem lf_say (H : Lf lx ly g p B cnt lim I h t env e) (hk : (B t).1 = 3) (K : Cont g L (flF p) lim Run (if 60 < lenF e (mE.l e) + 1 then (2, [], e) else ansF (opF env (B t).2.1 (B t).2.2.1) (sayF e (opF env (B t).2.1 (B t).2.2.1))) I h) : Mx mX9_leaf 5 0 0 [vS 328, vI (nI h)] g I L (rQ g L Run) := by
  obtain ⟨hw, hlim, hc, ht, hh, hE, hl, hsu, hT, hS, hF⟩ := H
  obtain ⟨hk1, hk2, -⟩ := hT.2 t ht
  obtain ⟨a1, a2, a3⟩ := hk2 (by omega)
  have h0 := (hw 328 _ rfl).2.1
  have hu1 : 1 ≤ mE.us e := hE.1
  have hu : mE.us e ≤ 2000 := by have := hE.2.2; omega
  obtain ⟨n, hn, hle⟩ := lenF_ok hl (by omega) hl.2
  have hiff : lenF e (mE.l e) = 60 ↔ 60 < lenF e (mE.l e) + 1 := by
    rw [hle, nI_1]
    constructor
    · intro c
      have := eqN (b := 60) c (by omega) (by omega)
      exact nI_lt (a := 60) (by omega) (by omega)
    · intro c
      have := ltN (a := 60) c (by omega) (by omega)
      rw [show n = 60 by omega]; rfl
  obtain ⟨j, hj, hjl⟩ := hl.2
  have hX := r_longer (L := L) (d := 0) (v := opF env (B t).2.1 (B t).2.2.1) hw hS.2 hl hu1 hu hj
  rw [← hjl] at hX
  refine lf_head hw (by omega) hF.1.1 (by omega) hF.1.2.1 a1 a2 a3 hk1 ?_
  rw [hk]
  refine Ex_tableIn (tgt := 197) (off := 150) (dc_ok oX9_leaf rfl) (by decide) (by decide) (by decide) (by decide) ?_
  refine Ex_wx [] 9 oX9_leaf hw ?_
  refine Ex_v (As := [vI 1]) (st := []) (d' := 1) vX9_178 rfl rfl (r_isOwn hw (l := 1) rfl (by omega) (by omega)) h0 (by omega) rfl (dc_ok oX9_leaf rfl) ?_
  rw [hT.1]
  refine Ex_wx [] 9 oX9_leaf hw ?_
  by_cases c60 : lenF e (mE.l e) = 60
  · rw [if_pos (hiff.mp c60)] at K
    rw [if_pos c60, if_pos c60] at hX
    have hO : OutS (flF p) (up2 I 328 33 1) := hS.out up2_s (fun i k c => up2_n (by omega)) hl hE hlim
    refine And.intro (fun c => ?_) (fun c => ?_)
    · have c1 : (flF p).2.1 = false := bI_eq c
      have hsv := hS.2.2.2.2.2 c1
      refine Ex_v (As := [vI (I 328 30), vI (opF env (B t).2.1 (B t).2.2.1)]) (st := [vS 328]) (d' := 0) vX9_218 rfl rfl (by rw [hsv]; exact hX) h0 (by omega) rfl (dc_ok oX9_leaf rfl) ?_
      refine Ex_wx [280] 9 oX9_leaf hw ?_
      refine lf_tailO hw (by omega) ?_ ?_ ?_ (K.2.2 rfl)
      · refine hO.eq (fun i k c => ?_)
        by_cases ck : i = 328 ∧ k = 30
        · rw [ck.1, ck.2, up2_s, up2_k (by omega)]; exact hsv.symm
        · rw [up2_n (by omega)]
      · rw [up2_i (by omega), up2_i (by omega)]; exact hF.2.2.2.2.2
      · intro i k c
        unfold kp at c
        rw [up2_n (by omega), up2_n (by omega)]
    · have c1 : (flF p).2.1 = true := bI_ne c
      have hsv := hF.1.2.2.2.2.1 c1
      refine Ex_v (As := [vI (I 345 h), vI (opF env (B t).2.1 (B t).2.2.1)]) (st := []) (d' := 0) vX9_218 rfl rfl (by rw [hsv]; exact hX) h0 (by omega) rfl (dc_ok oX9_leaf rfl) ?_
      refine Ex_wx [280] 9 oX9_leaf hw ?_
      refine lf_tailO hw (by omega) hO ?_ ?_ (K.2.2 rfl)
      · rw [up2_i (by omega)]; exact hF.2.2.2.2.2
      · intro i k c
        unfold kp at c
        rw [up2_n (by omega)]
  · rw [if_neg (fun q => c60 (hiff.mpr q))] at K
    rw [if_neg c60, if_neg c60] at hX
    refine And.intro (fun c => ?_) (fun c => ?_)
    · have c1 : (flF p).2.1 = false := bI_eq c
      have hsv := hS.2.2.2.2.2 c1
      refine Ex_v (As := [vI (I 328 30), vI (opF env (B t).2.1 (B t).2.2.1)]) (st := [vS 328]) (d' := 0) vX9_218 rfl rfl (by rw [hsv]; exact hX) h0 (by omega) rfl (dc_ok oX9_leaf rfl) ?_
      refine Ex_wx [280] 9 oX9_leaf hw ?_
      refine lf_tail hw (by omega) (hS.sayS hu1) ?_ ?_ hF.1.2.2.1 (fun q => by rw [c1] at q; cases q) K
      · rw [up2_i (by omega), long_else (by omega)]; exact hF.2.2.2.2.2
      · intro i k c
        unfold kp at c
        rw [up2_n (by omega), long_else (by omega)]
    · have c1 : (flF p).2.1 = true := bI_ne c
      have hsv := hF.1.2.2.2.2.1 c1
      refine Ex_v (As := [vI (I 345 h), vI (opF env (B t).2.1 (B t).2.2.1)]) (st := []) (d' := 0) vX9_218 rfl rfl (by rw [hsv]; exact hX) h0 (by omega) rfl (dc_ok oX9_leaf rfl) ?_
      refine Ex_wx [280] 9 oX9_leaf hw ?_
      refine lf_tail hw (by omega) (hS.say hu1 c1) ?_ ?_ hF.1.2.2.1 (fun _ => rfl) K
      · rw [long_else (by omega)]; exact hF.2.2.2.2.2
      · intro i k c
        unfold kp at c
        rw [long_else (by omega)]
end Say
