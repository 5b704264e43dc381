/-! the reference: what it keeps of each RESULT -/
def KtR (I : aI) (j : Nat) (R : Nat × (Nat → Int32)) : Prop := I 356 j = R.2 0 ∧ I 355 j = R.2 1 ∧ I 357 j = R.2 2 ∧ I 358 j = R.2 3 ∧ I 359 j = R.2 4 ∧ ∀ i, i < R.1 → I 360 (60 * j + i) = R.2 (5 + i)
def cj (j i k : Nat) : Prop := (355 ≤ i ∧ i ≤ 359 ∧ k = j) ∨ (i = 360 ∧ 60 * j ≤ k ∧ k < 60 * j + 60)
def kf (w i k : Nat) : Prop := i < 354 ∨ 362 < i ∨ (i = 354 ∧ k ≠ w) ∨ (355 ≤ i ∧ i ≤ 359 ∧ ¬ (50 * w ≤ k ∧ k < 50 * w + 50)) ∨ (i = 360 ∧ ¬ (3000 * w ≤ k ∧ k < 3000 * w + 3000)) ∨ (i = 361 ∧ ¬ (6 * w ≤ k ∧ k < 6 * w + 6)) ∨ (i = 362 ∧ ¬ (60 * w ≤ k ∧ k < 60 * w + 60))
def KL (I I1 : aI) (w k : Nat) (rs : List mR) (p : Nat → Int32) (e : mE) : Prop := (∀ i c, kf w i c → I1 i c = I i c) ∧ I1 354 w = nI rs.length ∧ ∀ (j : Nat) (r : mR), j < k → rs[j]? = some r → KtR I1 (50 * w + j) (resG p e r)
theorem KtR.eq {I I' : aI} {j j' : Nat} {R : Nat × (Nat → Int32)} (h : KtR I j R) (q : ∀ i k, ¬ cj j' i k → I' i k = I i k) (hj : j ≠ j') (h6 : R.1 ≤ 60) : KtR I' j R := by
  obtain ⟨h1, h2, h3, h4, h5, h7⟩ := h
  refine ⟨?_, ?_, ?_, ?_, ?_, fun i hi => ?_⟩
  · rw [q _ _ (by unfold cj; omega)]; exact h1
  · rw [q _ _ (by unfold cj; omega)]; exact h2
  · rw [q _ _ (by unfold cj; omega)]; exact h3
  · rw [q _ _ (by unfold cj; omega)]; exact h4
  · rw [q _ _ (by unfold cj; omega)]; exact h5
  · rw [q _ _ (by unfold cj; omega)]; exact h7 i hi
theorem KL.step {I I1 I2 : aI} {w k : Nat} {rs : List mR} {p : Nat → Int32} {e : mE} {r : mR} (h : KL I I1 w k rs p e) (hw : w < 2) (hk : k < 50) (hr : rs[k]? = some r) (q : ∀ i c, ¬ cj (50 * w + k) i c → I2 i c = I1 i c) (hn : KtR I2 (50 * w + k) (resG p e r)) (h60 : ∀ r ∈ rs, (resG p e r).1 ≤ 60) : KL I I2 w (k + 1) rs p e := by
  obtain ⟨h1, h2, h3⟩ := h
  refine ⟨fun i c hc => ?_, by rw [q _ _ (by unfold cj; omega)]; exact h2, fun j r' hj hr' => ?_⟩
  · rw [q i c (by unfold kf at hc; unfold cj; omega)]; exact h1 i c hc
  · by_cases c : j = k
    · subst c
      rw [hr] at hr'
      cases hr'
      exact hn
    · exact (h3 j r' (by omega) hr').eq q (by omega) (h60 r' (List.mem_of_getElem? hr'))
section KeepL
variable {lx ly : Nat} {g : aG} {I I1 : aI} {L : aL} {d w k : Nat} {p : Nat → Int32} {e : mE} {Q : aQ} {rs : List mR} {r : mR} {v4 v5 v6 : Option aV}
theorem r_keepB (hw : WS lx ly g) (hp : I1 336 = p) (hw2 : w < 2) (hk : k < rs.length) (h50 : rs.length ≤ 50) (hr : rs[k]? = some r) (hL : Lr (flF p) I1 e) (hv : invL e) (hus : mE.us e ≤ 2001) (hRr : Rr (flF p) I1 50 rs) (herr : r.2.1 = 0 ∨ r.2.1 = 1) (hlr : inL (mE.us e) r.2.2.2) (hd : 2 ≤ d)
    (hfin : ∀ (J : aI) (u4 u5 u6 : Option aV), (∀ i c, ¬ cj (50 * w + k) i c → J i c = I1 i c) → KtR J (50 * w + k) (resG p e r) → Ex mX9_keep d 0 0 Q 34 [some (vS 328), some (vI (nI w)), some (vI (nI rs.length)), some (vI (nI (k + 1))), u4, u5, u6] [] g J L) :
    Ex mX9_keep d 0 0 Q 34 [some (vS 328), some (vI (nI w)), some (vI (nI rs.length)), some (vI (nI k)), v4, v5, v6] [] g I1 L := by
  have h0 := (hw 328 _ rfl).2.1
  have m360 := (hw 360 _ rfl).2.1
  generalize hj : 50 * w + k = j at hfin
  have hj1 : j < 100 := by omega
  generalize hbb : 50 + k = b
  have hb1 : b < 3200 := by omega
  obtain ⟨y1, y2, y3, y4⟩ := hRr k r hr
  rw [hbb] at y1 y2 y3 y4
  generalize her : erB r = er
  have herI : r.2.1 = bI er := by
    rw [← her]; unfold erB
    rcases herr with z | z <;> rw [z] <;> rfl
  generalize hbS : (owF p 0 && !(er && ouF p 0)) = bS
  generalize hbL : (owF p 1 && !(er && ouF p 1)) = bL
  obtain ⟨ln1, ln2⟩ := ln_ok (bL := bL) hv hus hlr
  have hR : resG p e r = rowG r.1 (bI er) bS r.2.2.1 bL e r.2.2.2 := by unfold resG; rw [her, hbS, hbL]
  rw [hR] at hfin
  have hoS : bS = true → owF p 0 = true := by
    intro c
    rw [c, Bool.and_eq_true] at hbS
    exact hbS.1
  have hoL : bL = true → owF p 1 = true := by
    intro c
    rw [c, Bool.and_eq_true] at hbL
    exact hbL.1
  have hp2 : ∀ J : aI, (∀ i c, ¬ cj j i c → J i c = I1 i c) → J 336 = p := fun J hJ => by rw [← hp]; funext c; exact hJ _ _ (by unfold cj; omega)
  have how : ∀ (J : aI) (l : Nat) (x : Int32), (∀ i c, ¬ cj j i c → J i c = I1 i c) → x = nI l → l < 4 → Mx mX9_isOwn 1 0 0 [vS 328, vI x] g J L (qV (some (vI (bI (owF p l)))) g J L) := by
    intro J l x hJ hx hl
    rw [← hp2 J hJ]
    exact r_isOwn hw hx hl (by omega)
  have hou : ∀ (J : aI) (l : Nat) (x : Int32), (∀ i c, ¬ cj j i c → J i c = I1 i c) → x = nI l → l < 4 → Mx mX9_isOutside 1 0 0 [vS 328, vI x] g J L (qV (some (vI (bI (ouF p l)))) g J L) := by
    intro J l x hJ hx hl
    rw [← hp2 J hJ]
    exact r_isOutside hw hx hl (by omega)
  -- to the next
  have h237 : ∀ (J : aI) (u6 : Option aV), (∀ i c, ¬ cj j i c → J i c = I1 i c) → KtR J j (rowG r.1 (bI er) bS r.2.2.1 bL e r.2.2.2) → Ex mX9_keep d 0 0 Q 237 [some (vS 328), some (vI (nI w)), some (vI (nI rs.length)), some (vI (nI k)), some (vI (nI j)), some (vI (nI b)), u6] [] g J L := by
    intro J u6 a b
    refine Ex_wx [34] 9 oX9_keep hw ?_
    show Ex mX9_keep d 0 0 Q 34 [some (vS 328), some (vI (nI w)), some (vI (nI rs.length)), some (vI (nI k + 1)), some (vI (nI j)), _, u6] [] g J L
    rw [← nI_succ]
    exact hfin J _ _ _ a b
  have h211 : ∀ (J : aI) (x : Int32), (∀ i c, ¬ cj j i c → J i c = I1 i c) → (J 356 j = r.1 ∧ J 355 j = bI er ∧ J 357 j = bI bS ∧ J 358 j = (if bS = true then r.2.2.1 else 0)) → x = (if bL = true then nI (lnF bL e r.2.2.2) else -1) →
      Ex mX9_keep d 0 0 Q 211 [some (vS 328), some (vI (nI w)), some (vI (nI rs.length)), some (vI (nI k)), some (vI (nI j)), some (vI (nI b)), some (vI (bI bL))] [vI x, vI (nI j), vS 359] g J L := by
    rintro J x a ⟨c1, c2, c3, c4⟩ rfl
    refine Ex_bn 1 oX9_keep hw ?_
    refine And.intro (inN (by omega) (by omega)) ?_
    rw [clN (by omega)]
    have hk2 : ∀ K : aI, (∀ i c, ¬ cj j i c → K i c = I1 i c) → (K 356 j = r.1 ∧ K 355 j = bI er ∧ K 357 j = bI bS ∧ K 358 j = (if bS = true then r.2.2.1 else 0) ∧ K 359 j = (if bL = true then nI (lnF bL e r.2.2.2) else -1)) →
        Ex mX9_keep d 0 0 Q 212 [some (vS 328), some (vI (nI w)), some (vI (nI rs.length)), some (vI (nI k)), some (vI (nI j)), some (vI (nI b)), some (vI (bI bL))] [] g K L := by
      rintro K a ⟨c1, c2, c3, c4, c5⟩
      refine Ex_wx [237, 217] 9 oX9_keep hw ?_
      refine And.intro (fun z => ?_) (fun z => ?_)
      · refine h237 K _ a ⟨c1, c2, c3, c4, c5, fun i hi => ?_⟩
        rw [bI_eq z] at hi
        exact absurd hi (Nat.not_lt_zero _)
      · have z1 := bI_ne z
        have eb : K 353 b = r.2.2.2 := by rw [a _ _ (by unfold cj; omega)]; exact y4 (hoL z1)
        refine Ex_wx [] 9 oX9_keep hw ?_
        refine And.intro (inN hb1 (by omega)) ?_
        have eb2 : K 353 (nI b).toNatClampNeg = r.2.2.2 := by rw [clN (by omega)]; exact eb
        have hX : Mx mX9_writeLog 0 0 0 [vS 328, vI (K 353 (nI b).toNatClampNeg), vS 360, vI (60 * nI j)] g K L (rQ g L (LwP K 360 (60 * j) (lnF bL e r.2.2.2) e r.2.2.2)) := by
          rw [eb2, show (60 : Int32) * nI j = nI (60 * j) from nI_mul 60 j]
          exact r_writeLog (F := flF p) (N := 6000) hw (hL.eq (fun i k hc => a i k (by unfold cj; omega))) hv hus hlr (ln2 z1) m360 (by omega) (by omega) (by omega)
        refine Ex_r (As := [vI (K 353 (nI b).toNatClampNeg), vS 360, vI (60 * nI j)]) (st := []) vX9_274 rfl rfl hX h0 (by omega) rfl (dc_ok oX9_keep (by decide +kernel)) ?_
        rintro I2 ⟨hP, hPf⟩
        refine h237 I2 _ (fun i c hc => ?_) ⟨?_, ?_, ?_, ?_, ?_, fun i hi => ?_⟩
        · rw [hPf i c (by unfold cj at hc; omega)]; exact a i c hc
        · rw [hPf _ _ (by omega)]; exact c1
        · rw [hPf _ _ (by omega)]; exact c2
        · rw [hPf _ _ (by omega)]; exact c3
        · rw [hPf _ _ (by omega)]; exact c4
        · rw [hPf _ _ (by omega)]; exact c5
        · rw [hP i hi, Nat.add_comm 5 i]; rfl
    refine hk2 _ (fun i c hc => ?_) ⟨?_, ?_, ?_, ?_, up2_s⟩
    · rw [up2_n (by unfold cj at hc; omega)]; exact a i c hc
    · rw [up2_i (by omega)]; exact c1
    · rw [up2_i (by omega)]; exact c2
    · rw [up2_i (by omega)]; exact c3
    · rw [up2_i (by omega)]; exact c4
  have h182 : ∀ (J : aI) (x : Int32) (u6 : Option aV), (∀ i c, ¬ cj j i c → J i c = I1 i c) → (J 356 j = r.1 ∧ J 355 j = bI er ∧ J 357 j = bI bS ∧ J 358 j = (if bS = true then r.2.2.1 else 0)) → x = bI bL →
      Ex mX9_keep d 0 0 Q 182 [some (vS 328), some (vI (nI w)), some (vI (nI rs.length)), some (vI (nI k)), some (vI (nI j)), some (vI (nI b)), u6] [vI x] g J L := by
    rintro J x u6 a c rfl
    refine Ex_wx [210, 195] 9 oX9_keep hw ?_
    refine And.intro (fun z => ?_) (fun z => ?_)
    · refine Ex_bn 1 oX9_keep hw ?_
      exact h211 J (-1) a c (by rw [bI_eq z]; rfl)
    · have z1 := bI_ne z
      have eb : J 353 (nI b).toNatClampNeg = r.2.2.2 := by rw [clN (by omega), a _ _ (by unfold cj; omega)]; exact y4 (hoL z1)
      obtain ⟨jj, hjj, ejj⟩ := hlr
      refine Ex_wx [211] 9 oX9_keep hw ?_
      refine And.intro (inN hb1 (by omega)) ?_
      refine And.intro (by rw [eb, ejj]; exact inN (by omega) (by omega)) ?_
      refine h211 J _ a c ?_
      rw [eb, if_pos z1, ← ln2 z1, ejj, clN (by omega), a _ _ (by unfold cj; omega)]
      exact Sr.len (l := 0) hL hus hjj
  have hbal : ∀ J : aI, (∀ i c, ¬ cj j i c → J i c = I1 i c) → J 350 (nI b).toNatClampNeg = bI er := fun J a => by
    rw [clN (by omega), a _ _ (by unfold cj; omega), y2]; exact herI
  have h151 : ∀ (J : aI), (∀ i c, ¬ cj j i c → J i c = I1 i c) → (J 356 j = r.1 ∧ J 355 j = bI er ∧ J 357 j = bI bS ∧ J 358 j = (if bS = true then r.2.2.1 else 0)) → ∀ u6,
      Ex mX9_keep d 0 0 Q 151 [some (vS 328), some (vI (nI w)), some (vI (nI rs.length)), some (vI (nI k)), some (vI (nI j)), some (vI (nI b)), u6] [] g J L := by
    intro J a c u6
    refine Ex_wx [] 9 oX9_keep hw ?_
    refine Ex_v (As := [vI 1]) (st := []) (d' := 1) vX9_178 rfl rfl (how J 1 1 a rfl (by omega)) h0 (by omega) rfl (dc_ok oX9_keep rfl) ?_
    refine Ex_wx [181, 159] 9 oX9_keep hw ?_
    refine And.intro (fun z => ?_) (fun z => ?_)
    · have c1 := bI_eq z
      refine Ex_bn 1 oX9_keep hw ?_
      exact h182 J 0 _ a c (by rw [← hbL, c1]; rfl)
    have c1 := bI_ne z
    refine Ex_wx [177, 169] 9 oX9_keep hw ?_
    refine And.intro (inN hb1 (by omega)) ?_
    refine And.intro (fun z => ?_) (fun z => ?_)
    · rw [hbal J a] at z
      have c2 := bI_eq z
      refine Ex_wx [182] 9 oX9_keep hw ?_
      exact h182 J 1 _ a c (by rw [← hbL, c1, c2]; rfl)
    rw [hbal J a] at z
    have c2 := bI_ne z
    refine Ex_wx [] 9 oX9_keep hw ?_
    refine Ex_v (As := [vI 1]) (st := []) (d' := 1) vX9_234 rfl rfl (hou J 1 1 a rfl (by omega)) h0 (by omega) rfl (dc_ok oX9_keep rfl) ?_
    refine Ex_wx [181, 177] 9 oX9_keep hw ?_
    refine And.intro (fun z => ?_) (fun z => ?_)
    · have c3 := bI_eq z
      refine Ex_wx [182] 9 oX9_keep hw ?_
      exact h182 J 1 _ a c (by rw [← hbL, c1, c2, c3]; rfl)
    · have c3 := bI_ne z
      refine Ex_bn 1 oX9_keep hw ?_
      exact h182 J 0 _ a c (by rw [← hbL, c1, c2, c3]; rfl)
  have h150 : ∀ (J : aI) (x : Int32), (∀ i c, ¬ cj j i c → J i c = I1 i c) → (J 356 j = r.1 ∧ J 355 j = bI er ∧ J 357 j = bI bS) → x = (if bS = true then r.2.2.1 else 0) → ∀ u6,
      Ex mX9_keep d 0 0 Q 150 [some (vS 328), some (vI (nI w)), some (vI (nI rs.length)), some (vI (nI k)), some (vI (nI j)), some (vI (nI b)), u6] [vI x, vI (nI j), vS 358] g J L := by
    rintro J x a ⟨c1, c2, c3⟩ rfl u6
    refine Ex_bn 1 oX9_keep hw ?_
    refine And.intro (inN (by omega) (by omega)) ?_
    rw [clN (by omega)]
    refine h151 _ (fun i c hc => ?_) ⟨?_, ?_, ?_, up2_s⟩ _
    · rw [up2_n (by unfold cj at hc; omega)]; exact a i c hc
    · rw [up2_i (by omega)]; exact c1
    · rw [up2_i (by omega)]; exact c2
    · rw [up2_i (by omega)]; exact c3
  have h122 : ∀ (J : aI) (x : Int32), (∀ i c, ¬ cj j i c → J i c = I1 i c) → (J 356 j = r.1 ∧ J 355 j = bI er) → x = bI bS → ∀ u6,
      Ex mX9_keep d 0 0 Q 122 [some (vS 328), some (vI (nI w)), some (vI (nI rs.length)), some (vI (nI k)), some (vI (nI j)), some (vI (nI b)), u6] [vI x, vI (nI j), vS 357] g J L := by
    rintro J x a ⟨c1, c2⟩ rfl u6
    refine Ex_bn 1 oX9_keep hw ?_
    refine And.intro ⟨inN (by omega) (by omega), bI_or bS⟩ ?_
    rw [clN (by omega)]
    have hk2 : ∀ K : aI, (∀ i c, ¬ cj j i c → K i c = I1 i c) → (K 356 j = r.1 ∧ K 355 j = bI er ∧ K 357 j = bI bS) →
        Ex mX9_keep d 0 0 Q 123 [some (vS 328), some (vI (nI w)), some (vI (nI rs.length)), some (vI (nI k)), some (vI (nI j)), some (vI (nI b)), u6] [] g K L := by
      intro K a c
      refine Ex_wx [149, 139] 9 oX9_keep hw ?_
      refine And.intro (inN (by omega) (by omega)) ?_
      refine And.intro (fun z => ?_) (fun z => ?_)
      · rw [clN (by omega), c.2.2] at z
        refine Ex_bn 1 oX9_keep hw ?_
        exact h150 K 0 a c (by rw [bI_eq z]; rfl) _
      · rw [clN (by omega), c.2.2] at z
        have z1 := bI_ne z
        refine Ex_wx [150] 9 oX9_keep hw ?_
        refine And.intro (inN hb1 (by omega)) ?_
        refine h150 K _ a c ?_ _
        rw [clN (by omega), if_pos z1, a _ _ (by unfold cj; omega)]
        exact y3 (hoS z1)
    refine hk2 _ (fun i c hc => ?_) ⟨?_, ?_, up2_s⟩
    · rw [up2_n (by unfold cj at hc; omega)]; exact a i c hc
    · rw [up2_i (by omega)]; exact c1
    · rw [up2_i (by omega)]; exact c2
  have h93 : ∀ (J : aI), (∀ i c, ¬ cj j i c → J i c = I1 i c) → (J 356 j = r.1 ∧ J 355 j = bI er) → ∀ u6,
      Ex mX9_keep d 0 0 Q 93 [some (vS 328), some (vI (nI w)), some (vI (nI rs.length)), some (vI (nI k)), some (vI (nI j)), some (vI (nI b)), u6] [vI 0, vS 328, vI (nI j), vS 357] g J L := by
    intro J a c u6
    refine Ex_v (As := [vI 0]) (st := [vI (nI j), vS 357]) (d' := 1) vX9_178 rfl rfl (how J 0 0 a rfl (by omega)) h0 (by omega) rfl (dc_ok oX9_keep rfl) ?_
    refine Ex_wx [121, 99] 9 oX9_keep hw ?_
    refine And.intro (fun z => ?_) (fun z => ?_)
    · have c1 := bI_eq z
      refine Ex_bn 1 oX9_keep hw ?_
      exact h122 J 0 a c (by rw [← hbS, c1]; rfl) _
    have c1 := bI_ne z
    refine Ex_wx [117, 109] 9 oX9_keep hw ?_
    refine And.intro (inN hb1 (by omega)) ?_
    refine And.intro (fun z => ?_) (fun z => ?_)
    · rw [hbal J a] at z
      have c2 := bI_eq z
      refine Ex_wx [122] 9 oX9_keep hw ?_
      exact h122 J 1 a c (by rw [← hbS, c1, c2]; rfl) _
    rw [hbal J a] at z
    have c2 := bI_ne z
    refine Ex_wx [] 9 oX9_keep hw ?_
    refine Ex_v (As := [vI 0]) (st := [vI (nI j), vS 357]) (d' := 1) vX9_234 rfl rfl (hou J 0 0 a rfl (by omega)) h0 (by omega) rfl (dc_ok oX9_keep rfl) ?_
    refine Ex_wx [121, 117] 9 oX9_keep hw ?_
    refine And.intro (fun z => ?_) (fun z => ?_)
    · have c3 := bI_eq z
      refine Ex_wx [122] 9 oX9_keep hw ?_
      exact h122 J 1 a c (by rw [← hbS, c1, c2, c3]; rfl) _
    · have c3 := bI_ne z
      refine Ex_bn 1 oX9_keep hw ?_
      exact h122 J 0 a c (by rw [← hbS, c1, c2, c3]; rfl) _
  refine Ex_wx [243, 39] 9 oX9_keep hw ?_
  refine And.intro (fun c => absurd c (nI_ge hk (by omega))) (fun _ => ?_)
  refine Ex_bn 6 oX9_keep hw ?_
  show Ex mX9_keep d 0 0 Q 47 [some (vS 328), some (vI (nI w)), some (vI (nI rs.length)), some (vI (nI k)), some (vI (50 * nI w + nI k)), v5, v6] [] g I1 L
  rw [show (50 : Int32) * nI w = nI (50 * w) from nI_mul 50 w, nI_add, hj]
  refine Ex_wx [] 9 oX9_keep hw ?_
  refine Ex_v (As := [vI 0, vI 1]) (st := []) (d' := 0) vX9_200 rfl rfl (r_row (h := 0) (l := 1) hw rfl) h0 (by omega) rfl (dc_ok oX9_keep rfl) ?_
  refine Ex_bn 3 oX9_keep hw ?_
  show Ex mX9_keep d 0 0 Q 57 [some (vS 328), some (vI (nI w)), some (vI (nI rs.length)), some (vI (nI k)), some (vI (nI j)), some (vI (nI 50 + nI k)), v6] [] g I1 L
  rw [nI_add, hbb]
  refine Ex_wx [] 9 oX9_keep hw ?_
  refine And.intro (inN hb1 (by omega)) ?_
  refine And.intro ⟨inN (by omega) (by omega), by rw [hbal I1 (fun _ _ _ => rfl)]; exact bI_or er⟩ ?_
  refine And.intro (inN hb1 (by omega)) ?_
  refine And.intro (inN (by omega) (by omega)) ?_
  refine h93 _ (fun i c hc => ?_) ⟨?_, ?_⟩ _
  · rw [clN (k := j) (by omega), up2_n (by unfold cj at hc; omega), up2_n (by unfold cj at hc; omega)]
  · rw [clN (k := j) (by omega), clN (k := b) (by omega), up2_s, up2_i (by omega)]; exact y1
  · rw [clN (k := j) (by omega), up2_i (by omega), up2_s]; exact hbal I1 (fun _ _ _ => rfl)
theorem r_keepL (hw : WS lx ly g) (hp : I 336 = p) (hw2 : w < 2) (h50 : rs.length ≤ 50) (hL : Lr (flF p) I e) (hv : invL e) (hus : mE.us e ≤ 2001) (hRr : Rr (flF p) I 50 rs) (herr : errR rs) (hlr : rowL (mE.us e) rs) (hd : 2 ≤ d)
    (hfin : ∀ (J : aI) (u4 u5 u6 : Option aV), KL I J w rs.length rs p e → Ex mX9_keep d 0 0 Q 243 [some (vS 328), some (vI (nI w)), some (vI (nI rs.length)), some (vI (nI rs.length)), u4, u5, u6] [] g J L) :
    ∀ (m k : Nat) (I1 : aI) (v4 v5 v6 : Option aV), k + m = rs.length → KL I I1 w k rs p e → Ex mX9_keep d 0 0 Q 34 [some (vS 328), some (vI (nI w)), some (vI (nI rs.length)), some (vI (nI k)), v4, v5, v6] [] g I1 L := by
  intro m
  induction m with
  | zero =>
    intro k I1 v4 v5 v6 hk h
    have hkk : k = rs.length := by omega
    subst hkk
    refine Ex_wx [243, 39] 9 oX9_keep hw ?_
    exact And.intro (fun _ => hfin I1 _ _ _ h) (fun c => absurd (Int32.le_refl _) c)
  | succ m ih =>
    intro k I1 v4 v5 v6 hk h
    have hkl : k < rs.length := by omega
    obtain ⟨r, hr⟩ : ∃ r, rs[k]? = some r := ⟨_, List.getElem?_eq_getElem hkl⟩
    have hm := List.mem_of_getElem? hr
    have hfr : ∀ i c, i < 354 → I1 i c = I i c := fun i c hi => h.1 i c (Or.inl hi)
    refine r_keepB (r := r) hw (by rw [← hp]; funext c; exact hfr _ _ (by omega)) hw2 hkl h50 hr (hL.eq (fun i c hc => hfr i c (by omega))) hv hus (hRr.eq (fun i c _ _ _ _ => hfr i c (by omega))) (herr r hm) (hlr r hm) hd ?_
    intro J u4 u5 u6 hJ hK
    exact ih (k + 1) J u4 u5 u6 (by omega) (h.step hw2 (by omega) hr hJ hK (fun r' hr' => (ln_ok hv hus (hlr r' hr')).1))
end KeepL
