/-! the reference: a LOG written out -/
theorem lr_nu {F : mF} {I : aI} {e : mE} {j : Nat} (h : Lr F I e) (hu : mE.us e ≤ 2001) (hj : j < mE.us e) : I 338 j = gtL (mE.nu e) (mE.us e) (nI j) ∧ I 337 j = gtL (mE.be e) (mE.us e) (nI j) := by
  unfold gtL
  by_cases h0 : j = 0
  · subst h0
    rw [if_neg (fun c => absurd c.1 (by decide)), if_neg (fun c => absurd c.1 (by decide))]
    exact ⟨h.2.1.2.1, h.2.1.1⟩
  · have c : 0 < nI j ∧ nI j < nI (mE.us e) := ⟨nI_lt (a := 0) (by omega) (by omega), nI_lt hj (by omega)⟩
    rw [if_pos c, if_pos c, clN (by omega)]
    exact ⟨(h.2.2.1 j (by omega) hj).1, (h.2.2.1 j (by omega) hj).2.1⟩
theorem dn_in {e : mE} {l : Int32} (hv : invL e) (hu : mE.us e ≤ 2001) (hl : inL (mE.us e) l) : ∀ c, inL (mE.us e) (dn (mE.be e) (mE.us e) c l)
  | 0 => hl
  | c + 1 => by
    obtain ⟨j, hj, ej⟩ := dn_in hv hu hl c
    show inL (mE.us e) (gtL (mE.be e) (mE.us e) (dn (mE.be e) (mE.us e) c l))
    rw [ej]
    unfold gtL
    by_cases h0 : j = 0
    · subst h0
      rw [if_neg (fun c => absurd c.1 (by decide))]
      exact ⟨0, hj, rfl⟩
    · rw [if_pos ⟨nI_lt (a := 0) (by omega) (by omega), nI_lt hj (by omega)⟩, clN (by omega)]
      obtain ⟨⟨j', h1, h2⟩, -⟩ := hv.1 j (by omega) hj
      exact ⟨j', by omega, h2⟩
def LwP (I : aI) (w fr n : Nat) (e : mE) (l : Int32) (I' : aI) : Prop := (∀ i, i < n → I' w (fr + i) = entL (mE.nu e) (mE.be e) (mE.us e) n l i) ∧ ∀ i k, ¬ (i = w ∧ fr ≤ k ∧ k < fr + n) → I' i k = I i k
section WLog
variable {lx ly : Nat} {g : aG} {I : aI} {L : aL} {d w fr n N : Nat} {F : mF} {e : mE} {l : Int32}
theorem r_writeLogL (hw : WS lx ly g) (hL : Lr F I e) (hv : invL e) (hus : mE.us e ≤ 2001) (hl : inL (mE.us e) l) (hA : g.2.1 w = some (.inr (.int, N))) (hw0 : 353 < w) (hN : fr + n ≤ N) (hN2 : N < 10000) {w1 : Option aV} :
    ∀ (k : Nat) (I1 : aI), k ≤ n → (∀ i, k ≤ i → i < n → I1 w (fr + i) = entL (mE.nu e) (mE.be e) (mE.us e) n l i) → (∀ i k, ¬ (i = w ∧ fr ≤ k ∧ k < fr + n) → I1 i k = I i k) →
    Ex mX9_writeLog d 0 0 (rQ g L (LwP I w fr n e l)) 13 [some (vS 328), w1, some (vD (some w)), some (vI (nI fr)), some (vI (dn (mE.be e) (mE.us e) (n - k) l)), some (vI (nI k + (-1)))] [] g I1 L := by
  intro k
  induction k with
  | zero =>
    intro I1 hk ie io
    refine Ex_wx [46, 18] 9 oX9_writeLog hw ?_
    refine And.intro (fun _ => ?_) (fun c => absurd (by decide) c)
    refine Ex_wx [] 9 oX9_writeLog hw ?_
    exact ⟨rfl, rfl, rfl, fun i hi => ie i (Nat.zero_le _) hi, io⟩
  | succ k ih =>
    intro I1 hk ie io
    have ek : nI (k + 1) + (-1) = nI k := by rw [← sub1, nI_pred]
    obtain ⟨j, hj, ej⟩ := dn_in hv hus hl (n - (k + 1))
    rw [ek, ej]
    obtain ⟨z1, z2⟩ := lr_nu hL hus hj
    refine Ex_wx [46, 18] 9 oX9_writeLog hw ?_
    refine And.intro (fun c => absurd c (nI_pos (by omega))) (fun _ => ?_)
    refine Ex_wx [13] 9 oX9_writeLog hw ?_
    refine And.intro (inN (by omega) (by omega)) ?_
    refine ⟨N, ⟨hA, by omega, by rw [nI_add]; exact inN (by omega) (by omega)⟩, ?_⟩
    refine And.intro (inN (by omega) (by omega)) ?_
    show Ex mX9_writeLog d 0 0 _ 13 [some (vS 328), w1, some (vD (some w)), some (vI (nI fr)), some (vI (up2 I1 w (nI fr + nI k).toNatClampNeg (I1 338 (nI j).toNatClampNeg) 337 (nI j).toNatClampNeg)), some (vI (nI k + (-1)))] [] g (up2 I1 w (nI fr + nI k).toNatClampNeg (I1 338 (nI j).toNatClampNeg)) L
    rw [nI_add, clN (k := j) (by omega), clN (k := fr + k) (by omega), up2_i (by omega), io 337 _ (by omega), io 338 _ (by omega), z1, z2, ← ej]
    have edn : gtL (mE.be e) (mE.us e) (dn (mE.be e) (mE.us e) (n - (k + 1)) l) = dn (mE.be e) (mE.us e) (n - k) l := by
      rw [show n - k = (n - (k + 1)) + 1 by omega]; rfl
    rw [edn]
    refine ih _ (by omega) ?_ ?_
    · intro i h1 h3
      by_cases hik : i = k
      · subst hik
        rw [up2_s]
        show _ = gtL (mE.nu e) (mE.us e) (dn (mE.be e) (mE.us e) (n - 1 - i) l)
        rw [show n - 1 - i = n - (i + 1) by omega]
      · rw [up2_k (by omega)]; exact ie i (by omega) h3
    · intro i j c
      rw [up2_n (by omega)]; exact io i j c
theorem r_writeLog (hw : WS lx ly g) (hL : Lr F I e) (hv : invL e) (hus : mE.us e ≤ 2001) (hl : inL (mE.us e) l) (hn : lenF e l = nI n) (hA : g.2.1 w = some (.inr (.int, N))) (hw0 : 353 < w) (hN : fr + n ≤ N) (hN2 : N < 10000) :
    Mx mX9_writeLog d 0 0 [vS 328, vI l, vD (some w), vI (nI fr)] g I L (rQ g L (LwP I w fr n e l)) := by
  obtain ⟨j, hj, ej⟩ := id hl
  have hlen : I 339 j = nI n := by rw [← hn, ej]; exact Sr.len (l := l) hL hus hj
  refine Mx_in (by decide +kernel) rfl rfl (Ex_bn 9 oX9_writeLog hw ?_)
  refine And.intro (by rw [ej]; exact inN (by omega) (by omega)) ?_
  show Ex mX9_writeLog d 0 0 _ 13 [some (vS 328), some (vI l), some (vD (some w)), some (vI (nI fr)), some (vI l), some (vI (I 339 l.toNatClampNeg - 1))] [] g I L
  have e9 : I 339 l.toNatClampNeg = nI n := by rw [ej, clN (by omega)]; exact hlen
  rw [e9, sub1]
  have h9 := r_writeLogL (L := L) (d := d) (w1 := some (vI l)) hw hL hv hus hl hA hw0 hN hN2 n I (Nat.le_refl _) (fun i h1 h2 => by omega) (fun _ _ _ => rfl)
  rw [Nat.sub_self] at h9
  exact h9
end WLog
