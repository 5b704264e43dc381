/-! the reference: push -/
theorem up2_x {J : aI} {i k m : Nat} {w : Int32} (h : i ≠ 328) : up2 J i k w 328 m = J 328 m := up2_i (fun q => h q.symm)
def Fresh (F : mF) (I : aI) (h t : Nat) (env : Nat → Int32) (s0 l0 : Int32) : Prop := Fr F I h t env s0 l0 ∧ I 341 h = 0 ∧ I 342 h = 0 ∧ I 343 h = 0 ∧ I 349 (2 * h) = 0 ∧ I 349 (2 * h + 1) = 0
def PushP (F : mF) (I : aI) (lim : Nat) (e : mE) (hi t : Nat) (env : Nat → Int32) (I' : aI) : Prop :=
  (lim ≤ mE.sp e ∧ I' 328 33 = 1 ∧ ∀ i k, ¬ (i = 328 ∧ k = 33) → I' i k = I i k) ∨
  (mE.sp e < lim ∧ Sr F I' lim ((mE.sp e + 1, e.2) : mE) (hi + 1) ∧ Fresh F I' hi t env (mE.s e) (mE.l e) ∧ Bl I I' hi)
section Push
variable {lx ly : Nat} {g : aG} {I : aI} {L : aL} {d hi t lim : Nat} {F : mF} {fr n v st lg : Int32} {src : Nat → Int32} {e : mE} {Q : aQ}
theorem r_pushL (hw : WS lx ly g) (hh : hi < 32) (h14 : I 328 14 = nI hi) (hf : (fr = -1 ∧ ∀ k, src k = 0) ∨ ∃ h, h < hi ∧ fr = nI h ∧ ∀ k, k < 8 → I 348 (8 * h + k) = src k)
    (K : ∀ I1 : aI, (∀ j, j < 8 → I1 348 (8 * hi + j) = src j) → (∀ i m, ¬ (i = 348 ∧ 8 * hi ≤ m ∧ m < 8 * hi + 8) → I1 i m = I i m) → Ex mX9_push d 0 0 Q 79 [some (vS 328), some (vI (nI t)), some (vI fr), some (vI n), some (vI v), some (vI st), some (vI lg), some (vI (nI 8))] [] g I1 L) :
    ∀ (c k : Nat) (I1 : aI), 8 - k = c → k ≤ 8 → (∀ j, j < k → I1 348 (8 * hi + j) = src j) → (∀ i m, ¬ (i = 348 ∧ 8 * hi ≤ m ∧ m < 8 * hi + 8) → I1 i m = I i m) → Ex mX9_push d 0 0 Q 30 [some (vS 328), some (vI (nI t)), some (vI fr), some (vI n), some (vI v), some (vI st), some (vI lg), some (vI (nI k))] [] g I1 L := by
  intro c
  induction c with
  | zero =>
    intro k I1 hc hk ha hb
    have : k = 8 := by omega
    subst this
    refine Ex_wx [79] 9 oX9_push hw ?_
    refine And.intro (fun _ => K I1 ha hb) (fun c => absurd (Int32.le_refl _) c)
  | succ c ih =>
    intro k I1 hc hk ha hb
    have q14 : I1 328 14 = nI hi := by rw [hb _ _ (by omega)]; exact h14
    have e1 : (8 : Int32) * I1 328 14 + nI k = nI (8 * hi + k) := by rw [q14, show (8 : Int32) * nI hi = nI (8 * hi) from nI_mul 8 hi, nI_add]
    have v1 : vp_in ((8 : Int32) * I1 328 14 + nI k) 256 := by rw [e1]; exact inN (by omega) (by omega)
    have c1 : ((8 : Int32) * I1 328 14 + nI k).toNatClampNeg = 8 * hi + k := by rw [e1]; exact clN (by omega)
    have fin : ∀ w : Int32, w = src k → Ex mX9_push d 0 0 Q 30 [some (vS 328), some (vI (nI t)), some (vI fr), some (vI n), some (vI v), some (vI st), some (vI lg), some (vI (nI k + 1))] [] g (up2 I1 348 ((8 : Int32) * I1 328 14 + nI k).toNatClampNeg w) L := by
      intro w hwv
      rw [c1, nI_1]
      refine ih (k + 1) _ (by omega) (by omega) ?_ ?_
      · intro j hj
        by_cases hjk : j = k
        · subst hjk; rw [up2_s]; exact hwv
        · rw [up2_k (by omega)]; exact ha j (by omega)
      · intro i m hm
        rw [up2_n (by omega)]; exact hb i m hm
    refine Ex_wx [30] 9 oX9_push hw ?_
    refine And.intro (fun c => absurd (leN (a := 8) c (by omega) (by omega)) (by omega)) (fun _ => ?_)
    rcases hf with ⟨rfl, hs⟩ | ⟨h, hhi, rfl, hs⟩
    · refine And.intro (fun _ => ?_) (fun c => absurd rfl c)
      refine And.intro v1 ?_
      exact fin 0 (hs k).symm
    · refine And.intro (fun c => ?_) (fun _ => ?_)
      · exact absurd (by rw [c]; decide : nI h < 0) (nI_pos (by omega))
      · have e2 : (8 : Int32) * nI h + nI k = nI (8 * h + k) := by rw [show (8 : Int32) * nI h = nI (8 * h) from nI_mul 8 h, nI_add]
        refine And.intro (by rw [e2]; exact inN (by omega) (by omega)) ?_
        refine And.intro v1 ?_
        exact fin _ (by rw [e2, clN (by omega), hb _ _ (by omega)]; exact hs k (by omega))
theorem r_pushT {env : Nat → Int32} {I2 : aI} (hw : WS lx ly g) (hh : hi < 32) (hS : Sr F I lim e hi) (hsp : mE.sp e < lim) (hs : F.1 = true → st = mE.s e) (hl : F.2.1 = true → lg = mE.l e)
    (ha : ∀ j, j < 8 → I2 348 (8 * hi + j) = env j) (hb : ∀ i m, ¬ (i = 348 ∧ 8 * hi ≤ m ∧ m < 8 * hi + 8) → I2 i m = up2 I 328 31 (nI (mE.sp e + 1)) i m) {w : Option aV} :
    Ex mX9_push d 0 0 (rQ g L (PushP F I lim e hi t env)) 100 [some (vS 328), some (vI (nI t)), some (vI fr), some (vI n), some (vI v), some (vI st), some (vI lg), w] [] g I2 L := by
  obtain ⟨⟨s1, s2, s3, s4, s5, s6⟩, l1, l2, l3, l4, l5⟩ := hS
  have q14 : I2 328 14 = nI hi := by rw [hb _ _ (by omega), up2_k (by omega)]; exact s1
  have hc : (nI hi).toNatClampNeg = hi := clN (by omega)
  have hv : vp_in (nI hi) 32 := inN hh (by omega)
  have e1 : (2 : Int32) * nI hi = nI (2 * hi) := nI_mul 2 hi
  have hv2 : vp_in (nI (2 * hi)) 64 := inN (by omega) (by omega)
  have hc2 : (nI (2 * hi)).toNatClampNeg = 2 * hi := clN (by omega)
  have hv3 : vp_in (nI (2 * hi + 1)) 64 := inN (by omega) (by omega)
  have hc3 : (nI (2 * hi + 1)).toNatClampNeg = 2 * hi + 1 := clN (by omega)
  refine Ex_wx [] 9 oX9_push hw ?_
  refine And.intro (by rw [q14]; exact hv) ?_
  refine And.intro (by simp only [up2_x (i := 340) (by decide)]; rw [q14]; exact hv) ?_
  refine And.intro (by simp only [up2_x (i := 340) (by decide), up2_x (i := 341) (by decide)]; rw [q14]; exact hv) ?_
  refine And.intro (by simp only [up2_x (i := 340) (by decide), up2_x (i := 341) (by decide), up2_x (i := 342) (by decide)]; rw [q14]; exact hv) ?_
  refine And.intro (by simp only [up2_x (i := 340) (by decide), up2_x (i := 341) (by decide), up2_x (i := 342) (by decide), up2_x (i := 343) (by decide)]; rw [q14]; exact hv) ?_
  refine And.intro (by simp only [up2_x (i := 340) (by decide), up2_x (i := 341) (by decide), up2_x (i := 342) (by decide), up2_x (i := 343) (by decide), up2_x (i := 344) (by decide)]; rw [q14]; exact hv) ?_
  refine And.intro (by simp only [up2_x (i := 340) (by decide), up2_x (i := 341) (by decide), up2_x (i := 342) (by decide), up2_x (i := 343) (by decide), up2_x (i := 344) (by decide), up2_x (i := 345) (by decide)]; rw [q14]; exact hv) ?_
  refine And.intro (by simp only [up2_x (i := 340) (by decide), up2_x (i := 341) (by decide), up2_x (i := 342) (by decide), up2_x (i := 343) (by decide), up2_x (i := 344) (by decide), up2_x (i := 345) (by decide), up2_x (i := 346) (by decide)]; rw [q14]; exact hv) ?_
  refine And.intro (by simp only [up2_x (i := 340) (by decide), up2_x (i := 341) (by decide), up2_x (i := 342) (by decide), up2_x (i := 343) (by decide), up2_x (i := 344) (by decide), up2_x (i := 345) (by decide), up2_x (i := 346) (by decide), up2_x (i := 347) (by decide)]; rw [q14, e1]; exact hv2) ?_
  refine And.intro (by simp only [up2_x (i := 340) (by decide), up2_x (i := 341) (by decide), up2_x (i := 342) (by decide), up2_x (i := 343) (by decide), up2_x (i := 344) (by decide), up2_x (i := 345) (by decide), up2_x (i := 346) (by decide), up2_x (i := 347) (by decide), up2_x (i := 349) (by decide)]; rw [q14, e1, nI_1]; exact hv3) ?_
  refine ⟨rfl, rfl, rfl, Or.inr ?_⟩
  simp only [up2_x (i := 340) (by decide), up2_x (i := 341) (by decide), up2_x (i := 342) (by decide), up2_x (i := 343) (by decide), up2_x (i := 344) (by decide), up2_x (i := 345) (by decide), up2_x (i := 346) (by decide), up2_x (i := 347) (by decide), up2_x (i := 349) (by decide), q14, e1, nI_1, hc, hc2, hc3]
  have q29 : I2 328 29 = I 328 29 := by rw [hb _ _ (by omega), up2_k (by omega)]
  have q30 : I2 328 30 = I 328 30 := by rw [hb _ _ (by omega), up2_k (by omega)]
  rw [q29, q30]
  have ot : ∀ i k, ¬ (340 ≤ i ∧ i ≤ 347 ∧ k = hi) → ¬ (i = 349 ∧ (k = 2 * hi ∨ k = 2 * hi + 1)) → ¬ (i = 328 ∧ k = 14) → up2 (up2 (up2 (up2 (up2 (up2 (up2 (up2 (up2 (up2 (up2 I2 340 hi (nI t)) 341 hi 0) 342 hi 0) 343 hi 0) 344 hi st) 345 hi lg) 346 hi (I 328 29)) 347 hi (I 328 30)) 349 (2 * hi) 0) 349 (2 * hi + 1) 0) 328 14 (nI (hi + 1)) i k = I2 i k := by
    intro i k h1 h2 h3
    rw [up2_n (by omega), up2_n (by omega), up2_n (by omega), up2_n (by omega), up2_n (by omega), up2_n (by omega), up2_n (by omega), up2_n (by omega), up2_n (by omega), up2_n (by omega), up2_n (by omega)]
  refine ⟨hsp, ?_, ?_, ?_⟩
  · refine ⟨⟨up2_s, ?_, ?_, ?_, ?_, ?_⟩, ?_⟩
    · rw [ot _ _ (by omega) (by omega) (by omega), hb _ _ (by omega)]; exact up2_s
    · rw [ot _ _ (by omega) (by omega) (by omega), hb _ _ (by omega), up2_k (by omega)]; exact s3
    · rw [ot _ _ (by omega) (by omega) (by omega), hb _ _ (by omega), up2_k (by omega)]; exact s4
    · rw [ot _ _ (by omega) (by omega) (by omega), hb _ _ (by omega), up2_k (by omega)]; exact s5
    · rw [ot _ _ (by omega) (by omega) (by omega), hb _ _ (by omega), up2_k (by omega)]; exact s6
    · refine Lr.eq (I := I) (e := ((mE.sp e + 1, e.2) : mE)) ⟨l1, l2, l3, l4, l5⟩ ?_
      intro i k c
      rw [ot _ _ (by omega) (by omega) (by omega), hb _ _ (by omega), up2_n (by omega)]
  · refine ⟨⟨?_, ?_, ?_, ?_, ?_, ?_⟩, ?_, ?_, ?_, ?_, ?_⟩
    · rw [up2_i (by omega), up2_i (by omega), up2_i (by omega), up2_i (by omega), up2_i (by omega), up2_i (by omega), up2_i (by omega), up2_i (by omega), up2_i (by omega), up2_i (by omega)]; exact up2_s
    · intro k hk
      rw [ot _ _ (by omega) (by omega) (by omega)]; exact ha k hk
    · intro c
      rw [up2_i (by omega), up2_i (by omega), up2_i (by omega), up2_i (by omega), up2_i (by omega), up2_i (by omega), up2_s]; exact hs c
    · intro c
      rw [up2_i (by omega), up2_i (by omega), up2_i (by omega), up2_i (by omega), up2_s]; exact l4 c
    · intro c
      rw [up2_i (by omega), up2_i (by omega), up2_i (by omega), up2_i (by omega), up2_i (by omega), up2_s]; exact hl c
    · intro c
      rw [up2_i (by omega), up2_i (by omega), up2_i (by omega), up2_s]; exact l5 c
    · rw [up2_i (by omega), up2_i (by omega), up2_i (by omega), up2_i (by omega), up2_i (by omega), up2_i (by omega), up2_i (by omega), up2_i (by omega), up2_i (by omega)]; exact up2_s
    · rw [up2_i (by omega), up2_i (by omega), up2_i (by omega), up2_i (by omega), up2_i (by omega), up2_i (by omega), up2_i (by omega), up2_i (by omega)]; exact up2_s
    · rw [up2_i (by omega), up2_i (by omega), up2_i (by omega), up2_i (by omega), up2_i (by omega), up2_i (by omega), up2_i (by omega)]; exact up2_s
    · rw [up2_i (by omega), up2_k (by omega)]; exact up2_s
    · rw [up2_i (by omega)]; exact up2_s
  · intro i k hk
    unfold kp at hk
    rw [ot _ _ (by omega) (by omega) (by omega), hb _ _ (by omega), up2_n (by omega)]
theorem r_push (hw : WS lx ly g) (hh : hi < 32) (hS : Sr F I lim e hi) (hspl : mE.sp e ≤ lim) (hlim : lim ≤ 2000) (hf : (fr = -1 ∧ ∀ k, src k = 0) ∨ ∃ h, h < hi ∧ fr = nI h ∧ ∀ k, k < 8 → I 348 (8 * h + k) = src k) (hn : n = -1 ∨ ∃ j, j < 8 ∧ n = nI j) (hs : F.1 = true → st = mE.s e) (hl : F.2.1 = true → lg = mE.l e) :
    Mx mX9_push d 0 0 [vS 328, vI (nI t), vI fr, vI n, vI v, vI st, vI lg] g I L (rQ g L (PushP F I lim e hi t (upE src n v))) := by
  have s1 := hS.1.1
  have s2 := hS.1.2.1
  have s3 := hS.1.2.2.1
  refine Mx_in (by decide +kernel) rfl rfl (Ex_wx [17] 9 oX9_push hw ?_)
  refine And.intro (fun c => ?_) (fun c => ?_)
  · rw [s2, s3] at c
    have := eqN c (by omega) (by omega)
    refine ⟨Or.inr rfl, rfl, rfl, rfl, Or.inl ⟨by omega, up2_s, fun i k h => up2_n (by omega)⟩⟩
  · rw [s2, s3] at c
    have hlt : mE.sp e < lim := by
      rcases Nat.lt_or_ge (mE.sp e) lim with h | h
      · exact h
      · exact absurd (by rw [show mE.sp e = lim by omega]) c
    refine Ex_bn 8 oX9_push hw ?_
    show Ex mX9_push d 0 0 _ 30 [some (vS 328), some (vI (nI t)), some (vI fr), some (vI n), some (vI v), some (vI st), some (vI lg), some (vI (nI 0))] [] g (up2 I 328 31 (I 328 31 + 1)) L
    rw [s2, nI_1]
    refine r_pushL (I := up2 I 328 31 (nI (mE.sp e + 1))) (src := src) hw hh (by rw [up2_k (by omega)]; exact s1) ?_ ?_ 8 0 _ rfl (by omega) (fun j hj => by omega) (fun _ _ _ => rfl)
    · rcases hf with h | ⟨h, h1, h2, h3⟩
      · exact Or.inl h
      · exact Or.inr ⟨h, h1, h2, fun k hk => by rw [up2_i (by omega)]; exact h3 k hk⟩
    · intro I1 ha hb
      rcases hn with rfl | ⟨j, hj, rfl⟩
      · refine Ex_wx [100] 9 oX9_push hw ?_
        refine And.intro (fun _ => ?_) (fun c => absurd rfl c)
        exact r_pushT hw hh hS hlt hs hl (fun j hj => by rw [ha j hj, upE, if_neg (by decide)]) hb
      · refine Ex_wx [100, 84] 9 oX9_push hw ?_
        refine And.intro (fun c => ?_) (fun c => ?_)
        · exact absurd (by rw [c]; decide : nI j < 0) (nI_pos (by omega))
        · have q14 : I1 328 14 = nI hi := by rw [hb _ _ (by omega), up2_k (by omega)]; exact s1
          have e1 : (8 : Int32) * I1 328 14 + nI j = nI (8 * hi + j) := by rw [q14, show (8 : Int32) * nI hi = nI (8 * hi) from nI_mul 8 hi, nI_add]
          refine Ex_bn 10 oX9_push hw ?_
          refine And.intro (by rw [e1]; exact inN (by omega) (by omega)) ?_
          show Ex mX9_push d 0 0 _ 100 [some (vS 328), some (vI (nI t)), some (vI fr), some (vI (nI j)), some (vI v), some (vI st), some (vI lg), some (vI (nI 8))] [] g (up2 I1 348 ((8 : Int32) * I1 328 14 + nI j).toNatClampNeg v) L
          rw [e1, clN (by omega)]
          refine r_pushT hw hh hS hlt hs hl ?_ ?_
          · intro k hk
            rw [upE, if_pos (nm_ok hj), clN (by omega), up1]
            by_cases hkj : k = j
            · subst hkj; rw [if_pos rfl]; exact up2_s
            · rw [if_neg hkj, up2_k (by omega)]; exact ha k hk
          · intro i m hm
            rw [up2_n (by omega)]; exact hb i m hm
end Push
