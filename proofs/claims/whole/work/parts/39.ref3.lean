/-! the reference: turn, longer, push -/
def ct (h i k : Nat) : Prop := (i = 349 ∧ (k = 2 * h ∨ k = 2 * h + 1)) ∨ (i = 342 ∧ k = h) ∨ (350 ≤ i ∧ i ≤ 353 ∧ 100 * h ≤ k ∧ k < 100 * h + 50)
theorem ct_at {I I' : aI} {h : Nat} (a : ∀ i k, ¬ ct h i k → I' i k = I i k) : At I I' h := fun i k hk => a i k (by unfold mt at hk; unfold ct; omega)
def TuP (I : aI) (h m : Nat) (I' : aI) : Prop := I' 349 (2 * h) = nI m ∧ I' 349 (2 * h + 1) = 0 ∧ I' 342 h = 0 ∧ (∀ i j, 350 ≤ i → i ≤ 353 → j < m → I' i (100 * h + j) = I i (100 * h + 50 + j)) ∧ ∀ i k, ¬ ct h i k → I' i k = I i k
section Ref3
variable {lx ly : Nat} {g : aG} {I : aI} {L : aL} {d h m : Nat} {F : mF}
theorem r_turnL (hw : WS lx ly g) (hh : h < 32) (hm5 : m ≤ 50) (he : ∀ j, j < m → I 350 (100 * h + 50 + j) = 0 ∨ I 350 (100 * h + 50 + j) = 1) :
    ∀ (n j : Nat) (I1 : aI), m - j = n → j ≤ m → I1 349 (2 * h) = nI m → (∀ i k, 350 ≤ i → i ≤ 353 → k < j → I1 i (100 * h + k) = I i (100 * h + 50 + k)) → (∀ i k, ¬ (i = 349 ∧ k = 2 * h) → ¬ (350 ≤ i ∧ i ≤ 353 ∧ 100 * h ≤ k ∧ k < 100 * h + 50) → I1 i k = I i k) →
    Ex mX9_turn d 0 0 (rQ g L (TuP I h m)) 35 [some (vS 328), some (vI (nI h)), some (vI (nI (100 * h))), some (vI (nI (100 * h + 50))), some (vI (nI j))] [] g I1 L := by
  have e1 : (2 : Int32) * nI h = nI (2 * h) := nI_mul 2 h
  have v1 : vp_in ((2 : Int32) * nI h) 64 := by rw [e1]; exact inN (by omega) (by omega)
  have c1 : ((2 : Int32) * nI h).toNatClampNeg = 2 * h := by rw [e1]; exact clN (by omega)
  have e3 : (2 : Int32) * nI h + 1 = nI (2 * h + 1) := by rw [e1, nI_1]
  have v3 : vp_in ((2 : Int32) * nI h + 1) 64 := by rw [e3]; exact inN (by omega) (by omega)
  have c3 : ((2 : Int32) * nI h + 1).toNatClampNeg = 2 * h + 1 := by rw [e3]; exact clN (by omega)
  intro n
  induction n with
  | zero =>
    intro j I1 hn hj hm hc ha
    have : j = m := by omega
    subst this
    refine Ex_wx [126] 9 oX9_turn hw ?_
    refine And.intro v1 ?_
    rw [c1, hm]
    refine And.intro (fun _ => ?_) (fun c => absurd (Int32.le_refl _) c)
    refine Ex_wx [] 9 oX9_turn hw ?_
    refine And.intro v3 ?_
    refine And.intro (inN hh (by omega)) ?_
    refine ⟨rfl, rfl, rfl, ?_, ?_, ?_, ?_, ?_⟩
    · rw [c3, up2_i (by omega), up2_k (by omega)]; exact hm
    · rw [c3, up2_i (by omega)]; exact up2_s
    · rw [clN (by omega)]; exact up2_s
    · intro i k h1 h2 h3
      rw [up2_i (by omega), up2_i (by omega)]; exact hc i k h1 h2 h3
    · intro i k c
      unfold ct at c
      rw [clN (by omega), c3, up2_n (by omega), up2_n (by omega)]
      exact ha i k (by omega) (by omega)
  | succ n ih =>
    intro j I1 hn hj hm hc ha
    have hjm : j < m := by omega
    refine Ex_wx [35] 9 oX9_turn hw ?_
    refine And.intro v1 ?_
    rw [c1, hm]
    refine And.intro (fun c => absurd (leN c (by omega) (by omega)) (by omega)) (fun _ => ?_)
    have ea : nI (100 * h) + nI j = nI (100 * h + j) := nI_add _ _
    have va : vp_in (nI (100 * h) + nI j) 3200 := by rw [ea]; exact inN (by omega) (by omega)
    have ca : (nI (100 * h) + nI j).toNatClampNeg = 100 * h + j := by rw [ea]; exact clN (by omega)
    have eb : nI (100 * h + 50) + nI j = nI (100 * h + 50 + j) := nI_add _ _
    have vb : vp_in (nI (100 * h + 50) + nI j) 3200 := by rw [eb]; exact inN (by omega) (by omega)
    have cb : (nI (100 * h + 50) + nI j).toNatClampNeg = 100 * h + 50 + j := by rw [eb]; exact clN (by omega)
    have q : ∀ i, 350 ≤ i → i ≤ 353 → I1 i (100 * h + 50 + j) = I i (100 * h + 50 + j) := fun i h1 h2 => ha i _ (by omega) (by omega)
    refine And.intro vb ?_
    refine And.intro ⟨va, by rw [cb, q 350 (by omega) (by omega)]; exact he j hjm⟩ ?_
    refine And.intro vb (And.intro va ?_)
    refine And.intro vb (And.intro va ?_)
    refine And.intro vb (And.intro va ?_)
    rw [ca, cb]
    show Ex mX9_turn d 0 0 _ 35 [some (vS 328), some (vI (nI h)), some (vI (nI (100 * h))), some (vI (nI (100 * h + 50))), some (vI (nI j + 1))] [] g (up2 (up2 (up2 (up2 I1 350 (100 * h + j) (I1 350 (100 * h + 50 + j))) 351 (100 * h + j) (up2 I1 350 (100 * h + j) (I1 350 (100 * h + 50 + j)) 351 (100 * h + 50 + j))) 352 (100 * h + j) (up2 (up2 I1 350 (100 * h + j) (I1 350 (100 * h + 50 + j))) 351 (100 * h + j) (up2 I1 350 (100 * h + j) (I1 350 (100 * h + 50 + j)) 351 (100 * h + 50 + j)) 352 (100 * h + 50 + j))) 353 (100 * h + j) (up2 (up2 (up2 I1 350 (100 * h + j) (I1 350 (100 * h + 50 + j))) 351 (100 * h + j) (up2 I1 350 (100 * h + j) (I1 350 (100 * h + 50 + j)) 351 (100 * h + 50 + j))) 352 (100 * h + j) (up2 (up2 I1 350 (100 * h + j) (I1 350 (100 * h + 50 + j))) 351 (100 * h + j) (up2 I1 350 (100 * h + j) (I1 350 (100 * h + 50 + j)) 351 (100 * h + 50 + j)) 352 (100 * h + 50 + j)) 353 (100 * h + 50 + j))) L
    have u1 : up2 I1 350 (100 * h + j) (I1 350 (100 * h + 50 + j)) 351 (100 * h + 50 + j) = I1 351 (100 * h + 50 + j) := up2_i (by omega)
    rw [u1]
    have u2 : up2 (up2 I1 350 (100 * h + j) (I1 350 (100 * h + 50 + j))) 351 (100 * h + j) (I1 351 (100 * h + 50 + j)) 352 (100 * h + 50 + j) = I1 352 (100 * h + 50 + j) := by rw [up2_i (by omega), up2_i (by omega)]
    rw [u2]
    have u3 : up2 (up2 (up2 I1 350 (100 * h + j) (I1 350 (100 * h + 50 + j))) 351 (100 * h + j) (I1 351 (100 * h + 50 + j))) 352 (100 * h + j) (I1 352 (100 * h + 50 + j)) 353 (100 * h + 50 + j) = I1 353 (100 * h + 50 + j) := by rw [up2_i (by omega), up2_i (by omega), up2_i (by omega)]
    rw [u3, nI_1, q 350 (by omega) (by omega), q 351 (by omega) (by omega), q 352 (by omega) (by omega), q 353 (by omega) (by omega)]
    refine ih (j + 1) _ (by omega) (by omega) ?_ ?_ ?_
    · rw [up2_i (by omega), up2_i (by omega), up2_i (by omega), up2_i (by omega)]; exact hm
    · intro i k h1 h2 h3
      by_cases hkj : k = j
      · subst hkj
        have h4 : i = 350 ∨ i = 351 ∨ i = 352 ∨ i = 353 := by omega
        rcases h4 with rfl | rfl | rfl | rfl
        · rw [up2_i (by omega), up2_i (by omega), up2_i (by omega)]; exact up2_s
        · rw [up2_i (by omega), up2_i (by omega)]; exact up2_s
        · rw [up2_i (by omega)]; exact up2_s
        · exact up2_s
      · rw [up2_k (by omega), up2_k (by omega), up2_k (by omega), up2_k (by omega)]
        exact hc i k h1 h2 (by omega)
    · intro i k h1 h2
      rw [up2_n (by omega), up2_n (by omega), up2_n (by omega), up2_n (by omega)]
      exact ha i k h1 h2
theorem r_turn (hw : WS lx ly g) (hh : h < 32) (hd : 1 ≤ d) (hm : I 349 (2 * h + 1) = nI m) (hm5 : m ≤ 50) (he : ∀ j, j < m → I 350 (100 * h + 50 + j) = 0 ∨ I 350 (100 * h + 50 + j) = 1) : Mx mX9_turn d 0 0 [vS 328, vI (nI h)] g I L (rQ g L (TuP I h m)) := by
  have h0 := (hw 328 _ rfl).2.1
  have e1 : (2 : Int32) * nI h = nI (2 * h) := nI_mul 2 h
  have v1 : vp_in ((2 : Int32) * nI h) 64 := by rw [e1]; exact inN (by omega) (by omega)
  have c1 : ((2 : Int32) * nI h).toNatClampNeg = 2 * h := by rw [e1]; exact clN (by omega)
  have e3 : (2 : Int32) * nI h + 1 = nI (2 * h + 1) := by rw [e1, nI_1]
  have v3 : vp_in ((2 : Int32) * nI h + 1) 64 := by rw [e3]; exact inN (by omega) (by omega)
  have c3 : ((2 : Int32) * nI h + 1).toNatClampNeg = 2 * h + 1 := by rw [e3]; exact clN (by omega)
  refine Mx_in (by decide +kernel) rfl rfl (Ex_wx [] 9 oX9_turn hw ?_)
  refine Ex_v (As := [vI (nI h), vI 0]) (st := []) (d' := 0) vX9_200 rfl rfl (r_row hw (l := 0) rfl) h0 hd rfl (dc_ok oX9_turn rfl) ?_
  refine Ex_wx [] 9 oX9_turn hw ?_
  refine Ex_v (As := [vI (nI h), vI 1]) (st := []) (d' := 0) vX9_200 rfl rfl (r_row hw (l := 1) rfl) h0 hd rfl (dc_ok oX9_turn rfl) ?_
  refine Ex_bn 17 oX9_turn hw ?_
  refine And.intro v3 (And.intro v1 ?_)
  show Ex mX9_turn d 0 0 _ 35 [some (vS 328), some (vI (nI h)), some (vI (nI (100 * h + 50 * 0))), some (vI (nI (100 * h + 50 * 1))), some (vI (nI 0))] [] g (up2 I 349 ((2 : Int32) * nI h).toNatClampNeg (I 349 ((2 : Int32) * nI h + 1).toNatClampNeg)) L
  rw [c1, c3, hm, Nat.mul_zero, Nat.mul_one, Nat.add_zero]
  refine r_turnL hw hh hm5 he _ 0 _ rfl (Nat.zero_le _) up2_s (fun i k _ _ h => by omega) ?_
  intro i k h1 h2
  exact up2_n (by omega)
def longI (I : aI) (us : Nat) (lg v n : Int32) : aI := up2 (up2 (up2 (up2 I 328 10 (nI us)) 337 us lg) 338 us v) 339 us n
theorem r_longer {e : mE} {j : Nat} {v : Int32} (hw : WS lx ly g) (hL : Lr F I e) (hi : invL e) (hu1 : 1 ≤ e.us) (hu : e.us ≤ 2000) (hj : j < e.us) : Mx mX9_longer d 0 0 [vS 328, vI (nI j), vI v] g I L (qV (some (vI (if lenF e (nI j) = 60 then nI j else nI e.us))) g (if lenF e (nI j) = 60 then up2 I 328 33 1 else longI I e.us (nI j) v (lenF e (nI j) + 1)) L) := by
  have hlen := Sr.len (l := 0) hL (by omega) hj
  refine Mx_in (by decide +kernel) rfl rfl (Ex_wx [18] 9 oX9_longer hw ?_)
  refine And.intro (inN (by omega) (by omega)) ?_
  rw [clN (by omega), hlen]
  refine And.intro (fun c => ?_) (fun c => ?_)
  · rw [if_pos c, if_pos c]
    exact ⟨Or.inr rfl, rfl, rfl, rfl, rfl⟩
  · rw [if_neg c, if_neg c]
    refine Ex_bn 6 oX9_longer hw ?_
    have e1 : I 328 10 + 1 = nI e.us := by
      rw [hL.1, nI_1]; congr 1; omega
    show Ex mX9_longer d 0 0 _ 28 [some (vS 328), some (vI (nI j)), some (vI v)] [] g (up2 I 328 10 (I 328 10 + 1)) L
    rw [e1]
    refine Ex_wx [] 9 oX9_longer hw ?_
    have v1 : vp_in (nI e.us) 2002 := inN (by omega) (by omega)
    have c1 : (nI e.us).toNatClampNeg = e.us := clN (by omega)
    have a1 : up2 I 328 10 (nI e.us) 328 10 = nI e.us := up2_s
    have a2 : ∀ k w, up2 (up2 I 328 10 (nI e.us)) 337 k w 328 10 = nI e.us := fun k w => by rw [up2_i (by omega)]; exact a1
    have a3 : ∀ k w k' w', up2 (up2 (up2 I 328 10 (nI e.us)) 337 k w) 338 k' w' 328 10 = nI e.us := fun k w k' w' => by rw [up2_i (by omega)]; exact a2 k w
    have a4 : ∀ k w k' w' k'' w'', up2 (up2 (up2 (up2 I 328 10 (nI e.us)) 337 k w) 338 k' w') 339 k'' w'' 328 10 = nI e.us := fun k w k' w' k'' w'' => by rw [up2_i (by omega)]; exact a3 k w k' w'
    have a5 : ∀ k w k' w', up2 (up2 (up2 I 328 10 (nI e.us)) 337 k w) 338 k' w' 339 j = lenF e (nI j) := fun k w k' w' => by rw [up2_i (by omega), up2_i (by omega), up2_i (by omega)]; exact hlen
    refine And.intro (by rw [a1]; exact v1) ?_
    refine And.intro (by rw [a2]; exact v1) ?_
    refine And.intro (inN (by omega) (by omega)) ?_
    refine And.intro (by rw [a3]; exact v1) ?_
    refine ⟨?_, rfl, ?_, rfl⟩
    · rw [a4]
    · rw [a3, a2, a1, c1, clN (by omega), a5]
      rfl
end Ref3
