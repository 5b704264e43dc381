/-! the reference: its state against the evaluator's -/
def kp (h i k : Nat) : Prop := (340 ≤ i ∧ i ≤ 347 ∧ k < h) ∨ (i = 348 ∧ k < 8 * h) ∨ (i = 349 ∧ k < 2 * h) ∨ (350 ≤ i ∧ i ≤ 353 ∧ k < 100 * h) ∨ (i ≠ 328 ∧ (i < 337 ∨ 353 < i)) ∨ (i = 328 ∧ (k < 10 ∨ k = 32 ∨ 35 < k))
def Bl (I I' : aI) (h : Nat) : Prop := ∀ i k, kp h i k → I' i k = I i k
theorem Bl.refl {I : aI} {h : Nat} : Bl I I h := fun _ _ _ => rfl
theorem Bl.trans {I I' I'' : aI} {h : Nat} (a : Bl I I' h) (b : Bl I' I'' h) : Bl I I'' h := fun i k q => (b i k q).trans (a i k q)
theorem Bl.mono {I I' : aI} {h h' : Nat} (a : Bl I I' h) (q : h' ≤ h) : Bl I I' h' := fun i k hk => a i k (by unfold kp at hk ⊢; omega)
theorem Bl.id {I I' : aI} {h i : Nat} (a : Bl I I' h) (q : i ≠ 328 ∧ (i < 337 ∨ 353 < i)) : I' i = I i := by
  funext k
  exact a i k (by unfold kp; omega)
/-- the cells that frame h may change -/
def mt (h i k : Nat) : Prop := (341 ≤ i ∧ i ≤ 343 ∧ k = h) ∨ (i = 349 ∧ (k = 2 * h ∨ k = 2 * h + 1)) ∨ (350 ≤ i ∧ i ≤ 353 ∧ 100 * h ≤ k ∧ k < 100 * h + 100)
def At (I I' : aI) (h : Nat) : Prop := ∀ i k, ¬ mt h i k → I' i k = I i k
theorem At.refl {I : aI} {h : Nat} : At I I h := fun _ _ _ => rfl
theorem At.trans {I I' I'' : aI} {h : Nat} (a : At I I' h) (b : At I' I'' h) : At I I'' h := fun i k q => (b i k q).trans (a i k q)
theorem At.bl {I I' : aI} {h : Nat} (a : At I I' h) : Bl I I' h := fun i k hk => a i k (by unfold kp at hk; unfold mt; omega)
/-- the cells of what is told in frame h -/
def cb (h i k : Nat) : Prop := (i = 349 ∧ k = 2 * h + 1) ∨ (350 ≤ i ∧ i ≤ 353 ∧ 100 * h + 50 ≤ k ∧ k < 100 * h + 100)
theorem cb_at {I I' : aI} {h : Nat} (a : ∀ i k, ¬ cb h i k → I' i k = I i k) : At I I' h := fun i k hk => a i k (by unfold mt at hk; unfold cb; omega)
def Lr (F : mF) (I : aI) (e : mE) : Prop := I 328 10 = nI (e.us - 1) ∧ (I 337 0 = 0 ∧ I 338 0 = 0 ∧ I 339 0 = 0) ∧ (∀ k, 1 ≤ k → k < e.us → I 338 k = e.nu k ∧ I 337 k = e.be k ∧ I 339 k = e.le k) ∧ (F.1 = false → I 328 29 = e.s) ∧ (F.2.1 = false → I 328 30 = e.l)
def Sr (F : mF) (I : aI) (lim : Nat) (e : mE) (hi : Nat) : Prop := (I 328 14 = nI hi ∧ I 328 31 = nI e.sp ∧ I 328 32 = nI lim ∧ I 328 33 = 0 ∧ I 328 34 = 0 ∧ I 328 35 = 0) ∧ Lr F I e
def OutS (F : mF) (I : aI) : Prop := I 328 33 = 1 ∧ ∃ e : mE, invL e ∧ 1 ≤ e.us ∧ e.us ≤ 2001 ∧ Lr F I e
def Fr (F : mF) (I : aI) (h t : Nat) (env : Nat → Int32) (s0 l0 : Int32) : Prop := I 340 h = nI t ∧ (∀ k, k < 8 → I 348 (8 * h + k) = env k) ∧ (F.1 = true → I 344 h = s0) ∧ (F.1 = false → I 346 h = s0) ∧ (F.2.1 = true → I 345 h = l0) ∧ (F.2.1 = false → I 347 h = l0)
def Rr (F : mF) (I : aI) (b : Nat) (rs : List mR) : Prop := ∀ j r, rs[j]? = some r → I 351 (b + j) = r.1 ∧ I 350 (b + j) = r.2.1 ∧ (F.1 = true → I 352 (b + j) = r.2.2.1) ∧ (F.2.1 = true → I 353 (b + j) = r.2.2.2)
theorem Lr.eq {F : mF} {I I' : aI} {e : mE} (h : Lr F I e) (a : ∀ i k, (i = 328 ∧ (k = 10 ∨ k = 29 ∨ k = 30)) ∨ (337 ≤ i ∧ i ≤ 339) → I' i k = I i k) : Lr F I' e := by
  obtain ⟨h1, ⟨h2, h3, h4⟩, h5, h6, h7⟩ := h
  refine ⟨by rw [a _ _ (by omega)]; exact h1, ⟨by rw [a _ _ (by omega)]; exact h2, by rw [a _ _ (by omega)]; exact h3, by rw [a _ _ (by omega)]; exact h4⟩, fun k k1 k2 => ?_, fun c => ?_, fun c => ?_⟩
  · rw [a _ _ (by omega), a _ _ (by omega), a _ _ (by omega)]; exact h5 k k1 k2
  · rw [a _ _ (by omega)]; exact h6 c
  · rw [a _ _ (by omega)]; exact h7 c
theorem Sr.eq {F : mF} {I I' : aI} {lim hi : Nat} {e : mE} (h : Sr F I lim e hi) (a : ∀ i k, i = 328 ∨ (337 ≤ i ∧ i ≤ 339) → I' i k = I i k) : Sr F I' lim e hi := by
  obtain ⟨⟨h1, h2, h3, h4, h5, h6⟩, h7⟩ := h
  refine ⟨⟨?_, ?_, ?_, ?_, ?_, ?_⟩, h7.eq (fun i k q => a i k (by omega))⟩ <;> rw [a _ _ (by omega)] <;> assumption
theorem Sr.at {F : mF} {I I' : aI} {lim hi h : Nat} {e : mE} (q : Sr F I lim e hi) (a : At I I' h) : Sr F I' lim e hi := q.eq (fun i k c => a i k (by unfold mt; omega))
theorem Fr.eq {F : mF} {I I' : aI} {h t : Nat} {env : Nat → Int32} {s0 l0 : Int32} (q : Fr F I h t env s0 l0) (a : ∀ i k, (i = 340 ∨ (344 ≤ i ∧ i ≤ 347)) ∧ k = h ∨ i = 348 ∧ k < 8 * h + 8 → I' i k = I i k) : Fr F I' h t env s0 l0 := by
  obtain ⟨h1, h2, h3, h4, h5, h6⟩ := q
  refine ⟨by rw [a _ _ (by omega)]; exact h1, fun k hk => by rw [a _ _ (by omega)]; exact h2 k hk, fun c => ?_, fun c => ?_, fun c => ?_, fun c => ?_⟩
  · rw [a _ _ (by omega)]; exact h3 c
  · rw [a _ _ (by omega)]; exact h4 c
  · rw [a _ _ (by omega)]; exact h5 c
  · rw [a _ _ (by omega)]; exact h6 c
theorem Fr.at {F : mF} {I I' : aI} {h t : Nat} {env : Nat → Int32} {s0 l0 : Int32} (q : Fr F I h t env s0 l0) (a : At I I' h) : Fr F I' h t env s0 l0 := q.eq (fun i k c => a i k (by unfold mt; omega))
theorem Fr.bl {F : mF} {I I' : aI} {h t : Nat} {env : Nat → Int32} {s0 l0 : Int32} (q : Fr F I h t env s0 l0) (a : Bl I I' (h + 1)) : Fr F I' h t env s0 l0 := q.eq (fun i k c => a i k (by unfold kp; omega))
theorem Rr.eq {F : mF} {I I' : aI} {b : Nat} {rs : List mR} (q : Rr F I b rs) (a : ∀ i k, 350 ≤ i → i ≤ 353 → b ≤ k → k < b + rs.length → I' i k = I i k) : Rr F I' b rs := by
  intro j r hj
  have hl : j < rs.length := (List.getElem?_eq_some_iff.mp hj).1
  obtain ⟨h1, h2, h3, h4⟩ := q j r hj
  refine ⟨by rw [a _ _ (by omega) (by omega) (by omega) (by omega)]; exact h1, by rw [a _ _ (by omega) (by omega) (by omega) (by omega)]; exact h2, fun c => ?_, fun c => ?_⟩
  · rw [a _ _ (by omega) (by omega) (by omega) (by omega)]; exact h3 c
  · rw [a _ _ (by omega) (by omega) (by omega) (by omega)]; exact h4 c
theorem Rr.nil {F : mF} {I : aI} {b : Nat} : Rr F I b [] := fun j r h => by cases h
theorem Sr.len {F : mF} {I : aI} {e : mE} {l : Int32} (h : Lr F I e) (hu : e.us ≤ 2001) {j : Nat} (hj : j < e.us) : I 339 j = lenF e (nI j) := by
  unfold lenF gtL
  by_cases h0 : j = 0
  · subst h0
    rw [if_neg (fun c => absurd c.1 (by decide))]
    exact h.2.1.2.2
  · rw [if_pos ⟨nI_lt (a := 0) (by omega) (by omega), nI_lt hj (by omega)⟩, clN (by omega)]
    exact (h.2.2.1 j (by omega) hj).2.2
theorem tell_cb {I : aI} {h m : Nat} {er v st lg : Int32} (hm : m < 50) : ∀ i k, ¬ cb h i k → tellI I h m er v st lg i k = I i k := by
  intro i k c
  unfold cb at c
  unfold tellI
  rw [up2_n (by omega), up2_n (by omega), up2_n (by omega), up2_n (by omega), up2_n (by omega)]
theorem tell_many {I : aI} {h m : Nat} {er v st lg : Int32} : tellI I h m er v st lg 349 (2 * h + 1) = nI (m + 1) := up2_s
theorem tell_rows {F : mF} {I : aI} {h m : Nat} {er v st lg s1 l1 : Int32} {acc : List mR} (q : Rr F I (100 * h + 50) acc) (hm : acc.length = m) (hs : F.1 = true → st = s1) (hl : F.2.1 = true → lg = l1) : Rr F (tellI I h m er v st lg) (100 * h + 50) (acc ++ [(v, er, s1, l1)]) := by
  intro j r hj
  have hlen : j < (acc ++ [(v, er, s1, l1)]).length := (List.getElem?_eq_some_iff.mp hj).1
  rw [List.length_append, List.length_singleton] at hlen
  by_cases hjm : j < acc.length
  · rw [List.getElem?_append_left hjm] at hj
    obtain ⟨h1, h2, h3, h4⟩ := q j r hj
    have hn : ∀ i, 350 ≤ i → i ≤ 353 → tellI I h m er v st lg i (100 * h + 50 + j) = I i (100 * h + 50 + j) := by
      intro i h1 h2
      unfold tellI
      rw [up2_n (by omega), up2_n (by omega), up2_n (by omega), up2_n (by omega), up2_n (by omega)]
    rw [hn 351 (by omega) (by omega), hn 350 (by omega) (by omega), hn 352 (by omega) (by omega), hn 353 (by omega) (by omega)]
    exact ⟨h1, h2, h3, h4⟩
  · have : j = m := by omega
    subst this
    rw [List.getElem?_append_right (by omega), hm, Nat.sub_self] at hj
    have hr : (v, er, s1, l1) = r := Option.some.inj hj
    subst hr
    have a1 : tellI I h j er v st lg 351 (100 * h + 50 + j) = v := by
      unfold tellI
      rw [up2_i (by omega), up2_i (by omega), up2_i (by omega)]; exact up2_s
    have a2 : tellI I h j er v st lg 350 (100 * h + 50 + j) = er := by
      unfold tellI
      rw [up2_i (by omega), up2_i (by omega), up2_i (by omega), up2_i (by omega)]; exact up2_s
    have a3 : tellI I h j er v st lg 352 (100 * h + 50 + j) = st := by
      unfold tellI
      rw [up2_i (by omega), up2_i (by omega)]; exact up2_s
    have a4 : tellI I h j er v st lg 353 (100 * h + 50 + j) = lg := by
      unfold tellI
      rw [up2_i (by omega)]; exact up2_s
    rw [a1, a2, a3, a4]
    exact ⟨rfl, rfl, hs, hl⟩
def GaP (F : mF) (I : aI) (h : Nat) (acc cs : List mR) (I' : aI) : Prop :=
  (50 < (acc ++ cs).length ∧ I' 328 33 = 1 ∧ ∀ i k, ¬ cb h i k → ¬ (i = 328 ∧ k = 33) → I' i k = I i k) ∨
  ((acc ++ cs).length ≤ 50 ∧ I' 349 (2 * h + 1) = nI (acc ++ cs).length ∧ Rr F I' (100 * h + 50) (acc ++ cs) ∧ ∀ i k, ¬ cb h i k → I' i k = I i k)
section Ref2
variable {lx ly : Nat} {g : aG} {I : aI} {L : aL} {d h : Nat} {F : mF} {acc cs : List mR}
theorem r_gatherL (hw : WS lx ly g) (hh : h < 31) (hd : 2 ≤ d) (hcm : I 349 (2 * h + 3) = nI cs.length) (hc : Rr F I (100 * h + 150) cs) (hce : errR cs) (hc5 : cs.length ≤ 50) (ho : I 328 33 = 0) :
    ∀ (n j : Nat) (I1 : aI), cs.length - j = n → j ≤ cs.length → I1 349 (2 * h + 1) = nI (acc ++ cs.take j).length → (acc ++ cs.take j).length ≤ 50 → Rr F I1 (100 * h + 50) (acc ++ cs.take j) → (∀ i k, ¬ cb h i k → I1 i k = I i k) →
    Ex mX9_gather d 0 0 (rQ g L (GaP F I h acc cs)) 11 [some (vS 328), some (vI (nI h)), some (vI (nI (100 * h + 150))), some (vI (nI j))] [] g I1 L := by
  have h0 := (hw 328 _ rfl).2.1
  have e1 : (2 : Int32) * nI h + 3 = nI (2 * h + 3) := by rw [show (2 : Int32) * nI h = nI (2 * h) from nI_mul 2 h]; exact nI_add _ 3
  have v1 : vp_in ((2 : Int32) * nI h + 3) 64 := by rw [e1]; exact inN (by omega) (by omega)
  have c1 : ((2 : Int32) * nI h + 3).toNatClampNeg = 2 * h + 3 := by rw [e1]; exact clN (by omega)
  intro n
  induction n with
  | zero =>
    intro j I1 hn hj hm hm5 hr ha
    have : j = cs.length := by omega
    subst this
    rw [List.take_length] at hm hm5 hr
    refine Ex_wx [] 9 oX9_gather hw ?_
    refine And.intro v1 ?_
    rw [c1, ha 349 _ (by unfold cb; omega), hcm]
    refine And.intro (fun _ => ?_) (fun c => absurd (Int32.le_refl _) c)
    exact ⟨rfl, rfl, rfl, Or.inr ⟨hm5, hm, hr, ha⟩⟩
  | succ n ih =>
    intro j I1 hn hj hm hm5 hr ha
    have hjl : j < cs.length := by omega
    have hcj : cs[j]? = some cs[j] := List.getElem?_eq_getElem hjl
    have htk : cs.take (j + 1) = cs.take j ++ [cs[j]] := List.take_succ_eq_append_getElem hjl
    refine Ex_wx [25] 9 oX9_gather hw ?_
    refine And.intro v1 ?_
    rw [c1, ha 349 _ (by unfold cb; omega), hcm]
    refine And.intro (fun c => absurd (leN c (by omega) (by omega)) (by omega)) (fun _ => ?_)
    refine Ex_wx [] 9 oX9_gather hw ?_
    refine And.intro (fun _ => ?_) (fun c => absurd (by rw [ha 328 _ (by unfold cb; omega)]; exact ho) c)
    have e2 : nI (100 * h + 150) + nI j = nI (100 * h + 150 + j) := nI_add _ _
    have v2 : vp_in (nI (100 * h + 150) + nI j) 3200 := by rw [e2]; exact inN (by omega) (by omega)
    have c2 : (nI (100 * h + 150) + nI j).toNatClampNeg = 100 * h + 150 + j := by rw [e2]; exact clN (by omega)
    refine And.intro v2 (And.intro v2 (And.intro v2 (And.intro v2 ?_)))
    rw [c2]
    obtain ⟨r1, r2, r3, r4⟩ := hc j _ hcj
    have her : I1 350 (100 * h + 150 + j) = 0 ∨ I1 350 (100 * h + 150 + j) = 1 := by
      rw [ha 350 _ (by unfold cb; omega), r2]; exact hce _ (List.getElem_mem hjl)
    refine Ex_v (As := [vI (nI h), vI (I1 350 (100 * h + 150 + j)), vI (I1 351 (100 * h + 150 + j)), vI (I1 352 (100 * h + 150 + j)), vI (I1 353 (100 * h + 150 + j))]) (st := []) (d' := 1) vX9_203 rfl rfl (r_tell hw (by omega) hm hm5 her (by omega)) h0 (by omega) rfl (dc_ok oX9_gather rfl) ?_
    rw [ha 350 _ (by unfold cb; omega), ha 351 _ (by unfold cb; omega), ha 352 _ (by unfold cb; omega), ha 353 _ (by unfold cb; omega)]
    refine Ex_bn 2 oX9_gather hw ?_
    show Ex mX9_gather d 0 0 _ 11 [some (vS 328), some (vI (nI h)), some (vI (nI (100 * h + 150))), some (vI (nI j + 1))] [] g _ L
    rw [nI_1]
    by_cases hfull : (acc ++ cs.take j).length = 50
    · rw [if_pos hfull]
      have hlen : 50 < (acc ++ cs).length := by
        rw [List.length_append, List.length_take] at hfull
        rw [List.length_append]; omega
      have hfin : rQ g L (GaP F I h acc cs) (.inl none) g (up2 I1 328 33 1) L := by
        refine ⟨rfl, rfl, rfl, Or.inl ⟨hlen, up2_s, fun i k c1 c2 => ?_⟩⟩
        rw [up2_n (by omega)]; exact ha i k c1
      refine Ex_wx [25] 9 oX9_gather hw ?_
      refine And.intro v1 ?_
      refine And.intro (fun c => hfin) (fun c => ?_)
      refine Ex_wx [] 9 oX9_gather hw ?_
      refine And.intro (fun c => absurd c (by rw [up2_s]; decide)) (fun _ => hfin)
    · rw [if_neg hfull]
      have hlt : (acc ++ cs.take j).length < 50 := by omega
      have hap : acc ++ cs.take (j + 1) = (acc ++ cs.take j) ++ [cs[j]] := by rw [htk, List.append_assoc]
      refine ih (j + 1) _ (by omega) (by omega) ?_ ?_ ?_ ?_
      · rw [tell_many, hap, List.length_append (bs := [cs[j]]), List.length_singleton]
      · rw [hap, List.length_append (bs := [cs[j]]), List.length_singleton]; omega
      · rw [hap, r1, r2]
        exact tell_rows hr rfl r3 r4
      · intro i k c
        rw [tell_cb hlt i k c]; exact ha i k c
theorem r_gather (hw : WS lx ly g) (hh : h < 31) (hd : 2 ≤ d) (hm : I 349 (2 * h + 1) = nI acc.length) (hm5 : acc.length ≤ 50) (hr : Rr F I (100 * h + 50) acc) (hcm : I 349 (2 * h + 3) = nI cs.length) (hc : Rr F I (100 * h + 150) cs) (hce : errR cs) (hc5 : cs.length ≤ 50) (ho : I 328 33 = 0) :
    Mx mX9_gather d 0 0 [vS 328, vI (nI h)] g I L (rQ g L (GaP F I h acc cs)) := by
  have h0 := (hw 328 _ rfl).2.1
  refine Mx_in (by decide +kernel) rfl rfl (Ex_wx [] 9 oX9_gather hw ?_)
  refine Ex_v (As := [vI (nI h + 1), vI 1]) (st := []) (d' := 0) vX9_200 rfl rfl (by rw [nI_1]; exact r_row hw (l := 1) rfl) h0 (by omega) rfl (dc_ok oX9_gather rfl) ?_
  refine Ex_bn 3 oX9_gather hw ?_
  rw [show 100 * (h + 1) + 50 * 1 = 100 * h + 150 by omega]
  refine r_gatherL hw hh hd hcm hc hce hc5 ho _ 0 I rfl (Nat.zero_le _) ?_ ?_ ?_ (fun _ _ _ => rfl)
  · rw [List.take_zero, List.append_nil]; exact hm
  · rw [List.take_zero, List.append_nil]; exact hm5
  · rw [List.take_zero, List.append_nil]; exact hr
end Ref2
