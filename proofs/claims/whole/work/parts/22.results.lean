/-! Results, Math -/
section Res
variable {lx ly : Nat} {g : aG} {I : aI} {L : aL} {d t k : Nat}
theorem e_max {x y : Int32} (hw : WS lx ly g) : Mx mJ9_max_7cf53 d 0 0 [vI x, vI y] g I L (qV (some (vI (if x < y then y else x))) g I L) := by
  refine Mx_inF (by decide +kernel) rfl rfl rfl (Ex_wx [] 9 oJ9_max_7cf53 hw ?_)
  refine And.intro (fun c => ?_) (fun c => ?_)
  · exact ⟨by rw [if_pos c], rfl, rfl, rfl⟩
  · exact ⟨by rw [if_neg c], rfl, rfl, rfl⟩
theorem e_min {x y : Int32} (hw : WS lx ly g) : Mx mJ9_min_7cf53 d 0 0 [vI x, vI y] g I L (qV (some (vI (if y < x then y else x))) g I L) := by
  refine Mx_inF (by decide +kernel) rfl rfl rfl (Ex_wx [] 9 oJ9_min_7cf53 hw ?_)
  refine And.intro (fun c => ?_) (fun c => ?_)
  · exact ⟨by rw [if_pos c], rfl, rfl, rfl⟩
  · exact ⟨by rw [if_neg c], rfl, rfl, rfl⟩
theorem e5_size (hw : WS lx ly g) : Mx mX5_size d 0 0 [vS 4] g I L (qV (some (vI (I 4 4))) g I L) := by
  refine Mx_in (by decide +kernel) rfl rfl (Ex_blk oX5_size hw ?_)
  exact ⟨rfl, rfl, rfl, rfl⟩
theorem e5_has (hw : WS lx ly g) (ht : I 4 4 = nI t) (h3 : t ≤ 3100) (hk : k < t) : Mx mX5_has d 0 0 [vS 4, vI (nI k)] g I L (qV (some (vI 1)) g I L) := by
  refine Mx_in (by decide +kernel) rfl rfl (Ex_wx [] 9 oX5_has hw ?_)
  refine And.intro (fun c => absurd c (nI_pos (by omega))) (fun _ => ?_)
  refine And.intro (fun c => absurd (leN (ht ▸ c) (by omega) (by omega)) (by omega)) (fun _ => ?_)
  refine And.intro (fun c => absurd (leN (a := 3100) c (by omega) (by omega)) (by omega)) (fun _ => ?_)
  exact ⟨Or.inr rfl, rfl, rfl, rfl, rfl⟩
theorem e5_numberOf (hw : WS lx ly g) (ht : I 4 4 = nI t) (h3 : t ≤ 3100) (hk : k < t) (hd : 1 ≤ d) : Mx mX5_numberOf d 0 0 [vS 4, vI (nI k)] g I L (qV (some (vI (I 5 k))) g I L) := by
  refine Mx_in (by decide +kernel) rfl rfl (Ex_wx [] 9 oX5_numberOf hw ?_)
  refine Ex_v (As := [vI (nI k)]) (st := []) (d' := 0) vX5_29 rfl rfl (e5_has hw ht h3 hk) (hw 4 _ rfl).2.1 hd rfl (dc_ok oX5_numberOf rfl) ?_
  refine Ex_wx [] 9 oX5_numberOf hw ?_
  refine And.intro (fun c => absurd c (by decide)) (fun _ => ?_)
  refine And.intro (inN (by omega) (by omega)) ?_
  exact ⟨by rw [clN (by omega)], rfl, rfl, rfl⟩
theorem e5_stateOf (hw : WS lx ly g) (ht : I 4 4 = nI t) (h3 : t ≤ 3100) (hk : k < t) (hd : 1 ≤ d) : Mx mX5_stateOf d 0 0 [vS 4, vI (nI k)] g I L (qV (some (vI (I 7 k))) g I L) := by
  refine Mx_in (by decide +kernel) rfl rfl (Ex_wx [] 9 oX5_stateOf hw ?_)
  refine Ex_v (As := [vI (nI k)]) (st := []) (d' := 0) vX5_29 rfl rfl (e5_has hw ht h3 hk) (hw 4 _ rfl).2.1 hd rfl (dc_ok oX5_stateOf rfl) ?_
  refine Ex_wx [] 9 oX5_stateOf hw ?_
  refine And.intro (fun c => absurd c (by decide)) (fun _ => ?_)
  refine And.intro (inN (by omega) (by omega)) ?_
  exact ⟨by rw [clN (by omega)], rfl, rfl, rfl⟩
theorem e5_logOf (hw : WS lx ly g) (ht : I 4 4 = nI t) (h3 : t ≤ 3100) (hk : k < t) (hd : 1 ≤ d) : Mx mX5_logOf d 0 0 [vS 4, vI (nI k)] g I L (qV (some (vI (I 8 k))) g I L) := by
  refine Mx_in (by decide +kernel) rfl rfl (Ex_wx [] 9 oX5_logOf hw ?_)
  refine Ex_v (As := [vI (nI k)]) (st := []) (d' := 0) vX5_29 rfl rfl (e5_has hw ht h3 hk) (hw 4 _ rfl).2.1 hd rfl (dc_ok oX5_logOf rfl) ?_
  refine Ex_wx [] 9 oX5_logOf hw ?_
  refine And.intro (fun c => absurd c (by decide)) (fun _ => ?_)
  refine And.intro (inN (by omega) (by omega)) ?_
  exact ⟨by rw [clN (by omega)], rfl, rfl, rfl⟩
theorem e5_isError (hw : WS lx ly g) (ht : I 4 4 = nI t) (h3 : t ≤ 3100) (hk : k < t) (hd : 1 ≤ d) : Mx mX5_isError d 0 0 [vS 4, vI (nI k)] g I L (qV (some (vI (bz (I 6 k)))) g I L) := by
  refine Mx_in (by decide +kernel) rfl rfl (Ex_wx [] 9 oX5_isError hw ?_)
  refine Ex_v (As := [vI (nI k)]) (st := []) (d' := 0) vX5_29 rfl rfl (e5_has hw ht h3 hk) (hw 4 _ rfl).2.1 hd rfl (dc_ok oX5_isError rfl) ?_
  refine Ex_wx [] 9 oX5_isError hw ?_
  refine And.intro (fun c => absurd c (by decide)) (fun _ => ?_)
  refine And.intro (inN (by omega) (by omega)) ?_
  refine And.intro (fun c => ?_) (fun c => ?_)
  · rw [clN (by omega)] at c
    exact ⟨Or.inl rfl, by simp [bz, c], rfl, rfl, rfl⟩
  · rw [clN (by omega)] at c
    exact ⟨Or.inr rfl, by simp [bz, c], rfl, rfl, rfl⟩
theorem e5_setNumber {x : Int32} (hw : WS lx ly g) (ht : I 4 4 = nI t) (h3 : t ≤ 3100) (hk : k < t) (hd : 1 ≤ d) : Mx mX5_setNumber d 0 0 [vS 4, vI (nI k), vI x] g I L (qV none g (up2 I 5 k x) L) := by
  refine Mx_in (by decide +kernel) rfl rfl (Ex_wx [] 9 oX5_setNumber hw ?_)
  refine Ex_v (As := [vI (nI k)]) (st := []) (d' := 0) vX5_29 rfl rfl (e5_has hw ht h3 hk) (hw 4 _ rfl).2.1 hd rfl (dc_ok oX5_setNumber rfl) ?_
  refine Ex_wx [] 9 oX5_setNumber hw ?_
  refine And.intro (fun c => absurd c (by decide)) (fun _ => ?_)
  refine And.intro (inN (by omega) (by omega)) ?_
  exact ⟨rfl, rfl, by rw [clN (by omega)], rfl⟩
theorem e5_setState {x : Int32} (hw : WS lx ly g) (ht : I 4 4 = nI t) (h3 : t ≤ 3100) (hk : k < t) (hd : 1 ≤ d) : Mx mX5_setState d 0 0 [vS 4, vI (nI k), vI x] g I L (qV none g (up2 I 7 k x) L) := by
  refine Mx_in (by decide +kernel) rfl rfl (Ex_wx [] 9 oX5_setState hw ?_)
  refine Ex_v (As := [vI (nI k)]) (st := []) (d' := 0) vX5_29 rfl rfl (e5_has hw ht h3 hk) (hw 4 _ rfl).2.1 hd rfl (dc_ok oX5_setState rfl) ?_
  refine Ex_wx [] 9 oX5_setState hw ?_
  refine And.intro (fun c => absurd c (by decide)) (fun _ => ?_)
  refine And.intro (inN (by omega) (by omega)) ?_
  exact ⟨rfl, rfl, by rw [clN (by omega)], rfl⟩
theorem e5_setLog {x : Int32} (hw : WS lx ly g) (ht : I 4 4 = nI t) (h3 : t ≤ 3100) (hk : k < t) (hd : 1 ≤ d) : Mx mX5_setLog d 0 0 [vS 4, vI (nI k), vI x] g I L (qV none g (up2 I 8 k x) L) := by
  refine Mx_in (by decide +kernel) rfl rfl (Ex_wx [] 9 oX5_setLog hw ?_)
  refine Ex_v (As := [vI (nI k)]) (st := []) (d' := 0) vX5_29 rfl rfl (e5_has hw ht h3 hk) (hw 4 _ rfl).2.1 hd rfl (dc_ok oX5_setLog rfl) ?_
  refine Ex_wx [] 9 oX5_setLog hw ?_
  refine And.intro (fun c => absurd c (by decide)) (fun _ => ?_)
  refine And.intro (inN (by omega) (by omega)) ?_
  exact ⟨rfl, rfl, by rw [clN (by omega)], rfl⟩
/-- the heap with one more RESULT -/
def pushI (I : aI) (t : Nat) (x e s l : Int32) : aI := up2 (up2 (up2 (up2 (up2 I 5 t x) 6 t e) 7 t s) 8 t l) 4 4 (nI (t + 1))
theorem e5_push {x e s l : Int32} (hw : WS lx ly g) (ht : I 4 4 = nI t) (h3 : t < 3100) (he : e = 0 ∨ e = 1) : Mx mX5_push d 0 0 [vS 4, vI x, vI e, vI s, vI l] g I L (qV (some (vI 1)) g (pushI I t x e s l) L) := by
  refine Mx_in (by decide +kernel) rfl rfl (Ex_wx [19] 9 oX5_push hw ?_)
  refine And.intro (fun c => absurd (ht ▸ c) (nI_pos (by omega))) (fun _ => ?_)
  refine And.intro (fun c => ?_) (fun c => absurd (ht ▸ nI_lt (a := t) (b := 3100) (by omega) (by omega)) c)
  refine Ex_wx [] 9 oX5_push hw ?_
  have q5 : (I 4 4).toNatClampNeg = t := by rw [ht]; exact clN (by omega)
  have qi : vp_in (I 4 4) 3100 := by rw [ht]; exact inN (by omega) (by omega)
  refine And.intro qi ?_
  refine And.intro ⟨qi, he⟩ ?_
  refine And.intro qi ?_
  refine And.intro qi ?_
  refine ⟨Or.inr rfl, rfl, rfl, ?_, rfl⟩
  show up2 (up2 (up2 (up2 (up2 I 5 (I 4 4).toNatClampNeg x) 6 (I 4 4).toNatClampNeg e) 7 (I 4 4).toNatClampNeg s) 8 (I 4 4).toNatClampNeg l) 4 4 (I 4 4 + 1) = _
  rw [q5, ht, nI_1]
  rfl
theorem e5_pushAgain (hw : WS lx ly g) (ht : I 4 4 = nI t) (h3 : t < 3100) (hk : k < t) (hd : 2 ≤ d) : Mx mX5_pushAgain d 0 0 [vS 4, vI (nI k)] g I L (qV (some (vI 1)) g (pushI I t (I 5 k) (bz (I 6 k)) (I 7 k) (I 8 k)) L) := by
  have h4 := (hw 4 _ rfl).2.1
  refine Mx_in (by decide +kernel) rfl rfl (Ex_wx [] 9 oX5_pushAgain hw ?_)
  refine Ex_v (As := [vI (nI k)]) (st := [vS 4]) (d' := 1) vX5_35 rfl rfl (e5_numberOf hw ht (by omega) hk (by omega)) h4 (by omega) rfl (dc_ok oX5_pushAgain rfl) ?_
  refine Ex_wx [] 9 oX5_pushAgain hw ?_
  refine Ex_v (As := [vI (nI k)]) (st := [vI (I 5 k), vS 4]) (d' := 1) vX5_39 rfl rfl (e5_isError hw ht (by omega) hk (by omega)) h4 (by omega) rfl (dc_ok oX5_pushAgain rfl) ?_
  refine Ex_wx [] 9 oX5_pushAgain hw ?_
  refine Ex_v (As := [vI (nI k)]) (st := [vI (bz (I 6 k)), vI (I 5 k), vS 4]) (d' := 1) vX5_42 rfl rfl (e5_stateOf hw ht (by omega) hk (by omega)) h4 (by omega) rfl (dc_ok oX5_pushAgain rfl) ?_
  refine Ex_wx [] 9 oX5_pushAgain hw ?_
  refine Ex_v (As := [vI (nI k)]) (st := [vI (I 7 k), vI (bz (I 6 k)), vI (I 5 k), vS 4]) (d' := 1) vX5_45 rfl rfl (e5_logOf hw ht (by omega) hk (by omega)) h4 (by omega) rfl (dc_ok oX5_pushAgain rfl) ?_
  refine Ex_v (As := [vI (I 5 k), vI (bz (I 6 k)), vI (I 7 k), vI (I 8 k)]) (st := []) (d' := 1) vX5_48 rfl rfl (e5_push hw ht h3 (bz_or _)) h4 (by omega) rfl (dc_ok oX5_pushAgain rfl) ?_
  refine Ex_wx [] 9 oX5_pushAgain hw ?_
  exact ⟨Or.inr rfl, rfl, rfl, rfl, rfl⟩
theorem e5_cutTo (hw : WS lx ly g) (ht : I 4 4 = nI t) (h3 : t ≤ 3100) (hk : k ≤ t) : Mx mX5_cutTo d 0 0 [vS 4, vI (nI k)] g I L (qV none g (up2 I 4 4 (nI k)) L) := by
  refine Mx_in (by decide +kernel) rfl rfl (Ex_wx [] 9 oX5_cutTo hw ?_)
  refine And.intro (fun c => absurd c (nI_pos (by omega))) (fun _ => ?_)
  refine And.intro (fun c => ?_) (fun c => ?_)
  · have h5 := leN (ht ▸ c) (by omega) (by omega)
    have h6 : k = t := by omega
    exact ⟨rfl, rfl, by rw [up2_self (by rw [ht, h6])], rfl⟩
  · exact ⟨rfl, rfl, rfl, rfl⟩
end Res
