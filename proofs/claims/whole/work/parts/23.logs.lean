/-! Logs -/
def gtL (f : Nat → Int32) (us : Nat) (l : Int32) : Int32 := if 0 < l ∧ l < nI us then f l.toNatClampNeg else 0
section Lgs
variable {lx ly : Nat} {g : aG} {I : aI} {L : aL} {d us : Nat} {l x : Int32}
theorem e2_clear (hw : WS lx ly g) : Mx mX2_clear d 0 0 [vS 9] g I L (qV none g (up2 I 9 3 1) L) := by
  refine Mx_in (by decide +kernel) rfl rfl (Ex_wx [] 9 oX2_clear hw ?_)
  exact ⟨rfl, rfl, rfl, rfl⟩
theorem e2_has (hw : WS lx ly g) (hu : I 9 3 = nI us) (h2 : us ≤ 2001) : Mx mX2_has d 0 0 [vS 9, vI l] g I L (qV (some (vI (if 0 < l ∧ l < nI us then 1 else 0))) g I L) := by
  refine Mx_in (by decide +kernel) rfl rfl (Ex_wx [] 9 oX2_has hw ?_)
  refine And.intro (fun c => ?_) (fun c => ?_)
  · exact ⟨Or.inl rfl, by rw [if_neg (fun h => Int32.not_lt.mpr c h.1)], rfl, rfl, rfl⟩
  refine And.intro (fun c2 => ?_) (fun c2 => ?_)
  · exact ⟨Or.inl rfl, by rw [if_neg (fun h => Int32.not_lt.mpr (hu ▸ c2) h.2)], rfl, rfl, rfl⟩
  refine And.intro (fun c3 => ?_) (fun c3 => ?_)
  · exfalso
    have h1 : l < nI us := by rw [hu] at c2; exact Int32.not_le.mp c2
    have h3 : nI 2001 ≤ l := c3
    have h4 : nI 2001 < nI us := Int32.lt_of_le_of_lt h3 h1
    exact absurd (ltN h4 (by omega) (by omega)) (by omega)
  · exact ⟨Or.inr rfl, by rw [if_pos ⟨Int32.not_le.mp c, by rw [hu] at c2; exact Int32.not_le.mp c2⟩], rfl, rfl, rfl⟩
theorem in_log (h2 : us ≤ 2001) (h : 0 < l ∧ l < nI us) : vp_in l 2001 := by
  refine vp_in_iff.mpr ?_
  have h1 := Int32.lt_iff_toInt_lt.mp h.1
  have h3 := Int32.lt_iff_toInt_lt.mp h.2
  rw [nI_toInt (by omega)] at h3
  simp only [Int32.toInt_zero] at h1
  omega
theorem e2_lengthOf (hw : WS lx ly g) (hu : I 9 3 = nI us) (h2 : us ≤ 2001) (hd : 1 ≤ d) : Mx mX2_lengthOf d 0 0 [vS 9, vI l] g I L (qV (some (vI (gtL (I 12) us l))) g I L) := by
  refine Mx_in (by decide +kernel) rfl rfl (Ex_wx [] 9 oX2_lengthOf hw ?_)
  refine Ex_v (As := [vI l]) (st := []) (d' := 0) vX2_25 rfl rfl (e2_has hw hu h2) (hw 9 _ rfl).2.1 hd rfl (dc_ok oX2_lengthOf rfl) ?_
  by_cases h : 0 < l ∧ l < nI us
  · rw [if_pos h]
    refine Ex_wx [] 9 oX2_lengthOf hw ?_
    refine And.intro (fun c => absurd c (by decide)) (fun _ => ?_)
    refine And.intro (in_log h2 h) ?_
    exact ⟨by unfold gtL; rw [if_pos h], rfl, rfl, rfl⟩
  · rw [if_neg h]
    refine Ex_wx [] 9 oX2_lengthOf hw ?_
    refine And.intro (fun c => ?_) (fun c => absurd rfl c)
    exact ⟨by unfold gtL; rw [if_neg h], rfl, rfl, rfl⟩
theorem e2_lastOf (hw : WS lx ly g) (hu : I 9 3 = nI us) (h2 : us ≤ 2001) (hd : 1 ≤ d) : Mx mX2_lastOf d 0 0 [vS 9, vI l] g I L (qV (some (vI (gtL (I 10) us l))) g I L) := by
  refine Mx_in (by decide +kernel) rfl rfl (Ex_wx [] 9 oX2_lastOf hw ?_)
  refine Ex_v (As := [vI l]) (st := []) (d' := 0) vX2_25 rfl rfl (e2_has hw hu h2) (hw 9 _ rfl).2.1 hd rfl (dc_ok oX2_lastOf rfl) ?_
  by_cases h : 0 < l ∧ l < nI us
  · rw [if_pos h]
    refine Ex_wx [] 9 oX2_lastOf hw ?_
    refine And.intro (fun c => absurd c (by decide)) (fun _ => ?_)
    refine And.intro (in_log h2 h) ?_
    exact ⟨by unfold gtL; rw [if_pos h], rfl, rfl, rfl⟩
  · rw [if_neg h]
    refine Ex_wx [] 9 oX2_lastOf hw ?_
    refine And.intro (fun c => ?_) (fun c => absurd rfl c)
    exact ⟨by unfold gtL; rw [if_neg h], rfl, rfl, rfl⟩
theorem e2_withoutLast (hw : WS lx ly g) (hu : I 9 3 = nI us) (h2 : us ≤ 2001) (hd : 1 ≤ d) : Mx mX2_withoutLast d 0 0 [vS 9, vI l] g I L (qV (some (vI (gtL (I 11) us l))) g I L) := by
  refine Mx_in (by decide +kernel) rfl rfl (Ex_wx [] 9 oX2_withoutLast hw ?_)
  refine Ex_v (As := [vI l]) (st := []) (d' := 0) vX2_25 rfl rfl (e2_has hw hu h2) (hw 9 _ rfl).2.1 hd rfl (dc_ok oX2_withoutLast rfl) ?_
  by_cases h : 0 < l ∧ l < nI us
  · rw [if_pos h]
    refine Ex_wx [] 9 oX2_withoutLast hw ?_
    refine And.intro (fun c => absurd c (by decide)) (fun _ => ?_)
    refine And.intro (in_log h2 h) ?_
    exact ⟨by unfold gtL; rw [if_pos h], rfl, rfl, rfl⟩
  · rw [if_neg h]
    refine Ex_wx [] 9 oX2_withoutLast hw ?_
    refine And.intro (fun c => ?_) (fun c => absurd rfl c)
    exact ⟨by unfold gtL; rw [if_neg h], rfl, rfl, rfl⟩
def withI (I : aI) (us : Nat) (l x n : Int32) : aI := up2 (up2 (up2 (up2 I 10 us x) 11 us l) 12 us n) 9 3 (nI (us + 1))
theorem e2_with (hw : WS lx ly g) (hu : I 9 3 = nI us) (h1 : 1 ≤ us) (h2 : us ≤ 2000) (hd : 2 ≤ d) (h60 : ¬ 60 < gtL (I 12) us l + 1) : Mx mX2_with d 0 0 [vS 9, vI l, vI x] g I L (qV (some (vI (nI us))) g (withI I us l x (gtL (I 12) us l + 1)) L) := by
  refine Mx_in (by decide +kernel) rfl rfl (Ex_wx [] 9 oX2_with hw ?_)
  refine Ex_v (As := [vI l]) (st := []) (d' := 1) vX2_29 rfl rfl (e2_lengthOf hw hu (by omega) (by omega)) (hw 9 _ rfl).2.1 (by omega) rfl (dc_ok oX2_with rfl) ?_
  refine Ex_wx [34] 9 oX2_with hw ?_
  refine And.intro (fun c => absurd c h60) (fun _ => ?_)
  refine And.intro (fun c => absurd (ltN (b := 1) (hu ▸ c) (by omega) (by omega)) (by omega)) (fun _ => ?_)
  refine And.intro (fun c => ?_) (fun c => absurd (hu ▸ nI_lt (a := us) (b := 2001) (by omega) (by omega)) c)
  refine Ex_wx [] 9 oX2_with hw ?_
  have q5 : (I 9 3).toNatClampNeg = us := by rw [hu]; exact clN (by omega)
  have qi : vp_in (I 9 3) 2001 := by rw [hu]; exact inN (by omega) (by omega)
  refine And.intro qi ?_
  refine And.intro qi ?_
  refine And.intro qi ?_
  refine ⟨?_, rfl, ?_, rfl⟩
  · show (Sum.inl (some (vI (I 9 3 + 1 - 1))) : aO) = _
    rw [hu, nI_1, nI_pred]
  · show up2 (up2 (up2 (up2 I 10 (I 9 3).toNatClampNeg x) 11 (I 9 3).toNatClampNeg l) 12 (I 9 3).toNatClampNeg (gtL (I 12) us l + 1)) 9 3 (I 9 3 + 1) = _
    rw [q5, hu, nI_1]
    rfl
theorem e2_without (hw : WS lx ly g) (hu : I 9 3 = nI us) (h2 : us ≤ 2001) (hd : 2 ≤ d) (h60 : 60 < gtL (I 12) us l + 1) : Mx mX2_with d 0 0 [vS 9, vI l, vI x] g I L (qV (some (vI (-1))) g I L) := by
  refine Mx_in (by decide +kernel) rfl rfl (Ex_wx [] 9 oX2_with hw ?_)
  refine Ex_v (As := [vI l]) (st := []) (d' := 1) vX2_29 rfl rfl (e2_lengthOf hw hu (by omega) (by omega)) (hw 9 _ rfl).2.1 (by omega) rfl (dc_ok oX2_with rfl) ?_
  refine Ex_wx [34] 9 oX2_with hw ?_
  refine And.intro (fun _ => ?_) (fun c => absurd h60 c)
  exact ⟨rfl, rfl, rfl, rfl⟩
end Lgs
