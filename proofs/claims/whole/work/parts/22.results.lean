/-! Results -/
section Res
variable {g : aG} {I : aI} {L : aL} {d t k : Nat}
theorem e5_size (hw : WS g) : Mx mX5_size d 0 0 [vS 4] g I L (qV (some (vI (I 4 4))) g I L) := by
  refine Mx_in (by decide +kernel) rfl rfl (Ex_blk oX5_size hw ?_)
  exact ⟨rfl, rfl, rfl, rfl⟩
theorem e5_has (hw : WS g) (ht : I 4 4 = nI t) (h3 : t ≤ 3100) (hk : k < t) : Mx mX5_has d 0 0 [vS 4, vI (nI k)] g I L (qV (some (vI 1)) g I L) := by
  refine Mx_in (by decide +kernel) rfl rfl (Ex_wx [] 9 oX5_has hw ?_)
  refine And.intro (fun c => absurd c (nI_pos (by omega))) (fun _ => ?_)
  refine And.intro (fun c => absurd (leN (ht ▸ c) (by omega) (by omega)) (by omega)) (fun _ => ?_)
  refine And.intro (fun c => absurd (leN (a := 3100) c (by omega) (by omega)) (by omega)) (fun _ => ?_)
  exact ⟨Or.inr rfl, rfl, rfl, rfl, rfl⟩
theorem e5_number (hw : WS g) (ht : I 4 4 = nI t) (h3 : t ≤ 3100) (hk : k < t) (hd : 1 ≤ d) : Mx mX5_numberOf d 0 0 [vS 4, vI (nI k)] g I L (qV (some (vI (I 5 k))) g I L) := by
  refine Mx_in (by decide +kernel) rfl rfl (Ex_wx [] 9 oX5_numberOf hw ?_)
  refine Ex_v (As := [vI (nI k)]) (st := []) (d' := 0) vX5_29 rfl rfl (e5_has hw ht h3 hk) (hw 4 _ rfl).2.1 hd rfl (dc_ok oX5_numberOf rfl) ?_
  refine Ex_wx [] 9 oX5_numberOf hw ?_
  refine And.intro (fun c => absurd c (by decide)) (fun _ => ?_)
  refine And.intro (inN (by omega) (by omega)) ?_
  exact ⟨by rw [clN (by omega)], rfl, rfl, rfl⟩
end Res
