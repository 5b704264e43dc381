/-! the law: its loop -/
theorem and31 (x : Int32) : ∃ k, k < 32 ∧ x &&& 31 = nI k := by
  refine ⟨(x &&& 31).toBitVec.toNat, ?_, ?_⟩
  · rw [Int32.toBitVec_and, BitVec.toNat_and]
    have h : (31 : Int32).toBitVec.toNat = 31 := rfl
    rw [h]
    exact Nat.lt_of_le_of_lt Nat.and_le_right (by omega)
  · apply Int32.toBitVec_inj.mp
    show _ = BitVec.ofNat 32 _
    rw [BitVec.ofNat_toNat]
    simp
theorem neg_lt {x : Int32} {i : Nat} (h : x < 0) (hi : i < 2 ^ 31) : x < nI i := Int32.lt_of_lt_of_le h (nI_pos' hi)
theorem sub5_lt {n i : Nat} (hn : n ≤ 2560) (hi : i ≤ 2570) : (nI n - 5 < nI i) ↔ n < i + 5 := by
  by_cases h : 5 ≤ n
  · rw [nI_sub5 h]
    exact ⟨fun c => by have := ltN c (by omega) (by omega); omega, fun c => nI_lt (by omega) (by omega)⟩
  · refine ⟨fun _ => by omega, fun _ => neg_lt ?_ (by omega)⟩
    have hc : n = 0 ∨ n = 1 ∨ n = 2 ∨ n = 3 ∨ n = 4 := by omega
    rcases hc with rfl | rfl | rfl | rfl | rfl <;> decide
def okQ : aQ := fun o _ _ _ => o = .inl (some (vI 1))
set_option maxRecDepth 100000 in
theorem law_loop {n d : Nat} (hn : n ≤ 2560) (hd : 128 ≤ d) : ∀ (r i : Nat) (g : aG) (I : aI) (L : aL) (u5 u6 : Option aV), n < i + 5 * r + 5 → i ≤ n + 5 → LI n g I → Ex mL_law d (2 * r) (14 * r) okQ 23 [some (vD (some 0)), some (vS 1), some (vS 328), some (vS 371), some (vI (nI i)), u5, u6] [] g I L := by
  intro r
  induction r with
  | zero =>
    intro i g I L u5 u6 hr hi hL
    obtain ⟨A, hA, hC, hR, h0⟩ := hL
    obtain ⟨lx, ly, hw⟩ := hC.ws
    refine Ex_wx [1578, 32] 9 oL_law hw ?_
    refine ⟨.int, n, ⟨by simp [qTy], h0⟩, ?_⟩
    refine And.intro (fun _ => ?_) (fun c => absurd ((sub5_lt hn (by omega)).mpr (by omega)) c)
    refine Ex_wx [] 9 oL_law hw ?_
    exact ⟨Or.inr rfl, rfl⟩
  | succ r ih =>
    intro i g I L u5 u6 hr hi hL
    obtain ⟨A, hA, hC, hR, h0⟩ := hL
    obtain ⟨lx, ly, hw⟩ := hC.ws
    refine Ex_wx [1578, 32] 9 oL_law hw ?_
    refine ⟨.int, n, ⟨by simp [qTy], h0⟩, ?_⟩
    refine And.intro (fun _ => ?_) (fun c => ?_)
    · refine Ex_wx [] 9 oL_law hw ?_
      exact ⟨Or.inr rfl, rfl⟩
    have hin : i + 5 ≤ n := by
      rcases Nat.lt_or_ge n (i + 5) with z | z
      · exact absurd ((sub5_lt hn (by omega)).mpr z) c
      · exact z
    have hk : ∀ g' I' L' w5 w6, LI n g' I' → Ex mL_law d (2 * r) (14 * r) okQ 1572 [some (vD (some 0)), some (vS 1), some (vS 328), some (vS 371), some (vI (nI i)), w5, w6] [] g' I' L' := by
      intro g' I' L' w5 w6 hL'
      obtain ⟨A', hA', hC', hR', h0'⟩ := id hL'
      obtain ⟨lx', ly', hw'⟩ := hC'.ws
      refine Ex_wx [23] 9 oL_law hw' ?_
      show Ex mL_law d (2 * r) (14 * r) okQ 23 [some (vD (some 0)), some (vS 1), some (vS 328), some (vS 371), some (vI (nI i + 5)), w5, w6] [] g' I' L'
      rw [show nI i + 5 = nI (i + 5) from nI_add i 5]
      exact ih (i + 5) g' I' L' w5 w6 (by omega) (by omega) hL'
    refine Ex_wx [] 9 oL_law hw ?_
    refine ⟨n, ⟨h0, inN (by omega) (by omega)⟩, ?_⟩
    obtain ⟨k, hk32, ek⟩ := and31 (I 0 (nI i).toNatClampNeg)
    show Ex mL_law d (2 * r + 2) (14 * r + 14) okQ 39 [some (vD (some 0)), some (vS 1), some (vS 328), some (vS 371), some (vI (nI i)), u5, u6] [vI (I 0 (nI i).toNatClampNeg &&& 31)] g I L
    rw [ek]
    have hc : k = 0 ∨ k = 1 ∨ k = 2 ∨ k = 3 ∨ k = 4 ∨ k = 5 ∨ k = 6 ∨ k = 7 ∨ k = 8 ∨ k = 9 ∨ k = 10 ∨ k = 11 ∨ k = 12 ∨ k = 13 ∨ k = 14 ∨ k = 15 ∨ k = 16 ∨ k = 17 ∨ k = 18 ∨ k = 19 ∨ 20 ≤ k := by omega
    rcases hc with rfl | rfl | rfl | rfl | rfl | rfl | rfl | rfl | rfl | rfl | rfl | rfl | rfl | rfl | rfl | rfl | rfl | rfl | rfl | rfl | hk20
    · exact Ex_tableIn (tgt := 132) (off := 93) (dc_ok oL_law rfl) (by decide) (by decide) (by decide) (by decide) (law_give hA hC hR h0 hn hin hd hk)
    · exact Ex_tableIn (tgt := 216) (off := 177) (dc_ok oL_law rfl) (by decide) (by decide) (by decide) (by decide) (law_of hA hC hR h0 hn hin hd hk)
    · exact Ex_tableIn (tgt := 296) (off := 257) (dc_ok oL_law rfl) (by decide) (by decide) (by decide) (by decide) (law_read hA hC hR h0 hn hin hd hk)
    · exact Ex_tableIn (tgt := 340) (off := 301) (dc_ok oL_law rfl) (by decide) (by decide) (by decide) (by decide) (law_write hA hC hR h0 hn hin hd hk)
    · exact Ex_tableIn (tgt := 424) (off := 385) (dc_ok oL_law rfl) (by decide) (by decide) (by decide) (by decide) (law_say hA hC hR h0 hn hin hd hk)
    · exact Ex_tableIn (tgt := 508) (off := 469) (dc_ok oL_law rfl) (by decide) (by decide) (by decide) (by decide) (law_fail hA hC hR h0 hn hin hd hk)
    · exact Ex_tableIn (tgt := 592) (off := 553) (dc_ok oL_law rfl) (by decide) (by decide) (by decide) (by decide) (law_none hA hC hR h0 hn hin hd hk)
    · exact Ex_tableIn (tgt := 636) (off := 597) (dc_ok oL_law rfl) (by decide) (by decide) (by decide) (by decide) (law_either hA hC hR h0 hn hin hd hk)
    · exact Ex_tableIn (tgt := 704) (off := 665) (dc_ok oL_law rfl) (by decide) (by decide) (by decide) (by decide) (law_then hA hC hR h0 hn hin hd hk)
    · exact Ex_tableIn (tgt := 784) (off := 745) (dc_ok oL_law rfl) (by decide) (by decide) (by decide) (by decide) (law_saved hA hC hR h0 hn hin hd hk)
    · exact Ex_tableIn (tgt := 864) (off := 825) (dc_ok oL_law rfl) (by decide) (by decide) (by decide) (by decide) (law_when hA hC hR h0 hn hin hd hk)
    · exact Ex_tableIn (tgt := 944) (off := 905) (dc_ok oL_law rfl) (by decide) (by decide) (by decide) (by decide) (law_times hA hC hR h0 hn hin hd hk)
    · exact Ex_tableIn (tgt := 1040) (off := 1001) (dc_ok oL_law rfl) (by decide) (by decide) (by decide) (by decide) (law_as hA hC hR h0 hn hin hd hk)
    · exact Ex_tableIn (tgt := 1108) (off := 1069) (dc_ok oL_law rfl) (by decide) (by decide) (by decide) (by decide) (law_order hA hC hR h0 hn hin hd hk)
    · exact Ex_tableIn (tgt := 1200) (off := 1161) (dc_ok oL_law rfl) (by decide) (by decide) (by decide) (by decide) (law_needs hA hC hR h0 hn hin hd hk)
    · exact Ex_tableIn (tgt := 1256) (off := 1217) (dc_ok oL_law rfl) (by decide) (by decide) (by decide) (by decide) (law_run hA hC hR h0 hn hin hd hk)
    · exact Ex_tableIn (tgt := 1336) (off := 1297) (dc_ok oL_law rfl) (by decide) (by decide) (by decide) (by decide) (law_result hA hC hR h0 hn hin hd hk)
    · exact Ex_tableIn (tgt := 1404) (off := 1365) (dc_ok oL_law rfl) (by decide) (by decide) (by decide) (by decide) (law_shared hA hC hR h0 hn hin hd hk)
    · exact Ex_tableIn (tgt := 1460) (off := 1421) (dc_ok oL_law rfl) (by decide) (by decide) (by decide) (by decide) (law_alike hA hC hR h0 hn hin hd hk)
    · exact Ex_tableIn (tgt := 1559) (off := 1520) (dc_ok oL_law rfl) (by decide) (by decide) (by decide) (by decide) (law_terms hA hC hR h0 hd hk)
    · refine Ex_tableOut (tgt := 1572) (dc_ok oL_law rfl) (Or.inr (by rw [nI_toInt (by omega)]; omega)) (by decide) ?_
      exact Ex_wide (hk _ _ _ _ _ ⟨A, hA, hC, hR, h0⟩) (by omega) (by omega)
