/-! the abstract machine: values, heaps, their meaning -/
def gT : List Cond := lw_tbl.filter goodWord
theorem gT_in {w : Cond} (h : w ∈ lw_tbl) (hg : goodWord w = true) : w ∈ gT := List.mem_filter.mpr ⟨h, hg⟩
theorem gT_good : GoodIn gT gT := fun _ h => ⟨h, good_of_word (List.mem_filter.mp h).2⟩
def gIn (ws : List Cond) : Bool := ws.all (fun w => goodWord w && decide (w ∈ lw_tbl))
theorem gT_of {ws : List Cond} (h : gIn ws = true) : ∀ w ∈ ws, w ∈ gT := by
  intro w hw
  have h1 := List.all_eq_true.mp h w hw
  simp only [Bool.and_eq_true, decide_eq_true_eq] at h1
  exact gT_in h1.2 h1.1
theorem gX1 : gIn wsX10 = true := by decide +kernel
theorem gX2 : gIn wsX20 = true := by decide +kernel
theorem gX3 : gIn wsX30 = true := by decide +kernel
theorem gX4 : gIn wsX40 = true := by decide +kernel
theorem gX5 : gIn wsX50 = true := by decide +kernel
theorem gX6 : gIn wsX60 = true := by decide +kernel
theorem gX7 : gIn wsX70 = true := by decide +kernel
theorem gX8 : gIn wsX80 = true := by decide +kernel
theorem gX9 : gIn wsX90 = true := by decide +kernel
