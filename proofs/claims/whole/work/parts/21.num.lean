/-! numbers and heaps -/
theorem up2_s {α : Type} {I : Nat → Nat → α} {i k : Nat} {v : α} : up2 I i k v i k = v := by simp [up2]
theorem up2_n {α : Type} {I : Nat → Nat → α} {i k j m : Nat} {v : α} (h : j ≠ i ∨ m ≠ k) : up2 I i k v j m = I j m := by
  unfold up2
  rw [if_neg]
  rintro ⟨rfl, rfl⟩
  rcases h with h | h <;> exact h rfl
theorem up2_i {α : Type} {I : Nat → Nat → α} {i k j m : Nat} {v : α} (h : j ≠ i) : up2 I i k v j m = I j m := up2_n (Or.inl h)
theorem up2_k {α : Type} {I : Nat → Nat → α} {i k j m : Nat} {v : α} (h : m ≠ k) : up2 I i k v j m = I j m := up2_n (Or.inr h)
theorem up2_self {α : Type} {I : Nat → Nat → α} {i k : Nat} {v : α} (h : I i k = v) : up2 I i k v = I := by
  funext j m
  unfold up2
  by_cases c : j = i ∧ m = k
  · rw [if_pos c, c.1, c.2, h]
  · rw [if_neg c]
theorem ltN {a b : Nat} (c : nI a < nI b) (ha : a < 2 ^ 31) (hb : b < 2 ^ 31) : a < b := (nI_ltI ha hb).mp c
theorem leN {a b : Nat} (c : nI a ≤ nI b) (ha : a < 2 ^ 31) (hb : b < 2 ^ 31) : a ≤ b := (nI_leI ha hb).mp c
theorem eqN {a b : Nat} (c : nI a = nI b) (ha : a < 2 ^ 31) (hb : b < 2 ^ 31) : a = b := (nI_eq ha hb).mp c
theorem inN {k n : Nat} (h : k < n) (hn : n < 2 ^ 31) : vp_in (nI k) n := vp_in_nI h hn
theorem clN {k : Nat} (h : k < 2 ^ 31) : (nI k).toNatClampNeg = k := nI_clamp h
def bz (x : Int32) : Int32 := if x = 0 then 0 else 1
theorem bz_01 {x : Int32} (h : x = 0 ∨ x = 1) : bz x = x := by rcases h with rfl | rfl <;> rfl
theorem bz_or (x : Int32) : bz x = 0 ∨ bz x = 1 := by unfold bz; split <;> simp
