/-! locals -/
def qL (ad : Nat → Nat) : Nat → List (Option aV) → List (Nat × Value)
  | _, [] => []
  | k, none :: r => qL ad (k + 1) r
  | k, some v :: r => (k, cv ad v) :: qL ad (k + 1) r
theorem qL_mem {ad : Nat → Nat} : ∀ (lo : List (Option aV)) (k : Nat) (q : Nat × Value), q ∈ qL ad k lo ↔ ∃ (j : Nat) (v : aV), lo[j]? = some (some v) ∧ q = (k + j, cv ad v) := by
  intro lo
  induction lo with
  | nil => intro k q; simp [qL]
  | cons a r ih =>
    intro k q
    have key : (∃ (j : Nat) (v : aV), (a :: r)[j]? = some (some v) ∧ q = (k + j, cv ad v)) ↔ ((∃ v, a = some v ∧ q = (k, cv ad v)) ∨ ∃ (j : Nat) (v : aV), r[j]? = some (some v) ∧ q = (k + 1 + j, cv ad v)) := by
      constructor
      · rintro ⟨j, v, h1, h2⟩
        cases j with
        | zero => left; rw [List.getElem?_cons_zero] at h1; exact ⟨v, Option.some.inj h1, h2⟩
        | succ j => right; rw [List.getElem?_cons_succ] at h1; exact ⟨j, v, h1, by rw [h2]; congr 1; omega⟩
      · rintro (⟨v, h1, h2⟩ | ⟨j, v, h1, h2⟩)
        · exact ⟨0, v, by rw [List.getElem?_cons_zero, h1], h2⟩
        · exact ⟨j + 1, v, by rw [List.getElem?_cons_succ]; exact h1, by rw [h2]; congr 1; omega⟩
    rw [key]
    cases a with
    | none => simp only [qL]; rw [ih]; simp
    | some v =>
      simp only [qL, List.mem_cons]
      rw [ih]
      constructor
      · rintro (h | h)
        · exact Or.inl ⟨v, rfl, h⟩
        · exact Or.inr h
      · rintro (⟨w, h1, h2⟩ | h)
        · cases h1; exact Or.inl h2
        · exact Or.inr h
theorem lH.has {ad : Nat → Nat} {ls : Array Slot} {nL : Nat} {lo : List (Option aV)} (h : lH ad ls nL lo) : lv_has ls nL (qL ad 0 lo) := by
  refine ⟨h.1, h.2.1, fun q hq => ?_⟩
  obtain ⟨j, v, h1, rfl⟩ := (qL_mem lo 0 q).mp hq
  rw [Nat.zero_add]
  exact (h.2.2 j v h1).2
theorem lH.at {ad : Nat → Nat} {ls : Array Slot} {nL : Nat} {lo : List (Option aV)} (h : lH ad ls nL lo) {k : Nat} {v : aV} (hk : lo[k]? = some (some v)) : ls[k]? = some (.val (cv ad v)) := (h.2.2 k v hk).2
theorem lH.set {ad : Nat → Nat} {ls ls' : Array Slot} {nL i : Nat} {lo : List (Option aV)} {v : aV} (h : lH ad ls nL lo) (hc : (cv ad v).category = 1)
    (h' : lv_has ls' nL ((i, cv ad v) :: (qL ad 0 lo).filter (fun q => !(q.1 == i) && !(q.1 + 1 == i && q.2.category == 2)))) : lH ad ls' nL (lo.set i (some v)) := by
  refine ⟨h'.1, h'.2.1, fun k w hk => ?_⟩
  by_cases hki : k = i
  · subst hki
    have hlt : k < lo.length := by
      rcases Nat.lt_or_ge k lo.length with q | q
      · exact q
      · rw [List.getElem?_eq_none (by rw [List.length_set]; exact q)] at hk; cases hk
    rw [List.getElem?_set_self hlt] at hk
    cases hk
    exact ⟨hc, h'.2.2 _ List.mem_cons_self⟩
  · rw [List.getElem?_set_ne (Ne.symm hki)] at hk
    have h1 := h.2.2 k w hk
    refine ⟨h1.1, h'.2.2 (k, cv ad w) (List.mem_cons_of_mem _ (List.mem_filter.mpr ⟨(qL_mem lo 0 _).mpr ⟨k, w, hk, by rw [Nat.zero_add]⟩, ?_⟩))⟩
    have e1 : (k == i) = false := by simpa using hki
    have e2 : ((cv ad w).category == 2) = false := by rw [h1.1]; rfl
    simp only [e1, e2, Bool.and_false, Bool.not_false, Bool.and_true]
section Rules
variable {M : aM} {d kc ks : Nat} {Q : aQ} {pc : Nat} {lo : List (Option aV)} {st : List aV} {g : aG} {I : aI} {L : aL}
theorem Ex_iadd {x y : Int32} (hd : decode M.cc pc = .ok (.iadd, 1)) (k : Ex M d kc ks Q (pc + 1) lo (vI (x + y) :: st) g I L) : Ex M d kc ks Q pc lo (vI y :: vI x :: st) g I L := by
  intro D K b b0 SA p l e R s m args below meth c H locs cells slots mc ms ls C hc hs hz hS hl
  exact lv_iadd C.1.1 C.1.2.1 hd (k D K b b0 SA p l e R s m args below meth c H locs cells slots mc ms ls C hc hs hz hS hl)
theorem Ex_isub {x y : Int32} (hd : decode M.cc pc = .ok (.isub, 1)) (k : Ex M d kc ks Q (pc + 1) lo (vI (x - y) :: st) g I L) : Ex M d kc ks Q pc lo (vI y :: vI x :: st) g I L := by
  intro D K b b0 SA p l e R s m args below meth c H locs cells slots mc ms ls C hc hs hz hS hl
  exact lv_isub C.1.1 C.1.2.1 hd (k D K b b0 SA p l e R s m args below meth c H locs cells slots mc ms ls C hc hs hz hS hl)
theorem Ex_imul {x y : Int32} (hd : decode M.cc pc = .ok (.imul, 1)) (k : Ex M d kc ks Q (pc + 1) lo (vI (x * y) :: st) g I L) : Ex M d kc ks Q pc lo (vI y :: vI x :: st) g I L := by
  intro D K b b0 SA p l e R s m args below meth c H locs cells slots mc ms ls C hc hs hz hS hl
  exact lv_imul C.1.1 C.1.2.1 hd (k D K b b0 SA p l e R s m args below meth c H locs cells slots mc ms ls C hc hs hz hS hl)
theorem Ex_iand {x y : Int32} (hd : decode M.cc pc = .ok (.iand, 1)) (k : Ex M d kc ks Q (pc + 1) lo (vI (x &&& y) :: st) g I L) : Ex M d kc ks Q pc lo (vI y :: vI x :: st) g I L := by
  intro D K b b0 SA p l e R s m args below meth c H locs cells slots mc ms ls C hc hs hz hS hl
  exact lv_iand C.1.1 C.1.2.1 hd (k D K b b0 SA p l e R s m args below meth c H locs cells slots mc ms ls C hc hs hz hS hl)
theorem Ex_ior {x y : Int32} (hd : decode M.cc pc = .ok (.ior, 1)) (k : Ex M d kc ks Q (pc + 1) lo (vI (x ||| y) :: st) g I L) : Ex M d kc ks Q pc lo (vI y :: vI x :: st) g I L := by
  intro D K b b0 SA p l e R s m args below meth c H locs cells slots mc ms ls C hc hs hz hS hl
  exact lv_ior C.1.1 C.1.2.1 hd (k D K b b0 SA p l e R s m args below meth c H locs cells slots mc ms ls C hc hs hz hS hl)
theorem Ex_ixor {x y : Int32} (hd : decode M.cc pc = .ok (.ixor, 1)) (k : Ex M d kc ks Q (pc + 1) lo (vI (x ^^^ y) :: st) g I L) : Ex M d kc ks Q pc lo (vI y :: vI x :: st) g I L := by
  intro D K b b0 SA p l e R s m args below meth c H locs cells slots mc ms ls C hc hs hz hS hl
  exact lv_ixor C.1.1 C.1.2.1 hd (k D K b b0 SA p l e R s m args below meth c H locs cells slots mc ms ls C hc hs hz hS hl)
theorem Ex_ishl {x y : Int32} (hd : decode M.cc pc = .ok (.ishl, 1)) (k : Ex M d kc ks Q (pc + 1) lo (vI (x <<< (y &&& 31)) :: st) g I L) : Ex M d kc ks Q pc lo (vI y :: vI x :: st) g I L := by
  intro D K b b0 SA p l e R s m args below meth c H locs cells slots mc ms ls C hc hs hz hS hl
  exact lv_ishl C.1.1 C.1.2.1 hd (k D K b b0 SA p l e R s m args below meth c H locs cells slots mc ms ls C hc hs hz hS hl)
theorem Ex_ishr {x y : Int32} (hd : decode M.cc pc = .ok (.ishr, 1)) (k : Ex M d kc ks Q (pc + 1) lo (vI (x >>> (y &&& 31)) :: st) g I L) : Ex M d kc ks Q pc lo (vI y :: vI x :: st) g I L := by
  intro D K b b0 SA p l e R s m args below meth c H locs cells slots mc ms ls C hc hs hz hS hl
  exact lv_ishr C.1.1 C.1.2.1 hd (k D K b b0 SA p l e R s m args below meth c H locs cells slots mc ms ls C hc hs hz hS hl)
theorem Ex_iushr {x y : Int32} (hd : decode M.cc pc = .ok (.iushr, 1)) (k : Ex M d kc ks Q (pc + 1) lo (vI (x.toUInt32 >>> (y.toUInt32 &&& Int32.toUInt32 31)).toInt32 :: st) g I L) : Ex M d kc ks Q pc lo (vI y :: vI x :: st) g I L := by
  intro D K b b0 SA p l e R s m args below meth c H locs cells slots mc ms ls C hc hs hz hS hl
  exact lv_iushr C.1.1 C.1.2.1 hd rfl (k D K b b0 SA p l e R s m args below meth c H locs cells slots mc ms ls C hc hs hz hS hl)
theorem Ex_iconst {n : Int} {v : Int32} (hd : decode M.cc pc = .ok (.iconst n, 1)) (hv : Int32.ofInt n = v) (k : Ex M d kc ks Q (pc + 1) lo (vI v :: st) g I L) : Ex M d kc ks Q pc lo st g I L := by
  intro D K b b0 SA p l e R s m args below meth c H locs cells slots mc ms ls C hc hs hz hS hl
  exact lv_iconst C.1.1 C.1.2.1 hd hv (k D K b b0 SA p l e R s m args below meth c H locs cells slots mc ms ls C hc hs hz hS hl)
theorem Ex_bipush {n : Int} {v : Int32} (hd : decode M.cc pc = .ok (.bipush n, 2)) (hv : (Int8.ofInt n).toInt32 = v) (k : Ex M d kc ks Q (pc + 2) lo (vI v :: st) g I L) : Ex M d kc ks Q pc lo st g I L := by
  intro D K b b0 SA p l e R s m args below meth c H locs cells slots mc ms ls C hc hs hz hS hl
  exact lv_bipush C.1.1 C.1.2.1 hd hv (k D K b b0 SA p l e R s m args below meth c H locs cells slots mc ms ls C hc hs hz hS hl)
theorem Ex_sipush {n : Int} {v : Int32} (hd : decode M.cc pc = .ok (.sipush n, 3)) (hv : (Int16.ofInt n).toInt32 = v) (k : Ex M d kc ks Q (pc + 3) lo (vI v :: st) g I L) : Ex M d kc ks Q pc lo st g I L := by
  intro D K b b0 SA p l e R s m args below meth c H locs cells slots mc ms ls C hc hs hz hS hl
  exact lv_sipush C.1.1 C.1.2.1 hd hv (k D K b b0 SA p l e R s m args below meth c H locs cells slots mc ms ls C hc hs hz hS hl)
theorem Ex_lconst {n : Fin 2} {v : Int64} (hd : decode M.cc pc = .ok (.lconst n, 1)) (hv : Int64.ofNat (n : Nat) = v) (k : Ex M d kc ks Q (pc + 1) lo (vJ v :: st) g I L) : Ex M d kc ks Q pc lo st g I L := by
  intro D K b b0 SA p l e R s m args below meth c H locs cells slots mc ms ls C hc hs hz hS hl
  exact lv_lconst C.1.1 C.1.2.1 hd hv (k D K b b0 SA p l e R s m args below meth c H locs cells slots mc ms ls C hc hs hz hS hl)
theorem Ex_i2l {x : Int32} (hd : decode M.cc pc = .ok (.i2l, 1)) (k : Ex M d kc ks Q (pc + 1) lo (vJ x.toInt64 :: st) g I L) : Ex M d kc ks Q pc lo (vI x :: st) g I L := by
  intro D K b b0 SA p l e R s m args below meth c H locs cells slots mc ms ls C hc hs hz hS hl
  exact lv_i2l C.1.1 C.1.2.1 hd rfl (k D K b b0 SA p l e R s m args below meth c H locs cells slots mc ms ls C hc hs hz hS hl)
theorem Ex_lcmp {x y : Int64} (hd : decode M.cc pc = .ok (.lcmp, 1)) (k : Ex M d kc ks Q (pc + 1) lo (vI (lg_cmp x y) :: st) g I L) : Ex M d kc ks Q pc lo (vJ y :: vJ x :: st) g I L := by
  intro D K b b0 SA p l e R s m args below meth c H locs cells slots mc ms ls C hc hs hz hS hl
  exact W.lcmp C.1.1 C.1.2.1 hd (k D K b b0 SA p l e R s m args below meth c H locs cells slots mc ms ls C hc hs hz hS hl)
theorem Ex_null (hd : decode M.cc pc = .ok (.aconst_null, 1)) (k : Ex M d kc ks Q (pc + 1) lo (vD none :: st) g I L) : Ex M d kc ks Q pc lo st g I L := by
  intro D K b b0 SA p l e R s m args below meth c H locs cells slots mc ms ls C hc hs hz hS hl
  exact lv_null C.1.1 C.1.2.1 hd (k D K b b0 SA p l e R s m args below meth c H locs cells slots mc ms ls C hc hs hz hS hl)
theorem Ex_ldc {n : Nat} {v : Int32} (hd : decode M.cc pc = .ok (.ldc n, 2)) (hv : (.constant M.y.cls n v : Cond) ∈ gT) (k : Ex M d kc ks Q (pc + 2) lo (vI v :: st) g I L) : Ex M d kc ks Q pc lo st g I L := by
  intro D K b b0 SA p l e R s m args below meth c H locs cells slots mc ms ls C hc hs hz hS hl
  exact lv_ldc C.1.1 C.1.2.1 C.1.2.2.2.2.2.1 (C.2.1 _ hv) hd (k D K b b0 SA p l e R s m args below meth c H locs cells slots mc ms ls C hc hs hz hS hl)
theorem Ex_ldc_w {n : Nat} {v : Int32} (hd : decode M.cc pc = .ok (.ldc_w n, 3)) (hv : (.constant M.y.cls n v : Cond) ∈ gT) (k : Ex M d kc ks Q (pc + 3) lo (vI v :: st) g I L) : Ex M d kc ks Q pc lo st g I L := by
  intro D K b b0 SA p l e R s m args below meth c H locs cells slots mc ms ls C hc hs hz hS hl
  intro T hT X
  obtain ⟨t, a1, b1⟩ := k D K b b0 SA p l e R s m args below meth c H locs cells slots mc ms ls C hc hs hz hS hl T hT X
  exact ⟨t, va_ldcwI X C.1.1 C.1.2.2.2.2.2.1 (C.2.1 _ hv) rfl (by rw [C.1.2.1]; exact hd) t a1, b1⟩
theorem cv_cat {ad : Nat → Nat} {v : aV} (h : ∀ x, v ≠ vJ x) : (cv ad v).category = 1 := by
  rcases v with x | i | r | x
  · rfl
  · rfl
  · cases r <;> rfl
  · exact absurd rfl (h x)
theorem Ex_dup {v : aV} (hn : ∀ x, v ≠ vJ x) (hd : decode M.cc pc = .ok (.dup, 1)) (k : Ex M d kc ks Q (pc + 1) lo (v :: v :: st) g I L) : Ex M d kc ks Q pc lo (v :: st) g I L := by
  intro D K b b0 SA p l e R s m args below meth c H locs cells slots mc ms ls C hc hs hz hS hl
  exact lv_dup C.1.1 C.1.2.1 hd (cv_cat hn) (k D K b b0 SA p l e R s m args below meth c H locs cells slots mc ms ls C hc hs hz hS hl)
theorem Ex_pop {v : aV} (hn : ∀ x, v ≠ vJ x) (hd : decode M.cc pc = .ok (.pop, 1)) (k : Ex M d kc ks Q (pc + 1) lo st g I L) : Ex M d kc ks Q pc lo (v :: st) g I L := by
  intro D K b b0 SA p l e R s m args below meth c H locs cells slots mc ms ls C hc hs hz hS hl
  exact lv_pop C.1.1 C.1.2.1 hd (cv_cat hn) (k D K b b0 SA p l e R s m args below meth c H locs cells slots mc ms ls C hc hs hz hS hl)
theorem Ex_dup2 {v w : aV} (hn : ∀ x, v ≠ vJ x) (hn2 : ∀ x, w ≠ vJ x) (hd : decode M.cc pc = .ok (.dup2, 1)) (k : Ex M d kc ks Q (pc + 1) lo (v :: w :: v :: w :: st) g I L) : Ex M d kc ks Q pc lo (v :: w :: st) g I L := by
  intro D K b b0 SA p l e R s m args below meth c H locs cells slots mc ms ls C hc hs hz hS hl
  exact lv_dup2_11 C.1.1 C.1.2.1 hd (cv_cat hn) (cv_cat hn2) (k D K b b0 SA p l e R s m args below meth c H locs cells slots mc ms ls C hc hs hz hS hl)
theorem Ex_goto {off : Int} {tgt : Nat} (hd : decode M.cc pc = .ok (.goto off, 3)) (ht : (pc : Int) + off = (tgt : Int)) (k : Ex M d kc ks Q tgt lo st g I L) : Ex M d kc ks Q pc lo st g I L := by
  intro D K b b0 SA p l e R s m args below meth c H locs cells slots mc ms ls C hc hs hz hS hl
  exact lv_goto C.1.1 C.1.2.1 hd ht (k D K b b0 SA p l e R s m args below meth c H locs cells slots mc ms ls C hc hs hz hS hl)
theorem Ex_iload_n {a : Fin 4} {x : Int32} (hd : decode M.cc pc = .ok (.iload_n a, 1)) (h : lo[(a : Nat)]? = some (some (vI x))) (k : Ex M d kc ks Q (pc + 1) lo (vI x :: st) g I L) : Ex M d kc ks Q pc lo st g I L := by
  intro D K b b0 SA p l e R s m args below meth c H locs cells slots mc ms ls C hc hs hz hS hl
  exact lv_iload_n C.1.1 C.1.2.1 hd rfl (hl.at h) (k D K b b0 SA p l e R s m args below meth c H locs cells slots mc ms ls C hc hs hz hS hl)
theorem Ex_iload {a : Nat} {x : Int32} (hd : decode M.cc pc = .ok (.iload a, 2)) (h : lo[a]? = some (some (vI x))) (k : Ex M d kc ks Q (pc + 2) lo (vI x :: st) g I L) : Ex M d kc ks Q pc lo st g I L := by
  intro D K b b0 SA p l e R s m args below meth c H locs cells slots mc ms ls C hc hs hz hS hl
  exact lv_iload C.1.1 C.1.2.1 hd (hl.at h) (k D K b b0 SA p l e R s m args below meth c H locs cells slots mc ms ls C hc hs hz hS hl)
theorem Ex_aload_nS {a : Fin 4} {i : Nat} (hd : decode M.cc pc = .ok (.aload_n a, 1)) (h : lo[(a : Nat)]? = some (some (vS i))) (k : Ex M d kc ks Q (pc + 1) lo (vS i :: st) g I L) : Ex M d kc ks Q pc lo st g I L := by
  intro D K b b0 SA p l e R s m args below meth c H locs cells slots mc ms ls C hc hs hz hS hl
  exact lv_aload_n C.1.1 C.1.2.1 hd rfl (hl.at h) (k D K b b0 SA p l e R s m args below meth c H locs cells slots mc ms ls C hc hs hz hS hl)
theorem Ex_aload_nD {a : Fin 4} {r : Option Nat} (hd : decode M.cc pc = .ok (.aload_n a, 1)) (h : lo[(a : Nat)]? = some (some (vD r))) (k : Ex M d kc ks Q (pc + 1) lo (vD r :: st) g I L) : Ex M d kc ks Q pc lo st g I L := by
  cases r with
  | none =>
    intro D K b b0 SA p l e R s m args below meth c H locs cells slots mc ms ls C hc hs hz hS hl
    exact lv_aload_nN C.1.1 C.1.2.1 hd rfl (hl.at h) (k D K b b0 SA p l e R s m args below meth c H locs cells slots mc ms ls C hc hs hz hS hl)
  | some i =>
    intro D K b b0 SA p l e R s m args below meth c H locs cells slots mc ms ls C hc hs hz hS hl
    exact lv_aload_n C.1.1 C.1.2.1 hd rfl (hl.at h) (k D K b b0 SA p l e R s m args below meth c H locs cells slots mc ms ls C hc hs hz hS hl)
theorem Ex_aloadS {a : Nat} {i : Nat} (hd : decode M.cc pc = .ok (.aload a, 2)) (h : lo[a]? = some (some (vS i))) (k : Ex M d kc ks Q (pc + 2) lo (vS i :: st) g I L) : Ex M d kc ks Q pc lo st g I L := by
  intro D K b b0 SA p l e R s m args below meth c H locs cells slots mc ms ls C hc hs hz hS hl
  exact lv_aload C.1.1 C.1.2.1 hd (hl.at h) (k D K b b0 SA p l e R s m args below meth c H locs cells slots mc ms ls C hc hs hz hS hl)
theorem Ex_aloadD {a : Nat} {r : Option Nat} (hd : decode M.cc pc = .ok (.aload a, 2)) (h : lo[a]? = some (some (vD r))) (k : Ex M d kc ks Q (pc + 2) lo (vD r :: st) g I L) : Ex M d kc ks Q pc lo st g I L := by
  cases r with
  | none =>
    intro D K b b0 SA p l e R s m args below meth c H locs cells slots mc ms ls C hc hs hz hS hl
    exact lv_aloadN C.1.1 C.1.2.1 hd (hl.at h) (k D K b b0 SA p l e R s m args below meth c H locs cells slots mc ms ls C hc hs hz hS hl)
  | some i =>
    intro D K b b0 SA p l e R s m args below meth c H locs cells slots mc ms ls C hc hs hz hS hl
    exact lv_aload C.1.1 C.1.2.1 hd (hl.at h) (k D K b b0 SA p l e R s m args below meth c H locs cells slots mc ms ls C hc hs hz hS hl)
theorem Ex_istore_n {a : Fin 4} {x : Int32} (hd : decode M.cc pc = .ok (.istore_n a, 1)) (hn : (a : Nat) < M.nL) (k : Ex M d kc ks Q (pc + 1) (lo.set (a : Nat) (some (vI x))) st g I L) : Ex M d kc ks Q pc lo (vI x :: st) g I L := by
  intro D K b b0 SA p l e R s m args below meth c H locs cells slots mc ms ls C hc hs hz hS hl
  exact lv_istore_n C.1.1 C.1.2.1 hd rfl hl.has hn rfl (fun ls' h' => k D K b b0 SA p l e R s m args below meth c H locs cells slots mc ms ls' C hc hs hz hS (hl.set (v := vI x) rfl h'))
theorem Ex_istore {a : Nat} {x : Int32} (hd : decode M.cc pc = .ok (.istore a, 2)) (hn : a < M.nL) (k : Ex M d kc ks Q (pc + 2) (lo.set a (some (vI x))) st g I L) : Ex M d kc ks Q pc lo (vI x :: st) g I L := by
  intro D K b b0 SA p l e R s m args below meth c H locs cells slots mc ms ls C hc hs hz hS hl
  exact lv_istore C.1.1 C.1.2.1 hd hl.has hn rfl (fun ls' h' => k D K b b0 SA p l e R s m args below meth c H locs cells slots mc ms ls' C hc hs hz hS (hl.set (v := vI x) rfl h'))
theorem Ex_astore_nS {a : Fin 4} {i : Nat} (hd : decode M.cc pc = .ok (.astore_n a, 1)) (hn : (a : Nat) < M.nL) (k : Ex M d kc ks Q (pc + 1) (lo.set (a : Nat) (some (vS i))) st g I L) : Ex M d kc ks Q pc lo (vS i :: st) g I L := by
  intro D K b b0 SA p l e R s m args below meth c H locs cells slots mc ms ls C hc hs hz hS hl
  exact lv_astore_n C.1.1 C.1.2.1 hd rfl hl.has hn rfl (fun ls' h' => k D K b b0 SA p l e R s m args below meth c H locs cells slots mc ms ls' C hc hs hz hS (hl.set (v := vS i) rfl h'))
theorem Ex_astore_nD {a : Fin 4} {r : Option Nat} (hd : decode M.cc pc = .ok (.astore_n a, 1)) (hn : (a : Nat) < M.nL) (k : Ex M d kc ks Q (pc + 1) (lo.set (a : Nat) (some (vD r))) st g I L) : Ex M d kc ks Q pc lo (vD r :: st) g I L := by
  cases r with
  | none =>
    intro D K b b0 SA p l e R s m args below meth c H locs cells slots mc ms ls C hc hs hz hS hl
    exact lv_astore_nN C.1.1 C.1.2.1 hd rfl hl.has hn rfl (fun ls' h' => k D K b b0 SA p l e R s m args below meth c H locs cells slots mc ms ls' C hc hs hz hS (hl.set (v := vD none) rfl h'))
  | some i =>
    intro D K b b0 SA p l e R s m args below meth c H locs cells slots mc ms ls C hc hs hz hS hl
    exact lv_astore_n C.1.1 C.1.2.1 hd rfl hl.has hn rfl (fun ls' h' => k D K b b0 SA p l e R s m args below meth c H locs cells slots mc ms ls' C hc hs hz hS (hl.set (v := vD (some i)) rfl h'))
theorem Ex_astoreS {a : Nat} {i : Nat} (hd : decode M.cc pc = .ok (.astore a, 2)) (hn : a < M.nL) (k : Ex M d kc ks Q (pc + 2) (lo.set a (some (vS i))) st g I L) : Ex M d kc ks Q pc lo (vS i :: st) g I L := by
  intro D K b b0 SA p l e R s m args below meth c H locs cells slots mc ms ls C hc hs hz hS hl
  exact lv_astore C.1.1 C.1.2.1 hd hl.has hn rfl (fun ls' h' => k D K b b0 SA p l e R s m args below meth c H locs cells slots mc ms ls' C hc hs hz hS (hl.set (v := vS i) rfl h'))
theorem Ex_astoreD {a : Nat} {r : Option Nat} (hd : decode M.cc pc = .ok (.astore a, 2)) (hn : a < M.nL) (k : Ex M d kc ks Q (pc + 2) (lo.set a (some (vD r))) st g I L) : Ex M d kc ks Q pc lo (vD r :: st) g I L := by
  cases r with
  | none =>
    intro D K b b0 SA p l e R s m args below meth c H locs cells slots mc ms ls C hc hs hz hS hl
    exact lv_astoreN C.1.1 C.1.2.1 hd hl.has hn rfl (fun ls' h' => k D K b b0 SA p l e R s m args below meth c H locs cells slots mc ms ls' C hc hs hz hS (hl.set (v := vD none) rfl h'))
  | some i =>
    intro D K b b0 SA p l e R s m args below meth c H locs cells slots mc ms ls C hc hs hz hS hl
    exact lv_astore C.1.1 C.1.2.1 hd hl.has hn rfl (fun ls' h' => k D K b b0 SA p l e R s m args below meth c H locs cells slots mc ms ls' C hc hs hz hS (hl.set (v := vD (some i)) rfl h'))
theorem Ex_iinc {a : Nat} {n : Int} {x v : Int32} (hd : decode M.cc pc = .ok (.iinc a n, 3)) (hv : Int32.ofInt n = v) (hn : a < M.nL) (h : lo[a]? = some (some (vI x))) (k : Ex M d kc ks Q (pc + 3) (lo.set a (some (vI (x + v)))) st g I L) : Ex M d kc ks Q pc lo st g I L := by
  intro D K b b0 SA p l e R s m args below meth c H locs cells slots mc ms ls C hc hs hz hS hl
  subst hv
  have hm : (a, Value.int x) ∈ qL (qa b b0) 0 lo := (qL_mem lo 0 _).mpr ⟨a, vI x, h, by rw [Nat.zero_add]; rfl⟩
  obtain ⟨j, hj⟩ := List.getElem?_of_mem hm
  exact lv_iinc C.1.1 C.1.2.1 hd hl.has hj rfl hn rfl (fun ls' h' => k D K b b0 SA p l e R s m args below meth c H locs cells slots mc ms ls' C hc hs hz hS (hl.set (v := vI (x + Int32.ofInt n)) rfl h'))
theorem Ex_if_eq {x : Int32} {off : Int} {tgt : Nat} (hd : decode M.cc pc = .ok (.ifCond .eq off, 3)) (ht : (pc : Int) + off = (tgt : Int)) (kt : x = 0 → Ex M d kc ks Q tgt lo st g I L) (kf : ¬ x = 0 → Ex M d kc ks Q (pc + 3) lo st g I L) : Ex M d kc ks Q pc lo (vI x :: st) g I L := by
  intro D K b b0 SA p l e R s m args below meth c H locs cells slots mc ms ls C hc hs hz hS hl
  exact lv_if_eq C.1.1 C.1.2.1 hd ht (fun q => kt q D K b b0 SA p l e R s m args below meth c H locs cells slots mc ms ls C hc hs hz hS hl) (fun q => kf q D K b b0 SA p l e R s m args below meth c H locs cells slots mc ms ls C hc hs hz hS hl)
theorem Ex_if_ne {x : Int32} {off : Int} {tgt : Nat} (hd : decode M.cc pc = .ok (.ifCond .ne off, 3)) (ht : (pc : Int) + off = (tgt : Int)) (kt : ¬ x = 0 → Ex M d kc ks Q tgt lo st g I L) (kf : x = 0 → Ex M d kc ks Q (pc + 3) lo st g I L) : Ex M d kc ks Q pc lo (vI x :: st) g I L := by
  intro D K b b0 SA p l e R s m args below meth c H locs cells slots mc ms ls C hc hs hz hS hl
  exact lv_if_ne C.1.1 C.1.2.1 hd ht (fun q => kt q D K b b0 SA p l e R s m args below meth c H locs cells slots mc ms ls C hc hs hz hS hl) (fun q => kf q D K b b0 SA p l e R s m args below meth c H locs cells slots mc ms ls C hc hs hz hS hl)
theorem Ex_if_lt {x : Int32} {off : Int} {tgt : Nat} (hd : decode M.cc pc = .ok (.ifCond .lt off, 3)) (ht : (pc : Int) + off = (tgt : Int)) (kt : x < 0 → Ex M d kc ks Q tgt lo st g I L) (kf : ¬ x < 0 → Ex M d kc ks Q (pc + 3) lo st g I L) : Ex M d kc ks Q pc lo (vI x :: st) g I L := by
  intro D K b b0 SA p l e R s m args below meth c H locs cells slots mc ms ls C hc hs hz hS hl
  exact lv_if_lt C.1.1 C.1.2.1 hd ht (fun q => kt q D K b b0 SA p l e R s m args below meth c H locs cells slots mc ms ls C hc hs hz hS hl) (fun q => kf q D K b b0 SA p l e R s m args below meth c H locs cells slots mc ms ls C hc hs hz hS hl)
theorem Ex_if_ge {x : Int32} {off : Int} {tgt : Nat} (hd : decode M.cc pc = .ok (.ifCond .ge off, 3)) (ht : (pc : Int) + off = (tgt : Int)) (kt : 0 ≤ x → Ex M d kc ks Q tgt lo st g I L) (kf : ¬ 0 ≤ x → Ex M d kc ks Q (pc + 3) lo st g I L) : Ex M d kc ks Q pc lo (vI x :: st) g I L := by
  intro D K b b0 SA p l e R s m args below meth c H locs cells slots mc ms ls C hc hs hz hS hl
  exact lv_if_ge C.1.1 C.1.2.1 hd ht (fun q => kt q D K b b0 SA p l e R s m args below meth c H locs cells slots mc ms ls C hc hs hz hS hl) (fun q => kf q D K b b0 SA p l e R s m args below meth c H locs cells slots mc ms ls C hc hs hz hS hl)
theorem Ex_if_gt {x : Int32} {off : Int} {tgt : Nat} (hd : decode M.cc pc = .ok (.ifCond .gt off, 3)) (ht : (pc : Int) + off = (tgt : Int)) (kt : 0 < x → Ex M d kc ks Q tgt lo st g I L) (kf : ¬ 0 < x → Ex M d kc ks Q (pc + 3) lo st g I L) : Ex M d kc ks Q pc lo (vI x :: st) g I L := by
  intro D K b b0 SA p l e R s m args below meth c H locs cells slots mc ms ls C hc hs hz hS hl
  exact lv_if_gt C.1.1 C.1.2.1 hd ht (fun q => kt q D K b b0 SA p l e R s m args below meth c H locs cells slots mc ms ls C hc hs hz hS hl) (fun q => kf q D K b b0 SA p l e R s m args below meth c H locs cells slots mc ms ls C hc hs hz hS hl)
theorem Ex_if_le {x : Int32} {off : Int} {tgt : Nat} (hd : decode M.cc pc = .ok (.ifCond .le off, 3)) (ht : (pc : Int) + off = (tgt : Int)) (kt : x ≤ 0 → Ex M d kc ks Q tgt lo st g I L) (kf : ¬ x ≤ 0 → Ex M d kc ks Q (pc + 3) lo st g I L) : Ex M d kc ks Q pc lo (vI x :: st) g I L := by
  intro D K b b0 SA p l e R s m args below meth c H locs cells slots mc ms ls C hc hs hz hS hl
  exact lv_if_le C.1.1 C.1.2.1 hd ht (fun q => kt q D K b b0 SA p l e R s m args below meth c H locs cells slots mc ms ls C hc hs hz hS hl) (fun q => kf q D K b b0 SA p l e R s m args below meth c H locs cells slots mc ms ls C hc hs hz hS hl)
theorem Ex_icmp_eq {x y : Int32} {off : Int} {tgt : Nat} (hd : decode M.cc pc = .ok (.if_icmp .eq off, 3)) (ht : (pc : Int) + off = (tgt : Int)) (kt : x = y → Ex M d kc ks Q tgt lo st g I L) (kf : ¬ x = y → Ex M d kc ks Q (pc + 3) lo st g I L) : Ex M d kc ks Q pc lo (vI y :: vI x :: st) g I L := by
  intro D K b b0 SA p l e R s m args below meth c H locs cells slots mc ms ls C hc hs hz hS hl
  exact lv_icmp_eq C.1.1 C.1.2.1 hd ht (fun q => kt q D K b b0 SA p l e R s m args below meth c H locs cells slots mc ms ls C hc hs hz hS hl) (fun q => kf q D K b b0 SA p l e R s m args below meth c H locs cells slots mc ms ls C hc hs hz hS hl)
theorem Ex_icmp_ne {x y : Int32} {off : Int} {tgt : Nat} (hd : decode M.cc pc = .ok (.if_icmp .ne off, 3)) (ht : (pc : Int) + off = (tgt : Int)) (kt : ¬ x = y → Ex M d kc ks Q tgt lo st g I L) (kf : x = y → Ex M d kc ks Q (pc + 3) lo st g I L) : Ex M d kc ks Q pc lo (vI y :: vI x :: st) g I L := by
  intro D K b b0 SA p l e R s m args below meth c H locs cells slots mc ms ls C hc hs hz hS hl
  exact lv_icmp_ne C.1.1 C.1.2.1 hd ht (fun q => kt q D K b b0 SA p l e R s m args below meth c H locs cells slots mc ms ls C hc hs hz hS hl) (fun q => kf q D K b b0 SA p l e R s m args below meth c H locs cells slots mc ms ls C hc hs hz hS hl)
theorem Ex_icmp_lt {x y : Int32} {off : Int} {tgt : Nat} (hd : decode M.cc pc = .ok (.if_icmp .lt off, 3)) (ht : (pc : Int) + off = (tgt : Int)) (kt : x < y → Ex M d kc ks Q tgt lo st g I L) (kf : ¬ x < y → Ex M d kc ks Q (pc + 3) lo st g I L) : Ex M d kc ks Q pc lo (vI y :: vI x :: st) g I L := by
  intro D K b b0 SA p l e R s m args below meth c H locs cells slots mc ms ls C hc hs hz hS hl
  exact lv_icmp_lt C.1.1 C.1.2.1 hd ht (fun q => kt q D K b b0 SA p l e R s m args below meth c H locs cells slots mc ms ls C hc hs hz hS hl) (fun q => kf q D K b b0 SA p l e R s m args below meth c H locs cells slots mc ms ls C hc hs hz hS hl)
theorem Ex_icmp_ge {x y : Int32} {off : Int} {tgt : Nat} (hd : decode M.cc pc = .ok (.if_icmp .ge off, 3)) (ht : (pc : Int) + off = (tgt : Int)) (kt : y ≤ x → Ex M d kc ks Q tgt lo st g I L) (kf : ¬ y ≤ x → Ex M d kc ks Q (pc + 3) lo st g I L) : Ex M d kc ks Q pc lo (vI y :: vI x :: st) g I L := by
  intro D K b b0 SA p l e R s m args below meth c H locs cells slots mc ms ls C hc hs hz hS hl
  exact lv_icmp_ge C.1.1 C.1.2.1 hd ht (fun q => kt q D K b b0 SA p l e R s m args below meth c H locs cells slots mc ms ls C hc hs hz hS hl) (fun q => kf q D K b b0 SA p l e R s m args below meth c H locs cells slots mc ms ls C hc hs hz hS hl)
theorem Ex_icmp_gt {x y : Int32} {off : Int} {tgt : Nat} (hd : decode M.cc pc = .ok (.if_icmp .gt off, 3)) (ht : (pc : Int) + off = (tgt : Int)) (kt : y < x → Ex M d kc ks Q tgt lo st g I L) (kf : ¬ y < x → Ex M d kc ks Q (pc + 3) lo st g I L) : Ex M d kc ks Q pc lo (vI y :: vI x :: st) g I L := by
  intro D K b b0 SA p l e R s m args below meth c H locs cells slots mc ms ls C hc hs hz hS hl
  exact lv_icmp_gt C.1.1 C.1.2.1 hd ht (fun q => kt q D K b b0 SA p l e R s m args below meth c H locs cells slots mc ms ls C hc hs hz hS hl) (fun q => kf q D K b b0 SA p l e R s m args below meth c H locs cells slots mc ms ls C hc hs hz hS hl)
theorem Ex_icmp_le {x y : Int32} {off : Int} {tgt : Nat} (hd : decode M.cc pc = .ok (.if_icmp .le off, 3)) (ht : (pc : Int) + off = (tgt : Int)) (kt : x ≤ y → Ex M d kc ks Q tgt lo st g I L) (kf : ¬ x ≤ y → Ex M d kc ks Q (pc + 3) lo st g I L) : Ex M d kc ks Q pc lo (vI y :: vI x :: st) g I L := by
  intro D K b b0 SA p l e R s m args below meth c H locs cells slots mc ms ls C hc hs hz hS hl
  exact lv_icmp_le C.1.1 C.1.2.1 hd ht (fun q => kt q D K b b0 SA p l e R s m args below meth c H locs cells slots mc ms ls C hc hs hz hS hl) (fun q => kf q D K b b0 SA p l e R s m args below meth c H locs cells slots mc ms ls C hc hs hz hS hl)
theorem Ex_ifnullS {i : Nat} {off : Int} (hd : decode M.cc pc = .ok (.ifnull off, 3)) (k : Ex M d kc ks Q (pc + 3) lo st g I L) : Ex M d kc ks Q pc lo (vS i :: st) g I L := by
  intro D K b b0 SA p l e R s m args below meth c H locs cells slots mc ms ls C hc hs hz hS hl
  exact lv_ifnull C.1.1 C.1.2.1 hd (k D K b b0 SA p l e R s m args below meth c H locs cells slots mc ms ls C hc hs hz hS hl)
theorem Ex_ifnullD {i : Nat} {off : Int} (hd : decode M.cc pc = .ok (.ifnull off, 3)) (k : Ex M d kc ks Q (pc + 3) lo st g I L) : Ex M d kc ks Q pc lo (vD (some i) :: st) g I L := by
  intro D K b b0 SA p l e R s m args below meth c H locs cells slots mc ms ls C hc hs hz hS hl
  exact lv_ifnull C.1.1 C.1.2.1 hd (k D K b b0 SA p l e R s m args below meth c H locs cells slots mc ms ls C hc hs hz hS hl)
theorem Ex_ifnullN {off : Int} {tgt : Nat} (hd : decode M.cc pc = .ok (.ifnull off, 3)) (ht : (pc : Int) + off = (tgt : Int)) (k : Ex M d kc ks Q tgt lo st g I L) : Ex M d kc ks Q pc lo (vD none :: st) g I L := by
  intro D K b b0 SA p l e R s m args below meth c H locs cells slots mc ms ls C hc hs hz hS hl
  exact lv_ifnullN C.1.1 C.1.2.1 hd ht (k D K b b0 SA p l e R s m args below meth c H locs cells slots mc ms ls C hc hs hz hS hl)
theorem Ex_ifnonnullS {i : Nat} {off : Int} {tgt : Nat} (hd : decode M.cc pc = .ok (.ifnonnull off, 3)) (ht : (pc : Int) + off = (tgt : Int)) (k : Ex M d kc ks Q tgt lo st g I L) : Ex M d kc ks Q pc lo (vS i :: st) g I L := by
  intro D K b b0 SA p l e R s m args below meth c H locs cells slots mc ms ls C hc hs hz hS hl
  exact lv_ifnonnull C.1.1 C.1.2.1 hd ht (k D K b b0 SA p l e R s m args below meth c H locs cells slots mc ms ls C hc hs hz hS hl)
theorem Ex_ifnonnullD {i : Nat} {off : Int} {tgt : Nat} (hd : decode M.cc pc = .ok (.ifnonnull off, 3)) (ht : (pc : Int) + off = (tgt : Int)) (k : Ex M d kc ks Q tgt lo st g I L) : Ex M d kc ks Q pc lo (vD (some i) :: st) g I L := by
  intro D K b b0 SA p l e R s m args below meth c H locs cells slots mc ms ls C hc hs hz hS hl
  exact lv_ifnonnull C.1.1 C.1.2.1 hd ht (k D K b b0 SA p l e R s m args below meth c H locs cells slots mc ms ls C hc hs hz hS hl)
theorem Ex_ifnonnullN {off : Int} (hd : decode M.cc pc = .ok (.ifnonnull off, 3)) (k : Ex M d kc ks Q (pc + 3) lo st g I L) : Ex M d kc ks Q pc lo (vD none :: st) g I L := by
  intro D K b b0 SA p l e R s m args below meth c H locs cells slots mc ms ls C hc hs hz hS hl
  exact lv_ifnonnullN C.1.1 C.1.2.1 hd (k D K b b0 SA p l e R s m args below meth c H locs cells slots mc ms ls C hc hs hz hS hl)
theorem Ex_tableOut {dflt l0 hi : Int} {offs : Array Int} {len : Nat} {x : Int32} {tgt : Nat} (hd : decode M.cc pc = .ok (.tableswitch dflt l0 hi offs, len)) (h : x.toInt < l0 ∨ hi < x.toInt) (ht : (pc : Int) + dflt = (tgt : Int)) (k : Ex M d kc ks Q tgt lo st g I L) : Ex M d kc ks Q pc lo (vI x :: st) g I L := by
  intro D K b b0 SA p l e R s m args below meth c H locs cells slots mc ms ls C hc hs hz hS hl
  exact lv_tableOut C.1.1 C.1.2.1 hd h ht (k D K b b0 SA p l e R s m args below meth c H locs cells slots mc ms ls C hc hs hz hS hl)
theorem Ex_tableIn {dflt l0 hi : Int} {offs : Array Int} {len : Nat} {x : Int32} {off : Int} {tgt : Nat} (hd : decode M.cc pc = .ok (.tableswitch dflt l0 hi offs, len)) (h1 : ¬ x.toInt < l0) (h2 : ¬ hi < x.toInt) (ho : offs[(x.toInt - l0).toNat]? = some off) (ht : (pc : Int) + off = (tgt : Int)) (k : Ex M d kc ks Q tgt lo st g I L) : Ex M d kc ks Q pc lo (vI x :: st) g I L := by
  intro D K b b0 SA p l e R s m args below meth c H locs cells slots mc ms ls C hc hs hz hS hl
  exact lv_tableIn C.1.1 C.1.2.1 hd h1 h2 ho ht (k D K b b0 SA p l e R s m args below meth c H locs cells slots mc ms ls C hc hs hz hS hl)
/-- ends -/
theorem Ex_ireturn {v : Int32} (hr : M.ret = some .int) (hd : decode M.cc pc = .ok (.ireturn, 1)) (hq : Q (.inl (some (vI v))) g I L) : Ex M d kc ks Q pc lo [vI v] g I L := by
  intro D K b b0 SA p l e R s m args below meth c H locs cells slots mc ms ls C hc hs hz hS hl
  refine W.widen (k := mc) (n := ms) (by omega) (by omega) (vx_ret ?_)
  have hlk := C.1.2.2.2.2.1
  exact W.iret (v := v) C.1.1 C.1.2.1 (C.1.2.2.2.1.trans hr) (fun t ht hW => ⟨⟨some (vI v), g, I, L, rfl, hq, by rw [ht]; exact hz⟩, hS.F ht⟩) hS.2.2 hd
theorem Ex_zreturn {v : Int32} (hr : M.ret = some .boolean) (hv : v = 0 ∨ v = 1) (hd : decode M.cc pc = .ok (.ireturn, 1)) (hq : Q (.inl (some (vI v))) g I L) : Ex M d kc ks Q pc lo [vI v] g I L := by
  intro D K b b0 SA p l e R s m args below meth c H locs cells slots mc ms ls C hc hs hz hS hl
  refine W.widen (k := mc) (n := ms) (by omega) (by omega) (vx_ret ?_)
  have hlk := C.1.2.2.2.2.1
  exact W.zret (v := v) C.1.1 C.1.2.1 (C.1.2.2.2.1.trans hr) (by rcases hv with rfl | rfl <;> rfl) (fun t ht hW => ⟨⟨some (vI v), g, I, L, rfl, hq, by rw [ht]; exact hz⟩, hS.F ht⟩) hS.2.2 hd
theorem Ex_return (hr : M.ret = none) (hd : decode M.cc pc = .ok (.return_, 1)) (hq : Q (.inl none) g I L) : Ex M d kc ks Q pc lo [] g I L := by
  intro D K b b0 SA p l e R s m args below meth c H locs cells slots mc ms ls C hc hs hz hS hl
  refine W.widen (k := mc) (n := ms) (by omega) (by omega) (vx_ret ?_)
  have hlk := C.1.2.2.2.2.1
  exact W.vret C.1.1 C.1.2.1 (C.1.2.2.2.1.trans hr) (fun t ht hW => ⟨⟨none, g, I, L, rfl, hq, by rw [ht]; exact hz⟩, hS.F ht⟩) hS.2.2 hd
theorem Ex_areturn {r : Option Nat} {C0 : String} (hr : M.ret = some (.object C0)) (hd : decode M.cc pc = .ok (.areturn, 1)) (hq : Q (.inl (some (vD r))) g I L) : Ex M d kc ks Q pc lo [vD r] g I L := by
  intro D K b b0 SA p l e R s m args below meth c H locs cells slots mc ms ls C hc hs hz hS hl
  refine W.widen (k := mc) (n := ms) (by omega) (by omega) (vx_ret ?_)
  have hlk := C.1.2.2.2.2.1
  exact W.aret (v := va_rf (r.map (qa b b0))) C.1.1 C.1.2.1 (C.1.2.2.2.1.trans hr) (Or.inl ⟨_, rfl⟩) (by cases r with | none => exact Or.inl rfl | some a => exact Or.inr ⟨_, rfl⟩) (fun t ht hW => ⟨⟨some (vD r), g, I, L, rfl, hq, by rw [ht]; exact hz⟩, hS.F ht⟩) hS.2.2 hd
theorem Ex_mono {Q' : aQ} (h : ∀ o g I L, Q' o g I L → Q o g I L) (k : Ex M d kc ks Q' pc lo st g I L) : Ex M d kc ks Q pc lo st g I L := by
  intro D K b b0 SA p l e R s m args below meth c H locs cells slots mc ms ls C hc hs hz hS hl
  intro T hT X
  obtain ⟨t, a1, o, b1, b2, b3⟩ := k D K b b0 SA p l e R s m args below meth c H locs cells slots mc ms ls C hc hs hz hS hl T hT X
  refine ⟨t, a1, o, b1, b2, ?_⟩
  rcases b3 with ⟨⟨⟨v, g', I', L', e1, e2, e3⟩, e4⟩, e5⟩ | ⟨q, e0, E, ce, L0, ⟨g', I', L', e1, e2, e3⟩, e4⟩
  · exact Or.inl ⟨⟨⟨v, g', I', L', e1, h _ _ _ _ e2, e3⟩, e4⟩, e5⟩
  · exact Or.inr ⟨q, e0, E, ce, L0, ⟨g', I', L', h _ _ _ _ e1, e2, e3⟩, e4⟩
end Rules
