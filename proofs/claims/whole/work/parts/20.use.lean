/-! calls, as they are used -/
section Use2
variable {M N : aM} {d d' kc ks kc' ks' : Nat} {Q Q' : aQ} {pc idx n ci i : Nat} {own : String} {lo : List (Option aV)} {st As av : List aV} {g g' : aG} {I I' : aI} {L L' : aL} {v : Option aV}
theorem vOk.c (ok : vOk own N idx n ci) (ho : M.y.cls = own) : cOk M N idx n := by
  subst ho
  obtain ⟨h1, h2, h3, h4, h5, h6, -⟩ := ok
  exact ⟨h1, h2, h3, h6.1, h6.2⟩
theorem sOk.c (ok : sOk own N idx n) (ho : M.y.cls = own) : cOk M N idx n := by
  subst ho
  obtain ⟨h1, h2, h3, h4, h6⟩ := ok
  exact ⟨h1, h2, h3, h6.1, h6.2⟩
theorem iOk.c (ok : iOk own N idx n) (ho : M.y.cls = own) : cOk M N idx n := by
  subst ho
  obtain ⟨h1, h2, h3, h4, h6, -⟩ := ok
  exact ⟨h1, h2, h3, h6.1, h6.2⟩
theorem sHOk.c (ok : sHOk own N idx n) (ho : M.y.cls = own) : hOk M N idx n := by
  subst ho
  obtain ⟨h1, h2, h3, h4, h6⟩ := ok
  exact ⟨h1, h2, h3, h6.1, h6.2⟩
/-- an instance method: any outcome -/
theorem Ex_cV (ok : vOk own N idx n ci) (ho : M.y.cls = own) (hn : As.length = n) (hi : g.2.1 i = some (.inl ci)) (hM : Mx N d' kc' ks' (vS i :: As) g I L Q') (hd' : d' + 1 ≤ d) (hst : Nat.ble (catL st) 8 = true) (hd : decode M.cc pc = .ok (.invokevirtual idx, 3))
    (kk : ∀ v g' I' L', Q' (.inl v) g' I' L' → Ex M d kc ks Q (pc + 3) lo (v.toList ++ st) g' I' L') (kx : ∀ E g' I' L', Q' (.inr E) g' I' L' → Xx M d kc ks Q pc lo E g' I' L') : Ex M d (kc + kc') (ks + ks') Q pc lo (As.reverse ++ vS i :: st) g I L := by
  subst hn
  have ok1 := ok.c (M := M) ho
  obtain ⟨h1, h2, h3, h4, h5, h6, q, h7, h8⟩ := ok
  exact Ex_callV ok1 h4 h5 h7 h8 hi hM hd' (Nat.le_of_ble_eq_true hst) hd kk kx
/-- an instance method that returns -/
theorem Ex_v (ok : vOk own N idx n ci) (ho : M.y.cls = own) (hn : As.length = n) (hM : Mx N d' 0 0 (vS i :: As) g I L (qV v g' I' L')) (hi : g.2.1 i = some (.inl ci)) (hd' : d' + 1 ≤ d) (hst : Nat.ble (catL st) 8 = true) (hd : decode M.cc pc = .ok (.invokevirtual idx, 3))
    (kk : Ex M d kc ks Q (pc + 3) lo (v.toList ++ st) g' I' L') : Ex M d kc ks Q pc lo (As.reverse ++ vS i :: st) g I L := by
  refine Ex_cV (kc := kc) (ks := ks) (kc' := 0) (ks' := 0) ok ho hn hi hM hd' hst hd ?_ ?_
  · rintro _ _ _ _ ⟨e, rfl, rfl, rfl⟩
    cases e
    exact kk
  · rintro _ _ _ _ ⟨e, -⟩
    cases e
theorem Ex_cS (ok : sOk own N idx n) (ho : M.y.cls = own) (hn : As.length = n) (hM : Mx N d' kc' ks' As g I L Q') (hd' : d' + 1 ≤ d) (hst : Nat.ble (catL st) 8 = true) (hd : decode M.cc pc = .ok (.invokestatic idx, 3))
    (kk : ∀ v g' I' L', Q' (.inl v) g' I' L' → Ex M d kc ks Q (pc + 3) lo (v.toList ++ st) g' I' L') (kx : ∀ E g' I' L', Q' (.inr E) g' I' L' → Xx M d kc ks Q pc lo E g' I' L') : Ex M d (kc + kc') (ks + ks') Q pc lo (As.reverse ++ st) g I L := by
  subst hn
  exact Ex_callS (ok.c ho) ok.2.2.2.1 hM hd' (Nat.le_of_ble_eq_true hst) hd kk kx
theorem Ex_s (ok : sOk own N idx n) (ho : M.y.cls = own) (hn : As.length = n) (hM : Mx N d' 0 0 As g I L (qV v g' I' L')) (hd' : d' + 1 ≤ d) (hst : Nat.ble (catL st) 8 = true) (hd : decode M.cc pc = .ok (.invokestatic idx, 3))
    (kk : Ex M d kc ks Q (pc + 3) lo (v.toList ++ st) g' I' L') : Ex M d kc ks Q pc lo (As.reverse ++ st) g I L := by
  refine Ex_cS (kc := kc) (ks := ks) (kc' := 0) (ks' := 0) ok ho hn hM hd' hst hd ?_ ?_
  · rintro _ _ _ _ ⟨e, rfl, rfl, rfl⟩
    cases e
    exact kk
  · rintro _ _ _ _ ⟨e, -⟩
    cases e
theorem Ex_ctor (ok : iOk own N idx n) (ho : M.y.cls = own) (hn : As.length = n) (hM : Mx N d' kc' ks' (vD (some i) :: As) g I L (qV none g' I' L')) (hd' : d' + 1 ≤ d) (hst : Nat.ble (catL st) 8 = true) (hd : decode M.cc pc = .ok (.invokespecial idx, 3))
    (kk : Ex M d kc ks Q (pc + 3) lo st g' I' L') : Ex M d (kc + kc') (ks + ks') Q pc lo (As.reverse ++ vD (some i) :: st) g I L := by
  subst hn
  refine Ex_callI (ok.c ho) ok.2.2.2.2.2.1 ok.2.2.2.2.2.2 ok.2.2.2.1 hM (fun E g I L h => by cases h.1) hd' (Nat.le_of_ble_eq_true hst) hd ?_
  rintro _ _ _ _ ⟨e, rfl, rfl, rfl⟩
  cases e
  exact kk
theorem Mx_d {av : List aV} (h : Mx N d kc ks av g I L Q) : Mx N d kc ks av g I L Q := h
/-- the decode of a row of code -/
def dc (M : aM) (pc : Nat) : Option (Instr × Nat) := match fr M.code pc with
  | [] => none
  | r :: _ => some (r.2.1, r.2.2.1)
theorem dc_ok {M : aM} {i : Instr} {n : Nat} (hM : cB M M.code = true) (h : dc M pc = some (i, n)) : decode M.cc pc = .ok (i, n) := by
  unfold dc at h
  obtain ⟨h1, h2⟩ := fr_ok (M := M) M.code pc hM
  cases hf : fr M.code pc with
  | nil => rw [hf] at h; cases h
  | cons r l =>
    rw [hf] at h h1
    have e := h2 r l hf
    unfold cB at h1
    simp only [Bool.and_eq_true] at h1
    have hr := h1.1
    unfold rB at hr
    simp only [Bool.and_eq_true, decide_eq_true_eq] at hr
    rw [← e, hr.1]
    have h3 : (r.2.1, r.2.2.1) = (i, n) := Option.some.inj h
    cases h3
    rfl
end Use2
