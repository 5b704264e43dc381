/-! the block's soundness -/
def flT : List (String × Nat × Nat × Nat) := [(RX5, 11, 5, 0), (RX5, 15, 5, 1), (RX5, 19, 5, 2), (RX5, 22, 5, 3), (RX5, 25, 5, 4), (RX2, 11, 2, 0), (RX2, 15, 2, 1), (RX2, 18, 2, 2), (RX2, 21, 2, 3), (RX1, 19, 1, 0), (RX8, 152, 1, 0), (RX1, 23, 1, 1), (RX3, 130, 1, 1), (RX1, 27, 1, 2), (RX3, 136, 1, 2), (RX1, 30, 1, 3), (RX3, 211, 1, 3), (RX1, 33, 1, 4), (RX3, 101, 1, 4), (RX1, 36, 1, 5), (RX3, 112, 1, 5), (RX1, 39, 1, 6), (RX3, 105, 1, 6), (RX1, 42, 1, 7), (RX3, 115, 1, 7), (RX3, 12, 3, 0), (RX3, 21, 3, 1), (RX3, 25, 3, 2), (RX3, 34, 3, 3), (RX3, 38, 3, 4), (RX3, 71, 3, 5), (RX3, 42, 3, 6), (RX3, 65, 3, 7), (RX3, 68, 3, 8), (RX6, 11, 6, 0), (RX4, 9, 4, 0), (RX3, 56, 4, 0), (RX8, 106, 4, 0), (RX4, 18, 4, 1), (RX3, 79, 4, 1), (RX8, 127, 4, 1), (RX4, 22, 4, 2), (RX8, 11, 8, 0), (RX8, 18, 8, 1), (RX8, 25, 8, 2), (RX8, 29, 8, 3), (RX8, 32, 8, 4), (RX8, 135, 8, 5), (RX8, 40, 8, 6), (RX7, 7, 7, 0), (RX3, 142, 7, 0), (RX7, 13, 7, 1), (RX3, 197, 7, 1), (RX7, 17, 7, 2), (RX3, 200, 7, 2), (RX7, 20, 7, 3), (RX3, 170, 7, 3), (RX7, 23, 7, 4), (RX3, 174, 7, 4), (RX7, 27, 7, 5), (RX3, 178, 7, 5), (RX7, 40, 7, 6), (RX8, 138, 7, 6), (RX7, 51, 7, 7), (RX8, 92, 7, 7), (RX9, 1, 9, 0), (RX9, 141, 9, 1), (RX9, 13, 9, 2), (RX9, 17, 9, 3), (RX9, 20, 9, 4), (RX9, 23, 9, 5), (RX9, 26, 9, 6), (RX9, 30, 9, 7), (RX9, 33, 9, 8), (RX9, 36, 9, 9), (RX9, 207, 9, 10), (RX9, 39, 9, 11), (RX9, 42, 9, 12), (RX9, 45, 9, 13), (RX9, 191, 9, 14), (RX9, 48, 9, 15), (RX9, 51, 9, 16), (RX9, 54, 9, 17), (RX9, 57, 9, 18), (RX9, 60, 9, 19), (RX9, 63, 9, 20), (RX9, 66, 9, 21), (RX9, 69, 9, 22), (RX9, 72, 9, 23), (RX9, 75, 9, 24), (RX9, 78, 9, 25), (RX9, 81, 9, 26), (RX9, 84, 9, 27), (RX9, 87, 9, 28), (RX9, 194, 9, 29), (RX9, 197, 9, 30), (RX9, 181, 9, 31), (RX9, 184, 9, 32), (RX9, 187, 9, 33), (RX9, 228, 9, 34), (RX9, 231, 9, 35), (RX9, 90, 9, 36), (RX9, 93, 9, 37), (RX9, 96, 9, 38), (RX9, 99, 9, 39), (RX9, 102, 9, 40), (RX9, 105, 9, 41), (RX9, 108, 9, 42), (RX9, 111, 9, 43), (RX9, 114, 9, 44), (RX9, 288, 9, 45), (RX9, 117, 9, 46), (RX9, 120, 9, 47), (RX9, 123, 9, 48), (RX9, 126, 9, 49), (RX9, 129, 9, 50), (RX9, 132, 9, 51), (RX9, 135, 9, 52), (RX9, 138, 9, 53)]
def flW (e : String × Nat × Nat × Nat) : Cond := match qC[e.2.2.1]? with
  | some q => Cond.fieldLink e.1 e.2.1 (q.2.1 e.2.2.2).1 (q.2.1 e.2.2.2).2.1 (q.2.1 e.2.2.2).2.2.1
  | none => .tt
theorem flT_in : gIn (flT.map flW) = true := by decide +kernel
def flN (e : String × Nat × Nat × Nat) : Bool := match qC[e.2.2.1]? with
  | some q => decide (e.2.2.2 < q.2.2)
  | none => false
theorem flT_n : flT.all flN = true := by decide +kernel
def fB (M : aM) (idx a b : Nat) : Bool := flT.any (fun e => Nat.beq e.2.1 idx && (Nat.beq e.2.2.1 a && (Nat.beq e.2.2.2 b && decide (e.1 = M.y.cls))))
theorem fB_ok {M : aM} {idx a b : Nat} (h : fB M idx a b = true) : fOk M idx a b := by
  obtain ⟨e, he, h1⟩ := List.any_eq_true.mp h
  simp only [Bool.and_eq_true, decide_eq_true_eq] at h1
  obtain ⟨h1, h2, h3, h4⟩ := h1
  have h1 := Nat.eq_of_beq_eq_true h1
  have h2 := Nat.eq_of_beq_eq_true h2
  have h3 := Nat.eq_of_beq_eq_true h3
  have hn := List.all_eq_true.mp flT_n e he
  have hw := gT_of flT_in (flW e) (List.mem_map.mpr ⟨e, he, rfl⟩)
  unfold flN at hn
  unfold flW at hw
  rw [h2, h3] at hn
  rw [h2, h3, h1, h4] at hw
  cases hq : qC[a]? with
  | none => rw [hq] at hn; cases hn
  | some q =>
    rw [hq] at hn hw
    exact ⟨q, hq, of_decide_eq_true hn, hw⟩
def tB (pc : Nat) (off : Int) (a : Nat) : Bool := decide ((pc : Int) + off = (a : Int))
def rB (M : aM) (r : aR) : Bool := decide (decode M.cc r.1 = .ok (r.2.1, r.2.2.1)) && (match r with
  | (pc, i, n, x, a, b) => match i with
    | .iconst m => decide (Int32.ofInt m = x) && Nat.beq n 1
    | .bipush m => decide ((Int8.ofInt m).toInt32 = x) && Nat.beq n 2
    | .sipush m => decide ((Int16.ofInt m).toInt32 = x) && Nat.beq n 3
    | .lconst m => decide (Int64.ofNat (m : Nat) = x.toInt64) && Nat.beq n 1
    | .iload_n _ => Nat.beq n 1
    | .iload _ => Nat.beq n 2
    | .aload_n _ => Nat.beq n 1
    | .aload _ => Nat.beq n 2
    | .istore_n j => Nat.beq n 1 && Nat.blt j M.nL
    | .istore j => Nat.beq n 2 && Nat.blt j M.nL
    | .astore_n j => Nat.beq n 1 && Nat.blt j M.nL
    | .astore j => Nat.beq n 2 && Nat.blt j M.nL
    | .iinc j m => Nat.beq n 3 && (Nat.blt j M.nL && decide (Int32.ofInt m = x))
    | .getfield idx => Nat.beq n 3 && fB M idx a b
    | .putfield idx => Nat.beq n 3 && fB M idx a b
    | .goto off => Nat.beq n 3 && tB pc off a
    | .ifCond _ off => Nat.beq n 3 && tB pc off a
    | .if_icmp _ off => Nat.beq n 3 && tB pc off a
    | .ifnull off => Nat.beq n 3 && tB pc off a
    | .ifnonnull off => Nat.beq n 3 && tB pc off a
    | .iadd | .isub | .imul | .iand | .ior | .ixor | .ishl | .ishr | .iushr | .i2l | .lcmp | .dup | .dup2 | .pop | .aconst_null | .iaload | .baload | .iastore | .bastore | .laload | .lastore | .aaload | .arraylength | .ireturn | .areturn | .return_ => Nat.beq n 1
    | _ => true)
def cB (M : aM) : List aR → Bool
  | [] => true
  | r :: l => rB M r && ((match l with
    | [] => true
    | r' :: _ => Nat.beq (r.1 + r.2.2.1) r'.1) && cB M l)
section Sound
variable {T : aT} {M : aM} {d kc ks : Nat} {Q : aQ} {g : aG} {lo : List (Option aV)} {st : List aV} {I : aI} {L : aL}
theorem ldI_ok {a : Nat} {k : Int32 → Prop} (h : ldI lo a k) : ∃ x, lo[a]? = some (some (vI x)) ∧ k x := by
  unfold ldI at h
  rw [nth_eq] at h
  split at h
  · rename_i x hx; exact ⟨x, hx, h⟩
  · exact h.elim
theorem ldA_ok {a : Nat} {k : aV → Prop} (h : ldA lo a k) : (∃ i, lo[a]? = some (some (vS i)) ∧ k (vS i)) ∨ ∃ r, lo[a]? = some (some (vD r)) ∧ k (vD r) := by
  unfold ldA at h
  rw [nth_eq] at h
  split at h
  · rename_i x hx; exact Or.inl ⟨x, hx, h⟩
  · rename_i x hx; exact Or.inr ⟨x, hx, h⟩
  · exact h.elim
theorem beqT {a b : Nat} (h : Nat.beq a b = true) : a = b := Nat.eq_of_beq_eq_true h
theorem bltT {a b : Nat} (h : Nat.blt a b = true) : a < b := Nat.le_of_ble_eq_true h
theorem tBT {pc : Nat} {off : Int} {a : Nat} (h : tB pc off a = true) : (pc : Int) + off = (a : Int) := of_decide_eq_true h
set_option maxHeartbeats 4000000 in
theorem stp_ok {row : aR} {J : Nat → List (Option aV) → List aV → aI → aL → Prop} {k : List (Option aV) → List aV → aI → aL → Prop} (hw : Wf T g) (hJ : ∀ pc lo st I L, J pc lo st I L → Ex M d kc ks Q pc lo st g I L) (hr : rB M row = true) (hk : ∀ lo st I L, k lo st I L → Ex M d kc ks Q (row.1 + row.2.2.1) lo st g I L) (h : stp T M d kc ks Q g J row k lo st I L) : Ex M d kc ks Q row.1 lo st g I L := by
  obtain ⟨pc, i, n, x, a, b⟩ := row
  unfold rB at hr
  simp only [Bool.and_eq_true, decide_eq_true_eq] at hr
  obtain ⟨hd, hr⟩ := hr
  simp only at hk ⊢
  unfold stp at h
  simp only at h
  split at h
  · simp only [Bool.and_eq_true, decide_eq_true_eq] at hr; cases beqT hr.2; exact Ex_iconst hd hr.1 (hk _ _ _ _ h)
  · simp only [Bool.and_eq_true, decide_eq_true_eq] at hr; cases beqT hr.2; exact Ex_bipush hd hr.1 (hk _ _ _ _ h)
  · simp only [Bool.and_eq_true, decide_eq_true_eq] at hr; cases beqT hr.2; exact Ex_sipush hd hr.1 (hk _ _ _ _ h)
  · simp only [Bool.and_eq_true, decide_eq_true_eq] at hr; cases beqT hr.2; exact Ex_lconst hd hr.1 (hk _ _ _ _ h)
  · cases beqT hr; obtain ⟨v, h1, h2⟩ := ldI_ok h; exact Ex_iload_n hd h1 (hk _ _ _ _ h2)
  · cases beqT hr; obtain ⟨v, h1, h2⟩ := ldI_ok h; exact Ex_iload hd h1 (hk _ _ _ _ h2)
  · cases beqT hr; rcases ldA_ok h with ⟨v, h1, h2⟩ | ⟨v, h1, h2⟩; exact Ex_aload_nS hd h1 (hk _ _ _ _ h2); exact Ex_aload_nD hd h1 (hk _ _ _ _ h2)
  · cases beqT hr; rcases ldA_ok h with ⟨v, h1, h2⟩ | ⟨v, h1, h2⟩; exact Ex_aloadS hd h1 (hk _ _ _ _ h2); exact Ex_aloadD hd h1 (hk _ _ _ _ h2)
  · simp only [Bool.and_eq_true] at hr; cases beqT hr.1
    split at h
    · exact Ex_istore_n hd (bltT hr.2) (hk _ _ _ _ (lsetK_eq _ _ _ _ h))
    · exact h.elim
  · simp only [Bool.and_eq_true] at hr; cases beqT hr.1
    split at h
    · exact Ex_istore hd (bltT hr.2) (hk _ _ _ _ (lsetK_eq _ _ _ _ h))
    · exact h.elim
  · simp only [Bool.and_eq_true] at hr; cases beqT hr.1
    split at h
    · exact Ex_astore_nS hd (bltT hr.2) (hk _ _ _ _ (lsetK_eq _ _ _ _ h))
    · exact Ex_astore_nD hd (bltT hr.2) (hk _ _ _ _ (lsetK_eq _ _ _ _ h))
    · exact h.elim
  · simp only [Bool.and_eq_true] at hr; cases beqT hr.1
    split at h
    · exact Ex_astoreS hd (bltT hr.2) (hk _ _ _ _ (lsetK_eq _ _ _ _ h))
    · exact Ex_astoreD hd (bltT hr.2) (hk _ _ _ _ (lsetK_eq _ _ _ _ h))
    · exact h.elim
  · simp only [Bool.and_eq_true, decide_eq_true_eq] at hr; cases beqT hr.1
    obtain ⟨v, h1, h2⟩ := ldI_ok h
    exact Ex_iinc hd hr.2.2 (bltT hr.2.1) h1 (hk _ _ _ _ (lsetK_eq _ _ _ _ h2))
  · cases beqT hr; split at h; exact Ex_iadd hd (hk _ _ _ _ h); exact h.elim
  · cases beqT hr; split at h; exact Ex_isub hd (hk _ _ _ _ h); exact h.elim
  · cases beqT hr; split at h; exact Ex_imul hd (hk _ _ _ _ h); exact h.elim
  · cases beqT hr; split at h; exact Ex_iand hd (hk _ _ _ _ h); exact h.elim
  · cases beqT hr; split at h; exact Ex_ior hd (hk _ _ _ _ h); exact h.elim
  · cases beqT hr; split at h; exact Ex_ixor hd (hk _ _ _ _ h); exact h.elim
  · cases beqT hr; split at h; exact Ex_ishl hd (hk _ _ _ _ h); exact h.elim
  · cases beqT hr; split at h; exact Ex_ishr hd (hk _ _ _ _ h); exact h.elim
  · cases beqT hr; split at h; exact Ex_iushr hd (hk _ _ _ _ h); exact h.elim
  · cases beqT hr; split at h; exact Ex_i2l hd (hk _ _ _ _ h); exact h.elim
  · cases beqT hr; split at h; exact Ex_lcmp hd (hk _ _ _ _ h); exact h.elim
  · cases beqT hr; split at h
    · exact Ex_dup (fun _ q => by cases q) hd (hk _ _ _ _ h)
    · exact Ex_dup (fun _ q => by cases q) hd (hk _ _ _ _ h)
    · exact Ex_dup (fun _ q => by cases q) hd (hk _ _ _ _ h)
    · exact h.elim
  · cases beqT hr; split at h
    · exact Ex_dup2 (fun _ q => by cases q) (fun _ q => by cases q) hd (hk _ _ _ _ h)
    · exact h.elim
  · cases beqT hr; exact Ex_null hd (hk _ _ _ _ h)
  · cases beqT hr; split at h
    · exact Ex_pop (fun _ q => by cases q) hd (hk _ _ _ _ h)
    · exact h.elim
  · simp only [Bool.and_eq_true] at hr; cases beqT hr.1
    have fk := fB_ok hr.2
    split at h
    · rename_i i0 st'
      split at h
      · rename_i ci hci
        cases hbe : Nat.beq ci a with
        | false => rw [hbe] at h; exact h.elim
        | true =>
          rw [hbe] at h
          cases beqT hbe
          obtain ⟨-, h2, h3⟩ := hw i0 _ hci
          cases hI : isI (qt a b) with
          | true => rw [hI] at h; exact Ex_getI fk hI h2 hd (hk _ _ _ _ h)
          | false =>
            rw [hI] at h
            simp only [cond_true, cond_false] at h
            split at h
            · rename_i v hj
              have h9 := hk _ _ _ _ h
              refine Ex_getR fk hI h2 hd ?_
              have h8 := h3 b v hj
              rcases v with y | j | q | y
              · exact h8.elim
              · have h7 : g.2.2 i0 b = some j := h8
                rw [h7]
                exact h9
              · have h7 : g.2.2 i0 b = q := h8
                rw [h7]
                exact h9
              · exact h8.elim
            · exact Ex_getR fk hI h2 hd (hk _ _ _ _ h)
      · exact h.elim
    · obtain ⟨h1, h2⟩ := h
      cases hI : isI (qt a b) with
      | true => rw [hI] at h2; exact Ex_getI fk hI h1 hd (hk _ _ _ _ h2)
      | false => rw [hI] at h2; exact Ex_getR fk hI h1 hd (hk _ _ _ _ h2)
    · exact h.elim
  · simp only [Bool.and_eq_true] at hr; cases beqT hr.1
    have fk := fB_ok hr.2
    cases hc : (isI (qt a b) && !fFin a b) with
    | false => rw [hc] at h; exact h
    | true =>
      rw [hc] at h
      simp only [Bool.and_eq_true, Bool.not_eq_true'] at hc
      simp only [cond_true] at h
      split at h
      · rename_i v i0 st'
        split at h
        · rename_i ci hci
          cases hbe : Nat.beq ci a with
          | false => rw [hbe] at h; exact h.elim
          | true =>
            rw [hbe] at h
            cases beqT hbe
            obtain ⟨h0, h2, h3⟩ := hw i0 _ hci
            simp only [cond_true] at h
            split at h
            · rename_i hty; exact Ex_putI fk (Or.inl hc.2) hc.1 (by rw [hty]; exact h.1) h2 h0 hd (hk _ _ _ _ h.2)
            · rename_i hty; exact Ex_putI fk (Or.inl hc.2) hc.1 (by rw [hty]; trivial) h2 h0 hd (hk _ _ _ _ h)
            · exact h.elim
        · exact h.elim
      · exact Ex_putI fk (Or.inl hc.2) hc.1 h.1.2.2 h.1.1 h.1.2.1 hd (hk _ _ _ _ h.2)
      · exact h.elim
  · cases beqT hr; split at h
    · split at h
      · rename_i hci; obtain ⟨h0, h2, -⟩ := hw _ _ hci; exact Ex_iald h2 h.1 hd (hk _ _ _ _ h.2)
      · exact h.elim
    · obtain ⟨n, h1, h2⟩ := h; exact Ex_iald h1.1 h1.2 hd (hk _ _ _ _ h2)
    · exact h.elim
  · cases beqT hr; split at h
    · split at h
      · rename_i hci; obtain ⟨h0, h2, -⟩ := hw _ _ hci; exact Ex_zald h2 h.1 hd (hk _ _ _ _ h.2)
      · exact h.elim
    · exact h.elim
  · cases beqT hr; split at h
    · split at h
      · rename_i hci; obtain ⟨h0, h2, -⟩ := hw _ _ hci; exact Ex_iast h2 h0 h.1 hd (hk _ _ _ _ h.2)
      · exact h.elim
    · obtain ⟨n, h1, h2⟩ := h; exact Ex_iast h1.1 h1.2.1 h1.2.2 hd (hk _ _ _ _ h2)
    · exact h.elim
  · cases beqT hr; split at h
    · split at h
      · rename_i hci; obtain ⟨h0, h2, -⟩ := hw _ _ hci; exact Ex_zast h2 h0 h.1.2 h.1.1 hd (hk _ _ _ _ h.2)
      · exact h.elim
    · exact h.elim
  · cases beqT hr; split at h
    · split at h
      · rename_i hci; obtain ⟨h0, h2, -⟩ := hw _ _ hci; exact Ex_lald h2 h.1 hd (hk _ _ _ _ h.2)
      · exact h.elim
    · exact h.elim
  · cases beqT hr; split at h
    · split at h
      · rename_i hci; obtain ⟨h0, h2, -⟩ := hw _ _ hci; exact Ex_last h2 h0 h.1 hd (hk _ _ _ _ h.2)
      · exact h.elim
    · exact h.elim
  · cases beqT hr; split at h
    · split at h
      · rename_i hci; obtain ⟨h0, h2, -⟩ := hw _ _ hci; exact Ex_aald h.1 h2 h.2.1 hd (hk _ _ _ _ h.2.2)
      · exact h.elim
    · obtain ⟨n, T0, h1, h2⟩ := h; exact Ex_aald h1.1 h1.2.1 h1.2.2 hd (hk _ _ _ _ h2)
    · exact h.elim
  · cases beqT hr; split at h
    · split at h
      · rename_i hci; obtain ⟨h0, h2, -⟩ := hw _ _ hci; exact Ex_alen (by simp [qTy]) h2 hd (hk _ _ _ _ h)
      · exact h.elim
    · obtain ⟨ty, n, h1, h2⟩ := h; exact Ex_alen h1.1 h1.2 hd (hk _ _ _ _ h2)
    · exact h.elim
  · simp only [Bool.and_eq_true] at hr; cases beqT hr.1; exact Ex_goto hd (tBT hr.2) (hJ _ _ _ _ _ h)
  · simp only [Bool.and_eq_true] at hr; cases beqT hr.1
    split at h
    · split at h
      · exact Ex_if_eq hd (tBT hr.2) (fun q => hJ _ _ _ _ _ (h.1 q)) (fun q => hJ _ _ _ _ _ (h.2 q))
      · exact Ex_if_ne hd (tBT hr.2) (fun q => hJ _ _ _ _ _ (h.2 q)) (fun q => hJ _ _ _ _ _ (h.1 q))
      · exact Ex_if_lt hd (tBT hr.2) (fun q => hJ _ _ _ _ _ (h.1 q)) (fun q => hJ _ _ _ _ _ (h.2 q))
      · exact Ex_if_ge hd (tBT hr.2) (fun q => hJ _ _ _ _ _ (h.1 q)) (fun q => hJ _ _ _ _ _ (h.2 q))
      · exact Ex_if_gt hd (tBT hr.2) (fun q => hJ _ _ _ _ _ (h.1 q)) (fun q => hJ _ _ _ _ _ (h.2 q))
      · exact Ex_if_le hd (tBT hr.2) (fun q => hJ _ _ _ _ _ (h.1 q)) (fun q => hJ _ _ _ _ _ (h.2 q))
    · exact h.elim
  · simp only [Bool.and_eq_true] at hr; cases beqT hr.1
    split at h
    · split at h
      · exact Ex_icmp_eq hd (tBT hr.2) (fun q => hJ _ _ _ _ _ (h.1 q)) (fun q => hJ _ _ _ _ _ (h.2 q))
      · exact Ex_icmp_ne hd (tBT hr.2) (fun q => hJ _ _ _ _ _ (h.2 q)) (fun q => hJ _ _ _ _ _ (h.1 q))
      · exact Ex_icmp_lt hd (tBT hr.2) (fun q => hJ _ _ _ _ _ (h.1 q)) (fun q => hJ _ _ _ _ _ (h.2 q))
      · exact Ex_icmp_ge hd (tBT hr.2) (fun q => hJ _ _ _ _ _ (h.1 q)) (fun q => hJ _ _ _ _ _ (h.2 q))
      · exact Ex_icmp_gt hd (tBT hr.2) (fun q => hJ _ _ _ _ _ (h.1 q)) (fun q => hJ _ _ _ _ _ (h.2 q))
      · exact Ex_icmp_le hd (tBT hr.2) (fun q => hJ _ _ _ _ _ (h.1 q)) (fun q => hJ _ _ _ _ _ (h.2 q))
    · exact h.elim
  · simp only [Bool.and_eq_true] at hr; cases beqT hr.1
    split at h
    · exact Ex_ifnullS hd (hJ _ _ _ _ _ h)
    · exact Ex_ifnullD hd (hJ _ _ _ _ _ h)
    · exact Ex_ifnullN hd (tBT hr.2) (hJ _ _ _ _ _ h)
    · exact h.elim
  · simp only [Bool.and_eq_true] at hr; cases beqT hr.1
    split at h
    · exact Ex_ifnonnullS hd (tBT hr.2) (hJ _ _ _ _ _ h)
    · exact Ex_ifnonnullD hd (tBT hr.2) (hJ _ _ _ _ _ h)
    · exact Ex_ifnonnullN hd (hJ _ _ _ _ _ h)
    · exact h.elim
  · cases beqT hr; split at h
    · split at h
      · rename_i hret; exact Ex_ireturn hret hd h
      · rename_i hret; exact Ex_zreturn hret h.1 hd h.2
      · exact h.elim
    · exact h.elim
  · cases beqT hr; split at h
    · split at h
      · rename_i hret; exact Ex_areturn hret hd h
      · exact h.elim
    · split at h
      · rename_i hret; exact Ex_areturn (r := some _) hret hd h
      · exact h.elim
    · exact h.elim
  · cases beqT hr; split at h
    · split at h
      · rename_i hret; exact Ex_return hret hd h
      · exact h.elim
    · exact h.elim
  · exact h
theorem bx_ok {J : Nat → List (Option aV) → List aV → aI → aL → Prop} (hw : Wf T g) (hJ : ∀ pc lo st I L, J pc lo st I L → Ex M d kc ks Q pc lo st g I L) : ∀ (r : List aR), cB M r = true → ∀ (lo : List (Option aV)) (st : List aV) (I : aI) (L : aL), bx T M d kc ks Q g J r lo st I L → ∃ row l, r = row :: l ∧ Ex M d kc ks Q row.1 lo st g I L := by
  intro r
  induction r with
  | nil => intro _ lo st I L h; exact h.elim
  | cons row l ih =>
    intro hc lo st I L h
    unfold cB at hc
    simp only [Bool.and_eq_true] at hc
    refine ⟨row, l, rfl, stp_ok hw hJ hc.1 (fun lo st I L h2 => ?_) h⟩
    obtain ⟨row', l', e, h3⟩ := ih hc.2.2 lo st I L h2
    subst e
    rw [beqT hc.2.1]
    exact h3
theorem fr_ok {M : aM} : ∀ (r : List aR) (pc : Nat), cB M r = true → cB M (fr r pc) = true ∧ ∀ row l, fr r pc = row :: l → row.1 = pc := by
  intro r
  induction r with
  | nil => intro pc h; exact ⟨h, fun row l e => by cases e⟩
  | cons row l ih =>
    intro pc h
    unfold fr
    cases hb : Nat.beq row.1 pc with
    | true =>
      simp only [cond_true]
      exact ⟨h, fun row' l' e => by cases e; exact beqT hb⟩
    | false =>
      simp only [cond_false]
      unfold cB at h
      simp only [Bool.and_eq_true] at h
      exact ih pc h.2.2
theorem Ex_bj {pc : Nat} {J : Nat → List (Option aV) → List aV → aI → aL → Prop} (hM : cB M M.code = true) (hw : Wf T g) (hJ : ∀ pc lo st I L, J pc lo st I L → Ex M d kc ks Q pc lo st g I L) (h : bx T M d kc ks Q g J (fr M.code pc) lo st I L) : Ex M d kc ks Q pc lo st g I L := by
  obtain ⟨h1, h2⟩ := fr_ok (M := M) M.code pc hM
  obtain ⟨row, l, e, h3⟩ := bx_ok hw hJ _ h1 lo st I L h
  rw [← h2 row l e]
  exact h3
theorem Ex_blk {pc : Nat} (hM : cB M M.code = true) (hw : Wf T g) (h : bx T M d kc ks Q g (fun pc lo st I L => Ex M d kc ks Q pc lo st g I L) (fr M.code pc) lo st I L) : Ex M d kc ks Q pc lo st g I L := Ex_bj hM hw (fun _ _ _ _ _ h => h) h
theorem Ex_wx (cuts : List Nat) (f : Nat) (hM : cB M M.code = true) (hw : Wf T g) : ∀ {pc : Nat} {lo : List (Option aV)} {st : List aV} {I : aI} {L : aL}, wx T M d kc ks Q g cuts f pc lo st I L → Ex M d kc ks Q pc lo st g I L := by
  induction f with
  | zero => intro pc lo st I L h; exact h
  | succ f ih =>
    intro pc lo st I L h
    refine Ex_bj hM hw (fun pc' lo st I L h2 => ?_) h
    cases hc : hasN cuts pc' with
    | true => rw [hc] at h2; exact h2
    | false => rw [hc] at h2; exact ih h2
theorem bn_ok {J : Nat → List (Option aV) → List aV → aI → aL → Prop} (hw : Wf T g) (hJ : ∀ pc lo st I L, J pc lo st I L → Ex M d kc ks Q pc lo st g I L) : ∀ (n : Nat) (r : List aR), cB M r = true → ∀ (lo : List (Option aV)) (st : List aV) (I : aI) (L : aL), bn T M d kc ks Q g J n r lo st I L → ∃ row l, r = row :: l ∧ Ex M d kc ks Q row.1 lo st g I L := by
  intro n
  induction n with
  | zero =>
    intro r hc lo st I L h
    cases r with
    | nil => exact h.elim
    | cons row l => exact ⟨row, l, rfl, h⟩
  | succ n ih =>
    intro r hc lo st I L h
    cases r with
    | nil => exact h.elim
    | cons row l =>
      unfold cB at hc
      simp only [Bool.and_eq_true] at hc
      refine ⟨row, l, rfl, stp_ok hw hJ hc.1 (fun lo st I L h2 => ?_) h⟩
      obtain ⟨row', l', e, h3⟩ := ih l hc.2.2 lo st I L h2
      subst e
      rw [beqT hc.2.1]
      exact h3
theorem Ex_bn (n : Nat) {pc : Nat} (hM : cB M M.code = true) (hw : Wf T g) (h : bn T M d kc ks Q g (fun pc lo st I L => Ex M d kc ks Q pc lo st g I L) n (fr M.code pc) lo st I L) : Ex M d kc ks Q pc lo st g I L := by
  obtain ⟨h1, h2⟩ := fr_ok (M := M) M.code pc hM
  obtain ⟨row, l, e, h3⟩ := bn_ok hw (fun _ _ _ _ _ h => h) n _ h1 lo st I L h
  rw [← h2 row l e]
  exact h3
end Sound
