/-! new cells -/
def g_add (g : aG) (c : aSh) : aG := (g.1 + 1, up1 g.2.1 g.1 (some c), fun j k => if j = g.1 then none else g.2.2 j k)
def I_add (g : aG) (I : aI) : aI := fun j k => if j = g.1 then 0 else I j k
def L_add (g : aG) (L : aL) : aL := fun j => if j = g.1 then 0 else L j
theorem qz.add {D : va_G} {K : FieldType → ClassId} {b b0 : Nat} {g : aG} {I : aI} {L : aL} {H H1 : Heap} {c : aSh} (hz : qz D K b b0 g I L H) (hb : b < b0) (hs : H1.size = H.size + 1) (ho : ∀ q, q < H.size → H1[q]? = H[q]?)
    (hself : qc D K (qa b b0) (g_add g c).2.2 (I_add g I) (L_add g L) H1 g.1 c) : qz D K b b0 (g_add g c) (I_add g I) (L_add g L) H1 := by
  obtain ⟨⟨h1, h2, h3⟩, h4⟩ := hz
  refine ⟨⟨?_, Nat.succ_pos _, fun i hi => ?_⟩, fun j c' hj => ?_⟩
  · show qa b b0 (g.1 + 1) = H1.size
    rw [hs, ← h1]
    obtain ⟨n, hn⟩ : ∃ n, g.1 = n + 1 := ⟨g.1 - 1, by omega⟩
    rw [hn]
    simp only [qa]
    omega
  · have hi' : g.1 + 1 ≤ i := hi
    show up1 g.2.1 g.1 (some c) i = none
    unfold up1
    rw [if_neg (by omega)]
    exact h3 i (by omega)
  · by_cases e : j = g.1
    · subst e
      have e2 : up1 g.2.1 g.1 (some c) g.1 = some c' := hj
      unfold up1 at e2
      rw [if_pos rfl] at e2
      cases e2
      exact hself
    · have e2 : up1 g.2.1 g.1 (some c) j = some c' := hj
      unfold up1 at e2
      rw [if_neg e] at e2
      have hq := h4 j c' e2
      refine qc_other (fun k => by simp [I_add, e]) (fun k => by simp [g_add, e]) (by simp [L_add, e]) (ho _ ?_) hq
      rcases c' with ci | ⟨ty, n⟩
      · obtain ⟨r, -, cell, q1, -⟩ := hq
        exact (Array.getElem?_eq_some_iff.mp q1).1
      · by_cases h0 : j = 0
        · have hq' : (if j = 0 then ty = .int ∧ scr (qa b b0 j) n (I j) H else _) := hq
          rw [if_pos h0] at hq'
          obtain ⟨-, cell, q1, -⟩ := hq'
          exact (Array.getElem?_eq_some_iff.mp q1).1
        · have hq' : (if j = 0 then _ else H[qa b b0 j]? = some (arrV (K ty) n (qE (qa b b0) I g.2.2 L ty j))) := hq
          rw [if_neg h0] at hq'
          exact (Array.getElem?_eq_some_iff.mp hq').1
theorem va_Snew {A : Nat → Prop} {H0 H H1 : Heap} {locs : List Loc} (hS : va_S A H0 H locs) (hs : H1.size = H.size + 1) (ho : ∀ q, q < H.size → H1[q]? = H[q]?) : va_S A H0 H1 locs :=
  ⟨Nat.le_trans hS.1 (by omega), fun x h1 h2 => (ho x (Nat.lt_of_lt_of_le h1 hS.1)).trans (hS.2.1 x h1 h2), hS.2.2⟩
theorem qty_two : ∀ (ci : Nat) (q : vw_C), qC[ci]? = some q → ∀ k, k < q.2.2 → (isI (qt ci k) || isRt (qt ci k)) = true := by
  intro ci q h
  match ci, h with
  | 0, h => cases h; decide
  | 1, h => cases h; decide
  | 2, h => cases h; decide
  | 3, h => cases h; decide
  | 4, h => cases h; decide
  | 5, h => cases h; decide
  | 6, h => cases h; decide
  | 7, h => cases h; decide
  | 8, h => cases h; decide
  | 9, h => cases h; decide +kernel
  | n + 10, h => simp at h
section Alloc
variable {M : aM} {d kc ks : Nat} {Q : aQ} {pc : Nat} {lo : List (Option aV)} {st : List aV} {g : aG} {I : aI} {L : aL}
theorem Ex_new {ci idx : Nat} {q : vw_C} (hq : qC[ci]? = some q) (w1 : Cond.classLink M.y.cls idx q.1 ∈ gT) (w2 : Cond.instantiable q.1 q.2.2 ∈ gT) (w3 : Cond.initialized q.1 ∈ gT) (hd : decode M.cc pc = .ok (.new idx, 3))
    (kk : Ex M d kc ks Q (pc + 3) lo (vD (some g.1) :: st) (g_add g (.inl ci)) (I_add g I) (L_add g L)) : Ex M d (kc + 1) (ks + q.2.2) Q pc lo st g I L := by
  intro D K b b0 SA p l e R s m args below meth c H locs cells slots mc ms ls C hc hs hz hS hl
  have hKn := C.2.2.2.2.2.2.1.1 ci _ hq
  have hR := C.2.2.2.1
  refine W.newcK C.1.1 C.1.2.1 C.1.2.2.2.2.2.1 (C.2.1 _ w1) (C.2.1 _ w2) (C.2.1 _ w3) rfl hd (by omega) (by omega) hKn.2.1 hz.1.1.symm fun H1 kC hkC e1 e2 e3 => ?_
  have hz0 : H.size = qa b b0 g.1 := hz.1.1.symm
  rw [← hz0] at e2 e3
  have hb := u_born (qt ci) C.2.1 (qW ci _ hq) hKn hkC e1 (qty_ok ci _ hq)
  have hz' := hz.add (c := .inl ci) C.2.2.2.2.2.1.1 e2 e3 ⟨q, hq, hb.to (fun k hk => by
    unfold qF I_add g_add
    simp only [if_true]
    have h9 := qty_two ci q hq k hk
    cases h : qt ci k <;> rw [h] at h9 <;> first | rfl | (exact absurd h9 (by simp [isI, isRt])))⟩
  exact kk D K b b0 SA p l e R s m args below meth c H1 locs (cells + 1) (slots + q.2.2) mc ms ls C (by omega) (by omega) hz' (va_Snew hS e2 e3) hl
theorem Ex_newarr {aty : ArrayType} {ty : FieldType} {n : Int32} {N : Nat} (hty : newarray.typeOf aty = ty) (hT : ty = .int ∨ ty = .boolean ∨ ty = .long) (w1 : Cond.arrayClass ty ∈ gT) (hn : ¬ n < 0) (hN : n.toNatClampNeg = N) (hby : N * componentBytes ty ≤ 536870912) (hd : decode M.cc pc = .ok (.newarray aty, 2))
    (kk : Ex M d kc ks Q (pc + 2) lo (vD (some g.1) :: st) (g_add g (.inr (ty, N))) (I_add g I) (L_add g L)) : Ex M d (kc + 1) (ks + N) Q pc lo (vI n :: st) g I L := by
  intro D K b b0 SA p l e R s m args below meth c H locs cells slots mc ms ls C hc hs hz hS hl
  subst hty
  have hR := C.2.2.2.1
  refine va_newaK C.1.1 C.1.2.1 (C.2.1 _ w1) rfl hd rfl hn hN hby (by omega) (by omega) hz.1.1.symm fun H1 cA e1 e2 e3 hAr hNm => ?_
  have hz0 : H.size = qa b b0 g.1 := hz.1.1.symm
  rw [← hz0] at e2 e3
  have hm : newarray.typeOf aty ∈ qTy := by rcases hT with h | h | h <;> rw [h] <;> simp [qTy]
  have hKA := (C.2.2.2.2.2.2.1.2.1 _ hm).2
  have hcA : cA = K (newarray.typeOf aty) := by
    rcases hT with h | h | h <;> rw [h] at hKA hNm ⊢ <;> exact Option.some.inj (hNm.symm.trans hKA)
  have hz' := hz.add (c := .inr (newarray.typeOf aty, N)) C.2.2.2.2.2.1.1 e2 e3 (by
    show (if g.1 = 0 then _ else H1[qa b b0 g.1]? = some (arrV (K (newarray.typeOf aty)) N (qE (qa b b0) (I_add g I) (g_add g (.inr (newarray.typeOf aty, N))).2.2 (L_add g L) (newarray.typeOf aty) g.1)))
    rw [if_neg (Nat.ne_of_gt hz.1.2.1), e1, hcA]
    congr 2
    funext k
    rcases hT with h | h | h <;> rw [h] <;> simp [qE, I_add, L_add, defaultValue])
  exact kk D K b b0 SA p l e R s m args below meth c H1 locs (cells + 1) (slots + N) mc ms ls C (by omega) (by omega) hz' (va_Snew hS e2 e3) hl
theorem Ex_anew {T0 : String} {idx : Nat} {n : Int32} {N : Nat} (hT : T0 = RX7 ∨ T0 = RX6) (w1 : Cond.classLink M.y.cls idx T0 ∈ gT) (hn : ¬ n < 0) (hN : n.toNatClampNeg = N) (hby : N * 4 ≤ 536870912) (hd : decode M.cc pc = .ok (.anewarray idx, 3))
    (kk : Ex M d kc ks Q (pc + 3) lo (vD (some g.1) :: st) (g_add g (.inr (.object T0, N))) (I_add g I) (L_add g L)) : Ex M d (kc + 1) (ks + N) Q pc lo (vI n :: st) g I L := by
  intro D K b b0 SA p l e R s m args below meth c H locs cells slots mc ms ls C hc hs hz hS hl
  subst hN
  have hR := C.2.2.2.1
  have hKv := C.2.2.2.2.2.2.1
  have hAO : va_AO T0 s := by rcases hT with rfl | rfl; exact hKv.2.2.2.2.2.2.2.1; exact hKv.2.2.2.2.2.2.2.2
  refine W.anew C.1.1 C.1.2.1 C.1.2.2.2.2.2.1 (C.2.1 _ w1) (va_AO.use hAO) rfl hd rfl hn hby (by omega) (by omega) fun cA kA comp f1 f2 f3 f4 => ?_
  generalize hH1 : H.push ({ cls := cA, slots := Array.replicate n.toNatClampNeg .null, vm := .none } : Cell) = H1
  have e2 : H1.size = H.size + 1 := by rw [← hH1, Array.size_push]
  have e1 : H1[H.size]? = some (arrV cA n.toNatClampNeg (fun _ => .null)) := by rw [← hH1, Array.getElem?_push_size, ← arrV_new]
  have e3 : ∀ q : Nat, q < H.size → H1[q]? = H[q]? := fun q hq => by rw [← hH1, Array.getElem?_push, if_neg (Nat.ne_of_lt hq)]
  have hm : FieldType.object T0 ∈ qTy := by rcases hT with h | h <;> rw [h] <;> simp [qTy]
  obtain ⟨kA2, comp2, k1, k2, k3, k4⟩ := (hKv.2.1 _ hm).2
  have hcA : cA = K (.object T0) := Option.some.inj (f1.symm.trans k4)
  have hz' := hz.add (c := .inr (.object T0, n.toNatClampNeg)) C.2.2.2.2.2.1.1 e2 e3 (by
    show (if g.1 = 0 then _ else H1[qa b b0 g.1]? = some (arrV (K (.object T0)) n.toNatClampNeg (qE (qa b b0) (I_add g I) (g_add g (.inr (.object T0, n.toNatClampNeg))).2.2 (L_add g L) (.object T0) g.1)))
    rw [if_neg (Nat.ne_of_gt hz.1.2.1), hz.1.1, e1, hcA]
    congr 2
    funext k
    simp [qE, g_add, va_rf])
  have hk := kk D K b b0 SA p l e R s m args below meth c H1 locs (cells + 1) (slots + n.toNatClampNeg) mc ms ls C (by omega) (by omega) hz' (va_Snew hS e2 e3) hl
  have e9 : (Value.ref H.size :: st.map (cv (qa b b0))) = (vD (some g.1) :: st).map (cv (qa b b0)) := by
    show _ = Value.ref (qa b b0 g.1) :: _
    rw [hz.1.1]
  exact e9 ▸ hk
end Alloc
