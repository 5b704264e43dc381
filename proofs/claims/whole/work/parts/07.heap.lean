/-! fields and arrays -/
theorem qa_inj {b b0 i j : Nat} (h : b < b0) (e : qa b b0 i = qa b b0 j) : i = j := by
  cases i <;> cases j <;> simp only [qa] at e <;> omega
theorem qW : ∀ (ci : Nat) (q : vw_C), qC[ci]? = some q → ∀ w ∈ u_ws q.1 q.2.1 q.2.2, w ∈ gT := by
  intro ci q h
  match ci, h with
  | 0, h => cases h; exact gT_of gX1
  | 1, h => cases h; exact gT_of gX1
  | 2, h => cases h; exact gT_of gX2
  | 3, h => cases h; exact gT_of gX3
  | 4, h => cases h; exact gT_of gX4
  | 5, h => cases h; exact gT_of gX5
  | 6, h => cases h; exact gT_of gX6
  | 7, h => cases h; exact gT_of gX7
  | 8, h => cases h; exact gT_of gX8
  | 9, h => cases h; exact gT_of gX9
  | n + 10, h => simp at h
theorem qty_ok : ∀ (ci : Nat) (q : vw_C), qC[ci]? = some q → ∀ k, k < q.2.2 → parseFieldDescriptor (q.2.1 k).2.2.1 = some (qt ci k) := by
  intro ci q h
  match ci, h with
  | 0, h => cases h; exact tyX1_ok
  | 1, h => cases h; exact tyX1_ok
  | 2, h => cases h; exact tyX2_ok
  | 3, h => cases h; exact tyX3_ok
  | 4, h => cases h; exact tyX4_ok
  | 5, h => cases h; exact tyX5_ok
  | 6, h => cases h; exact tyX6_ok
  | 7, h => cases h; exact tyX7_ok
  | 8, h => cases h; exact tyX8_ok
  | 9, h => cases h; exact tyX9_ok
  | n + 10, h => simp at h
theorem qnm : ∀ (ci : Nat) (q : vw_C), qC[ci]? = some q → ∀ a, a < q.2.2 → ∀ b, b < q.2.2 → a ≠ b → (q.2.1 a).2.1 ≠ (q.2.1 b).2.1 := by
  intro ci q h
  match ci, h with
  | 0, h => cases h; exact nmX1
  | 1, h => cases h; exact nmX1
  | 2, h => cases h; exact nmX2
  | 3, h => cases h; exact nmX3
  | 4, h => cases h; exact nmX4
  | 5, h => cases h; exact nmX5
  | 6, h => cases h; exact nmX6
  | 7, h => cases h; exact nmX7
  | 8, h => cases h; exact nmX8
  | 9, h => cases h; exact nmX9
  | n + 10, h => simp at h
def fOk (M : aM) (idx ci k : Nat) : Prop := ∃ q : vw_C, qC[ci]? = some q ∧ k < q.2.2 ∧ Cond.fieldLink M.y.cls idx (q.2.1 k).1 (q.2.1 k).2.1 (q.2.1 k).2.2.1 ∈ gT
def fFin (ci k : Nat) : Bool := match qC[ci]? with
  | some q => (q.2.1 k).2.2.2
  | none => true
theorem qc_other {D : va_G} {K : FieldType → ClassId} {ad : Nat → Nat} {R R' : Nat → Nat → Option Nat} {I I' : aI} {L L' : aL} {H H1 : Heap} {j : Nat} {c : aSh} (hI : ∀ k, I' j k = I j k) (hR : ∀ k, R' j k = R j k) (hL : L' j = L j) (hH : H1[ad j]? = H[ad j]?) (h : qc D K ad R I L H j c) : qc D K ad R' I' L' H1 j c := by
  rcases c with ci | ⟨ty, n⟩
  · obtain ⟨r, h1, h2⟩ := h
    exact ⟨r, h1, (h2.kept hH).to (fun k _ => by simp only [qF, hI, hR])⟩
  · by_cases h0 : j = 0
    · have h1 : (if j = 0 then ty = .int ∧ scr (ad j) n (I j) H else _) := h
      rw [if_pos h0] at h1
      show (if j = 0 then ty = .int ∧ scr (ad j) n (I' j) H1 else _)
      rw [if_pos h0]
      obtain ⟨h2, cell, h3, h4, h5⟩ := h1
      exact ⟨h2, cell, by rw [hH]; exact h3, h4, fun k hk => by rw [hI k]; exact h5 k hk⟩
    have h1 : (if j = 0 then _ else H[ad j]? = some (arrV (K ty) n (qE ad I R L ty j))) := h
    rw [if_neg h0] at h1
    have e : qE ad I' R' L' ty j = qE ad I R L ty j := by
      funext k
      cases ty <;> simp only [qE, hI, hR, hL]
    show (if j = 0 then _ else H1[ad j]? = some (arrV (K ty) n (qE ad I' R' L' ty j)))
    rw [if_neg h0, e, hH]; exact h1
theorem qz.put {D : va_G} {K : FieldType → ClassId} {b b0 : Nat} {g : aG} {R' : Nat → Nat → Option Nat} {I I' : aI} {L L' : aL} {H H1 : Heap} {i : Nat} {c : aSh} (hz : qz D K b b0 g I L H) (hb : b < b0) (hi : g.2.1 i = some c) (hs : H1.size = H.size) (ho : ∀ q, q ≠ qa b b0 i → H1[q]? = H[q]?)
    (hI : ∀ j k, j ≠ i → I' j k = I j k) (hR : ∀ j k, j ≠ i → R' j k = g.2.2 j k) (hL : ∀ j, j ≠ i → L' j = L j) (hself : qc D K (qa b b0) R' I' L' H1 i c) : qz D K b b0 (g.1, g.2.1, R') I' L' H1 := by
  obtain ⟨⟨h1, h2, h3⟩, h4⟩ := hz
  refine ⟨⟨by rw [hs]; exact h1, h2, h3⟩, fun j c' hj => ?_⟩
  by_cases e : j = i
  · subst e
    have e2 : c' = c := Option.some.inj ((show g.2.1 j = some c' from hj).symm.trans hi)
    subst e2
    exact hself
  · exact qc_other (fun k => hI j k e) (fun k => hR j k e) (hL j e) (ho _ (fun q => e (qa_inj hb q))) (h4 j c' hj)
theorem qA_id {D : va_G} {K : FieldType → ClassId} {b b0 : Nat} {i : Nat} (h0 : i ≠ 0) : qA b0 (qa b b0 i) := by
  cases i with
  | zero => exact absurd rfl h0
  | succ i => exact Nat.le_add_right _ _
theorem va_Sput {A : Nat → Prop} {H0 H H1 : Heap} {locs : List Loc} {a k : Nat} (h : va_S A H0 H locs) (z : H1.size = H.size) (oq : ∀ q : Nat, q ≠ a → H1[q]? = H[q]?) (ha : A a) : va_S A H0 H1 (locs ++ [⟨a, k⟩]) := h.put z oq ha
section Heap
variable {M : aM} {d kc ks : Nat} {Q : aQ} {pc : Nat} {lo : List (Option aV)} {st : List aV} {g : aG} {I : aI} {L : aL}
theorem Ex_getI {i ci k idx : Nat} (fk : fOk M idx ci k) (hI : isI (qt ci k) = true) (hi : g.2.1 i = some (.inl ci)) (hd : decode M.cc pc = .ok (.getfield idx, 3)) (kk : Ex M d kc ks Q (pc + 3) lo (vI (I i k) :: st) g I L) : Ex M d kc ks Q pc lo (vS i :: st) g I L := by
  intro D K b b0 SA p l e R s m args below meth c H locs cells slots mc ms ls C hc hs hz hS hl
  obtain ⟨q, hq, hk, hw⟩ := fk
  obtain ⟨r, h1, cell, q1, q2, q3, q4⟩ := hz.2 i _ hi
  have hr : r = q := Option.some.inj (h1.symm.trans hq)
  subst hr
  obtain ⟨hS2, hfc, kC, hkC, hkind⟩ := C.2.2.2.2.2.2.1.1 ci _ hq
  obtain ⟨cf, kf, fi, f, hf, hsl⟩ := hS2 k hk
  refine W.getf C.1.1 C.1.2.1 C.1.2.2.2.2.2.1 (C.2.1 _ hw) hf (u_facts hfc hkC (u_lays C.2.1 (qW ci _ hq) hk) hf).1 q1 (by rw [q3]; exact fun h => by cases h) (v := .int (I i k)) ?_ rfl rfl hd (kk D K b b0 SA p l e R s m args below meth c H locs cells slots mc ms ls C hc hs hz hS hl)
  rw [hsl, q4 k hk]
  simp only [qF, hI, if_true]
theorem Ex_getR {i ci k idx : Nat} (fk : fOk M idx ci k) (hI : isI (qt ci k) = false) (hi : g.2.1 i = some (.inl ci)) (hd : decode M.cc pc = .ok (.getfield idx, 3)) (kk : Ex M d kc ks Q (pc + 3) lo (vD (g.2.2 i k) :: st) g I L) : Ex M d kc ks Q pc lo (vS i :: st) g I L := by
  intro D K b b0 SA p l e R s m args below meth c H locs cells slots mc ms ls C hc hs hz hS hl
  obtain ⟨q, hq, hk, hw⟩ := fk
  obtain ⟨r, h1, cell, q1, q2, q3, q4⟩ := hz.2 i _ hi
  have hr : r = q := Option.some.inj (h1.symm.trans hq)
  subst hr
  obtain ⟨hS2, hfc, kC, hkC, hkind⟩ := C.2.2.2.2.2.2.1.1 ci _ hq
  obtain ⟨cf, kf, fi, f, hf, hsl⟩ := hS2 k hk
  refine W.getf C.1.1 C.1.2.1 C.1.2.2.2.2.2.1 (C.2.1 _ hw) hf (u_facts hfc hkC (u_lays C.2.1 (qW ci _ hq) hk) hf).1 q1 (by rw [q3]; exact fun h => by cases h) (v := va_rf ((g.2.2 i k).map (qa b b0))) ?_ rfl rfl hd (kk D K b b0 SA p l e R s m args below meth c H locs cells slots mc ms ls C hc hs hz hS hl)
  rw [hsl, q4 k hk]
  simp [qF, hI]
/-- how a field's value fits: an int any; a boolean 0 or 1 -/
def fitI (ty : FieldType) (v : Int32) : Prop := match ty with
  | .boolean => v = 0 ∨ v = 1
  | _ => True
theorem fitI_n {ty : FieldType} {v : Int32} (hI : isI ty = true) (h : fitI ty v) : narrow ty (.int v) = .int v ∧ fits ty (.int v) = true := by
  cases ty <;> simp only [isI] at hI <;> first | contradiction | skip
  · exact ⟨rfl, rfl⟩
  · have h1 : v = 0 ∨ v = 1 := h
    rcases h1 with rfl | rfl <;> exact ⟨rfl, rfl⟩
def fPut (M : aM) (ci k : Nat) : Prop := fFin ci k = false ∨ (M.y.name = "<init>" ∧ ∃ q : vw_C, qC[ci]? = some q ∧ (q.2.1 k).1 = M.y.cls)
theorem W_put {D : va_G} {K : FieldType → ClassId} {b b0 : Nat} {SA : Nat → Nat} {p : Program} {l : Launch} {e : Env} {R : Room} {s : State} {m : MethodId} {args : Array Value} {below : List Frame} {meth : Method} {c : Code} {H : Heap} {locs : List Loc} {cells slots mc ms : Nat} {ls : Array Slot} {Z : State → Prop} {rest : List Value}
    {i ci k idx : Nat} {v : Value} (C : Cx D K b b0 SA M d p l R s m args meth c mc ms) (fk : fOk M idx ci k) (fp : fPut M ci k) (hn : narrow (qt ci k) v = v ∧ fits (qt ci k) v = true) (hz : qz D K b b0 g I L H) (hi : g.2.1 i = some (.inl ci)) (hd : decode M.cc pc = .ok (.putfield idx, 3))
    (kk : ∀ (H1 : Heap) (j : Nat) (r : vw_C), qC[ci]? = some r → t_OB (qa b b0 i) (D.1 ci) r.2.2 (D.2 ci) H1 (updV (qF (qa b b0) I g.2.2 ci i) k v) → H1.size = H.size → (∀ q, q ≠ qa b b0 i → H1[q]? = H[q]?) → W p l e R s m args below meth c H1 (locs ++ [⟨qa b b0 i, j⟩]) cells slots Z (F0 m (pc + 3) ls rest)) :
    W p l e R s m args below meth c H locs cells slots Z (F0 m pc ls (v :: .ref (qa b b0 i) :: rest)) := by
  obtain ⟨r, hq, hk, hw⟩ := fk
  obtain ⟨r', h1, cell, q1, q2, q3, q4⟩ := hz.2 i _ hi
  have hr : r' = r := Option.some.inj (h1.symm.trans hq)
  subst hr
  have hK1 := C.2.2.2.2.2.2.1.1 ci _ hq
  obtain ⟨hS2, hfc, kC, hkC, hkind⟩ := id hK1
  obtain ⟨cf, kf, fi, f, hf, hsl⟩ := hS2 k hk
  have hlay := C.2.1 _ (qW ci _ hq _ (u_in_lay hk))
  have hst := (u_facts hfc hkC (u_lays C.2.1 (qW ci _ hq) hk) hf).1
  have hap : ∀ x y, x < r'.2.2 → y < r'.2.2 → x ≠ y → (D.2 ci) x ≠ (D.2 ci) y := by
    intro x y hx hy hne
    obtain ⟨_, _, _, fa, hia, ea⟩ := hS2 x hx
    obtain ⟨_, _, _, fb, hib, eb⟩ := hS2 y hy
    rw [← ea, ← eb]
    refine u_apart (u_lays C.2.1 (qW ci _ hq) hx) (u_lays C.2.1 (qW ci _ hq) hy) hia hib ?_
    rw [(State.fieldFound?_type hia (qty_ok ci _ hq x hx)).1, (State.fieldFound?_type hib (qty_ok ci _ hq y hy)).1]
    exact qnm ci _ hq x hx y hy hne
  unfold u_lay at hlay
  by_cases hf2 : (r'.2.1 k).2.2.2 = true
  · rcases fp with fp | ⟨fp1, q9, fp2, fp3⟩
    · exact absurd hf2 (by simpa [fFin, hq] using fp)
    · have e9 : q9 = r' := Option.some.inj (fp2.symm.trans hq)
      subst e9
      rw [if_pos hf2] at hlay
      have hcf : m.cls = cf := by
        obtain ⟨_, _, c', _, _, _, -, -, hf', -, -, -, hown2, -⟩ := Cond.laysFinal_spec hlay
        have e1 : c' = cf := by have := hf.symm.trans hf'; simp at this; exact this.1.symm
        rw [fp3] at hown2
        rw [← e1]; exact Option.some.inj (C.1.2.2.2.2.2.1.symm.trans hown2)
      have h6 := u_fits hfc hkC hkind (Or.inr hlay) hf (qty_ok ci _ hq k hk) hn.1 hn.2
      refine W.putFinK C.1.1 C.1.2.1 C.1.2.2.2.2.2.1 (C.2.1 _ hw) hf hst hcf (C.1.2.2.2.2.2.2.trans fp1) (by rw [q2]; exact h6) q1 q3 (by rw [hsl]; exact k2_hasslot (q4 k hk)) rfl rfl hd fun H1 e1 e2 e3 => ?_
      rw [hsl] at e1
      exact kk H1 _ q9 hq ⟨_, e1, q2, q3, t_set q4 hap hk v⟩ e2 e3
  · rw [if_neg hf2] at hlay
    have h6 := u_store hfc hkC hkind hlay hf (qty_ok ci _ hq k hk) hn.1 hn.2
    refine W.putK C.1.1 C.1.2.1 (f := f) ⟨C.1.2.2.2.2.2.1, C.2.1 _ hw, ⟨_, _, _, hf⟩, hst⟩ (by rw [q2]; exact h6) q1 q3 (by rw [hsl]; exact k2_hasslot (q4 k hk)) rfl rfl hd fun H1 e1 e2 e3 => ?_
    rw [hsl] at e1
    exact kk H1 _ r' hq ⟨_, e1, q2, q3, t_set q4 hap hk v⟩ e2 e3
theorem Ex_putI {i ci k idx : Nat} {v : Int32} (fk : fOk M idx ci k) (fp : fPut M ci k) (hI : isI (qt ci k) = true) (hfit : fitI (qt ci k) v) (hi : g.2.1 i = some (.inl ci)) (h0 : i ≠ 0) (hd : decode M.cc pc = .ok (.putfield idx, 3)) (kk : Ex M d kc ks Q (pc + 3) lo st g (up2 I i k v) L) : Ex M d kc ks Q pc lo (vI v :: vS i :: st) g I L := by
  intro D K b b0 SA p l e R s m args below meth c H locs cells slots mc ms ls C hc hs hz hS hl
  refine W_put C fk fp (fitI_n hI hfit) hz hi hd fun H1 j0 r hq hob e2 e3 => ?_
  have hz' := hz.put (R' := g.2.2) (I' := up2 I i k v) (L' := L) C.2.2.2.2.2.1.1 hi e2 e3 (fun j m hj => by simp [up2, hj]) (fun _ _ _ => rfl) (fun _ _ => rfl)
    ⟨r, hq, hob.to (fun j _ => by
      by_cases hj : j = k
      · subst hj; simp [updV, qF, hI, up2]; rfl
      · simp [updV, qF, up2, hj])⟩
  exact kk D K b b0 SA p l e R s m args below meth c H1 _ cells slots mc ms ls C hc hs hz' (hS.put e2 e3 (qA_id (D := D) (K := K) h0)) hl
def isRt (ty : FieldType) : Bool := match ty with
  | .object _ => true
  | .array _ => true
  | _ => false
theorem isRt_n {ty : FieldType} (h : isRt ty = true) (r : Option Nat) : (narrow ty (va_rf r) = va_rf r ∧ fits ty (va_rf r) = true) ∧ isI ty = false := by
  cases ty <;> simp only [isRt] at h <;> first | contradiction | skip
  all_goals (cases r <;> exact ⟨⟨rfl, rfl⟩, rfl⟩)
theorem Ex_putR {i ci k idx : Nat} {x : Option Nat} (fk : fOk M idx ci k) (fp : fPut M ci k) (hI : isRt (qt ci k) = true) (hi : g.2.1 i = some (.inl ci)) (h0 : i ≠ 0) (hd : decode M.cc pc = .ok (.putfield idx, 3)) (kk : Ex M d kc ks Q (pc + 3) lo st (g.1, g.2.1, up2 g.2.2 i k x) I L) : Ex M d kc ks Q pc lo (vD x :: vS i :: st) g I L := by
  intro D K b b0 SA p l e R s m args below meth c H locs cells slots mc ms ls C hc hs hz hS hl
  refine W_put C fk fp (isRt_n hI (x.map (qa b b0))).1 hz hi hd fun H1 j0 r hq hob e2 e3 => ?_
  have hn := (isRt_n hI x).2
  have hz' := hz.put (R' := up2 g.2.2 i k x) (I' := I) (L' := L) C.2.2.2.2.2.1.1 hi e2 e3 (fun _ _ _ => rfl) (fun j m hj => by simp [up2, hj]) (fun _ _ => rfl)
    ⟨r, hq, hob.to (fun j _ => by
      by_cases hj : j = k
      · subst hj; simp [updV, qF, hn, up2]; rfl
      · simp [updV, qF, up2, hj])⟩
  exact kk D K b b0 SA p l e R s m args below meth c H1 _ cells slots mc ms ls C hc hs hz' (hS.put e2 e3 (qA_id (D := D) (K := K) h0)) hl
/-! arrays -/
theorem arr_at {D : va_G} {K : FieldType → ClassId} {b b0 : Nat} {H : Heap} (hz : qz D K b b0 g I L H) {i n : Nat} {ty : FieldType} (h0 : i ≠ 0) (hi : g.2.1 i = some (.inr (ty, n))) : H[qa b b0 i]? = some (arrV (K ty) n (qE (qa b b0) I g.2.2 L ty i)) := by
  have h : (if i = 0 then _ else H[qa b b0 i]? = some (arrV (K ty) n (qE (qa b b0) I g.2.2 L ty i))) := hz.2 i _ hi
  rw [if_neg h0] at h
  exact h
theorem arr_0 {D : va_G} {K : FieldType → ClassId} {b b0 : Nat} {H : Heap} (hz : qz D K b b0 g I L H) {n : Nat} {ty : FieldType} (hi : g.2.1 0 = some (.inr (ty, n))) : ty = .int ∧ scr b n (I 0) H := by
  have h : (if (0 : Nat) = 0 then ty = .int ∧ scr (qa b b0 0) n (I 0) H else H[qa b b0 0]? = some (arrV (K ty) n (qE (qa b b0) I g.2.2 L ty 0))) := hz.2 0 _ hi
  rw [if_pos rfl] at h
  exact h
theorem arr_put {D : va_G} {K : FieldType → ClassId} {b b0 : Nat} {H H1 : Heap} {R' : Nat → Nat → Option Nat} {I' : aI} {L' : aL} (hz : qz D K b b0 g I L H) (hb : b < b0) {i n k : Nat} {ty : FieldType} {v : Value} (h0 : i ≠ 0) (hi : g.2.1 i = some (.inr (ty, n))) (e : H1[qa b b0 i]? = some ((arrV (K ty) n (qE (qa b b0) I g.2.2 L ty i)).setSlot k v)) (hs : H1.size = H.size) (ho : ∀ q, q ≠ qa b b0 i → H1[q]? = H[q]?)
    (hI : ∀ j k, j ≠ i → I' j k = I j k) (hR : ∀ j k, j ≠ i → R' j k = g.2.2 j k) (hL : ∀ j, j ≠ i → L' j = L j) (hv : ∀ j, j < n → updV (qE (qa b b0) I g.2.2 L ty i) k v j = qE (qa b b0) I' R' L' ty i j) : qz D K b b0 (g.1, g.2.1, R') I' L' H1 := by
  refine hz.put hb hi hs ho hI hR hL ?_
  show (if i = 0 then _ else H1[qa b b0 i]? = some (arrV (K ty) n (qE (qa b b0) I' R' L' ty i)))
  rw [if_neg h0, e, arrV_store]
  congr 1
  unfold arrV
  congr 1
  apply Array.ext_getElem?
  intro j
  by_cases hj : j < n
  · simp [hj, hv j hj]
  · simp [hj]
theorem Ex_iald {i n : Nat} {j : Int32} (hi : g.2.1 i = some (.inr (.int, n))) (hj : vp_in j n) (hd : decode M.cc pc = .ok (.iaload, 1)) (kk : Ex M d kc ks Q (pc + 1) lo (vI (I i j.toNatClampNeg) :: st) g I L) : Ex M d kc ks Q pc lo (vI j :: vS i :: st) g I L := by
  intro D K b b0 SA p l e R s m args below meth c H locs cells slots mc ms ls C hc hs hz hS hl
  have hlt : j.toNatClampNeg < n := Nat.not_le.mp fun q => hj (Or.inr q)
  by_cases h0 : i = 0
  · subst h0
    obtain ⟨-, cell, c1, c2, c3⟩ := arr_0 hz hi
    obtain ⟨-, -, q3, cell2, q4, q5, q6⟩ := C.2.2.2.2.2.2.2
    have e1 : cell2 = cell := by
      have e2 : H[b]? = some cell2 := by rw [hS.2.1 b (Array.getElem?_eq_some_iff.mp q4).1 (Nat.not_le.mpr q3)]; exact q4
      exact Option.some.inj (e2.symm.trans c1)
    subst e1
    exact W.iald (v := .int (I 0 j.toNatClampNeg)) C.1.1 C.1.2.1 c1 q5 q6 (by rw [c2]; exact hj) (c3 _ hlt) rfl rfl hd (kk D K b b0 SA p l e R s m args below meth c H locs cells slots mc ms ls C hc hs hz hS hl)
  exact W.iald (v := .int (I i j.toNatClampNeg)) C.1.1 C.1.2.1 (arr_at hz h0 hi) ((C.2.2.2.2.2.2.1.2.1 .int (by simp [qTy])).1 n _) (fun q => by cases q) (by rw [arrV_size]; exact hj) (by rw [arrV_read _ _ hlt]; rfl) rfl rfl hd (kk D K b b0 SA p l e R s m args below meth c H locs cells slots mc ms ls C hc hs hz hS hl)
theorem Ex_zald {i n : Nat} {j : Int32} (hi : g.2.1 i = some (.inr (.boolean, n))) (hj : vp_in j n) (hd : decode M.cc pc = .ok (.baload, 1)) (kk : Ex M d kc ks Q (pc + 1) lo (vI (I i j.toNatClampNeg) :: st) g I L) : Ex M d kc ks Q pc lo (vI j :: vS i :: st) g I L := by
  intro D K b b0 SA p l e R s m args below meth c H locs cells slots mc ms ls C hc hs hz hS hl
  have hlt : j.toNatClampNeg < n := Nat.not_le.mp fun q => hj (Or.inr q)
  have h0 : i ≠ 0 := fun q => by subst q; exact absurd (arr_0 hz hi).1 (by intro q; cases q)
  exact W.zald (v := .int (I i j.toNatClampNeg)) C.1.1 C.1.2.1 (arr_at hz h0 hi) ((C.2.2.2.2.2.2.1.2.1 .boolean (by simp [qTy])).1 n _) (fun q => by cases q) (by rw [arrV_size]; exact hj) (by rw [arrV_read _ _ hlt]; rfl) rfl rfl hd (kk D K b b0 SA p l e R s m args below meth c H locs cells slots mc ms ls C hc hs hz hS hl)
theorem Ex_lald {i n : Nat} {j : Int32} (hi : g.2.1 i = some (.inr (.long, n))) (hj : vp_in j n) (hd : decode M.cc pc = .ok (.laload, 1)) (kk : Ex M d kc ks Q (pc + 1) lo (vJ (L i) :: st) g I L) : Ex M d kc ks Q pc lo (vI j :: vS i :: st) g I L := by
  intro D K b b0 SA p l e R s m args below meth c H locs cells slots mc ms ls C hc hs hz hS hl
  have hlt : j.toNatClampNeg < n := Nat.not_le.mp fun q => hj (Or.inr q)
  have h0 : i ≠ 0 := fun q => by subst q; exact absurd (arr_0 hz hi).1 (by intro q; cases q)
  exact W.lald (v := .long (L i)) C.1.1 C.1.2.1 (arr_at hz h0 hi) ((C.2.2.2.2.2.2.1.2.1 .long (by simp [qTy])).1 n _) (fun q => by cases q) (by rw [arrV_size]; exact hj) (by rw [arrV_read _ _ hlt]; rfl) rfl rfl hd (kk D K b b0 SA p l e R s m args below meth c H locs cells slots mc ms ls C hc hs hz hS hl)
theorem Ex_aald {i n : Nat} {j : Int32} {T0 : String} (hT : T0 = RX7 ∨ T0 = RX6) (hi : g.2.1 i = some (.inr (.object T0, n))) (hj : vp_in j n) (hd : decode M.cc pc = .ok (.aaload, 1)) (kk : Ex M d kc ks Q (pc + 1) lo (vD (g.2.2 i j.toNatClampNeg) :: st) g I L) : Ex M d kc ks Q pc lo (vI j :: vS i :: st) g I L := by
  intro D K b b0 SA p l e R s m args below meth c H locs cells slots mc ms ls C hc hs hz hS hl
  have hlt : j.toNatClampNeg < n := Nat.not_le.mp fun q => hj (Or.inr q)
  have h0 : i ≠ 0 := fun q => by subst q; exact absurd (arr_0 hz hi).1 (by intro q; cases q)
  exact W.aald (v := va_rf ((g.2.2 i j.toNatClampNeg).map (qa b b0))) (ty := .object T0) C.1.1 C.1.2.1 (arr_at hz h0 hi) ((C.2.2.2.2.2.2.1.2.1 (.object T0) (by rcases hT with rfl | rfl <;> simp [qTy])).1 n _) rfl (fun q => by cases q) (by rw [arrV_size]; exact hj) (by rw [arrV_read _ _ hlt]; rfl) rfl rfl hd (kk D K b b0 SA p l e R s m args below meth c H locs cells slots mc ms ls C hc hs hz hS hl)
theorem Ex_alen {i n : Nat} {ty : FieldType} (hT : ty ∈ qTy) (hi : g.2.1 i = some (.inr (ty, n))) (hd : decode M.cc pc = .ok (.arraylength, 1)) (kk : Ex M d kc ks Q (pc + 1) lo (vI (Int32.ofNat n) :: st) g I L) : Ex M d kc ks Q pc lo (vS i :: st) g I L := by
  intro D K b b0 SA p l e R s m args below meth c H locs cells slots mc ms ls C hc hs hz hS hl
  by_cases h0 : i = 0
  · subst h0
    obtain ⟨e0, cell, c1, c2, c3⟩ := arr_0 hz hi
    obtain ⟨-, -, q3, cell2, q4, q5, q6⟩ := C.2.2.2.2.2.2.2
    have e1 : cell2 = cell := by
      have e2 : H[b]? = some cell2 := by rw [hS.2.1 b (Array.getElem?_eq_some_iff.mp q4).1 (Nat.not_le.mpr q3)]; exact q4
      exact Option.some.inj (e2.symm.trans c1)
    subst e1
    exact W.alen (n := Int32.ofNat n) C.1.1 C.1.2.1 c1 q5 (by rw [c2] <;> rfl) rfl rfl hd (kk D K b b0 SA p l e R s m args below meth c H locs cells slots mc ms ls C hc hs hz hS hl)
  exact W.alen (n := Int32.ofNat n) C.1.1 C.1.2.1 (arr_at hz h0 hi) ((C.2.2.2.2.2.2.1.2.1 ty hT).1 n _) (by rw [arrV_size] <;> rfl) rfl rfl hd (kk D K b b0 SA p l e R s m args below meth c H locs cells slots mc ms ls C hc hs hz hS hl)
theorem Ex_iast {i n : Nat} {j v : Int32} (hi : g.2.1 i = some (.inr (.int, n))) (h0 : i ≠ 0) (hj : vp_in j n) (hd : decode M.cc pc = .ok (.iastore, 1)) (kk : Ex M d kc ks Q (pc + 1) lo st g (up2 I i j.toNatClampNeg v) L) : Ex M d kc ks Q pc lo (vI v :: vI j :: vS i :: st) g I L := by
  intro D K b b0 SA p l e R s m args below meth c H locs cells slots mc ms ls C hc hs hz hS hl
  refine W.iast C.1.1 C.1.2.1 (arr_at hz h0 hi) ((C.2.2.2.2.2.2.1.2.1 .int (by simp [qTy])).1 n _) (fun q => by cases q) (by rw [arrV_size]; exact hj) rfl rfl hd fun H1 e1 e2 e3 => ?_
  have hz' := arr_put (R' := g.2.2) (I' := up2 I i j.toNatClampNeg v) (L' := L) hz C.2.2.2.2.2.1.1 h0 hi e1 e2 e3 (fun j m hj => by simp [up2, hj]) (fun _ _ _ => rfl) (fun _ _ => rfl) (fun m _ => by
    by_cases hm : m = j.toNatClampNeg
    · subst hm; simp [updV, qE, up2]
    · simp [updV, qE, up2, hm])
  exact kk D K b b0 SA p l e R s m args below meth c H1 _ cells slots mc ms ls C hc hs hz' (hS.put e2 e3 (qA_id (D := D) (K := K) h0)) hl
theorem Ex_zast {i n : Nat} {j v : Int32} (hi : g.2.1 i = some (.inr (.boolean, n))) (h0 : i ≠ 0) (hv : v = 0 ∨ v = 1) (hj : vp_in j n) (hd : decode M.cc pc = .ok (.bastore, 1)) (kk : Ex M d kc ks Q (pc + 1) lo st g (up2 I i j.toNatClampNeg v) L) : Ex M d kc ks Q pc lo (vI v :: vI j :: vS i :: st) g I L := by
  intro D K b b0 SA p l e R s m args below meth c H locs cells slots mc ms ls C hc hs hz hS hl
  have hn : narrow .boolean (.int v) = .int v := by rcases hv with rfl | rfl <;> rfl
  refine W.zast C.1.1 C.1.2.1 (arr_at hz h0 hi) ((C.2.2.2.2.2.2.1.2.1 .boolean (by simp [qTy])).1 n _) (fun q => by cases q) (by rw [arrV_size]; exact hj) rfl rfl hd fun H1 e1 e2 e3 => ?_
  rw [hn] at e1
  have hz' := arr_put (R' := g.2.2) (I' := up2 I i j.toNatClampNeg v) (L' := L) hz C.2.2.2.2.2.1.1 h0 hi e1 e2 e3 (fun j m hj => by simp [up2, hj]) (fun _ _ _ => rfl) (fun _ _ => rfl) (fun m _ => by
    by_cases hm : m = j.toNatClampNeg
    · subst hm; simp [updV, qE, up2]
    · simp [updV, qE, up2, hm])
  exact kk D K b b0 SA p l e R s m args below meth c H1 _ cells slots mc ms ls C hc hs hz' (hS.put e2 e3 (qA_id (D := D) (K := K) h0)) hl
theorem Ex_last {i : Nat} {j : Int32} {v : Int64} (hi : g.2.1 i = some (.inr (.long, 1))) (h0 : i ≠ 0) (hj : vp_in j 1) (hd : decode M.cc pc = .ok (.lastore, 1)) (kk : Ex M d kc ks Q (pc + 1) lo st g I (up1 L i v)) : Ex M d kc ks Q pc lo (vJ v :: vI j :: vS i :: st) g I L := by
  intro D K b b0 SA p l e R s m args below meth c H locs cells slots mc ms ls C hc hs hz hS hl
  have hlt : j.toNatClampNeg < 1 := Nat.not_le.mp fun q => hj (Or.inr q)
  refine W.last C.1.1 C.1.2.1 (arr_at hz h0 hi) ((C.2.2.2.2.2.2.1.2.1 .long (by simp [qTy])).1 1 _) (fun q => by cases q) (by rw [arrV_size]; exact hj) rfl rfl hd fun H1 e1 e2 e3 => ?_
  have hz' := arr_put (R' := g.2.2) (I' := I) (L' := up1 L i v) hz C.2.2.2.2.2.1.1 h0 hi e1 e2 e3 (fun _ _ _ => rfl) (fun _ _ _ => rfl) (fun j hj => by simp [up1, hj]) (fun m hm => by
    have h1 : m = j.toNatClampNeg := by omega
    subst h1
    simp [updV, qE, up1])
  exact kk D K b b0 SA p l e R s m args below meth c H1 _ cells slots mc ms ls C hc hs hz' (hS.put e2 e3 (qA_id (D := D) (K := K) h0)) hl
/-- an object of the right class into an array of objects -/
theorem Ex_aast {i n x ci : Nat} {j : Int32} {q : vw_C} (hq : qC[ci]? = some q) (hT : q.1 = RX7 ∨ q.1 = RX6) (hi : g.2.1 i = some (.inr (.object q.1, n))) (h0 : i ≠ 0) (hx : g.2.1 x = some (.inl ci)) (hj : vp_in j n) (hd : decode M.cc pc = .ok (.aastore, 1)) (kk : Ex M d kc ks Q (pc + 1) lo st (g.1, g.2.1, up2 g.2.2 i j.toNatClampNeg (some x)) I L) : Ex M d kc ks Q pc lo (vD (some x) :: vI j :: vS i :: st) g I L := by
  intro D K b b0 SA p l e R s m args below meth c H locs cells slots mc ms ls C hc hs hz hS hl
  have hlt : j.toNatClampNeg < n := Nat.not_le.mp fun q => hj (Or.inr q)
  have hj0 : ¬ j < 0 := fun q => hj (Or.inl q)
  obtain ⟨r', hr', cellV, g1, g2, g3, -⟩ := hz.2 x _ hx
  have hcls := (C.2.2.2.2.2.2.1.1 ci q hq).2
  obtain ⟨kA, comp, k1, k2, k3, -⟩ := (C.2.2.2.2.2.2.1.2.1 (.object q.1) (by rcases hT with h | h <;> rw [h] <;> simp [qTy])).2
  have hcomp : comp = D.1 ci := Option.some.inj (k3.symm.trans hcls.1)
  subst hcomp
  obtain ⟨kC, hkC, -⟩ := id hcls.2
  refine W.aast C.1.1 C.1.2.1 (arr_at hz h0 hi) (fun q h => by cases h) (fun h => by cases h) k1 k2 rfl hkC ⟨hj0, by rw [arrV_size]; exact hlt⟩ g1 (fun q h => by rw [g3] at h; cases h) (by rw [g2]; exact hkC) (by rw [g2]; exact va_assign hcls) rfl rfl hd fun H1 e1 e2 e3 => ?_
  have hz' := arr_put (R' := up2 g.2.2 i j.toNatClampNeg (some x)) (I' := I) (L' := L) hz C.2.2.2.2.2.1.1 h0 hi e1 e2 e3 (fun _ _ _ => rfl) (fun j m hj => by simp [up2, hj]) (fun _ _ => rfl) (fun m _ => by
    by_cases hm : m = j.toNatClampNeg
    · subst hm; simp [updV, qE, up2]; rfl
    · simp [updV, qE, up2, hm])
  exact kk D K b b0 SA p l e R s m args below meth c H1 _ cells slots mc ms ls C hc hs hz' (hS.put e2 e3 (qA_id (D := D) (K := K) h0)) hl
end Heap
