/-! the class: making a TERM -/
def Ext (g : aG) (I : aI) (L : aL) (g' : aG) (I' : aI) (L' : aL) : Prop := g.1 ≤ g'.1 ∧ ∀ i, i < g.1 → g'.2.1 i = g.2.1 i ∧ (∀ k, g'.2.2 i k = g.2.2 i k) ∧ (∀ k, I' i k = I i k) ∧ L' i = L i
theorem Ext.refl {g : aG} {I : aI} {L : aL} : Ext g I L g I L := ⟨Nat.le_refl _, fun _ _ => ⟨rfl, fun _ => rfl, fun _ => rfl, rfl⟩⟩
theorem Ext.trans {g g1 g2 : aG} {I I1 I2 : aI} {L L1 L2 : aL} (a : Ext g I L g1 I1 L1) (b : Ext g1 I1 L1 g2 I2 L2) : Ext g I L g2 I2 L2 := ⟨Nat.le_trans a.1 b.1, fun i hi => by
  obtain ⟨a1, a2, a3, a4⟩ := a.2 i hi
  obtain ⟨b1, b2, b3, b4⟩ := b.2 i (Nat.lt_of_lt_of_le hi a.1)
  exact ⟨b1.trans a1, fun k => (b2 k).trans (a2 k), fun k => (b3 k).trans (a3 k), b4.trans a4⟩⟩
theorem Ext.more {g : aG} {I : aI} {L : aL} {n : Nat} (h : g.1 ≤ n) : Ext g I L (n, g.2.1, g.2.2) I L := ⟨h, fun _ _ => ⟨rfl, fun _ => rfl, fun _ => rfl, rfl⟩⟩
theorem Ext.add {g : aG} {I : aI} {L : aL} {c : aSh} : Ext g I L (g_add g c) (I_add g I) (L_add g L) := ⟨Nat.le_succ _, fun i hi => by
  have hn : i ≠ g.1 := Nat.ne_of_lt hi
  refine ⟨?_, fun k => ?_, fun k => ?_, ?_⟩
  · show up1 g.2.1 g.1 (some c) i = _
    unfold up1; rw [if_neg hn]
  · show (if i = g.1 then none else g.2.2 i k) = _
    rw [if_neg hn]
  · show (if i = g.1 then 0 else I i k) = _
    rw [if_neg hn]
  · show (if i = g.1 then 0 else L i) = _
    rw [if_neg hn]⟩
theorem nth_no {α : Type} : ∀ (l : List α) (n : Nat), l.length ≤ n → nth l n = none
  | [], _, _ => rfl
  | _ :: l, 0, h => absurd h (by simp)
  | _ :: l, n + 1, h => nth_no l n (by simp at h; omega)
theorem sT_le {i : Nat} {c : aSh} (h : sT i = some c) : i ≤ 371 := by
  by_cases q : i ≤ 371
  · exact q
  · exfalso
    have e1 : Nat.ble 328 i = true := Nat.ble_eq.mpr (by omega)
    unfold sT at h
    rw [e1] at h
    have e2 : nth sTc (i - 328) = none := nth_no _ _ (by show 44 ≤ i - 328; omega)
    unfold nthO at h
    rw [e2] at h
    cases h
theorem ws_of {lx ly : Nat} {g g' : aG} (h : WS lx ly g) (q : ∀ i, i ≤ 371 → g'.2.1 i = g.2.1 i ∧ ∀ k, g'.2.2 i k = g.2.2 i k) : WS lx ly g' := by
  intro i c hi
  obtain ⟨h1, h2, h3⟩ := h i c hi
  obtain ⟨q1, q2⟩ := q i (sT_le hi)
  exact ⟨h1, q1.trans h2, fun k v hv => by rw [q2 k]; exact h3 k v hv⟩
theorem ws_ext {lx ly : Nat} {g g' : aG} {I I' : aI} {L L' : aL} (h : WS lx ly g) (hg : 372 ≤ g.1) (q : Ext g I L g' I' L') : WS lx ly g' := ws_of h (fun i hi => ⟨(q.2 i (by omega)).1, (q.2 i (by omega)).2.1⟩)
section UseT
variable {M N : aM} {d d' kc ks kc' ks' : Nat} {Q : aQ} {pc idx n ci i : Nat} {own E : String} {lo : List (Option aV)} {st As : List aV} {g : aG} {I : aI} {L : aL}
/-- calls that throw -/
theorem Ex_vT (ok : vOk own N idx n ci) (ho : M.y.cls = own) (hn : As.length = n) (hM : Mx N d' kc' ks' (vS i :: As) g I L (qT E g I L)) (hi : g.2.1 i = some (.inl ci)) (hd' : d' + 1 ≤ d) (hst : Nat.ble (catL st) 8 = true) (hd : decode M.cc pc = .ok (.invokevirtual idx, 3)) (hh : M.hh = [])
    (kx : ∀ m, g.1 ≤ m → Q (.inr E) (m, g.2.1, g.2.2) I L) : Ex M d (kc + kc') (ks + ks') Q pc lo (As.reverse ++ vS i :: st) g I L := by
  refine Ex_cV ok ho hn hi hM hd' hst hd ?_ ?_
  · rintro _ _ _ _ ⟨e, -⟩
    cases e
  · rintro _ _ _ _ ⟨e, ⟨m, hm, rfl⟩, rfl, rfl⟩
    cases e
    exact Xx_out hh (kx m hm)
theorem Ex_sT (ok : sOk own N idx n) (ho : M.y.cls = own) (hn : As.length = n) (hM : Mx N d' kc' ks' As g I L (qT E g I L)) (hd' : d' + 1 ≤ d) (hst : Nat.ble (catL st) 8 = true) (hd : decode M.cc pc = .ok (.invokestatic idx, 3)) (hh : M.hh = [])
    (kx : ∀ m, g.1 ≤ m → Q (.inr E) (m, g.2.1, g.2.2) I L) : Ex M d (kc + kc') (ks + ks') Q pc lo (As.reverse ++ st) g I L := by
  refine Ex_cS ok ho hn hM hd' hst hd ?_ ?_
  · rintro _ _ _ _ ⟨e, -⟩
    cases e
  · rintro _ _ _ _ ⟨e, ⟨m, hm, rfl⟩, rfl, rfl⟩
    cases e
    exact Xx_out hh (kx m hm)
/-- fields of an object that is not static -/
theorem Ex_putID {ci k idx : Nat} {v : Int32} (fk : fOk M idx ci k) (fp : fPut M ci k) (hI : isI (qt ci k) = true) (hfit : fitI (qt ci k) v) (hi : g.2.1 i = some (.inl ci)) (h0 : i ≠ 0) (hd : decode M.cc pc = .ok (.putfield idx, 3)) (kk : Ex M d kc ks Q (pc + 3) lo st g (up2 I i k v) L) : Ex M d kc ks Q pc lo (vI v :: vD (some i) :: st) g I L := st_SD (a := [vI v]) (Ex_putI fk fp hI hfit hi h0 hd kk)
theorem Ex_putRD {ci k idx : Nat} {x : Option Nat} (fk : fOk M idx ci k) (fp : fPut M ci k) (hI : isRt (qt ci k) = true) (hi : g.2.1 i = some (.inl ci)) (h0 : i ≠ 0) (hd : decode M.cc pc = .ok (.putfield idx, 3)) (kk : Ex M d kc ks Q (pc + 3) lo st (g.1, g.2.1, up2 g.2.2 i k x) I L) : Ex M d kc ks Q pc lo (vD x :: vD (some i) :: st) g I L := st_SD (a := [vD x]) (Ex_putR fk fp hI hi h0 hd kk)
end UseT
abbrev E1 : String := "java/lang/IndexOutOfBoundsException"
abbrev E2 : String := "java/lang/UnsupportedOperationException"
abbrev E3 : String := "java/lang/IllegalArgumentException"
abbrev E4 : String := "java/lang/IllegalStateException"
def nmP (x : Int32) : Prop := 0 ≤ x ∧ x < 8
section Req
variable {lx ly : Nat} {g : aG} {I : aI} {L : aL} {d kc ks cnt : Nat} {x : Int32}
theorem e8_name (hw : WS lx ly g) (hx : nmP x) : Mx mX8_requireName d 0 0 [vI x] g I L (qV none g I L) := by
  refine Mx_in (by decide +kernel) rfl rfl (Ex_wx [10, 4] 9 oX8_requireName hw ?_)
  refine And.intro (fun c => absurd c (Int32.not_lt.mpr hx.1)) (fun _ => ?_)
  refine Ex_wx [10] 9 oX8_requireName hw ?_
  exact And.intro (fun _ => ⟨rfl, rfl, rfl, rfl⟩) (fun c => absurd hx.2 c)
theorem e8_nameT (hw : WS lx ly g) (hx : ¬ nmP x) (hd : 6 ≤ d) : Mx mX8_requireName d (kc + 1) (ks + 6) [vI x] g I L (qT E1 g I L) := by
  have ht : ∀ lo, Ex mX8_requireName d (kc + 1) (ks + 6) (qT E1 g I L) 10 lo [] g I L := fun lo => Ex_throw tOk_1 rfl rfl (by decide : (148, "no such NAME") ∈ qStr) hd (by decide) (dc_ok oX8_requireName rfl) (dc_ok oX8_requireName rfl) (dc_ok oX8_requireName rfl) (dc_ok oX8_requireName rfl) (dc_ok oX8_requireName rfl) (fun n hn => ⟨rfl, ⟨n, hn, rfl⟩, rfl, rfl⟩)
  refine Mx_in (by decide +kernel) rfl rfl (Ex_wx [10, 4] 9 oX8_requireName hw ?_)
  refine And.intro (fun _ => ht _) (fun c => ?_)
  refine Ex_wx [10, 20] 9 oX8_requireName hw ?_
  exact And.intro (fun c2 => absurd ⟨Int32.not_lt.mp c, c2⟩ hx) (fun _ => ht _)
theorem e8_operand {b : Int32} (hw : WS lx ly g) (hx : b = 0 ∨ nmP x) (hd : 1 ≤ d) : Mx mX8_requireOperand d 0 0 [vS 1, vI b, vI x] g I L (qV none g I L) := by
  refine Mx_in (by decide +kernel) rfl rfl (Ex_wx [8, 4] 9 oX8_requireOperand hw ?_)
  refine And.intro (fun _ => ?_) (fun c => ?_)
  · refine Ex_wx [] 9 oX8_requireOperand hw ?_
    exact ⟨rfl, rfl, rfl, rfl⟩
  · refine Ex_wx [] 9 oX8_requireOperand hw ?_
    refine Ex_s (As := [vI x]) (st := []) (d' := 0) sX8_50 rfl rfl (e8_name hw (hx.resolve_left c)) hd rfl (dc_ok oX8_requireOperand rfl) ?_
    refine Ex_wx [] 9 oX8_requireOperand hw ?_
    exact ⟨rfl, rfl, rfl, rfl⟩
theorem e8_operandT {b : Int32} (hw : WS lx ly g) (hx : ¬ (b = 0 ∨ nmP x)) (hd : 7 ≤ d) : Mx mX8_requireOperand d (kc + 1) (ks + 6) [vS 1, vI b, vI x] g I L (qT E1 g I L) := by
  refine Mx_in (by decide +kernel) rfl rfl (Ex_wx [8, 4] 9 oX8_requireOperand hw ?_)
  refine And.intro (fun c => absurd (Or.inl c) hx) (fun c => ?_)
  refine Ex_wx [] 9 oX8_requireOperand hw ?_
  exact Ex_sT (As := [vI x]) (st := []) (d' := 6) (kc := kc) (ks := ks) (kc' := 0 + 1) (ks' := 0 + 6) sX8_50 rfl rfl (e8_nameT hw (fun q => hx (Or.inr q)) (by omega)) hd rfl (dc_ok oX8_requireOperand rfl) rfl (fun m hm => ⟨rfl, ⟨m, hm, rfl⟩, rfl, rfl⟩)
theorem e8_termAt {t j : Nat} (hw : WS lx ly g) (hc : I 1 5 = nI cnt) (h80 : cnt ≤ 80) (hx : x = nI t) (ht : t < cnt) (hj : g.2.2 2 t = some j) : Mx mX8_termAt d 0 0 [vS 1, vI x] g I L (qV (some (vD (some j))) g I L) := by
  subst hx
  refine Mx_in (by decide +kernel) rfl rfl (Ex_wx [27, 4] 9 oX8_termAt hw ?_)
  refine And.intro (fun c => absurd c (nI_pos (by omega))) (fun _ => ?_)
  refine Ex_wx [27, 12] 9 oX8_termAt hw ?_
  refine And.intro (fun c => absurd (hc ▸ c) (nI_ge ht (by omega))) (fun _ => ?_)
  refine Ex_wx [27, 18] 9 oX8_termAt hw ?_
  refine And.intro (fun c => absurd (show nI 80 ≤ nI t from c) (nI_ge (by omega) (by omega))) (fun _ => ?_)
  refine Ex_wx [28] 9 oX8_termAt hw ?_
  refine ⟨Or.inl rfl, inN (by omega) (by omega), ?_⟩
  rw [clN (by omega), hj]
  refine Ex_wx [] 9 oX8_termAt hw ?_
  exact ⟨rfl, rfl, rfl, rfl⟩
def tmP (cnt : Nat) (x : Int32) : Prop := 0 ≤ x ∧ x < nI cnt
theorem tmP.idx {cnt : Nat} {x : Int32} (h : tmP cnt x) (hc : cnt ≤ 80) : ∃ t, t < cnt ∧ x = nI t := by
  have h1 := Int32.le_iff_toInt_le.mp h.1
  have h2 := Int32.lt_iff_toInt_lt.mp h.2
  rw [nI_toInt (by omega)] at h2
  have h0 : (0 : Int32).toInt = 0 := rfl
  rw [h0] at h1
  refine ⟨x.toInt.toNat, by omega, ?_⟩
  apply Int32.toInt_inj.mp
  rw [nI_toInt (by omega)]
  omega
theorem e8_termAtT (hw : WS lx ly g) (hc : I 1 5 = nI cnt) (hx : ¬ tmP cnt x) (hd : 6 ≤ d) : Mx mX8_termAt d (kc + 1) (ks + 6) [vS 1, vI x] g I L (qT E1 g I L) := by
  have ht : ∀ w, Ex mX8_termAt d (kc + 1) (ks + 6) (qT E1 g I L) 27 [some (vS 1), some (vI x), w] [] g I L := by
    intro w
    refine Ex_wx [33] 9 oX8_termAt hw ?_
    exact Ex_throw tOk_1 rfl rfl (by decide : (146, "no such TERM") ∈ qStr) hd (by decide) (dc_ok oX8_termAt rfl) (dc_ok oX8_termAt rfl) (dc_ok oX8_termAt rfl) (dc_ok oX8_termAt rfl) (dc_ok oX8_termAt rfl) (fun n hn => ⟨rfl, ⟨n, hn, rfl⟩, rfl, rfl⟩)
  refine Mx_in (by decide +kernel) rfl rfl (Ex_wx [27, 4] 9 oX8_termAt hw ?_)
  refine And.intro (fun _ => ht _) (fun c => ?_)
  refine Ex_wx [27, 12] 9 oX8_termAt hw ?_
  refine And.intro (fun _ => ht _) (fun c2 => ?_)
  rw [hc] at c2
  exact absurd ⟨Int32.not_lt.mp c, Int32.not_le.mp c2⟩ hx
def kbN (k : Nat) : Nat := if k = 1 ∨ k = 2 then 1 else if k = 3 ∨ k = 12 ∨ k = 13 then 2 else if k = 4 ∨ k = 8 then 4 else if k = 5 ∨ k = 6 ∨ k = 11 then 8 else 0

theorem e0_layersOf {k : Nat} (hw : WS lx ly g) (hk : k ≤ 18) : Mx mX0_layersOf d 0 0 [vI (nI k)] g I L (qV (some (vI (nI (kbN k)))) g I L) := by
  have h : k = 0 ∨ k = 1 ∨ k = 2 ∨ k = 3 ∨ k = 4 ∨ k = 5 ∨ k = 6 ∨ k = 7 ∨ k = 8 ∨ k = 9 ∨ k = 10 ∨ k = 11 ∨ k = 12 ∨ k = 13 ∨ k = 14 ∨ k = 15 ∨ k = 16 ∨ k = 17 ∨ k = 18 := by omega
  refine Mx_in (by decide +kernel) rfl rfl (Ex_wx [] 9 oX0_layersOf hw ?_)
  rcases h with rfl | rfl | rfl | rfl | rfl | rfl | rfl | rfl | rfl | rfl | rfl | rfl | rfl | rfl | rfl | rfl | rfl | rfl | rfl
  · refine Ex_tableOut (tgt := 77) (dc_ok oX0_layersOf rfl) (by decide) (by decide) ?_
    refine Ex_wx [] 9 oX0_layersOf hw ?_
    exact ⟨rfl, rfl, rfl, rfl⟩
  · refine Ex_tableIn (tgt := 68) (off := 67) (dc_ok oX0_layersOf rfl) (by decide) (by decide) (by decide) (by decide) ?_
    refine Ex_wx [] 9 oX0_layersOf hw ?_
    exact ⟨rfl, rfl, rfl, rfl⟩
  · refine Ex_tableIn (tgt := 68) (off := 67) (dc_ok oX0_layersOf rfl) (by decide) (by decide) (by decide) (by decide) ?_
    refine Ex_wx [] 9 oX0_layersOf hw ?_
    exact ⟨rfl, rfl, rfl, rfl⟩
  · refine Ex_tableIn (tgt := 70) (off := 69) (dc_ok oX0_layersOf rfl) (by decide) (by decide) (by decide) (by decide) ?_
    refine Ex_wx [] 9 oX0_layersOf hw ?_
    exact ⟨rfl, rfl, rfl, rfl⟩
  · refine Ex_tableIn (tgt := 72) (off := 71) (dc_ok oX0_layersOf rfl) (by decide) (by decide) (by decide) (by decide) ?_
    refine Ex_wx [] 9 oX0_layersOf hw ?_
    exact ⟨rfl, rfl, rfl, rfl⟩
  · refine Ex_tableIn (tgt := 74) (off := 73) (dc_ok oX0_layersOf rfl) (by decide) (by decide) (by decide) (by decide) ?_
    refine Ex_wx [] 9 oX0_layersOf hw ?_
    exact ⟨rfl, rfl, rfl, rfl⟩
  · refine Ex_tableIn (tgt := 74) (off := 73) (dc_ok oX0_layersOf rfl) (by decide) (by decide) (by decide) (by decide) ?_
    refine Ex_wx [] 9 oX0_layersOf hw ?_
    exact ⟨rfl, rfl, rfl, rfl⟩
  · refine Ex_tableIn (tgt := 77) (off := 76) (dc_ok oX0_layersOf rfl) (by decide) (by decide) (by decide) (by decide) ?_
    refine Ex_wx [] 9 oX0_layersOf hw ?_
    exact ⟨rfl, rfl, rfl, rfl⟩
  · refine Ex_tableIn (tgt := 72) (off := 71) (dc_ok oX0_layersOf rfl) (by decide) (by decide) (by decide) (by decide) ?_
    refine Ex_wx [] 9 oX0_layersOf hw ?_
    exact ⟨rfl, rfl, rfl, rfl⟩
  · refine Ex_tableIn (tgt := 77) (off := 76) (dc_ok oX0_layersOf rfl) (by decide) (by decide) (by decide) (by decide) ?_
    refine Ex_wx [] 9 oX0_layersOf hw ?_
    exact ⟨rfl, rfl, rfl, rfl⟩
  · refine Ex_tableIn (tgt := 77) (off := 76) (dc_ok oX0_layersOf rfl) (by decide) (by decide) (by decide) (by decide) ?_
    refine Ex_wx [] 9 oX0_layersOf hw ?_
    exact ⟨rfl, rfl, rfl, rfl⟩
  · refine Ex_tableIn (tgt := 74) (off := 73) (dc_ok oX0_layersOf rfl) (by decide) (by decide) (by decide) (by decide) ?_
    refine Ex_wx [] 9 oX0_layersOf hw ?_
    exact ⟨rfl, rfl, rfl, rfl⟩
  · refine Ex_tableIn (tgt := 70) (off := 69) (dc_ok oX0_layersOf rfl) (by decide) (by decide) (by decide) (by decide) ?_
    refine Ex_wx [] 9 oX0_layersOf hw ?_
    exact ⟨rfl, rfl, rfl, rfl⟩
  · refine Ex_tableIn (tgt := 70) (off := 69) (dc_ok oX0_layersOf rfl) (by decide) (by decide) (by decide) (by decide) ?_
    refine Ex_wx [] 9 oX0_layersOf hw ?_
    exact ⟨rfl, rfl, rfl, rfl⟩
  · refine Ex_tableOut (tgt := 77) (dc_ok oX0_layersOf rfl) (by decide) (by decide) ?_
    refine Ex_wx [] 9 oX0_layersOf hw ?_
    exact ⟨rfl, rfl, rfl, rfl⟩
  · refine Ex_tableOut (tgt := 77) (dc_ok oX0_layersOf rfl) (by decide) (by decide) ?_
    refine Ex_wx [] 9 oX0_layersOf hw ?_
    exact ⟨rfl, rfl, rfl, rfl⟩
  · refine Ex_tableOut (tgt := 77) (dc_ok oX0_layersOf rfl) (by decide) (by decide) ?_
    refine Ex_wx [] 9 oX0_layersOf hw ?_
    exact ⟨rfl, rfl, rfl, rfl⟩
  · refine Ex_tableOut (tgt := 77) (dc_ok oX0_layersOf rfl) (by decide) (by decide) ?_
    refine Ex_wx [] 9 oX0_layersOf hw ?_
    exact ⟨rfl, rfl, rfl, rfl⟩
  · refine Ex_tableOut (tgt := 77) (dc_ok oX0_layersOf rfl) (by decide) (by decide) ?_
    refine Ex_wx [] 9 oX0_layersOf hw ?_
    exact ⟨rfl, rfl, rfl, rfl⟩
def hF (I : aI) (c : Nat) : Option Nat → Int32
  | none => 0
  | some i => I i c
theorem e7_heightOf {f : Option Nat} (hw : WS lx ly g) (hf : ∀ i, f = some i → g.2.1 i = some (.inl 7)) : Mx mX7_heightOf d 0 0 [vD f] g I L (qV (some (vI (hF I 6 f))) g I L) := by
  cases f with
  | none =>
    refine Mx_in (by decide +kernel) rfl rfl (Ex_wx [] 9 oX7_heightOf hw ?_)
    exact ⟨rfl, rfl, rfl, rfl⟩
  | some i =>
    refine Mx_in (by decide +kernel) rfl rfl (Ex_wx [] 9 oX7_heightOf hw ?_)
    exact ⟨hf i rfl, rfl, rfl, rfl, rfl⟩
theorem e7_layersOf {f : Option Nat} (hw : WS lx ly g) (hf : ∀ i, f = some i → g.2.1 i = some (.inl 7)) : Mx mX7_layersOf d 0 0 [vD f] g I L (qV (some (vI (hF I 7 f))) g I L) := by
  cases f with
  | none =>
    refine Mx_in (by decide +kernel) rfl rfl (Ex_wx [] 9 oX7_layersOf hw ?_)
    exact ⟨rfl, rfl, rfl, rfl⟩
  | some i =>
    refine Mx_in (by decide +kernel) rfl rfl (Ex_wx [] 9 oX7_layersOf hw ?_)
    exact ⟨hf i rfl, rfl, rfl, rfl, rfl⟩
end Req
