/-! the constructors of the machine and of the whole -/
theorem x5G_sh {a i : Nat} {g : aG} (h : i < g.1) : (x5G a g).2.1 i = g.2.1 i := by
  unfold x5G
  rw [nG_sh (Nat.lt_succ_of_lt (Nat.lt_succ_of_lt (Nat.lt_succ_of_lt h))), nG_sh (Nat.lt_succ_of_lt (Nat.lt_succ_of_lt h)), nG_sh (Nat.lt_succ_of_lt h), nG_sh h]
theorem x2G_sh {a i : Nat} {g : aG} (h : i < g.1) : (x2G a g).2.1 i = g.2.1 i := by
  unfold x2G
  rw [nG_sh (Nat.lt_succ_of_lt (Nat.lt_succ_of_lt h)), nG_sh (Nat.lt_succ_of_lt h), nG_sh h]
theorem x4L_1 {a : Nat} : ∀ (m k : Nat) (g : aG), (x4L a m k g).1 = g.1 + 2 * m
  | 0, _, _ => rfl
  | m + 1, k, g => by
    show (x4L a m (k + 1) (pG a k (some g.1) (roG g))).1 = _
    rw [x4L_1 m]
    show g.1 + 2 + 2 * m = _
    omega
theorem x4L_sh {a i : Nat} : ∀ (m k : Nat) (g : aG), i < g.1 → (x4L a m k g).2.1 i = g.2.1 i
  | 0, _, _, _ => rfl
  | m + 1, k, g, h => by
    show (x4L a m (k + 1) (pG a k (some g.1) (roG g))).2.1 i = _
    rw [x4L_sh m _ _ (by show i < g.1 + 2; omega)]
    exact roG_sh h
theorem x4G_1 {r : Nat} {g : aG} : (x4G r g).1 = g.1 + 103 := by
  unfold x4G
  rw [x4L_1]
  rfl
theorem x4G_sh {r i : Nat} {g : aG} (h : i < g.1) : (x4G r g).2.1 i = g.2.1 i := by
  unfold x4G
  rw [x4L_sh _ _ _ (by show i < g.1 + 2 + 1; omega)]
  show (g_add (x4A r g) _).2.1 i = _
  rw [g_add_lt (by show i < g.1 + 2; omega)]
  exact roG_sh h
theorem x3G_1 {r : Nat} {g : aG} : (x3G r g).1 = g.1 + 11 := rfl
theorem x3A_sh {r i : Nat} {g : aG} (h : i < g.1) : (x3A r g).2.1 i = g.2.1 i := by
  show (x5G g.1 (g_add g (.inl 5))).2.1 i = _
  rw [x5G_sh (Nat.lt_succ_of_lt h), g_add_lt h]
theorem x3B_sh {r i : Nat} {g : aG} (h : i < g.1) : (x3B r g).2.1 i = g.2.1 i := by
  show (x2G g.1 (g_add g (.inl 2))).2.1 i = _
  rw [x2G_sh (Nat.lt_succ_of_lt h), g_add_lt h]
theorem x3G_sh {r i : Nat} {g : aG} (h : i < g.1) : (x3G r g).2.1 i = g.2.1 i := by
  show (g_add (nG r 2 .int 8 (x3B r (x3A r g))) (.inl 1)).2.1 i = _
  rw [g_add_lt (by show i < g.1 + 5 + 4 + 1; omega), nG_sh (by show i < g.1 + 5 + 4; omega), x3B_sh (by show i < g.1 + 5; omega), x3A_sh h]
theorem Io.ia {b : Nat} {g : aG} {I J : aI} (h : Io (g.1 + 1) g.1 (I_add g I) J) (hb : b ≤ g.1) : Ia b I J := fun i hi => by
  rw [h i (by omega) (by omega)]
  funext k
  show (if i = g.1 then 0 else I i k) = I i k
  rw [if_neg (by omega)]
theorem Ia.ia {b : Nat} {g : aG} {I J : aI} (h : Ia (g.1 + 1) (I_add g I) J) (hb : b ≤ g.1) : Ia b I J := fun i hi => by
  rw [h i (by omega)]
  funext k
  show (if i = g.1 then 0 else I i k) = I i k
  rw [if_neg (by omega)]
theorem Ia.trans {b : Nat} {I J K : aI} (h : Ia b I J) (h' : Ia b J K) : Ia b I K := fun i hi => (h' i hi).trans (h i hi)
section Ctor3
variable {g : aG} {I : aI} {L : aL} {d r : Nat}
theorem k3_init (hr : g.2.1 r = some (.inl 3)) (hr0 : r < g.1 ∧ r ≠ 0) (hd : 2 ≤ d) : Mx mX3_init d 11 18428 [vD (some r)] g I L (coQ (x3G r g) (fun J => J g.1 4 = 0 ∧ Ia g.1 I J)) := by
  obtain ⟨r1, r2⟩ := hr0
  refine Mx_in (by decide +kernel) rfl rfl (Ex_bn 1 oX3_init w0 ?_)
  refine Ex_objInit (gOne (by decide +kernel)) (gOne (by decide +kernel)) (gOne (by decide +kernel)) (by omega) (by decide) (dc_ok oX3_init rfl) ?_
  refine Ex_bn 1 oX3_init w0 ?_
  refine Ex_new (kc := 10) (ks := 18423) (ci := 5) (q := (RX5, TX5, 5)) rfl (gOne (by decide +kernel)) (gOne (by decide +kernel)) (gOne (by decide +kernel)) (dc_ok oX3_init rfl) ?_
  refine Ex_bn 1 oX3_init w0 ?_
  refine Ex_callIN (N := mX5_init) (kc := 6) (ks := 6023) (kc' := 4) (ks' := 12400) (As := []) (st := [vD (some g.1), vD (some r)]) (gOne (by decide +kernel)) rfl (gOne (by decide +kernel)) (by decide) (by decide) (by decide) rfl rfl (gOne (by decide +kernel)) (k5_init (d := 1) g_add_at ⟨Nat.lt_succ_self _, by omega⟩ (by omega)) (fun E g I L h => coQ_no h) (by omega) (Nat.le_of_ble_eq_true rfl) (dc_ok oX3_init rfl) ?_
  rintro v g' J1 L1 ⟨e, rfl, hJ1⟩
  cases e
  have hz1 : J1 g.1 4 = 0 := by
    rw [hJ1 g.1 (Nat.lt_succ_self _)]
    show (if g.1 = g.1 then 0 else I g.1 4) = 0
    rw [if_pos rfl]
  have hI1 := Ia.ia (b := g.1) hJ1 (Nat.le_refl _)
  refine Ex_putRD (ci := 3) (k := 0) (fB_ok (by decide +kernel)) (Or.inr ⟨rfl, _, rfl, rfl⟩) rfl (x3A_sh (r := r) r1 |>.trans hr) r2 (dc_ok oX3_init rfl) ?_
  have hgA : (x3A r g).1 = g.1 + 5 := rfl
  have hsA : (x3A r g).2.1 r = some (.inl 3) := (x3A_sh r1).trans hr
  show Ex mX3_init d 6 6023 (coQ (x3C r (nG r 2 .int 8 (x3B r (x3A r g)))) _) 15 [some (vD (some r))] [] (x3A r g) J1 L1
  generalize x3A r g = gA at hgA hsA ⊢
  refine Ex_bn 1 oX3_init w0 ?_
  refine Ex_new (kc := 5) (ks := 6019) (ci := 2) (q := (RX2, TX2, 4)) rfl (gOne (by decide +kernel)) (gOne (by decide +kernel)) (gOne (by decide +kernel)) (dc_ok oX3_init rfl) ?_
  refine Ex_bn 1 oX3_init w0 ?_
  refine Ex_callIN (N := mX2_init) (kc := 2) (ks := 16) (kc' := 3) (ks' := 6003) (As := []) (st := [vD (some gA.1), vD (some r)]) (gOne (by decide +kernel)) rfl (gOne (by decide +kernel)) (by decide) (by decide) (by decide) rfl rfl (gOne (by decide +kernel)) (k2_init (d := 1) g_add_at ⟨Nat.lt_succ_self _, by omega⟩ (by omega)) (fun E g I L h => coQ_no h) (by omega) (Nat.le_of_ble_eq_true rfl) (dc_ok oX3_init rfl) ?_
  rintro v g' J2 L2 ⟨e, rfl, hJ2⟩
  cases e
  have hI2 := Io.ia (b := g.1 + 1) hJ2 (by omega)
  refine Ex_putRD (ci := 3) (k := 1) (fB_ok (by decide +kernel)) (Or.inr ⟨rfl, _, rfl, rfl⟩) rfl (x3B_sh (r := r) (g := gA) (by omega) |>.trans hsA) r2 (dc_ok oX3_init rfl) ?_
  have hgB : (x3B r gA).1 = g.1 + 9 := by show gA.1 + 4 = _; omega
  have hsB : (x3B r gA).2.1 r = some (.inl 3) := (x3B_sh (by omega)).trans hsA
  show Ex mX3_init d 2 16 (coQ (x3C r (nG r 2 .int 8 (x3B r gA))) _) 26 [some (vD (some r))] [] (x3B r gA) J2 L2
  generalize x3B r gA = gB at hgB hsB ⊢
  refine Ex_bn 2 oX3_init w0 ?_
  refine Ex_arI (kc := 1) (ks := 8) (ci := 3) (k := 2) (N := 8) (by decide) (by decide) (by decide) (dc_ok oX3_init rfl) (fB_ok (by decide +kernel)) (Or.inr ⟨rfl, _, rfl, rfl⟩) rfl hsB ⟨by omega, r2⟩ (dc_ok oX3_init rfl) ?_
  have hgC : (nG r 2 .int 8 gB).1 = g.1 + 10 := by show gB.1 + 1 = _; omega
  have hsC : (nG r 2 .int 8 gB).2.1 r = some (.inl 3) := (nG_sh (by omega)).trans hsB
  have hI3 : Ia (g.1 + 1) J2 (I_add gB J2) := Ia.refl.add (by omega)
  generalize I_add gB J2 = J3 at hI3 ⊢
  generalize L_add gB L2 = L3
  generalize nG r 2 .int 8 gB = gC at hgC hsC ⊢
  refine Ex_bn 1 oX3_init w0 ?_
  refine Ex_new (kc := 0) (ks := 0) (ci := 1) (q := (RX1, TX1, 8)) rfl (gOne (by decide +kernel)) (gOne (by decide +kernel)) (gOne (by decide +kernel)) (dc_ok oX3_init rfl) ?_
  refine Ex_bn 5 oX3_init w0 ?_
  refine Ex_callI (kc := 0) (ks := 0) (kc' := 0) (ks' := 0) (As := [vI (-1), vI (-1), vI (-1), vI (-1)]) (st := [vD (some gC.1), vD (some r)]) (iX3_31.c rfl) rfl rfl iX3_31.2.2.2.1 (e1_init (d := 1) (I := I_add gC J3) (L := L_add gC L3) g_add_at (by omega) (by omega)) (fun E g I L h => by cases h.1) (by omega) (Nat.le_of_ble_eq_true rfl) (dc_ok oX3_init rfl) ?_
  rintro v g' J4 L4 ⟨e, rfl, rfl, -, hJ4⟩
  cases e
  have hI4 : Ia (g.1 + 1) J3 J4 := fun i hi => by
    funext k
    rw [hJ4 i k (by omega)]
    show (if i = gC.1 then 0 else J3 i k) = _
    rw [if_neg (by omega)]
  refine Ex_putRD (ci := 3) (k := 3) (fB_ok (by decide +kernel)) (Or.inr ⟨rfl, _, rfl, rfl⟩) rfl ((g_add_lt (by omega)).trans hsC) r2 (dc_ok oX3_init rfl) ?_
  refine Ex_wx [] 9 oX3_init w0 ?_
  have hIa : Ia (g.1 + 1) J1 J4 := (hI2.trans hI3).trans hI4
  exact ⟨rfl, rfl, by rw [hIa g.1 (by omega)]; exact hz1, fun i hi => by rw [hIa i (by omega)]; exact hI1 i hi⟩
theorem new4 : Cond.classLink RX8 22 RX4 ∈ gT ∧ Cond.instantiable RX4 3 ∈ gT ∧ Cond.initialized RX4 ∈ gT := ⟨(gOne (by decide +kernel)), (gOne (by decide +kernel)), (gOne (by decide +kernel))⟩
/-- an outcome, put into a field -/
theorem Ex_outc {pc kc ks idx k : Nat} {Q : aQ} {lo : List (Option aV)} (hr : g.2.1 r = some (.inl 8)) (hr0 : r < g.1 ∧ r ≠ 0) (hd : 3 ≤ d) (d1 : decode mX8_init.cc pc = .ok (.new 22, 3)) (d2 : decode mX8_init.cc (pc + 3) = .ok (.dup, 1)) (d3 : decode mX8_init.cc (pc + 3 + 1) = .ok (.invokespecial 24, 3)) (d4 : decode mX8_init.cc (pc + 3 + 1 + 3) = .ok (.putfield idx, 3)) (fk : fOk mX8_init idx 8 k) (fp : fPut mX8_init 8 k) (hI : isRt (qt 8 k) = true)
    (kk : ∀ J L', J g.1 0 = -3 → Ia g.1 I J → Ex mX8_init d kc ks Q (pc + 3 + 1 + 3 + 3) lo [] (x8O r k g) J L') : Ex mX8_init d (kc + 103 + 1) (ks + 3416 + 3) Q pc lo [vD (some r)] g I L := by
  obtain ⟨r1, r2⟩ := hr0
  refine Ex_new (kc := kc + 103) (ks := ks + 3416) (ci := 4) (q := (RX4, TX4, 3)) rfl new4.1 new4.2.1 new4.2.2 d1 ?_
  refine Ex_dup (fun x e => by cases e) d2 ?_
  refine Ex_callI (kc := kc) (ks := ks) (kc' := 103) (ks' := 3416) (As := []) (st := [vD (some g.1), vD (some r)]) (iX8_24.c rfl) rfl rfl iX8_24.2.2.2.1 (k4_init (d := 2) g_add_at ⟨Nat.lt_succ_self _, by omega⟩ (by omega)) (fun E g I L h => coQ_no h) (by omega) (Nat.le_of_ble_eq_true rfl) d3 ?_
  rintro v g' J L' ⟨e, rfl, hz, hJ⟩
  cases e
  refine Ex_putRD fk fp hI ((x4G_sh (Nat.lt_succ_of_lt r1)).trans ((g_add_lt r1).trans hr)) r2 d4 ?_
  exact kk J L' hz (Io.ia hJ (Nat.le_refl _))
theorem x8O_1 {r k : Nat} {g : aG} : (x8O r k g).1 = g.1 + 104 := by
  show (x4G g.1 (g_add g (.inl 4))).1 = _
  rw [x4G_1]
  show g.1 + 1 + 103 = _
  omega
theorem x8O_sh {r k i : Nat} {g : aG} (h : i < g.1) : (x8O r k g).2.1 i = g.2.1 i := by
  show (x4G g.1 (g_add g (.inl 4))).2.1 i = _
  rw [x4G_sh (Nat.lt_succ_of_lt h), g_add_lt h]
theorem x8B_sh {r i : Nat} {g : aG} (h : i < g.1) : (x8B r g).2.1 i = g.2.1 i := by
  show (x3G g.1 (g_add g (.inl 3))).2.1 i = _
  rw [x3G_sh (Nat.lt_succ_of_lt h), g_add_lt h]
theorem k8_init (hr : g.2.1 r = some (.inl 8)) (hr0 : r < g.1 ∧ r ≠ 0) (hd : 4 ≤ d) : Mx mX8_init d 326 28782 [vD (some r)] g I L (coQ (x8G r g) (fun J => J (g.1 + 2) 4 = 0 ∧ J (g.1 + 13) 0 = -3 ∧ LyV J (g.1 + 325) (plI 0 (-1) (-1) (-1) (-1)) (plI 1 (-1) (-1) (-1) (-1)) (plI 2 (-1) (-1) (-1) (-1)) (plI 3 (-1) (-1) (-1) (-1)) ∧ Ia g.1 I J)) := by
  obtain ⟨r1, r2⟩ := hr0
  generalize hb : g.1 = b at *
  refine Mx_in (by decide +kernel) rfl rfl (Ex_bn 1 oX8_init w0 ?_)
  refine Ex_objInit (gOne (by decide +kernel)) (gOne (by decide +kernel)) (gOne (by decide +kernel)) (by omega) (by decide) (dc_ok oX8_init rfl) ?_
  refine Ex_bn 2 oX8_init w0 ?_
  refine Ex_anew (kc := 325) (ks := 28702) (N := 80) (T0 := RX7) (Or.inl rfl) new7.1 (by decide) (by decide) (by decide) (dc_ok oX8_init rfl) ?_
  refine Ex_putRD (ci := 8) (k := 0) (fB_ok (by decide +kernel)) (Or.inr ⟨rfl, _, rfl, rfl⟩) rfl ((g_add_lt (by omega)).trans hr) r2 (dc_ok oX8_init rfl) ?_
  have hgA : (x8A r g).1 = b + 1 := by show g.1 + 1 = _; omega
  have hsA : (x8A r g).2.1 r = some (.inl 8) := (g_add_lt (by omega)).trans hr
  have hIA : Ia b I (I_add g I) := Ia.refl.add (by omega)
  show Ex mX8_init d 325 28702 (coQ (x8C r (x8O r 4 (x8O r 3 (x8O r 2 (x8B r (x8A r g)))))) _) 13 [some (vD (some r))] [] (x8A r g) (I_add g I) (L_add g L)
  generalize x8A r g = gA at hgA hsA ⊢
  generalize I_add g I = JA at hIA ⊢
  generalize L_add g L = LA
  refine Ex_bn 1 oX8_init w0 ?_
  refine Ex_new (kc := 324) (ks := 28693) (ci := 3) (q := (RX3, TX3, 9)) rfl (gOne (by decide +kernel)) (gOne (by decide +kernel)) (gOne (by decide +kernel)) (dc_ok oX8_init rfl) ?_
  refine Ex_bn 1 oX8_init w0 ?_
  refine Ex_callIN (N := mX3_init) (kc := 313) (ks := 10265) (kc' := 11) (ks' := 18428) (As := []) (st := [vD (some gA.1), vD (some r)]) (gOne (by decide +kernel)) rfl (gOne (by decide +kernel)) (by decide) (by decide) (by decide) rfl rfl (gOne (by decide +kernel)) (k3_init (d := 2) g_add_at ⟨Nat.lt_succ_self _, by omega⟩ (by omega)) (fun E g I L h => coQ_no h) (by omega) (Nat.le_of_ble_eq_true rfl) (dc_ok oX8_init rfl) ?_
  rintro v g' JB LB ⟨e, rfl, hz4, hJB⟩
  cases e
  have hz4 : JB (b + 2) 4 = 0 := by
    have : (g_add gA (.inl 3)).1 = b + 2 := by show gA.1 + 1 = _; omega
    rw [this] at hz4; exact hz4
  have hIB : Ia b JA JB := Ia.ia hJB (by omega)
  refine Ex_putRD (ci := 8) (k := 1) (fB_ok (by decide +kernel)) (Or.inr ⟨rfl, _, rfl, rfl⟩) rfl ((x8B_sh (r := r) (g := gA) (by omega)).trans hsA) r2 (dc_ok oX8_init rfl) ?_
  have hgB : (x8B r gA).1 = b + 13 := by show gA.1 + 1 + 11 = _; omega
  have hsB : (x8B r gA).2.1 r = some (.inl 8) := (x8B_sh (by omega)).trans hsA
  show Ex mX8_init d 313 10265 (coQ (x8C r (x8O r 4 (x8O r 3 (x8O r 2 (x8B r gA))))) _) 24 [some (vD (some r))] [] (x8B r gA) JB LB
  generalize x8B r gA = gB at hgB hsB ⊢
  refine Ex_bn 1 oX8_init w0 ?_
  refine Ex_outc (k := 2) (kc := 209) (ks := 6846) hsB ⟨by omega, r2⟩ (by omega) (dc_ok oX8_init rfl) (dc_ok oX8_init rfl) (dc_ok oX8_init rfl) (dc_ok oX8_init rfl) (fB_ok (by decide +kernel)) (Or.inr ⟨rfl, _, rfl, rfl⟩) rfl ?_
  intro JC LC hC0 hIC
  rw [hgB] at hC0
  have hgC : (x8O r 2 gB).1 = b + 117 := by rw [x8O_1]; omega
  have hsC : (x8O r 2 gB).2.1 r = some (.inl 8) := (x8O_sh (by omega)).trans hsB
  generalize x8O r 2 gB = gC at hgC hsC ⊢
  refine Ex_bn 1 oX8_init w0 ?_
  refine Ex_outc (k := 3) (kc := 105) (ks := 3427) hsC ⟨by omega, r2⟩ (by omega) (dc_ok oX8_init rfl) (dc_ok oX8_init rfl) (dc_ok oX8_init rfl) (dc_ok oX8_init rfl) (fB_ok (by decide +kernel)) (Or.inr ⟨rfl, _, rfl, rfl⟩) rfl ?_
  intro JD LD hD0 hID
  have hgD : (x8O r 3 gC).1 = b + 221 := by rw [x8O_1]; omega
  have hsD : (x8O r 3 gC).2.1 r = some (.inl 8) := (x8O_sh (by omega)).trans hsC
  generalize x8O r 3 gC = gD at hgD hsD ⊢
  refine Ex_bn 1 oX8_init w0 ?_
  refine Ex_outc (k := 4) (kc := 1) (ks := 8) hsD ⟨by omega, r2⟩ (by omega) (dc_ok oX8_init rfl) (dc_ok oX8_init rfl) (dc_ok oX8_init rfl) (dc_ok oX8_init rfl) (fB_ok (by decide +kernel)) (Or.inr ⟨rfl, _, rfl, rfl⟩) rfl ?_
  intro JE LE hE0 hIE
  have hgE : (x8O r 4 gD).1 = b + 325 := by rw [x8O_1]; omega
  have hsE : (x8O r 4 gD).2.1 r = some (.inl 8) := (x8O_sh (by omega)).trans hsD
  generalize x8O r 4 gD = gE at hgE hsE ⊢
  refine Ex_bn 1 oX8_init w0 ?_
  refine Ex_new (kc := 0) (ks := 0) (ci := 1) (q := (RX1, TX1, 8)) rfl new1.1 new1.2.1 new1.2.2 (dc_ok oX8_init rfl) ?_
  refine Ex_bn 5 oX8_init w0 ?_
  refine Ex_callI (kc := 0) (ks := 0) (kc' := 0) (ks' := 0) (As := [vI (-1), vI (-1), vI (-1), vI (-1)]) (st := [vD (some gE.1), vD (some r)]) (iX8_37.c rfl) rfl rfl iX8_37.2.2.2.1 (e1_init (d := 1) (I := I_add gE JE) (L := L_add gE LE) g_add_at (by omega) (by omega)) (fun E g I L h => by cases h.1) (by omega) (Nat.le_of_ble_eq_true rfl) (dc_ok oX8_init rfl) ?_
  rintro v g' JF LF ⟨e, rfl, rfl, hV, hJF⟩
  cases e
  rw [hgE] at hV
  have hIF : Ia gE.1 JE JF := fun i hi => by
    funext k
    rw [hJF i k (by omega)]
    show (if i = gE.1 then 0 else JE i k) = _
    rw [if_neg (by omega)]
  refine Ex_putRD (ci := 8) (k := 6) (fB_ok (by decide +kernel)) (Or.inr ⟨rfl, _, rfl, rfl⟩) rfl ((g_add_lt (by omega)).trans hsE) r2 (dc_ok oX8_init rfl) ?_
  refine Ex_wx [] 9 oX8_init w0 ?_
  refine ⟨rfl, rfl, ?_, ?_, hV, fun i hi => ?_⟩
  · rw [hIF _ (by omega), hIE _ (by omega), hID _ (by omega), hIC _ (by omega)]; exact hz4
  · rw [hIF _ (by omega), hIE _ (by omega), hID _ (by omega)]; exact hC0
  · rw [hIF _ (by omega), hIE _ (by omega), hID _ (by omega), hIC _ (by omega), hIB i hi]; exact hIA i hi
end Ctor3
