/-! the constructors -/
def pG (r k : Nat) (x : Option Nat) (g : aG) : aG := (g.1, g.2.1, up2 g.2.2 r k x)
def nG (r k : Nat) (ty : FieldType) (N : Nat) (g : aG) : aG := pG r k (some g.1) (g_add g (.inr (ty, N)))
def x6G (r : Nat) (g : aG) : aG := nG r 0 .int 65 g
def x5G (r : Nat) (g : aG) : aG := nG r 3 .int 3100 (nG r 2 .int 3100 (nG r 1 .boolean 3100 (nG r 0 .int 3100 g)))
def x2G (r : Nat) (g : aG) : aG := nG r 2 .int 2001 (nG r 1 .int 2001 (nG r 0 .int 2001 g))
def roG (g : aG) : aG := x6G g.1 (g_add g (.inl 6))
def x4L (a : Nat) : Nat → Nat → aG → aG
  | 0, _, g => g
  | m + 1, k, g => x4L a m (k + 1) (pG a k (some g.1) (roG g))
def x4A (r : Nat) (g : aG) : aG := pG r 1 (some g.1) (roG g)
def x4B (r : Nat) (g : aG) : aG := pG r 2 (some g.1) (g_add g (.inr (.object RX6, 50)))
def x4G (r : Nat) (g : aG) : aG := x4L (x4A r g).1 50 0 (x4B r (x4A r g))
def x3A (r : Nat) (g : aG) : aG := pG r 0 (some g.1) (x5G g.1 (g_add g (.inl 5)))
def x3B (r : Nat) (g : aG) : aG := pG r 1 (some g.1) (x2G g.1 (g_add g (.inl 2)))
def x3C (r : Nat) (g : aG) : aG := pG r 3 (some g.1) (g_add g (.inl 1))
def x3G (r : Nat) (g : aG) : aG := x3C r (nG r 2 .int 8 (x3B r (x3A r g)))
def x8A (r : Nat) (g : aG) : aG := pG r 0 (some g.1) (g_add g (.inr (.object RX7, 80)))
def x8B (r : Nat) (g : aG) : aG := pG r 1 (some g.1) (x3G g.1 (g_add g (.inl 3)))
def x8O (r k : Nat) (g : aG) : aG := pG r k (some g.1) (x4G g.1 (g_add g (.inl 4)))
def x8C (r : Nat) (g : aG) : aG := pG r 6 (some g.1) (g_add g (.inl 1))
def x8G (r : Nat) (g : aG) : aG := x8C r (x8O r 4 (x8O r 3 (x8O r 2 (x8B r (x8A r g)))))
/-- the numbers of the old things are as they were, but those of r -/
def Io (b : Nat) (r : Nat) (I J : aI) : Prop := ∀ i, i < b → i ≠ r → J i = I i
def Ia (b : Nat) (I J : aI) : Prop := ∀ i, i < b → J i = I i
def coQ (g' : aG) (P : aI → Prop) : aQ := fun o g I _ => o = .inl none ∧ g = g' ∧ P I
theorem coQ_no {g g' : aG} {I : aI} {L : aL} {P : aI → Prop} {E : String} : ¬ coQ g' P (.inr E) g I L := fun h => by cases h.1
theorem Ia.add {b : Nat} {g : aG} {I J : aI} (h : Ia b I J) (hb : b ≤ g.1) : Ia b I (I_add g J) := fun i hi => by
  funext k
  show (if i = g.1 then 0 else J i k) = I i k
  rw [if_neg (by omega), h i hi]
theorem Ia.refl {b : Nat} {I : aI} : Ia b I I := fun _ _ => rfl
theorem g_add_at {g : aG} {c : aSh} : (g_add g c).2.1 g.1 = some c := by show up1 g.2.1 g.1 _ g.1 = _; unfold up1; rw [if_pos rfl]
theorem g_add_lt {g : aG} {c : aSh} {i : Nat} (h : i < g.1) : (g_add g c).2.1 i = g.2.1 i := by show up1 g.2.1 g.1 _ i = _; unfold up1; rw [if_neg (by omega)]
theorem g_add_rf {g : aG} {c : aSh} {i k : Nat} (h : i < g.1) : (g_add g c).2.2 i k = g.2.2 i k := by show (if i = g.1 then none else g.2.2 i k) = _; rw [if_neg (by omega)]
theorem pG_rf {r k : Nat} {x : Option Nat} {g : aG} {i j : Nat} (h : i ≠ r ∨ j ≠ k) : (pG r k x g).2.2 i j = g.2.2 i j := up2_n h
theorem ac_i : Cond.arrayClass .int ∈ gT := gOne (by decide +kernel)
theorem ac_b : Cond.arrayClass .boolean ∈ gT := gOne (by decide +kernel)
theorem ac_l : Cond.arrayClass .long ∈ gT := gOne (by decide +kernel)
section Ctor
variable {M : aM} {Q : aQ} {pc idx ci : Nat} {lo : List (Option aV)} {st : List aV} {g : aG} {I : aI} {L : aL} {d kc ks r k N : Nat} {n : Int32}
/-- an array, put into a field -/
theorem Ex_arI (hn : ¬ n < 0) (hN : n.toNatClampNeg = N) (hby : N * componentBytes .int ≤ 536870912) (d1 : decode M.cc pc = .ok (.newarray .int, 2)) (fk : fOk M idx ci k) (fp : fPut M ci k) (hI : isRt (qt ci k) = true) (hr : g.2.1 r = some (.inl ci)) (hr0 : r < g.1 ∧ r ≠ 0) (d2 : decode M.cc (pc + 2) = .ok (.putfield idx, 3))
    (kk : Ex M d kc ks Q (pc + 2 + 3) lo st (nG r k .int N g) (I_add g I) (L_add g L)) : Ex M d (kc + 1) (ks + N) Q pc lo (vI n :: vD (some r) :: st) g I L :=
  Ex_newarr (aty := .int) (ty := .int) rfl (Or.inl rfl) ac_i hn hN hby d1 (Ex_putRD fk fp hI ((g_add_lt hr0.1).trans hr) hr0.2 d2 kk)
theorem Ex_arB (hn : ¬ n < 0) (hN : n.toNatClampNeg = N) (hby : N * componentBytes .boolean ≤ 536870912) (d1 : decode M.cc pc = .ok (.newarray .boolean, 2)) (fk : fOk M idx ci k) (fp : fPut M ci k) (hI : isRt (qt ci k) = true) (hr : g.2.1 r = some (.inl ci)) (hr0 : r < g.1 ∧ r ≠ 0) (d2 : decode M.cc (pc + 2) = .ok (.putfield idx, 3))
    (kk : Ex M d kc ks Q (pc + 2 + 3) lo st (nG r k .boolean N g) (I_add g I) (L_add g L)) : Ex M d (kc + 1) (ks + N) Q pc lo (vI n :: vD (some r) :: st) g I L :=
  Ex_newarr (aty := .boolean) (ty := .boolean) rfl (Or.inr (Or.inl rfl)) ac_b hn hN hby d1 (Ex_putRD fk fp hI ((g_add_lt hr0.1).trans hr) hr0.2 d2 kk)
end Ctor
section Ctor2
variable {g : aG} {I : aI} {L : aL} {d r : Nat}
theorem k6_init (hr : g.2.1 r = some (.inl 6)) (hr0 : r < g.1 ∧ r ≠ 0) (hd : 1 ≤ d) : Mx mX6_init d 1 65 [vD (some r)] g I L (coQ (x6G r g) (Ia g.1 I)) := by
  refine Mx_in (by decide +kernel) rfl rfl (Ex_bn 1 oX6_init w0 ?_)
  refine Ex_objInit (gOne (by decide +kernel)) (gOne (by decide +kernel)) (gOne (by decide +kernel)) hd (by decide) (dc_ok oX6_init rfl) ?_
  refine Ex_bn 2 oX6_init w0 ?_
  refine Ex_arI (kc := 0) (ks := 0) (ci := 6) (k := 0) (N := 65) (by decide) (by decide) (by decide) (dc_ok oX6_init rfl) (fB_ok (by decide +kernel)) (Or.inr ⟨rfl, _, rfl, rfl⟩) rfl hr hr0 (dc_ok oX6_init rfl) ?_
  refine Ex_wx [] 9 oX6_init w0 ?_
  exact ⟨rfl, rfl, Ia.refl.add (Nat.le_refl _)⟩
theorem nG_sh {r k : Nat} {ty : FieldType} {N : Nat} {g : aG} {i : Nat} (h : i < g.1) : (nG r k ty N g).2.1 i = g.2.1 i := g_add_lt h
theorem k5_init (hr : g.2.1 r = some (.inl 5)) (hr0 : r < g.1 ∧ r ≠ 0) (hd : 1 ≤ d) : Mx mX5_init d 4 12400 [vD (some r)] g I L (coQ (x5G r g) (Ia g.1 I)) := by
  obtain ⟨r1, r2⟩ := hr0
  have s1 : (nG r 0 .int 3100 g).2.1 r = some (.inl 5) := (nG_sh r1).trans hr
  have q1 : r < (nG r 0 .int 3100 g).1 := Nat.lt_succ_of_lt r1
  have s2 : (nG r 1 .boolean 3100 (nG r 0 .int 3100 g)).2.1 r = some (.inl 5) := (nG_sh q1).trans s1
  have q2 : r < (nG r 1 .boolean 3100 (nG r 0 .int 3100 g)).1 := Nat.lt_succ_of_lt q1
  have s3 : (nG r 2 .int 3100 (nG r 1 .boolean 3100 (nG r 0 .int 3100 g))).2.1 r = some (.inl 5) := (nG_sh q2).trans s2
  have q3 : r < (nG r 2 .int 3100 (nG r 1 .boolean 3100 (nG r 0 .int 3100 g))).1 := Nat.lt_succ_of_lt q2
  refine Mx_in (by decide +kernel) rfl rfl (Ex_bn 1 oX5_init w0 ?_)
  refine Ex_objInit (gOne (by decide +kernel)) (gOne (by decide +kernel)) (gOne (by decide +kernel)) hd (by decide) (dc_ok oX5_init rfl) ?_
  refine Ex_bn 2 oX5_init w0 ?_
  refine Ex_arI (kc := 3) (ks := 9300) (ci := 5) (k := 0) (N := 3100) (by decide) (by decide) (by decide) (dc_ok oX5_init rfl) (fB_ok (by decide +kernel)) (Or.inr ⟨rfl, _, rfl, rfl⟩) rfl hr ⟨r1, r2⟩ (dc_ok oX5_init rfl) ?_
  refine Ex_bn 2 oX5_init w0 ?_
  refine Ex_arB (kc := 2) (ks := 6200) (ci := 5) (k := 1) (N := 3100) (by decide) (by decide) (by decide) (dc_ok oX5_init rfl) (fB_ok (by decide +kernel)) (Or.inr ⟨rfl, _, rfl, rfl⟩) rfl s1 ⟨q1, r2⟩ (dc_ok oX5_init rfl) ?_
  refine Ex_bn 2 oX5_init w0 ?_
  refine Ex_arI (kc := 1) (ks := 3100) (ci := 5) (k := 2) (N := 3100) (by decide) (by decide) (by decide) (dc_ok oX5_init rfl) (fB_ok (by decide +kernel)) (Or.inr ⟨rfl, _, rfl, rfl⟩) rfl s2 ⟨q2, r2⟩ (dc_ok oX5_init rfl) ?_
  refine Ex_bn 2 oX5_init w0 ?_
  refine Ex_arI (kc := 0) (ks := 0) (ci := 5) (k := 3) (N := 3100) (by decide) (by decide) (by decide) (dc_ok oX5_init rfl) (fB_ok (by decide +kernel)) (Or.inr ⟨rfl, _, rfl, rfl⟩) rfl s3 ⟨q3, r2⟩ (dc_ok oX5_init rfl) ?_
  refine Ex_wx [] 9 oX5_init w0 ?_
  exact ⟨rfl, rfl, (((Ia.refl.add (Nat.le_refl _)).add (Nat.le_succ _)).add (Nat.le_add_right g.1 2)).add (Nat.le_add_right g.1 3)⟩
theorem k2_init (hr : g.2.1 r = some (.inl 2)) (hr0 : r < g.1 ∧ r ≠ 0) (hd : 1 ≤ d) : Mx mX2_init d 3 6003 [vD (some r)] g I L (coQ (x2G r g) (Io g.1 r I)) := by
  obtain ⟨r1, r2⟩ := hr0
  have s1 : (nG r 0 .int 2001 g).2.1 r = some (.inl 2) := (nG_sh r1).trans hr
  have q1 : r < (nG r 0 .int 2001 g).1 := Nat.lt_succ_of_lt r1
  have s2 : (nG r 1 .int 2001 (nG r 0 .int 2001 g)).2.1 r = some (.inl 2) := (nG_sh q1).trans s1
  have q2 : r < (nG r 1 .int 2001 (nG r 0 .int 2001 g)).1 := Nat.lt_succ_of_lt q1
  have s3 : (nG r 2 .int 2001 (nG r 1 .int 2001 (nG r 0 .int 2001 g))).2.1 r = some (.inl 2) := (nG_sh q2).trans s2
  refine Mx_in (by decide +kernel) rfl rfl (Ex_bn 1 oX2_init w0 ?_)
  refine Ex_objInit (gOne (by decide +kernel)) (gOne (by decide +kernel)) (gOne (by decide +kernel)) hd (by decide) (dc_ok oX2_init rfl) ?_
  refine Ex_bn 2 oX2_init w0 ?_
  refine Ex_arI (kc := 2) (ks := 4002) (ci := 2) (k := 0) (N := 2001) (by decide) (by decide) (by decide) (dc_ok oX2_init rfl) (fB_ok (by decide +kernel)) (Or.inr ⟨rfl, _, rfl, rfl⟩) rfl hr ⟨r1, r2⟩ (dc_ok oX2_init rfl) ?_
  refine Ex_bn 2 oX2_init w0 ?_
  refine Ex_arI (kc := 1) (ks := 2001) (ci := 2) (k := 1) (N := 2001) (by decide) (by decide) (by decide) (dc_ok oX2_init rfl) (fB_ok (by decide +kernel)) (Or.inr ⟨rfl, _, rfl, rfl⟩) rfl s1 ⟨q1, r2⟩ (dc_ok oX2_init rfl) ?_
  refine Ex_bn 2 oX2_init w0 ?_
  refine Ex_arI (kc := 0) (ks := 0) (ci := 2) (k := 2) (N := 2001) (by decide) (by decide) (by decide) (dc_ok oX2_init rfl) (fB_ok (by decide +kernel)) (Or.inr ⟨rfl, _, rfl, rfl⟩) rfl s2 ⟨q2, r2⟩ (dc_ok oX2_init rfl) ?_
  refine Ex_wx [] 9 oX2_init w0 ?_
  have hI := ((Ia.refl (b := g.1) (I := I)).add (Nat.le_refl g.1) |>.add (g := nG r 0 .int 2001 g) (Nat.le_succ _)) |>.add (g := nG r 1 .int 2001 (nG r 0 .int 2001 g)) (Nat.le_add_right g.1 2)
  refine And.intro ⟨s3, r2, trivial⟩ ⟨rfl, rfl, fun i hi hn => ?_⟩
  rw [← hI i hi]
  funext k
  exact up2_i hn
theorem new6 : Cond.classLink RX4 15 RX6 ∈ gT ∧ Cond.instantiable RX6 1 ∈ gT ∧ Cond.initialized RX6 ∈ gT := ⟨gOne (by decide +kernel), gOne (by decide +kernel), gOne (by decide +kernel)⟩
/-- a new row -/
theorem Ex_row {pc kc ks : Nat} {Q : aQ} {lo : List (Option aV)} {st : List aV} (hg : 0 < g.1) (hd : 2 ≤ d) (hst : Nat.ble (catL (vD (some g.1) :: st)) 8 = true) (d1 : decode mX4_init.cc pc = .ok (.new 15, 3)) (d2 : decode mX4_init.cc (pc + 3) = .ok (.dup, 1)) (d3 : decode mX4_init.cc (pc + 3 + 1) = .ok (.invokespecial 17, 3))
    (kk : ∀ J L', Ia g.1 I J → Ex mX4_init d kc ks Q (pc + 3 + 1 + 3) lo (vD (some g.1) :: st) (roG g) J L') : Ex mX4_init d (kc + 1 + 1) (ks + 65 + 1) Q pc lo st g I L := by
  refine Ex_new (kc := kc + 1) (ks := ks + 65) (ci := 6) (q := (RX6, TX6, 1)) rfl new6.1 new6.2.1 new6.2.2 d1 ?_
  refine Ex_dup (fun x e => by cases e) d2 ?_
  refine Ex_callIN (N := mX6_init) (kc := kc) (ks := ks) (kc' := 1) (ks' := 65) (As := []) (st := vD (some g.1) :: st) (gOne (by decide +kernel)) rfl (gOne (by decide +kernel)) (by decide) (by decide) (by decide) rfl rfl (gOne (by decide +kernel)) (k6_init (d := 1) g_add_at ⟨Nat.lt_succ_self _, by omega⟩ (by omega)) (fun E g I L h => coQ_no h) (by omega) (Nat.le_of_ble_eq_true hst) d3 ?_
  rintro v g' J L' ⟨e, rfl, hJ⟩
  cases e
  exact kk J L' (fun i hi => by rw [hJ i (Nat.lt_succ_of_lt hi)]; exact Ia.refl.add (Nat.le_refl _) i hi)
theorem roG_1 {g : aG} : (roG g).1 = g.1 + 2 := rfl
theorem roG_sh {g : aG} {i : Nat} (h : i < g.1) : (roG g).2.1 i = g.2.1 i := by
  show (g_add (g_add g (.inl 6)) (.inr (.int, 65))).2.1 i = _
  rw [g_add_lt (Nat.lt_succ_of_lt h), g_add_lt h]
theorem roG_at {g : aG} : (roG g).2.1 g.1 = some (.inl 6) := by
  show (g_add (g_add g (.inl 6)) (.inr (.int, 65))).2.1 g.1 = _
  rw [g_add_lt (Nat.lt_succ_self _)]; exact g_add_at
theorem roG_rf {g : aG} {i k : Nat} (h : i < g.1) : (roG g).2.2 i k = g.2.2 i k := by
  show up2 (g_add (g_add g (.inl 6)) (.inr (.int, 65))).2.2 g.1 0 _ i k = _
  rw [up2_i (by omega), g_add_rf (Nat.lt_succ_of_lt h), g_add_rf h]
theorem k4_init (hr : g.2.1 r = some (.inl 4)) (hr0 : r < g.1 ∧ r ≠ 0) (hd : 2 ≤ d) : Mx mX4_init d 103 3416 [vD (some r)] g I L (coQ (x4G r g) (fun J => J r 0 = -3 ∧ Io g.1 r I J)) := by
  obtain ⟨r1, r2⟩ := hr0
  have hloop : ∀ (a m k : Nat) (g1 gF : aG) (J : aI) (L1 : aL), k + m = 50 → g1.2.1 r = some (.inl 4) → g1.2.2 r 2 = some a → g1.2.1 a = some (.inr (.object RX6, 50)) → r < g1.1 → a < g1.1 → r ≠ a → a ≠ 0 → g.1 ≤ g1.1 → x4L a m k g1 = gF → J r 0 = -3 → Io g.1 r I J → Ex mX4_init d (2 * m) (66 * m) (coQ gF (fun J => J r 0 = -3 ∧ Io g.1 r I J)) 32 [some (vD (some r)), some (vI (nI k))] [] g1 J L1 := by
    intro a m
    induction m with
    | zero =>
      intro k g1 gF J L1 hk _ _ _ _ _ _ _ _ hF hJ hI
      have ek : k = 50 := by omega
      subst ek
      refine Ex_wx [57, 38] 9 oX4_init w0 ?_
      refine And.intro (fun _ => ?_) (fun c => absurd (by decide) c)
      refine Ex_wx [] 9 oX4_init w0 ?_
      exact ⟨rfl, hF, hJ, hI⟩
    | succ m ih =>
      intro k g1 gF J L1 hk h1 h2 h3 h4 h5 h6 h7 h8 hF hJ hI
      refine Ex_wx [57, 38] 9 oX4_init w0 ?_
      refine And.intro (fun c => absurd (show nI 50 ≤ nI k from c) (nI_ge (by omega) (by omega))) (fun _ => ?_)
      refine Ex_bn 2 oX4_init w0 ?_
      refine And.intro h1 ?_
      show Ex mX4_init d (2 * m + 1 + 1) (66 * m + 65 + 1) _ 42 [some (vD (some r)), some (vI (nI k))] [vD (g1.2.2 r 2)] g1 J L1
      rw [h2]
      refine Ex_bn 1 oX4_init w0 ?_
      refine Ex_row (by omega) hd rfl (dc_ok oX4_init rfl) (dc_ok oX4_init rfl) (dc_ok oX4_init rfl) ?_
      intro J1 L2 hJ1
      refine st_SD (a := [vD (some g1.1), vI (nI k)]) (Ex_aast (ci := 6) (n := 50) rfl (Or.inr rfl) ((roG_sh h5).trans h3) h7 roG_at (inN (by omega) (by omega)) (dc_ok oX4_init rfl) ?_)
      rw [clN (by omega)]
      refine Ex_wx [32] 9 oX4_init w0 ?_
      show Ex mX4_init d (2 * m) (66 * m) _ 32 [some (vD (some r)), some (vI (nI k + 1))] [] (pG a k (some g1.1) (roG g1)) J1 L2
      rw [← nI_succ]
      refine ih (k + 1) (pG a k (some g1.1) (roG g1)) gF J1 L2 (by omega) ((roG_sh h4).trans h1) ((pG_rf (Or.inl h6)).trans ((roG_rf h4).trans h2)) ((roG_sh h5).trans h3) (by show r < g1.1 + 2; omega) (by show a < g1.1 + 2; omega) h6 h7 (by show g.1 ≤ g1.1 + 2; omega) hF (by rw [hJ1 r h4]; exact hJ) (fun i hi hn => by rw [hJ1 i (by omega)]; exact hI i hi hn)
  refine Mx_in (by decide +kernel) rfl rfl (Ex_bn 1 oX4_init w0 ?_)
  refine Ex_objInit (gOne (by decide +kernel)) (gOne (by decide +kernel)) (gOne (by decide +kernel)) (by omega) (by decide) (dc_ok oX4_init rfl) ?_
  refine Ex_bn 4 oX4_init w0 ?_
  refine And.intro ⟨hr, r2, trivial⟩ ?_
  show Ex mX4_init d (101 + 1 + 1) (3350 + 65 + 1) _ 11 [some (vD (some r)), none] [vD (some r)] g (up2 I r 0 (-3)) L
  refine Ex_row (by omega) hd rfl (dc_ok oX4_init rfl) (dc_ok oX4_init rfl) (dc_ok oX4_init rfl) ?_
  intro J1 L1 hJ1
  refine Ex_putRD (ci := 4) (k := 1) (fB_ok (by decide +kernel)) (Or.inr ⟨rfl, _, rfl, rfl⟩) rfl ((roG_sh r1).trans hr) r2 (dc_ok oX4_init rfl) ?_
  refine Ex_bn 2 oX4_init w0 ?_
  refine Ex_anew (kc := 100) (ks := 3300) (N := 50) (T0 := RX6) (Or.inr rfl) new6.1 (by decide) (by decide) (by decide) (dc_ok oX4_init rfl) ?_
  have e1 : r < (x4A r g).1 := by show r < g.1 + 2; omega
  refine Ex_putRD (ci := 4) (k := 2) (fB_ok (by decide +kernel)) (Or.inr ⟨rfl, _, rfl, rfl⟩) rfl ((g_add_lt e1).trans ((roG_sh r1).trans hr)) r2 (dc_ok oX4_init rfl) ?_
  refine Ex_bn 2 oX4_init w0 ?_
  refine hloop (x4A r g).1 50 0 (x4B r (x4A r g)) (x4G r g) _ _ rfl ((g_add_lt e1).trans ((roG_sh r1).trans hr)) up2_s g_add_at (by show r < g.1 + 2 + 1; omega) (Nat.lt_succ_self _) (by show r ≠ g.1 + 2; omega) (by show g.1 + 2 ≠ 0; omega) (by show g.1 ≤ g.1 + 2 + 1; omega) rfl ?_ ?_
  · show (if r = g.1 + 2 then 0 else J1 r 0) = -3
    rw [if_neg (by omega), hJ1 r r1]; exact up2_s
  · intro i hi hn
    funext k
    show (if i = g.1 + 2 then 0 else J1 i k) = I i k
    rw [if_neg (by omega), hJ1 i hi]; exact up2_i hn
end Ctor2
