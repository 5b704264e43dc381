/-! the class: order -/
def wlF (m : Nat) (v : Int32) : Option Nat := if v = -1 then some m else if 0 ≤ v ∧ v ≤ 3 ∧ m.testBit v.toNatClampNeg = false then some (m ||| (1 <<< v.toNatClampNeg)) else none
def ordF (a b c e : Int32) : Option Nat := (wlF 0 a).bind fun m1 => (wlF m1 b).bind fun m2 => (wlF m2 c).bind fun m3 => wlF m3 e
theorem sh_and : ∀ m, m < 16 → ∀ j, j < 4 → (nI m &&& (1 <<< (nI j &&& 31)) = 0 ↔ m.testBit j = false) := by decide +kernel
theorem sh_or : ∀ m, m < 16 → ∀ j, j < 4 → nI m ||| (1 <<< (nI j &&& 31)) = nI (m ||| (1 <<< j)) ∧ (m ||| (1 <<< j)) < 16 := by decide +kernel
theorem three4 {v : Int32} (h : 0 ≤ v ∧ v ≤ 3) : ∃ j, j < 4 ∧ v = nI j := by
  have h1 := Int32.le_iff_toInt_le.mp h.1
  have h2 := Int32.le_iff_toInt_le.mp h.2
  have e1 : (0 : Int32).toInt = 0 := rfl
  have e2 : (3 : Int32).toInt = 3 := rfl
  rw [e1] at h1
  rw [e2] at h2
  refine ⟨v.toInt.toNat, by omega, ?_⟩
  apply Int32.toInt_inj.mp
  rw [nI_toInt (by omega)]
  omega
theorem wl_lt {m m' : Nat} {v : Int32} (hm : m < 16) (h : wlF m v = some m') : m' < 16 := by
  unfold wlF at h
  by_cases c : v = -1
  · rw [if_pos c] at h; cases h; exact hm
  rw [if_neg c] at h
  by_cases c2 : 0 ≤ v ∧ v ≤ 3 ∧ m.testBit v.toNatClampNeg = false
  · rw [if_pos c2] at h
    obtain ⟨j, hj, rfl⟩ := three4 ⟨c2.1, c2.2.1⟩
    rw [clN (by omega)] at h
    cases h
    exact (sh_or m hm j hj).2
  · rw [if_neg c2] at h; cases h
section Wl
variable {lx ly : Nat} {g : aG} {I : aI} {L : aL} {d kc ks m m' : Nat} {v x : Int32}
theorem e8_wl (hm : m < 16) (hx : x = nI m) (h : wlF m v = some m') : Mx mX8_withLayer d 0 0 [vI x, vI v] g I L (qV (some (vI (nI m'))) g I L) := by
  subst hx
  unfold wlF at h
  by_cases c : v = -1
  · rw [if_pos c] at h; cases h
    refine Mx_in (by decide +kernel) rfl rfl (Ex_wx [7] 9 oX8_withLayer w0 ?_)
    exact And.intro (fun _ => ⟨rfl, rfl, rfl, rfl⟩) (fun q => absurd c q)
  rw [if_neg c] at h
  by_cases c2 : 0 ≤ v ∧ v ≤ 3 ∧ m.testBit v.toNatClampNeg = false
  rotate_left
  · rw [if_neg c2] at h; cases h
  rw [if_pos c2] at h
  obtain ⟨j, hj, rfl⟩ := three4 ⟨c2.1, c2.2.1⟩
  rw [clN (by omega)] at h c2
  cases h
  refine Mx_in (by decide +kernel) rfl rfl (Ex_wx [7] 9 oX8_withLayer w0 ?_)
  refine And.intro (fun q => absurd q c) (fun _ => ?_)
  refine Ex_wx [24, 11] 9 oX8_withLayer w0 ?_
  refine And.intro (fun q => absurd q (nI_pos (by omega))) (fun _ => ?_)
  refine Ex_wx [24, 16] 9 oX8_withLayer w0 ?_
  refine And.intro (fun q => absurd c2.2.1 (Int32.not_le.mpr q)) (fun _ => ?_)
  refine Ex_wx [24, 34] 9 oX8_withLayer w0 ?_
  refine And.intro (fun _ => ?_) (fun q => absurd ((sh_and m hm j hj).mpr c2.2.2) q)
  refine Ex_wx [] 9 oX8_withLayer w0 ?_
  exact ⟨congrArg (fun z : Int32 => (Sum.inl (some (vI z)) : aO)) (sh_or m hm j hj).1, rfl, rfl, rfl⟩
theorem e8_wlT (hm : m < 16) (hx : x = nI m) (h : wlF m v = none) (hd : 6 ≤ d) : Mx mX8_withLayer d (kc + 1) (ks + 6) [vI x, vI v] g I L (qT E3 g I L) := by
  subst hx
  have ht : ∀ lo, Ex mX8_withLayer d (kc + 1) (ks + 6) (qT E3 g I L) 24 lo [] g I L := fun lo => Ex_throw tOk_3 rfl rfl (by decide : (155, "no such LAYER, or twice") ∈ qStr) hd (by decide) (dc_ok oX8_withLayer rfl) (dc_ok oX8_withLayer rfl) (dc_ok oX8_withLayer rfl) (dc_ok oX8_withLayer rfl) (dc_ok oX8_withLayer rfl) (fun n hn => ⟨rfl, ⟨n, hn, rfl⟩, rfl, rfl⟩)
  unfold wlF at h
  by_cases c : v = -1
  · rw [if_pos c] at h; cases h
  rw [if_neg c] at h
  by_cases c2 : 0 ≤ v ∧ v ≤ 3 ∧ m.testBit v.toNatClampNeg = false
  · rw [if_pos c2] at h; cases h
  refine Mx_in (by decide +kernel) rfl rfl (Ex_wx [7] 9 oX8_withLayer w0 ?_)
  refine And.intro (fun q => absurd q c) (fun _ => ?_)
  refine Ex_wx [24, 11] 9 oX8_withLayer w0 ?_
  refine And.intro (fun _ => ht _) (fun q0 => ?_)
  refine Ex_wx [24, 16] 9 oX8_withLayer w0 ?_
  refine And.intro (fun _ => ht _) (fun q3 => ?_)
  refine Ex_wx [24, 34] 9 oX8_withLayer w0 ?_
  refine And.intro (fun q => ?_) (fun _ => ht _)
  exfalso
  have h03 : 0 ≤ v ∧ v ≤ 3 := ⟨Int32.not_lt.mp q0, Int32.not_lt.mp q3⟩
  obtain ⟨j, hj, rfl⟩ := three4 h03
  rw [clN (by omega)] at c2
  exact c2 ⟨h03.1, h03.2, (sh_and m hm j hj).mp q⟩
end Wl
def popN (m : Nat) : Nat := (if m.testBit 0 = true then 1 else 0) + (if m.testBit 1 = true then 1 else 0) + (if m.testBit 2 = true then 1 else 0) + (if m.testBit 3 = true then 1 else 0)
def usI (y z : Int32) : Int32 := (y.toUInt32 >>> (z.toUInt32 &&& Int32.toUInt32 31)).toInt32
def bc1 (x : Int32) : Int32 := x - (usI x 1 &&& 1431655765)
def bc2 (x : Int32) : Int32 := (x &&& 858993459) + (usI x 2 &&& 858993459)
def bc3 (x : Int32) : Int32 := (x + usI x 4) &&& 252645135
def bc4 (x : Int32) : Int32 := x + usI x 8
def bc5 (x : Int32) : Int32 := x + usI x 16
theorem bc16 : ∀ m, m < 16 → bc5 (bc4 (bc3 (bc2 (bc1 (nI m))))) &&& 63 = nI (popN m) := by decide +kernel
theorem kc_1 : Cond.constant "java/lang/Integer" 265 1431655765 ∈ gT := gOne (by decide +kernel)
theorem kc_2 : Cond.constant "java/lang/Integer" 266 858993459 ∈ gT := gOne (by decide +kernel)
theorem kc_3 : Cond.constant "java/lang/Integer" 267 252645135 ∈ gT := gOne (by decide +kernel)
theorem e_bitCount {g : aG} {I : aI} {L : aL} {d m : Nat} (hm : m < 16) : Mx mJ6_bitCount_0f7a4 d 0 0 [vI (nI m)] g I L (qV (some (vI (nI (popN m)))) g I L) := by
  refine Mx_inF (by decide +kernel) rfl rfl rfl (Ex_wx [] 9 oJ6_bitCount_0f7a4 w0 ?_)
  refine Ex_ldc_w (dc_ok oJ6_bitCount_0f7a4 rfl) kc_1 ?_
  refine Ex_wx [] 9 oJ6_bitCount_0f7a4 w0 ?_
  refine Ex_ldc_w (dc_ok oJ6_bitCount_0f7a4 rfl) kc_2 ?_
  refine Ex_wx [] 9 oJ6_bitCount_0f7a4 w0 ?_
  refine Ex_ldc_w (dc_ok oJ6_bitCount_0f7a4 rfl) kc_2 ?_
  refine Ex_wx [] 9 oJ6_bitCount_0f7a4 w0 ?_
  refine Ex_ldc_w (dc_ok oJ6_bitCount_0f7a4 rfl) kc_3 ?_
  refine Ex_wx [] 9 oJ6_bitCount_0f7a4 w0 ?_
  exact ⟨congrArg (fun z : Int32 => (Sum.inl (some (vI z)) : aO)) (bc16 m hm), rfl, rfl, rfl⟩
theorem new1 : Cond.classLink RX8 35 RX1 ∈ gT ∧ Cond.instantiable RX1 8 ∈ gT ∧ Cond.initialized RX1 ∈ gT := ⟨gOne (by decide +kernel), gOne (by decide +kernel), gOne (by decide +kernel)⟩
theorem ws_lx {lx ly r : Nat} {g : aG} (h : WS lx ly g) : WS r ly (g.1, g.2.1, up2 g.2.2 1 6 (some r)) := by
  intro i c hi
  obtain ⟨h1, h2, h3⟩ := h i c hi
  refine ⟨h1, h2, fun k v hv => ?_⟩
  by_cases q : i = 1 ∧ k = 6
  · obtain ⟨rfl, rfl⟩ := q
    have e : v = vD (some r) := (Option.some.inj hv).symm
    subst e
    show up2 g.2.2 1 6 (some r) 1 6 = some r
    exact up2_s
  · have hv2 : (tS lx ly).2 i k = some v := by
      have e : (Nat.beq i 1 && Nat.beq k 6) = false := by
        rcases hb : (Nat.beq i 1 && Nat.beq k 6) with _ | _
        · rfl
        · rw [Bool.and_eq_true] at hb
          exact absurd ⟨Nat.eq_of_beq_eq_true hb.1, Nat.eq_of_beq_eq_true hb.2⟩ q
      have hv' : cond (Nat.beq i 3 && Nat.beq k 3) (some (vD (some ly))) (cond (Nat.beq i 1 && Nat.beq k 6) (some (vD (some r))) (match rT i k with | some j => some (vS j) | none => none)) = some v := hv
      show cond (Nat.beq i 3 && Nat.beq k 3) (some (vD (some ly))) (cond (Nat.beq i 1 && Nat.beq k 6) (some (vD (some lx))) (match rT i k with | some j => some (vS j) | none => none)) = some v
      rw [e] at hv' ⊢
      exact hv'
    have := h3 k v hv2
    show rfV v (up2 g.2.2 1 6 (some r) i k)
    rw [up2_n (by omega)]
    exact this
def pS (A : aA) (p : Nat → Int32) : aA := (A.B, A.hg, A.nd, A.cnt, p, A.la)
def orR (A : aA) (a b c e : Int32) : Int32 → Int32 → aA → Prop := fun code val A' => (code = 0 ∧ ∃ m, ordF a b c e = some m ∧ val = nI (popN m) ∧ A' = pS A (plP A.p a b c e)) ∨ (code = 1 ∧ ordF a b c e = none ∧ A' = A)
def odQ (A : aA) (a b c e : Int32) (g : aG) (I : aI) (L : aL) : aQ := fun o g' I' L' => (∃ m, ordF a b c e = some m ∧ o = .inl (some (vI (nI (popN m)))) ∧ SC (pS A (plP A.p a b c e)) g' I' ∧ FrC g I g' I') ∨ (o = .inr E3 ∧ ordF a b c e = none ∧ Ext g I L g' I' L')
section Ord
variable {g : aG} {I : aI} {L : aL} {d : Nat} {A : aA} {a b c e : Int32}
theorem e8_order (hS : SC A g I) (ho : okA A.la) (hd : 7 ≤ d) : Mx mX8_order d 1 8 [vS 1, vI a, vI b, vI c, vI e] g I L (odQ A a b c e g I L) := by
  obtain ⟨lx, ly, τ, hI, hl⟩ := id hS
  obtain ⟨hm, ht, hτ, ⟨x1, x2, x3, x4, x5⟩, ⟨o1, o2, o3⟩, top, t1, t2⟩ := id hI
  obtain ⟨hw, hg1, hc, h8, hT⟩ := id hm
  refine Mx_in (by decide +kernel) rfl rfl (Ex_wx [] 9 oX8_order hw ?_)
  cases w1 : wlF 0 a with
  | none =>
    exact Ex_sT (kc := 0) (ks := 2) (kc' := 0 + 1) (ks' := 0 + 6) (As := [vI 0, vI a]) (st := []) (d' := 6) sX8_82 rfl rfl (e8_wlT (m := 0) (by omega) rfl w1 (by omega)) (by omega) rfl (dc_ok oX8_order rfl) rfl (fun m hm => Or.inr ⟨rfl, by unfold ordF; rw [w1]; rfl, Ext.more hm⟩)
  | some m1 =>
  have k1 := wl_lt (by omega) w1
  refine Ex_s (kc := 1) (ks := 8) (As := [vI 0, vI a]) (st := []) (d' := 0) sX8_82 rfl rfl (e8_wl (m := 0) (by omega) rfl w1) (by omega) rfl (dc_ok oX8_order rfl) ?_
  refine Ex_wx [] 9 oX8_order hw ?_
  cases w2 : wlF m1 b with
  | none =>
    exact Ex_sT (kc := 0) (ks := 2) (kc' := 0 + 1) (ks' := 0 + 6) (As := [vI (nI m1), vI b]) (st := []) (d' := 6) sX8_82 rfl rfl (e8_wlT k1 rfl w2 (by omega)) (by omega) rfl (dc_ok oX8_order rfl) rfl (fun m hm => Or.inr ⟨rfl, by unfold ordF; rw [w1]; show (wlF m1 b).bind _ = none; rw [w2]; rfl, Ext.more hm⟩)
  | some m2 =>
  have k2 := wl_lt k1 w2
  refine Ex_s (kc := 1) (ks := 8) (As := [vI (nI m1), vI b]) (st := []) (d' := 0) sX8_82 rfl rfl (e8_wl k1 rfl w2) (by omega) rfl (dc_ok oX8_order rfl) ?_
  refine Ex_wx [] 9 oX8_order hw ?_
  cases w3 : wlF m2 c with
  | none =>
    exact Ex_sT (kc := 0) (ks := 2) (kc' := 0 + 1) (ks' := 0 + 6) (As := [vI (nI m2), vI c]) (st := []) (d' := 6) sX8_82 rfl rfl (e8_wlT k2 rfl w3 (by omega)) (by omega) rfl (dc_ok oX8_order rfl) rfl (fun m hm => Or.inr ⟨rfl, by unfold ordF; rw [w1]; show (wlF m1 b).bind _ = none; rw [w2]; show (wlF m2 c).bind _ = none; rw [w3]; rfl, Ext.more hm⟩)
  | some m3 =>
  have k3 := wl_lt k2 w3
  refine Ex_s (kc := 1) (ks := 8) (As := [vI (nI m2), vI c]) (st := []) (d' := 0) sX8_82 rfl rfl (e8_wl k2 rfl w3) (by omega) rfl (dc_ok oX8_order rfl) ?_
  refine Ex_wx [] 9 oX8_order hw ?_
  cases w4 : wlF m3 e with
  | none =>
    exact Ex_sT (kc := 0) (ks := 2) (kc' := 0 + 1) (ks' := 0 + 6) (As := [vI (nI m3), vI e]) (st := []) (d' := 6) sX8_82 rfl rfl (e8_wlT k3 rfl w4 (by omega)) (by omega) rfl (dc_ok oX8_order rfl) rfl (fun m hm => Or.inr ⟨rfl, by unfold ordF; rw [w1]; show (wlF m1 b).bind _ = none; rw [w2]; show (wlF m2 c).bind _ = none; rw [w3]; exact w4, Ext.more hm⟩)
  | some m4 =>
  have k4 := wl_lt k3 w4
  have hord : ordF a b c e = some m4 := by unfold ordF; rw [w1]; show (wlF m1 b).bind _ = _; rw [w2]; show (wlF m2 c).bind _ = _; rw [w3]; exact w4
  refine Ex_s (kc := 1) (ks := 8) (As := [vI (nI m3), vI e]) (st := []) (d' := 0) sX8_82 rfl rfl (e8_wl k3 rfl w4) (by omega) rfl (dc_ok oX8_order rfl) ?_
  refine Ex_wx [] 9 oX8_order hw ?_
  refine Ex_new (kc := 0) (ks := 0) (ci := 1) (q := (RX1, TX1, 8)) rfl new1.1 new1.2.1 new1.2.2 (dc_ok oX8_order rfl) ?_
  have hE : Ext g I L (g_add g (.inl 1)) (I_add g I) (L_add g L) := Ext.add
  have hI1 := hI.ext hE
  have hw1 := hI1.1.1
  have hr : (g_add g (.inl 1)).2.1 g.1 = some (.inl 1) := by show up1 g.2.1 g.1 _ g.1 = _; unfold up1; rw [if_pos rfl]
  refine Ex_wx [] 9 oX8_order hw1 ?_
  refine Ex_callI (kc := 0) (ks := 0) (kc' := 0) (ks' := 0) (As := [vI a, vI b, vI c, vI e]) (st := [vD (some g.1), vS 1]) (iX8_37.c rfl) rfl rfl iX8_37.2.2.2.1 (e1_init (d := 1) (I := I_add g I) (L := L_add g L) hr (by omega) (by omega)) (fun E g I L h => by cases h.1) (by omega) (Nat.le_of_ble_eq_true rfl) (dc_ok oX8_order rfl) ?_
  rintro v g1 I1 L1 ⟨ev, rfl, rfl, hV, hf⟩
  cases ev
  obtain ⟨hX, hX0⟩ := ly_ok (p := A.p) hV
  have h11 := (hw1 1 _ rfl).2.1
  refine Ex_putR (ci := 8) (k := 6) (fB_ok (by decide +kernel)) (Or.inl rfl) rfl h11 (by omega) (dc_ok oX8_order rfl) ?_
  refine Ex_wx [] 9 oX8_order (ws_lx (r := g.1) hw1) ?_
  refine Ex_s (As := [vI (nI m4)]) (st := []) (d' := 0) sX8_86 rfl rfl (e_bitCount k4) (by omega) rfl (dc_ok oX8_order rfl) ?_
  refine Ex_wx [] 9 oX8_order (ws_lx (r := g.1) hw1) ?_
  have gI : ∀ i, i < g.1 → I1 i = I i := fun i hi => by funext k; rw [hf i k (by omega)]; exact (hE.2 i hi).2.2.1 k
  have gR : ∀ i k, i < g.1 → i ≠ 1 → up2 (g_add g (.inl 1)).2.2 1 6 (some g.1) i k = g.2.2 i k := fun i k hi h1 => by rw [up2_i h1]; exact (hE.2 i hi).2.1 k
  have gS : ∀ i, i < g.1 → (g_add g (.inl 1)).2.1 i = g.2.1 i := fun i hi => (hE.2 i hi).1
  have hlt := hm.lt
  have hog : ∀ o, 13 < o → o + 104 ≤ g.1 → OG g o → OG ((g_add g (.inl 1)).1, (g_add g (.inl 1)).2.1, up2 (g_add g (.inl 1)).2.2 1 6 (some g.1)) o := by
    intro o oa ob ⟨h0, h1, h2, h3, h4, ⟨a1, a2, a3, a4⟩, h6⟩
    refine ⟨h0, ?_, ?_, ?_, ?_, ⟨?_, ?_, ?_, a4⟩, fun k hk => ?_⟩
    · exact (gS o (by omega)).trans h1
    · exact (gR o _ (by omega) (by omega)).trans h2
    · exact (gR o _ (by omega) (by omega)).trans h3
    · exact (gS (o + 3) (by omega)).trans h4
    · exact (gS (o + 1) (by omega)).trans a1
    · exact (gR (o + 1) _ (by omega) (by omega)).trans a2
    · exact (gS (o + 2) (by omega)).trans a3
    · obtain ⟨b0, b1, b2, b3, b4⟩ := h6 k hk
      exact ⟨(gR (o + 3) _ (by omega) (by omega)).trans b0, (gS (o + 4 + 2 * k) (by omega)).trans b1, (gR (o + 4 + 2 * k) _ (by omega) (by omega)).trans b2, (gS (o + 5 + 2 * k) (by omega)).trans b3, b4⟩
  refine Or.inl ⟨m4, hord, rfl, ⟨g.1, ly, τ, ⟨⟨ws_lx (r := g.1) hw1, by show 372 ≤ g.1 + 1; omega, by rw [gI 1 (by omega)]; exact hc, h8, fun t htc => ⟨?_, ?_⟩⟩, fun t htc => ?_, hτ, ⟨hr, Or.inr hg1, Nat.lt_succ_self _, hX, hX0⟩, ⟨hog 15 (by omega) (by omega) o1, hog 119 (by omega) (by omega) o2, hog 223 (by omega) (by omega) o3⟩, top, t1, by rw [gI 4 (by omega)]; exact t2⟩, ?_⟩, ⟨fun i hi => gI i (by omega), gS 0 (by omega)⟩⟩
  · exact (gR 2 t (by omega) (by omega)).trans (hT t htc).1
  · obtain ⟨p1, p2, p3, p4, p5, p6⟩ := (hT t htc).2
    exact ⟨by show τ t < g.1 + 1; omega, (gS _ p1).trans p2, by rw [gI _ p1]; exact p3, by rw [gI _ p1]; exact p4, p5, p6⟩
  · have hge := hτ t htc
    have hl2 := hlt t htc
    obtain ⟨h1, h2, h3, h4, h5, h6⟩ := ht t htc
    refine ⟨h1, (gS _ hl2).trans h2, by rw [gI _ hl2]; exact h3, h4, fun c1 c2 => ?_, fun c1 c2 => ?_⟩
    · obtain ⟨z1, z2, z3⟩ := h5 c1 c2
      exact ⟨z1, z2, (gR _ _ hl2 (by omega)).trans z3⟩
    · obtain ⟨z1, z2, z3⟩ := h6 c1 c2
      exact ⟨z1, z2, (gR _ _ hl2 (by omega)).trans z3⟩
  · exact hl.eq ho (fun i hi => gI i (by unfold inO at hi; omega))
theorem c_order (hS : SC A g I) (ho : okA A.la) (hd : 8 ≤ d) : Mx mL_order d 2 14 [vS 1, vI a, vI b, vI c, vI e, vS 371] g I L (cQ (orR A a b c e) g I) := by
  obtain ⟨lx, ly, τ, hI, hl⟩ := id hS
  have hw := hI.1.1
  have h1 := (hw 1 _ rfl).2.1
  refine Mx_in (by decide +kernel) rfl rfl (Ex_wx [] 9 oL_order hw ?_)
  refine Ex_cV (kc := 1) (ks := 6) (kc' := 1) (ks' := 8) (As := [vI a, vI b, vI c, vI e]) (st := [vI 0, vS 371]) (d' := 7) vL_59 rfl rfl h1 (e8_order hS ho (by omega)) (by omega) rfl (dc_ok oL_order rfl) ?_ ?_
  · rintro v g' I' L' (⟨m, a1, e, a2, a3⟩ | ⟨e, -⟩) <;> cases e
    obtain ⟨lx2, ly2, τ2, hI2, hl2⟩ := id a2
    refine Ex_wx [] 9 oL_order hI2.1.1 ?_
    refine And.intro (show vp_in (nI 0) 1 from inN (by omega) (by omega)) ?_
    exact ⟨0, _, _, rfl, Or.inl ⟨rfl, m, a1, rfl, rfl⟩, a2, a3, fun _ => up1_s⟩
  · rintro E g' I' L' (⟨m, a1, e, -⟩ | ⟨e, a1, hE⟩) <;> cases e
    obtain ⟨s1, s2⟩ := hS.ext ho hE
    exact Xx_catch (a := 6) (ln := 2) [] (0, 14, 17, 21) [] rfl (by decide) (fun z hz => by cases hz) ⟨by decide, by decide⟩ (by decide) ck_3 (Or.inr ⟨rfl, dc_ok oL_order rfl⟩) (by decide) (dc_ok oL_order rfl) rfl (dc_ok oL_order rfl) rfl ⟨1, 0, A, rfl, Or.inr ⟨rfl, a1, rfl⟩, s1, s2, fun c => absurd c (by decide)⟩
end Ord
