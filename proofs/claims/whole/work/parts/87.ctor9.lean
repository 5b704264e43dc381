/-! the reference's constructor -/
def arrL : List (Nat × FieldType × Nat) := [(2, .int, 80), (3, .int, 80), (4, .int, 80), (5, .int, 80), (6, .boolean, 80), (7, .int, 80), (8, .int, 80), (9, .int, 4), (11, .int, 2002), (12, .int, 2002), (13, .int, 2002), (15, .int, 32), (16, .int, 32), (17, .int, 32), (18, .int, 32), (19, .int, 32), (20, .int, 32), (21, .int, 32), (22, .int, 32), (23, .int, 256), (24, .int, 64), (25, .boolean, 3200), (26, .int, 3200), (27, .int, 3200), (28, .int, 3200), (36, .int, 2), (37, .boolean, 100), (38, .int, 120), (39, .boolean, 100), (40, .int, 120), (41, .int, 120), (42, .int, 6000), (43, .int, 12), (44, .int, 120), (46, .int, 6), (47, .int, 60), (48, .boolean, 60), (49, .int, 60), (50, .boolean, 60), (51, .int, 60), (52, .int, 60), (53, .int, 3600)]
def x9F (r : Nat) : List (Nat × FieldType × Nat) → aG → aG
  | [], g => g
  | e :: l, g => x9F r l (nG r e.1 e.2.1 e.2.2 g)
def x9G (r : Nat) (g : aG) : aG := x9F r arrL g
/-- j arrays have come -/
def Z9 (b r j : Nat) (I : aI) (g : aG) (J : aI) : Prop := g.1 = b + j ∧ g.2.1 r = some (.inl 9) ∧ r < b ∧ Ia b I J ∧ ∀ i, b ≤ i → i < g.1 → ∀ k, J i k = 0
theorem Z9.step {b r j k N : Nat} {ty : FieldType} {I J : aI} {g : aG} (h : Z9 b r j I g J) : Z9 b r (j + 1) I (nG r k ty N g) (I_add g J) := by
  obtain ⟨h1, h2, h3, h4, h5⟩ := h
  refine ⟨by show g.1 + 1 = _; omega, (nG_sh (by omega)).trans h2, h3, h4.add (by omega), fun i hi hl c => ?_⟩
  show (if i = g.1 then 0 else J i c) = 0
  have hl' : i < g.1 + 1 := hl
  by_cases e : i = g.1
  · rw [if_pos e]
  · rw [if_neg e]; exact h5 i hi (by omega) c
theorem nG_rf {r k N : Nat} {ty : FieldType} {g : aG} {i j : Nat} (h : i < g.1) (hk : j ≠ k) : (nG r k ty N g).2.2 i j = g.2.2 i j := by
  show up2 (g_add g _).2.2 r k _ i j = _
  rw [up2_k hk, g_add_rf h]
section Ctor4
variable {g : aG} {I : aI} {L : aL} {d r : Nat}
set_option maxRecDepth 100000 in
theorem k9_init (hr : g.2.1 r = some (.inl 9)) (hr0 : r < g.1 ∧ r ≠ 0) (hd : 1 ≤ d) : Mx mX9_init d 42 30606 [vD (some r)] g I L (coQ (x9G r g) (fun J => (∀ l, l < 4 → J (g.1 + 7) l = -1) ∧ (J (g.1 + 8) 0 = 0 ∧ J (g.1 + 9) 0 = 0 ∧ J (g.1 + 10) 0 = 0) ∧ Ia g.1 I J)) := by
  obtain ⟨r1, r2⟩ := hr0
  generalize hb : g.1 = b at *
  have z0 : Z9 b r 0 I g I := ⟨by omega, hr, by omega, Ia.refl, fun i hi hl => by omega⟩
  have hF0 : x9F r arrL g = x9G r g := rfl
  generalize x9G r g = gF at hF0
  refine Mx_in (by decide +kernel) rfl rfl (Ex_bn 1 oX9_init w0 ?_)
  refine Ex_objInit (gOne (by decide +kernel)) (gOne (by decide +kernel)) (gOne (by decide +kernel)) hd (by decide) (dc_ok oX9_init rfl) ?_
  refine Ex_bn 2 oX9_init w0 ?_
  refine Ex_arI (kc := 41) (ks := 30526) (ci := 9) (k := 2) (N := 80) (by decide) (by decide) (by decide) (dc_ok oX9_init rfl) (fB_ok (by decide +kernel)) (Or.inr ⟨rfl, _, rfl, rfl⟩) rfl z0.2.1 ⟨by have := z0.1; omega, r2⟩ (dc_ok oX9_init rfl) ?_
  have z1 : Z9 b r 1 I (nG r 2 .int 80 g) (I_add g I) := z0.step
  have hF1 : x9F r [(3, .int, 80), (4, .int, 80), (5, .int, 80), (6, .boolean, 80), (7, .int, 80), (8, .int, 80), (9, .int, 4), (11, .int, 2002), (12, .int, 2002), (13, .int, 2002), (15, .int, 32), (16, .int, 32), (17, .int, 32), (18, .int, 32), (19, .int, 32), (20, .int, 32), (21, .int, 32), (22, .int, 32), (23, .int, 256), (24, .int, 64), (25, .boolean, 3200), (26, .int, 3200), (27, .int, 3200), (28, .int, 3200), (36, .int, 2), (37, .boolean, 100), (38, .int, 120), (39, .boolean, 100), (40, .int, 120), (41, .int, 120), (42, .int, 6000), (43, .int, 12), (44, .int, 120), (46, .int, 6), (47, .int, 60), (48, .boolean, 60), (49, .int, 60), (50, .boolean, 60), (51, .int, 60), (52, .int, 60), (53, .int, 3600)] (nG r 2 .int 80 g) = gF := hF0
  generalize nG r 2 .int 80 g = g1 at z1 hF1 ⊢
  generalize I_add g I = I1 at z1 ⊢
  generalize L_add g L = L1
  refine Ex_bn 2 oX9_init w0 ?_
  refine Ex_arI (kc := 40) (ks := 30446) (ci := 9) (k := 3) (N := 80) (by decide) (by decide) (by decide) (dc_ok oX9_init rfl) (fB_ok (by decide +kernel)) (Or.inr ⟨rfl, _, rfl, rfl⟩) rfl z1.2.1 ⟨by have := z1.1; omega, r2⟩ (dc_ok oX9_init rfl) ?_
  have z2 : Z9 b r 2 I (nG r 3 .int 80 g1) (I_add g1 I1) := z1.step
  have hF2 : x9F r [(4, .int, 80), (5, .int, 80), (6, .boolean, 80), (7, .int, 80), (8, .int, 80), (9, .int, 4), (11, .int, 2002), (12, .int, 2002), (13, .int, 2002), (15, .int, 32), (16, .int, 32), (17, .int, 32), (18, .int, 32), (19, .int, 32), (20, .int, 32), (21, .int, 32), (22, .int, 32), (23, .int, 256), (24, .int, 64), (25, .boolean, 3200), (26, .int, 3200), (27, .int, 3200), (28, .int, 3200), (36, .int, 2), (37, .boolean, 100), (38, .int, 120), (39, .boolean, 100), (40, .int, 120), (41, .int, 120), (42, .int, 6000), (43, .int, 12), (44, .int, 120), (46, .int, 6), (47, .int, 60), (48, .boolean, 60), (49, .int, 60), (50, .boolean, 60), (51, .int, 60), (52, .int, 60), (53, .int, 3600)] (nG r 3 .int 80 g1) = gF := hF1
  generalize nG r 3 .int 80 g1 = g2 at z2 hF2 ⊢
  generalize I_add g1 I1 = I2 at z2 ⊢
  generalize L_add g1 L1 = L2
  refine Ex_bn 2 oX9_init w0 ?_
  refine Ex_arI (kc := 39) (ks := 30366) (ci := 9) (k := 4) (N := 80) (by decide) (by decide) (by decide) (dc_ok oX9_init rfl) (fB_ok (by decide +kernel)) (Or.inr ⟨rfl, _, rfl, rfl⟩) rfl z2.2.1 ⟨by have := z2.1; omega, r2⟩ (dc_ok oX9_init rfl) ?_
  have z3 : Z9 b r 3 I (nG r 4 .int 80 g2) (I_add g2 I2) := z2.step
  have hF3 : x9F r [(5, .int, 80), (6, .boolean, 80), (7, .int, 80), (8, .int, 80), (9, .int, 4), (11, .int, 2002), (12, .int, 2002), (13, .int, 2002), (15, .int, 32), (16, .int, 32), (17, .int, 32), (18, .int, 32), (19, .int, 32), (20, .int, 32), (21, .int, 32), (22, .int, 32), (23, .int, 256), (24, .int, 64), (25, .boolean, 3200), (26, .int, 3200), (27, .int, 3200), (28, .int, 3200), (36, .int, 2), (37, .boolean, 100), (38, .int, 120), (39, .boolean, 100), (40, .int, 120), (41, .int, 120), (42, .int, 6000), (43, .int, 12), (44, .int, 120), (46, .int, 6), (47, .int, 60), (48, .boolean, 60), (49, .int, 60), (50, .boolean, 60), (51, .int, 60), (52, .int, 60), (53, .int, 3600)] (nG r 4 .int 80 g2) = gF := hF2
  generalize nG r 4 .int 80 g2 = g3 at z3 hF3 ⊢
  generalize I_add g2 I2 = I3 at z3 ⊢
  generalize L_add g2 L2 = L3
  refine Ex_bn 2 oX9_init w0 ?_
  refine Ex_arI (kc := 38) (ks := 30286) (ci := 9) (k := 5) (N := 80) (by decide) (by decide) (by decide) (dc_ok oX9_init rfl) (fB_ok (by decide +kernel)) (Or.inr ⟨rfl, _, rfl, rfl⟩) rfl z3.2.1 ⟨by have := z3.1; omega, r2⟩ (dc_ok oX9_init rfl) ?_
  have z4 : Z9 b r 4 I (nG r 5 .int 80 g3) (I_add g3 I3) := z3.step
  have hF4 : x9F r [(6, .boolean, 80), (7, .int, 80), (8, .int, 80), (9, .int, 4), (11, .int, 2002), (12, .int, 2002), (13, .int, 2002), (15, .int, 32), (16, .int, 32), (17, .int, 32), (18, .int, 32), (19, .int, 32), (20, .int, 32), (21, .int, 32), (22, .int, 32), (23, .int, 256), (24, .int, 64), (25, .boolean, 3200), (26, .int, 3200), (27, .int, 3200), (28, .int, 3200), (36, .int, 2), (37, .boolean, 100), (38, .int, 120), (39, .boolean, 100), (40, .int, 120), (41, .int, 120), (42, .int, 6000), (43, .int, 12), (44, .int, 120), (46, .int, 6), (47, .int, 60), (48, .boolean, 60), (49, .int, 60), (50, .boolean, 60), (51, .int, 60), (52, .int, 60), (53, .int, 3600)] (nG r 5 .int 80 g3) = gF := hF3
  generalize nG r 5 .int 80 g3 = g4 at z4 hF4 ⊢
  generalize I_add g3 I3 = I4 at z4 ⊢
  generalize L_add g3 L3 = L4
  refine Ex_bn 2 oX9_init w0 ?_
  refine Ex_arB (kc := 37) (ks := 30206) (ci := 9) (k := 6) (N := 80) (by decide) (by decide) (by decide) (dc_ok oX9_init rfl) (fB_ok (by decide +kernel)) (Or.inr ⟨rfl, _, rfl, rfl⟩) rfl z4.2.1 ⟨by have := z4.1; omega, r2⟩ (dc_ok oX9_init rfl) ?_
  have z5 : Z9 b r 5 I (nG r 6 .boolean 80 g4) (I_add g4 I4) := z4.step
  have hF5 : x9F r [(7, .int, 80), (8, .int, 80), (9, .int, 4), (11, .int, 2002), (12, .int, 2002), (13, .int, 2002), (15, .int, 32), (16, .int, 32), (17, .int, 32), (18, .int, 32), (19, .int, 32), (20, .int, 32), (21, .int, 32), (22, .int, 32), (23, .int, 256), (24, .int, 64), (25, .boolean, 3200), (26, .int, 3200), (27, .int, 3200), (28, .int, 3200), (36, .int, 2), (37, .boolean, 100), (38, .int, 120), (39, .boolean, 100), (40, .int, 120), (41, .int, 120), (42, .int, 6000), (43, .int, 12), (44, .int, 120), (46, .int, 6), (47, .int, 60), (48, .boolean, 60), (49, .int, 60), (50, .boolean, 60), (51, .int, 60), (52, .int, 60), (53, .int, 3600)] (nG r 6 .boolean 80 g4) = gF := hF4
  generalize nG r 6 .boolean 80 g4 = g5 at z5 hF5 ⊢
  generalize I_add g4 I4 = I5 at z5 ⊢
  generalize L_add g4 L4 = L5
  refine Ex_bn 2 oX9_init w0 ?_
  refine Ex_arI (kc := 36) (ks := 30126) (ci := 9) (k := 7) (N := 80) (by decide) (by decide) (by decide) (dc_ok oX9_init rfl) (fB_ok (by decide +kernel)) (Or.inr ⟨rfl, _, rfl, rfl⟩) rfl z5.2.1 ⟨by have := z5.1; omega, r2⟩ (dc_ok oX9_init rfl) ?_
  have z6 : Z9 b r 6 I (nG r 7 .int 80 g5) (I_add g5 I5) := z5.step
  have hF6 : x9F r [(8, .int, 80), (9, .int, 4), (11, .int, 2002), (12, .int, 2002), (13, .int, 2002), (15, .int, 32), (16, .int, 32), (17, .int, 32), (18, .int, 32), (19, .int, 32), (20, .int, 32), (21, .int, 32), (22, .int, 32), (23, .int, 256), (24, .int, 64), (25, .boolean, 3200), (26, .int, 3200), (27, .int, 3200), (28, .int, 3200), (36, .int, 2), (37, .boolean, 100), (38, .int, 120), (39, .boolean, 100), (40, .int, 120), (41, .int, 120), (42, .int, 6000), (43, .int, 12), (44, .int, 120), (46, .int, 6), (47, .int, 60), (48, .boolean, 60), (49, .int, 60), (50, .boolean, 60), (51, .int, 60), (52, .int, 60), (53, .int, 3600)] (nG r 7 .int 80 g5) = gF := hF5
  generalize nG r 7 .int 80 g5 = g6 at z6 hF6 ⊢
  generalize I_add g5 I5 = I6 at z6 ⊢
  generalize L_add g5 L5 = L6
  refine Ex_bn 2 oX9_init w0 ?_
  refine Ex_arI (kc := 35) (ks := 30046) (ci := 9) (k := 8) (N := 80) (by decide) (by decide) (by decide) (dc_ok oX9_init rfl) (fB_ok (by decide +kernel)) (Or.inr ⟨rfl, _, rfl, rfl⟩) rfl z6.2.1 ⟨by have := z6.1; omega, r2⟩ (dc_ok oX9_init rfl) ?_
  have z7 : Z9 b r 7 I (nG r 8 .int 80 g6) (I_add g6 I6) := z6.step
  have hF7 : x9F r [(9, .int, 4), (11, .int, 2002), (12, .int, 2002), (13, .int, 2002), (15, .int, 32), (16, .int, 32), (17, .int, 32), (18, .int, 32), (19, .int, 32), (20, .int, 32), (21, .int, 32), (22, .int, 32), (23, .int, 256), (24, .int, 64), (25, .boolean, 3200), (26, .int, 3200), (27, .int, 3200), (28, .int, 3200), (36, .int, 2), (37, .boolean, 100), (38, .int, 120), (39, .boolean, 100), (40, .int, 120), (41, .int, 120), (42, .int, 6000), (43, .int, 12), (44, .int, 120), (46, .int, 6), (47, .int, 60), (48, .boolean, 60), (49, .int, 60), (50, .boolean, 60), (51, .int, 60), (52, .int, 60), (53, .int, 3600)] (nG r 8 .int 80 g6) = gF := hF6
  generalize nG r 8 .int 80 g6 = g7 at z7 hF7 ⊢
  generalize I_add g6 I6 = I7 at z7 ⊢
  generalize L_add g6 L6 = L7
  refine Ex_bn 2 oX9_init w0 ?_
  refine Ex_arI (kc := 34) (ks := 30042) (ci := 9) (k := 9) (N := 4) (by decide) (by decide) (by decide) (dc_ok oX9_init rfl) (fB_ok (by decide +kernel)) (Or.inr ⟨rfl, _, rfl, rfl⟩) rfl z7.2.1 ⟨by have := z7.1; omega, r2⟩ (dc_ok oX9_init rfl) ?_
  have z8 : Z9 b r 8 I (nG r 9 .int 4 g7) (I_add g7 I7) := z7.step
  have hF8 : x9F r [(11, .int, 2002), (12, .int, 2002), (13, .int, 2002), (15, .int, 32), (16, .int, 32), (17, .int, 32), (18, .int, 32), (19, .int, 32), (20, .int, 32), (21, .int, 32), (22, .int, 32), (23, .int, 256), (24, .int, 64), (25, .boolean, 3200), (26, .int, 3200), (27, .int, 3200), (28, .int, 3200), (36, .int, 2), (37, .boolean, 100), (38, .int, 120), (39, .boolean, 100), (40, .int, 120), (41, .int, 120), (42, .int, 6000), (43, .int, 12), (44, .int, 120), (46, .int, 6), (47, .int, 60), (48, .boolean, 60), (49, .int, 60), (50, .boolean, 60), (51, .int, 60), (52, .int, 60), (53, .int, 3600)] (nG r 9 .int 4 g7) = gF := hF7
  have hp8 : (nG r 9 .int 4 g7).2.2 r 9 = some (b + 7) := by
    show up2 (g_add g7 _).2.2 r 9 (some g7.1) r 9 = _
    rw [up2_s, z7.1]
  have hq8 : (nG r 9 .int 4 g7).2.1 (b + 7) = some (.inr (.int, 4)) := by
    rw [show b + 7 = g7.1 from z7.1.symm]; exact g_add_at
  generalize nG r 9 .int 4 g7 = g8 at z8 hF8 hp8 hq8 ⊢
  generalize I_add g7 I7 = I8 at z8 ⊢
  generalize L_add g7 L7 = L8
  refine Ex_bn 2 oX9_init w0 ?_
  refine Ex_arI (kc := 33) (ks := 28040) (ci := 9) (k := 11) (N := 2002) (by decide) (by decide) (by decide) (dc_ok oX9_init rfl) (fB_ok (by decide +kernel)) (Or.inr ⟨rfl, _, rfl, rfl⟩) rfl z8.2.1 ⟨by have := z8.1; omega, r2⟩ (dc_ok oX9_init rfl) ?_
  have z9 : Z9 b r 9 I (nG r 11 .int 2002 g8) (I_add g8 I8) := z8.step
  have hF9 : x9F r [(12, .int, 2002), (13, .int, 2002), (15, .int, 32), (16, .int, 32), (17, .int, 32), (18, .int, 32), (19, .int, 32), (20, .int, 32), (21, .int, 32), (22, .int, 32), (23, .int, 256), (24, .int, 64), (25, .boolean, 3200), (26, .int, 3200), (27, .int, 3200), (28, .int, 3200), (36, .int, 2), (37, .boolean, 100), (38, .int, 120), (39, .boolean, 100), (40, .int, 120), (41, .int, 120), (42, .int, 6000), (43, .int, 12), (44, .int, 120), (46, .int, 6), (47, .int, 60), (48, .boolean, 60), (49, .int, 60), (50, .boolean, 60), (51, .int, 60), (52, .int, 60), (53, .int, 3600)] (nG r 11 .int 2002 g8) = gF := hF8
  have hp9 : (nG r 11 .int 2002 g8).2.2 r 9 = some (b + 7) := (nG_rf (by have := z8.1; omega) (by omega)).trans hp8
  have hq9 : (nG r 11 .int 2002 g8).2.1 (b + 7) = some (.inr (.int, 4)) := (nG_sh (by have := z8.1; omega)).trans hq8
  generalize nG r 11 .int 2002 g8 = g9 at z9 hF9 hp9 hq9 ⊢
  generalize I_add g8 I8 = I9 at z9 ⊢
  generalize L_add g8 L8 = L9
  refine Ex_bn 2 oX9_init w0 ?_
  refine Ex_arI (kc := 32) (ks := 26038) (ci := 9) (k := 12) (N := 2002) (by decide) (by decide) (by decide) (dc_ok oX9_init rfl) (fB_ok (by decide +kernel)) (Or.inr ⟨rfl, _, rfl, rfl⟩) rfl z9.2.1 ⟨by have := z9.1; omega, r2⟩ (dc_ok oX9_init rfl) ?_
  have z10 : Z9 b r 10 I (nG r 12 .int 2002 g9) (I_add g9 I9) := z9.step
  have hF10 : x9F r [(13, .int, 2002), (15, .int, 32), (16, .int, 32), (17, .int, 32), (18, .int, 32), (19, .int, 32), (20, .int, 32), (21, .int, 32), (22, .int, 32), (23, .int, 256), (24, .int, 64), (25, .boolean, 3200), (26, .int, 3200), (27, .int, 3200), (28, .int, 3200), (36, .int, 2), (37, .boolean, 100), (38, .int, 120), (39, .boolean, 100), (40, .int, 120), (41, .int, 120), (42, .int, 6000), (43, .int, 12), (44, .int, 120), (46, .int, 6), (47, .int, 60), (48, .boolean, 60), (49, .int, 60), (50, .boolean, 60), (51, .int, 60), (52, .int, 60), (53, .int, 3600)] (nG r 12 .int 2002 g9) = gF := hF9
  have hp10 : (nG r 12 .int 2002 g9).2.2 r 9 = some (b + 7) := (nG_rf (by have := z9.1; omega) (by omega)).trans hp9
  have hq10 : (nG r 12 .int 2002 g9).2.1 (b + 7) = some (.inr (.int, 4)) := (nG_sh (by have := z9.1; omega)).trans hq9
  generalize nG r 12 .int 2002 g9 = g10 at z10 hF10 hp10 hq10 ⊢
  generalize I_add g9 I9 = I10 at z10 ⊢
  generalize L_add g9 L9 = L10
  refine Ex_bn 2 oX9_init w0 ?_
  refine Ex_arI (kc := 31) (ks := 24036) (ci := 9) (k := 13) (N := 2002) (by decide) (by decide) (by decide) (dc_ok oX9_init rfl) (fB_ok (by decide +kernel)) (Or.inr ⟨rfl, _, rfl, rfl⟩) rfl z10.2.1 ⟨by have := z10.1; omega, r2⟩ (dc_ok oX9_init rfl) ?_
  have z11 : Z9 b r 11 I (nG r 13 .int 2002 g10) (I_add g10 I10) := z10.step
  have hF11 : x9F r [(15, .int, 32), (16, .int, 32), (17, .int, 32), (18, .int, 32), (19, .int, 32), (20, .int, 32), (21, .int, 32), (22, .int, 32), (23, .int, 256), (24, .int, 64), (25, .boolean, 3200), (26, .int, 3200), (27, .int, 3200), (28, .int, 3200), (36, .int, 2), (37, .boolean, 100), (38, .int, 120), (39, .boolean, 100), (40, .int, 120), (41, .int, 120), (42, .int, 6000), (43, .int, 12), (44, .int, 120), (46, .int, 6), (47, .int, 60), (48, .boolean, 60), (49, .int, 60), (50, .boolean, 60), (51, .int, 60), (52, .int, 60), (53, .int, 3600)] (nG r 13 .int 2002 g10) = gF := hF10
  have hp11 : (nG r 13 .int 2002 g10).2.2 r 9 = some (b + 7) := (nG_rf (by have := z10.1; omega) (by omega)).trans hp10
  have hq11 : (nG r 13 .int 2002 g10).2.1 (b + 7) = some (.inr (.int, 4)) := (nG_sh (by have := z10.1; omega)).trans hq10
  generalize nG r 13 .int 2002 g10 = g11 at z11 hF11 hp11 hq11 ⊢
  generalize I_add g10 I10 = I11 at z11 ⊢
  generalize L_add g10 L10 = L11
  refine Ex_bn 2 oX9_init w0 ?_
  refine Ex_arI (kc := 30) (ks := 24004) (ci := 9) (k := 15) (N := 32) (by decide) (by decide) (by decide) (dc_ok oX9_init rfl) (fB_ok (by decide +kernel)) (Or.inr ⟨rfl, _, rfl, rfl⟩) rfl z11.2.1 ⟨by have := z11.1; omega, r2⟩ (dc_ok oX9_init rfl) ?_
  have z12 : Z9 b r 12 I (nG r 15 .int 32 g11) (I_add g11 I11) := z11.step
  have hF12 : x9F r [(16, .int, 32), (17, .int, 32), (18, .int, 32), (19, .int, 32), (20, .int, 32), (21, .int, 32), (22, .int, 32), (23, .int, 256), (24, .int, 64), (25, .boolean, 3200), (26, .int, 3200), (27, .int, 3200), (28, .int, 3200), (36, .int, 2), (37, .boolean, 100), (38, .int, 120), (39, .boolean, 100), (40, .int, 120), (41, .int, 120), (42, .int, 6000), (43, .int, 12), (44, .int, 120), (46, .int, 6), (47, .int, 60), (48, .boolean, 60), (49, .int, 60), (50, .boolean, 60), (51, .int, 60), (52, .int, 60), (53, .int, 3600)] (nG r 15 .int 32 g11) = gF := hF11
  have hp12 : (nG r 15 .int 32 g11).2.2 r 9 = some (b + 7) := (nG_rf (by have := z11.1; omega) (by omega)).trans hp11
  have hq12 : (nG r 15 .int 32 g11).2.1 (b + 7) = some (.inr (.int, 4)) := (nG_sh (by have := z11.1; omega)).trans hq11
  generalize nG r 15 .int 32 g11 = g12 at z12 hF12 hp12 hq12 ⊢
  generalize I_add g11 I11 = I12 at z12 ⊢
  generalize L_add g11 L11 = L12
  refine Ex_bn 2 oX9_init w0 ?_
  refine Ex_arI (kc := 29) (ks := 23972) (ci := 9) (k := 16) (N := 32) (by decide) (by decide) (by decide) (dc_ok oX9_init rfl) (fB_ok (by decide +kernel)) (Or.inr ⟨rfl, _, rfl, rfl⟩) rfl z12.2.1 ⟨by have := z12.1; omega, r2⟩ (dc_ok oX9_init rfl) ?_
  have z13 : Z9 b r 13 I (nG r 16 .int 32 g12) (I_add g12 I12) := z12.step
  have hF13 : x9F r [(17, .int, 32), (18, .int, 32), (19, .int, 32), (20, .int, 32), (21, .int, 32), (22, .int, 32), (23, .int, 256), (24, .int, 64), (25, .boolean, 3200), (26, .int, 3200), (27, .int, 3200), (28, .int, 3200), (36, .int, 2), (37, .boolean, 100), (38, .int, 120), (39, .boolean, 100), (40, .int, 120), (41, .int, 120), (42, .int, 6000), (43, .int, 12), (44, .int, 120), (46, .int, 6), (47, .int, 60), (48, .boolean, 60), (49, .int, 60), (50, .boolean, 60), (51, .int, 60), (52, .int, 60), (53, .int, 3600)] (nG r 16 .int 32 g12) = gF := hF12
  have hp13 : (nG r 16 .int 32 g12).2.2 r 9 = some (b + 7) := (nG_rf (by have := z12.1; omega) (by omega)).trans hp12
  have hq13 : (nG r 16 .int 32 g12).2.1 (b + 7) = some (.inr (.int, 4)) := (nG_sh (by have := z12.1; omega)).trans hq12
  generalize nG r 16 .int 32 g12 = g13 at z13 hF13 hp13 hq13 ⊢
  generalize I_add g12 I12 = I13 at z13 ⊢
  generalize L_add g12 L12 = L13
  refine Ex_bn 2 oX9_init w0 ?_
  refine Ex_arI (kc := 28) (ks := 23940) (ci := 9) (k := 17) (N := 32) (by decide) (by decide) (by decide) (dc_ok oX9_init rfl) (fB_ok (by decide +kernel)) (Or.inr ⟨rfl, _, rfl, rfl⟩) rfl z13.2.1 ⟨by have := z13.1; omega, r2⟩ (dc_ok oX9_init rfl) ?_
  have z14 : Z9 b r 14 I (nG r 17 .int 32 g13) (I_add g13 I13) := z13.step
  have hF14 : x9F r [(18, .int, 32), (19, .int, 32), (20, .int, 32), (21, .int, 32), (22, .int, 32), (23, .int, 256), (24, .int, 64), (25, .boolean, 3200), (26, .int, 3200), (27, .int, 3200), (28, .int, 3200), (36, .int, 2), (37, .boolean, 100), (38, .int, 120), (39, .boolean, 100), (40, .int, 120), (41, .int, 120), (42, .int, 6000), (43, .int, 12), (44, .int, 120), (46, .int, 6), (47, .int, 60), (48, .boolean, 60), (49, .int, 60), (50, .boolean, 60), (51, .int, 60), (52, .int, 60), (53, .int, 3600)] (nG r 17 .int 32 g13) = gF := hF13
  have hp14 : (nG r 17 .int 32 g13).2.2 r 9 = some (b + 7) := (nG_rf (by have := z13.1; omega) (by omega)).trans hp13
  have hq14 : (nG r 17 .int 32 g13).2.1 (b + 7) = some (.inr (.int, 4)) := (nG_sh (by have := z13.1; omega)).trans hq13
  generalize nG r 17 .int 32 g13 = g14 at z14 hF14 hp14 hq14 ⊢
  generalize I_add g13 I13 = I14 at z14 ⊢
  generalize L_add g13 L13 = L14
  refine Ex_bn 2 oX9_init w0 ?_
  refine Ex_arI (kc := 27) (ks := 23908) (ci := 9) (k := 18) (N := 32) (by decide) (by decide) (by decide) (dc_ok oX9_init rfl) (fB_ok (by decide +kernel)) (Or.inr ⟨rfl, _, rfl, rfl⟩) rfl z14.2.1 ⟨by have := z14.1; omega, r2⟩ (dc_ok oX9_init rfl) ?_
  have z15 : Z9 b r 15 I (nG r 18 .int 32 g14) (I_add g14 I14) := z14.step
  have hF15 : x9F r [(19, .int, 32), (20, .int, 32), (21, .int, 32), (22, .int, 32), (23, .int, 256), (24, .int, 64), (25, .boolean, 3200), (26, .int, 3200), (27, .int, 3200), (28, .int, 3200), (36, .int, 2), (37, .boolean, 100), (38, .int, 120), (39, .boolean, 100), (40, .int, 120), (41, .int, 120), (42, .int, 6000), (43, .int, 12), (44, .int, 120), (46, .int, 6), (47, .int, 60), (48, .boolean, 60), (49, .int, 60), (50, .boolean, 60), (51, .int, 60), (52, .int, 60), (53, .int, 3600)] (nG r 18 .int 32 g14) = gF := hF14
  have hp15 : (nG r 18 .int 32 g14).2.2 r 9 = some (b + 7) := (nG_rf (by have := z14.1; omega) (by omega)).trans hp14
  have hq15 : (nG r 18 .int 32 g14).2.1 (b + 7) = some (.inr (.int, 4)) := (nG_sh (by have := z14.1; omega)).trans hq14
  generalize nG r 18 .int 32 g14 = g15 at z15 hF15 hp15 hq15 ⊢
  generalize I_add g14 I14 = I15 at z15 ⊢
  generalize L_add g14 L14 = L15
  refine Ex_bn 2 oX9_init w0 ?_
  refine Ex_arI (kc := 26) (ks := 23876) (ci := 9) (k := 19) (N := 32) (by decide) (by decide) (by decide) (dc_ok oX9_init rfl) (fB_ok (by decide +kernel)) (Or.inr ⟨rfl, _, rfl, rfl⟩) rfl z15.2.1 ⟨by have := z15.1; omega, r2⟩ (dc_ok oX9_init rfl) ?_
  have z16 : Z9 b r 16 I (nG r 19 .int 32 g15) (I_add g15 I15) := z15.step
  have hF16 : x9F r [(20, .int, 32), (21, .int, 32), (22, .int, 32), (23, .int, 256), (24, .int, 64), (25, .boolean, 3200), (26, .int, 3200), (27, .int, 3200), (28, .int, 3200), (36, .int, 2), (37, .boolean, 100), (38, .int, 120), (39, .boolean, 100), (40, .int, 120), (41, .int, 120), (42, .int, 6000), (43, .int, 12), (44, .int, 120), (46, .int, 6), (47, .int, 60), (48, .boolean, 60), (49, .int, 60), (50, .boolean, 60), (51, .int, 60), (52, .int, 60), (53, .int, 3600)] (nG r 19 .int 32 g15) = gF := hF15
  have hp16 : (nG r 19 .int 32 g15).2.2 r 9 = some (b + 7) := (nG_rf (by have := z15.1; omega) (by omega)).trans hp15
  have hq16 : (nG r 19 .int 32 g15).2.1 (b + 7) = some (.inr (.int, 4)) := (nG_sh (by have := z15.1; omega)).trans hq15
  generalize nG r 19 .int 32 g15 = g16 at z16 hF16 hp16 hq16 ⊢
  generalize I_add g15 I15 = I16 at z16 ⊢
  generalize L_add g15 L15 = L16
  refine Ex_bn 2 oX9_init w0 ?_
  refine Ex_arI (kc := 25) (ks := 23844) (ci := 9) (k := 20) (N := 32) (by decide) (by decide) (by decide) (dc_ok oX9_init rfl) (fB_ok (by decide +kernel)) (Or.inr ⟨rfl, _, rfl, rfl⟩) rfl z16.2.1 ⟨by have := z16.1; omega, r2⟩ (dc_ok oX9_init rfl) ?_
  have z17 : Z9 b r 17 I (nG r 20 .int 32 g16) (I_add g16 I16) := z16.step
  have hF17 : x9F r [(21, .int, 32), (22, .int, 32), (23, .int, 256), (24, .int, 64), (25, .boolean, 3200), (26, .int, 3200), (27, .int, 3200), (28, .int, 3200), (36, .int, 2), (37, .boolean, 100), (38, .int, 120), (39, .boolean, 100), (40, .int, 120), (41, .int, 120), (42, .int, 6000), (43, .int, 12), (44, .int, 120), (46, .int, 6), (47, .int, 60), (48, .boolean, 60), (49, .int, 60), (50, .boolean, 60), (51, .int, 60), (52, .int, 60), (53, .int, 3600)] (nG r 20 .int 32 g16) = gF := hF16
  have hp17 : (nG r 20 .int 32 g16).2.2 r 9 = some (b + 7) := (nG_rf (by have := z16.1; omega) (by omega)).trans hp16
  have hq17 : (nG r 20 .int 32 g16).2.1 (b + 7) = some (.inr (.int, 4)) := (nG_sh (by have := z16.1; omega)).trans hq16
  generalize nG r 20 .int 32 g16 = g17 at z17 hF17 hp17 hq17 ⊢
  generalize I_add g16 I16 = I17 at z17 ⊢
  generalize L_add g16 L16 = L17
  refine Ex_bn 2 oX9_init w0 ?_
  refine Ex_arI (kc := 24) (ks := 23812) (ci := 9) (k := 21) (N := 32) (by decide) (by decide) (by decide) (dc_ok oX9_init rfl) (fB_ok (by decide +kernel)) (Or.inr ⟨rfl, _, rfl, rfl⟩) rfl z17.2.1 ⟨by have := z17.1; omega, r2⟩ (dc_ok oX9_init rfl) ?_
  have z18 : Z9 b r 18 I (nG r 21 .int 32 g17) (I_add g17 I17) := z17.step
  have hF18 : x9F r [(22, .int, 32), (23, .int, 256), (24, .int, 64), (25, .boolean, 3200), (26, .int, 3200), (27, .int, 3200), (28, .int, 3200), (36, .int, 2), (37, .boolean, 100), (38, .int, 120), (39, .boolean, 100), (40, .int, 120), (41, .int, 120), (42, .int, 6000), (43, .int, 12), (44, .int, 120), (46, .int, 6), (47, .int, 60), (48, .boolean, 60), (49, .int, 60), (50, .boolean, 60), (51, .int, 60), (52, .int, 60), (53, .int, 3600)] (nG r 21 .int 32 g17) = gF := hF17
  have hp18 : (nG r 21 .int 32 g17).2.2 r 9 = some (b + 7) := (nG_rf (by have := z17.1; omega) (by omega)).trans hp17
  have hq18 : (nG r 21 .int 32 g17).2.1 (b + 7) = some (.inr (.int, 4)) := (nG_sh (by have := z17.1; omega)).trans hq17
  generalize nG r 21 .int 32 g17 = g18 at z18 hF18 hp18 hq18 ⊢
  generalize I_add g17 I17 = I18 at z18 ⊢
  generalize L_add g17 L17 = L18
  refine Ex_bn 2 oX9_init w0 ?_
  refine Ex_arI (kc := 23) (ks := 23780) (ci := 9) (k := 22) (N := 32) (by decide) (by decide) (by decide) (dc_ok oX9_init rfl) (fB_ok (by decide +kernel)) (Or.inr ⟨rfl, _, rfl, rfl⟩) rfl z18.2.1 ⟨by have := z18.1; omega, r2⟩ (dc_ok oX9_init rfl) ?_
  have z19 : Z9 b r 19 I (nG r 22 .int 32 g18) (I_add g18 I18) := z18.step
  have hF19 : x9F r [(23, .int, 256), (24, .int, 64), (25, .boolean, 3200), (26, .int, 3200), (27, .int, 3200), (28, .int, 3200), (36, .int, 2), (37, .boolean, 100), (38, .int, 120), (39, .boolean, 100), (40, .int, 120), (41, .int, 120), (42, .int, 6000), (43, .int, 12), (44, .int, 120), (46, .int, 6), (47, .int, 60), (48, .boolean, 60), (49, .int, 60), (50, .boolean, 60), (51, .int, 60), (52, .int, 60), (53, .int, 3600)] (nG r 22 .int 32 g18) = gF := hF18
  have hp19 : (nG r 22 .int 32 g18).2.2 r 9 = some (b + 7) := (nG_rf (by have := z18.1; omega) (by omega)).trans hp18
  have hq19 : (nG r 22 .int 32 g18).2.1 (b + 7) = some (.inr (.int, 4)) := (nG_sh (by have := z18.1; omega)).trans hq18
  generalize nG r 22 .int 32 g18 = g19 at z19 hF19 hp19 hq19 ⊢
  generalize I_add g18 I18 = I19 at z19 ⊢
  generalize L_add g18 L18 = L19
  refine Ex_bn 2 oX9_init w0 ?_
  refine Ex_arI (kc := 22) (ks := 23524) (ci := 9) (k := 23) (N := 256) (by decide) (by decide) (by decide) (dc_ok oX9_init rfl) (fB_ok (by decide +kernel)) (Or.inr ⟨rfl, _, rfl, rfl⟩) rfl z19.2.1 ⟨by have := z19.1; omega, r2⟩ (dc_ok oX9_init rfl) ?_
  have z20 : Z9 b r 20 I (nG r 23 .int 256 g19) (I_add g19 I19) := z19.step
  have hF20 : x9F r [(24, .int, 64), (25, .boolean, 3200), (26, .int, 3200), (27, .int, 3200), (28, .int, 3200), (36, .int, 2), (37, .boolean, 100), (38, .int, 120), (39, .boolean, 100), (40, .int, 120), (41, .int, 120), (42, .int, 6000), (43, .int, 12), (44, .int, 120), (46, .int, 6), (47, .int, 60), (48, .boolean, 60), (49, .int, 60), (50, .boolean, 60), (51, .int, 60), (52, .int, 60), (53, .int, 3600)] (nG r 23 .int 256 g19) = gF := hF19
  have hp20 : (nG r 23 .int 256 g19).2.2 r 9 = some (b + 7) := (nG_rf (by have := z19.1; omega) (by omega)).trans hp19
  have hq20 : (nG r 23 .int 256 g19).2.1 (b + 7) = some (.inr (.int, 4)) := (nG_sh (by have := z19.1; omega)).trans hq19
  generalize nG r 23 .int 256 g19 = g20 at z20 hF20 hp20 hq20 ⊢
  generalize I_add g19 I19 = I20 at z20 ⊢
  generalize L_add g19 L19 = L20
  refine Ex_bn 2 oX9_init w0 ?_
  refine Ex_arI (kc := 21) (ks := 23460) (ci := 9) (k := 24) (N := 64) (by decide) (by decide) (by decide) (dc_ok oX9_init rfl) (fB_ok (by decide +kernel)) (Or.inr ⟨rfl, _, rfl, rfl⟩) rfl z20.2.1 ⟨by have := z20.1; omega, r2⟩ (dc_ok oX9_init rfl) ?_
  have z21 : Z9 b r 21 I (nG r 24 .int 64 g20) (I_add g20 I20) := z20.step
  have hF21 : x9F r [(25, .boolean, 3200), (26, .int, 3200), (27, .int, 3200), (28, .int, 3200), (36, .int, 2), (37, .boolean, 100), (38, .int, 120), (39, .boolean, 100), (40, .int, 120), (41, .int, 120), (42, .int, 6000), (43, .int, 12), (44, .int, 120), (46, .int, 6), (47, .int, 60), (48, .boolean, 60), (49, .int, 60), (50, .boolean, 60), (51, .int, 60), (52, .int, 60), (53, .int, 3600)] (nG r 24 .int 64 g20) = gF := hF20
  have hp21 : (nG r 24 .int 64 g20).2.2 r 9 = some (b + 7) := (nG_rf (by have := z20.1; omega) (by omega)).trans hp20
  have hq21 : (nG r 24 .int 64 g20).2.1 (b + 7) = some (.inr (.int, 4)) := (nG_sh (by have := z20.1; omega)).trans hq20
  generalize nG r 24 .int 64 g20 = g21 at z21 hF21 hp21 hq21 ⊢
  generalize I_add g20 I20 = I21 at z21 ⊢
  generalize L_add g20 L20 = L21
  refine Ex_bn 2 oX9_init w0 ?_
  refine Ex_arB (kc := 20) (ks := 20260) (ci := 9) (k := 25) (N := 3200) (by decide) (by decide) (by decide) (dc_ok oX9_init rfl) (fB_ok (by decide +kernel)) (Or.inr ⟨rfl, _, rfl, rfl⟩) rfl z21.2.1 ⟨by have := z21.1; omega, r2⟩ (dc_ok oX9_init rfl) ?_
  have z22 : Z9 b r 22 I (nG r 25 .boolean 3200 g21) (I_add g21 I21) := z21.step
  have hF22 : x9F r [(26, .int, 3200), (27, .int, 3200), (28, .int, 3200), (36, .int, 2), (37, .boolean, 100), (38, .int, 120), (39, .boolean, 100), (40, .int, 120), (41, .int, 120), (42, .int, 6000), (43, .int, 12), (44, .int, 120), (46, .int, 6), (47, .int, 60), (48, .boolean, 60), (49, .int, 60), (50, .boolean, 60), (51, .int, 60), (52, .int, 60), (53, .int, 3600)] (nG r 25 .boolean 3200 g21) = gF := hF21
  have hp22 : (nG r 25 .boolean 3200 g21).2.2 r 9 = some (b + 7) := (nG_rf (by have := z21.1; omega) (by omega)).trans hp21
  have hq22 : (nG r 25 .boolean 3200 g21).2.1 (b + 7) = some (.inr (.int, 4)) := (nG_sh (by have := z21.1; omega)).trans hq21
  generalize nG r 25 .boolean 3200 g21 = g22 at z22 hF22 hp22 hq22 ⊢
  generalize I_add g21 I21 = I22 at z22 ⊢
  generalize L_add g21 L21 = L22
  refine Ex_bn 2 oX9_init w0 ?_
  refine Ex_arI (kc := 19) (ks := 17060) (ci := 9) (k := 26) (N := 3200) (by decide) (by decide) (by decide) (dc_ok oX9_init rfl) (fB_ok (by decide +kernel)) (Or.inr ⟨rfl, _, rfl, rfl⟩) rfl z22.2.1 ⟨by have := z22.1; omega, r2⟩ (dc_ok oX9_init rfl) ?_
  have z23 : Z9 b r 23 I (nG r 26 .int 3200 g22) (I_add g22 I22) := z22.step
  have hF23 : x9F r [(27, .int, 3200), (28, .int, 3200), (36, .int, 2), (37, .boolean, 100), (38, .int, 120), (39, .boolean, 100), (40, .int, 120), (41, .int, 120), (42, .int, 6000), (43, .int, 12), (44, .int, 120), (46, .int, 6), (47, .int, 60), (48, .boolean, 60), (49, .int, 60), (50, .boolean, 60), (51, .int, 60), (52, .int, 60), (53, .int, 3600)] (nG r 26 .int 3200 g22) = gF := hF22
  have hp23 : (nG r 26 .int 3200 g22).2.2 r 9 = some (b + 7) := (nG_rf (by have := z22.1; omega) (by omega)).trans hp22
  have hq23 : (nG r 26 .int 3200 g22).2.1 (b + 7) = some (.inr (.int, 4)) := (nG_sh (by have := z22.1; omega)).trans hq22
  generalize nG r 26 .int 3200 g22 = g23 at z23 hF23 hp23 hq23 ⊢
  generalize I_add g22 I22 = I23 at z23 ⊢
  generalize L_add g22 L22 = L23
  refine Ex_bn 2 oX9_init w0 ?_
  refine Ex_arI (kc := 18) (ks := 13860) (ci := 9) (k := 27) (N := 3200) (by decide) (by decide) (by decide) (dc_ok oX9_init rfl) (fB_ok (by decide +kernel)) (Or.inr ⟨rfl, _, rfl, rfl⟩) rfl z23.2.1 ⟨by have := z23.1; omega, r2⟩ (dc_ok oX9_init rfl) ?_
  have z24 : Z9 b r 24 I (nG r 27 .int 3200 g23) (I_add g23 I23) := z23.step
  have hF24 : x9F r [(28, .int, 3200), (36, .int, 2), (37, .boolean, 100), (38, .int, 120), (39, .boolean, 100), (40, .int, 120), (41, .int, 120), (42, .int, 6000), (43, .int, 12), (44, .int, 120), (46, .int, 6), (47, .int, 60), (48, .boolean, 60), (49, .int, 60), (50, .boolean, 60), (51, .int, 60), (52, .int, 60), (53, .int, 3600)] (nG r 27 .int 3200 g23) = gF := hF23
  have hp24 : (nG r 27 .int 3200 g23).2.2 r 9 = some (b + 7) := (nG_rf (by have := z23.1; omega) (by omega)).trans hp23
  have hq24 : (nG r 27 .int 3200 g23).2.1 (b + 7) = some (.inr (.int, 4)) := (nG_sh (by have := z23.1; omega)).trans hq23
  generalize nG r 27 .int 3200 g23 = g24 at z24 hF24 hp24 hq24 ⊢
  generalize I_add g23 I23 = I24 at z24 ⊢
  generalize L_add g23 L23 = L24
  refine Ex_bn 2 oX9_init w0 ?_
  refine Ex_arI (kc := 17) (ks := 10660) (ci := 9) (k := 28) (N := 3200) (by decide) (by decide) (by decide) (dc_ok oX9_init rfl) (fB_ok (by decide +kernel)) (Or.inr ⟨rfl, _, rfl, rfl⟩) rfl z24.2.1 ⟨by have := z24.1; omega, r2⟩ (dc_ok oX9_init rfl) ?_
  have z25 : Z9 b r 25 I (nG r 28 .int 3200 g24) (I_add g24 I24) := z24.step
  have hF25 : x9F r [(36, .int, 2), (37, .boolean, 100), (38, .int, 120), (39, .boolean, 100), (40, .int, 120), (41, .int, 120), (42, .int, 6000), (43, .int, 12), (44, .int, 120), (46, .int, 6), (47, .int, 60), (48, .boolean, 60), (49, .int, 60), (50, .boolean, 60), (51, .int, 60), (52, .int, 60), (53, .int, 3600)] (nG r 28 .int 3200 g24) = gF := hF24
  have hp25 : (nG r 28 .int 3200 g24).2.2 r 9 = some (b + 7) := (nG_rf (by have := z24.1; omega) (by omega)).trans hp24
  have hq25 : (nG r 28 .int 3200 g24).2.1 (b + 7) = some (.inr (.int, 4)) := (nG_sh (by have := z24.1; omega)).trans hq24
  generalize nG r 28 .int 3200 g24 = g25 at z25 hF25 hp25 hq25 ⊢
  generalize I_add g24 I24 = I25 at z25 ⊢
  generalize L_add g24 L24 = L25
  refine Ex_bn 2 oX9_init w0 ?_
  refine Ex_arI (kc := 16) (ks := 10658) (ci := 9) (k := 36) (N := 2) (by decide) (by decide) (by decide) (dc_ok oX9_init rfl) (fB_ok (by decide +kernel)) (Or.inr ⟨rfl, _, rfl, rfl⟩) rfl z25.2.1 ⟨by have := z25.1; omega, r2⟩ (dc_ok oX9_init rfl) ?_
  have z26 : Z9 b r 26 I (nG r 36 .int 2 g25) (I_add g25 I25) := z25.step
  have hF26 : x9F r [(37, .boolean, 100), (38, .int, 120), (39, .boolean, 100), (40, .int, 120), (41, .int, 120), (42, .int, 6000), (43, .int, 12), (44, .int, 120), (46, .int, 6), (47, .int, 60), (48, .boolean, 60), (49, .int, 60), (50, .boolean, 60), (51, .int, 60), (52, .int, 60), (53, .int, 3600)] (nG r 36 .int 2 g25) = gF := hF25
  have hp26 : (nG r 36 .int 2 g25).2.2 r 9 = some (b + 7) := (nG_rf (by have := z25.1; omega) (by omega)).trans hp25
  have hq26 : (nG r 36 .int 2 g25).2.1 (b + 7) = some (.inr (.int, 4)) := (nG_sh (by have := z25.1; omega)).trans hq25
  generalize nG r 36 .int 2 g25 = g26 at z26 hF26 hp26 hq26 ⊢
  generalize I_add g25 I25 = I26 at z26 ⊢
  generalize L_add g25 L25 = L26
  refine Ex_bn 2 oX9_init w0 ?_
  refine Ex_arB (kc := 15) (ks := 10558) (ci := 9) (k := 37) (N := 100) (by decide) (by decide) (by decide) (dc_ok oX9_init rfl) (fB_ok (by decide +kernel)) (Or.inr ⟨rfl, _, rfl, rfl⟩) rfl z26.2.1 ⟨by have := z26.1; omega, r2⟩ (dc_ok oX9_init rfl) ?_
  have z27 : Z9 b r 27 I (nG r 37 .boolean 100 g26) (I_add g26 I26) := z26.step
  have hF27 : x9F r [(38, .int, 120), (39, .boolean, 100), (40, .int, 120), (41, .int, 120), (42, .int, 6000), (43, .int, 12), (44, .int, 120), (46, .int, 6), (47, .int, 60), (48, .boolean, 60), (49, .int, 60), (50, .boolean, 60), (51, .int, 60), (52, .int, 60), (53, .int, 3600)] (nG r 37 .boolean 100 g26) = gF := hF26
  have hp27 : (nG r 37 .boolean 100 g26).2.2 r 9 = some (b + 7) := (nG_rf (by have := z26.1; omega) (by omega)).trans hp26
  have hq27 : (nG r 37 .boolean 100 g26).2.1 (b + 7) = some (.inr (.int, 4)) := (nG_sh (by have := z26.1; omega)).trans hq26
  generalize nG r 37 .boolean 100 g26 = g27 at z27 hF27 hp27 hq27 ⊢
  generalize I_add g26 I26 = I27 at z27 ⊢
  generalize L_add g26 L26 = L27
  refine Ex_bn 2 oX9_init w0 ?_
  refine Ex_arI (kc := 14) (ks := 10438) (ci := 9) (k := 38) (N := 120) (by decide) (by decide) (by decide) (dc_ok oX9_init rfl) (fB_ok (by decide +kernel)) (Or.inr ⟨rfl, _, rfl, rfl⟩) rfl z27.2.1 ⟨by have := z27.1; omega, r2⟩ (dc_ok oX9_init rfl) ?_
  have z28 : Z9 b r 28 I (nG r 38 .int 120 g27) (I_add g27 I27) := z27.step
  have hF28 : x9F r [(39, .boolean, 100), (40, .int, 120), (41, .int, 120), (42, .int, 6000), (43, .int, 12), (44, .int, 120), (46, .int, 6), (47, .int, 60), (48, .boolean, 60), (49, .int, 60), (50, .boolean, 60), (51, .int, 60), (52, .int, 60), (53, .int, 3600)] (nG r 38 .int 120 g27) = gF := hF27
  have hp28 : (nG r 38 .int 120 g27).2.2 r 9 = some (b + 7) := (nG_rf (by have := z27.1; omega) (by omega)).trans hp27
  have hq28 : (nG r 38 .int 120 g27).2.1 (b + 7) = some (.inr (.int, 4)) := (nG_sh (by have := z27.1; omega)).trans hq27
  generalize nG r 38 .int 120 g27 = g28 at z28 hF28 hp28 hq28 ⊢
  generalize I_add g27 I27 = I28 at z28 ⊢
  generalize L_add g27 L27 = L28
  refine Ex_bn 2 oX9_init w0 ?_
  refine Ex_arB (kc := 13) (ks := 10338) (ci := 9) (k := 39) (N := 100) (by decide) (by decide) (by decide) (dc_ok oX9_init rfl) (fB_ok (by decide +kernel)) (Or.inr ⟨rfl, _, rfl, rfl⟩) rfl z28.2.1 ⟨by have := z28.1; omega, r2⟩ (dc_ok oX9_init rfl) ?_
  have z29 : Z9 b r 29 I (nG r 39 .boolean 100 g28) (I_add g28 I28) := z28.step
  have hF29 : x9F r [(40, .int, 120), (41, .int, 120), (42, .int, 6000), (43, .int, 12), (44, .int, 120), (46, .int, 6), (47, .int, 60), (48, .boolean, 60), (49, .int, 60), (50, .boolean, 60), (51, .int, 60), (52, .int, 60), (53, .int, 3600)] (nG r 39 .boolean 100 g28) = gF := hF28
  have hp29 : (nG r 39 .boolean 100 g28).2.2 r 9 = some (b + 7) := (nG_rf (by have := z28.1; omega) (by omega)).trans hp28
  have hq29 : (nG r 39 .boolean 100 g28).2.1 (b + 7) = some (.inr (.int, 4)) := (nG_sh (by have := z28.1; omega)).trans hq28
  generalize nG r 39 .boolean 100 g28 = g29 at z29 hF29 hp29 hq29 ⊢
  generalize I_add g28 I28 = I29 at z29 ⊢
  generalize L_add g28 L28 = L29
  refine Ex_bn 2 oX9_init w0 ?_
  refine Ex_arI (kc := 12) (ks := 10218) (ci := 9) (k := 40) (N := 120) (by decide) (by decide) (by decide) (dc_ok oX9_init rfl) (fB_ok (by decide +kernel)) (Or.inr ⟨rfl, _, rfl, rfl⟩) rfl z29.2.1 ⟨by have := z29.1; omega, r2⟩ (dc_ok oX9_init rfl) ?_
  have z30 : Z9 b r 30 I (nG r 40 .int 120 g29) (I_add g29 I29) := z29.step
  have hF30 : x9F r [(41, .int, 120), (42, .int, 6000), (43, .int, 12), (44, .int, 120), (46, .int, 6), (47, .int, 60), (48, .boolean, 60), (49, .int, 60), (50, .boolean, 60), (51, .int, 60), (52, .int, 60), (53, .int, 3600)] (nG r 40 .int 120 g29) = gF := hF29
  have hp30 : (nG r 40 .int 120 g29).2.2 r 9 = some (b + 7) := (nG_rf (by have := z29.1; omega) (by omega)).trans hp29
  have hq30 : (nG r 40 .int 120 g29).2.1 (b + 7) = some (.inr (.int, 4)) := (nG_sh (by have := z29.1; omega)).trans hq29
  generalize nG r 40 .int 120 g29 = g30 at z30 hF30 hp30 hq30 ⊢
  generalize I_add g29 I29 = I30 at z30 ⊢
  generalize L_add g29 L29 = L30
  refine Ex_bn 2 oX9_init w0 ?_
  refine Ex_arI (kc := 11) (ks := 10098) (ci := 9) (k := 41) (N := 120) (by decide) (by decide) (by decide) (dc_ok oX9_init rfl) (fB_ok (by decide +kernel)) (Or.inr ⟨rfl, _, rfl, rfl⟩) rfl z30.2.1 ⟨by have := z30.1; omega, r2⟩ (dc_ok oX9_init rfl) ?_
  have z31 : Z9 b r 31 I (nG r 41 .int 120 g30) (I_add g30 I30) := z30.step
  have hF31 : x9F r [(42, .int, 6000), (43, .int, 12), (44, .int, 120), (46, .int, 6), (47, .int, 60), (48, .boolean, 60), (49, .int, 60), (50, .boolean, 60), (51, .int, 60), (52, .int, 60), (53, .int, 3600)] (nG r 41 .int 120 g30) = gF := hF30
  have hp31 : (nG r 41 .int 120 g30).2.2 r 9 = some (b + 7) := (nG_rf (by have := z30.1; omega) (by omega)).trans hp30
  have hq31 : (nG r 41 .int 120 g30).2.1 (b + 7) = some (.inr (.int, 4)) := (nG_sh (by have := z30.1; omega)).trans hq30
  generalize nG r 41 .int 120 g30 = g31 at z31 hF31 hp31 hq31 ⊢
  generalize I_add g30 I30 = I31 at z31 ⊢
  generalize L_add g30 L30 = L31
  refine Ex_bn 2 oX9_init w0 ?_
  refine Ex_arI (kc := 10) (ks := 4098) (ci := 9) (k := 42) (N := 6000) (by decide) (by decide) (by decide) (dc_ok oX9_init rfl) (fB_ok (by decide +kernel)) (Or.inr ⟨rfl, _, rfl, rfl⟩) rfl z31.2.1 ⟨by have := z31.1; omega, r2⟩ (dc_ok oX9_init rfl) ?_
  have z32 : Z9 b r 32 I (nG r 42 .int 6000 g31) (I_add g31 I31) := z31.step
  have hF32 : x9F r [(43, .int, 12), (44, .int, 120), (46, .int, 6), (47, .int, 60), (48, .boolean, 60), (49, .int, 60), (50, .boolean, 60), (51, .int, 60), (52, .int, 60), (53, .int, 3600)] (nG r 42 .int 6000 g31) = gF := hF31
  have hp32 : (nG r 42 .int 6000 g31).2.2 r 9 = some (b + 7) := (nG_rf (by have := z31.1; omega) (by omega)).trans hp31
  have hq32 : (nG r 42 .int 6000 g31).2.1 (b + 7) = some (.inr (.int, 4)) := (nG_sh (by have := z31.1; omega)).trans hq31
  generalize nG r 42 .int 6000 g31 = g32 at z32 hF32 hp32 hq32 ⊢
  generalize I_add g31 I31 = I32 at z32 ⊢
  generalize L_add g31 L31 = L32
  refine Ex_bn 2 oX9_init w0 ?_
  refine Ex_arI (kc := 9) (ks := 4086) (ci := 9) (k := 43) (N := 12) (by decide) (by decide) (by decide) (dc_ok oX9_init rfl) (fB_ok (by decide +kernel)) (Or.inr ⟨rfl, _, rfl, rfl⟩) rfl z32.2.1 ⟨by have := z32.1; omega, r2⟩ (dc_ok oX9_init rfl) ?_
  have z33 : Z9 b r 33 I (nG r 43 .int 12 g32) (I_add g32 I32) := z32.step
  have hF33 : x9F r [(44, .int, 120), (46, .int, 6), (47, .int, 60), (48, .boolean, 60), (49, .int, 60), (50, .boolean, 60), (51, .int, 60), (52, .int, 60), (53, .int, 3600)] (nG r 43 .int 12 g32) = gF := hF32
  have hp33 : (nG r 43 .int 12 g32).2.2 r 9 = some (b + 7) := (nG_rf (by have := z32.1; omega) (by omega)).trans hp32
  have hq33 : (nG r 43 .int 12 g32).2.1 (b + 7) = some (.inr (.int, 4)) := (nG_sh (by have := z32.1; omega)).trans hq32
  generalize nG r 43 .int 12 g32 = g33 at z33 hF33 hp33 hq33 ⊢
  generalize I_add g32 I32 = I33 at z33 ⊢
  generalize L_add g32 L32 = L33
  refine Ex_bn 2 oX9_init w0 ?_
  refine Ex_arI (kc := 8) (ks := 3966) (ci := 9) (k := 44) (N := 120) (by decide) (by decide) (by decide) (dc_ok oX9_init rfl) (fB_ok (by decide +kernel)) (Or.inr ⟨rfl, _, rfl, rfl⟩) rfl z33.2.1 ⟨by have := z33.1; omega, r2⟩ (dc_ok oX9_init rfl) ?_
  have z34 : Z9 b r 34 I (nG r 44 .int 120 g33) (I_add g33 I33) := z33.step
  have hF34 : x9F r [(46, .int, 6), (47, .int, 60), (48, .boolean, 60), (49, .int, 60), (50, .boolean, 60), (51, .int, 60), (52, .int, 60), (53, .int, 3600)] (nG r 44 .int 120 g33) = gF := hF33
  have hp34 : (nG r 44 .int 120 g33).2.2 r 9 = some (b + 7) := (nG_rf (by have := z33.1; omega) (by omega)).trans hp33
  have hq34 : (nG r 44 .int 120 g33).2.1 (b + 7) = some (.inr (.int, 4)) := (nG_sh (by have := z33.1; omega)).trans hq33
  generalize nG r 44 .int 120 g33 = g34 at z34 hF34 hp34 hq34 ⊢
  generalize I_add g33 I33 = I34 at z34 ⊢
  generalize L_add g33 L33 = L34
  refine Ex_bn 2 oX9_init w0 ?_
  refine Ex_arI (kc := 7) (ks := 3960) (ci := 9) (k := 46) (N := 6) (by decide) (by decide) (by decide) (dc_ok oX9_init rfl) (fB_ok (by decide +kernel)) (Or.inr ⟨rfl, _, rfl, rfl⟩) rfl z34.2.1 ⟨by have := z34.1; omega, r2⟩ (dc_ok oX9_init rfl) ?_
  have z35 : Z9 b r 35 I (nG r 46 .int 6 g34) (I_add g34 I34) := z34.step
  have hF35 : x9F r [(47, .int, 60), (48, .boolean, 60), (49, .int, 60), (50, .boolean, 60), (51, .int, 60), (52, .int, 60), (53, .int, 3600)] (nG r 46 .int 6 g34) = gF := hF34
  have hp35 : (nG r 46 .int 6 g34).2.2 r 9 = some (b + 7) := (nG_rf (by have := z34.1; omega) (by omega)).trans hp34
  have hq35 : (nG r 46 .int 6 g34).2.1 (b + 7) = some (.inr (.int, 4)) := (nG_sh (by have := z34.1; omega)).trans hq34
  generalize nG r 46 .int 6 g34 = g35 at z35 hF35 hp35 hq35 ⊢
  generalize I_add g34 I34 = I35 at z35 ⊢
  generalize L_add g34 L34 = L35
  refine Ex_bn 2 oX9_init w0 ?_
  refine Ex_arI (kc := 6) (ks := 3900) (ci := 9) (k := 47) (N := 60) (by decide) (by decide) (by decide) (dc_ok oX9_init rfl) (fB_ok (by decide +kernel)) (Or.inr ⟨rfl, _, rfl, rfl⟩) rfl z35.2.1 ⟨by have := z35.1; omega, r2⟩ (dc_ok oX9_init rfl) ?_
  have z36 : Z9 b r 36 I (nG r 47 .int 60 g35) (I_add g35 I35) := z35.step
  have hF36 : x9F r [(48, .boolean, 60), (49, .int, 60), (50, .boolean, 60), (51, .int, 60), (52, .int, 60), (53, .int, 3600)] (nG r 47 .int 60 g35) = gF := hF35
  have hp36 : (nG r 47 .int 60 g35).2.2 r 9 = some (b + 7) := (nG_rf (by have := z35.1; omega) (by omega)).trans hp35
  have hq36 : (nG r 47 .int 60 g35).2.1 (b + 7) = some (.inr (.int, 4)) := (nG_sh (by have := z35.1; omega)).trans hq35
  generalize nG r 47 .int 60 g35 = g36 at z36 hF36 hp36 hq36 ⊢
  generalize I_add g35 I35 = I36 at z36 ⊢
  generalize L_add g35 L35 = L36
  refine Ex_bn 2 oX9_init w0 ?_
  refine Ex_arB (kc := 5) (ks := 3840) (ci := 9) (k := 48) (N := 60) (by decide) (by decide) (by decide) (dc_ok oX9_init rfl) (fB_ok (by decide +kernel)) (Or.inr ⟨rfl, _, rfl, rfl⟩) rfl z36.2.1 ⟨by have := z36.1; omega, r2⟩ (dc_ok oX9_init rfl) ?_
  have z37 : Z9 b r 37 I (nG r 48 .boolean 60 g36) (I_add g36 I36) := z36.step
  have hF37 : x9F r [(49, .int, 60), (50, .boolean, 60), (51, .int, 60), (52, .int, 60), (53, .int, 3600)] (nG r 48 .boolean 60 g36) = gF := hF36
  have hp37 : (nG r 48 .boolean 60 g36).2.2 r 9 = some (b + 7) := (nG_rf (by have := z36.1; omega) (by omega)).trans hp36
  have hq37 : (nG r 48 .boolean 60 g36).2.1 (b + 7) = some (.inr (.int, 4)) := (nG_sh (by have := z36.1; omega)).trans hq36
  generalize nG r 48 .boolean 60 g36 = g37 at z37 hF37 hp37 hq37 ⊢
  generalize I_add g36 I36 = I37 at z37 ⊢
  generalize L_add g36 L36 = L37
  refine Ex_bn 2 oX9_init w0 ?_
  refine Ex_arI (kc := 4) (ks := 3780) (ci := 9) (k := 49) (N := 60) (by decide) (by decide) (by decide) (dc_ok oX9_init rfl) (fB_ok (by decide +kernel)) (Or.inr ⟨rfl, _, rfl, rfl⟩) rfl z37.2.1 ⟨by have := z37.1; omega, r2⟩ (dc_ok oX9_init rfl) ?_
  have z38 : Z9 b r 38 I (nG r 49 .int 60 g37) (I_add g37 I37) := z37.step
  have hF38 : x9F r [(50, .boolean, 60), (51, .int, 60), (52, .int, 60), (53, .int, 3600)] (nG r 49 .int 60 g37) = gF := hF37
  have hp38 : (nG r 49 .int 60 g37).2.2 r 9 = some (b + 7) := (nG_rf (by have := z37.1; omega) (by omega)).trans hp37
  have hq38 : (nG r 49 .int 60 g37).2.1 (b + 7) = some (.inr (.int, 4)) := (nG_sh (by have := z37.1; omega)).trans hq37
  generalize nG r 49 .int 60 g37 = g38 at z38 hF38 hp38 hq38 ⊢
  generalize I_add g37 I37 = I38 at z38 ⊢
  generalize L_add g37 L37 = L38
  refine Ex_bn 2 oX9_init w0 ?_
  refine Ex_arB (kc := 3) (ks := 3720) (ci := 9) (k := 50) (N := 60) (by decide) (by decide) (by decide) (dc_ok oX9_init rfl) (fB_ok (by decide +kernel)) (Or.inr ⟨rfl, _, rfl, rfl⟩) rfl z38.2.1 ⟨by have := z38.1; omega, r2⟩ (dc_ok oX9_init rfl) ?_
  have z39 : Z9 b r 39 I (nG r 50 .boolean 60 g38) (I_add g38 I38) := z38.step
  have hF39 : x9F r [(51, .int, 60), (52, .int, 60), (53, .int, 3600)] (nG r 50 .boolean 60 g38) = gF := hF38
  have hp39 : (nG r 50 .boolean 60 g38).2.2 r 9 = some (b + 7) := (nG_rf (by have := z38.1; omega) (by omega)).trans hp38
  have hq39 : (nG r 50 .boolean 60 g38).2.1 (b + 7) = some (.inr (.int, 4)) := (nG_sh (by have := z38.1; omega)).trans hq38
  generalize nG r 50 .boolean 60 g38 = g39 at z39 hF39 hp39 hq39 ⊢
  generalize I_add g38 I38 = I39 at z39 ⊢
  generalize L_add g38 L38 = L39
  refine Ex_bn 2 oX9_init w0 ?_
  refine Ex_arI (kc := 2) (ks := 3660) (ci := 9) (k := 51) (N := 60) (by decide) (by decide) (by decide) (dc_ok oX9_init rfl) (fB_ok (by decide +kernel)) (Or.inr ⟨rfl, _, rfl, rfl⟩) rfl z39.2.1 ⟨by have := z39.1; omega, r2⟩ (dc_ok oX9_init rfl) ?_
  have z40 : Z9 b r 40 I (nG r 51 .int 60 g39) (I_add g39 I39) := z39.step
  have hF40 : x9F r [(52, .int, 60), (53, .int, 3600)] (nG r 51 .int 60 g39) = gF := hF39
  have hp40 : (nG r 51 .int 60 g39).2.2 r 9 = some (b + 7) := (nG_rf (by have := z39.1; omega) (by omega)).trans hp39
  have hq40 : (nG r 51 .int 60 g39).2.1 (b + 7) = some (.inr (.int, 4)) := (nG_sh (by have := z39.1; omega)).trans hq39
  generalize nG r 51 .int 60 g39 = g40 at z40 hF40 hp40 hq40 ⊢
  generalize I_add g39 I39 = I40 at z40 ⊢
  generalize L_add g39 L39 = L40
  refine Ex_bn 2 oX9_init w0 ?_
  refine Ex_arI (kc := 1) (ks := 3600) (ci := 9) (k := 52) (N := 60) (by decide) (by decide) (by decide) (dc_ok oX9_init rfl) (fB_ok (by decide +kernel)) (Or.inr ⟨rfl, _, rfl, rfl⟩) rfl z40.2.1 ⟨by have := z40.1; omega, r2⟩ (dc_ok oX9_init rfl) ?_
  have z41 : Z9 b r 41 I (nG r 52 .int 60 g40) (I_add g40 I40) := z40.step
  have hF41 : x9F r [(53, .int, 3600)] (nG r 52 .int 60 g40) = gF := hF40
  have hp41 : (nG r 52 .int 60 g40).2.2 r 9 = some (b + 7) := (nG_rf (by have := z40.1; omega) (by omega)).trans hp40
  have hq41 : (nG r 52 .int 60 g40).2.1 (b + 7) = some (.inr (.int, 4)) := (nG_sh (by have := z40.1; omega)).trans hq40
  generalize nG r 52 .int 60 g40 = g41 at z41 hF41 hp41 hq41 ⊢
  generalize I_add g40 I40 = I41 at z41 ⊢
  generalize L_add g40 L40 = L41
  refine Ex_bn 2 oX9_init w0 ?_
  refine Ex_arI (kc := 0) (ks := 0) (ci := 9) (k := 53) (N := 3600) (by decide) (by decide) (by decide) (dc_ok oX9_init rfl) (fB_ok (by decide +kernel)) (Or.inr ⟨rfl, _, rfl, rfl⟩) rfl z41.2.1 ⟨by have := z41.1; omega, r2⟩ (dc_ok oX9_init rfl) ?_
  have z42 : Z9 b r 42 I (nG r 53 .int 3600 g41) (I_add g41 I41) := z41.step
  have hF42 : x9F r [] (nG r 53 .int 3600 g41) = gF := hF41
  have hp42 : (nG r 53 .int 3600 g41).2.2 r 9 = some (b + 7) := (nG_rf (by have := z41.1; omega) (by omega)).trans hp41
  have hq42 : (nG r 53 .int 3600 g41).2.1 (b + 7) = some (.inr (.int, 4)) := (nG_sh (by have := z41.1; omega)).trans hq41
  generalize nG r 53 .int 3600 g41 = g42 at z42 hF42 hp42 hq42 ⊢
  generalize I_add g41 I41 = I42 at z42 ⊢
  generalize L_add g41 L41 = L42
  have hloop : ∀ (m k : Nat) (J : aI), k + m = 4 → (∀ i, i ≠ b + 7 → J i = I42 i) → (∀ l, l < k → J (b + 7) l = -1) → Ex mX9_init d 0 0 (coQ gF (fun J => (∀ l, l < 4 → J (b + 7) l = -1) ∧ (J (b + 8) 0 = 0 ∧ J (b + 9) 0 = 0 ∧ J (b + 10) 0 = 0) ∧ Ia b I J)) 350 [some (vD (some r)), some (vI (nI k))] [] g42 J L42 := by
    intro m
    induction m with
    | zero =>
      intro k J hk hJ hl
      have ek : k = 4 := by omega
      subst ek
      refine Ex_wx [368, 355] 9 oX9_init w0 ?_
      refine And.intro (fun _ => ?_) (fun c => absurd (by decide) c)
      refine Ex_wx [] 9 oX9_init w0 ?_
      obtain ⟨y1, y2, y3, y4, y5⟩ := z42
      refine ⟨rfl, hF42, hl, ⟨?_, ?_, ?_⟩, fun i hi => ?_⟩
      · rw [hJ _ (by omega)]; exact y5 _ (by omega) (by omega) 0
      · rw [hJ _ (by omega)]; exact y5 _ (by omega) (by omega) 0
      · rw [hJ _ (by omega)]; exact y5 _ (by omega) (by omega) 0
      · rw [hJ _ (by omega)]; exact y4 i hi
    | succ m ih =>
      intro k J hk hJ hl
      refine Ex_wx [368, 355] 9 oX9_init w0 ?_
      refine And.intro (fun c => absurd (show nI 4 ≤ nI k from c) (nI_ge (by omega) (by omega))) (fun _ => ?_)
      refine Ex_bn 2 oX9_init w0 ?_
      refine And.intro z42.2.1 ?_
      show Ex mX9_init d 0 0 _ 359 [some (vD (some r)), some (vI (nI k))] [vD (g42.2.2 r 9)] g42 J L42
      rw [hp42]
      refine Ex_wx [350] 9 oX9_init w0 ?_
      refine ⟨4, ⟨hq42, by omega, inN (by omega) (by omega)⟩, ?_⟩
      show Ex mX9_init d 0 0 _ 350 [some (vD (some r)), some (vI (nI k + 1))] [] g42 (up2 J (b + 7) (nI k).toNatClampNeg (-1)) L42
      rw [clN (by omega), ← nI_succ]
      refine ih (k + 1) _ (by omega) (fun i hi => by rw [← hJ i hi]; funext c; exact up2_i hi) (fun l hl2 => ?_)
      by_cases e : l = k
      · subst e; exact up2_s
      · rw [up2_k e]; exact hl l (by omega)
  refine Ex_bn 2 oX9_init w0 ?_
  exact hloop 4 0 I42 rfl (fun _ _ => rfl) (fun l hl => by omega)
end Ctor4
