/-! the law: from its first row to its loop -/
theorem Ex_lo {M : aM} {d kc ks pc : Nat} {Q : aQ} {lo lo2 : List (Option aV)} {st : List aV} {g : aG} {I : aI} {L : aL} (he : ∀ ad, lo.map (Option.map (cv ad)) = lo2.map (Option.map (cv ad))) (h : Ex M d kc ks Q pc lo2 st g I L) : Ex M d kc ks Q pc lo st g I L := by
  intro D K b b0 SA p l e R s m args below meth c H locs cells slots mc ms ls C hc hs hz hS hl
  refine h D K b b0 SA p l e R s m args below meth c H locs cells slots mc ms ls C hc hs hz hS ⟨hl.1, hl.2.1, fun k v hv => ?_⟩
  have h1 : (lo2.map (Option.map (cv (qa b b0))))[k]? = some (some (cv (qa b b0) v)) := by
    rw [List.getElem?_map, hv]; rfl
  rw [← he, List.getElem?_map] at h1
  cases hk : lo[k]? with
  | none => rw [hk] at h1; cases h1
  | some o =>
    rw [hk] at h1
    cases o with
    | none => cases h1
    | some v2 =>
      have e2 : cv (qa b b0) v2 = cv (qa b b0) v := Option.some.inj (Option.some.inj h1)
      rw [← e2]
      exact hl.2.2 k v2 hk
theorem x8G_1 {r : Nat} {g : aG} : (x8G r g).1 = g.1 + 326 := by
  show (x8O r 4 (x8O r 3 (x8O r 2 (x8B r (x8A r g))))).1 + 1 = _
  rw [x8O_1, x8O_1, x8O_1]
  show (g.1 + 1) + 1 + 11 + 104 + 104 + 104 + 1 = _
  omega
theorem x9F_1 {r : Nat} : ∀ (l : List (Nat × FieldType × Nat)) (g : aG), (x9F r l g).1 = g.1 + l.length := by
  intro l
  induction l with
  | nil => intro g; rfl
  | cons e l ih =>
    intro g
    show (x9F r l (nG r e.1 e.2.1 e.2.2 g)).1 = _
    rw [ih]
    show g.1 + 1 + l.length = _
    rw [List.length_cons]
    omega
theorem x9G_1 {r : Nat} {g : aG} : (x9G r g).1 = g.1 + 42 := x9F_1 arrL g
theorem x8C_sh {r i : Nat} {g : aG} (h : i < g.1) : (x8G r g).2.1 i = g.2.1 i := by
  have a1 : (x8A r g).1 = g.1 + 1 := rfl
  have b1 : (x8B r (x8A r g)).1 = g.1 + 13 := rfl
  have c1 : (x8O r 2 (x8B r (x8A r g))).1 = g.1 + 117 := by rw [x8O_1, b1]
  have c2 : (x8O r 3 (x8O r 2 (x8B r (x8A r g)))).1 = g.1 + 221 := by rw [x8O_1, c1]
  have c3 : (x8O r 4 (x8O r 3 (x8O r 2 (x8B r (x8A r g))))).1 = g.1 + 325 := by rw [x8O_1, c2]
  show (g_add (x8O r 4 (x8O r 3 (x8O r 2 (x8B r (x8A r g))))) (.inl 1)).2.1 i = _
  rw [g_add_lt (by omega), x8O_sh (by omega), x8O_sh (by omega), x8O_sh (by omega), x8B_sh (by omega)]
  exact g_add_lt h
theorem x9F_sh {r i : Nat} : ∀ (l : List (Nat × FieldType × Nat)) (g : aG), i < g.1 → (x9F r l g).2.1 i = g.2.1 i := by
  intro l
  induction l with
  | nil => intro g _; rfl
  | cons e l ih =>
    intro g h
    show (x9F r l (nG r e.1 e.2.1 e.2.2 g)).2.1 i = _
    rw [ih _ (Nat.lt_succ_of_lt h), nG_sh h]
def A0 (p : Nat → Int32) : aA := (fun _ => (0, 0, 0, 0, 0, 0), fun _ => 0, fun _ => 0, 0, p, none)
set_option maxRecDepth 100000 in
theorem law_start {n d : Nat} (hn : n ≤ 2560) (hd : 130 ≤ d) {g : aG} {I : aI} {L : aL} (hg : Rep g d0) (h0 : g.2.1 0 = some (.inr (.int, n))) : Ex mL_law d 2000 80000 okQ 0 [some (vD (some 0)), none, none, none, none, none, none] [] g I L := by
  have hg1 : g.1 = 1 := hg.1
  -- the class
  have b1 : (g_add g (.inl 8)).1 = 2 := by show g.1 + 1 = 2; omega
  refine Ex_new (kc := 1999) (ks := 79993) (ci := 8) (q := (RX8, TX8, 7)) rfl (gOne (by decide +kernel)) (gOne (by decide +kernel)) (gOne (by decide +kernel)) (dc_ok oL_law rfl) ?_
  refine Ex_bn 1 oL_law w0 ?_
  have hX8 := k8_init (g := g_add g (.inl 8)) (I := I_add g I) (L := L_add g L) (d := 4) (r := g.1) g_add_at ⟨Nat.lt_succ_self _, by omega⟩ (by omega)
  refine Ex_callI (kc := 1673) (ks := 51211) (kc' := 326) (ks' := 28782) (As := []) (st := [vD (some g.1)]) (iL_82.c rfl) rfl rfl iL_82.2.2.2.1 hX8 (fun E g I L h => coQ_no h) (by omega) (Nat.le_of_ble_eq_true rfl) (dc_ok oL_law rfl) ?_
  rintro v gX JX LX ⟨e, egX, hz4, hz15, hV, hIX⟩
  cases e
  rw [b1] at hz4 hz15 hV hIX
  rw [hg1] at egX ⊢
  have hRX : Rep gX (d8 1 (dA (.inl 8) d0)) := by rw [egX]; exact (hg.add _).r8 (by show 1 < 1 + 1; omega)
  have gX1 : gX.1 = 328 := by rw [egX, x8G_1, b1]
  have gX0 : gX.2.1 0 = some (.inr (.int, n)) := by rw [egX, x8C_sh (by omega), g_add_lt (by omega)]; exact h0
  have hc15 : JX 1 5 = 0 := by
    rw [hIX 1 (by omega)]
    show (if 1 = g.1 then 0 else I 1 5) = 0
    rw [if_pos (by omega)]
  -- the reference
  refine Ex_bn 1 oL_law w0 ?_
  show Ex mL_law d 1673 51211 okQ 8 [some (vD (some 0)), some (vD (some 1)), none, none, none, none, none] [] gX JX LX
  refine Ex_new (kc := 1672) (ks := 51157) (ci := 9) (q := (RX9, TX9, 54)) rfl (gOne (by decide +kernel)) (gOne (by decide +kernel)) (gOne (by decide +kernel)) (dc_ok oL_law rfl) ?_
  refine Ex_bn 1 oL_law w0 ?_
  have b2 : (g_add gX (.inl 9)).1 = 329 := by show gX.1 + 1 = 329; omega
  have hX9 := k9_init (g := g_add gX (.inl 9)) (I := I_add gX JX) (L := L_add gX LX) (d := 1) (r := gX.1) g_add_at ⟨Nat.lt_succ_self _, by omega⟩ (by omega)
  refine Ex_callI (kc := 1630) (ks := 20551) (kc' := 42) (ks' := 30606) (As := []) (st := [vD (some gX.1)]) (iL_85.c rfl) rfl rfl iL_85.2.2.2.1 hX9 (fun E g I L h => coQ_no h) (by omega) (Nat.le_of_ble_eq_true rfl) (dc_ok oL_law rfl) ?_
  rintro v gY JY LY ⟨e, egY, hz336, hz337, hIY⟩
  cases e
  rw [b2] at hz336 hz337 hIY
  rw [gX1] at egY ⊢
  have hRY : Rep gY (d9F 328 arrL (dA (.inl 9) (d8 1 (dA (.inl 8) d0)))) := by
    rw [egY]
    refine rep_9F arrL _ _ (hRX.add _) ?_
    have := hRX.1
    rw [gX1] at this
    show 328 < _ + 1
    omega
  have gY1 : gY.1 = 371 := by rw [egY, x9G_1, b2]
  have gY0 : gY.2.1 0 = some (.inr (.int, n)) := by
    rw [egY]
    show (x9F 328 arrL (g_add gX (.inl 9))).2.1 0 = _
    rw [x9F_sh arrL _ (by omega), g_add_lt (by omega)]; exact gX0
  have jX : ∀ i, i < 328 → JY i = JX i := fun i hi => by
    rw [hIY i (by omega)]
    funext k
    show (if i = gX.1 then 0 else JX i k) = _
    rw [if_neg (by omega)]
  have j328 : ∀ k, JY 328 k = 0 := fun k => by
    rw [hIY 328 (by omega)]
    show (if 328 = gX.1 then 0 else JX 328 k) = 0
    rw [if_pos (by omega)]
  -- out
  refine Ex_bn 2 oL_law w0 ?_
  show Ex mL_law d 1630 20551 okQ 17 [some (vD (some 0)), some (vD (some 1)), some (vD (some 328)), none, none, none, none] [vI 1] gY JY LY
  refine Ex_newarr (kc := 1629) (ks := 20550) (aty := .long) (ty := .long) (N := 1) rfl (Or.inr (Or.inr rfl)) ac_l (by decide) (by decide) (by decide) (dc_ok oL_law rfl) ?_
  rw [gY1]
  have hRZ : Rep (g_add gY (.inr (.long, 1))) (372, dLs, dLr) := by
    have := hRY.add (.inr (.long, 1))
    rw [← dF_eq]
    exact this
  have gZ0 : (g_add gY (.inr (.long, 1))).2.1 0 = some (.inr (.int, n)) := by rw [g_add_lt (by omega)]; exact gY0
  have gZ1 : (g_add gY (.inr (.long, 1))).1 = 372 := hRZ.1
  have jZ : ∀ i, i < 371 → I_add gY JY i = JY i := fun i hi => by
    funext k
    show (if i = gY.1 then 0 else JY i k) = _
    rw [if_neg (by omega)]
  generalize g_add gY (.inr (.long, 1)) = gZ at hRZ gZ0 gZ1 ⊢
  generalize I_add gY JY = JZ at jZ ⊢
  generalize L_add gY LY = LZ
  refine Ex_bn 3 oL_law w0 ?_
  refine Ex_lo (lo2 := [some (vD (some 0)), some (vS 1), some (vS 328), some (vS 371), some (vI (nI 0)), none, none]) (fun _ => rfl) ?_
  refine Ex_wide (law_loop hn (by omega) 512 0 gZ JZ LZ none none (by omega) (by omega) ?_) (by omega) (by omega)
  have hw := rep_ws hRZ
  have hp : plP (JZ 336) (-1) (-1) (-1) (-1) = JZ 336 := by
    funext l
    unfold plP
    by_cases hl : l < 4
    · rw [if_pos hl, jZ 336 (by omega), hz336 l hl]
      have hl4 : l = 0 ∨ l = 1 ∨ l = 2 ∨ l = 3 := by omega
      rcases hl4 with rfl | rfl | rfl | rfl <;> rfl
    · rw [if_neg hl]
  have hV2 : LyV JZ 327 (plI 0 (-1) (-1) (-1) (-1)) (plI 1 (-1) (-1) (-1) (-1)) (plI 2 (-1) (-1) (-1) (-1)) (plI 3 (-1) (-1) (-1) (-1)) := by
    have e : JZ 327 = JX 327 := (jZ 327 (by omega)).trans (jX 327 (by omega))
    unfold LyV at hV ⊢
    rw [e]
    exact hV
  obtain ⟨hX, hX0⟩ := ly_ok (p := JZ 336) hV2
  rw [hp] at hX hX0
  refine ⟨A0 (JZ 336), ⟨trivial, fun t ht => absurd ht (Nat.not_lt_zero _), fun t ht => absurd ht (Nat.not_lt_zero _), Nat.zero_le _⟩, ⟨327, 14, fun _ => 0, ⟨⟨hw, by omega, ?_, Nat.zero_le _, fun t ht => absurd ht (Nat.not_lt_zero _)⟩, fun t ht => absurd ht (Nat.not_lt_zero _), fun t ht => absurd ht (Nat.not_lt_zero _), ⟨by rw [hRZ.2.2.1 327 (by omega)]; exact chL, Or.inl rfl, by omega, hX, hX0⟩, ⟨rep_og hRZ (by omega) chO_1, rep_og hRZ (by omega) chO_2, rep_og hRZ (by omega) chO_3⟩, 0, Nat.zero_le _, ?_⟩, ?_⟩, ⟨⟨?_, Nat.zero_le _, fun t ht => absurd ht (Nat.not_lt_zero _)⟩, ⟨rfl, fun t ht => absurd ht (Nat.not_lt_zero _)⟩, ⟨?_, ?_, ?_⟩, ?_⟩, gZ0⟩
  · rw [jZ 1 (by omega), jX 1 (by omega)]; exact hc15
  · rw [jZ 4 (by omega), jX 4 (by omega)]; exact hz4
  · show JZ 15 0 = -3
    rw [jZ 15 (by omega), jX 15 (by omega)]; exact hz15
  · rw [jZ 328 (by omega)]; exact j328 1
  · rw [jZ 337 (by omega)]; exact hz337.1
  · rw [jZ 338 (by omega)]; exact hz337.2.1
  · rw [jZ 339 (by omega)]; exact hz337.2.2
  · show JZ 328 45 = 0
    rw [jZ 328 (by omega)]; exact j328 45
