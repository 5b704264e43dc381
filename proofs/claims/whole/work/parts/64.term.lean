/-! the class: the TERM's constructor, and keep -/
theorem gOne {w : Cond} (h : gIn [w] = true) : w ∈ gT := gT_of h w List.mem_cons_self
theorem ws_made {lx ly c : Nat} {g : aG} {x : Option Nat} (h : WS lx ly g) : WS lx ly (g.1, g.2.1, up2 g.2.2 2 c x) := by
  intro i e hi
  obtain ⟨h1, h2, h3⟩ := h i e hi
  refine ⟨h1, h2, fun k v hv => ?_⟩
  show rfV v (up2 g.2.2 2 c x i k)
  by_cases q : i = 2 ∧ k = c
  · obtain ⟨rfl, rfl⟩ := q
    cases hv
  · rw [up2_n (by omega)]
    exact h3 k v hv
section Term
variable {lx ly : Nat} {g : aG} {I : aI} {L : aL} {d kc ks cnt r k : Nat} {b x nm : Int32} {f s : Option Nat}
def tmG (g : aG) (r : Nat) (f s : Option Nat) : aG := (g.1, g.2.1, up2 (up2 g.2.2 r 4 f) r 5 s)
def mxI (x y : Int32) : Int32 := if x < y then y else x
def tmI (I : aI) (r k : Nat) (b x nm : Int32) (f s : Option Nat) : aI := up2 (up2 (up2 (up2 (up2 (up2 I r 0 (nI k)) r 1 b) r 2 x) r 3 nm) r 6 (1 + mxI (hF I 6 f) (hF I 6 s))) r 7 (nI (kbN k) ||| hF I 7 f ||| hF I 7 s)
theorem e7_init (hw : WS lx ly g) (hr : 372 ≤ r) (h7 : g.2.1 r = some (.inl 7)) (hk : k ≤ 18) (hb : b = 0 ∨ b = 1) (hf : ∀ i, f = some i → i ≠ r ∧ g.2.1 i = some (.inl 7)) (hs : ∀ i, s = some i → i ≠ r ∧ g.2.1 i = some (.inl 7)) (hd : 1 ≤ d) :
    Mx mX7_init d 0 0 [vD (some r), vI (nI k), vI b, vI x, vI nm, vD f, vD s] g I L (qV none (tmG g r f s) (tmI I r k b x nm f s) L) := by
  refine Mx_in (by decide +kernel) rfl rfl (Ex_bn 1 oX7_init hw ?_)
  refine Ex_objInit (gOne (by decide +kernel)) (gOne (by decide +kernel)) (gOne (by decide +kernel)) hd (by decide) (dc_ok oX7_init rfl) ?_
  refine Ex_bn 2 oX7_init hw ?_
  refine Ex_putID (ci := 7) (k := 0) (fB_ok (by decide +kernel)) (Or.inr ⟨rfl, _, rfl, rfl⟩) rfl trivial h7 (by omega) (dc_ok oX7_init rfl) ?_
  refine Ex_bn 2 oX7_init hw ?_
  refine Ex_putID (ci := 7) (k := 1) (fB_ok (by decide +kernel)) (Or.inr ⟨rfl, _, rfl, rfl⟩) rfl hb h7 (by omega) (dc_ok oX7_init rfl) ?_
  refine Ex_bn 2 oX7_init hw ?_
  refine Ex_putID (ci := 7) (k := 2) (fB_ok (by decide +kernel)) (Or.inr ⟨rfl, _, rfl, rfl⟩) rfl trivial h7 (by omega) (dc_ok oX7_init rfl) ?_
  refine Ex_bn 2 oX7_init hw ?_
  refine Ex_putID (ci := 7) (k := 3) (fB_ok (by decide +kernel)) (Or.inr ⟨rfl, _, rfl, rfl⟩) rfl trivial h7 (by omega) (dc_ok oX7_init rfl) ?_
  refine Ex_bn 2 oX7_init hw ?_
  refine Ex_putRD (ci := 7) (k := 4) (fB_ok (by decide +kernel)) (Or.inr ⟨rfl, _, rfl, rfl⟩) rfl h7 (by omega) (dc_ok oX7_init rfl) ?_
  have hw1 : WS lx ly (g.1, g.2.1, up2 g.2.2 r 4 f) := ws_of hw (fun i hi => ⟨rfl, fun c => up2_i (by omega)⟩)
  refine Ex_bn 2 oX7_init hw1 ?_
  refine Ex_putRD (ci := 7) (k := 5) (fB_ok (by decide +kernel)) (Or.inr ⟨rfl, _, rfl, rfl⟩) rfl h7 (by omega) (dc_ok oX7_init rfl) ?_
  have hw2 : WS lx ly (tmG g r f s) := ws_of hw (fun i hi => ⟨rfl, fun c => (up2_i (by omega)).trans (up2_i (by omega))⟩)
  show Ex mX7_init d 0 0 (qV none (tmG g r f s) (tmI I r k b x nm f s) L) 37 [some (vD (some r)), some (vI (nI k)), some (vI b), some (vI x), some (vI nm), some (vD f), some (vD s)] [] (tmG g r f s) (up2 (up2 (up2 (up2 I r 0 (nI k)) r 1 b) r 2 x) r 3 nm) L
  have hh : ∀ (c : Nat) (u : Option Nat), (∀ i, u = some i → i ≠ r ∧ g.2.1 i = some (.inl 7)) → hF (up2 (up2 (up2 (up2 I r 0 (nI k)) r 1 b) r 2 x) r 3 nm) c u = hF I c u := by
    intro c u hu
    cases u with
    | none => rfl
    | some i =>
      have hn := (hu i rfl).1
      show up2 (up2 (up2 (up2 I r 0 (nI k)) r 1 b) r 2 x) r 3 nm i c = I i c
      rw [up2_i hn, up2_i hn, up2_i hn, up2_i hn]
  have hh2 : ∀ (c : Nat) (u : Option Nat) (z : Int32), (∀ i, u = some i → i ≠ r ∧ g.2.1 i = some (.inl 7)) → hF (up2 (up2 (up2 (up2 (up2 I r 0 (nI k)) r 1 b) r 2 x) r 3 nm) r 6 z) c u = hF I c u := by
    intro c u z hu
    cases u with
    | none => rfl
    | some i =>
      have hn := (hu i rfl).1
      show up2 (up2 (up2 (up2 (up2 I r 0 (nI k)) r 1 b) r 2 x) r 3 nm) r 6 z i c = I i c
      rw [up2_i hn, up2_i hn, up2_i hn, up2_i hn, up2_i hn]
  refine Ex_wx [] 9 oX7_init hw2 ?_
  refine Ex_s (As := [vD f]) (st := [vI 1, vD (some r)]) (d' := 0) sX7_30 rfl rfl (e7_heightOf hw2 (fun i hi => (hf i hi).2)) hd rfl (dc_ok oX7_init rfl) ?_
  rw [hh 6 f hf]
  refine Ex_wx [] 9 oX7_init hw2 ?_
  refine Ex_s (As := [vD s]) (st := [vI (hF I 6 f), vI 1, vD (some r)]) (d' := 0) sX7_30 rfl rfl (e7_heightOf hw2 (fun i hi => (hs i hi).2)) hd rfl (dc_ok oX7_init rfl) ?_
  rw [hh 6 s hs]
  refine Ex_s (As := [vI (hF I 6 f), vI (hF I 6 s)]) (st := [vI 1, vD (some r)]) (d' := 0) sX7_34 rfl rfl (e_max hw2) hd rfl (dc_ok oX7_init rfl) ?_
  refine Ex_bn 1 oX7_init hw2 ?_
  refine Ex_putID (ci := 7) (k := 6) (fB_ok (by decide +kernel)) (Or.inr ⟨rfl, _, rfl, rfl⟩) rfl trivial h7 (by omega) (dc_ok oX7_init rfl) ?_
  refine Ex_wx [] 9 oX7_init hw2 ?_
  refine Ex_s (As := [vI (nI k)]) (st := [vD (some r)]) (d' := 0) sX7_43 rfl rfl (e0_layersOf hw2 hk) hd rfl (dc_ok oX7_init rfl) ?_
  refine Ex_wx [] 9 oX7_init hw2 ?_
  refine Ex_s (As := [vD f]) (st := [vI (nI (kbN k)), vD (some r)]) (d' := 0) sX7_49 rfl rfl (e7_layersOf hw2 (fun i hi => (hf i hi).2)) hd rfl (dc_ok oX7_init rfl) ?_
  rw [hh2 7 f _ hf]
  refine Ex_wx [] 9 oX7_init hw2 ?_
  refine Ex_s (As := [vD s]) (st := [vI (nI (kbN k) ||| hF I 7 f), vD (some r)]) (d' := 0) sX7_49 rfl rfl (e7_layersOf hw2 (fun i hi => (hs i hi).2)) hd rfl (dc_ok oX7_init rfl) ?_
  rw [hh2 7 s _ hs]
  refine Ex_bn 1 oX7_init hw2 ?_
  refine Ex_putID (ci := 7) (k := 7) (fB_ok (by decide +kernel)) (Or.inr ⟨rfl, _, rfl, rfl⟩) rfl trivial h7 (by omega) (dc_ok oX7_init rfl) ?_
  refine Ex_wx [] 9 oX7_init hw2 ?_
  exact ⟨rfl, rfl, rfl, rfl⟩
theorem e8_keep (hw : WS lx ly g) (hc : I 1 5 = nI cnt) (h80 : cnt < 80) (h7 : g.2.1 r = some (.inl 7)) (h30 : I r 6 ≤ 30) : Mx mX8_keep d 0 0 [vS 1, vD (some r)] g I L (qV (some (vI (nI cnt))) (g.1, g.2.1, up2 g.2.2 2 cnt (some r)) (up2 I 1 5 (nI (cnt + 1))) L) := by
  have m2 := (hw 2 _ rfl).2.1
  refine Mx_in (by decide +kernel) rfl rfl (Ex_wx [25, 7] 9 oX8_keep hw ?_)
  refine And.intro (fun c => absurd (hc ▸ c) (nI_pos (by omega))) (fun _ => ?_)
  refine Ex_wx [25, 16] 9 oX8_keep hw ?_
  refine And.intro (fun c => absurd (show nI 80 ≤ nI cnt from hc ▸ c) (nI_ge (by omega) (by omega))) (fun _ => ?_)
  refine Ex_wx [35, 25] 9 oX8_keep hw ?_
  refine And.intro h7 ?_
  refine And.intro (fun _ => ?_) (fun c => absurd h30 c)
  refine Ex_wx [] 9 oX8_keep hw ?_
  show Ex mX8_keep d 0 0 _ 44 [some (vS 1), some (vD (some r))] [vD (some r), vI (I 1 5), vS 2] g I L
  rw [hc]
  refine Ex_aast (ci := 7) (x := r) (n := 80) rfl (Or.inl rfl) m2 (by omega) h7 (inN (by omega) (by omega)) (dc_ok oX8_keep rfl) ?_
  rw [clN (by omega)]
  refine Ex_wx [] 9 oX8_keep (ws_made hw) ?_
  refine ⟨?_, rfl, ?_, rfl⟩
  · have e : up2 I 1 5 (I 1 5 + 1) 1 5 - 1 = nI cnt := by rw [up2_s, hc, ← nI_succ, nI_pred]
    exact congrArg (fun z : Int32 => (Sum.inl (some (vI z)) : aO)) e
  · have e : I 1 5 + 1 = nI (cnt + 1) := by rw [hc, nI_succ]
    exact congrArg (fun z : Int32 => up2 I 1 5 z) e
theorem e8_keepT (hw : WS lx ly g) (hc : I 1 5 = nI cnt) (h8 : cnt ≤ 80) (h7 : g.2.1 r = some (.inl 7)) (h30 : ¬ (cnt < 80 ∧ I r 6 ≤ 30)) (hd : 6 ≤ d) : Mx mX8_keep d (kc + 1) (ks + 6) [vS 1, vD (some r)] g I L (qT E2 g I L) := by
  have ht : ∀ lo, Ex mX8_keep d (kc + 1) (ks + 6) (qT E2 g I L) 25 lo [] g I L := fun lo => Ex_throw tOk_2 rfl rfl (by decide : (143, "too many TERMS, or too high a one") ∈ qStr) hd (by decide) (dc_ok oX8_keep rfl) (dc_ok oX8_keep rfl) (dc_ok oX8_keep rfl) (dc_ok oX8_keep rfl) (dc_ok oX8_keep rfl) (fun n hn => ⟨rfl, ⟨n, hn, rfl⟩, rfl, rfl⟩)
  refine Mx_in (by decide +kernel) rfl rfl (Ex_wx [25, 7] 9 oX8_keep hw ?_)
  refine And.intro (fun _ => ht _) (fun _ => ?_)
  refine Ex_wx [25, 16] 9 oX8_keep hw ?_
  refine And.intro (fun _ => ht _) (fun c => ?_)
  refine Ex_wx [35, 25] 9 oX8_keep hw ?_
  refine And.intro h7 ?_
  refine And.intro (fun c2 => ?_) (fun _ => ht _)
  rw [hc] at c
  exact absurd ⟨(by
    rcases Nat.lt_or_ge cnt 80 with z | z
    · exact z
    · exact absurd (show nI 80 ≤ nI cnt from nI_le z (by omega)) c), c2⟩ h30
end Term
/-- a TERM has been made -/
def MkP (g : aG) (I : aI) (L : aL) (cnt k : Nat) (b x nm : Int32) (f s : Option Nat) (h n : Nat) (g' : aG) (I' : aI) (L' : aL) : Prop :=
  g'.1 = g.1 + 1 ∧ (∀ i, i < g.1 → g'.2.1 i = g.2.1 i ∧ (∀ c, ¬ (i = 2 ∧ c = cnt) → g'.2.2 i c = g.2.2 i c) ∧ (∀ c, ¬ (i = 1 ∧ c = 5) → I' i c = I i c) ∧ L' i = L i) ∧ g'.2.1 g.1 = some (.inl 7) ∧ g'.2.2 2 cnt = some g.1 ∧ I' 1 5 = nI (cnt + 1) ∧
  (g'.2.2 g.1 4 = f ∧ g'.2.2 g.1 5 = s ∧ I' g.1 0 = nI k ∧ I' g.1 1 = b ∧ I' g.1 2 = x ∧ I' g.1 3 = nm ∧ I' g.1 6 = nI h ∧ I' g.1 7 = nI n)
/-- a part, or none: its height and needs -/
def pT (g : aG) (I : aI) (f : Option Nat) (h n : Nat) : Prop := match f with
  | none => h = 0 ∧ n = 0
  | some i => i < g.1 ∧ g.2.1 i = some (.inl 7) ∧ I i 6 = nI h ∧ I i 7 = nI n ∧ h ≤ 30 ∧ n < 16
theorem pT.h {g : aG} {I : aI} {f : Option Nat} {h n : Nat} (q : pT g I f h n) : hF I 6 f = nI h ∧ hF I 7 f = nI n ∧ h ≤ 30 ∧ n < 16 := by
  cases f with
  | none => obtain ⟨rfl, rfl⟩ := q; exact ⟨rfl, rfl, by omega, by omega⟩
  | some i => obtain ⟨-, -, q1, q2, q3, q4⟩ := q; exact ⟨q1, q2, q3, q4⟩
theorem mx_nI {a b : Nat} (ha : a ≤ 30) (hb : b ≤ 30) : mxI (nI a) (nI b) = nI (max a b) := by
  unfold mxI
  by_cases c : a < b
  · rw [if_pos (nI_lt c (by omega)), Nat.max_eq_right (by omega)]
  · rw [if_neg (nI_nlt (by omega) (by omega)), Nat.max_eq_left (by omega)]
theorem or_nI16 : ∀ a, a < 16 → ∀ b, b < 16 → nI a ||| nI b = nI (a ||| b) := by decide +kernel
theorem or_lt16 : ∀ a, a < 16 → ∀ b, b < 16 → a ||| b < 16 := by decide +kernel
theorem kb_lt {k : Nat} : kbN k < 16 := by
  unfold kbN
  repeat (split <;> try omega)
section Fin
variable {lx ly : Nat} {g : aG} {I : aI} {L : aL} {M : aM} {Q : aQ} {d cnt k pc hf hs nf ns : Nat} {b x nm : Int32} {f s : Option Nat} {lo : List (Option aV)}
theorem e8_fin (hM : M.y.cls = RX8) (hret : M.ret = some .int) (hh : M.hh = []) (d1 : decode M.cc pc = .ok (.invokespecial 61, 3)) (d2 : decode M.cc (pc + 3) = .ok (.invokevirtual 64, 3)) (d3 : decode M.cc (pc + 3 + 3) = .ok (.ireturn, 1))
    (hw : WS lx ly g) (hg : 372 ≤ g.1) (hc : I 1 5 = nI cnt) (h8 : cnt ≤ 80) (hk : k ≤ 18) (hb : b = 0 ∨ b = 1) (hpf : pT g I f hf nf) (hps : pT g I s hs ns) (hd : 8 ≤ d) {y : Int32} (hy : y = nI k)
    (hok : cnt < 80 → 1 + max hf hs ≤ 30 → ∀ g' I' L', MkP g I L cnt k b x nm f s (1 + max hf hs) (kbN k ||| nf ||| ns) g' I' L' → Q (.inl (some (vI (nI cnt)))) g' I' L')
    (hno : ¬ (cnt < 80 ∧ 1 + max hf hs ≤ 30) → ∀ g' I' L', Ext g I L g' I' L' → Q (.inr E2) g' I' L') :
    Ex M d 1 6 Q pc lo [vD s, vD f, vI nm, vI x, vI b, vI y, vD (some g.1), vD (some g.1), vS 1] (g_add g (.inl 7)) (I_add g I) (L_add g L) := by
  subst hy
  have hE : Ext g I L (g_add g (.inl 7)) (I_add g I) (L_add g L) := Ext.add
  have hw1 := ws_ext hw hg hE
  have h7 : (g_add g (.inl 7)).2.1 g.1 = some (.inl 7) := by show up1 g.2.1 g.1 _ g.1 = _; unfold up1; rw [if_pos rfl]
  obtain ⟨f1, f2, f3, f4⟩ := hpf.h
  obtain ⟨s1, s2, s3, s4⟩ := hps.h
  have hpn : ∀ (u : Option Nat) (h n : Nat), pT g I u h n → ∀ i, u = some i → i ≠ g.1 ∧ (g_add g (.inl 7)).2.1 i = some (.inl 7) := by
    intro u h n hu i hi
    subst hi
    obtain ⟨q1, q2, -⟩ := hu
    exact ⟨by omega, by rw [(hE.2 i q1).1]; exact q2⟩
  have hhF : ∀ (u : Option Nat) (h n c : Nat), pT g I u h n → hF (I_add g I) c u = hF I c u := by
    intro u h n c hu
    cases u with
    | none => rfl
    | some i => exact (hE.2 i hu.1).2.2.1 c
  refine Ex_ctor (kc := 1) (ks := 6) (kc' := 0) (ks' := 0) (As := [vI (nI k), vI b, vI x, vI nm, vD f, vD s]) (st := [vD (some g.1), vS 1]) iX8_61 hM rfl (e7_init (d := 1) hw1 hg h7 hk hb (hpn f hf nf hpf) (hpn s hs ns hps) (by omega)) (by omega) rfl d1 ?_
  have hw2 : WS lx ly (tmG (g_add g (.inl 7)) g.1 f s) := ws_of hw1 (fun i hi => ⟨rfl, fun c => (up2_i (by omega)).trans (up2_i (by omega))⟩)
  have hJ : ∀ i c, i ≠ g.1 → tmI (I_add g I) g.1 k b x nm f s i c = I_add g I i c := fun i c hi => by unfold tmI; rw [up2_i hi, up2_i hi, up2_i hi, up2_i hi, up2_i hi, up2_i hi]
  have hJ6 : tmI (I_add g I) g.1 k b x nm f s g.1 6 = nI (1 + max hf hs) := by
    unfold tmI
    rw [up2_k (by omega), up2_s, hhF f hf nf 6 hpf, hhF s hs ns 6 hps, f1, s1, mx_nI f3 s3]
    exact nI_add 1 _
  have hJ7 : tmI (I_add g I) g.1 k b x nm f s g.1 7 = nI (kbN k ||| nf ||| ns) := by
    unfold tmI
    rw [up2_s, hhF f hf nf 7 hpf, hhF s hs ns 7 hps, f2, s2, or_nI16 _ kb_lt _ f4, or_nI16 _ (or_lt16 _ kb_lt _ f4) _ s4]
  have hc1 : tmI (I_add g I) g.1 k b x nm f s 1 5 = nI cnt := by rw [hJ _ _ (by omega), (hE.2 1 (by omega)).2.2.1]; exact hc
  have h1x : (tmG (g_add g (.inl 7)) g.1 f s).2.1 1 = some (.inl 8) := (hw2 1 _ rfl).2.1
  by_cases hz : cnt < 80 ∧ 1 + max hf hs ≤ 30
  · refine Ex_v (kc := 1) (ks := 6) (As := [vD (some g.1)]) (st := []) (d' := 0) vX8_64 hM rfl (e8_keep hw2 hc1 hz.1 h7 (by rw [hJ6]; exact (show nI (1 + max hf hs) ≤ nI 30 from nI_le hz.2 (by omega)))) h1x (by omega) rfl d2 ?_
    refine Ex_ireturn hret d3 (hok hz.1 hz.2 _ _ _ ?_)
    refine ⟨rfl, fun i hi => ⟨(hE.2 i hi).1, fun c hc => ?_, fun c hc => ?_, (hE.2 i hi).2.2.2⟩, h7, up2_s, up2_s, ?_, ?_, ?_, ?_, ?_, ?_, ?_, ?_⟩
    · show up2 (up2 (up2 (g_add g (.inl 7)).2.2 g.1 4 f) g.1 5 s) 2 cnt (some g.1) i c = _
      rw [up2_n (by omega), up2_i (by omega), up2_i (by omega)]
      exact (hE.2 i hi).2.1 c
    · rw [up2_n (by omega), hJ _ _ (by omega)]
      exact (hE.2 i hi).2.2.1 c
    · show up2 (up2 (up2 (g_add g (.inl 7)).2.2 g.1 4 f) g.1 5 s) 2 cnt (some g.1) g.1 4 = _
      rw [up2_i (by omega), up2_k (by omega), up2_s]
    · show up2 (up2 (up2 (g_add g (.inl 7)).2.2 g.1 4 f) g.1 5 s) 2 cnt (some g.1) g.1 5 = _
      rw [up2_i (by omega), up2_s]
    · rw [up2_i (by omega)]; unfold tmI; rw [up2_k (by omega), up2_k (by omega), up2_k (by omega), up2_k (by omega), up2_k (by omega), up2_s]
    · rw [up2_i (by omega)]; unfold tmI; rw [up2_k (by omega), up2_k (by omega), up2_k (by omega), up2_k (by omega), up2_s]
    · rw [up2_i (by omega)]; unfold tmI; rw [up2_k (by omega), up2_k (by omega), up2_k (by omega), up2_s]
    · rw [up2_i (by omega)]; unfold tmI; rw [up2_k (by omega), up2_k (by omega), up2_s]
    · rw [up2_i (by omega)]; exact hJ6
    · rw [up2_i (by omega)]; exact hJ7
  · refine Ex_vT (kc := 0) (ks := 0) (kc' := 0 + 1) (ks' := 0 + 6) (As := [vD (some g.1)]) (st := []) (d' := 6) vX8_64 hM rfl (e8_keepT hw2 hc1 h8 h7 (fun q => hz ⟨q.1, ?_⟩) (by omega)) h1x (by omega) rfl d2 hh ?_
    · have q2 := q.2
      rw [hJ6] at q2
      exact leN (show nI (1 + max hf hs) ≤ nI 30 from q2) (by omega) (by omega)
    · intro m hm
      refine hno hz _ _ _ ⟨?_, fun i hi => ⟨(hE.2 i hi).1, fun c => ?_, fun c => ?_, (hE.2 i hi).2.2.2⟩⟩
      · exact Nat.le_trans hE.1 hm
      · show up2 (up2 (g_add g (.inl 7)).2.2 g.1 4 f) g.1 5 s i c = _
        rw [up2_i (by omega), up2_i (by omega)]
        exact (hE.2 i hi).2.1 c
      · rw [hJ _ _ (by omega)]
        exact (hE.2 i hi).2.2.1 c
end Fin
