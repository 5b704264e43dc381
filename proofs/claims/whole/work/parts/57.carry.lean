/-! the class: a run -/
theorem ws_put {lx ly : Nat} {g : aG} (h : WS lx ly g) : WS lx lx (g.1, g.2.1, up2 g.2.2 3 3 (some lx)) := by
  intro i c hi
  obtain ⟨h1, h2, h3⟩ := h i c hi
  refine ⟨h1, h2, fun k v hv => ?_⟩
  by_cases q : i = 3 ∧ k = 3
  · obtain ⟨rfl, rfl⟩ := q
    have e : v = vD (some lx) := (Option.some.inj hv).symm
    subst e
    show up2 g.2.2 3 3 (some lx) 3 3 = some lx
    exact up2_s
  · have hv2 : (tS lx ly).2 i k = some v := by
      have e : (Nat.beq i 3 && Nat.beq k 3) = false := by
        rcases hb : (Nat.beq i 3 && Nat.beq k 3) with _ | _
        · rfl
        · rw [Bool.and_eq_true] at hb
          exact absurd ⟨Nat.eq_of_beq_eq_true hb.1, Nat.eq_of_beq_eq_true hb.2⟩ q
      have hv' : cond (Nat.beq i 3 && Nat.beq k 3) (some (vD (some lx))) (cond (Nat.beq i 1 && Nat.beq k 6) (some (vD (some lx))) (match rT i k with | some j => some (vS j) | none => none)) = some v := hv
      show cond (Nat.beq i 3 && Nat.beq k 3) (some (vD (some ly))) (cond (Nat.beq i 1 && Nat.beq k 6) (some (vD (some lx))) (match rT i k with | some j => some (vS j) | none => none)) = some v
      rw [e] at hv' ⊢
      exact hv'
    have := h3 k v hv2
    show rfV v (up2 g.2.2 3 3 (some lx) i k)
    rw [up2_n (by omega)]
    exact this
theorem og_put {g : aG} {o lx : Nat} (h : OG g o) : OG (g.1, g.2.1, up2 g.2.2 3 3 (some lx)) o := by
  obtain ⟨h0, h1, h2, h3, h4, ⟨a1, a2, a3, a4⟩, h6⟩ := h
  refine ⟨h0, h1, ?_, ?_, h4, ⟨a1, ?_, a3, a4⟩, fun k hk => ⟨?_, ?_⟩⟩
  · show up2 g.2.2 3 3 (some lx) o 1 = _; rw [up2_i (by omega)]; exact h2
  · show up2 g.2.2 3 3 (some lx) o 2 = _; rw [up2_i (by omega)]; exact h3
  · show up2 g.2.2 3 3 (some lx) (o + 1) 0 = _; rw [up2_i (by omega)]; exact a2
  · show up2 g.2.2 3 3 (some lx) (o + 3) k = _; rw [up2_i (by omega)]; exact (h6 k hk).1
  · obtain ⟨b1, b2, b3, b4⟩ := (h6 k hk).2
    refine ⟨b1, ?_, b3, b4⟩
    show up2 g.2.2 3 3 (some lx) (o + 4 + 2 * k) 0 = _; rw [up2_i (by omega)]; exact b2
theorem tb_put {g : aG} {I : aI} {τ : Nat → Nat} {B : mB} {hg : Nat → Nat} {cnt lx : Nat} (h : Tb g I τ B hg cnt) : Tb (g.1, g.2.1, up2 g.2.2 3 3 (some lx)) I τ B hg cnt := by
  intro t ht
  obtain ⟨h1, h2, h3, h4, h5, h6⟩ := h t ht
  refine ⟨h1, h2, h3, h4, fun a b => ?_, fun a b => ?_⟩
  · obtain ⟨q1, q2, q3⟩ := h5 a b
    refine ⟨q1, q2, ?_⟩
    show up2 g.2.2 3 3 (some lx) (τ t) 4 = _; rw [up2_i (by omega)]; exact q3
  · obtain ⟨q1, q2, q3⟩ := h6 a b
    refine ⟨q1, q2, ?_⟩
    show up2 g.2.2 3 3 (some lx) (τ t) 5 = _; rw [up2_i (by omega)]; exact q3
section Carry
variable {lx ly : Nat} {g : aG} {I : aI} {L : aL} {d lim top t f cnt o : Nat} {p : Nat → Int32} {τ : Nat → Nat} {B : mB} {hg : Nat → Nat} {s : Int32}
theorem e3_clear (hw : WS lx ly g) (ht : I 4 4 = nI top) (h3 : top ≤ 3100) (hs : I 3 4 = s) (hl : I 3 6 = nI lim) (hd : 1 ≤ d) : Mx mX3_clear d 0 0 [vS 3] g I L (rQ g L (fun I' => Frm I I' ∧ Mch I' lim (e0F (I 10) (I 11) (I 12) s) (fun _ => 0) 0)) := by
  have h9 := (hw 9 _ rfl).2.1
  have h4 := (hw 4 _ rfl).2.1
  have hloop : ∀ (m k : Nat) (I1 : aI), k + m = 8 → Frm I I1 → (I1 3 7 = 0 ∧ I1 3 6 = nI lim ∧ I1 3 4 = s ∧ I1 3 5 = 0 ∧ I1 3 8 = 0 ∧ I1 9 3 = 1 ∧ I1 10 = I 10 ∧ I1 11 = I 11 ∧ I1 12 = I 12 ∧ I1 4 4 = 0) → (∀ j, j < k → I1 13 j = 0) →
      Ex mX3_clear d 0 0 (rQ g L (fun I' => Frm I I' ∧ Mch I' lim (e0F (I 10) (I 11) (I 12) s) (fun _ => 0) 0)) 32 [some (vS 3), some (vI (nI k))] [] g I1 L := by
    intro m
    induction m with
    | zero =>
      intro k I1 hk hf hm hn
      have hk8 : k = 8 := by omega
      subst hk8
      refine Ex_wx [51] 9 oX3_clear hw ?_
      refine And.intro (fun _ => ?_) (fun c => absurd (by decide) c)
      refine Ex_wx [] 9 oX3_clear hw ?_
      refine ⟨rfl, rfl, rfl, hf, ?_⟩
      obtain ⟨a1, a2, a3, a4, a5, a6, a7, a8, a9, a10⟩ := hm
      exact ⟨a1, a2, a3, a4, a5, a6, a7, a8, a9, hn, a10⟩
    | succ m ih =>
      intro k I1 hk hf hm hn
      refine Ex_wx [51, 38] 9 oX3_clear hw ?_
      refine And.intro (fun c => absurd (show nI 8 ≤ nI k from c) (nI_ge (by omega) (by omega))) (fun _ => ?_)
      refine Ex_wx [32] 9 oX3_clear hw ?_
      refine And.intro (inN (by omega) (by omega)) ?_
      show Ex mX3_clear d 0 0 _ 32 [some (vS 3), some (vI (nI k + 1))] [] g (up2 I1 13 (nI k).toNatClampNeg 0) L
      rw [clN (by omega), ← nI_succ]
      obtain ⟨a1, a2, a3, a4, a5, a6, a7, a8, a9, a10⟩ := hm
      refine ih (k + 1) _ (by omega) (hf.trans (fun i hi => by funext j; exact up2_i (by omega))) ⟨?_, ?_, ?_, ?_, ?_, ?_, ?_, ?_, ?_, ?_⟩ ?_
      · rw [up2_i (by omega)]; exact a1
      · rw [up2_i (by omega)]; exact a2
      · rw [up2_i (by omega)]; exact a3
      · rw [up2_i (by omega)]; exact a4
      · rw [up2_i (by omega)]; exact a5
      · rw [up2_i (by omega)]; exact a6
      · rw [← a7]; funext j; exact up2_i (by omega)
      · rw [← a8]; funext j; exact up2_i (by omega)
      · rw [← a9]; funext j; exact up2_i (by omega)
      · rw [up2_i (by omega)]; exact a10
      · intro j hj
        by_cases c : j = k
        · subst c; exact up2_s
        · rw [up2_k c]; exact hn j (by omega)
  refine Mx_in (by decide +kernel) rfl rfl (Ex_wx [] 9 oX3_clear hw ?_)
  refine Ex_v (As := []) (st := []) (d' := 0) vX3_74 rfl rfl (e2_clear hw) h9 (by omega) rfl (dc_ok oX3_clear rfl) ?_
  refine Ex_wx [] 9 oX3_clear hw ?_
  refine Ex_v (As := [vI 0]) (st := []) (d' := 0) vX3_75 rfl rfl (e5_cutTo (k := 0) (t := top) hw (by rw [up2_i (by omega), up2_i (by omega), up2_i (by omega), up2_i (by omega)]; exact ht) h3 (Nat.zero_le _)) h4 (by omega) rfl (dc_ok oX3_clear rfl) ?_
  refine Ex_bn 2 oX3_clear hw ?_
  refine hloop 8 0 _ rfl ?_ ⟨?_, ?_, ?_, ?_, ?_, ?_, ?_, ?_, ?_, ?_⟩ (fun j hj => by omega)
  · intro i hi
    funext j
    rw [up2_i (by omega), up2_i (by omega), up2_i (by omega), up2_i (by omega), up2_i (by omega)]
  · rw [up2_i (by omega), up2_i (by omega), up2_k (by omega), up2_k (by omega), up2_s]
  · rw [up2_i (by omega), up2_i (by omega), up2_k (by omega), up2_k (by omega), up2_k (by omega)]; exact hl
  · rw [up2_i (by omega), up2_i (by omega), up2_k (by omega), up2_k (by omega), up2_k (by omega)]; exact hs
  · rw [up2_i (by omega), up2_i (by omega), up2_s]
  · rw [up2_i (by omega), up2_i (by omega), up2_k (by omega), up2_s]
  · rw [up2_i (by omega), up2_s]
  · funext j; rw [up2_i (by omega), up2_i (by omega), up2_i (by omega), up2_i (by omega), up2_i (by omega)]
  · funext j; rw [up2_i (by omega), up2_i (by omega), up2_i (by omega), up2_i (by omega), up2_i (by omega)]
  · funext j; rw [up2_i (by omega), up2_i (by omega), up2_i (by omega), up2_i (by omega), up2_i (by omega)]
  · exact up2_s
def evO (p : Nat → Int32) (B : mB) (lim f t : Nat) (I : aI) (s : Int32) : mO := ev (flF p) B lim f t (fun _ => 0) (e0F (I 10) (I 11) (I 12) s)
def CoP (I : aI) (o : Nat) (p : Nat → Int32) (q : mO) (I' : aI) : Prop := OutC I' o p q ∧ (∃ top, top ≤ 3100 ∧ I' 4 4 = nI top) ∧ ∀ i, i < 3 ∨ 13 < i → ¬ inO o i → I' i = I i
theorem e3_carryOut (hw : WS lx ly g) (hlx : g.2.1 lx = some (.inl 1)) (hl13 : 13 < lx) (hX : LayX I lx p) (hO : OG g o) (hlo : ¬ inO o lx) (hT : Tb g I τ B hg cnt) (ht : t < cnt) (hh : hg t ≤ f) (hf : f ≤ 30) (hlim : lim ≤ 2000) (htop : ∃ top, top ≤ 3100 ∧ I 4 4 = nI top) (hd : 4 * f + 5 ≤ d) :
    Mx mX3_carryOut d 0 0 [vS 3, vD (some (τ t)), vD (some lx), vI s, vI (nI lim), vD (some o)] g I L (rQ (g.1, g.2.1, up2 g.2.2 3 3 (some lx)) L (CoP I o p (evO p B lim f t I s))) := by
  obtain ⟨top, h3, htop⟩ := htop
  have hs3 := (hw 3 _ rfl).2.1
  refine Mx_in (by decide +kernel) rfl rfl (Ex_bn 2 oX3_carryOut hw ?_)
  refine Ex_putR (ci := 3) (k := 3) (fB_ok (by decide +kernel)) (Or.inl rfl) rfl hs3 (by omega) (dc_ok oX3_carryOut rfl) ?_
  have hw1 := ws_put hw
  have hO1 : OG (g.1, g.2.1, up2 g.2.2 3 3 (some lx)) o := og_put hO
  have hT1 : Tb (g.1, g.2.1, up2 g.2.2 3 3 (some lx)) I τ B hg cnt := tb_put hT
  have hlx1 : ((g.1, g.2.1, up2 g.2.2 3 3 (some lx)) : aG).2.1 lx = some (.inl 1) := hlx
  generalize ((g.1, g.2.1, up2 g.2.2 3 3 (some lx)) : aG) = g1 at hw1 hO1 hT1 hlx1 ⊢
  have hs31 := (hw1 3 _ rfl).2.1
  have hs4 := (hw1 4 _ rfl).2.1
  have hC1 : Cm lx lx g1 := ⟨hw1, hlx1, hl13⟩
  refine Ex_wx [] 12 oX3_carryOut hw1 ?_
  have hcl := e3_clear (L := L) (d := 1) (I := up2 (up2 I 3 4 s) 3 6 (nI lim)) (s := s) (lim := lim) hw1 (by rw [up2_i (by omega), up2_i (by omega)]; exact htop) h3 (by rw [up2_k (by omega), up2_s]) up2_s (by omega)
  refine Ex_r (As := []) (st := []) vX3_45 rfl rfl hcl hs31 (by omega) rfl (dc_ok oX3_carryOut rfl) ?_
  rintro I1 ⟨hf1, hm1⟩
  have q10 : up2 (up2 I 3 4 s) 3 6 (nI lim) 10 = I 10 := by funext j; rw [up2_i (by omega), up2_i (by omega)]
  have q11 : up2 (up2 I 3 4 s) 3 6 (nI lim) 11 = I 11 := by funext j; rw [up2_i (by omega), up2_i (by omega)]
  have q12 : up2 (up2 I 3 4 s) 3 6 (nI lim) 12 = I 12 := by funext j; rw [up2_i (by omega), up2_i (by omega)]
  rw [q10, q11, q12] at hm1
  have hF1 : Frm I I1 := Frm.trans (fun i hi => by funext j; rw [up2_i (by omega), up2_i (by omega)]) hf1
  refine Ex_wx [] 9 oX3_carryOut hw1 ?_
  have hx := e3_perform (τ := τ) (B := B) (hg := hg) (cnt := cnt) (F := flF p) (lim := lim) hC1 hlim f t (fun _ => 0) (e0F (I 10) (I 11) (I 12) s) 0 I1 L ht hh (hT1.frm hF1) (hX.1.frm hF1 hl13) hm1 e0_invE (by omega)
  have hok := ev_ok (F := flF p) (B := B) f t (fun _ => 0) (e0F (I 10) (I 11) (I 12) s) (e0_invE (lim := lim))
  have hlg := ev_log (F := flF p) (B := B) hlim f t (fun _ => 0) (e0F (I 10) (I 11) (I 12) s) e0_invE e0_invL
  refine Ex_cV (kc := 0) (ks := 0) (kc' := 0) (ks' := 0) (As := [vD (some (τ t))]) (st := []) vX3_48 rfl rfl hs31 hx (by omega) rfl (dc_ok oX3_carryOut rfl) ?_ (fun E g' I' L' hq => absurd hq pfQ_no)
  show ∀ v g' I' L', pfQ (evO p B lim f t I s) g1 I1 L lim (fun _ => 0) 0 (.inl v) g' I' L' → _
  change okO lim (evO p B lim f t I s) at hok
  change okL _ (evO p B lim f t I s) at hlg
  generalize evO p B lim f t I s = q at hok hlg
  rintro w g2 I2 L2 ⟨rfl, rfl, hf2, ho⟩
  have hF2 := hF1.trans hf2
  have hX2 : LayX I2 lx p := hX.eq (hF2 lx (Or.inr hl13))
  obtain ⟨o0, o1, o2⟩ := id hO1
  have hend : ∀ (I3 : aI), I3 = up2 I2 o 0 (ansO q) → (∃ top, top ≤ 3100 ∧ I2 4 4 = nI top) → (∀ i, i < 3 ∨ 13 < i → ¬ inO o i → I3 i = I i) ∧ ∃ top, top ≤ 3100 ∧ I3 4 4 = nI top := by
    rintro I3 rfl ⟨tp, h1, h2⟩
    refine ⟨fun i hi hn => ?_, tp, h1, by rw [up2_i (by omega)]; exact h2⟩
    rw [← hF2 i hi]
    funext j
    exact up2_i (by unfold inO at hn; omega)
  rcases ho with ⟨h0, e1, hm, hrw, -⟩ | ⟨h0, e1, ⟨tp, -, htp, hm⟩, -⟩ | ⟨h0, e1, tp, htp, hm⟩
  · cases e1
    refine Ex_wx [44, 34] 9 oX3_carryOut hw1 ?_
    refine And.intro (fun _ => ?_) (fun c => absurd rfl c)
    refine Ex_wx [] 9 oX3_carryOut hw1 ?_
    refine Ex_v (As := []) (st := [vD (some o)]) (d' := 0) vX3_52 rfl rfl (e5_size hw1) hs4 (by omega) rfl (dc_ok oX3_carryOut rfl) ?_
    have hA : I2 4 4 = ansO q := by
      rw [hm.2.2.2.2.2.2.2.2.2.2]; unfold ansO; rw [if_pos h0, Nat.zero_add]
    rw [hA]
    have h50 := hok.2.2 h0
    refine Ex_wx [46] 9 oX3_carryOut hw1 ?_
    refine Ex_wx [62, 56] 9 oX3_carryOut hw1 ?_
    refine And.intro ⟨o1, by omega, trivial⟩ ?_
    refine And.intro (fun c => absurd c (by decide)) (fun _ => ?_)
    refine Ex_wx [] 9 oX3_carryOut hw1 ?_
    obtain ⟨w1, tp1, w2, w3⟩ := hend _ rfl ⟨_, by omega, hm.2.2.2.2.2.2.2.2.2.2⟩
    generalize hI3 : up2 I2 o 0 (ansO q) = I3 at w1 w3
    have hfr : ∀ i, i < 14 → I3 i = I2 i := fun i hi => by rw [← hI3]; funext j; exact up2_i (by omega)
    have hM3 : Mch I3 lim q.2.2 (fun _ => 0) (0 + q.2.1.length) := by
      unfold Mch at hm ⊢
      rw [hfr 3 (by omega), hfr 9 (by omega), hfr 10 (by omega), hfr 11 (by omega), hfr 12 (by omega), hfr 13 (by omega), hfr 4 (by omega)]
      exact hm
    have hrw3 : Rows I3 0 q.2.1 := by
      intro j r hj
      have := hrw j r hj
      unfold resAt at this ⊢
      rw [hfr 5 (by omega), hfr 6 (by omega), hfr 7 (by omega), hfr 8 (by omega)]
      exact this
    have hY := e3_tell (L := L2) (d := 4) (q := q) (o := o) hC1 (hX2.eq (by rw [← hI3]; funext j; exact up2_i (fun c => hlo (by unfold inO; omega)))) hO1 hlo hM3 (by omega) hok.2.1 hlg.1 hlim (Or.inl ⟨h0, by omega, by omega, hrw3, hlg.2.2⟩) (by rw [← hI3]; exact up2_s) (by omega)
    refine Ex_r (As := [vD (some o)]) (st := []) vX3_61 rfl rfl hY hs31 (by omega) rfl (dc_ok oX3_carryOut rfl) ?_
    rintro I4 ⟨hP, hPf⟩
    refine Ex_wx [] 9 oX3_carryOut hw1 ?_
    refine ⟨rfl, rfl, rfl, hP, ⟨tp1, w2, by rw [hPf 4 (by unfold inO; omega)]; exact w3⟩, fun i hi hn => by rw [hPf i hn]; exact w1 i hi hn⟩
  · cases e1
    have hA : ansO q = -2 := by unfold ansO; rw [if_neg (by omega), if_pos h0]
    refine Ex_wx [44, 34] 9 oX3_carryOut hw1 ?_
    refine And.intro (fun c => absurd c (by decide)) (fun _ => ?_)
    refine Ex_bn 1 oX3_carryOut hw1 ?_
    rw [← hA]
    refine Ex_wx [62, 56] 9 oX3_carryOut hw1 ?_
    refine And.intro ⟨o1, by omega, trivial⟩ ?_
    refine And.intro (fun c => absurd c (by rw [hA]; decide)) (fun _ => ?_)
    refine Ex_wx [] 9 oX3_carryOut hw1 ?_
    obtain ⟨w1, tp1, w2, w3⟩ := hend _ rfl ⟨_, htp, hm.2.2.2.2.2.2.2.2.2.2⟩
    generalize hI3 : up2 I2 o 0 (ansO q) = I3 at w1 w3
    have hfr : ∀ i, i < 14 → I3 i = I2 i := fun i hi => by rw [← hI3]; funext j; exact up2_i (by omega)
    have hM3 : Mch I3 lim q.2.2 (fun _ => 0) tp := by
      unfold Mch at hm ⊢
      rw [hfr 3 (by omega), hfr 9 (by omega), hfr 10 (by omega), hfr 11 (by omega), hfr 12 (by omega), hfr 13 (by omega), hfr 4 (by omega)]
      exact hm
    have hY := e3_tell (L := L2) (d := 4) (q := q) (o := o) hC1 (hX2.eq (by rw [← hI3]; funext j; exact up2_i (fun c => hlo (by unfold inO; omega)))) hO1 hlo hM3 htp hok.2.1 hlg.1 hlim (Or.inr h0) (by rw [← hI3]; exact up2_s) (by omega)
    refine Ex_r (As := [vD (some o)]) (st := []) vX3_61 rfl rfl hY hs31 (by omega) rfl (dc_ok oX3_carryOut rfl) ?_
    rintro I4 ⟨hP, hPf⟩
    refine Ex_wx [] 9 oX3_carryOut hw1 ?_
    refine ⟨rfl, rfl, rfl, hP, ⟨tp1, w2, by rw [hPf 4 (by unfold inO; omega)]; exact w3⟩, fun i hi hn => by rw [hPf i hn]; exact w1 i hi hn⟩
  · cases e1
    have hA : ansO q = -3 := by unfold ansO; rw [if_neg (by omega), if_neg (by omega)]
    refine Ex_wx [44, 34] 9 oX3_carryOut hw1 ?_
    refine And.intro (fun c => absurd c (by decide)) (fun _ => ?_)
    refine Ex_wx [62, 56] 9 oX3_carryOut hw1 ?_
    refine And.intro ⟨o1, by omega, trivial⟩ ?_
    refine And.intro (fun _ => ?_) (fun c => absurd rfl c)
    refine Ex_wx [] 9 oX3_carryOut hw1 ?_
    obtain ⟨w1, tp1, w2, w3⟩ := hend (up2 I2 o 0 (-3)) (by rw [hA]) ⟨tp, htp, hm⟩
    refine ⟨rfl, rfl, rfl, ⟨by rw [hA]; exact up2_s, fun c => absurd h0 c, fun c => by omega⟩, ⟨tp1, w2, w3⟩, w1⟩
end Carry
