/-! what stands between two calls: the class -/
abbrev aRw : Type := Nat × (Nat → Int32)
abbrev aLa : Type := Option ((Nat → Int32) × mO)
def lay4 (a b c d : Bool) : Nat := (if a = true then 1 else 0) + (if b = true then 2 else 0) + (if c = true then 4 else 0) + (if d = true then 8 else 0)
def layN (p : Nat → Int32) : Nat := lay4 (hsF p 0) (hsF p 1) (hsF p 2) (hsF p 3)
def lkP (p : Nat → Int32) (n : Nat) : Prop := ∀ l, l < 4 → n.testBit l = true → hsF p l = true
theorem lay4_bit : ∀ a b c d : Bool, lay4 a b c d < 16 ∧ (lay4 a b c d).testBit 0 = a ∧ (lay4 a b c d).testBit 1 = b ∧ (lay4 a b c d).testBit 2 = c ∧ (lay4 a b c d).testBit 3 = d := by decide +kernel
theorem lay_bit {p : Nat → Int32} : layN p < 16 ∧ ∀ l, l < 4 → ((layN p).testBit l = hsF p l) := by
  obtain ⟨h1, h2, h3, h4, h5⟩ := lay4_bit (hsF p 0) (hsF p 1) (hsF p 2) (hsF p 3)
  refine ⟨h1, fun l hl => ?_⟩
  match l, hl with
  | 0, _ => exact h2
  | 1, _ => exact h3
  | 2, _ => exact h4
  | 3, _ => exact h5
theorem lk16 : ∀ n, n < 16 → ∀ m, m < 16 → ((nI n &&& (nI m ^^^ (-1)) = 0) ↔ ∀ l, l < 4 → n.testBit l = true → m.testBit l = true) := by decide +kernel
theorem lk_iff {p : Nat → Int32} {n : Nat} (hn : n < 16) : (nI n &&& (nI (layN p) ^^^ (-1)) = 0) ↔ lkP p n := by
  rw [lk16 n hn (layN p) lay_bit.1]
  exact ⟨fun h l hl hb => by rw [← lay_bit.2 l hl]; exact h l hl hb, fun h l hl hb => by rw [lay_bit.2 l hl]; exact h l hl hb⟩
def evA (p : Nat → Int32) (B : mB) (lim t : Nat) (s : Int32) (W : (Nat → Int32) × (Nat → Int32) × (Nat → Int32)) : mO := ev (flF p) B lim 30 t (fun _ => 0) (e0F W.1 W.2.1 W.2.2 s)
def InvC (lx ly : Nat) (g : aG) (I : aI) (τ : Nat → Nat) (B : mB) (hg nd : Nat → Nat) (cnt : Nat) (p : Nat → Int32) : Prop :=
  MC lx ly g I τ hg nd cnt ∧ Tb g I τ B hg cnt ∧ (∀ t, t < cnt → 372 ≤ τ t) ∧ (g.2.1 lx = some (.inl 1) ∧ (lx = 327 ∨ 372 ≤ lx) ∧ lx < g.1 ∧ LayX I lx p ∧ I lx 0 = nI (layN p)) ∧ (OG g 15 ∧ OG g 119 ∧ OG g 223) ∧ ∃ top, top ≤ 3100 ∧ I 4 4 = nI top
def rowA (la : aLa) (k : Int32) : Option aRw := match la with
  | none => none
  | some a => if a.2.1 = 0 ∧ 0 ≤ k then (a.2.2.1[k.toNatClampNeg]?).map (resG a.1 a.2.2.2) else none
def comA (la : aLa) : Option aRw := match la with
  | none => none
  | some a => if a.2.1 = 2 then none else some (comO a.1 a.2)
def okA (la : aLa) : Prop := match la with
  | none => True
  | some a => a.2.1 ≤ 2 ∧ (a.2.1 = 0 → a.2.2.1.length ≤ 50)
def LaC (I : aI) (la : aLa) : Prop := match la with
  | none => I 15 0 = -3
  | some a => OutC I 15 a.1 a.2
def LaR (I : aI) (la : aLa) : Prop := match la with
  | none => I 328 45 = 0
  | some a => I 328 45 = 1 ∧ KeptR I 0 a.1 a.2
def tlP (R : aRw) (x : Int32) : Prop := 0 ≤ x ∧ x < nI (5 + R.1)
theorem OG.ext {g g' : aG} {I I' : aI} {L L' : aL} {o : Nat} (h : OG g o) (ho : o + 104 ≤ g.1) (q : Ext g I L g' I' L') : OG g' o := by
  obtain ⟨h0, h1, h2, h3, h4, ⟨a1, a2, a3, a4⟩, h6⟩ := h
  refine ⟨h0, ?_, ?_, ?_, ?_, ⟨?_, ?_, ?_, a4⟩, fun k hk => ?_⟩
  · rw [(q.2 o (by omega)).1]; exact h1
  · rw [(q.2 o (by omega)).2.1]; exact h2
  · rw [(q.2 o (by omega)).2.1]; exact h3
  · rw [(q.2 (o + 3) (by omega)).1]; exact h4
  · rw [(q.2 (o + 1) (by omega)).1]; exact a1
  · rw [(q.2 (o + 1) (by omega)).2.1]; exact a2
  · rw [(q.2 (o + 2) (by omega)).1]; exact a3
  · obtain ⟨b0, b1, b2, b3, b4⟩ := h6 k hk
    refine ⟨?_, ?_, ?_, ?_, b4⟩
    · rw [(q.2 (o + 3) (by omega)).2.1]; exact b0
    · rw [(q.2 (o + 4 + 2 * k) (by omega)).1]; exact b1
    · rw [(q.2 (o + 4 + 2 * k) (by omega)).2.1]; exact b2
    · rw [(q.2 (o + 5 + 2 * k) (by omega)).1]; exact b3
theorem pT.ext {g g' : aG} {I I' : aI} {L L' : aL} {f : Option Nat} {h n : Nat} (p : pT g I f h n) (q : Ext g I L g' I' L') : pT g' I' f h n := by
  cases f with
  | none => exact p
  | some i =>
    obtain ⟨p1, p2, p3, p4, p5, p6⟩ := p
    obtain ⟨q1, q2, q3, q4⟩ := q.2 i p1
    exact ⟨Nat.lt_of_lt_of_le p1 q.1, q1.trans p2, (q3 6).trans p3, (q3 7).trans p4, p5, p6⟩
theorem Tb.ext {g g' : aG} {I I' : aI} {L L' : aL} {τ : Nat → Nat} {B : mB} {hg : Nat → Nat} {cnt : Nat} (h : Tb g I τ B hg cnt) (ht : ∀ t, t < cnt → τ t < g.1) (q : Ext g I L g' I' L') : Tb g' I' τ B hg cnt := by
  intro t htc
  obtain ⟨h1, h2, ⟨h3, h4, h5, h6, h7⟩, h8, h9, h10⟩ := h t htc
  obtain ⟨q1, q2, q3, q4⟩ := q.2 (τ t) (ht t htc)
  refine ⟨h1, q1.trans h2, ⟨(q3 0).trans h3, h4, (q3 1).trans h5, (q3 2).trans h6, (q3 3).trans h7⟩, h8, fun a b => ?_, fun a b => ?_⟩
  · obtain ⟨z1, z2, z3⟩ := h9 a b
    exact ⟨z1, z2, (q2 4).trans z3⟩
  · obtain ⟨z1, z2, z3⟩ := h10 a b
    exact ⟨z1, z2, (q2 5).trans z3⟩
theorem MC.lt {lx ly : Nat} {g : aG} {I : aI} {τ hg nd : Nat → Nat} {cnt : Nat} (h : MC lx ly g I τ hg nd cnt) : ∀ t, t < cnt → τ t < g.1 := fun t ht => (h.2.2.2.2 t ht).2.1
theorem InvC.ext {lx ly : Nat} {g g' : aG} {I I' : aI} {L L' : aL} {τ : Nat → Nat} {B : mB} {hg nd : Nat → Nat} {cnt : Nat} {p : Nat → Int32} (h : InvC lx ly g I τ B hg nd cnt p) (q : Ext g I L g' I' L') : InvC lx ly g' I' τ B hg nd cnt p := by
  obtain ⟨hm, ht, hτ, ⟨x1, x2, x3, x4, x5⟩, ⟨o1, o2, o3⟩, top, t1, t2⟩ := h
  obtain ⟨hw, hg1, hc, h8, hT⟩ := id hm
  have qx : I' lx = I lx := by funext k; exact (q.2 lx x3).2.2.1 k
  refine ⟨⟨ws_ext hw hg1 q, Nat.le_trans hg1 q.1, ?_, h8, fun t htc => ⟨?_, ?_⟩⟩, ht.ext hm.lt q, hτ, ⟨?_, x2, Nat.lt_of_lt_of_le x3 q.1, x4.eq qx, by rw [qx]; exact x5⟩, ⟨o1.ext (by omega) q, o2.ext (by omega) q, o3.ext (by omega) q⟩, top, t1, ?_⟩
  · rw [(q.2 1 (by omega)).2.2.1]; exact hc
  · rw [(q.2 2 (by omega)).2.1]; exact (hT t htc).1
  · exact (hT t htc).2.ext q
  · rw [(q.2 lx x3).1]; exact x1
  · rw [(q.2 4 (by omega)).2.2.1]; exact t2
theorem OutC.eq {I I' : aI} {o : Nat} {p : Nat → Int32} {q : mO} (h : OutC I o p q) (a : ∀ i, inO o i → I' i = I i) (h50 : q.1 = 0 → q.2.1.length ≤ 50) : OutC I' o p q := by
  obtain ⟨h1, h2, h3⟩ := h
  refine ⟨by rw [a o (by unfold inO; omega)]; exact h1, fun c => (h2 c).eq (a _ (by unfold inO; omega)), fun c k r hk => (h3 c k r hk).eq (a _ ?_)⟩
  have := (List.getElem?_eq_some_iff.mp hk).1
  have := h50 c
  unfold inO; omega
theorem LaC.eq {I I' : aI} {la : aLa} (h : LaC I la) (ho : okA la) (a : ∀ i, inO 15 i → I' i = I i) : LaC I' la := by
  cases la with
  | none => show I' 15 0 = -3; rw [a 15 (by unfold inO; omega)]; exact h
  | some z => exact OutC.eq h a ho.2
theorem LaR.eq {I I' : aI} {la : aLa} (h : LaR I la) (ho : okA la) (hl : ∀ (R : aRw) (k : Int32), (rowA la k = some R ∨ comA la = some R) → R.1 ≤ 60) (a : ∀ i k, (i = 328 ∧ k = 45) ∨ kf 1 i k ∧ 353 < i → I' i k = I i k) : LaR I' la := by
  cases la with
  | none => show I' 328 45 = 0; rw [a 328 45 (Or.inl ⟨rfl, rfl⟩)]; exact h
  | some z =>
    obtain ⟨h0, h1, h2, h3, h4⟩ := h
    have b : ∀ i k, kf 1 i k → 353 < i → I' i k = I i k := fun i k c d => a i k (Or.inr ⟨c, d⟩)
    refine ⟨by rw [a 328 45 (Or.inl ⟨rfl, rfl⟩)]; exact h0, by rw [b _ _ (by unfold kf; omega) (by omega)]; exact h1, by rw [b _ _ (by unfold kf; omega) (by omega)]; exact h2, fun c => ?_, fun c k r hk => ?_⟩
    · obtain ⟨c1, c2⟩ := h3 c
      have h60 : (comO z.1 z.2).1 ≤ 60 := hl _ 0 (Or.inr (by show (if z.2.1 = 2 then none else some (comO z.1 z.2)) = _; rw [if_neg c]))
      refine ⟨fun i hi => ?_, fun i hi => ?_⟩
      · rw [b _ _ (by unfold kf; omega) (by omega)]; exact c1 i hi
      · rw [b _ _ (by unfold kf; omega) (by omega)]; exact c2 i hi
    · obtain ⟨c1, c2, c3, c4, c5, c6⟩ := h4 c k r hk
      have hk2 := (List.getElem?_eq_some_iff.mp hk).1
      have h50 := ho.2 c
      have h60 : (resG z.1 z.2.2.2 r).1 ≤ 60 := hl _ (nI k) (Or.inl (by
        show (if z.2.1 = 0 ∧ 0 ≤ nI k then _ else none) = _
        rw [if_pos ⟨c, nI_pos' (by omega)⟩, clN (by omega), hk]; rfl))
      refine ⟨?_, ?_, ?_, ?_, ?_, fun i hi => ?_⟩
      · rw [b _ _ (by unfold kf; omega) (by omega)]; exact c1
      · rw [b _ _ (by unfold kf; omega) (by omega)]; exact c2
      · rw [b _ _ (by unfold kf; omega) (by omega)]; exact c3
      · rw [b _ _ (by unfold kf; omega) (by omega)]; exact c4
      · rw [b _ _ (by unfold kf; omega) (by omega)]; exact c5
      · rw [b _ _ (by unfold kf; omega) (by omega)]; exact c6 i hi
theorem LaC.rows {I : aI} {la : aLa} (h : LaC I la) : ∀ (R : aRw) (k : Int32), (rowA la k = some R ∨ comA la = some R) → LenOk (R.2 4) R.1 ∧ R.1 ≤ 60 := by
  intro R k hR
  cases la with
  | none => rcases hR with hR | hR <;> cases hR
  | some z =>
    obtain ⟨h1, h2, h3⟩ := h
    rcases hR with hR | hR
    · have hR' : (if z.2.1 = 0 ∧ 0 ≤ k then (z.2.2.1[k.toNatClampNeg]?).map (resG z.1 z.2.2.2) else none) = some R := hR
      by_cases c : z.2.1 = 0 ∧ 0 ≤ k
      · rw [if_pos c] at hR'
        obtain ⟨r, e1, e2⟩ := Option.map_eq_some_iff.mp hR'
        have h9 := h3 c.1 _ r e1
        rw [e2] at h9
        exact ⟨h9.1, h9.1.max.2⟩
      · rw [if_neg c] at hR'; cases hR'
    · have hR' : (if z.2.1 = 2 then none else some (comO z.1 z.2)) = some R := hR
      by_cases c : z.2.1 = 2
      · rw [if_pos c] at hR'; cases hR'
      · rw [if_neg c] at hR'
        have h9 := h2 c
        cases hR'
        exact ⟨h9.1, h9.1.max.2⟩
theorem InvC.run {lx ly o : Nat} {g : aG} {I I' : aI} {τ : Nat → Nat} {B : mB} {hg nd : Nat → Nat} {cnt : Nat} {p : Nat → Int32} {q : mO} (h : InvC lx ly g I τ B hg nd cnt p) (ho : o = 15 ∨ o = 119 ∨ o = 223) (c : CoP I o p q I') : InvC lx lx (g.1, g.2.1, up2 g.2.2 3 3 (some lx)) I' τ B hg nd cnt p := by
  obtain ⟨hm, ht, hτ, ⟨x1, x2, x3, x4, x5⟩, ⟨o1, o2, o3⟩, -⟩ := h
  obtain ⟨hw, hg1, hc, h8, hT⟩ := id hm
  obtain ⟨-, ctop, cf⟩ := c
  have fr : ∀ i, (i < 3 ∨ i = 327 ∨ 372 ≤ i) → I' i = I i := fun i hi => cf i (by omega) (by unfold inO; omega)
  have ht1 : Tb (g.1, g.2.1, up2 g.2.2 3 3 (some lx)) I τ B hg cnt := tb_put ht
  refine ⟨⟨ws_put hw, hg1, by rw [fr 1 (by omega)]; exact hc, h8, fun t htc => ⟨?_, ?_⟩⟩, ?_, hτ, ⟨x1, x2, x3, x4.eq (fr lx (by omega)), by rw [fr lx (by omega)]; exact x5⟩, ⟨og_put o1, og_put o2, og_put o3⟩, ctop⟩
  · show up2 g.2.2 3 3 (some lx) 2 t = _
    rw [up2_i (by omega)]; exact (hT t htc).1
  · obtain ⟨p1, p2, p3, p4, p5, p6⟩ := (hT t htc).2
    have e := fr (τ t) (by have := hτ t htc; omega)
    exact ⟨p1, p2, by rw [e]; exact p3, by rw [e]; exact p4, p5, p6⟩
  · intro t htc
    have e := fr (τ t) (by have := hτ t htc; omega)
    have h9 := ht1 t htc
    rw [e]
    exact h9
