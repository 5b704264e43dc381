/-! the class, as the law calls it -/
abbrev aB : Type := Nat × Int32 × Int32 × Int32 × Nat × Nat
abbrev aA : Type := mB × (Nat → Nat) × (Nat → Nat) × Nat × (Nat → Int32) × aLa
abbrev aA.B (A : aA) : mB := A.1
abbrev aA.hg (A : aA) : Nat → Nat := A.2.1
abbrev aA.nd (A : aA) : Nat → Nat := A.2.2.1
abbrev aA.cnt (A : aA) : Nat := A.2.2.2.1
abbrev aA.p (A : aA) : Nat → Int32 := A.2.2.2.2.1
abbrev aA.la (A : aA) : aLa := A.2.2.2.2.2
def SC (A : aA) (g : aG) (I : aI) : Prop := ∃ lx ly τ, InvC lx ly g I τ A.B A.hg A.nd A.cnt A.p ∧ LaC I A.la
def mkS (A : aA) (b : aB) (h n : Nat) : aA := (up1 A.B A.cnt b, up1 A.hg A.cnt h, up1 A.nd A.cnt n, A.cnt + 1, A.p, A.la)
def laS (A : aA) (la : aLa) : aA := (A.B, A.hg, A.nd, A.cnt, A.p, la)
def FrC (g : aG) (I : aI) (g' : aG) (I' : aI) : Prop := (∀ i, i = 0 ∨ (328 ≤ i ∧ i ≤ 370) → I' i = I i) ∧ g'.2.1 0 = g.2.1 0
def cQ (REL : Int32 → Int32 → aA → Prop) (g : aG) (I : aI) : aQ := fun o g' I' L' => ∃ code val A', o = .inl (some (vI code)) ∧ REL code val A' ∧ SC A' g' I' ∧ FrC g I g' I' ∧ (code = 0 → L' 371 = val.toInt64)
def mkA (c1 c3 c2 : Int32) (C1 C3 C2 : Prop) (A : aA) (b : aB) (h n : Nat) : Int32 → Int32 → aA → Prop := fun code val A' => val = nI A.cnt ∧
  ((code = 0 ∧ ¬ C1 ∧ ¬ C3 ∧ ¬ C2 ∧ A' = mkS A b h n) ∨ (code = c1 ∧ C1 ∧ A' = A) ∨ (code = c3 ∧ ¬ C1 ∧ C3 ∧ A' = A) ∨ (code = c2 ∧ ¬ C1 ∧ ¬ C3 ∧ C2 ∧ A' = A))
theorem Ext.frC {g g' : aG} {I I' : aI} {L L' : aL} (hg : 372 ≤ g.1) (q : Ext g I L g' I' L') : FrC g I g' I' := ⟨fun i hi => by funext k; exact (q.2 i (by omega)).2.2.1 k, (q.2 0 (by omega)).1⟩
theorem SC.ext {A : aA} {g g' : aG} {I I' : aI} {L L' : aL} (h : SC A g I) (ho : okA A.la) (q : Ext g I L g' I' L') : SC A g' I' ∧ FrC g I g' I' := by
  obtain ⟨lx, ly, τ, hI, hl⟩ := h
  have hg := hI.1.2.1
  exact ⟨⟨lx, ly, τ, hI.ext q, hl.eq ho (fun i hi => by funext k; exact (q.2 i (by unfold inO at hi; omega)).2.2.1 k)⟩, q.frC hg⟩
section LM
variable {lx ly : Nat} {g : aG} {I : aI} {L : aL} {d : Nat} {τ : Nat → Nat} {A : aA} {M : aM} {av : List aV} {c1 c3 c2 : Int32} {C1 C3 C2 : Prop} {k a b2 h n : Nat} {b x nm : Int32} {f s : Option Nat}
theorem lm_c (hI : InvC lx ly g I τ A.B A.hg A.nd A.cnt A.p) (hl : LaC I A.la) (ho : okA A.la) (e1 : C1 → c1 ≠ 0) (e3 : C3 → c3 ≠ 0) (e2 : C2 → c2 ≠ 0) (hM : Mx M d 2 14 av g I L (lmQ c1 c3 c2 C1 C3 C2 g I L A.cnt k b x nm f s h n))
    (hc : ¬ C1 → ¬ C3 → ¬ C2 → A.cnt < 80 ∧ k ≤ 18 ∧ (1 ≤ h ∧ h ≤ 30) ∧ n < 16 ∧ (6 ≤ k → k ≤ 13 → a < A.cnt ∧ A.hg a < h ∧ f = some (τ a)) ∧ (6 ≤ k → k ≤ 9 → b2 < A.cnt ∧ A.hg b2 < h ∧ s = some (τ b2))) :
    Mx M d 2 14 av g I L (cQ (mkA c1 c3 c2 C1 C3 C2 A (k, b, x, nm, a, b2) h n) g I) := by
  have hg1 := hI.1.2.1
  refine Mx_mono (fun o g' I' L' hq => ?_) hM
  rcases hq with ⟨e, a1, a2, a3, hL, L1, hP, -⟩ | ⟨e, a1, hE⟩ | ⟨e, a1, a2, hE⟩ | ⟨e, a1, a2, a3, hE⟩
  · obtain ⟨z1, z2, z3, z4, z5, z6⟩ := hc a1 a2 a3
    refine ⟨0, nI A.cnt, _, e, ⟨rfl, Or.inl ⟨rfl, a1, a2, a3, rfl⟩⟩, ⟨lx, ly, _, hI.mk hP z1 z2 z3 z4 z5 z6, ?_⟩, ⟨fun i hi => ?_, ?_⟩, fun _ => hL⟩
    · exact hl.eq ho (fun i hi => by funext c; exact (hP.2.1 i (by unfold inO at hi; omega)).2.2.1 c (by unfold inO at hi; omega))
    · funext c; exact (hP.2.1 i (by omega)).2.2.1 c (by omega)
    · exact (hP.2.1 0 (by omega)).1
  · obtain ⟨s1, s2⟩ := SC.ext ⟨lx, ly, τ, hI, hl⟩ ho hE
    exact ⟨c1, nI A.cnt, A, e, ⟨rfl, Or.inr (Or.inl ⟨rfl, a1, rfl⟩)⟩, s1, s2, fun c => absurd c (e1 a1)⟩
  · obtain ⟨s1, s2⟩ := SC.ext ⟨lx, ly, τ, hI, hl⟩ ho hE
    exact ⟨c3, nI A.cnt, A, e, ⟨rfl, Or.inr (Or.inr (Or.inl ⟨rfl, a1, a2, rfl⟩))⟩, s1, s2, fun c => absurd c (e3 a2)⟩
  · obtain ⟨s1, s2⟩ := SC.ext ⟨lx, ly, τ, hI, hl⟩ ho hE
    exact ⟨c2, nI A.cnt, A, e, ⟨rfl, Or.inr (Or.inr (Or.inr ⟨rfl, a1, a2, a3, rfl⟩))⟩, s1, s2, fun c => absurd c (e2 a3)⟩
end LM
section CL
variable {g : aG} {I : aI} {L : aL} {d : Nat} {A : aA} {b x y z s : Int32}
theorem n16 {k a c : Nat} (ha : a < 16) (hc : c < 16) : kbN k ||| a ||| c < 16 := or_lt16 _ (or_lt16 _ kb_lt _ ha) _ hc
theorem c_give (hS : SC A g I) (ho : okA A.la) (hb : b = 0 ∨ b = 1) (hd : 11 ≤ d) : Mx mL_give d 2 14 [vS 1, vI b, vI x, vS 371] g I L (cQ (mkA 1 0 2 (¬ (b = 0 ∨ nmP x)) False (¬ (A.cnt < 80 ∧ 1 + max 0 0 ≤ 30)) A (0, b, x, (-1), 0, 0) (1 + max 0 0) (kbN 0 ||| 0 ||| 0)) g I) := by
  obtain ⟨lx, ly, τ, hI, hl⟩ := hS
  refine lm_c hI hl ho (fun _ => by decide) (fun c => c.elim) (fun _ => by decide) (l_give (τ := τ) (hg := A.hg) (nd := A.nd) hI.1 hb hd) ?_
  · intro a1 a2 a3
    have a4 := (Decidable.of_not_not a3).1
    exact ⟨a4, by omega, ⟨by decide, by decide⟩, n16 (by omega) (by omega), fun c => by omega, fun c => by omega⟩
theorem c_of (hS : SC A g I) (ho : okA A.la) (hd : 11 ≤ d) : Mx mL_of d 2 14 [vS 1, vI x, vI y, vI z, vS 371] g I L (cQ (mkA 1 2 3 (¬ (nmP x ∧ nmP y)) (¬ (0 ≤ z ∧ z < 5)) (¬ (A.cnt < 80 ∧ 1 + max 0 0 ≤ 30)) A (14 + z.toNatClampNeg, 1, x, y, 0, 0) (1 + max 0 0) (kbN (14 + z.toNatClampNeg) ||| 0 ||| 0)) g I) := by
  obtain ⟨lx, ly, τ, hI, hl⟩ := hS
  refine lm_c hI hl ho (fun _ => by decide) (fun _ => by decide) (fun _ => by decide) (l_of (τ := τ) (hg := A.hg) (nd := A.nd) hI.1 hd) ?_
  · intro a1 a2 a3
    have a4 := (Decidable.of_not_not a3).1
    have hz : 0 ≤ z ∧ z < 5 := Decidable.of_not_not a2
    obtain ⟨j, hj, ej⟩ := tmP.idx (cnt := 5) ⟨hz.1, hz.2⟩ (by omega)
    have hj2 : z.toNatClampNeg = j := by rw [ej]; exact clN (by omega)
    exact ⟨a4, by omega, ⟨by decide, by decide⟩, n16 (by omega) (by omega), fun c => by omega, fun c => by omega⟩
theorem c_read (hS : SC A g I) (ho : okA A.la) (hd : 11 ≤ d) : Mx mL_read d 2 14 [vS 1, vS 371] g I L (cQ (mkA 0 0 1 (¬ ((0 : Int32) = 0 ∨ nmP 0)) False (¬ (A.cnt < 80 ∧ 1 + max 0 0 ≤ 30)) A (1, 0, 0, (-1), 0, 0) (1 + max 0 0) (kbN 1 ||| 0 ||| 0)) g I) := by
  obtain ⟨lx, ly, τ, hI, hl⟩ := hS
  refine lm_c hI hl ho (fun c => absurd (Or.inl rfl) c) (fun c => c.elim) (fun _ => by decide) (l_read (τ := τ) (hg := A.hg) (nd := A.nd) hI.1 hd) ?_
  · intro a1 a2 a3
    have a4 := (Decidable.of_not_not a3).1
    exact ⟨a4, by omega, ⟨by decide, by decide⟩, n16 (by omega) (by omega), fun c => by omega, fun c => by omega⟩
theorem c_write (hS : SC A g I) (ho : okA A.la) (hb : b = 0 ∨ b = 1) (hd : 11 ≤ d) : Mx mL_write d 2 14 [vS 1, vI b, vI x, vS 371] g I L (cQ (mkA 1 0 2 (¬ (b = 0 ∨ nmP x)) False (¬ (A.cnt < 80 ∧ 1 + max 0 0 ≤ 30)) A (2, b, x, (-1), 0, 0) (1 + max 0 0) (kbN 2 ||| 0 ||| 0)) g I) := by
  obtain ⟨lx, ly, τ, hI, hl⟩ := hS
  refine lm_c hI hl ho (fun _ => by decide) (fun c => c.elim) (fun _ => by decide) (l_write (τ := τ) (hg := A.hg) (nd := A.nd) hI.1 hb hd) ?_
  · intro a1 a2 a3
    have a4 := (Decidable.of_not_not a3).1
    exact ⟨a4, by omega, ⟨by decide, by decide⟩, n16 (by omega) (by omega), fun c => by omega, fun c => by omega⟩
theorem c_say (hS : SC A g I) (ho : okA A.la) (hb : b = 0 ∨ b = 1) (hd : 11 ≤ d) : Mx mL_say d 2 14 [vS 1, vI b, vI x, vS 371] g I L (cQ (mkA 1 0 2 (¬ (b = 0 ∨ nmP x)) False (¬ (A.cnt < 80 ∧ 1 + max 0 0 ≤ 30)) A (3, b, x, (-1), 0, 0) (1 + max 0 0) (kbN 3 ||| 0 ||| 0)) g I) := by
  obtain ⟨lx, ly, τ, hI, hl⟩ := hS
  refine lm_c hI hl ho (fun _ => by decide) (fun c => c.elim) (fun _ => by decide) (l_say (τ := τ) (hg := A.hg) (nd := A.nd) hI.1 hb hd) ?_
  · intro a1 a2 a3
    have a4 := (Decidable.of_not_not a3).1
    exact ⟨a4, by omega, ⟨by decide, by decide⟩, n16 (by omega) (by omega), fun c => by omega, fun c => by omega⟩
theorem c_fail (hS : SC A g I) (ho : okA A.la) (hb : b = 0 ∨ b = 1) (hd : 11 ≤ d) : Mx mL_fail d 2 14 [vS 1, vI b, vI x, vS 371] g I L (cQ (mkA 1 0 2 (¬ (b = 0 ∨ nmP x)) False (¬ (A.cnt < 80 ∧ 1 + max 0 0 ≤ 30)) A (4, b, x, (-1), 0, 0) (1 + max 0 0) (kbN 4 ||| 0 ||| 0)) g I) := by
  obtain ⟨lx, ly, τ, hI, hl⟩ := hS
  refine lm_c hI hl ho (fun _ => by decide) (fun c => c.elim) (fun _ => by decide) (l_fail (τ := τ) (hg := A.hg) (nd := A.nd) hI.1 hb hd) ?_
  · intro a1 a2 a3
    have a4 := (Decidable.of_not_not a3).1
    exact ⟨a4, by omega, ⟨by decide, by decide⟩, n16 (by omega) (by omega), fun c => by omega, fun c => by omega⟩
theorem c_none (hS : SC A g I) (ho : okA A.la) (hd : 11 ≤ d) : Mx mL_none d 2 14 [vS 1, vS 371] g I L (cQ (mkA 0 0 1 (¬ ((0 : Int32) = 0 ∨ nmP 0)) False (¬ (A.cnt < 80 ∧ 1 + max 0 0 ≤ 30)) A (5, 0, 0, (-1), 0, 0) (1 + max 0 0) (kbN 5 ||| 0 ||| 0)) g I) := by
  obtain ⟨lx, ly, τ, hI, hl⟩ := hS
  refine lm_c hI hl ho (fun c => absurd (Or.inl rfl) c) (fun c => c.elim) (fun _ => by decide) (l_none (τ := τ) (hg := A.hg) (nd := A.nd) hI.1 hd) ?_
  · intro a1 a2 a3
    have a4 := (Decidable.of_not_not a3).1
    exact ⟨a4, by omega, ⟨by decide, by decide⟩, n16 (by omega) (by omega), fun c => by omega, fun c => by omega⟩
theorem c_either (hS : SC A g I) (ho : okA A.la) (hd : 11 ≤ d) : Mx mL_either d 2 14 [vS 1, vI x, vI y, vS 371] g I L (cQ (mkA 1 0 2 (¬ (tmP A.cnt x ∧ tmP A.cnt y)) False (¬ (A.cnt < 80 ∧ 1 + max (A.hg x.toNatClampNeg) (A.hg y.toNatClampNeg) ≤ 30)) A (6, 0, 0, (-1), x.toNatClampNeg, y.toNatClampNeg) (1 + max (A.hg x.toNatClampNeg) (A.hg y.toNatClampNeg)) (kbN 6 ||| A.nd x.toNatClampNeg ||| A.nd y.toNatClampNeg)) g I) := by
  obtain ⟨lx, ly, τ, hI, hl⟩ := hS
  refine lm_c hI hl ho (fun _ => by decide) (fun c => c.elim) (fun _ => by decide) (l_either (τ := τ) (hg := A.hg) (nd := A.nd) hI.1 hd) ?_
  · intro a1 a2 a3
    have a4 := Decidable.of_not_not a3
    have hq : tmP A.cnt x ∧ tmP A.cnt y := Classical.byContradiction a1
    obtain ⟨p1, p2, p3, p4⟩ := hI.1.pt hq.1
    obtain ⟨r1, r2, r3, r4⟩ := hI.1.pt hq.2
    exact ⟨a4.1, by omega, ⟨by omega, a4.2⟩, n16 p1.2.2.2.2.2 r1.2.2.2.2.2, fun _ _ => ⟨p4, by omega, rfl⟩, fun _ _ => ⟨r4, by omega, rfl⟩⟩
theorem c_then (hS : SC A g I) (ho : okA A.la) (hd : 11 ≤ d) : Mx mL_then d 2 14 [vS 1, vI x, vI y, vI z, vS 371] g I L (cQ (mkA 1 0 2 (¬ (nmP y ∧ tmP A.cnt x ∧ tmP A.cnt z)) False (¬ (A.cnt < 80 ∧ 1 + max (A.hg x.toNatClampNeg) (A.hg z.toNatClampNeg) ≤ 30)) A (7, 0, 0, y, x.toNatClampNeg, z.toNatClampNeg) (1 + max (A.hg x.toNatClampNeg) (A.hg z.toNatClampNeg)) (kbN 7 ||| A.nd x.toNatClampNeg ||| A.nd z.toNatClampNeg)) g I) := by
  obtain ⟨lx, ly, τ, hI, hl⟩ := hS
  refine lm_c hI hl ho (fun _ => by decide) (fun c => c.elim) (fun _ => by decide) (l_then (τ := τ) (hg := A.hg) (nd := A.nd) hI.1 hd) ?_
  · intro a1 a2 a3
    have a4 := Decidable.of_not_not a3
    have hq := Classical.byContradiction a1
    obtain ⟨p1, p2, p3, p4⟩ := hI.1.pt hq.2.1
    obtain ⟨r1, r2, r3, r4⟩ := hI.1.pt hq.2.2
    exact ⟨a4.1, by omega, ⟨by omega, a4.2⟩, n16 p1.2.2.2.2.2 r1.2.2.2.2.2, fun _ _ => ⟨p4, by omega, rfl⟩, fun _ _ => ⟨r4, by omega, rfl⟩⟩
theorem c_saved (hS : SC A g I) (ho : okA A.la) (hd : 11 ≤ d) : Mx mL_saved d 2 14 [vS 1, vI x, vI y, vI z, vS 371] g I L (cQ (mkA 1 0 2 (¬ (nmP y ∧ tmP A.cnt x ∧ tmP A.cnt z)) False (¬ (A.cnt < 80 ∧ 1 + max (A.hg x.toNatClampNeg) (A.hg z.toNatClampNeg) ≤ 30)) A (8, 0, 0, y, x.toNatClampNeg, z.toNatClampNeg) (1 + max (A.hg x.toNatClampNeg) (A.hg z.toNatClampNeg)) (kbN 8 ||| A.nd x.toNatClampNeg ||| A.nd z.toNatClampNeg)) g I) := by
  obtain ⟨lx, ly, τ, hI, hl⟩ := hS
  refine lm_c hI hl ho (fun _ => by decide) (fun c => c.elim) (fun _ => by decide) (l_saved (τ := τ) (hg := A.hg) (nd := A.nd) hI.1 hd) ?_
  · intro a1 a2 a3
    have a4 := Decidable.of_not_not a3
    have hq := Classical.byContradiction a1
    obtain ⟨p1, p2, p3, p4⟩ := hI.1.pt hq.2.1
    obtain ⟨r1, r2, r3, r4⟩ := hI.1.pt hq.2.2
    exact ⟨a4.1, by omega, ⟨by omega, a4.2⟩, n16 p1.2.2.2.2.2 r1.2.2.2.2.2, fun _ _ => ⟨p4, by omega, rfl⟩, fun _ _ => ⟨r4, by omega, rfl⟩⟩
theorem c_when (hS : SC A g I) (ho : okA A.la) (hd : 11 ≤ d) : Mx mL_when d 2 14 [vS 1, vI x, vI y, vI z, vS 371] g I L (cQ (mkA 1 0 2 (¬ (nmP x ∧ tmP A.cnt y ∧ tmP A.cnt z)) False (¬ (A.cnt < 80 ∧ 1 + max (A.hg y.toNatClampNeg) (A.hg z.toNatClampNeg) ≤ 30)) A (9, 0, 0, x, y.toNatClampNeg, z.toNatClampNeg) (1 + max (A.hg y.toNatClampNeg) (A.hg z.toNatClampNeg)) (kbN 9 ||| A.nd y.toNatClampNeg ||| A.nd z.toNatClampNeg)) g I) := by
  obtain ⟨lx, ly, τ, hI, hl⟩ := hS
  refine lm_c hI hl ho (fun _ => by decide) (fun c => c.elim) (fun _ => by decide) (l_when (τ := τ) (hg := A.hg) (nd := A.nd) hI.1 hd) ?_
  · intro a1 a2 a3
    have a4 := Decidable.of_not_not a3
    have hq := Classical.byContradiction a1
    obtain ⟨p1, p2, p3, p4⟩ := hI.1.pt hq.2.1
    obtain ⟨r1, r2, r3, r4⟩ := hI.1.pt hq.2.2
    exact ⟨a4.1, by omega, ⟨by omega, a4.2⟩, n16 p1.2.2.2.2.2 r1.2.2.2.2.2, fun _ _ => ⟨p4, by omega, rfl⟩, fun _ _ => ⟨r4, by omega, rfl⟩⟩
theorem c_times (hS : SC A g I) (ho : okA A.la) (hb : b = 0 ∨ b = 1) (hd : 11 ≤ d) : Mx mL_times d 2 14 [vS 1, vI b, vI x, vI y, vS 371] g I L (cQ (mkA 1 0 2 (¬ ((b = 0 ∨ nmP x) ∧ tmP A.cnt y)) False (¬ (A.cnt < 80 ∧ 1 + max (A.hg y.toNatClampNeg) 0 ≤ 30)) A (10, b, x, (-1), y.toNatClampNeg, 0) (1 + max (A.hg y.toNatClampNeg) 0) (kbN 10 ||| A.nd y.toNatClampNeg ||| 0)) g I) := by
  obtain ⟨lx, ly, τ, hI, hl⟩ := hS
  refine lm_c hI hl ho (fun _ => by decide) (fun c => c.elim) (fun _ => by decide) (l_times (τ := τ) (hg := A.hg) (nd := A.nd) hI.1 hb hd) ?_
  · intro a1 a2 a3
    have a4 := Decidable.of_not_not a3
    have hq := Classical.byContradiction a1
    obtain ⟨p1, p2, p3, p4⟩ := hI.1.pt hq.2
    exact ⟨a4.1, by omega, ⟨by omega, a4.2⟩, n16 p1.2.2.2.2.2 (by omega), fun _ _ => ⟨p4, by omega, rfl⟩, fun _ c => by omega⟩
theorem c_as (hS : SC A g I) (ho : okA A.la) (hd : 11 ≤ d) : Mx mL_as d 2 14 [vS 1, vI z, vI y, vS 371] g I L (cQ (mkA 1 2 3 (¬ tmP A.cnt y) (¬ (0 ≤ z ∧ z < 3)) (¬ (A.cnt < 80 ∧ 1 + max (A.hg y.toNatClampNeg) 0 ≤ 30)) A (11 + z.toNatClampNeg, 0, 0, (-1), y.toNatClampNeg, 0) (1 + max (A.hg y.toNatClampNeg) 0) (kbN (11 + z.toNatClampNeg) ||| A.nd y.toNatClampNeg ||| 0)) g I) := by
  obtain ⟨lx, ly, τ, hI, hl⟩ := hS
  refine lm_c hI hl ho (fun _ => by decide) (fun _ => by decide) (fun _ => by decide) (l_as (τ := τ) (hg := A.hg) (nd := A.nd) hI.1 hd) ?_
  · intro a1 a2 a3
    have a4 := Decidable.of_not_not a3
    have hq := Classical.byContradiction a1
    obtain ⟨p1, p2, p3, p4⟩ := hI.1.pt hq
    have hz : 0 ≤ z ∧ z < 3 := Decidable.of_not_not a2
    obtain ⟨j, hj, ej⟩ := tmP.idx (cnt := 3) ⟨hz.1, hz.2⟩ (by omega)
    have hj2 : z.toNatClampNeg = j := by rw [ej]; exact clN (by omega)
    exact ⟨a4.1, by omega, ⟨by omega, a4.2⟩, n16 p1.2.2.2.2.2 (by omega), fun _ _ => ⟨p4, by omega, rfl⟩, fun _ c => by omega⟩
def neR (A : aA) (x : Int32) : Int32 → Int32 → aA → Prop := fun code val A' => A' = A ∧ ((code = 0 ∧ tmP A.cnt x ∧ val = nI (A.nd x.toNatClampNeg)) ∨ (code = 1 ∧ ¬ tmP A.cnt x))
def ruR (A : aA) (x s z : Int32) : Int32 → Int32 → aA → Prop := fun code val A' => (code = 0 ∧ tmP A.cnt x ∧ stP z ∧ lkP A.p (A.nd x.toNatClampNeg) ∧ ∃ W, val = ansO (evA A.p A.B z.toNatClampNeg x.toNatClampNeg s W) ∧ A' = laS A (some (A.p, evA A.p A.B z.toNatClampNeg x.toNatClampNeg s W))) ∨ (code = 1 ∧ ¬ tmP A.cnt x ∧ A' = A) ∨ (code = 2 ∧ tmP A.cnt x ∧ ¬ stP z ∧ A' = A) ∨ (code = 3 ∧ tmP A.cnt x ∧ stP z ∧ ¬ lkP A.p (A.nd x.toNatClampNeg) ∧ A' = A)
def tqR (A : aA) (Ro : Option aRw) (x : Int32) : Int32 → Int32 → aA → Prop := fun code val A' => A' = A ∧ ((∃ R, Ro = some R ∧ tlP R x ∧ code = 0 ∧ val = R.2 x.toNatClampNeg) ∨ (code = 1 ∧ Ro = none) ∨ (code = 2 ∧ ∃ R, Ro = some R ∧ ¬ tlP R x))
def alR (A : aA) (x y s z : Int32) : Int32 → Int32 → aA → Prop := fun code val A' => A' = A ∧ ((code = 0 ∧ (tmP A.cnt x ∧ tmP A.cnt y) ∧ stP z ∧ (lkP A.p (A.nd x.toNatClampNeg) ∧ lkP A.p (A.nd y.toNatClampNeg)) ∧ ∃ W W', (val = 1 ∧ likeO A.p (evA A.p A.B z.toNatClampNeg x.toNatClampNeg s W) (evA A.p A.B z.toNatClampNeg y.toNatClampNeg s W')) ∨ (val = 0 ∧ ¬ likeO A.p (evA A.p A.B z.toNatClampNeg x.toNatClampNeg s W) (evA A.p A.B z.toNatClampNeg y.toNatClampNeg s W'))) ∨
  (code = 1 ∧ ¬ (tmP A.cnt x ∧ tmP A.cnt y)) ∨ (code = 2 ∧ (tmP A.cnt x ∧ tmP A.cnt y) ∧ ¬ stP z) ∨ (code = 3 ∧ (tmP A.cnt x ∧ tmP A.cnt y) ∧ stP z ∧ ¬ (lkP A.p (A.nd x.toNatClampNeg) ∧ lkP A.p (A.nd y.toNatClampNeg))))
theorem up1_s {α : Type} {f : Nat → α} {i : Nat} {v : α} : up1 f i v i = v := by unfold up1; rw [if_pos rfl]
theorem c_needs (hS : SC A g I) (ho : okA A.la) (hd : 8 ≤ d) : Mx mL_needs d 2 14 [vS 1, vI x, vS 371] g I L (cQ (neR A x) g I) := by
  obtain ⟨lx, ly, τ, hI, hl⟩ := id hS
  have hw := hI.1.1
  have hg1 := hI.1.2.1
  have h1 := (hw 1 _ rfl).2.1
  refine Mx_in (by decide +kernel) rfl rfl (Ex_wx [] 9 oL_needs hw ?_)
  refine Ex_cV (kc := 1) (ks := 8) (kc' := 1) (ks' := 6) (As := [vI x]) (st := [vI 0, vS 371]) (d' := 7) vL_63 rfl rfl h1 (e8_needs hI.1 (by omega)) (by omega) rfl (dc_ok oL_needs rfl) ?_ ?_
  · rintro v g' I' L' (⟨e, a1, rfl, rfl, rfl⟩ | ⟨e, -⟩) <;> cases e
    refine Ex_wx [] 9 oL_needs hw ?_
    refine And.intro (show vp_in (nI 0) 1 from inN (by omega) (by omega)) ?_
    exact ⟨0, _, A, rfl, ⟨rfl, Or.inl ⟨rfl, Classical.byContradiction a1, rfl⟩⟩, hS, ⟨fun _ _ => rfl, rfl⟩, fun _ => up1_s⟩
  · rintro E g' I' L' (⟨e, -⟩ | ⟨e, a1, hE⟩) <;> cases e
    obtain ⟨s1, s2⟩ := hS.ext ho hE
    exact Xx_catch (a := 3) (ln := 1) [] (0, 9, 12, 13) [] rfl (by decide) (fun z hz => by cases hz) ⟨by decide, by decide⟩ (by decide) ck_1 (Or.inl ⟨3, rfl, rfl, dc_ok oL_needs rfl⟩) (by decide) (dc_ok oL_needs rfl) rfl (dc_ok oL_needs rfl) rfl ⟨1, 0, A, rfl, ⟨rfl, Or.inr ⟨rfl, a1⟩⟩, s1, s2, fun c => absurd c (by decide)⟩
theorem c_run (hS : SC A g I) (ho : okA A.la) (hd : 127 ≤ d) : Mx mL_run d 2 14 [vS 1, vI x, vI s, vI z, vS 371] g I L (cQ (ruR A x s z) g I) := by
  obtain ⟨lx, ly, τ, hI, hl⟩ := id hS
  have hw := hI.1.1
  have hg1 := hI.1.2.1
  have h1 := (hw 1 _ rfl).2.1
  refine Mx_in (by decide +kernel) rfl rfl (Ex_wx [] 9 oL_run hw ?_)
  refine Ex_cV (kc := 1) (ks := 8) (kc' := 1) (ks' := 6) (As := [vI x, vI s, vI z]) (st := [vI 0, vS 371]) (d' := 126) vL_67 rfl rfl h1 (e8_run hI (by omega)) (by omega) rfl (dc_ok oL_run rfl) ?_ ?_
  · rintro v g' I' L' (⟨a1, a2, a3, W, e, rfl, hP, rfl⟩ | ⟨e, -⟩ | ⟨e, -⟩ | ⟨e, -⟩) <;> cases e
    have hI2 := hI.run (Or.inl rfl) hP
    refine Ex_wx [] 9 oL_run hI2.1.1 ?_
    refine And.intro (show vp_in (nI 0) 1 from inN (by omega) (by omega)) ?_
    refine ⟨0, _, _, rfl, Or.inl ⟨rfl, Classical.byContradiction a1, Classical.byContradiction a2, Classical.byContradiction a3, W, rfl, rfl⟩, ⟨lx, lx, τ, hI2, hP.1⟩, ⟨fun i hi => hP.2.2 i (by omega) (by unfold inO; omega), rfl⟩, fun _ => up1_s⟩
  · rintro E g' I' L' (⟨-, -, -, W, e, -⟩ | ⟨e, a1, hE⟩ | ⟨e, a1, a2, hE⟩ | ⟨e, a1, a2, a3, hE⟩) <;> cases e
    · obtain ⟨s1, s2⟩ := hS.ext ho hE
      exact Xx_catch (a := 5) (ln := 2) [] (0, 12, 15, 13) [(0, 12, 19, 21), (0, 12, 23, 70)] rfl (by decide) (fun z hz => by cases hz) ⟨by decide, by decide⟩ (by decide) ck_1 (Or.inr ⟨rfl, dc_ok oL_run rfl⟩) (by decide) (dc_ok oL_run rfl) rfl (dc_ok oL_run rfl) rfl ⟨1, 0, A, rfl, Or.inr (Or.inl ⟨rfl, a1, rfl⟩), s1, s2, fun c => absurd c (by decide)⟩
    · obtain ⟨s1, s2⟩ := hS.ext ho hE
      exact Xx_catch (a := 5) (ln := 2) [(0, 12, 15, 13)] (0, 12, 19, 21) [(0, 12, 23, 70)] rfl (by decide) (fun z hz => by rw [List.mem_singleton.mp hz]; exact ⟨by decide, E1, by decide, by decide, ck_1⟩) ⟨by decide, by decide⟩ (by decide) ck_3 (Or.inr ⟨rfl, dc_ok oL_run rfl⟩) (by decide) (dc_ok oL_run rfl) rfl (dc_ok oL_run rfl) rfl ⟨2, 0, A, rfl, Or.inr (Or.inr (Or.inl ⟨rfl, Classical.byContradiction a1, a2, rfl⟩)), s1, s2, fun c => absurd c (by decide)⟩
    · obtain ⟨s1, s2⟩ := hS.ext ho hE
      exact Xx_catch (a := 5) (ln := 2) [(0, 12, 15, 13), (0, 12, 19, 21)] (0, 12, 23, 70) [] rfl (by decide) (fun z hz => by rcases List.mem_cons.mp hz with rfl | hz; exact ⟨by decide, E1, by decide, by decide, ck_1⟩; rw [List.mem_singleton.mp hz]; exact ⟨by decide, E3, by decide, by decide, ck_3⟩) ⟨by decide, by decide⟩ (by decide) ck_4 (Or.inr ⟨rfl, dc_ok oL_run rfl⟩) (by decide) (dc_ok oL_run rfl) rfl (dc_ok oL_run rfl) rfl ⟨3, 0, A, rfl, Or.inr (Or.inr (Or.inr ⟨rfl, Classical.byContradiction a1, Classical.byContradiction a2, a3, rfl⟩)), s1, s2, fun c => absurd c (by decide)⟩
theorem c_result (hS : SC A g I) (ho : okA A.la) (hd : 8 ≤ d) : Mx mL_result d 2 14 [vS 1, vI x, vI y, vS 371] g I L (cQ (tqR A (rowA A.la x) y) g I) := by
  obtain ⟨lx, ly, τ, hI, hl⟩ := id hS
  have hw := hI.1.1
  have hg1 := hI.1.2.1
  have h1 := (hw 1 _ rfl).2.1
  refine Mx_in (by decide +kernel) rfl rfl (Ex_wx [] 9 oL_result hw ?_)
  refine Ex_cV (kc := 1) (ks := 8) (kc' := 1) (ks' := 6) (As := [vI x, vI y]) (st := [vI 0, vS 371]) (d' := 7) vL_72 rfl rfl h1 (e8_result hI hl ho (by omega)) (by omega) rfl (dc_ok oL_result rfl) ?_ ?_
  · rintro v g' I' L' (⟨R, a1, a2, e, rfl, rfl, rfl⟩ | ⟨e, -⟩ | ⟨R, -, -, e, -⟩) <;> cases e
    refine Ex_wx [] 9 oL_result hw ?_
    refine And.intro (show vp_in (nI 0) 1 from inN (by omega) (by omega)) ?_
    exact ⟨0, _, A, rfl, ⟨rfl, Or.inl ⟨R, a1, a2, rfl, rfl⟩⟩, hS, ⟨fun _ _ => rfl, rfl⟩, fun _ => up1_s⟩
  · rintro E g' I' L' (⟨R, -, -, e, -⟩ | ⟨e, a1, hE⟩ | ⟨R, a1, a2, e, hE⟩) <;> cases e
    · obtain ⟨s1, s2⟩ := hS.ext ho hE
      exact Xx_catch (a := 4) (ln := 2) [] (0, 10, 13, 13) [(0, 10, 17, 21)] rfl (by decide) (fun z hz => by cases hz) ⟨by decide, by decide⟩ (by decide) ck_1 (Or.inr ⟨rfl, dc_ok oL_result rfl⟩) (by decide) (dc_ok oL_result rfl) rfl (dc_ok oL_result rfl) rfl ⟨1, 0, A, rfl, ⟨rfl, Or.inr (Or.inl ⟨rfl, a1⟩)⟩, s1, s2, fun c => absurd c (by decide)⟩
    · obtain ⟨s1, s2⟩ := hS.ext ho hE
      exact Xx_catch (a := 4) (ln := 2) [(0, 10, 13, 13)] (0, 10, 17, 21) [] rfl (by decide) (fun z hz => by rw [List.mem_singleton.mp hz]; exact ⟨by decide, E1, by decide, by decide, ck_1⟩) ⟨by decide, by decide⟩ (by decide) ck_3 (Or.inr ⟨rfl, dc_ok oL_result rfl⟩) (by decide) (dc_ok oL_result rfl) rfl (dc_ok oL_result rfl) rfl ⟨2, 0, A, rfl, ⟨rfl, Or.inr (Or.inr ⟨rfl, R, a1, a2⟩)⟩, s1, s2, fun c => absurd c (by decide)⟩
theorem c_shared (hS : SC A g I) (ho : okA A.la) (hd : 8 ≤ d) : Mx mL_shared d 2 14 [vS 1, vI y, vS 371] g I L (cQ (tqR A (comA A.la) y) g I) := by
  obtain ⟨lx, ly, τ, hI, hl⟩ := id hS
  have hw := hI.1.1
  have hg1 := hI.1.2.1
  have h1 := (hw 1 _ rfl).2.1
  refine Mx_in (by decide +kernel) rfl rfl (Ex_wx [] 9 oL_shared hw ?_)
  refine Ex_cV (kc := 1) (ks := 8) (kc' := 1) (ks' := 6) (As := [vI y]) (st := [vI 0, vS 371]) (d' := 7) vL_75 rfl rfl h1 (e8_shared hI hl ho (by omega)) (by omega) rfl (dc_ok oL_shared rfl) ?_ ?_
  · rintro v g' I' L' (⟨R, a1, a2, e, rfl, rfl, rfl⟩ | ⟨e, -⟩ | ⟨R, -, -, e, -⟩) <;> cases e
    refine Ex_wx [] 9 oL_shared hw ?_
    refine And.intro (show vp_in (nI 0) 1 from inN (by omega) (by omega)) ?_
    exact ⟨0, _, A, rfl, ⟨rfl, Or.inl ⟨R, a1, a2, rfl, rfl⟩⟩, hS, ⟨fun _ _ => rfl, rfl⟩, fun _ => up1_s⟩
  · rintro E g' I' L' (⟨R, -, -, e, -⟩ | ⟨e, a1, hE⟩ | ⟨R, a1, a2, e, hE⟩) <;> cases e
    · obtain ⟨s1, s2⟩ := hS.ext ho hE
      exact Xx_catch (a := 3) (ln := 1) [] (0, 9, 12, 70) [(0, 9, 15, 21)] rfl (by decide) (fun z hz => by cases hz) ⟨by decide, by decide⟩ (by decide) ck_4 (Or.inl ⟨3, rfl, rfl, dc_ok oL_shared rfl⟩) (by decide) (dc_ok oL_shared rfl) rfl (dc_ok oL_shared rfl) rfl ⟨1, 0, A, rfl, ⟨rfl, Or.inr (Or.inl ⟨rfl, a1⟩)⟩, s1, s2, fun c => absurd c (by decide)⟩
    · obtain ⟨s1, s2⟩ := hS.ext ho hE
      exact Xx_catch (a := 3) (ln := 1) [(0, 9, 12, 70)] (0, 9, 15, 21) [] rfl (by decide) (fun z hz => by rw [List.mem_singleton.mp hz]; exact ⟨by decide, E4, by decide, by decide, ck_4⟩) ⟨by decide, by decide⟩ (by decide) ck_3 (Or.inl ⟨3, rfl, rfl, dc_ok oL_shared rfl⟩) (by decide) (dc_ok oL_shared rfl) rfl (dc_ok oL_shared rfl) rfl ⟨2, 0, A, rfl, ⟨rfl, Or.inr (Or.inr ⟨rfl, R, a1, a2⟩)⟩, s1, s2, fun c => absurd c (by decide)⟩
theorem c_alike (hS : SC A g I) (ho : okA A.la) (hd : 127 ≤ d) : Mx mL_alike d 2 14 [vS 1, vI x, vI y, vI s, vI z, vS 371] g I L (cQ (alR A x y s z) g I) := by
  obtain ⟨lx, ly, τ, hI, hl⟩ := id hS
  have hw := hI.1.1
  have hg1 := hI.1.2.1
  have h1 := (hw 1 _ rfl).2.1
  refine Mx_in (by decide +kernel) rfl rfl (Ex_wx [] 9 oL_alike hw ?_)
  refine Ex_cV (kc := 1) (ks := 8) (kc' := 1) (ks' := 6) (As := [vI x, vI y, vI s, vI z]) (st := [vI 0, vS 371]) (d' := 126) vL_78 rfl rfl h1 (e8_alike hI (by omega)) (by omega) rfl (dc_ok oL_alike rfl) ?_ ?_
  · rintro v g' I' L' (⟨a1, a2, a3, ⟨lz, hI2⟩, hfr, eg, rfl, W, W', ⟨e, hb⟩ | ⟨e, hb⟩⟩ | ⟨e, -⟩ | ⟨e, -⟩ | ⟨e, -⟩) <;> cases e
    · refine Ex_wx [] 9 oL_alike hI2.1.1 ?_
      refine And.intro (fun c => absurd c (by decide)) (fun _ => ?_)
      refine And.intro (show vp_in (nI 0) 1 from inN (by omega) (by omega)) ?_
      exact ⟨0, 1, A, rfl, ⟨rfl, Or.inl ⟨rfl, Classical.byContradiction a1, Classical.byContradiction a2, Classical.byContradiction a3, W, W', Or.inl ⟨rfl, hb⟩⟩⟩, ⟨lz, lz, τ, hI2, hl.eq ho (fun i hi => hfr i (Or.inr (Or.inl hi)))⟩, ⟨fun i hi => hfr i (by omega), by rw [eg]⟩, fun _ => up1_s⟩
    · refine Ex_wx [] 9 oL_alike hI2.1.1 ?_
      refine And.intro (fun _ => ?_) (fun c => absurd rfl c)
      refine And.intro (show vp_in (nI 0) 1 from inN (by omega) (by omega)) ?_
      exact ⟨0, 0, A, rfl, ⟨rfl, Or.inl ⟨rfl, Classical.byContradiction a1, Classical.byContradiction a2, Classical.byContradiction a3, W, W', Or.inr ⟨rfl, hb⟩⟩⟩, ⟨lz, lz, τ, hI2, hl.eq ho (fun i hi => hfr i (Or.inr (Or.inl hi)))⟩, ⟨fun i hi => hfr i (by omega), by rw [eg]⟩, fun _ => up1_s⟩
  · rintro E g' I' L' (⟨-, -, -, -, -, -, -, W, W', ⟨e, -⟩ | ⟨e, -⟩⟩ | ⟨e, a1, hE⟩ | ⟨e, a1, a2, hE⟩ | ⟨e, a1, a2, a3, hE⟩) <;> cases e
    · obtain ⟨s1, s2⟩ := hS.ext ho hE
      exact Xx_catch (a := 6) (ln := 2) [] (0, 21, 24, 13) [(0, 21, 28, 21), (0, 21, 32, 70)] rfl (by decide) (fun z hz => by cases hz) ⟨by decide, by decide⟩ (by decide) ck_1 (Or.inr ⟨rfl, dc_ok oL_alike rfl⟩) (by decide) (dc_ok oL_alike rfl) rfl (dc_ok oL_alike rfl) rfl ⟨1, 0, A, rfl, ⟨rfl, Or.inr (Or.inl ⟨rfl, a1⟩)⟩, s1, s2, fun c => absurd c (by decide)⟩
    · obtain ⟨s1, s2⟩ := hS.ext ho hE
      exact Xx_catch (a := 6) (ln := 2) [(0, 21, 24, 13)] (0, 21, 28, 21) [(0, 21, 32, 70)] rfl (by decide) (fun z hz => by rw [List.mem_singleton.mp hz]; exact ⟨by decide, E1, by decide, by decide, ck_1⟩) ⟨by decide, by decide⟩ (by decide) ck_3 (Or.inr ⟨rfl, dc_ok oL_alike rfl⟩) (by decide) (dc_ok oL_alike rfl) rfl (dc_ok oL_alike rfl) rfl ⟨2, 0, A, rfl, ⟨rfl, Or.inr (Or.inr (Or.inl ⟨rfl, Classical.byContradiction a1, a2⟩))⟩, s1, s2, fun c => absurd c (by decide)⟩
    · obtain ⟨s1, s2⟩ := hS.ext ho hE
      exact Xx_catch (a := 6) (ln := 2) [(0, 21, 24, 13), (0, 21, 28, 21)] (0, 21, 32, 70) [] rfl (by decide) (fun z hz => by rcases List.mem_cons.mp hz with rfl | hz; exact ⟨by decide, E1, by decide, by decide, ck_1⟩; rw [List.mem_singleton.mp hz]; exact ⟨by decide, E3, by decide, by decide, ck_3⟩) ⟨by decide, by decide⟩ (by decide) ck_4 (Or.inr ⟨rfl, dc_ok oL_alike rfl⟩) (by decide) (dc_ok oL_alike rfl) rfl (dc_ok oL_alike rfl) rfl ⟨3, 0, A, rfl, ⟨rfl, Or.inr (Or.inr (Or.inr ⟨rfl, Classical.byContradiction a1, Classical.byContradiction a2, a3⟩))⟩, s1, s2, fun c => absurd c (by decide)⟩
end CL
