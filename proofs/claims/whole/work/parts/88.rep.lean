/-! the heap of the start, written out -/
abbrev aD : Type := Nat × List aSh × List (Nat × Nat × Option Nat)
def rfL : List (Nat × Nat × Option Nat) → Nat → Nat → Option Nat
  | [], _, _ => none
  | e :: l, i, k => if i = e.1 ∧ k = e.2.1 then e.2.2 else rfL l i k
def shL (D : aD) (i : Nat) : Option aSh := if i < D.1 then nth D.2.1 (D.1 - 1 - i) else none
def Rep (g : aG) (D : aD) : Prop := g.1 = D.1 ∧ 0 < D.1 ∧ (∀ i, 0 < i → g.2.1 i = shL D i) ∧ (∀ i k, g.2.2 i k = rfL D.2.2 i k) ∧ ∀ e ∈ D.2.2, e.1 < D.1
def dA (c : aSh) (D : aD) : aD := (D.1 + 1, c :: D.2.1, D.2.2)
def dP (r k : Nat) (x : Option Nat) (D : aD) : aD := (D.1, D.2.1, (r, k, x) :: D.2.2)
theorem rfL_no {l : List (Nat × Nat × Option Nat)} {i : Nat} (h : ∀ e ∈ l, e.1 < i) (k : Nat) : rfL l i k = none := by
  induction l with
  | nil => rfl
  | cons e l ih =>
    show (if i = e.1 ∧ k = e.2.1 then e.2.2 else rfL l i k) = none
    have h1 := h e List.mem_cons_self
    rw [if_neg (fun c => by omega)]
    exact ih (fun e' he' => h e' (List.mem_cons_of_mem _ he'))
theorem Rep.add {g : aG} {D : aD} (h : Rep g D) (c : aSh) : Rep (g_add g c) (dA c D) := by
  obtain ⟨h1, h2, h3, h4, h5⟩ := h
  refine ⟨by show g.1 + 1 = D.1 + 1; omega, Nat.succ_pos _, fun i hi => ?_, fun i k => ?_, fun e he => Nat.lt_succ_of_lt (h5 e he)⟩
  · show up1 g.2.1 g.1 (some c) i = (if i < D.1 + 1 then nth (c :: D.2.1) (D.1 + 1 - 1 - i) else none)
    unfold up1
    by_cases e : i = g.1
    · rw [if_pos e, if_pos (by omega), show D.1 + 1 - 1 - i = 0 by omega]; rfl
    · rw [if_neg e, h3 i hi]
      unfold shL
      by_cases e2 : i < D.1
      · rw [if_pos e2, if_pos (by omega), show D.1 + 1 - 1 - i = (D.1 - 1 - i) + 1 by omega]; rfl
      · rw [if_neg e2, if_neg (by omega)]
  · show (if i = g.1 then none else g.2.2 i k) = rfL D.2.2 i k
    by_cases e : i = g.1
    · rw [if_pos e, rfL_no (fun e' he' => by have := h5 e' he'; omega)]
    · rw [if_neg e]; exact h4 i k
theorem Rep.put {g : aG} {D : aD} (h : Rep g D) {r k : Nat} {x : Option Nat} (hr : r < D.1) : Rep (pG r k x g) (dP r k x D) := by
  obtain ⟨h1, h2, h3, h4, h5⟩ := h
  refine ⟨h1, h2, h3, fun i j => ?_, fun e he => ?_⟩
  · show up2 g.2.2 r k x i j = (if i = r ∧ j = k then x else rfL D.2.2 i j)
    unfold up2
    by_cases c : i = r ∧ j = k
    · rw [if_pos c, if_pos c]
    · rw [if_neg c, if_neg c]; exact h4 i j
  · rcases List.mem_cons.mp he with rfl | he
    · exact hr
    · exact h5 e he
def dN (r k : Nat) (ty : FieldType) (N : Nat) (D : aD) : aD := dP r k (some D.1) (dA (.inr (ty, N)) D)
theorem Rep.rN {g : aG} {D : aD} (h : Rep g D) {r k N : Nat} {ty : FieldType} (hr : r ≤ D.1) : Rep (nG r k ty N g) (dN r k ty N D) := by
  show Rep (pG r k (some g.1) (g_add g _)) (dP r k (some D.1) (dA _ D))
  rw [h.1]
  exact (h.add _).put (by show r < D.1 + 1; omega)
def d6 (r : Nat) (D : aD) : aD := dN r 0 .int 65 D
def d5 (r : Nat) (D : aD) : aD := dN r 3 .int 3100 (dN r 2 .int 3100 (dN r 1 .boolean 3100 (dN r 0 .int 3100 D)))
def d2 (r : Nat) (D : aD) : aD := dN r 2 .int 2001 (dN r 1 .int 2001 (dN r 0 .int 2001 D))
def dR (D : aD) : aD := d6 D.1 (dA (.inl 6) D)
def d4L (a : Nat) : Nat → Nat → aD → aD
  | 0, _, D => D
  | m + 1, k, D => d4L a m (k + 1) (dP a k (some D.1) (dR D))
def d4A (r : Nat) (D : aD) : aD := dP r 1 (some D.1) (dR D)
def d4B (r : Nat) (D : aD) : aD := dP r 2 (some D.1) (dA (.inr (.object RX6, 50)) D)
def d4 (r : Nat) (D : aD) : aD := d4L (d4A r D).1 50 0 (d4B r (d4A r D))
def d3A (r : Nat) (D : aD) : aD := dP r 0 (some D.1) (d5 D.1 (dA (.inl 5) D))
def d3B (r : Nat) (D : aD) : aD := dP r 1 (some D.1) (d2 D.1 (dA (.inl 2) D))
def d3C (r : Nat) (D : aD) : aD := dP r 3 (some D.1) (dA (.inl 1) D)
def d3 (r : Nat) (D : aD) : aD := d3C r (dN r 2 .int 8 (d3B r (d3A r D)))
def d8A (r : Nat) (D : aD) : aD := dP r 0 (some D.1) (dA (.inr (.object RX7, 80)) D)
def d8B (r : Nat) (D : aD) : aD := dP r 1 (some D.1) (d3 D.1 (dA (.inl 3) D))
def d8O (r k : Nat) (D : aD) : aD := dP r k (some D.1) (d4 D.1 (dA (.inl 4) D))
def d8C (r : Nat) (D : aD) : aD := dP r 6 (some D.1) (dA (.inl 1) D)
def d8 (r : Nat) (D : aD) : aD := d8C r (d8O r 4 (d8O r 3 (d8O r 2 (d8B r (d8A r D)))))
def d9F (r : Nat) : List (Nat × FieldType × Nat) → aD → aD
  | [], D => D
  | e :: l, D => d9F r l (dN r e.1 e.2.1 e.2.2 D)
section RepS
variable {g : aG} {D : aD} {r : Nat}
theorem Rep.r6 (h : Rep g D) (hr : r ≤ D.1) : Rep (x6G r g) (d6 r D) := h.rN hr
theorem Rep.r5 (h : Rep g D) (hr : r ≤ D.1) : Rep (x5G r g) (d5 r D) := by
  refine Rep.rN (Rep.rN (Rep.rN (Rep.rN h hr) ?_) ?_) ?_
  · show r ≤ D.1 + 1; omega
  · show r ≤ D.1 + 1 + 1; omega
  · show r ≤ D.1 + 1 + 1 + 1; omega
theorem Rep.r2 (h : Rep g D) (hr : r ≤ D.1) : Rep (x2G r g) (d2 r D) := by
  refine Rep.rN (Rep.rN (Rep.rN h hr) ?_) ?_
  · show r ≤ D.1 + 1; omega
  · show r ≤ D.1 + 1 + 1; omega
theorem Rep.rRo (h : Rep g D) : Rep (roG g) (dR D) := by
  show Rep (x6G g.1 (g_add g (.inl 6))) (d6 D.1 (dA (.inl 6) D))
  rw [h.1]
  exact (h.add _).r6 (Nat.le_succ _)
theorem rep_4L {a : Nat} : ∀ (m k : Nat) (g : aG) (D : aD), Rep g D → a < D.1 → Rep (x4L a m k g) (d4L a m k D) := by
  intro m
  induction m with
  | zero => intro k g D h _; exact h
  | succ m ih =>
    intro k g D h ha
    show Rep (x4L a m (k + 1) (pG a k (some g.1) (roG g))) (d4L a m (k + 1) (dP a k (some D.1) (dR D)))
    rw [h.1]
    exact ih (k + 1) _ _ (h.rRo.put (by show a < D.1 + 1 + 1; omega)) (by show a < D.1 + 1 + 1; omega)
theorem Rep.r4A (h : Rep g D) (hr : r < D.1) : Rep (x4A r g) (d4A r D) := by
  show Rep (pG r 1 (some g.1) (roG g)) (dP r 1 (some D.1) (dR D))
  rw [h.1]
  exact h.rRo.put (by show r < D.1 + 1 + 1; omega)
theorem Rep.r4B (h : Rep g D) (hr : r < D.1) : Rep (x4B r g) (d4B r D) := by
  show Rep (pG r 2 (some g.1) (g_add g _)) (dP r 2 (some D.1) (dA _ D))
  rw [h.1]
  exact (h.add _).put (by show r < D.1 + 1; omega)
theorem Rep.r4 (h : Rep g D) (hr : r < D.1) : Rep (x4G r g) (d4 r D) := by
  have hA := h.r4A hr
  have hB := hA.r4B (r := r) (by show r < D.1 + 1 + 1; omega)
  show Rep (x4L (x4A r g).1 50 0 (x4B r (x4A r g))) (d4L (d4A r D).1 50 0 (d4B r (d4A r D)))
  rw [hA.1]
  exact rep_4L 50 0 _ _ hB (Nat.lt_succ_self _)
theorem Rep.r3 (h : Rep g D) (hr : r < D.1) : Rep (x3G r g) (d3 r D) := by
  have hA : Rep (x3A r g) (d3A r D) := by
    show Rep (pG r 0 (some g.1) (x5G g.1 (g_add g (.inl 5)))) (dP r 0 (some D.1) (d5 D.1 (dA (.inl 5) D)))
    rw [h.1]
    exact ((h.add _).r5 (Nat.le_succ _)).put (by show r < D.1 + 1 + 1 + 1 + 1 + 1; omega)
  have hB : Rep (x3B r (x3A r g)) (d3B r (d3A r D)) := by
    show Rep (pG r 1 (some (x3A r g).1) (x2G (x3A r g).1 (g_add (x3A r g) (.inl 2)))) (dP r 1 (some (d3A r D).1) (d2 (d3A r D).1 (dA (.inl 2) (d3A r D))))
    rw [hA.1]
    exact ((hA.add _).r2 (Nat.le_succ _)).put (by show r < D.1 + 1 + 1 + 1 + 1 + 1 + 1 + 1 + 1 + 1; omega)
  have hN : Rep (nG r 2 .int 8 (x3B r (x3A r g))) (dN r 2 .int 8 (d3B r (d3A r D))) := hB.rN (by show r ≤ D.1 + 1 + 1 + 1 + 1 + 1 + 1 + 1 + 1 + 1; omega)
  show Rep (pG r 3 (some (nG r 2 .int 8 (x3B r (x3A r g))).1) (g_add (nG r 2 .int 8 (x3B r (x3A r g))) (.inl 1))) (dP r 3 (some (dN r 2 .int 8 (d3B r (d3A r D))).1) (dA (.inl 1) (dN r 2 .int 8 (d3B r (d3A r D)))))
  rw [hN.1]
  exact (hN.add _).put (by show r < D.1 + 1 + 1 + 1 + 1 + 1 + 1 + 1 + 1 + 1 + 1 + 1; omega)
theorem Rep.r8O {k : Nat} (h : Rep g D) (hr : r < D.1) : Rep (x8O r k g) (d8O r k D) := by
  show Rep (pG r k (some g.1) (x4G g.1 (g_add g (.inl 4)))) (dP r k (some D.1) (d4 D.1 (dA (.inl 4) D)))
  have h4 := (h.add (.inl 4)).r4 (r := D.1) (Nat.lt_succ_self _)
  rw [h.1]
  refine h4.put ?_
  have e := h4.1
  rw [x4G_1] at e
  have e2 : (g_add g (.inl 4)).1 = g.1 + 1 := rfl
  have e3 := h.1
  omega
theorem Rep.r8 (h : Rep g D) (hr : r < D.1) : Rep (x8G r g) (d8 r D) := by
  have hA : Rep (x8A r g) (d8A r D) := by
    show Rep (pG r 0 (some g.1) (g_add g _)) (dP r 0 (some D.1) (dA _ D))
    rw [h.1]
    exact (h.add _).put (by show r < D.1 + 1; omega)
  have a1 : r < (d8A r D).1 := by show r < D.1 + 1; omega
  have hB : Rep (x8B r (x8A r g)) (d8B r (d8A r D)) := by
    show Rep (pG r 1 (some (x8A r g).1) (x3G (x8A r g).1 (g_add (x8A r g) (.inl 3)))) (dP r 1 (some (d8A r D).1) (d3 (d8A r D).1 (dA (.inl 3) (d8A r D))))
    rw [hA.1]
    exact ((hA.add _).r3 (Nat.lt_succ_self _)).put (by show r < (d8A r D).1 + 1 + 1 + 1 + 1 + 1 + 1 + 1 + 1 + 1 + 1 + 1 + 1; omega)
  have b1 : r < (d8B r (d8A r D)).1 := by show r < (d8A r D).1 + 1 + 1 + 1 + 1 + 1 + 1 + 1 + 1 + 1 + 1 + 1 + 1; omega
  have hO : ∀ (k : Nat) (g : aG) (D : aD), Rep g D → r < D.1 → Rep (x8O r k g) (d8O r k D) ∧ r < (d8O r k D).1 := fun k g D h hr => by
    refine ⟨h.r8O hr, ?_⟩
    have e := (h.r8O (k := k) hr).1
    rw [x8O_1] at e
    have e3 := h.1
    omega
  obtain ⟨h2, c2⟩ := hO 2 _ _ hB b1
  obtain ⟨h3, c3⟩ := hO 3 _ _ h2 c2
  obtain ⟨h4, c4⟩ := hO 4 _ _ h3 c3
  show Rep (pG r 6 (some (x8O r 4 (x8O r 3 (x8O r 2 (x8B r (x8A r g))))).1) (g_add (x8O r 4 (x8O r 3 (x8O r 2 (x8B r (x8A r g))))) (.inl 1))) (dP r 6 (some (d8O r 4 (d8O r 3 (d8O r 2 (d8B r (d8A r D))))).1) (dA (.inl 1) (d8O r 4 (d8O r 3 (d8O r 2 (d8B r (d8A r D)))))))
  rw [h4.1]
  exact (h4.add _).put (Nat.lt_succ_of_lt c4)
theorem rep_9F : ∀ (l : List (Nat × FieldType × Nat)) (g : aG) (D : aD), Rep g D → r < D.1 → Rep (x9F r l g) (d9F r l D) := by
  intro l
  induction l with
  | nil => intro g D h _; exact h
  | cons e l ih =>
    intro g D h hr
    exact ih _ _ (h.rN (Nat.le_of_lt hr)) (by show r < D.1 + 1; omega)
end RepS
def d0 : aD := (1, [.inl 0], [])
def dF : aD := dA (.inr (.long, 1)) (d9F 328 arrL (dA (.inl 9) (d8 1 (dA (.inl 8) d0))))
def dLs : List aSh := [.inr (.long, 1), .inr (.int, 3600), .inr (.int, 60), .inr (.int, 60), .inr (.boolean, 60), .inr (.int, 60), .inr (.boolean, 60), .inr (.int, 60), .inr (.int, 6), .inr (.int, 120), .inr (.int, 12), .inr (.int, 6000), .inr (.int, 120), .inr (.int, 120), .inr (.boolean, 100), .inr (.int, 120), .inr (.boolean, 100), .inr (.int, 2), .inr (.int, 3200), .inr (.int, 3200), .inr (.int, 3200), .inr (.boolean, 3200), .inr (.int, 64), .inr (.int, 256), .inr (.int, 32), .inr (.int, 32), .inr (.int, 32), .inr (.int, 32), .inr (.int, 32), .inr (.int, 32), .inr (.int, 32), .inr (.int, 32), .inr (.int, 2002), .inr (.int, 2002), .inr (.int, 2002), .inr (.int, 4), .inr (.int, 80), .inr (.int, 80), .inr (.boolean, 80), .inr (.int, 80), .inr (.int, 80), .inr (.int, 80), .inr (.int, 80), .inl 9, .inl 1, .inr (.int, 65), .inl 6, .inr (.int, 65), .inl 6, .inr (.int, 65), .inl 6, .inr (.int, 65), .inl 6, .inr (.int, 65), .inl 6, .inr (.int, 65), .inl 6, .inr (.int, 65), .inl 6, .inr (.int, 65), .inl 6, .inr (.int, 65), .inl 6, .inr (.int, 65), .inl 6, .inr (.int, 65), .inl 6, .inr (.int, 65), .inl 6, .inr (.int, 65), .inl 6, .inr (.int, 65), .inl 6, .inr (.int, 65), .inl 6, .inr (.int, 65), .inl 6, .inr (.int, 65), .inl 6, .inr (.int, 65), .inl 6, .inr (.int, 65), .inl 6, .inr (.int, 65), .inl 6, .inr (.int, 65), .inl 6, .inr (.int, 65), .inl 6, .inr (.int, 65), .inl 6, .inr (.int, 65), .inl 6, .inr (.int, 65), .inl 6, .inr (.int, 65), .inl 6, .inr (.int, 65), .inl 6, .inr (.int, 65), .inl 6, .inr (.int, 65), .inl 6, .inr (.int, 65), .inl 6, .inr (.int, 65), .inl 6, .inr (.int, 65), .inl 6, .inr (.int, 65), .inl 6, .inr (.int, 65), .inl 6, .inr (.int, 65), .inl 6, .inr (.int, 65), .inl 6, .inr (.int, 65), .inl 6, .inr (.int, 65), .inl 6, .inr (.int, 65), .inl 6, .inr (.int, 65), .inl 6, .inr (.int, 65), .inl 6, .inr (.int, 65), .inl 6, .inr (.int, 65), .inl 6, .inr (.int, 65), .inl 6, .inr (.int, 65), .inl 6, .inr (.int, 65), .inl 6, .inr (.int, 65), .inl 6, .inr (.int, 65), .inl 6, .inr (.int, 65), .inl 6, .inr (.int, 65), .inl 6, .inr (.object RX6, 50), .inr (.int, 65), .inl 6, .inl 4, .inr (.int, 65), .inl 6, .inr (.int, 65), .inl 6, .inr (.int, 65), .inl 6, .inr (.int, 65), .inl 6, .inr (.int, 65), .inl 6, .inr (.int, 65), .inl 6, .inr (.int, 65), .inl 6, .inr (.int, 65), .inl 6, .inr (.int, 65), .inl 6, .inr (.int, 65), .inl 6, .inr (.int, 65), .inl 6, .inr (.int, 65), .inl 6, .inr (.int, 65), .inl 6, .inr (.int, 65), .inl 6, .inr (.int, 65), .inl 6, .inr (.int, 65), .inl 6, .inr (.int, 65), .inl 6, .inr (.int, 65), .inl 6, .inr (.int, 65), .inl 6, .inr (.int, 65), .inl 6, .inr (.int, 65), .inl 6, .inr (.int, 65), .inl 6, .inr (.int, 65), .inl 6, .inr (.int, 65), .inl 6, .inr (.int, 65), .inl 6, .inr (.int, 65), .inl 6, .inr (.int, 65), .inl 6, .inr (.int, 65), .inl 6, .inr (.int, 65), .inl 6, .inr (.int, 65), .inl 6, .inr (.int, 65), .inl 6, .inr (.int, 65), .inl 6, .inr (.int, 65), .inl 6, .inr (.int, 65), .inl 6, .inr (.int, 65), .inl 6, .inr (.int, 65), .inl 6, .inr (.int, 65), .inl 6, .inr (.int, 65), .inl 6, .inr (.int, 65), .inl 6, .inr (.int, 65), .inl 6, .inr (.int, 65), .inl 6, .inr (.int, 65), .inl 6, .inr (.int, 65), .inl 6, .inr (.int, 65), .inl 6, .inr (.int, 65), .inl 6, .inr (.int, 65), .inl 6, .inr (.int, 65), .inl 6, .inr (.int, 65), .inl 6, .inr (.int, 65), .inl 6, .inr (.int, 65), .inl 6, .inr (.object RX6, 50), .inr (.int, 65), .inl 6, .inl 4, .inr (.int, 65), .inl 6, .inr (.int, 65), .inl 6, .inr (.int, 65), .inl 6, .inr (.int, 65), .inl 6, .inr (.int, 65), .inl 6, .inr (.int, 65), .inl 6, .inr (.int, 65), .inl 6, .inr (.int, 65), .inl 6, .inr (.int, 65), .inl 6, .inr (.int, 65), .inl 6, .inr (.int, 65), .inl 6, .inr (.int, 65), .inl 6, .inr (.int, 65), .inl 6, .inr (.int, 65), .inl 6, .inr (.int, 65), .inl 6, .inr (.int, 65), .inl 6, .inr (.int, 65), .inl 6, .inr (.int, 65), .inl 6, .inr (.int, 65), .inl 6, .inr (.int, 65), .inl 6, .inr (.int, 65), .inl 6, .inr (.int, 65), .inl 6, .inr (.int, 65), .inl 6, .inr (.int, 65), .inl 6, .inr (.int, 65), .inl 6, .inr (.int, 65), .inl 6, .inr (.int, 65), .inl 6, .inr (.int, 65), .inl 6, .inr (.int, 65), .inl 6, .inr (.int, 65), .inl 6, .inr (.int, 65), .inl 6, .inr (.int, 65), .inl 6, .inr (.int, 65), .inl 6, .inr (.int, 65), .inl 6, .inr (.int, 65), .inl 6, .inr (.int, 65), .inl 6, .inr (.int, 65), .inl 6, .inr (.int, 65), .inl 6, .inr (.int, 65), .inl 6, .inr (.int, 65), .inl 6, .inr (.int, 65), .inl 6, .inr (.int, 65), .inl 6, .inr (.int, 65), .inl 6, .inr (.int, 65), .inl 6, .inr (.int, 65), .inl 6, .inr (.int, 65), .inl 6, .inr (.int, 65), .inl 6, .inr (.int, 65), .inl 6, .inr (.int, 65), .inl 6, .inr (.int, 65), .inl 6, .inr (.object RX6, 50), .inr (.int, 65), .inl 6, .inl 4, .inl 1, .inr (.int, 8), .inr (.int, 2001), .inr (.int, 2001), .inr (.int, 2001), .inl 2, .inr (.int, 3100), .inr (.int, 3100), .inr (.boolean, 3100), .inr (.int, 3100), .inl 5, .inl 3, .inr (.object RX7, 80), .inl 8, .inl 0]
def dLr : List (Nat × Nat × Option Nat) := [(328, 53, some 370), (328, 52, some 369), (328, 51, some 368), (328, 50, some 367), (328, 49, some 366), (328, 48, some 365), (328, 47, some 364), (328, 46, some 363), (328, 44, some 362), (328, 43, some 361), (328, 42, some 360), (328, 41, some 359), (328, 40, some 358), (328, 39, some 357), (328, 38, some 356), (328, 37, some 355), (328, 36, some 354), (328, 28, some 353), (328, 27, some 352), (328, 26, some 351), (328, 25, some 350), (328, 24, some 349), (328, 23, some 348), (328, 22, some 347), (328, 21, some 346), (328, 20, some 345), (328, 19, some 344), (328, 18, some 343), (328, 17, some 342), (328, 16, some 341), (328, 15, some 340), (328, 13, some 339), (328, 12, some 338), (328, 11, some 337), (328, 9, some 336), (328, 8, some 335), (328, 7, some 334), (328, 6, some 333), (328, 5, some 332), (328, 4, some 331), (328, 3, some 330), (328, 2, some 329), (1, 6, some 327), (1, 4, some 223), (226, 49, some 325), (325, 0, some 326), (226, 48, some 323), (323, 0, some 324), (226, 47, some 321), (321, 0, some 322), (226, 46, some 319), (319, 0, some 320), (226, 45, some 317), (317, 0, some 318), (226, 44, some 315), (315, 0, some 316), (226, 43, some 313), (313, 0, some 314), (226, 42, some 311), (311, 0, some 312), (226, 41, some 309), (309, 0, some 310), (226, 40, some 307), (307, 0, some 308), (226, 39, some 305), (305, 0, some 306), (226, 38, some 303), (303, 0, some 304), (226, 37, some 301), (301, 0, some 302), (226, 36, some 299), (299, 0, some 300), (226, 35, some 297), (297, 0, some 298), (226, 34, some 295), (295, 0, some 296), (226, 33, some 293), (293, 0, some 294), (226, 32, some 291), (291, 0, some 292), (226, 31, some 289), (289, 0, some 290), (226, 30, some 287), (287, 0, some 288), (226, 29, some 285), (285, 0, some 286), (226, 28, some 283), (283, 0, some 284), (226, 27, some 281), (281, 0, some 282), (226, 26, some 279), (279, 0, some 280), (226, 25, some 277), (277, 0, some 278), (226, 24, some 275), (275, 0, some 276), (226, 23, some 273), (273, 0, some 274), (226, 22, some 271), (271, 0, some 272), (226, 21, some 269), (269, 0, some 270), (226, 20, some 267), (267, 0, some 268), (226, 19, some 265), (265, 0, some 266), (226, 18, some 263), (263, 0, some 264), (226, 17, some 261), (261, 0, some 262), (226, 16, some 259), (259, 0, some 260), (226, 15, some 257), (257, 0, some 258), (226, 14, some 255), (255, 0, some 256), (226, 13, some 253), (253, 0, some 254), (226, 12, some 251), (251, 0, some 252), (226, 11, some 249), (249, 0, some 250), (226, 10, some 247), (247, 0, some 248), (226, 9, some 245), (245, 0, some 246), (226, 8, some 243), (243, 0, some 244), (226, 7, some 241), (241, 0, some 242), (226, 6, some 239), (239, 0, some 240), (226, 5, some 237), (237, 0, some 238), (226, 4, some 235), (235, 0, some 236), (226, 3, some 233), (233, 0, some 234), (226, 2, some 231), (231, 0, some 232), (226, 1, some 229), (229, 0, some 230), (226, 0, some 227), (227, 0, some 228), (223, 2, some 226), (223, 1, some 224), (224, 0, some 225), (1, 3, some 119), (122, 49, some 221), (221, 0, some 222), (122, 48, some 219), (219, 0, some 220), (122, 47, some 217), (217, 0, some 218), (122, 46, some 215), (215, 0, some 216), (122, 45, some 213), (213, 0, some 214), (122, 44, some 211), (211, 0, some 212), (122, 43, some 209), (209, 0, some 210), (122, 42, some 207), (207, 0, some 208), (122, 41, some 205), (205, 0, some 206), (122, 40, some 203), (203, 0, some 204), (122, 39, some 201), (201, 0, some 202), (122, 38, some 199), (199, 0, some 200), (122, 37, some 197), (197, 0, some 198), (122, 36, some 195), (195, 0, some 196), (122, 35, some 193), (193, 0, some 194), (122, 34, some 191), (191, 0, some 192), (122, 33, some 189), (189, 0, some 190), (122, 32, some 187), (187, 0, some 188), (122, 31, some 185), (185, 0, some 186), (122, 30, some 183), (183, 0, some 184), (122, 29, some 181), (181, 0, some 182), (122, 28, some 179), (179, 0, some 180), (122, 27, some 177), (177, 0, some 178), (122, 26, some 175), (175, 0, some 176), (122, 25, some 173), (173, 0, some 174), (122, 24, some 171), (171, 0, some 172), (122, 23, some 169), (169, 0, some 170), (122, 22, some 167), (167, 0, some 168), (122, 21, some 165), (165, 0, some 166), (122, 20, some 163), (163, 0, some 164), (122, 19, some 161), (161, 0, some 162), (122, 18, some 159), (159, 0, some 160), (122, 17, some 157), (157, 0, some 158), (122, 16, some 155), (155, 0, some 156), (122, 15, some 153), (153, 0, some 154), (122, 14, some 151), (151, 0, some 152), (122, 13, some 149), (149, 0, some 150), (122, 12, some 147), (147, 0, some 148), (122, 11, some 145), (145, 0, some 146), (122, 10, some 143), (143, 0, some 144), (122, 9, some 141), (141, 0, some 142), (122, 8, some 139), (139, 0, some 140), (122, 7, some 137), (137, 0, some 138), (122, 6, some 135), (135, 0, some 136), (122, 5, some 133), (133, 0, some 134), (122, 4, some 131), (131, 0, some 132), (122, 3, some 129), (129, 0, some 130), (122, 2, some 127), (127, 0, some 128), (122, 1, some 125), (125, 0, some 126), (122, 0, some 123), (123, 0, some 124), (119, 2, some 122), (119, 1, some 120), (120, 0, some 121), (1, 2, some 15), (18, 49, some 117), (117, 0, some 118), (18, 48, some 115), (115, 0, some 116), (18, 47, some 113), (113, 0, some 114), (18, 46, some 111), (111, 0, some 112), (18, 45, some 109), (109, 0, some 110), (18, 44, some 107), (107, 0, some 108), (18, 43, some 105), (105, 0, some 106), (18, 42, some 103), (103, 0, some 104), (18, 41, some 101), (101, 0, some 102), (18, 40, some 99), (99, 0, some 100), (18, 39, some 97), (97, 0, some 98), (18, 38, some 95), (95, 0, some 96), (18, 37, some 93), (93, 0, some 94), (18, 36, some 91), (91, 0, some 92), (18, 35, some 89), (89, 0, some 90), (18, 34, some 87), (87, 0, some 88), (18, 33, some 85), (85, 0, some 86), (18, 32, some 83), (83, 0, some 84), (18, 31, some 81), (81, 0, some 82), (18, 30, some 79), (79, 0, some 80), (18, 29, some 77), (77, 0, some 78), (18, 28, some 75), (75, 0, some 76), (18, 27, some 73), (73, 0, some 74), (18, 26, some 71), (71, 0, some 72), (18, 25, some 69), (69, 0, some 70), (18, 24, some 67), (67, 0, some 68), (18, 23, some 65), (65, 0, some 66), (18, 22, some 63), (63, 0, some 64), (18, 21, some 61), (61, 0, some 62), (18, 20, some 59), (59, 0, some 60), (18, 19, some 57), (57, 0, some 58), (18, 18, some 55), (55, 0, some 56), (18, 17, some 53), (53, 0, some 54), (18, 16, some 51), (51, 0, some 52), (18, 15, some 49), (49, 0, some 50), (18, 14, some 47), (47, 0, some 48), (18, 13, some 45), (45, 0, some 46), (18, 12, some 43), (43, 0, some 44), (18, 11, some 41), (41, 0, some 42), (18, 10, some 39), (39, 0, some 40), (18, 9, some 37), (37, 0, some 38), (18, 8, some 35), (35, 0, some 36), (18, 7, some 33), (33, 0, some 34), (18, 6, some 31), (31, 0, some 32), (18, 5, some 29), (29, 0, some 30), (18, 4, some 27), (27, 0, some 28), (18, 3, some 25), (25, 0, some 26), (18, 2, some 23), (23, 0, some 24), (18, 1, some 21), (21, 0, some 22), (18, 0, some 19), (19, 0, some 20), (15, 2, some 18), (15, 1, some 16), (16, 0, some 17), (1, 1, some 3), (3, 3, some 14), (3, 2, some 13), (3, 1, some 9), (9, 2, some 12), (9, 1, some 11), (9, 0, some 10), (3, 0, some 4), (4, 3, some 8), (4, 2, some 7), (4, 1, some 6), (4, 0, some 5), (1, 0, some 2)]
theorem dF_eq : dF = (372, dLs, dLr) := by decide +kernel
def rfB (v : aV) (r : Option Nat) : Bool := match v with
  | .inr (.inl j) => decide (r = some j)
  | .inr (.inr (.inl q)) => decide (r = q)
  | _ => false
theorem rfB_ok {v : aV} {r : Option Nat} (h : rfB v r = true) : rfV v r := by
  rcases v with x | j | q | x
  · cases h
  · show r = some j
    exact of_decide_eq_true h
  · show r = q
    exact of_decide_eq_true h
  · cases h
def chW (i : Nat) : Bool := match sT i with
  | none => true
  | some c => decide (0 < i) && decide (shL (372, dLs, dLr) i = some c) && (List.range 54).all (fun k => match (tS 327 14).2 i k with
    | none => true
    | some v => rfB v (rfL dLr i k))
theorem chW_ok : ∀ i, i < 372 → chW i = true := by decide +kernel
def chO (o : Nat) : Bool := decide (shL (372, dLs, dLr) o = some (.inl 4)) && decide (rfL dLr o 1 = some (o + 1)) && decide (rfL dLr o 2 = some (o + 3)) && decide (shL (372, dLs, dLr) (o + 3) = some (.inr (.object RX6, 50))) && decide (shL (372, dLs, dLr) (o + 1) = some (.inl 6)) && decide (rfL dLr (o + 1) 0 = some (o + 2)) && decide (shL (372, dLs, dLr) (o + 2) = some (.inr (.int, 65))) &&
  (List.range 50).all (fun k => decide (rfL dLr (o + 3) k = some (o + 4 + 2 * k)) && decide (shL (372, dLs, dLr) (o + 4 + 2 * k) = some (.inl 6)) && decide (rfL dLr (o + 4 + 2 * k) 0 = some (o + 5 + 2 * k)) && decide (shL (372, dLs, dLr) (o + 5 + 2 * k) = some (.inr (.int, 65))))
theorem chO_1 : chO 15 = true := by decide +kernel
theorem chO_2 : chO 119 = true := by decide +kernel
theorem chO_3 : chO 223 = true := by decide +kernel
theorem chL : shL (372, dLs, dLr) 327 = some (.inl 1) := by decide +kernel
theorem rTa_len : ∀ i, i < 17 → ∀ l ∈ nthO rTa i, l.length ≤ 5 := by decide +kernel
theorem nthO_no {α : Type} {l : List (Option α)} {k : Nat} (h : l.length ≤ k) : nthO l k = none := by
  unfold nthO
  rw [nth_no l k h]
theorem rT_54 {i k j : Nat} (h : rT i k = some j) : k < 54 := by
  rcases Nat.lt_or_ge k 54 with q | q
  · exact q
  · exfalso
    unfold rT at h
    rw [nthO_no (l := rTm) (by show 54 ≤ k; exact q), nthO_no (l := [none, some 120, some 122]) (by show 3 ≤ k; omega), nthO_no (l := [some 121]) (by show 1 ≤ k; omega), nthO_no (l := [none, some 224, some 226]) (by show 3 ≤ k; omega), nthO_no (l := [some 225]) (by show 1 ≤ k; omega)] at h
    by_cases c : Nat.ble i 16 = true
    · rw [c] at h
      have hi : i < 17 := by have := Nat.le_of_ble_eq_true c; omega
      have h9 : rTk (nthO rTa i) k = none := by
        cases hq : nthO rTa i with
        | none => rfl
        | some l =>
          have h5 := rTa_len i hi l (by rw [hq]; rfl)
          show nthO l k = none
          exact nthO_no (by omega)
      rw [h9] at h
      cases hb : Nat.beq i 328 <;> rw [hb] at h <;> cases h
    · have c' : Nat.ble i 16 = false := by cases hb : Nat.ble i 16 with
        | false => rfl
        | true => exact absurd hb c
      rw [c'] at h
      cases hb : Nat.beq i 328 <;> rw [hb] at h
      · cases h1 : Nat.beq i 119 <;> rw [h1] at h
        · cases h2 : Nat.beq i 120 <;> rw [h2] at h
          · cases h3 : Nat.beq i 223 <;> rw [h3] at h
            · cases h4 : Nat.beq i 224 <;> rw [h4] at h <;> cases h
            · cases h
          · cases h
        · cases h
      · cases h
theorem tS_54 {lx ly i k : Nat} {v : aV} (h : (tS lx ly).2 i k = some v) : k < 54 := by
  have h' : cond (Nat.beq i 3 && Nat.beq k 3) (some (vD (some ly))) (cond (Nat.beq i 1 && Nat.beq k 6) (some (vD (some lx))) (match rT i k with | some j => some (vS j) | none => none)) = some v := h
  cases c1 : (Nat.beq i 3 && Nat.beq k 3) with
  | true =>
    rw [Bool.and_eq_true] at c1
    have := Nat.eq_of_beq_eq_true c1.2
    omega
  | false =>
    rw [c1] at h'
    cases c2 : (Nat.beq i 1 && Nat.beq k 6) with
    | true =>
      rw [Bool.and_eq_true] at c2
      have := Nat.eq_of_beq_eq_true c2.2
      omega
    | false =>
      rw [c2] at h'
      cases hr : rT i k with
      | none => rw [hr] at h'; cases h'
      | some j => exact rT_54 hr
theorem rep_ws {g : aG} (h : Rep g (372, dLs, dLr)) : WS 327 14 g := by
  intro i c hi
  have hl := sT_le hi
  have h9 := chW_ok i (by omega)
  unfold chW at h9
  have hi' : sT i = some c := hi
  rw [hi'] at h9
  simp only [Bool.and_eq_true, decide_eq_true_eq] at h9
  obtain ⟨⟨q1, q2⟩, q3⟩ := h9
  refine ⟨by omega, by rw [h.2.2.1 i q1]; exact q2, fun k v hv => ?_⟩
  have h8 := List.all_eq_true.mp q3 k (List.mem_range.mpr (tS_54 hv))
  rw [hv] at h8
  rw [h.2.2.2.1 i k]
  exact rfB_ok h8
theorem rep_og {g : aG} {o : Nat} (h : Rep g (372, dLs, dLr)) (ho : 13 < o) (hc : chO o = true) : OG g o := by
  unfold chO at hc
  simp only [Bool.and_eq_true, decide_eq_true_eq] at hc
  obtain ⟨⟨⟨⟨⟨⟨⟨q1, q2⟩, q3⟩, q4⟩, q5⟩, q6⟩, q7⟩, q8⟩ := hc
  have hs := fun i (hi : 0 < i) => h.2.2.1 i hi
  have hr := h.2.2.2.1
  refine ⟨ho, by rw [hs o (by omega)]; exact q1, by rw [hr]; exact q2, by rw [hr]; exact q3, by rw [hs (o + 3) (by omega)]; exact q4, ⟨by rw [hs (o + 1) (by omega)]; exact q5, by rw [hr]; exact q6, by rw [hs (o + 2) (by omega)]; exact q7, by omega⟩, fun k hk => ?_⟩
  have h8 := List.all_eq_true.mp q8 k (List.mem_range.mpr hk)
  simp only [Bool.and_eq_true, decide_eq_true_eq] at h8
  obtain ⟨⟨⟨z1, z2⟩, z3⟩, z4⟩ := h8
  exact ⟨by rw [hr]; exact z1, by rw [hs _ (by omega)]; exact z2, by rw [hr]; exact z3, by rw [hs _ (by omega)]; exact z4, by omega⟩
