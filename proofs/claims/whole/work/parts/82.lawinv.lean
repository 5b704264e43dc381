/-! the law: what stands between its calls -/
theorem SP.mk {A : aA} {b : aB} {h n na nb : Nat} (hP : SP A) (h8 : A.cnt < 80) (hk : b.1 ≤ 18) (hh : 1 ≤ h) (hf : 6 ≤ b.1 → b.1 ≤ 13 → b.2.2.2.2.1 < A.cnt ∧ A.hg b.2.2.2.2.1 < h ∧ na = A.nd b.2.2.2.2.1) (hs : 6 ≤ b.1 → b.1 ≤ 9 → b.2.2.2.2.2 < A.cnt ∧ A.hg b.2.2.2.2.2 < h ∧ nb = A.nd b.2.2.2.2.2) (hn : n = kbN b.1 ||| na ||| nb) : SP (mkS A b h n) := by
  obtain ⟨p1, p2, p3, p4⟩ := hP
  refine ⟨p1, fun t ht => ?_, fun t ht => ?_, by show A.cnt + 1 ≤ 80; omega⟩
  · have ht' : t < A.cnt + 1 := ht
    show (up1 A.B A.cnt b t).1 ≤ 18 ∧ 1 ≤ up1 A.hg A.cnt h t ∧ (6 ≤ (up1 A.B A.cnt b t).1 → (up1 A.B A.cnt b t).1 ≤ 13 → (up1 A.B A.cnt b t).2.2.2.2.1 < A.cnt + 1 ∧ up1 A.hg A.cnt h (up1 A.B A.cnt b t).2.2.2.2.1 < up1 A.hg A.cnt h t) ∧ (6 ≤ (up1 A.B A.cnt b t).1 → (up1 A.B A.cnt b t).1 ≤ 9 → (up1 A.B A.cnt b t).2.2.2.2.2 < A.cnt + 1 ∧ up1 A.hg A.cnt h (up1 A.B A.cnt b t).2.2.2.2.2 < up1 A.hg A.cnt h t)
    by_cases e : t = A.cnt
    · rw [e, up1_s, up1_s]
      refine ⟨hk, hh, fun c1 c2 => ?_, fun c1 c2 => ?_⟩
      · obtain ⟨z1, z2, -⟩ := hf c1 c2
        exact ⟨by omega, by rw [up1_n (by omega)]; exact z2⟩
      · obtain ⟨z1, z2, -⟩ := hs c1 c2
        exact ⟨by omega, by rw [up1_n (by omega)]; exact z2⟩
    · rw [up1_n e, up1_n e]
      obtain ⟨y1, y2, y3, y4⟩ := p2 t (by omega)
      refine ⟨y1, y2, fun c1 c2 => ?_, fun c1 c2 => ?_⟩
      · obtain ⟨z1, z2⟩ := y3 c1 c2
        exact ⟨by omega, by rw [up1_n (by omega)]; exact z2⟩
      · obtain ⟨z1, z2⟩ := y4 c1 c2
        exact ⟨by omega, by rw [up1_n (by omega)]; exact z2⟩
  · have ht' : t < A.cnt + 1 := ht
    show ∀ p, lkP p (up1 A.nd A.cnt n t) → lkP p (kbN (up1 A.B A.cnt b t).1) ∧ (6 ≤ (up1 A.B A.cnt b t).1 → (up1 A.B A.cnt b t).1 ≤ 13 → lkP p (up1 A.nd A.cnt n (up1 A.B A.cnt b t).2.2.2.2.1)) ∧ (6 ≤ (up1 A.B A.cnt b t).1 → (up1 A.B A.cnt b t).1 ≤ 9 → lkP p (up1 A.nd A.cnt n (up1 A.B A.cnt b t).2.2.2.2.2))
    intro p hl
    by_cases e : t = A.cnt
    · rw [e, up1_s] at hl ⊢
      rw [hn] at hl
      obtain ⟨l1, l3⟩ := or_lk.mp hl
      obtain ⟨l1, l2⟩ := or_lk.mp l1
      refine ⟨l1, fun c1 c2 => ?_, fun c1 c2 => ?_⟩
      · obtain ⟨z1, -, z3⟩ := hf c1 c2
        rw [up1_n (by omega), ← z3]; exact l2
      · obtain ⟨z1, -, z3⟩ := hs c1 c2
        rw [up1_n (by omega), ← z3]; exact l3
    · rw [up1_n e] at hl ⊢
      obtain ⟨y1, y3, y4⟩ := p3 t (by omega) p hl
      obtain ⟨-, -, x3, x4⟩ := p2 t (by omega)
      refine ⟨y1, fun c1 c2 => ?_, fun c1 c2 => ?_⟩
      · have := (x3 c1 c2).1
        rw [up1_n (by omega)]; exact y3 c1 c2
      · have := (x4 c1 c2).1
        rw [up1_n (by omega)]; exact y4 c1 c2
theorem tmP.cl {cnt : Nat} {x : Int32} (h : tmP cnt x) (hc : cnt ≤ 80) : x.toNatClampNeg < cnt := by
  obtain ⟨t, ht, rfl⟩ := h.idx hc
  rw [clN (by omega)]; exact ht
section SPL
variable {A A' : aA} {b x y z s code val : Int32}
theorem sp_mkA {c1 c3 c2 : Int32} {C1 C3 C2 : Prop} {bb : aB} {h n : Nat} (hP : SP A) (hR : mkA c1 c3 c2 C1 C3 C2 A bb h n code val A') (hc : ¬ C1 → ¬ C3 → ¬ C2 → SP (mkS A bb h n)) : SP A' := by
  obtain ⟨-, ⟨-, a1, a2, a3, rfl⟩ | ⟨-, -, rfl⟩ | ⟨-, -, -, rfl⟩ | ⟨-, -, -, -, rfl⟩⟩ := hR
  · exact hc a1 a2 a3
  · exact hP
  · exact hP
  · exact hP
theorem sp_give (hP : SP A) (hR : mkA 1 0 2 (¬ (b = 0 ∨ nmP x)) False (¬ (A.cnt < 80 ∧ 1 + max 0 0 ≤ 30)) A (0, b, x, (-1), 0, 0) (1 + max 0 0) (kbN 0 ||| 0 ||| 0) code val A') : SP A' := by
  refine sp_mkA hP hR (fun a1 a2 a3 => ?_)
  have b4 := Decidable.of_not_not a3
  exact hP.mk (na := 0) (nb := 0) b4.1 (by show 0 ≤ 18; omega) (by decide) (fun q _ => by dsimp only at q; omega) (fun q _ => by dsimp only at q; omega) rfl
theorem sp_of (hP : SP A) (hR : mkA 1 2 3 (¬ (nmP x ∧ nmP y)) (¬ (0 ≤ z ∧ z < 5)) (¬ (A.cnt < 80 ∧ 1 + max 0 0 ≤ 30)) A (14 + z.toNatClampNeg, 1, x, y, 0, 0) (1 + max 0 0) (kbN (14 + z.toNatClampNeg) ||| 0 ||| 0) code val A') : SP A' := by
  refine sp_mkA hP hR (fun a1 a2 a3 => ?_)
  have b4 := Decidable.of_not_not a3
  have hz : 0 ≤ z ∧ z < 5 := Decidable.of_not_not a2
  obtain ⟨j, hj, ej⟩ := tmP.idx (cnt := 5) ⟨hz.1, hz.2⟩ (by omega)
  have hj2 : z.toNatClampNeg = j := by rw [ej]; exact clN (by omega)
  exact hP.mk (na := 0) (nb := 0) b4.1 (by show 14 + z.toNatClampNeg ≤ 18; omega) (by decide) (fun _ q => by dsimp only at q; omega) (fun _ q => by dsimp only at q; omega) rfl
theorem sp_read (hP : SP A) (hR : mkA 0 0 1 (¬ ((0 : Int32) = 0 ∨ nmP 0)) False (¬ (A.cnt < 80 ∧ 1 + max 0 0 ≤ 30)) A (1, 0, 0, (-1), 0, 0) (1 + max 0 0) (kbN 1 ||| 0 ||| 0) code val A') : SP A' := by
  refine sp_mkA hP hR (fun a1 a2 a3 => ?_)
  have b4 := Decidable.of_not_not a3
  exact hP.mk (na := 0) (nb := 0) b4.1 (by show 1 ≤ 18; omega) (by decide) (fun q _ => by dsimp only at q; omega) (fun q _ => by dsimp only at q; omega) rfl
theorem sp_write (hP : SP A) (hR : mkA 1 0 2 (¬ (b = 0 ∨ nmP x)) False (¬ (A.cnt < 80 ∧ 1 + max 0 0 ≤ 30)) A (2, b, x, (-1), 0, 0) (1 + max 0 0) (kbN 2 ||| 0 ||| 0) code val A') : SP A' := by
  refine sp_mkA hP hR (fun a1 a2 a3 => ?_)
  have b4 := Decidable.of_not_not a3
  exact hP.mk (na := 0) (nb := 0) b4.1 (by show 2 ≤ 18; omega) (by decide) (fun q _ => by dsimp only at q; omega) (fun q _ => by dsimp only at q; omega) rfl
theorem sp_say (hP : SP A) (hR : mkA 1 0 2 (¬ (b = 0 ∨ nmP x)) False (¬ (A.cnt < 80 ∧ 1 + max 0 0 ≤ 30)) A (3, b, x, (-1), 0, 0) (1 + max 0 0) (kbN 3 ||| 0 ||| 0) code val A') : SP A' := by
  refine sp_mkA hP hR (fun a1 a2 a3 => ?_)
  have b4 := Decidable.of_not_not a3
  exact hP.mk (na := 0) (nb := 0) b4.1 (by show 3 ≤ 18; omega) (by decide) (fun q _ => by dsimp only at q; omega) (fun q _ => by dsimp only at q; omega) rfl
theorem sp_fail (hP : SP A) (hR : mkA 1 0 2 (¬ (b = 0 ∨ nmP x)) False (¬ (A.cnt < 80 ∧ 1 + max 0 0 ≤ 30)) A (4, b, x, (-1), 0, 0) (1 + max 0 0) (kbN 4 ||| 0 ||| 0) code val A') : SP A' := by
  refine sp_mkA hP hR (fun a1 a2 a3 => ?_)
  have b4 := Decidable.of_not_not a3
  exact hP.mk (na := 0) (nb := 0) b4.1 (by show 4 ≤ 18; omega) (by decide) (fun q _ => by dsimp only at q; omega) (fun q _ => by dsimp only at q; omega) rfl
theorem sp_none (hP : SP A) (hR : mkA 0 0 1 (¬ ((0 : Int32) = 0 ∨ nmP 0)) False (¬ (A.cnt < 80 ∧ 1 + max 0 0 ≤ 30)) A (5, 0, 0, (-1), 0, 0) (1 + max 0 0) (kbN 5 ||| 0 ||| 0) code val A') : SP A' := by
  refine sp_mkA hP hR (fun a1 a2 a3 => ?_)
  have b4 := Decidable.of_not_not a3
  exact hP.mk (na := 0) (nb := 0) b4.1 (by show 5 ≤ 18; omega) (by decide) (fun q _ => by dsimp only at q; omega) (fun q _ => by dsimp only at q; omega) rfl
theorem sp_either (hP : SP A) (hR : mkA 1 0 2 (¬ (tmP A.cnt x ∧ tmP A.cnt y)) False (¬ (A.cnt < 80 ∧ 1 + max (A.hg x.toNatClampNeg) (A.hg y.toNatClampNeg) ≤ 30)) A (6, 0, 0, (-1), x.toNatClampNeg, y.toNatClampNeg) (1 + max (A.hg x.toNatClampNeg) (A.hg y.toNatClampNeg)) (kbN 6 ||| A.nd x.toNatClampNeg ||| A.nd y.toNatClampNeg) code val A') : SP A' := by
  refine sp_mkA hP hR (fun a1 a2 a3 => ?_)
  have b4 := Decidable.of_not_not a3
  have hq : tmP A.cnt x ∧ tmP A.cnt y := Classical.byContradiction a1
  have i1 := hq.1.cl hP.2.2.2
  have i2 := hq.2.cl hP.2.2.2
  exact hP.mk b4.1 (by show 6 ≤ 18; omega) (by omega) (fun _ _ => ⟨i1, by dsimp only; omega, rfl⟩) (fun _ _ => ⟨i2, by dsimp only; omega, rfl⟩) rfl
theorem sp_then (hP : SP A) (hR : mkA 1 0 2 (¬ (nmP y ∧ tmP A.cnt x ∧ tmP A.cnt z)) False (¬ (A.cnt < 80 ∧ 1 + max (A.hg x.toNatClampNeg) (A.hg z.toNatClampNeg) ≤ 30)) A (7, 0, 0, y, x.toNatClampNeg, z.toNatClampNeg) (1 + max (A.hg x.toNatClampNeg) (A.hg z.toNatClampNeg)) (kbN 7 ||| A.nd x.toNatClampNeg ||| A.nd z.toNatClampNeg) code val A') : SP A' := by
  refine sp_mkA hP hR (fun a1 a2 a3 => ?_)
  have b4 := Decidable.of_not_not a3
  have hq := Classical.byContradiction a1
  have i1 := hq.2.1.cl hP.2.2.2
  have i2 := hq.2.2.cl hP.2.2.2
  exact hP.mk b4.1 (by show 7 ≤ 18; omega) (by omega) (fun _ _ => ⟨i1, by dsimp only; omega, rfl⟩) (fun _ _ => ⟨i2, by dsimp only; omega, rfl⟩) rfl
theorem sp_saved (hP : SP A) (hR : mkA 1 0 2 (¬ (nmP y ∧ tmP A.cnt x ∧ tmP A.cnt z)) False (¬ (A.cnt < 80 ∧ 1 + max (A.hg x.toNatClampNeg) (A.hg z.toNatClampNeg) ≤ 30)) A (8, 0, 0, y, x.toNatClampNeg, z.toNatClampNeg) (1 + max (A.hg x.toNatClampNeg) (A.hg z.toNatClampNeg)) (kbN 8 ||| A.nd x.toNatClampNeg ||| A.nd z.toNatClampNeg) code val A') : SP A' := by
  refine sp_mkA hP hR (fun a1 a2 a3 => ?_)
  have b4 := Decidable.of_not_not a3
  have hq := Classical.byContradiction a1
  have i1 := hq.2.1.cl hP.2.2.2
  have i2 := hq.2.2.cl hP.2.2.2
  exact hP.mk b4.1 (by show 8 ≤ 18; omega) (by omega) (fun _ _ => ⟨i1, by dsimp only; omega, rfl⟩) (fun _ _ => ⟨i2, by dsimp only; omega, rfl⟩) rfl
theorem sp_when (hP : SP A) (hR : mkA 1 0 2 (¬ (nmP x ∧ tmP A.cnt y ∧ tmP A.cnt z)) False (¬ (A.cnt < 80 ∧ 1 + max (A.hg y.toNatClampNeg) (A.hg z.toNatClampNeg) ≤ 30)) A (9, 0, 0, x, y.toNatClampNeg, z.toNatClampNeg) (1 + max (A.hg y.toNatClampNeg) (A.hg z.toNatClampNeg)) (kbN 9 ||| A.nd y.toNatClampNeg ||| A.nd z.toNatClampNeg) code val A') : SP A' := by
  refine sp_mkA hP hR (fun a1 a2 a3 => ?_)
  have b4 := Decidable.of_not_not a3
  have hq := Classical.byContradiction a1
  have i1 := hq.2.1.cl hP.2.2.2
  have i2 := hq.2.2.cl hP.2.2.2
  exact hP.mk b4.1 (by show 9 ≤ 18; omega) (by omega) (fun _ _ => ⟨i1, by dsimp only; omega, rfl⟩) (fun _ _ => ⟨i2, by dsimp only; omega, rfl⟩) rfl
theorem sp_times (hP : SP A) (hR : mkA 1 0 2 (¬ ((b = 0 ∨ nmP x) ∧ tmP A.cnt y)) False (¬ (A.cnt < 80 ∧ 1 + max (A.hg y.toNatClampNeg) 0 ≤ 30)) A (10, b, x, (-1), y.toNatClampNeg, 0) (1 + max (A.hg y.toNatClampNeg) 0) (kbN 10 ||| A.nd y.toNatClampNeg ||| 0) code val A') : SP A' := by
  refine sp_mkA hP hR (fun a1 a2 a3 => ?_)
  have b4 := Decidable.of_not_not a3
  have hq := Classical.byContradiction a1
  have i1 := hq.2.cl hP.2.2.2
  exact hP.mk (nb := 0) b4.1 (by show 10 ≤ 18; omega) (by omega) (fun _ _ => ⟨i1, by dsimp only; omega, rfl⟩) (fun _ q => by dsimp only at q; omega) rfl
theorem sp_as (hP : SP A) (hR : mkA 1 2 3 (¬ tmP A.cnt y) (¬ (0 ≤ z ∧ z < 3)) (¬ (A.cnt < 80 ∧ 1 + max (A.hg y.toNatClampNeg) 0 ≤ 30)) A (11 + z.toNatClampNeg, 0, 0, (-1), y.toNatClampNeg, 0) (1 + max (A.hg y.toNatClampNeg) 0) (kbN (11 + z.toNatClampNeg) ||| A.nd y.toNatClampNeg ||| 0) code val A') : SP A' := by
  refine sp_mkA hP hR (fun a1 a2 a3 => ?_)
  have b4 := Decidable.of_not_not a3
  have hq := Classical.byContradiction a1
  have i1 := hq.cl hP.2.2.2
  have hz : 0 ≤ z ∧ z < 3 := Decidable.of_not_not a2
  obtain ⟨j, hj, ej⟩ := tmP.idx (cnt := 3) ⟨hz.1, hz.2⟩ (by omega)
  have hj2 : z.toNatClampNeg = j := by rw [ej]; exact clN (by omega)
  exact hP.mk (nb := 0) b4.1 (by show 11 + z.toNatClampNeg ≤ 18; omega) (by omega) (fun _ _ => ⟨i1, by dsimp only; omega, rfl⟩) (fun _ q => by dsimp only at q; omega) rfl
theorem sp_needs (hP : SP A) (hR : neR A x code val A') : SP A' := by obtain ⟨rfl, -⟩ := hR; exact hP
theorem sp_run (hP : SP A) (hR : ruR A x s z code val A') : SP A' := by
  rcases hR with ⟨-, -, -, -, W, -, rfl⟩ | ⟨-, -, rfl⟩ | ⟨-, -, -, rfl⟩ | ⟨-, -, -, -, rfl⟩
  · have k1 := evA_ok (p := A.p) (B := A.B) (s := s) (W := W) (lim := z.toNatClampNeg) (t := x.toNatClampNeg)
    exact ⟨⟨k1.1, fun c => (k1.2.2 c).1⟩, hP.2⟩
  · exact hP
  · exact hP
  · exact hP
theorem sp_tell {Ro : Option aRw} (hP : SP A) (hR : tqR A Ro x code val A') : SP A' := by obtain ⟨rfl, -⟩ := hR; exact hP
theorem sp_alike (hP : SP A) (hR : alR A x y s z code val A') : SP A' := by obtain ⟨rfl, -⟩ := hR; exact hP
theorem sp_order {a c e : Int32} (hP : SP A) (hR : orR A a b c e code val A') : SP A' := by
  rcases hR with ⟨-, m, -, -, rfl⟩ | ⟨-, -, rfl⟩
  · exact hP
  · exact hP
end SPL
theorem SR.fr {A : aA} {I I' : aI} (h : SR A I) (ho : okA A.la) (h6 : rw6 A.la) (a : ∀ i, 328 ≤ i ∧ i ≤ 370 → I' i = I i) : SR A I' :=
  h.frame ho h6 (fun i k c => by rw [a i (by omega)]) ⟨by rw [a 337 (by omega)]; exact h.2.2.1.1, by rw [a 338 (by omega)]; exact h.2.2.1.2.1, by rw [a 339 (by omega)]; exact h.2.2.1.2.2⟩
theorem SC.fr {A : aA} {g : aG} {I I' : aI} (h : SC A g I) (ho : okA A.la) (a : FrR I I') : SC A g I' := by
  obtain ⟨lx, ly, τ, ⟨hm, ht, hτ, ⟨x1, x2, x3, x4, x5⟩, o, top, t1, t2⟩, hl⟩ := h
  obtain ⟨hw, hg1, hc, h8, hT⟩ := hm
  refine ⟨lx, ly, τ, ⟨⟨hw, hg1, by rw [a 1 (by omega)]; exact hc, h8, fun t htc => ⟨(hT t htc).1, ?_⟩⟩, fun t htc => ?_, hτ, ⟨x1, x2, x3, x4.eq (a lx (by omega)), by rw [a lx (by omega)]; exact x5⟩, o, top, t1, by rw [a 4 (by omega)]; exact t2⟩, hl.eq ho (fun i hi => a i (by unfold inO at hi; omega))⟩
  · obtain ⟨p1, p2, p3, p4, p5, p6⟩ := (hT t htc).2
    have e := a (τ t) (by have := hτ t htc; omega)
    exact ⟨p1, p2, by rw [e]; exact p3, by rw [e]; exact p4, p5, p6⟩
  · have e := a (τ t) (by have := hτ t htc; omega)
    rw [e]
    exact ht t htc
/-- all that stands at the loop's head -/
def LI (n : Nat) (g : aG) (I : aI) : Prop := ∃ A, SP A ∧ SC A g I ∧ SR A I ∧ g.2.1 0 = some (.inr (.int, n))
theorem SC.rows {A : aA} {g : aG} {I : aI} (h : SC A g I) : ∀ (R : aRw) (k : Int32), (rowA A.la k = some R ∨ comA A.la = some R) → LenOk (R.2 4) R.1 ∧ R.1 ≤ 60 := by
  obtain ⟨lx, ly, τ, -, hl⟩ := h
  exact hl.rows
theorem SC.ws {A : aA} {g : aG} {I : aI} (h : SC A g I) : ∃ lx ly, WS lx ly g := by
  obtain ⟨lx, ly, τ, hI, -⟩ := h
  exact ⟨lx, ly, hI.1.1⟩
theorem lgc {x y : Int64} (h : x = y) : lg_cmp x y = 0 := by
  subst h
  unfold lg_cmp
  simp
