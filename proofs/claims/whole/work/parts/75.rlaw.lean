/-! what stands between two calls: the reference -/
def SR (A : aA) (I : aI) : Prop := MR I A.hg A.nd A.cnt ∧ Tr I A.p A.B A.cnt ∧ (I 337 0 = 0 ∧ I 338 0 = 0 ∧ I 339 0 = 0) ∧ LaR I A.la
def Nb (B : mB) (nd : Nat → Nat) (cnt : Nat) : Prop := ∀ t, t < cnt → ∀ p, lkP p (nd t) → lkP p (kbN (B t).1) ∧ (6 ≤ (B t).1 → (B t).1 ≤ 13 → lkP p (nd (B t).2.2.2.2.1)) ∧ (6 ≤ (B t).1 → (B t).1 ≤ 9 → lkP p (nd (B t).2.2.2.2.2))
def SP (A : aA) : Prop := okA A.la ∧ Bw A.B A.hg A.cnt ∧ Nb A.B A.nd A.cnt ∧ A.cnt ≤ 80
def rw6 (la : aLa) : Prop := ∀ (R : aRw) (k : Int32), (rowA la k = some R ∨ comA la = some R) → R.1 ≤ 60
def FrR (I I' : aI) : Prop := ∀ i, i < 328 ∨ 370 < i → I' i = I i
def rfQ (code val : Int32) (A' : aA) (g : aG) (I : aI) (L : aL) : aQ := fun o g' I' L' => g' = g ∧ L' = L ∧ (∃ v, o = .inl (some (vI v)) ∧ (code = 0 → v = val)) ∧ I' 328 0 = code ∧ SR A' I' ∧ FrR I I'
def TrV (kr : Nat) (a c n nm : Int32) (b : aB) : Prop :=
  kr = kR b.1 ∧
  (b.1 ≤ 5 → a = b.2.2.1 ∧ nm = b.2.1 ∧ (b.2.1 = 0 ∨ (b.2.1 = 1 ∧ ∃ j, j < 8 ∧ b.2.2.1 = nI j))) ∧
  (14 ≤ b.1 → b.2.1 = 1 ∧ nm = 0 ∧ n = nI (b.1 - 14) ∧ a = b.2.2.1 ∧ c = b.2.2.2.1 ∧ (∃ j, j < 8 ∧ b.2.2.1 = nI j) ∧ ∃ j, j < 8 ∧ b.2.2.2.1 = nI j) ∧
  (6 ≤ b.1 → b.1 ≤ 13 → a = nI b.2.2.2.2.1) ∧
  (6 ≤ b.1 → b.1 ≤ 9 → c = nI b.2.2.2.2.2) ∧
  (7 ≤ b.1 → b.1 ≤ 9 → n = b.2.2.2.1 ∧ ∃ j, j < 8 ∧ b.2.2.2.1 = nI j) ∧
  (b.1 = 10 → c = b.2.2.1 ∧ nm = b.2.1 ∧ (b.2.1 = 0 ∨ (b.2.1 = 1 ∧ ∃ j, j < 8 ∧ b.2.2.1 = nI j)))
theorem TrT.eq {I I' : aI} {b : aB} {t : Nat} (h : TrT I b t) (q : ∀ i, 329 ≤ i → i ≤ 333 → I' i t = I i t) : TrT I' b t := by
  unfold TrT at h ⊢
  rw [q 329 (by omega) (by omega), q 330 (by omega) (by omega), q 331 (by omega) (by omega), q 332 (by omega) (by omega), q 333 (by omega) (by omega)]
  exact h
theorem SR.thr {A : aA} {I : aI} {v : Int32} (h : SR A I) (ho : okA A.la) (h6 : rw6 A.la) : SR A (up2 I 328 0 v) := by
  obtain ⟨h1, h2, h3, h4⟩ := h
  refine ⟨h1.thr, ⟨?_, fun t ht => (h2.2 t ht).eq (fun i a b => up2_i (by omega))⟩, ⟨?_, ?_, ?_⟩, h4.eq ho h6 (fun i k c => up2_n (by omega))⟩
  · rw [← h2.1]; funext k; exact up2_i (by omega)
  · rw [up2_i (by omega)]; exact h3.1
  · rw [up2_i (by omega)]; exact h3.2.1
  · rw [up2_i (by omega)]; exact h3.2.2
theorem up1_n {α : Type} {f : Nat → α} {i j : Nat} {v : α} (h : j ≠ i) : up1 f i v j = f j := by unfold up1; rw [if_neg h]
theorem SR.mk {A : aA} {I : aI} {kr h n : Nat} {a c n' nm : Int32} {b : aB} (q : SR A I) (ho : okA A.la) (h6 : rw6 A.la) (h8 : A.cnt < 80) (hh : h ≤ 30) (hn : n < 16) (hv : TrV kr a c n' nm b) : SR (mkS A b h n) (mrI I A.cnt kr a c n' nm (nI n) h) := by
  obtain ⟨h1, h2, h3, h4⟩ := q
  have ex : ∀ i k, (i < 328 ∨ 335 < i ∨ (329 ≤ i ∧ i ≤ 335 ∧ k ≠ A.cnt) ∨ (i = 328 ∧ k ≠ 1)) → mrI I A.cnt kr a c n' nm (nI n) h i k = I i k := by
    intro i k hi
    unfold mrI
    rw [up2_n (by omega), up2_n (by omega), up2_n (by omega), up2_n (by omega), up2_n (by omega), up2_n (by omega), up2_n (by omega), up2_n (by omega)]
  have v1 : mrI I A.cnt kr a c n' nm (nI n) h 328 1 = nI (A.cnt + 1) := up2_s
  have v335 : mrI I A.cnt kr a c n' nm (nI n) h 335 A.cnt = nI h := by unfold mrI; rw [up2_i (by omega), up2_s]
  have v334 : mrI I A.cnt kr a c n' nm (nI n) h 334 A.cnt = nI n := by unfold mrI; rw [up2_i (by omega), up2_i (by omega), up2_s]
  have v333 : mrI I A.cnt kr a c n' nm (nI n) h 333 A.cnt = nm := by unfold mrI; rw [up2_i (by omega), up2_i (by omega), up2_i (by omega), up2_s]
  have v332 : mrI I A.cnt kr a c n' nm (nI n) h 332 A.cnt = n' := by unfold mrI; rw [up2_i (by omega), up2_i (by omega), up2_i (by omega), up2_i (by omega), up2_s]
  have v331 : mrI I A.cnt kr a c n' nm (nI n) h 331 A.cnt = c := by unfold mrI; rw [up2_i (by omega), up2_i (by omega), up2_i (by omega), up2_i (by omega), up2_i (by omega), up2_s]
  have v330 : mrI I A.cnt kr a c n' nm (nI n) h 330 A.cnt = a := by unfold mrI; rw [up2_i (by omega), up2_i (by omega), up2_i (by omega), up2_i (by omega), up2_i (by omega), up2_i (by omega), up2_s]
  have v329 : mrI I A.cnt kr a c n' nm (nI n) h 329 A.cnt = nI kr := by unfold mrI; rw [up2_i (by omega), up2_i (by omega), up2_i (by omega), up2_i (by omega), up2_i (by omega), up2_i (by omega), up2_i (by omega), up2_s]
  generalize mrI I A.cnt kr a c n' nm (nI n) h = J at *
  refine ⟨⟨v1, by show A.cnt + 1 ≤ 80; omega, fun t ht => ?_⟩, ⟨?_, fun t ht => ?_⟩, ⟨?_, ?_, ?_⟩, h4.eq ho h6 (fun i k c => ex i k (by omega))⟩
  · have ht' : t < A.cnt + 1 := ht
    show J 335 t = nI (up1 A.hg A.cnt h t) ∧ up1 A.hg A.cnt h t ≤ 30 ∧ J 334 t = nI (up1 A.nd A.cnt n t) ∧ up1 A.nd A.cnt n t < 16
    by_cases e : t = A.cnt
    · rw [e, up1_s, up1_s]
      exact ⟨v335, hh, v334, hn⟩
    · rw [up1_n e, up1_n e, ex 335 t (by omega), ex 334 t (by omega)]
      exact h1.2.2 t (by omega)
  · show J 336 = A.p
    rw [← h2.1]; funext k; exact ex _ _ (by omega)
  · have ht' : t < A.cnt + 1 := ht
    show TrT J (up1 A.B A.cnt b t) t
    by_cases e : t = A.cnt
    · rw [e, up1_s]
      obtain ⟨w1, w2, w3, w4, w5, w6, w7⟩ := hv
      unfold TrT
      rw [v329, v330, v331, v332, v333, w1]
      exact ⟨rfl, w2, w3, w4, w5, w6, w7⟩
    · rw [up1_n e]
      exact (h2.2 t (by omega)).eq (fun i i1 i2 => ex i t (by omega))
  · rw [ex _ _ (by omega)]; exact h3.1
  · rw [ex _ _ (by omega)]; exact h3.2.1
  · rw [ex _ _ (by omega)]; exact h3.2.2
theorem rm_c {g : aG} {I : aI} {L : aL} {d : Nat} {A A' : aA} {M : aM} {av : List aV} {c1 c3 c2 : Int32} {C1 C3 C2 : Prop} {kr h h' n : Nat} {a c n' nm nds code val : Int32} {b : aB} (hS : SR A I) (ho : okA A.la) (h6 : rw6 A.la) (hM : Mx M d 0 0 av g I L (rmB c1 c3 c2 C1 C3 C2 g (up2 I 328 0 0) L A.cnt kr a c n' nm nds h')) (hR : mkA c1 c3 c2 C1 C3 C2 A b h n code val A') (e2 : C2 → c2 ≠ 0) (e1 : C1 → c1 ≠ 0) (e3 : C3 → c3 ≠ 0)
    (hc : ¬ C1 → ¬ C3 → ¬ C2 → A.cnt < 80 ∧ h ≤ 30 ∧ n < 16 ∧ h' = h ∧ nds = nI n ∧ TrV kr a c n' nm b) : Mx M d 0 0 av g I L (rfQ code val A' g I L) := by
  refine Mx_mono (fun o g' I' L' hq => ?_) hM
  obtain ⟨rfl, rfl, hq⟩ := hq
  refine ⟨rfl, rfl, ?_⟩
  obtain ⟨rfl, hR⟩ := hR
  rcases hq with ⟨e, b1, b2, b3, rfl⟩ | ⟨e, hq⟩
  · rcases hR with ⟨rfl, -, -, -, rfl⟩ | ⟨-, z, -⟩ | ⟨-, -, z, -⟩ | ⟨-, -, -, z, -⟩
    · obtain ⟨z1, z2, z3, rfl, rfl, z6⟩ := hc b1 b2 b3
      refine ⟨⟨_, e, fun _ => rfl⟩, ?_, (hS.thr ho h6).mk ho h6 z1 z2 z3 z6, fun i hi => ?_⟩
      · unfold mrI; rw [up2_k (by omega), up2_i (by omega), up2_i (by omega), up2_i (by omega), up2_i (by omega), up2_i (by omega), up2_i (by omega), up2_i (by omega), up2_s]
      · funext k
        unfold mrI
        rw [up2_i (by omega), up2_i (by omega), up2_i (by omega), up2_i (by omega), up2_i (by omega), up2_i (by omega), up2_i (by omega), up2_i (by omega), up2_i (by omega)]
    · exact absurd z b1
    · exact absurd z b2
    · exact absurd z b3
  · have fin : ∀ cc : Int32, cc ≠ 0 → I' = up2 (up2 I 328 0 0) 328 0 cc → code = cc → A' = A → (∃ v, o = .inl (some (vI v)) ∧ (code = 0 → v = nI A.cnt)) ∧ I' 328 0 = code ∧ SR A' I' ∧ FrR I I' := by
      rintro cc hcc rfl rfl rfl
      refine ⟨⟨_, e, fun q => absurd q hcc⟩, up2_s, by rw [up2_up]; exact hS.thr ho h6, fun i hi => ?_⟩
      funext k
      rw [up2_i (by omega), up2_i (by omega)]
    rcases hq with ⟨b1, eI⟩ | ⟨b1, b2, eI⟩ | ⟨b1, b2, b3, eI⟩
    · rcases hR with ⟨-, z, -⟩ | ⟨ec, z, eA⟩ | ⟨-, z, -⟩ | ⟨-, z, -⟩
      · exact absurd b1 z
      · exact fin c1 (e1 b1) eI ec eA
      · exact absurd b1 z
      · exact absurd b1 z
    · rcases hR with ⟨-, -, z, -⟩ | ⟨-, z, -⟩ | ⟨ec, -, z, eA⟩ | ⟨-, -, z, -⟩
      · exact absurd b2 z
      · exact absurd z b1
      · exact fin c3 (e3 b2) eI ec eA
      · exact absurd b2 z
    · rcases hR with ⟨-, -, -, z, -⟩ | ⟨-, z, -⟩ | ⟨-, -, z, -⟩ | ⟨ec, -, -, z, eA⟩
      · exact absurd b3 z
      · exact absurd z b1
      · exact absurd z b2
      · exact fin c2 (e2 b3) eI ec eA
theorem nmP.j {x : Int32} (h : nmP x) : ∃ j, j < 8 ∧ x = nI j := tmP.idx (cnt := 8) ⟨h.1, h.2⟩ (by omega)
section RL
variable {lx ly : Nat} {g : aG} {I : aI} {L : aL} {d : Nat} {A A' : aA} {b x y z s code val : Int32}
theorem q_give (hw : WS lx ly g) (hS : SR A I) (ho : okA A.la) (h6 : rw6 A.la) (hb : b = 0 ∨ b = 1) (hR : mkA 1 0 2 (¬ (b = 0 ∨ nmP x)) False (¬ (A.cnt < 80 ∧ 1 + max 0 0 ≤ 30)) A (0, b, x, (-1), 0, 0) (1 + max 0 0) (kbN 0 ||| 0 ||| 0) code val A') (hd : 4 ≤ d) : Mx mX9_give d 0 0 [vS 328, vI b, vI x] g I L (rfQ code val A' g I L) := by
  refine rm_c hS ho h6 (r_give hw hS.1 hb (by omega)) hR (fun _ => by decide) (fun _ => by decide) (fun q => q.elim) ?_
  intro b1 b2 b3
  have b4 := Decidable.of_not_not b3
  have hq : b = 0 ∨ nmP x := Classical.byContradiction b1
  refine ⟨b4.1, by decide, by decide, rfl, rfl, rfl, fun _ => ⟨rfl, rfl, ?_⟩, fun q => by dsimp only at q; omega, fun q _ => by dsimp only at q; omega, fun q _ => by dsimp only at q; omega, fun q _ => by dsimp only at q; omega, fun q => by dsimp only at q; omega⟩
  rcases hb with e | e
  · exact Or.inl e
  · exact Or.inr ⟨e, (hq.resolve_left (by rw [e]; decide)).j⟩
theorem q_of (hw : WS lx ly g) (hS : SR A I) (ho : okA A.la) (h6 : rw6 A.la) (hR : mkA 1 2 3 (¬ (nmP x ∧ nmP y)) (¬ (0 ≤ z ∧ z < 5)) (¬ (A.cnt < 80 ∧ 1 + max 0 0 ≤ 30)) A (14 + z.toNatClampNeg, 1, x, y, 0, 0) (1 + max 0 0) (kbN (14 + z.toNatClampNeg) ||| 0 ||| 0) code val A') (hd : 4 ≤ d) : Mx mX9_of d 0 0 [vS 328, vI x, vI y, vI z] g I L (rfQ code val A' g I L) := by
  refine rm_c hS ho h6 (r_of hw hS.1 (by omega)) hR (fun _ => by decide) (fun _ => by decide) (fun _ => by decide) ?_
  intro b1 b2 b3
  have b4 := Decidable.of_not_not b3
  have hz : 0 ≤ z ∧ z < 5 := Decidable.of_not_not b2
  have hq : nmP x ∧ nmP y := Classical.byContradiction b1
  obtain ⟨j, hj, ej⟩ := tmP.idx (cnt := 5) ⟨hz.1, hz.2⟩ (by omega)
  have hj2 : z.toNatClampNeg = j := by rw [ej]; exact clN (by omega)
  rw [hj2]
  have hkb : kbN (14 + j) = 0 := by unfold kbN; rw [if_neg (by omega), if_neg (by omega), if_neg (by omega), if_neg (by omega)]
  refine ⟨b4.1, by decide, n16 (by omega) (by omega), rfl, by rw [hkb]; rfl, ?_, fun q => absurd (show 14 + j ≤ 5 from q) (by omega), fun _ => ⟨rfl, rfl, ?_, rfl, rfl, hq.1.j, hq.2.j⟩, fun _ q => absurd (show 14 + j ≤ 13 from q) (by omega), fun _ q => absurd (show 14 + j ≤ 9 from q) (by omega), fun _ q => absurd (show 14 + j ≤ 9 from q) (by omega), fun q => absurd (show 14 + j = 10 from q) (by omega)⟩
  · show 1 = kR (14 + j)
    unfold kR; rw [if_neg (by omega), if_neg (by omega)]
  · show z = nI (14 + j - 14)
    rw [Nat.add_sub_cancel_left]; exact ej
theorem q_read (hw : WS lx ly g) (hS : SR A I) (ho : okA A.la) (h6 : rw6 A.la) (hR : mkA 0 0 1 (¬ ((0 : Int32) = 0 ∨ nmP 0)) False (¬ (A.cnt < 80 ∧ 1 + max 0 0 ≤ 30)) A (1, 0, 0, (-1), 0, 0) (1 + max 0 0) (kbN 1 ||| 0 ||| 0) code val A') (hd : 4 ≤ d) : Mx mX9_read d 0 0 [vS 328] g I L (rfQ code val A' g I L) := by
  refine rm_c hS ho h6 (r_read hw hS.1 (by omega)) hR (fun _ => by decide) (fun q => absurd (Or.inl rfl) q) (fun q => q.elim) ?_
  intro b1 b2 b3
  have b4 := Decidable.of_not_not b3
  exact ⟨b4.1, by decide, by decide, rfl, rfl, rfl, fun _ => ⟨rfl, rfl, Or.inl rfl⟩, fun q => by dsimp only at q; omega, fun q _ => by dsimp only at q; omega, fun q _ => by dsimp only at q; omega, fun q _ => by dsimp only at q; omega, fun q => by dsimp only at q; omega⟩
theorem q_write (hw : WS lx ly g) (hS : SR A I) (ho : okA A.la) (h6 : rw6 A.la) (hb : b = 0 ∨ b = 1) (hR : mkA 1 0 2 (¬ (b = 0 ∨ nmP x)) False (¬ (A.cnt < 80 ∧ 1 + max 0 0 ≤ 30)) A (2, b, x, (-1), 0, 0) (1 + max 0 0) (kbN 2 ||| 0 ||| 0) code val A') (hd : 4 ≤ d) : Mx mX9_write d 0 0 [vS 328, vI b, vI x] g I L (rfQ code val A' g I L) := by
  refine rm_c hS ho h6 (r_write hw hS.1 hb (by omega)) hR (fun _ => by decide) (fun _ => by decide) (fun q => q.elim) ?_
  intro b1 b2 b3
  have b4 := Decidable.of_not_not b3
  have hq : b = 0 ∨ nmP x := Classical.byContradiction b1
  refine ⟨b4.1, by decide, by decide, rfl, rfl, rfl, fun _ => ⟨rfl, rfl, ?_⟩, fun q => by dsimp only at q; omega, fun q _ => by dsimp only at q; omega, fun q _ => by dsimp only at q; omega, fun q _ => by dsimp only at q; omega, fun q => by dsimp only at q; omega⟩
  rcases hb with e | e
  · exact Or.inl e
  · exact Or.inr ⟨e, (hq.resolve_left (by rw [e]; decide)).j⟩
theorem q_say (hw : WS lx ly g) (hS : SR A I) (ho : okA A.la) (h6 : rw6 A.la) (hb : b = 0 ∨ b = 1) (hR : mkA 1 0 2 (¬ (b = 0 ∨ nmP x)) False (¬ (A.cnt < 80 ∧ 1 + max 0 0 ≤ 30)) A (3, b, x, (-1), 0, 0) (1 + max 0 0) (kbN 3 ||| 0 ||| 0) code val A') (hd : 4 ≤ d) : Mx mX9_say d 0 0 [vS 328, vI b, vI x] g I L (rfQ code val A' g I L) := by
  refine rm_c hS ho h6 (r_say hw hS.1 hb (by omega)) hR (fun _ => by decide) (fun _ => by decide) (fun q => q.elim) ?_
  intro b1 b2 b3
  have b4 := Decidable.of_not_not b3
  have hq : b = 0 ∨ nmP x := Classical.byContradiction b1
  refine ⟨b4.1, by decide, by decide, rfl, rfl, rfl, fun _ => ⟨rfl, rfl, ?_⟩, fun q => by dsimp only at q; omega, fun q _ => by dsimp only at q; omega, fun q _ => by dsimp only at q; omega, fun q _ => by dsimp only at q; omega, fun q => by dsimp only at q; omega⟩
  rcases hb with e | e
  · exact Or.inl e
  · exact Or.inr ⟨e, (hq.resolve_left (by rw [e]; decide)).j⟩
theorem q_fail (hw : WS lx ly g) (hS : SR A I) (ho : okA A.la) (h6 : rw6 A.la) (hb : b = 0 ∨ b = 1) (hR : mkA 1 0 2 (¬ (b = 0 ∨ nmP x)) False (¬ (A.cnt < 80 ∧ 1 + max 0 0 ≤ 30)) A (4, b, x, (-1), 0, 0) (1 + max 0 0) (kbN 4 ||| 0 ||| 0) code val A') (hd : 4 ≤ d) : Mx mX9_fail d 0 0 [vS 328, vI b, vI x] g I L (rfQ code val A' g I L) := by
  refine rm_c hS ho h6 (r_fail hw hS.1 hb (by omega)) hR (fun _ => by decide) (fun _ => by decide) (fun q => q.elim) ?_
  intro b1 b2 b3
  have b4 := Decidable.of_not_not b3
  have hq : b = 0 ∨ nmP x := Classical.byContradiction b1
  refine ⟨b4.1, by decide, by decide, rfl, rfl, rfl, fun _ => ⟨rfl, rfl, ?_⟩, fun q => by dsimp only at q; omega, fun q _ => by dsimp only at q; omega, fun q _ => by dsimp only at q; omega, fun q _ => by dsimp only at q; omega, fun q => by dsimp only at q; omega⟩
  rcases hb with e | e
  · exact Or.inl e
  · exact Or.inr ⟨e, (hq.resolve_left (by rw [e]; decide)).j⟩
theorem q_none (hw : WS lx ly g) (hS : SR A I) (ho : okA A.la) (h6 : rw6 A.la) (hR : mkA 0 0 1 (¬ ((0 : Int32) = 0 ∨ nmP 0)) False (¬ (A.cnt < 80 ∧ 1 + max 0 0 ≤ 30)) A (5, 0, 0, (-1), 0, 0) (1 + max 0 0) (kbN 5 ||| 0 ||| 0) code val A') (hd : 4 ≤ d) : Mx mX9_none d 0 0 [vS 328] g I L (rfQ code val A' g I L) := by
  refine rm_c hS ho h6 (r_none hw hS.1 (by omega)) hR (fun _ => by decide) (fun q => absurd (Or.inl rfl) q) (fun q => q.elim) ?_
  intro b1 b2 b3
  have b4 := Decidable.of_not_not b3
  exact ⟨b4.1, by decide, by decide, rfl, rfl, rfl, fun _ => ⟨rfl, rfl, Or.inl rfl⟩, fun q => by dsimp only at q; omega, fun q _ => by dsimp only at q; omega, fun q _ => by dsimp only at q; omega, fun q _ => by dsimp only at q; omega, fun q => by dsimp only at q; omega⟩
theorem q_either (hw : WS lx ly g) (hS : SR A I) (ho : okA A.la) (h6 : rw6 A.la) (hR : mkA 1 0 2 (¬ (tmP A.cnt x ∧ tmP A.cnt y)) False (¬ (A.cnt < 80 ∧ 1 + max (A.hg x.toNatClampNeg) (A.hg y.toNatClampNeg) ≤ 30)) A (6, 0, 0, (-1), x.toNatClampNeg, y.toNatClampNeg) (1 + max (A.hg x.toNatClampNeg) (A.hg y.toNatClampNeg)) (kbN 6 ||| A.nd x.toNatClampNeg ||| A.nd y.toNatClampNeg) code val A') (hd : 4 ≤ d) : Mx mX9_either d 0 0 [vS 328, vI x, vI y] g I L (rfQ code val A' g I L) := by
  refine rm_c hS ho h6 (r_either hw hS.1 (by omega)) hR (fun _ => by decide) (fun _ => by decide) (fun q => q.elim) ?_
  intro b1 b2 b3
  have b4 := Decidable.of_not_not b3
  have hq : tmP A.cnt x ∧ tmP A.cnt y := Classical.byContradiction b1
  obtain ⟨i1, i2, i3, i4, i5, i6, i7⟩ := hS.1.fa hq.1
  obtain ⟨j1, j2, j3, j4, j5, j6, j7⟩ := hS.1.fa hq.2
  exact ⟨b4.1, b4.2, n16 i3 j3, rfl, rfl, rfl, fun q => by dsimp only at q; omega, fun q => by dsimp only at q; omega, fun _ _ => i6, fun _ _ => j6, fun q => by dsimp only at q; omega, fun q => by dsimp only at q; omega⟩
theorem q_then (hw : WS lx ly g) (hS : SR A I) (ho : okA A.la) (h6 : rw6 A.la) (hR : mkA 1 0 2 (¬ (nmP y ∧ tmP A.cnt x ∧ tmP A.cnt z)) False (¬ (A.cnt < 80 ∧ 1 + max (A.hg x.toNatClampNeg) (A.hg z.toNatClampNeg) ≤ 30)) A (7, 0, 0, y, x.toNatClampNeg, z.toNatClampNeg) (1 + max (A.hg x.toNatClampNeg) (A.hg z.toNatClampNeg)) (kbN 7 ||| A.nd x.toNatClampNeg ||| A.nd z.toNatClampNeg) code val A') (hd : 4 ≤ d) : Mx mX9_then d 0 0 [vS 328, vI x, vI y, vI z] g I L (rfQ code val A' g I L) := by
  refine rm_c hS ho h6 (r_then hw hS.1 (by omega)) hR (fun _ => by decide) (fun _ => by decide) (fun q => q.elim) ?_
  intro b1 b2 b3
  have b4 := Decidable.of_not_not b3
  have hq := Classical.byContradiction b1
  obtain ⟨i1, i2, i3, i4, i5, i6, i7⟩ := hS.1.fa hq.2.1
  obtain ⟨j1, j2, j3, j4, j5, j6, j7⟩ := hS.1.fa hq.2.2
  exact ⟨b4.1, b4.2, n16 i3 j3, rfl, rfl, rfl, fun q => by dsimp only at q; omega, fun q => by dsimp only at q; omega, fun _ _ => i6, fun _ _ => j6, fun _ _ => ⟨rfl, hq.1.j⟩, fun q => by dsimp only at q; omega⟩
theorem q_saved (hw : WS lx ly g) (hS : SR A I) (ho : okA A.la) (h6 : rw6 A.la) (hR : mkA 1 0 2 (¬ (nmP y ∧ tmP A.cnt x ∧ tmP A.cnt z)) False (¬ (A.cnt < 80 ∧ 1 + max (A.hg x.toNatClampNeg) (A.hg z.toNatClampNeg) ≤ 30)) A (8, 0, 0, y, x.toNatClampNeg, z.toNatClampNeg) (1 + max (A.hg x.toNatClampNeg) (A.hg z.toNatClampNeg)) (kbN 8 ||| A.nd x.toNatClampNeg ||| A.nd z.toNatClampNeg) code val A') (hd : 4 ≤ d) : Mx mX9_saved d 0 0 [vS 328, vI x, vI y, vI z] g I L (rfQ code val A' g I L) := by
  refine rm_c hS ho h6 (r_saved hw hS.1 (by omega)) hR (fun _ => by decide) (fun _ => by decide) (fun q => q.elim) ?_
  intro b1 b2 b3
  have b4 := Decidable.of_not_not b3
  have hq := Classical.byContradiction b1
  obtain ⟨i1, i2, i3, i4, i5, i6, i7⟩ := hS.1.fa hq.2.1
  obtain ⟨j1, j2, j3, j4, j5, j6, j7⟩ := hS.1.fa hq.2.2
  exact ⟨b4.1, b4.2, n16 i3 j3, rfl, rfl, rfl, fun q => by dsimp only at q; omega, fun q => by dsimp only at q; omega, fun _ _ => i6, fun _ _ => j6, fun _ _ => ⟨rfl, hq.1.j⟩, fun q => by dsimp only at q; omega⟩
theorem q_when (hw : WS lx ly g) (hS : SR A I) (ho : okA A.la) (h6 : rw6 A.la) (hR : mkA 1 0 2 (¬ (nmP x ∧ tmP A.cnt y ∧ tmP A.cnt z)) False (¬ (A.cnt < 80 ∧ 1 + max (A.hg y.toNatClampNeg) (A.hg z.toNatClampNeg) ≤ 30)) A (9, 0, 0, x, y.toNatClampNeg, z.toNatClampNeg) (1 + max (A.hg y.toNatClampNeg) (A.hg z.toNatClampNeg)) (kbN 9 ||| A.nd y.toNatClampNeg ||| A.nd z.toNatClampNeg) code val A') (hd : 4 ≤ d) : Mx mX9_when d 0 0 [vS 328, vI x, vI y, vI z] g I L (rfQ code val A' g I L) := by
  refine rm_c hS ho h6 (r_when hw hS.1 (by omega)) hR (fun _ => by decide) (fun _ => by decide) (fun q => q.elim) ?_
  intro b1 b2 b3
  have b4 := Decidable.of_not_not b3
  have hq := Classical.byContradiction b1
  obtain ⟨i1, i2, i3, i4, i5, i6, i7⟩ := hS.1.fa hq.2.1
  obtain ⟨j1, j2, j3, j4, j5, j6, j7⟩ := hS.1.fa hq.2.2
  exact ⟨b4.1, b4.2, n16 i3 j3, rfl, rfl, rfl, fun q => by dsimp only at q; omega, fun q => by dsimp only at q; omega, fun _ _ => i6, fun _ _ => j6, fun _ _ => ⟨rfl, hq.1.j⟩, fun q => by dsimp only at q; omega⟩
theorem q_times (hw : WS lx ly g) (hS : SR A I) (ho : okA A.la) (h6 : rw6 A.la) (hb : b = 0 ∨ b = 1) (hR : mkA 1 0 2 (¬ ((b = 0 ∨ nmP x) ∧ tmP A.cnt y)) False (¬ (A.cnt < 80 ∧ 1 + max (A.hg y.toNatClampNeg) 0 ≤ 30)) A (10, b, x, (-1), y.toNatClampNeg, 0) (1 + max (A.hg y.toNatClampNeg) 0) (kbN 10 ||| A.nd y.toNatClampNeg ||| 0) code val A') (hd : 4 ≤ d) : Mx mX9_times d 0 0 [vS 328, vI b, vI x, vI y] g I L (rfQ code val A' g I L) := by
  refine rm_c hS ho h6 (r_times hw hS.1 hb (by omega)) hR (fun _ => by decide) (fun _ => by decide) (fun q => q.elim) ?_
  intro b1 b2 b3
  have b4 := Decidable.of_not_not b3
  have hq : (b = 0 ∨ nmP x) ∧ tmP A.cnt y := Classical.byContradiction b1
  obtain ⟨i1, i2, i3, i4, i5, i6, i7⟩ := hS.1.fa hq.2
  refine ⟨b4.1, b4.2, n16 i3 (by omega), rfl, ?_, rfl, fun q => by dsimp only at q; omega, fun q => by dsimp only at q; omega, fun _ _ => i6, fun _ q => by dsimp only at q; omega, fun _ q => by dsimp only at q; omega, fun _ => ⟨rfl, rfl, ?_⟩⟩
  · rw [Nat.or_zero, show kbN 10 = 0 from rfl, Nat.zero_or]
  rcases hb with e | e
  · exact Or.inl e
  · exact Or.inr ⟨e, (hq.1.resolve_left (by rw [e]; decide)).j⟩
theorem q_as (hw : WS lx ly g) (hS : SR A I) (ho : okA A.la) (h6 : rw6 A.la) (hR : mkA 1 2 3 (¬ tmP A.cnt y) (¬ (0 ≤ z ∧ z < 3)) (¬ (A.cnt < 80 ∧ 1 + max (A.hg y.toNatClampNeg) 0 ≤ 30)) A (11 + z.toNatClampNeg, 0, 0, (-1), y.toNatClampNeg, 0) (1 + max (A.hg y.toNatClampNeg) 0) (kbN (11 + z.toNatClampNeg) ||| A.nd y.toNatClampNeg ||| 0) code val A') (hd : 4 ≤ d) : Mx mX9_as d 0 0 [vS 328, vI z, vI y] g I L (rfQ code val A' g I L) := by
  refine rm_c hS ho h6 (r_as hw hS.1 (by omega)) hR (fun _ => by decide) (fun _ => by decide) (fun _ => by decide) ?_
  intro b1 b2 b3
  have b4 := Decidable.of_not_not b3
  have hq : tmP A.cnt y := Classical.byContradiction b1
  have hz : 0 ≤ z ∧ z < 3 := Decidable.of_not_not b2
  obtain ⟨j, hj, ej⟩ := tmP.idx (cnt := 3) ⟨hz.1, hz.2⟩ (by omega)
  have hj2 : z.toNatClampNeg = j := by rw [ej]; exact clN (by omega)
  obtain ⟨i1, i2, i3, i4, i5, i6, i7⟩ := hS.1.fa hq
  rw [hj2]
  refine ⟨b4.1, b4.2, n16 i3 (by omega), rfl, rfl, ?_, fun q => absurd (show 11 + j ≤ 5 from q) (by omega), fun q => absurd (show 14 ≤ 11 + j from q) (by omega), fun _ _ => i6, fun _ q => absurd (show 11 + j ≤ 9 from q) (by omega), fun _ q => absurd (show 11 + j ≤ 9 from q) (by omega), fun q => absurd (show 11 + j = 10 from q) (by omega)⟩
  show 12 + j = kR (11 + j)
  unfold kR; rw [if_neg (by omega), if_pos (by omega)]; omega
end RL
