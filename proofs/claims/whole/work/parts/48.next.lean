/-! the reference: gatherNext; what own and shared come to -/
theorem each_no1 {F : mF} {go : (Nat → Int32) → mE → mO} {oe nm : Int32} {env : Nat → Int32} (hg : ∀ env e, (go env e).1 ≠ 1) : ∀ (rs acc : List mR) (e : mE), (eachF F go oe nm env rs acc e).1 ≠ 1 := by
  intro rs
  induction rs with
  | nil => intro acc e; simp [eachF]
  | cons r rs ih =>
    intro acc e
    simp only [eachF]
    generalize hq : (if r.2.1 = oe then go (upE env nm r.1) (own2 F e r.2.2.1 r.2.2.2) else (0, [r], e) : mO) = q
    have hqo : q.1 ≠ 1 := by
      rw [← hq]
      split
      · exact hg _ _
      · simp
    split
    · exact hqo
    · split
      · simp
      · exact ih _ _
theorem times_no1 {F : mF} {go : (Nat → Int32) → mE → mO} {env : Nat → Int32} (hg : ∀ env e, (go env e).1 ≠ 1) : ∀ (n : Nat) (rs : List mR) (e : mE), (timesF F go env n rs e).1 ≠ 1 := by
  intro n
  induction n with
  | zero => intro rs e; simp [timesF]
  | succ n ih =>
    intro rs e
    simp only [timesF]
    split
    · exact each_no1 hg _ _ _
    · exact ih _ _
theorem ev_no1 {F : mF} {B : mB} {lim : Nat} (hF : F.2.2.1 = true) : ∀ (f t : Nat) (env : Nat → Int32) (e : mE), (ev F B lim f t env e).1 ≠ 1 := by
  intro f
  induction f with
  | zero => intro t env e; simp [ev]
  | succ f ih =>
    intro t env e0
    simp only [ev]
    split
    · simp
    · have hgo : ∀ t env e, (ev F B lim f t env e).1 ≠ 1 := ih
      split
      · simp [ansF]
      · simp [ansF]
      · simp [ansF]
      · split <;> simp [ansF]
      · simp
      · simp
      · unfold eitherF
        split
        · exact ih _ _ _
        · simp only
          split
          · exact ih _ _ _
          · split <;> simp
      · split
        · exact ih _ _ _
        · exact each_no1 (hgo _) _ _ _
      · unfold savedF
        split
        · exact ih _ _ _
        · split
          · exact ih _ _ _
          · exact each_no1 (hgo _) _ _ _
      · exact ih _ _ _
      · exact times_no1 (hgo _) _ _ _
      · split
        · exact ih _ _ _
        · simp
      · split
        · exact ih _ _ _
        · simp
      · split
        · exact ih _ _ _
        · simp
      · simp [ansF]
theorem fl_valid {p : Nat → Int32} {l : Nat} (h2 : hsF p 2 = true) (hn : owF p 2 = false) (ho : owF p l = true) : ouF p l = true := by
  unfold owF at hn ho
  unfold ouF
  rw [h2] at hn ⊢
  simp only [Bool.true_and, Bool.or_eq_false_iff, Bool.not_eq_false'] at hn
  rw [hn.1] at ho
  simp only [Bool.not_true, Bool.false_or, Bool.and_eq_true, decide_eq_true_eq] at ho
  have h3 : ¬ p 2 < p 3 := by
    have := hn.2
    simpa using this
  have h4 : p l < p 2 := Int32.lt_of_lt_of_le ho.2 (Int32.not_lt.mp h3)
  simp [ho.1, h4]
theorem fl_shou {p : Nat → Int32} {l : Nat} (hn : owF p l = false) : (shF p l && ouF p l) = ouF p l := by
  unfold shF ouF
  rw [hn]
  cases hsF p l <;> simp
def GtP (F : mF) (I : aI) (h : Nat) (cs : List mR) (I' : aI) : Prop := I' 349 (2 * h) = nI cs.length ∧ I' 349 (2 * h + 1) = 0 ∧ I' 342 h = 0 ∧ Rr F I' (100 * h) cs ∧ ∀ i k, ¬ cb h i k → ¬ ct h i k → I' i k = I i k
theorem GtP.at {F : mF} {I I' : aI} {h : Nat} {cs : List mR} (q : GtP F I h cs I') : At I I' h := fun i k c => q.2.2.2.2 i k (by unfold mt at c; unfold cb; omega) (by unfold mt at c; unfold ct; omega)
section Next
variable {lx ly : Nat} {g : aG} {I : aI} {L : aL} {h : Nat} {F : mF} {acc cs : List mR}
theorem tu_rows {I I' : aI} {n : Nat} (hT : TuP I h n I') (hr : Rr F I (100 * h + 50) cs) (hn : cs.length = n) : Rr F I' (100 * h) cs := by
  intro j r hj
  have hl : j < cs.length := (List.getElem?_eq_some_iff.mp hj).1
  have h9 := hr j r hj
  have q := hT.2.2.2.1
  rw [q 351 j (by omega) (by omega) (by omega), q 350 j (by omega) (by omega) (by omega), q 352 j (by omega) (by omega) (by omega), q 353 j (by omega) (by omega) (by omega)]
  exact h9
theorem rr_err {I : aI} {b : Nat} (hr : Rr F I b cs) (he : errR cs) : ∀ j, j < cs.length → I 350 (b + j) = 0 ∨ I 350 (b + j) = 1 := by
  intro j hj
  have h9 := hr j _ (List.getElem?_eq_getElem hj)
  rw [h9.2.1]
  exact he _ (List.getElem_mem hj)
theorem r_gn (hw : WS lx ly g) (hh : h ≤ 29) (hp : I 341 h ≠ 1) (hm : I 349 (2 * h + 1) = nI acc.length) (hm5 : acc.length ≤ 50) (hr : Rr F I (100 * h + 50) acc) (hcm : I 349 (2 * h + 3) = nI cs.length) (hc : Rr F I (100 * h + 150) cs) (hce : errR cs) (hc5 : cs.length ≤ 50) (ho : I 328 33 = 0) :
    Mx mX9_gatherNext 4 0 0 [vS 328, vI (nI h)] g I L (rQ g L (GaP F I h acc cs)) := by
  have h0 := (hw 328 _ rfl).2.1
  have ch : (nI h).toNatClampNeg = h := clN (by omega)
  have vh : vp_in (nI h) 32 := inN (by omega) (by omega)
  refine Mx_in (by decide +kernel) rfl rfl (Ex_wx [] 9 oX9_gatherNext hw ?_)
  refine Ex_r (As := [vI (nI h)]) (st := []) (d' := 3) vX9_259 rfl rfl (r_gather hw (by omega) (by omega) hm hm5 hr hcm hc hce hc5 ho) h0 (by omega) rfl (dc_ok oX9_gatherNext rfl) ?_
  intro I1 hG
  have p1 : I1 341 h = I 341 h := by
    rcases hG with ⟨-, -, h3⟩ | ⟨-, -, -, h4⟩
    · exact h3 _ _ (by unfold cb; omega) (by omega)
    · exact h4 _ _ (by unfold cb; omega)
  refine Ex_wx [] 9 oX9_gatherNext hw ?_
  refine And.intro vh ?_
  rw [ch, p1]
  exact And.intro (fun c => absurd c hp) (fun _ => ⟨rfl, rfl, rfl, hG⟩)
theorem r_gn1 (hw : WS lx ly g) (hh : h ≤ 29) (hp : I 341 h = 1) (hm : I 349 (2 * h + 1) = 0) (hcm : I 349 (2 * h + 3) = nI cs.length) (hc : Rr F I (100 * h + 150) cs) (hce : errR cs) (hc5 : cs.length ≤ 50) (ho : I 328 33 = 0) :
    Mx mX9_gatherNext 4 0 0 [vS 328, vI (nI h)] g I L (rQ g L (GtP F I h cs)) := by
  have h0 := (hw 328 _ rfl).2.1
  have ch : (nI h).toNatClampNeg = h := clN (by omega)
  have vh : vp_in (nI h) 32 := inN (by omega) (by omega)
  refine Mx_in (by decide +kernel) rfl rfl (Ex_wx [] 9 oX9_gatherNext hw ?_)
  refine Ex_r (As := [vI (nI h)]) (st := []) (d' := 3) vX9_259 rfl rfl (r_gather (acc := []) (F := F) hw (by omega) (by omega) hm (by simp) Rr.nil hcm hc hce hc5 ho) h0 (by omega) rfl (dc_ok oX9_gatherNext rfl) ?_
  intro I1 hG
  rcases hG with ⟨h3, -⟩ | ⟨-, m1, r1, h4⟩
  · rw [List.nil_append] at h3; omega
  · rw [List.nil_append] at m1 r1
    refine Ex_wx [] 9 oX9_gatherNext hw ?_
    refine And.intro vh ?_
    rw [ch, h4 341 h (by unfold cb; omega), hp]
    refine And.intro (fun _ => ?_) (fun c => absurd rfl c)
    refine Ex_r (As := [vI (nI h)]) (st := []) (d' := 3) vX9_268 rfl rfl (r_turn hw (by omega) (by omega) m1 hc5 (rr_err r1 hce)) h0 (by omega) rfl (dc_ok oX9_gatherNext rfl) ?_
    intro I2 hT
    refine Ex_wx [] 9 oX9_gatherNext hw ?_
    refine ⟨rfl, rfl, rfl, hT.1, hT.2.1, hT.2.2.1, tu_rows hT r1 rfl, fun i k c1 c2 => ?_⟩
    rw [hT.2.2.2.2 i k c2]; exact h4 i k c1
end Next
