/-! perform -/
theorem pfQ.lift {q : mO} {g g' : aG} {I I1 I' : aI} {L L' : aL} {lim : Nat} {env : Nat → Int32} {base : Nat} {v : aO} (h : pfQ q g I1 L lim env base v g' I' L') (hf : Frm I I1) (hk : Keep I I1 base) : pfQ q g I L lim env base v g' I' L' := ⟨h.1, h.2.1, hf.trans h.2.2.1, h.2.2.2.pre hk⟩
theorem pfQ.val {q : mO} {g g' : aG} {I I' : aI} {L L' : aL} {lim : Nat} {env : Nat → Int32} {base : Nat} {v : Option aV} (h : pfQ q g I L lim env base (.inl v) g' I' L') : ∃ x, v = some (vI x) := out_val h.2.2.2
section Perf3
variable {lx ly : Nat} {g : aG} {τ : Nat → Nat} {B : mB} {hg : Nat → Nat} {cnt : Nat} {F : mF} {lim : Nat}
theorem e3_perform (hC : Cm lx ly g) (hlim : lim ≤ 2000) : ∀ f, pfC lx ly g τ B hg cnt F lim f := by
  have h3 := (hC.1 3 _ rfl).2.1
  intro f
  induction f with
  | zero =>
    intro t env e base I L ht hh hT
    have := (hT t ht).2.2.2.1
    omega
  | succ f ih =>
    intro t env e base I L ht hh hT hL hM hi hb
    obtain ⟨h13, hq, ⟨hk0, hk18, hk1, hk2, hk3⟩, hh1, hA, hB⟩ := id (hT t ht)
    refine Mx_in (by decide +kernel) rfl rfl (Ex_wx [15, 18] 9 oX3_perform hC.1 ?_)
    refine And.intro (fun c => ?_) (fun c => ?_)
    · have hsp : mE.sp e < lim := by
        rw [hM.1, hM.2.1] at c
        exact ltN c (by have := hi.2.2; omega) (by omega)
      have hns : ¬ lim ≤ mE.sp e := by omega
      refine Ex_bn 8 oX3_perform hC.1 ?_
      refine And.intro hq ?_
      show Ex mX3_perform (4 * (f + 1) + 4) 0 0 (pfQ (ev F B lim (f + 1) t env e) g I L lim env base) 32 [some (vS 3), some (vD (some (τ t)))] [vI (up2 I 3 7 (I 3 7 + 1) (τ t) 0)] g (up2 I 3 7 (I 3 7 + 1)) L
      have hM1 : Mch (up2 I 3 7 (I 3 7 + 1)) lim ((mE.sp e + 1, e.2) : mE) env base := by
        obtain ⟨h1, h2, h3, h4, h5, h6, h7, h8, h9, h10, h11⟩ := hM
        have q : ∀ i, i ≠ 3 → up2 I 3 7 (I 3 7 + 1) i = I i := fun i hi => by funext k; exact up2_i hi
        exact ⟨by rw [up2_s, h1]; exact nI_1 _, by rw [up2_k (by omega)]; exact h2, by rw [up2_k (by omega)]; exact h3, by rw [up2_k (by omega)]; exact h4, by rw [up2_k (by omega)]; exact h5, by rw [q 9 (by omega)]; exact h6, by rw [q 10 (by omega)]; exact h7, by rw [q 11 (by omega)]; exact h8, by rw [q 12 (by omega)]; exact h9, fun k hk => by rw [q 13 (by omega)]; exact h10 k hk, by rw [q 4 (by omega)]; exact h11⟩
      have hF1 : Frm I (up2 I 3 7 (I 3 7 + 1)) := fun i hi => by funext k; exact up2_i (by omega)
      have hK1 : Keep I (up2 I 3 7 (I 3 7 + 1)) base := fun k hk => by simp [resAt, up2]
      have hi1 : invE lim ((mE.sp e + 1, e.2) : mE) := ⟨hi.1, by have := hi.2.1; show mE.us e ≤ mE.sp e + 1 + 1; omega, by show mE.sp e + 1 ≤ lim; omega⟩
      have hsu : mE.us ((mE.sp e + 1, e.2) : mE) ≤ mE.sp ((mE.sp e + 1, e.2) : mE) := hi.2.1
      generalize up2 I 3 7 (I 3 7 + 1) = I1 at hM1 hF1 hK1 ⊢
      have hT1 := hT.frm hF1
      have hL1 := hL.frm hF1 hC.2.2
      have hE1 := hM1.2.2.2.2.2.2.2.2.2.1
      have k0 : I1 (τ t) 0 = nI (B t).1 := by rw [hF1 (τ t) (Or.inr h13)]; exact hk0
      have k1 : I1 (τ t) 1 = (B t).2.1 := by rw [hF1 (τ t) (Or.inr h13)]; exact hk1
      have k2 : I1 (τ t) 2 = (B t).2.2.1 := by rw [hF1 (τ t) (Or.inr h13)]; exact hk2
      have k3 : I1 (τ t) 3 = (B t).2.2.2.1 := by rw [hF1 (τ t) (Or.inr h13)]; exact hk3
      rw [k0]
      obtain ⟨k, hk⟩ : ∃ k, (B t).1 = k := ⟨_, rfl⟩
      rw [hk] at hk18 hA hB ⊢
      have hcs : k = 0 ∨ k = 1 ∨ k = 2 ∨ k = 3 ∨ k = 4 ∨ k = 5 ∨ k = 6 ∨ k = 7 ∨ k = 8 ∨ k = 9 ∨ k = 10 ∨ k = 11 ∨ k = 12 ∨ k = 13 ∨ (14 ≤ k ∧ k ≤ 18) := by omega
      rcases hcs with rfl | rfl | rfl | rfl | rfl | rfl | rfl | rfl | rfl | rfl | rfl | rfl | rfl | rfl | ⟨hka, hkb⟩
      · have hev : ev F B lim (f + 1) t env e = ansF (opF env (B t).2.1 (B t).2.2.1) ((mE.sp e + 1, e.2) : mE) := by
          simp only [ev]
          rw [if_neg hns, hk]
          rfl
        rw [hev]
        refine Ex_tableIn (tgt := 104) (off := 72) (dc_ok oX3_perform rfl) (by decide) (by decide) (by decide) (by decide) ?_
        refine Ex_wx [] 9 oX3_perform hC.1 ?_
        refine Ex_v (As := [vD (some (τ t))]) (st := [vS 3]) (d' := 1) vX3_147 rfl rfl (e3_operandOf hC hE1 hq (by omega)) h3 (by omega) rfl (dc_ok oX3_perform rfl) ?_
        rw [k1, k2]
        refine Ex_v (As := [vI (opF env (B t).2.1 (B t).2.2.1)]) (st := []) (d' := 1) vX3_150 rfl rfl (e3_answer hC hM1 (by omega) (by omega)) h3 (by omega) rfl (dc_ok oX3_perform rfl) ?_
        refine Ex_wx [] 9 oX3_perform hC.1 ?_
        exact ⟨rfl, rfl, hF1.trans push_frm, Or.inl ⟨rfl, rfl, hM1.push, push_rows, hK1.trans push_keep⟩⟩
      · have hev : ev F B lim (f + 1) t env e = ansF (mE.s ((mE.sp e + 1, e.2) : mE)) ((mE.sp e + 1, e.2) : mE) := by
          simp only [ev]
          rw [if_neg hns, hk]
          rfl
        rw [hev]
        refine Ex_tableIn (tgt := 114) (off := 82) (dc_ok oX3_perform rfl) (by decide) (by decide) (by decide) (by decide) ?_
        refine Ex_wx [] 9 oX3_perform hC.1 ?_
        refine Ex_v (As := [vI (I1 3 4)]) (st := []) (d' := 1) vX3_150 rfl rfl (e3_answer hC hM1 (by omega) (by omega)) h3 (by omega) rfl (dc_ok oX3_perform rfl) ?_
        rw [hM1.2.2.1]
        refine Ex_wx [] 9 oX3_perform hC.1 ?_
        exact ⟨rfl, rfl, hF1.trans push_frm, Or.inl ⟨rfl, rfl, hM1.push, push_rows, hK1.trans push_keep⟩⟩
      · have hev : ev F B lim (f + 1) t env e = ansF (mE.s ((mE.sp e + 1, e.2) : mE)) (setSL ((mE.sp e + 1, e.2) : mE) (opF env (B t).2.1 (B t).2.2.1) (mE.l ((mE.sp e + 1, e.2) : mE))) := by
          simp only [ev]
          rw [if_neg hns, hk]
          rfl
        rw [hev]
        refine Ex_tableIn (tgt := 123) (off := 91) (dc_ok oX3_perform rfl) (by decide) (by decide) (by decide) (by decide) ?_
        refine Ex_wx [] 9 oX3_perform hC.1 ?_
        refine Ex_v (As := [vD (some (τ t))]) (st := [vS 3]) (d' := 1) vX3_147 rfl rfl (e3_operandOf hC hE1 hq (by omega)) h3 (by omega) rfl (dc_ok oX3_perform rfl) ?_
        rw [k1, k2]
        refine Ex_cV (kc := 0) (ks := 0) (kc' := 0) (ks' := 0) (As := [vI (opF env (B t).2.1 (B t).2.2.1)]) (st := []) vX3_152 rfl rfl h3 (e3_write (d := 2) hC hM1 (by omega) (by omega)) (by omega) rfl (dc_ok oX3_perform rfl) ?_ (fun E g' I' L' hq => absurd hq pfQ_no)
        intro w g2 I2 L2 h2
        obtain ⟨y, rfl⟩ := h2.val
        refine Ex_wx [] 9 oX3_perform (by rw [h2.1]; exact hC.1) ?_
        exact h2.lift hF1 hK1
      · have hev : ev F B lim (f + 1) t env e = if 60 < lenF ((mE.sp e + 1, e.2) : mE) (mE.l ((mE.sp e + 1, e.2) : mE)) + 1 then (2, [], ((mE.sp e + 1, e.2) : mE)) else ansF (opF env (B t).2.1 (B t).2.2.1) (sayF ((mE.sp e + 1, e.2) : mE) (opF env (B t).2.1 (B t).2.2.1)) := by
          simp only [ev]
          rw [if_neg hns, hk]
          rfl
        rw [hev]
        refine Ex_tableIn (tgt := 133) (off := 101) (dc_ok oX3_perform rfl) (by decide) (by decide) (by decide) (by decide) ?_
        refine Ex_wx [] 9 oX3_perform hC.1 ?_
        refine Ex_v (As := [vD (some (τ t))]) (st := [vS 3]) (d' := 1) vX3_147 rfl rfl (e3_operandOf hC hE1 hq (by omega)) h3 (by omega) rfl (dc_ok oX3_perform rfl) ?_
        rw [k1, k2]
        refine Ex_cV (kc := 0) (ks := 0) (kc' := 0) (ks' := 0) (As := [vI (opF env (B t).2.1 (B t).2.2.1)]) (st := []) vX3_155 rfl rfl h3 (e3_say (d := 3) hC hM1 hi1 hsu hlim (by omega) (by omega)) (by omega) rfl (dc_ok oX3_perform rfl) ?_ (fun E g' I' L' hq => absurd hq pfQ_no)
        intro w g2 I2 L2 h2
        obtain ⟨y, rfl⟩ := h2.val
        refine Ex_wx [] 9 oX3_perform (by rw [h2.1]; exact hC.1) ?_
        exact h2.lift hF1 hK1
      · have hev : ev F B lim (f + 1) t env e = if F.2.2.1 = true then (0, [(opF env (B t).2.1 (B t).2.2.1, 1, mE.s ((mE.sp e + 1, e.2) : mE), mE.l ((mE.sp e + 1, e.2) : mE))], ((mE.sp e + 1, e.2) : mE)) else (1, [], (mE.sp ((mE.sp e + 1, e.2) : mE), mE.us ((mE.sp e + 1, e.2) : mE), mE.nu ((mE.sp e + 1, e.2) : mE), mE.be ((mE.sp e + 1, e.2) : mE), mE.le ((mE.sp e + 1, e.2) : mE), mE.s ((mE.sp e + 1, e.2) : mE), mE.l ((mE.sp e + 1, e.2) : mE), opF env (B t).2.1 (B t).2.2.1)) := by
          simp only [ev]
          rw [if_neg hns, hk]
          rfl
        rw [hev]
        refine Ex_tableIn (tgt := 143) (off := 111) (dc_ok oX3_perform rfl) (by decide) (by decide) (by decide) (by decide) ?_
        refine Ex_wx [] 9 oX3_perform hC.1 ?_
        refine Ex_v (As := [vD (some (τ t))]) (st := [vS 3]) (d' := 1) vX3_147 rfl rfl (e3_operandOf hC hE1 hq (by omega)) h3 (by omega) rfl (dc_ok oX3_perform rfl) ?_
        rw [k1, k2]
        refine Ex_cV (kc := 0) (ks := 0) (kc' := 0) (ks' := 0) (As := [vI (opF env (B t).2.1 (B t).2.2.1)]) (st := []) vX3_158 rfl rfl h3 (e3_fail (d := 1) hC hL1 hM1 (by omega) (by omega)) (by omega) rfl (dc_ok oX3_perform rfl) ?_ (fun E g' I' L' hq => absurd hq pfQ_no)
        intro w g2 I2 L2 h2
        obtain ⟨y, rfl⟩ := h2.val
        refine Ex_wx [] 9 oX3_perform (by rw [h2.1]; exact hC.1) ?_
        exact h2.lift hF1 hK1
      · have hev : ev F B lim (f + 1) t env e = (0, [], ((mE.sp e + 1, e.2) : mE)) := by
          simp only [ev]
          rw [if_neg hns, hk]
          rfl
        rw [hev]
        refine Ex_tableIn (tgt := 153) (off := 121) (dc_ok oX3_perform rfl) (by decide) (by decide) (by decide) (by decide) ?_
        refine Ex_wx [] 9 oX3_perform hC.1 ?_
        exact ⟨rfl, rfl, hF1, Or.inl ⟨rfl, rfl, hM1, fun j r h => by simp at h, hK1⟩⟩
      · have hev : ev F B lim (f + 1) t env e = eitherF F ((mE.sp e + 1, e.2) : mE) (ev F B lim f (B t).2.2.2.2.1 env ((mE.sp e + 1, e.2) : mE)) (ev F B lim f (B t).2.2.2.2.2 env) := by
          simp only [ev]
          rw [if_neg hns, hk]
          rfl
        rw [hev]
        refine Ex_tableIn (tgt := 155) (off := 123) (dc_ok oX3_perform rfl) (by decide) (by decide) (by decide) (by decide) ?_
        obtain ⟨ha1, ha2, ha3⟩ := hA (by decide) (by decide)
        obtain ⟨hb1, hb2, hb3⟩ := hB (by decide) (by decide)
        refine Ex_wx [] 9 oX3_perform hC.1 ?_
        refine Ex_cV (kc := 0) (ks := 0) (kc' := 0) (ks' := 0) (As := [vD (some (τ t))]) (st := []) vX3_161 rfl rfl h3 (e3_either hC ih hq ha1 (by omega) ha3 hb1 (by omega) hb3 hT1 hL1 hM1 hi1 (by omega)) (by omega) rfl (dc_ok oX3_perform rfl) ?_ (fun E g' I' L' hq => absurd hq pfQ_no)
        intro w g2 I2 L2 h2
        obtain ⟨y, rfl⟩ := h2.val
        refine Ex_wx [] 9 oX3_perform (by rw [h2.1]; exact hC.1) ?_
        exact h2.lift hF1 hK1
      · have hev : ev F B lim (f + 1) t env e = if (ev F B lim f (B t).2.2.2.2.1 env ((mE.sp e + 1, e.2) : mE)).1 ≠ 0 then ((ev F B lim f (B t).2.2.2.2.1 env ((mE.sp e + 1, e.2) : mE)).1, [], (ev F B lim f (B t).2.2.2.2.1 env ((mE.sp e + 1, e.2) : mE)).2.2) else eachF F (ev F B lim f (B t).2.2.2.2.2) 0 (B t).2.2.2.1 env (ev F B lim f (B t).2.2.2.2.1 env ((mE.sp e + 1, e.2) : mE)).2.1 [] (ev F B lim f (B t).2.2.2.2.1 env ((mE.sp e + 1, e.2) : mE)).2.2 := by
          simp only [ev]
          rw [if_neg hns, hk]
          rfl
        rw [hev]
        refine Ex_tableIn (tgt := 161) (off := 129) (dc_ok oX3_perform rfl) (by decide) (by decide) (by decide) (by decide) ?_
        obtain ⟨ha1, ha2, ha3⟩ := hA (by decide) (by decide)
        obtain ⟨hb1, hb2, hb3⟩ := hB (by decide) (by decide)
        refine Ex_wx [] 9 oX3_perform hC.1 ?_
        refine Ex_cV (kc := 0) (ks := 0) (kc' := 0) (ks' := 0) (As := [vD (some (τ t))]) (st := []) vX3_164 rfl rfl h3 (e3_then hC ih ht k3 ha1 (by omega) ha3 hb1 (by omega) hb3 hT1 hL1 hM1 hi1 hlim (by omega)) (by omega) rfl (dc_ok oX3_perform rfl) ?_ (fun E g' I' L' hq => absurd hq pfQ_no)
        intro w g2 I2 L2 h2
        obtain ⟨y, rfl⟩ := h2.val
        refine Ex_wx [] 9 oX3_perform (by rw [h2.1]; exact hC.1) ?_
        exact h2.lift hF1 hK1
      · have hev : ev F B lim (f + 1) t env e = savedF F ((mE.sp e + 1, e.2) : mE) (ev F B lim f (B t).2.2.2.2.1 env ((mE.sp e + 1, e.2) : mE)) (ev F B lim f (B t).2.2.2.2.2) (B t).2.2.2.1 env := by
          simp only [ev]
          rw [if_neg hns, hk]
          rfl
        rw [hev]
        refine Ex_tableIn (tgt := 167) (off := 135) (dc_ok oX3_perform rfl) (by decide) (by decide) (by decide) (by decide) ?_
        obtain ⟨ha1, ha2, ha3⟩ := hA (by decide) (by decide)
        obtain ⟨hb1, hb2, hb3⟩ := hB (by decide) (by decide)
        refine Ex_wx [] 9 oX3_perform hC.1 ?_
        refine Ex_cV (kc := 0) (ks := 0) (kc' := 0) (ks' := 0) (As := [vD (some (τ t))]) (st := []) vX3_167 rfl rfl h3 (e3_saved hC ih ht k3 ha1 (by omega) ha3 hb1 (by omega) hb3 hT1 hL1 hM1 hi1 hlim (by omega)) (by omega) rfl (dc_ok oX3_perform rfl) ?_ (fun E g' I' L' hq => absurd hq pfQ_no)
        intro w g2 I2 L2 h2
        obtain ⟨y, rfl⟩ := h2.val
        refine Ex_wx [] 9 oX3_perform (by rw [h2.1]; exact hC.1) ?_
        exact h2.lift hF1 hK1
      · have hev : ev F B lim (f + 1) t env e = ev F B lim f (if nmF env (B t).2.2.2.1 = 0 then (B t).2.2.2.2.2 else (B t).2.2.2.2.1) env ((mE.sp e + 1, e.2) : mE) := by
          simp only [ev]
          rw [if_neg hns, hk]
          rfl
        rw [hev]
        refine Ex_tableIn (tgt := 173) (off := 141) (dc_ok oX3_perform rfl) (by decide) (by decide) (by decide) (by decide) ?_
        obtain ⟨ha1, ha2, ha3⟩ := hA (by decide) (by decide)
        obtain ⟨hb1, hb2, hb3⟩ := hB (by decide) (by decide)
        refine Ex_wx [] 9 oX3_perform hC.1 ?_
        refine And.intro hq ?_
        rw [k3]
        refine Ex_v (As := [vI (B t).2.2.2.1]) (st := [vS 3]) (d' := 0) vX3_173 rfl rfl (e3_numberOf hC hE1) h3 (by omega) rfl (dc_ok oX3_perform rfl) ?_
        have fin : ∀ (r : Option Nat) (c : Nat), r = some (τ c) → c < cnt → hg c ≤ f → c = (if nmF env (B t).2.2.2.1 = 0 then (B t).2.2.2.2.2 else (B t).2.2.2.2.1) → Ex mX3_perform (4 * (f + 1) + 4) 0 0 (pfQ (ev F B lim f (if nmF env (B t).2.2.2.1 = 0 then (B t).2.2.2.2.2 else (B t).2.2.2.2.1) env ((mE.sp e + 1, e.2) : mE)) g I L lim env base) 196 [some (vS 3), some (vD (some (τ t)))] [vD r, vS 3] g I1 L := by
          intro r c hr hc hhc hce
          rw [← hce]
          subst hr
          refine Ex_cV (kc := 0) (ks := 0) (kc' := 0) (ks' := 0) (As := [vD (some (τ c))]) (st := []) vX3_48 rfl rfl h3 (ih c env _ base I1 L hc hhc hT1 hL1 hM1 hi1 (by omega)) (by omega) rfl (dc_ok oX3_perform rfl) ?_ (fun E g' I' L' hq => absurd hq pfQ_no)
          intro w g2 I2 L2 h2
          obtain ⟨y, rfl⟩ := h2.val
          refine Ex_wx [] 9 oX3_perform (by rw [h2.1]; exact hC.1) ?_
          exact h2.lift hF1 hK1
        refine Ex_wx [185, 192, 196] 9 oX3_perform hC.1 ?_
        refine And.intro (fun c => ?_) (fun c => ?_)
        · refine Ex_bn 2 oX3_perform hC.1 ?_
          refine And.intro hq ?_
          exact fin _ _ hb3 hb1 (by omega) (by rw [if_pos c])
        · refine Ex_wx [196] 9 oX3_perform hC.1 ?_
          refine And.intro hq ?_
          exact fin _ _ ha3 ha1 (by omega) (by rw [if_neg c])
      · have hev : ev F B lim (f + 1) t env e = timesF F (ev F B lim f (B t).2.2.2.2.1) env (clampF (opF env (B t).2.1 (B t).2.2.1)) [(0, 0, mE.s ((mE.sp e + 1, e.2) : mE), mE.l ((mE.sp e + 1, e.2) : mE))] ((mE.sp e + 1, e.2) : mE) := by
          simp only [ev]
          rw [if_neg hns, hk]
          rfl
        rw [hev]
        refine Ex_tableIn (tgt := 200) (off := 168) (dc_ok oX3_perform rfl) (by decide) (by decide) (by decide) (by decide) ?_
        obtain ⟨ha1, ha2, ha3⟩ := hA (by decide) (by decide)
        have hX := e3_times (L := L) hC ih ht ha1 (by omega) ha3 hT1 hL1 hM1 hi1 hlim (by omega)
        rw [k1, k2] at hX
        refine Ex_wx [] 9 oX3_perform hC.1 ?_
        refine Ex_cV (kc := 0) (ks := 0) (kc' := 0) (ks' := 0) (As := [vD (some (τ t))]) (st := []) vX3_181 rfl rfl h3 (hX) (by omega) rfl (dc_ok oX3_perform rfl) ?_ (fun E g' I' L' hq => absurd hq pfQ_no)
        intro w g2 I2 L2 h2
        obtain ⟨y, rfl⟩ := h2.val
        refine Ex_wx [] 9 oX3_perform (by rw [h2.1]; exact hC.1) ?_
        exact h2.lift hF1 hK1
      · have hev : ev F B lim (f + 1) t env e = if (ev F B lim f (B t).2.2.2.2.1 env ((mE.sp e + 1, e.2) : mE)).1 ≠ 0 then ((ev F B lim f (B t).2.2.2.2.1 env ((mE.sp e + 1, e.2) : mE)).1, [], (ev F B lim f (B t).2.2.2.2.1 env ((mE.sp e + 1, e.2) : mE)).2.2) else (0, (ev F B lim f (B t).2.2.2.2.1 env ((mE.sp e + 1, e.2) : mE)).2.1.take 1, (ev F B lim f (B t).2.2.2.2.1 env ((mE.sp e + 1, e.2) : mE)).2.2) := by
          simp only [ev]
          rw [if_neg hns, hk]
          rfl
        rw [hev]
        refine Ex_tableIn (tgt := 206) (off := 174) (dc_ok oX3_perform rfl) (by decide) (by decide) (by decide) (by decide) ?_
        obtain ⟨ha1, ha2, ha3⟩ := hA (by decide) (by decide)
        refine Ex_wx [] 9 oX3_perform hC.1 ?_
        refine Ex_cV (kc := 0) (ks := 0) (kc' := 0) (ks' := 0) (As := [vD (some (τ t))]) (st := []) vX3_184 rfl rfl h3 (e3_once hC ih ht ha1 (by omega) ha3 hT1 hL1 hM1 hi1 (by omega)) (by omega) rfl (dc_ok oX3_perform rfl) ?_ (fun E g' I' L' hq => absurd hq pfQ_no)
        intro w g2 I2 L2 h2
        obtain ⟨y, rfl⟩ := h2.val
        refine Ex_wx [] 9 oX3_perform (by rw [h2.1]; exact hC.1) ?_
        exact h2.lift hF1 hK1
      · have hev : ev F B lim (f + 1) t env e = if (ev F B lim f (B t).2.2.2.2.1 env ((mE.sp e + 1, e.2) : mE)).1 ≠ 0 then ((ev F B lim f (B t).2.2.2.2.1 env ((mE.sp e + 1, e.2) : mE)).1, [], (ev F B lim f (B t).2.2.2.2.1 env ((mE.sp e + 1, e.2) : mE)).2.2) else (0, (ev F B lim f (B t).2.2.2.2.1 env ((mE.sp e + 1, e.2) : mE)).2.1.map (heardM F (lenF ((mE.sp e + 1, e.2) : mE) (mE.l ((mE.sp e + 1, e.2) : mE))) (ev F B lim f (B t).2.2.2.2.1 env ((mE.sp e + 1, e.2) : mE)).2.2), (ev F B lim f (B t).2.2.2.2.1 env ((mE.sp e + 1, e.2) : mE)).2.2) := by
          simp only [ev]
          rw [if_neg hns, hk]
          rfl
        rw [hev]
        refine Ex_tableIn (tgt := 212) (off := 180) (dc_ok oX3_perform rfl) (by decide) (by decide) (by decide) (by decide) ?_
        obtain ⟨ha1, ha2, ha3⟩ := hA (by decide) (by decide)
        refine Ex_wx [] 9 oX3_perform hC.1 ?_
        refine Ex_cV (kc := 0) (ks := 0) (kc' := 0) (ks' := 0) (As := [vD (some (τ t))]) (st := []) vX3_187 rfl rfl h3 (e3_heard hC ih ht ha1 (by omega) ha3 hT1 hL1 hM1 hi1 hlim (by omega)) (by omega) rfl (dc_ok oX3_perform rfl) ?_ (fun E g' I' L' hq => absurd hq pfQ_no)
        intro w g2 I2 L2 h2
        obtain ⟨y, rfl⟩ := h2.val
        refine Ex_wx [] 9 oX3_perform (by rw [h2.1]; exact hC.1) ?_
        exact h2.lift hF1 hK1
      · have hev : ev F B lim (f + 1) t env e = if (ev F B lim f (B t).2.2.2.2.1 env ((mE.sp e + 1, e.2) : mE)).1 ≠ 0 then ((ev F B lim f (B t).2.2.2.2.1 env ((mE.sp e + 1, e.2) : mE)).1, [], (ev F B lim f (B t).2.2.2.2.1 env ((mE.sp e + 1, e.2) : mE)).2.2) else (0, (ev F B lim f (B t).2.2.2.2.1 env ((mE.sp e + 1, e.2) : mE)).2.1.map (hiddenM (mE.l ((mE.sp e + 1, e.2) : mE))), setSL (ev F B lim f (B t).2.2.2.2.1 env ((mE.sp e + 1, e.2) : mE)).2.2 (mE.s (ev F B lim f (B t).2.2.2.2.1 env ((mE.sp e + 1, e.2) : mE)).2.2) (mE.l ((mE.sp e + 1, e.2) : mE))) := by
          simp only [ev]
          rw [if_neg hns, hk]
          rfl
        rw [hev]
        refine Ex_tableIn (tgt := 218) (off := 186) (dc_ok oX3_perform rfl) (by decide) (by decide) (by decide) (by decide) ?_
        obtain ⟨ha1, ha2, ha3⟩ := hA (by decide) (by decide)
        refine Ex_wx [] 9 oX3_perform hC.1 ?_
        refine Ex_cV (kc := 0) (ks := 0) (kc' := 0) (ks' := 0) (As := [vD (some (τ t))]) (st := []) vX3_190 rfl rfl h3 (e3_hidden hC ih ht ha1 (by omega) ha3 hT1 hL1 hM1 hi1 (by omega)) (by omega) rfl (dc_ok oX3_perform rfl) ?_ (fun E g' I' L' hq => absurd hq pfQ_no)
        intro w g2 I2 L2 h2
        obtain ⟨y, rfl⟩ := h2.val
        refine Ex_wx [] 9 oX3_perform (by rw [h2.1]; exact hC.1) ?_
        exact h2.lift hF1 hK1
      · have hev : ev F B lim (f + 1) t env e = ansF (rkF k (opF env (B t).2.1 (B t).2.2.1) (nmF env (B t).2.2.2.1)) ((mE.sp e + 1, e.2) : mE) := by
          simp only [ev]
          rw [if_neg hns, hk]
          have h14 : k = 14 ∨ k = 15 ∨ k = 16 ∨ k = 17 ∨ k = 18 := by omega
          rcases h14 with rfl | rfl | rfl | rfl | rfl <;> rfl
        rw [hev]
        refine Ex_tableOut (tgt := 224) (dc_ok oX3_perform rfl) (Or.inr (by rw [nI_toInt (by omega)]; omega)) (by decide) ?_
        refine Ex_wx [] 9 oX3_perform hC.1 ?_
        refine And.intro hq ?_
        rw [k0, hk]
        refine Ex_v (As := [vD (some (τ t))]) (st := [vI (nI k), vS 3]) (d' := 1) vX3_147 rfl rfl (e3_operandOf hC hE1 hq (by omega)) h3 (by omega) rfl (dc_ok oX3_perform rfl) ?_
        rw [k1, k2]
        refine Ex_wx [] 9 oX3_perform hC.1 ?_
        refine And.intro hq ?_
        rw [k3]
        refine Ex_v (As := [vI (B t).2.2.2.1]) (st := [vI (opF env (B t).2.1 (B t).2.2.1), vI (nI k), vS 3]) (d' := 0) vX3_173 rfl rfl (e3_numberOf hC hE1) h3 (by omega) rfl (dc_ok oX3_perform rfl) ?_
        refine Ex_s (As := [vI (nI k), vI (opF env (B t).2.1 (B t).2.2.1), vI (nmF env (B t).2.2.2.1)]) (st := [vS 3]) (d' := 0) sX3_193 rfl rfl (e3_reckon hC hka hkb) (by omega) rfl (dc_ok oX3_perform rfl) ?_
        refine Ex_v (As := [vI (rkF k (opF env (B t).2.1 (B t).2.2.1) (nmF env (B t).2.2.2.1))]) (st := []) (d' := 1) vX3_150 rfl rfl (e3_answer hC hM1 (by omega) (by omega)) h3 (by omega) rfl (dc_ok oX3_perform rfl) ?_
        refine Ex_wx [] 9 oX3_perform hC.1 ?_
        exact ⟨rfl, rfl, hF1.trans push_frm, Or.inl ⟨rfl, rfl, hM1.push, push_rows, hK1.trans push_keep⟩⟩
    · have hns : lim ≤ mE.sp e := by
        rw [hM.1, hM.2.1] at c
        rcases Nat.lt_or_ge (mE.sp e) lim with h | h
        · exact absurd (nI_lt h (by omega)) c
        · exact h
      have hev : ev F B lim (f + 1) t env e = (2, [], e) := by
        simp only [ev]
        rw [if_pos hns]
      rw [hev]
      refine Ex_wx [] 9 oX3_perform hC.1 ?_
      exact ⟨rfl, rfl, Frm.refl, Or.inr (Or.inr ⟨rfl, rfl, base, by omega, hM.2.2.2.2.2.2.2.2.2.2⟩)⟩
end Perf3
