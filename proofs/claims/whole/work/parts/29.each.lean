/-! performEach -/
section EachEq
variable {F : mF} {go : (Nat → Int32) → mE → mO} {oe nm : Int32} {env : Nat → Int32} {r : mR} {rs acc : List mR} {e : mE}
def stepF (F : mF) (go : (Nat → Int32) → mE → mO) (oe nm : Int32) (env : Nat → Int32) (r : mR) (e : mE) : mO := if r.2.1 = oe then go (upE env nm r.1) (own2 F e r.2.2.1 r.2.2.2) else (0, [r], e)
theorem each_stop (h : (stepF F go oe nm env r e).1 ≠ 0) : eachF F go oe nm env (r :: rs) acc e = ((stepF F go oe nm env r e).1, [], (stepF F go oe nm env r e).2.2) := by
  simp only [eachF]; unfold stepF at h ⊢; rw [if_pos h]
theorem each_many (h : (stepF F go oe nm env r e).1 = 0) (h2 : 50 < (acc ++ (stepF F go oe nm env r e).2.1).length) : eachF F go oe nm env (r :: rs) acc e = (2, [], (stepF F go oe nm env r e).2.2) := by
  simp only [eachF]; unfold stepF at h h2 ⊢; rw [if_neg (fun q => q h), if_pos h2]
theorem each_go (h : (stepF F go oe nm env r e).1 = 0) (h2 : ¬ 50 < (acc ++ (stepF F go oe nm env r e).2.1).length) : eachF F go oe nm env (r :: rs) acc e = eachF F go oe nm env rs (acc ++ (stepF F go oe nm env r e).2.1) (stepF F go oe nm env r e).2.2 := by
  conv => lhs; simp only [eachF]
  unfold stepF at h h2 ⊢; rw [if_neg (fun q => q h), if_neg h2]
end EachEq
theorem Rows.app {I : aI} {b : Nat} {a c : List mR} (h1 : Rows I b a) (h2 : Rows I (b + a.length) c) : Rows I b (a ++ c) := by
  intro j r h
  by_cases hj : j < a.length
  · rw [List.getElem?_append_left hj] at h; exact h1 j r h
  · rw [List.getElem?_append_right (by omega)] at h
    have h3 := h2 _ r h
    rw [show b + a.length + (j - a.length) = b + j by omega] at h3
    exact h3
theorem Rows.keep {I I' : aI} {b n : Nat} {rs : List mR} (h : Rows I b rs) (hk : Keep I I' n) (hn : b + rs.length ≤ n) : Rows I' b rs := by
  intro j r hj
  have hl : j < rs.length := (List.getElem?_eq_some_iff.mp hj).1
  rw [hk (b + j) (by omega)]
  exact h j r hj
theorem out_val {q : mO} {v : Option aV} {I I' : aI} {lim : Nat} {env : Nat → Int32} {base : Nat} (h : outP q (.inl v) I I' lim env base) : ∃ x, v = some (vI x) := by
  rcases h with ⟨-, h, -⟩ | ⟨-, h, -⟩ | ⟨-, h, -⟩ <;> (cases h; exact ⟨_, rfl⟩)
section Each
variable {lx ly : Nat} {g : aG} {τ : Nat → Nat} {B : mB} {hg : Nat → Nat} {cnt : Nat} {F : mF} {lim f : Nat}
variable {t : Nat} {env : Nat → Int32} {base : Nat} {I : aI} {L : aL} {oe nm : Int32} {rs : List mR}
theorem e3_eachL (hC : Cm lx ly g) (hP : pfC lx ly g τ B hg cnt F lim f) (ht : t < cnt) (hh : hg t ≤ f) (hT : Tb g I τ B hg cnt) (hL : Lay I ly F) (hr50 : rs.length ≤ 50) (hre : errR rs) (hb : base + 100 * (f + 1) ≤ 3100) (hlim : lim ≤ 2000) :
    ∀ (rs2 : List mR) (j : Nat) (acc : List mR) (e1 : mE) (I1 : aI) (h7 : Option aV), rs.drop j = rs2 → j ≤ rs.length → Mch I1 lim e1 env (base + rs.length + acc.length) → Rows I1 base rs → Rows I1 (base + rs.length) acc → Keep I I1 base → Frm I I1 → invE lim e1 → errR acc → acc.length ≤ 50 →
    Ex mX3_performEach (4 * f + 6) 0 0 (pfQ (eachF F (ev F B lim f t) oe nm env rs2 acc e1) g I L lim env base) 12 [some (vS 3), some (vI (nI base)), some (vI oe), some (vI nm), some (vD (some (τ t))), some (vI (nI (base + rs.length))), some (vI (nI (base + j))), h7] [] g I1 L := by
  have h3 := (hC.1 3 _ rfl).2.1
  have h4 := (hC.1 4 _ rfl).2.1
  have hf1 : 1 ≤ f := Nat.le_trans (hT t ht).2.2.2.1 hh
  intro rs2
  induction rs2 with
  | nil =>
    intro j acc e1 I1 h7 hd hj hM hR1 hR2 hK hF hi he ha
    have hjl : j = rs.length := by
      have := congrArg List.length hd
      simp at this
      omega
    subst hjl
    refine Ex_wx [] 9 oX3_performEach hC.1 ?_
    refine And.intro (fun _ => ?_) (fun c => absurd (Int32.le_refl _) c)
    have herr : ∀ k, base + rs.length ≤ k → k < base + rs.length + acc.length → I1 6 k = 0 ∨ I1 6 k = 1 := by
      intro k hk1 hk2
      have hlt : k - (base + rs.length) < acc.length := by omega
      have h9 := hR2 (k - (base + rs.length)) _ (List.getElem?_eq_getElem hlt)
      rw [show base + rs.length + (k - (base + rs.length)) = k by omega] at h9
      have h10 : I1 6 k = (acc[k - (base + rs.length)]).2.1 := congrArg (fun r : mR => r.2.1) h9
      rw [h10]; exact he _ (List.getElem_mem hlt)
    refine Ex_cV (kc := 0) (ks := 0) (kc' := 0) (ks' := 0) (As := [vI (nI base), vI (nI (base + rs.length))]) (st := []) (d' := 1) vX3_249 rfl rfl h4 (e5_closeGap hC.1 hM.2.2.2.2.2.2.2.2.2.2 (by omega) (by omega) (by omega) (by omega) herr) (by omega) rfl (dc_ok oX3_performEach rfl) ?_ (fun E g' I' L' hq => by cases hq.1)
    rintro w g' I' L' ⟨hw, rfl, rfl, h1, h2, h5, h6⟩
    cases hw
    refine Ex_wx [] 9 oX3_performEach hC.1 ?_
    refine ⟨rfl, rfl, hF.trans (fun i hi => h6 i (by omega)), Or.inl ⟨rfl, rfl, ?_, ?_, hK.trans (fun k hk => h2 k hk)⟩⟩
    · refine hM.res h6 ?_
      rw [h1]; congr 1; show base + _ = base + acc.length; omega
    · intro j r hjr
      have hl : j < acc.length := (List.getElem?_eq_some_iff.mp hjr).1
      rw [h5 j (by omega)]
      exact hR2 j r hjr
  | cons r rs2 ih =>
    intro j acc e1 I1 h7 hd hj hM hR1 hR2 hK hF hi he ha
    have hjl : j < rs.length := by
      have := congrArg List.length hd
      simp at this
      omega
    have hrj : rs[j]? = some r := by
      have h9 : (rs.drop j)[0]? = some r := by rw [hd]; rfl
      rw [List.getElem?_drop] at h9
      exact h9
    have hd2 : rs.drop (j + 1) = rs2 := by rw [← List.drop_drop, hd]; rfl
    have hat := hR1 j r hrj
    have q5 : I1 5 (base + j) = r.1 := congrArg (fun r : mR => r.1) hat
    have q6 : I1 6 (base + j) = r.2.1 := congrArg (fun r : mR => r.2.1) hat
    have q7 : I1 7 (base + j) = r.2.2.1 := congrArg (fun r : mR => r.2.2.1) hat
    have q8 : I1 8 (base + j) = r.2.2.2 := congrArg (fun r : mR => r.2.2.2) hat
    have hr01 : r.2.1 = 0 ∨ r.2.1 = 1 := hre r (List.mem_of_getElem? hrj)
    have htop := hM.2.2.2.2.2.2.2.2.2.2
    have hLay1 : Lay I1 ly F := hL.frm hF hC.2.2
    -- behind the part: at 95, with how in local 7
    have tail : ∀ (I2 : aI) (h : Int32) (o : aO), o = .inl (some (vI h)) → Frm I I2 → Keep I1 I2 (base + rs.length + acc.length) ∨ (stepF F (ev F B lim f t) oe nm env r e1).1 = 2 → outP (stepF F (ev F B lim f t) oe nm env r e1) o I1 I2 lim env (base + rs.length + acc.length) →
        Ex mX3_performEach (4 * f + 6) 0 0 (pfQ (eachF F (ev F B lim f t) oe nm env (r :: rs2) acc e1) g I L lim env base) 95 [some (vS 3), some (vI (nI base)), some (vI oe), some (vI nm), some (vD (some (τ t))), some (vI (nI (base + rs.length))), some (vI (nI (base + j))), some (vI h)] [] g I2 L := by
      intro I2 h o ho hF2 hK2 hout
      have hok : okO lim (stepF F (ev F B lim f t) oe nm env r e1) := by
        unfold stepF
        split
        · exact ev_ok f t _ _ (own2_inv hi)
        · exact ⟨Nat.zero_le _, hi, fun _ => ⟨by simp, fun x hx => by rw [List.mem_singleton.mp hx]; exact hr01⟩⟩
      rcases hout with ⟨h1, h2, hm, hrw, hkp⟩ | ⟨h1, h2, ⟨top, ht1, ht2, hm⟩, hkp⟩ | ⟨h1, h2, top, ht1, ht2⟩
      · rw [ho] at h2
        have hh0 : h = 0 := by cases h2; rfl
        subst hh0
        refine Ex_wx [103] 9 oX3_performEach hC.1 ?_
        refine And.intro (fun _ => ?_) (fun c => absurd rfl c)
        have hol := (hok.2.2 h1).1
        refine Ex_wx [] 9 oX3_performEach hC.1 ?_
        refine Ex_v (As := [vI (nI (base + rs.length))]) (st := []) (d' := 1) vX3_217 rfl rfl (e3_isTooMany hC hm.2.2.2.2.2.2.2.2.2.2 (by omega) (by omega) (by omega)) h3 (by omega) rfl (dc_ok oX3_performEach rfl) ?_
        by_cases hmany : 50 < (acc ++ (stepF F (ev F B lim f t) oe nm env r e1).2.1).length
        · rw [if_pos (by rw [List.length_append] at hmany; omega), each_many h1 hmany]
          refine Ex_wx [] 9 oX3_performEach hC.1 ?_
          refine And.intro (fun c => absurd c (by decide)) (fun _ => ?_)
          exact ⟨rfl, rfl, hF2, Or.inr (Or.inr ⟨rfl, rfl, _, by omega, hm.2.2.2.2.2.2.2.2.2.2⟩)⟩
        · rw [if_neg (by rw [List.length_append] at hmany; omega), each_go h1 hmany]
          refine Ex_wx [12] 9 oX3_performEach hC.1 ?_
          refine And.intro (fun _ => ?_) (fun c => absurd rfl c)
          show Ex mX3_performEach (4 * f + 6) 0 0 _ 12 [some (vS 3), some (vI (nI base)), some (vI oe), some (vI nm), some (vD (some (τ t))), some (vI (nI (base + rs.length))), some (vI (nI (base + j) + 1)), some (vI 0)] [] g I2 L
          rw [nI_1, show base + j + 1 = base + (j + 1) by omega]
          refine ih (j + 1) _ _ I2 _ hd2 (by omega) ?_ (hR1.keep hkp (by omega)) ?_ (hK.trans (hkp.mono (by omega))) hF2 hok.2.1 (errR_app he (hok.2.2 h1).2) (Nat.le_of_not_lt hmany)
          · rw [List.length_append]
            rw [show base + rs.length + (acc.length + (stepF F (ev F B lim f t) oe nm env r e1).2.1.length) = base + rs.length + acc.length + (stepF F (ev F B lim f t) oe nm env r e1).2.1.length by omega]
            exact hm
          · exact (hR2.keep hkp (Nat.le_refl _)).app hrw
      · rw [ho] at h2
        have hh0 : h = -2 := by cases h2; rfl
        subst hh0
        rw [each_stop (by rw [h1]; decide)]
        refine Ex_wx [103] 9 oX3_performEach hC.1 ?_
        refine And.intro (fun c => absurd c (by decide)) (fun _ => ?_)
        exact ⟨rfl, rfl, hF2, Or.inr (Or.inl ⟨h1, rfl, ⟨top, by omega, ht2, hm⟩, hK.trans (hkp.mono (by omega))⟩)⟩
      · rw [ho] at h2
        have hh0 : h = -3 := by cases h2; rfl
        subst hh0
        rw [each_stop (by rw [h1]; decide)]
        refine Ex_wx [103] 9 oX3_performEach hC.1 ?_
        refine And.intro (fun c => absurd c (by decide)) (fun _ => ?_)
        exact ⟨rfl, rfl, hF2, Or.inr (Or.inr ⟨h1, rfl, top, ht1, ht2⟩)⟩
    refine Ex_wx [] 9 oX3_performEach hC.1 ?_
    refine And.intro (fun c => absurd (leN c (by omega) (by omega)) (by omega)) (fun _ => ?_)
    refine Ex_v (As := [vI (nI (base + j))]) (st := []) (d' := 1) vX3_122 rfl rfl (e5_isError hC.1 htop (by omega) (by omega) (by omega)) h4 (by omega) rfl (dc_ok oX3_performEach rfl) ?_
    rw [q6, bz_01 hr01]
    refine Ex_wx [32, 75] 9 oX3_performEach hC.1 ?_
    refine And.intro (fun c => ?_) (fun c => ?_)
    · refine Ex_wx [] 9 oX3_performEach hC.1 ?_
      refine Ex_v (As := [vI (nI (base + j))]) (st := [vS 3]) (d' := 1) vX3_133 rfl rfl (e5_stateOf hC.1 htop (by omega) (by omega) (by omega)) h4 (by omega) rfl (dc_ok oX3_performEach rfl) ?_
      refine Ex_wx [] 9 oX3_performEach hC.1 ?_
      refine Ex_v (As := [vI (nI (base + j))]) (st := [vI (I1 7 (base + j)), vS 3]) (d' := 1) vX3_139 rfl rfl (e5_logOf hC.1 htop (by omega) (by omega) (by omega)) h4 (by omega) rfl (dc_ok oX3_performEach rfl) ?_
      rw [q7, q8]
      refine Ex_v (As := [vI r.2.2.1, vI r.2.2.2]) (st := []) (d' := 1) vX3_214 rfl rfl (e3_takeOwn hC hLay1) h3 (by omega) rfl (dc_ok oX3_performEach rfl) ?_
      refine Ex_wx [] 9 oX3_performEach hC.1 ?_
      have htop2 : ownI F I1 r.2.2.1 r.2.2.2 4 4 = nI (base + rs.length + acc.length) := by rw [own_else (by omega)]; exact htop
      refine Ex_v (As := [vI (nI (base + j))]) (st := [vI nm, vS 3]) (d' := 1) vX3_126 rfl rfl (e5_numberOf hC.1 htop2 (by omega) (by omega) (by omega)) h4 (by omega) rfl (dc_ok oX3_performEach rfl) ?_
      refine Ex_wx [] 9 oX3_performEach hC.1 ?_
      rw [show ownI F I1 r.2.2.1 r.2.2.2 5 (base + j) = r.1 by rw [own_else (by omega)]; exact q5]
      have hs : stepF F (ev F B lim f t) oe nm env r e1 = ev F B lim f t (upE env nm r.1) (own2 F e1 r.2.2.1 r.2.2.2) := by unfold stepF; rw [if_pos c]
      have hN := e3_naming (L := L) (nm := nm) (v := r.1) (I := ownI F I1 r.2.2.1 r.2.2.2) hC hP ht hh (hT.frm (hF.trans own_frm)) (hLay1.frm own_frm hC.2.2) (hM.own (F := F) (s := r.2.2.1) (l := r.2.2.2)) (own2_inv hi) (by omega)
      refine Ex_cV (kc := 0) (ks := 0) (kc' := 0) (ks' := 0) (As := [vI nm, vI r.1, vD (some (τ t))]) (st := []) vX3_224 rfl rfl h3 hN (by omega) rfl (dc_ok oX3_performEach rfl) ?_ (fun E g' I' L' hq => absurd hq pfQ_no)
      rintro w g' I' L' ⟨rfl, rfl, hf, ho⟩
      obtain ⟨x, rfl⟩ := out_val ho
      refine Ex_wx [95] 9 oX3_performEach hC.1 ?_
      rw [← hs] at ho
      refine tail I' x _ rfl (hF.trans (own_frm.trans hf)) ?_ ?_
      · rcases ho with ⟨-, -, -, -, h⟩ | ⟨-, -, -, h⟩ | ⟨h, -⟩
        · exact Or.inl (fun k hk => by rw [h k hk, own_res])
        · exact Or.inl (fun k hk => by rw [h k hk, own_res])
        · exact Or.inr h
      · rcases ho with ⟨h1, h2, h3, h4, h⟩ | ⟨h1, h2, h3, h⟩ | h
        · exact Or.inl ⟨h1, h2, h3, h4, fun k hk => by rw [h k hk, own_res]⟩
        · exact Or.inr (Or.inl ⟨h1, h2, h3, fun k hk => by rw [h k hk, own_res]⟩)
        · exact Or.inr (Or.inr h)
    · refine Ex_wx [] 9 oX3_performEach hC.1 ?_
      refine Ex_v (As := [vI (nI (base + j))]) (st := []) (d' := 2) vX3_246 rfl rfl (e5_pushAgain hC.1 htop (by omega) (by omega) (by omega)) h4 (by omega) rfl (dc_ok oX3_performEach rfl) ?_
      rw [q5, q6, q7, q8, bz_01 hr01]
      have hs : stepF F (ev F B lim f t) oe nm env r e1 = (0, [r], e1) := by unfold stepF; rw [if_neg c]
      refine Ex_wx [93] 9 oX3_performEach hC.1 ?_
      refine And.intro (fun c => absurd c (by decide)) (fun _ => ?_)
      refine Ex_bn 1 oX3_performEach hC.1 ?_
      refine tail _ 0 _ rfl (hF.trans push_frm) (Or.inl push_keep) ?_
      rw [hs]
      exact Or.inl ⟨rfl, rfl, hM.push, push_rows, push_keep⟩
theorem e3_each {e : mE} (hC : Cm lx ly g) (hP : pfC lx ly g τ B hg cnt F lim f) (ht : t < cnt) (hh : hg t ≤ f) (hT : Tb g I τ B hg cnt) (hL : Lay I ly F) (hr50 : rs.length ≤ 50) (hre : errR rs) (hb : base + 100 * (f + 1) ≤ 3100) (hlim : lim ≤ 2000) (hM : Mch I lim e env (base + rs.length)) (hR : Rows I base rs) (hi : invE lim e) :
    Mx mX3_performEach (4 * f + 6) 0 0 [vS 3, vI (nI base), vI oe, vI nm, vD (some (τ t))] g I L (pfQ (eachF F (ev F B lim f t) oe nm env rs [] e) g I L lim env base) := by
  refine Mx_in (by decide +kernel) rfl rfl (Ex_wx [] 9 oX3_performEach hC.1 ?_)
  refine Ex_v (As := []) (st := []) (d' := 0) vX3_52 rfl rfl (e5_size hC.1) (hC.1 4 _ rfl).2.1 (by omega) rfl (dc_ok oX3_performEach rfl) ?_
  rw [hM.2.2.2.2.2.2.2.2.2.2]
  refine Ex_bn 3 oX3_performEach hC.1 ?_
  exact e3_eachL hC hP ht hh hT hL hr50 hre hb hlim rs 0 [] e I none rfl (Nat.zero_le _) hM hR (fun j r h => by cases h) Keep.refl Frm.refl hi (fun x hx => by cases hx) (by simp)
end Each
