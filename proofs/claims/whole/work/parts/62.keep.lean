/-! the reference: what it keeps of a run -/
def KeptR (I : aI) (w : Nat) (p : Nat → Int32) (q : mO) : Prop := I 354 w = nI (if q.1 = 0 then q.2.1.length else 0) ∧ I 361 (6 * w) = ansO q ∧ (¬ q.1 = 2 → KtC I w (comO p q)) ∧ (q.1 = 0 → ∀ (k : Nat) (r : mR), q.2.1[k]? = some r → KtR I (50 * w + k) (resG p q.2.2 r))
section Keep
variable {lx ly : Nat} {g : aG} {I : aI} {L : aL} {d w lim : Nat} {x : Int32} {p : Nat → Int32} {e : mE} {Q : aQ} {en : Bool} {rs : List mR}
theorem r_keepT (hw : WS lx ly g) (hp : I 336 = p) (hw2 : w < 2) (hen : en = decide (¬ I 328 34 = 0)) (h50 : rs.length ≤ 50) (hL : Lr (flF p) I e) (hv : invL e) (hus : mE.us e ≤ 2001) (hRr : Rr (flF p) I 50 rs) (herr : errR rs) (hlr : rowL (mE.us e) rs) (hd : 3 ≤ d)
    (hfin : ∀ J, (∀ i c, kf w i c → J i c = I i c) → J 354 w = nI rs.length → J 361 (6 * w) = (if I 328 33 = 0 then (if I 328 34 = 0 then nI rs.length else -2) else -3) → KtC J w (comR p en (I 328 35) (I 328 31) e) → (∀ (j : Nat) (r : mR), rs[j]? = some r → KtR J (50 * w + j) (resG p e r)) → Q (.inl none) g J L) :
    Ex mX9_keep d 0 0 Q 24 [some (vS 328), some (vI (nI w)), none, none, none, none, none] [vI (nI rs.length)] g I L := by
  refine Ex_bn 8 oX9_keep hw ?_
  refine And.intro (inN (by omega) (by omega)) ?_
  rw [clN (by omega)]
  refine r_keepL (I := I) (p := p) (e := e) hw hp hw2 h50 hL hv hus hRr herr hlr (by omega) ?_ rs.length 0 _ none none none (Nat.zero_add _) ⟨fun i c hc => up2_n (by unfold kf at hc; omega), up2_s, fun j r hj => by omega⟩
  intro J u4 u5 u6 hK
  have hfr : ∀ i c, i < 354 → J i c = I i c := fun i c hi => hK.1 i c (Or.inl hi)
  refine r_keepC (p := p) (e := e) (en := en) hw (by rw [← hp]; funext c; exact hfr _ _ (by omega)) hw2 (by rw [hfr _ _ (by omega)]; exact hen) (hL.eq (fun i c hc => hfr i c (by omega))) hv hus hd ?_
  intro J2 j1 j2 j3
  rw [hfr _ _ (by omega), hfr _ _ (by omega)] at j2 j3
  refine hfin J2 (fun i c hc => ?_) ?_ j2 j3 (fun j r hr => ?_)
  · rw [j1 i c (by unfold kf at hc; unfold cc1; omega)]; exact hK.1 i c hc
  · rw [j1 _ _ (by unfold cc1; omega)]; exact hK.2.1
  · obtain ⟨a1, a2, a3, a4, a5, a6⟩ := hK.2.2 j r (List.getElem?_eq_some_iff.mp hr).1 hr
    refine ⟨?_, ?_, ?_, ?_, ?_, fun i hi => ?_⟩
    · rw [j1 _ _ (by unfold cc1; omega)]; exact a1
    · rw [j1 _ _ (by unfold cc1; omega)]; exact a2
    · rw [j1 _ _ (by unfold cc1; omega)]; exact a3
    · rw [j1 _ _ (by unfold cc1; omega)]; exact a4
    · rw [j1 _ _ (by unfold cc1; omega)]; exact a5
    · rw [j1 _ _ (by unfold cc1; omega)]; exact a6 i hi
theorem r_keep {q : mO} (hw : WS lx ly g) (hp : I 336 = p) (hx : x = nI w) (hw2 : w < 2) (hok : okO lim q) (hlim : lim ≤ 2000) (hv : invL q.2.2) (hlr : rowL (mE.us q.2.2) q.2.1) (hd : 3 ≤ d)
    (hq : (q.1 = 0 ∧ Sr (flF p) I lim q.2.2 0 ∧ I 349 1 = nI q.2.1.length ∧ Rr (flF p) I 50 q.2.1) ∨ (q.1 = 1 ∧ I 328 33 = 0 ∧ I 328 34 = 1 ∧ I 328 35 = mE.en q.2.2 ∧ I 328 31 = nI (mE.sp q.2.2) ∧ Lr (flF p) I q.2.2) ∨ (q.1 = 2 ∧ OutS (flF p) I)) :
    Mx mX9_keep d 0 0 [vS 328, vI x] g I L (rQ g L (fun I' => KeptR I' w p q ∧ ∀ i c, kf w i c → I' i c = I i c)) := by
  subst hx
  have hus : mE.us q.2.2 ≤ 2001 := by have := hok.2.1.2.1; have := hok.2.1.2.2; omega
  rcases hq with ⟨h0, hS, hm, hR⟩ | ⟨h0, a1, a2, a3, a4, hL⟩ | ⟨h0, hO, e, b1, b2, b3, b4⟩
  · obtain ⟨⟨s1, s2, s3, s4, s5, s6⟩, hL⟩ := hS
    obtain ⟨h50, herr⟩ := hok.2.2 h0
    refine Mx_in (by decide +kernel) rfl rfl (Ex_wx [14, 18, 7] 9 oX9_keep hw ?_)
    refine And.intro (fun _ => ?_) (fun c => absurd s4 c)
    refine Ex_wx [14, 18] 9 oX9_keep hw ?_
    refine And.intro (fun _ => ?_) (fun c => absurd s5 c)
    refine Ex_bn 4 oX9_keep hw ?_
    refine And.intro (show vp_in (nI 1) 64 from inN (by omega) (by omega)) ?_
    show Ex mX9_keep d 0 0 _ 24 [some (vS 328), some (vI (nI w)), none, none, none, none, none] [vI (I 349 1)] g I L
    rw [hm]
    refine r_keepT (p := p) (e := q.2.2) (en := false) hw hp hw2 (by rw [s5]; rfl) h50 hL hv hus hR herr hlr hd ?_
    intro J j1 j2 j3 j4 j5
    rw [if_pos s4, if_pos s5] at j3
    refine ⟨rfl, rfl, rfl, ⟨by rw [if_pos h0]; exact j2, by rw [j3]; unfold ansO; rw [if_pos h0], fun _ => ?_, fun _ => j5⟩, j1⟩
    have : comO p q = comR p false (I 328 35) (I 328 31) q.2.2 := by
      unfold comO comG comR
      rw [decide_eq_false (by omega), s6, s2]; rfl
    rw [this]
    exact j4
  · refine Mx_in (by decide +kernel) rfl rfl (Ex_wx [14, 18, 7] 9 oX9_keep hw ?_)
    refine And.intro (fun _ => ?_) (fun c => absurd a1 c)
    refine Ex_wx [14, 18] 9 oX9_keep hw ?_
    refine And.intro (fun c => absurd (a2 ▸ c) (by decide)) (fun c => ?_)
    refine Ex_wx [24] 9 oX9_keep hw ?_
    refine r_keepT (p := p) (e := q.2.2) (en := true) (rs := []) hw hp hw2 (by rw [a2]; rfl) (Nat.zero_le _) hL hv hus Rr.nil (fun r hr => by cases hr) rowL.nil hd ?_
    intro J j1 j2 j3 j4 j5
    rw [if_pos a1, if_neg (by rw [a2]; decide)] at j3
    refine ⟨rfl, rfl, rfl, ⟨by rw [if_neg (by omega)]; exact j2, by rw [j3]; unfold ansO; rw [if_neg (by omega), if_pos h0], fun _ => ?_, fun c => by omega⟩, j1⟩
    have : comO p q = comR p true (I 328 35) (I 328 31) q.2.2 := by
      unfold comO comG comR
      rw [decide_eq_true h0, a3, a4]; rfl
    rw [this]
    exact j4
  · refine Mx_in (by decide +kernel) rfl rfl (Ex_wx [14, 18, 7] 9 oX9_keep hw ?_)
    refine And.intro (fun c => absurd (hO ▸ c) (by decide)) (fun c => ?_)
    refine Ex_wx [24] 9 oX9_keep hw ?_
    refine r_keepT (p := p) (e := e) (en := decide (¬ I 328 34 = 0)) (rs := []) hw hp hw2 rfl (Nat.zero_le _) b4 b1 b3 Rr.nil (fun r hr => by cases hr) rowL.nil hd ?_
    intro J j1 j2 j3 j4 j5
    rw [if_neg (by rw [hO]; decide)] at j3
    exact ⟨rfl, rfl, rfl, ⟨by rw [if_neg (by omega)]; exact j2, by rw [j3]; unfold ansO; rw [if_neg (by omega), if_neg (by omega)], fun c => absurd h0 c, fun c => by omega⟩, j1⟩
end Keep
