/-! the reference: within, heard and hidden -/
def mixR (F : mF) (I : aI) (b i : Nat) (H : mR → mR) (cs : List mR) : Prop := ∀ j r, cs[j]? = some r → RowAt F I (b + j) (if j < i then H r else r)
theorem mixR_0 {F : mF} {I : aI} {b : Nat} {H : mR → mR} {cs : List mR} (h : Rr F I b cs) : mixR F I b 0 H cs := fun j r hj => by
  rw [if_neg (by omega)]; exact h j r hj
theorem mixR_end {F : mF} {I : aI} {b : Nat} {H : mR → mR} {cs : List mR} (h : mixR F I b cs.length H cs) : Rr F I b (cs.map H) := by
  intro j r hj
  rw [List.getElem?_map] at hj
  cases hc : cs[j]? with
  | none => rw [hc] at hj; cases hj
  | some r' =>
    rw [hc] at hj
    have h2 : H r' = r := Option.some.inj hj
    have h3 := h j r' hc
    have hlt : j < cs.length := (List.getElem?_eq_some_iff.mp hc).1
    rw [if_pos hlt, h2] at h3
    exact h3
section Heard
variable {lx ly : Nat} {g : aG} {I I4 : aI} {L : aL} {p : Nat → Int32} {B : mB} {hg : Nat → Nat} {cnt lim h t c f k n : Nat} {okT : Nat → Prop} {Run : aI → Prop} {env : Nat → Int32} {e : mE} {Q : aQ}
theorem wi_mid (hw : WS lx ly g) (hh : h ≤ 29) (h80 : t < 80) (k4 : I4 329 t = nI k) (hk : k = 13 ∨ k = 14) (m4 : I4 349 (2 * h + 1) = nI n) (K : Ex mX9_within 5 0 0 Q 104 [some (vS 328), some (vI (nI h)), some (vI (nI t)), some (vI (nI (100 * h + 50))), some (vI (nI n)), some (vI (nI 0))] [] g I4 L) : Ex mX9_within 5 0 0 Q 54 [some (vS 328), some (vI (nI h)), some (vI (nI t)), none, none, none] [] g I4 L := by
  have h0 := (hw 328 _ rfl).2.1
  have ct : (nI t).toNatClampNeg = t := clN (by omega)
  have vt : vp_in (nI t) 80 := inN (by omega) (by omega)
  have e3 : (2 : Int32) * nI h + 1 = nI (2 * h + 1) := by rw [show (2 : Int32) * nI h = nI (2 * h) from nI_mul 2 h, nI_1]
  have v3 : vp_in ((2 : Int32) * nI h + 1) 64 := by rw [e3]; exact inN (by omega) (by omega)
  have c3 : ((2 : Int32) * nI h + 1).toNatClampNeg = 2 * h + 1 := by rw [e3]; exact clN (by omega)
  refine Ex_wx [] 9 oX9_within hw ?_
  refine Ex_v (As := [vI (nI h), vI 1]) (st := []) (d' := 0) vX9_200 rfl rfl (r_row hw (l := 1) rfl) h0 (by omega) rfl (dc_ok oX9_within rfl) ?_
  rw [show 100 * h + 50 * 1 = 100 * h + 50 by omega]
  refine Ex_bn 10 oX9_within hw ?_
  refine And.intro v3 ?_
  show Ex mX9_within 5 0 0 Q 73 [some (vS 328), some (vI (nI h)), some (vI (nI t)), some (vI (nI (100 * h + 50))), some (vI (I4 349 ((2 : Int32) * nI h + 1).toNatClampNeg)), none] [] g I4 L
  rw [c3, m4]
  refine Ex_wx [84, 101] 9 oX9_within hw ?_
  refine And.intro vt ?_
  rw [ct, k4]
  refine And.intro (fun c => absurd c (by rcases hk with rfl | rfl <;> decide)) (fun _ => ?_)
  refine Ex_bn 2 oX9_within hw ?_
  exact K
theorem wi_heard (ih : simC g L p B hg cnt lim okT Run f) (hst : stepR g L Run) (hB : Bw B hg cnt) (hO : okB p B cnt okT) (H : Lf lx ly g p B cnt lim I h t env e) (ho : okT t) (hk : (B t).1 = 12) (hf : hg t ≤ f + 1) (hd : h + hg t ≤ 30) {q : mO} (hq : ev (flF p) B lim f (B t).2.2.2.2.1 env e = q)
    (K : Cont g L (flF p) lim Run (if q.1 ≠ 0 then (q.1, [], q.2.2) else (0, q.2.1.map (heardM (flF p) (lenF e (mE.l e)) q.2.2), q.2.2)) I h) : Mx mX9_within 5 0 0 [vS 328, vI (nI h)] g I L (rQ g L Run) := by
  refine wi_front ih hst hB hO H ho (by omega) (by omega) hf hd hq K ?_ ?_ ?_
  · intro q1; rw [if_pos (by rw [q1]; decide)]; exact ⟨q1, rfl⟩
  · intro q1; rw [if_pos (by rw [q1]; decide)]; exact q1
  intro q0 I4 hS4 m4 r4 hF4 hT4 bl4
  rw [if_neg (fun c => c q0)] at K
  obtain ⟨hw, hlim, hc, ht, hh, hE, hl, hsu, hT, hS, hF⟩ := H
  have hkc := ev_ok (F := flF p) (B := B) f (B t).2.2.2.2.1 env e hE
  have hlc := ev_log (F := flF p) (B := B) hlim f (B t).2.2.2.2.1 env e hE hl
  rw [hq] at hkc hlc
  have h5 := (hkc.2.2 q0).1
  have hus := hkc.2.1.us hlim
  have h0 := (hw 328 _ rfl).2.1
  have ch : (nI h).toNatClampNeg = h := clN (by omega)
  have ct : (nI t).toNatClampNeg = t := clN (by omega)
  have vh : vp_in (nI h) 32 := inN (by omega) (by omega)
  have vt : vp_in (nI t) 80 := inN (by omega) (by omega)
  have k4 : I4 329 t = nI 13 := by rw [(hT4.2 t ht).1, hk]; rfl
  refine wi_mid hw hh (by omega) k4 (Or.inl rfl) m4 ?_
  have loop : ∀ (n i : Nat) (I5 : aI), q.2.1.length - i = n → i ≤ q.2.1.length → mixR (flF p) I5 (100 * h + 50) i (heardM (flF p) (lenF e (mE.l e)) q.2.2) q.2.1 → (∀ a b, ¬ (a = 351 ∧ 100 * h + 50 ≤ b ∧ b < 100 * h + 100) → I5 a b = I4 a b) → Ex mX9_within 5 0 0 (rQ g L Run) 104 [some (vS 328), some (vI (nI h)), some (vI (nI t)), some (vI (nI (100 * h + 50))), some (vI (nI q.2.1.length)), some (vI (nI i))] [] g I5 L := by
    intro n
    induction n with
    | zero =>
      intro i I5 hn hi hm ha
      have : i = q.2.1.length := by omega
      subst this
      have hA5 : At I4 I5 h := fun i k c => ha i k (by unfold mt at c; omega)
      refine Ex_wx [] 9 oX9_within hw ?_
      refine And.intro (fun _ => ?_) (fun c => absurd (Int32.le_refl _) c)
      refine And.intro vt ?_
      rw [ct, ha _ _ (by omega), k4]
      refine And.intro (fun c => absurd c (by decide)) (fun _ => ?_)
      refine Ex_v (As := []) (st := []) (d' := 0) vX9_262 rfl rfl (r_finish hw (hS4.at hA5).1.1) h0 (by omega) rfl (dc_ok oX9_within rfl) ?_
      refine Ex_wx [] 9 oX9_within hw ?_
      refine ⟨rfl, rfl, rfl, K.1 rfl _ (hS4.at hA5).high ?_ ?_ ((bl4.trans hA5.bl).trans high_bl)⟩
      · rw [up2_i (by omega), ha _ _ (by omega), m4, List.length_map]
      · exact (mixR_end hm).eq (fun i k h1 h2 h3 h4 => up2_i (by omega))
    | succ n ihn =>
      intro i I5 hn hi hm ha
      have hil : i < q.2.1.length := by omega
      have hA5 : At I4 I5 h := fun i k c => ha i k (by unfold mt at c; omega)
      have hS5 := hS4.at hA5
      have hF5 := hF4.at hA5
      have hci : q.2.1[i]? = some q.2.1[i] := List.getElem?_eq_getElem hil
      obtain ⟨r1, r2, r3, r4'⟩ := hm i _ hci
      rw [if_neg (by omega)] at r1 r2 r3 r4'
      have hrl : inL (mE.us q.2.2) (q.2.1[i]).2.2.2 := hlc.2.2 _ (List.getElem_mem hil)
      have e2 : nI (100 * h + 50) + nI i = nI (100 * h + 50 + i) := nI_add _ _
      have v2 : vp_in (nI (100 * h + 50) + nI i) 3200 := by rw [e2]; exact inN (by omega) (by omega)
      have c2 : (nI (100 * h + 50) + nI i).toNatClampNeg = 100 * h + 50 + i := by rw [e2]; exact clN (by omega)
      have next : ∀ I6 : aI, mixR (flF p) I6 (100 * h + 50) (i + 1) (heardM (flF p) (lenF e (mE.l e)) q.2.2) q.2.1 → (∀ a b, ¬ (a = 351 ∧ 100 * h + 50 ≤ b ∧ b < 100 * h + 100) → I6 a b = I4 a b) → Ex mX9_within 5 0 0 (rQ g L Run) 104 [some (vS 328), some (vI (nI h)), some (vI (nI t)), some (vI (nI (100 * h + 50))), some (vI (nI q.2.1.length)), some (vI (nI i + 1))] [] g I6 L := by
        intro I6 a1 a2
        rw [nI_1]
        exact ihn (i + 1) I6 (by omega) (by omega) a1 a2
      have tell : ∀ val : Int32, (q.2.1[i]).2.1 = 0 → val = lenF q.2.2 (if (flF p).2.1 = true then (q.2.1[i]).2.2.2 else mE.l q.2.2) - lenF e (mE.l e) → Ex mX9_within 5 0 0 (rQ g L Run) 104 [some (vS 328), some (vI (nI h)), some (vI (nI t)), some (vI (nI (100 * h + 50))), some (vI (nI q.2.1.length)), some (vI (nI i + 1))] [] g (up2 I5 351 (100 * h + 50 + i) val) L := by
        intro val hz hval
        refine next _ ?_ ?_
        · intro j r hj
          by_cases hji : j = i
          · subst hji
            rw [hci] at hj
            have : q.2.1[j] = r := Option.some.inj hj
            subst this
            rw [if_pos (by omega)]
            unfold heardM
            rw [if_pos hz]
            refine ⟨?_, ?_, ?_, ?_⟩
            · rw [up2_s]; exact hval
            · rw [up2_i (by omega)]; exact r2
            · rw [up2_i (by omega)]; exact r3
            · rw [up2_i (by omega)]; exact r4'
          · have h9 := hm j r hj
            rw [show (if j < i + 1 then heardM (flF p) (lenF e (mE.l e)) q.2.2 r else r) = (if j < i then heardM (flF p) (lenF e (mE.l e)) q.2.2 r else r) by
              by_cases hl : j < i
              · rw [if_pos hl, if_pos (by omega)]
              · rw [if_neg hl, if_neg (by omega)]]
            unfold RowAt at h9 ⊢
            rw [up2_k (by omega), up2_i (by omega), up2_i (by omega), up2_i (by omega)]
            exact h9
        · intro a b hab
          rw [up2_n (by omega)]; exact ha a b hab
      refine Ex_wx [104, 134, 201] 9 oX9_within hw ?_
      refine And.intro (fun c => absurd (leN c (by omega) (by omega)) (by omega)) (fun _ => ?_)
      refine And.intro vt ?_
      rw [ct, ha _ _ (by omega), k4]
      refine And.intro (fun _ => ?_) (fun c => absurd rfl c)
      refine And.intro v2 ?_
      rw [c2, r2]
      have h201 : ∀ I6 : aI, I6 329 t = nI 13 → Ex mX9_within 5 0 0 (rQ g L Run) 104 [some (vS 328), some (vI (nI h)), some (vI (nI t)), some (vI (nI (100 * h + 50))), some (vI (nI q.2.1.length)), some (vI (nI i + 1))] [] g I6 L → Ex mX9_within 5 0 0 (rQ g L Run) 201 [some (vS 328), some (vI (nI h)), some (vI (nI t)), some (vI (nI (100 * h + 50))), some (vI (nI q.2.1.length)), some (vI (nI i))] [] g I6 L := by
        intro I6 k6 hE6
        refine Ex_wx [104] 9 oX9_within hw ?_
        refine And.intro vt ?_
        rw [ct, k6]
        exact And.intro (fun c => absurd c (by decide)) (fun _ => hE6)
      refine And.intro (fun hz => ?_) (fun hz => ?_)
      · refine Ex_wx [] 9 oX9_within hw ?_
        refine Ex_v (As := [vI 1]) (st := [vI (nI (100 * h + 50) + nI i), vS 351]) (d' := 1) vX9_178 rfl rfl (r_isOwn hw (l := 1) rfl (by omega) (by omega)) h0 (by omega) rfl (dc_ok oX9_within rfl) ?_
        have p5 : I5 336 = p := by rw [← hT4.1]; funext b; exact ha _ _ (by omega)
        rw [p5]
        refine Ex_wx [150, 179] 9 oX9_within hw ?_
        refine And.intro (fun c => ?_) (fun c => ?_)
        · have c1 : (flF p).2.1 = false := bI_eq c
          have hs30 := hS5.2.2.2.2.2 c1
          have hs47 := hF5.2.2.2.2.2 c1
          obtain ⟨ja, hja, hjae⟩ := hlc.1.2
          obtain ⟨jb, hjb, hjbe⟩ := hl.2
          have hga := hlc.2.1.1
          have la : I5 339 ja = lenF q.2.2 (mE.l q.2.2) := by rw [hjae]; exact Sr.len (l := 0) hS5.2 hus hja
          have lb : I5 339 jb = lenF e (mE.l e) := by
            rw [← lenF_grow hlc.2.1 hus hl.2, hjbe]; exact Sr.len (l := 0) hS5.2 hus (by omega)
          refine Ex_bn 14 oX9_within hw ?_
          refine And.intro (by rw [hs30, hjae]; exact inN (by omega) (by omega)) ?_
          refine And.intro vh ?_
          refine And.intro (by rw [ch, hs47, hjbe]; exact inN (by omega) (by omega)) ?_
          refine And.intro v2 ?_
          rw [c2, hs30, ch, hs47, hjae, hjbe, clN (k := ja) (by omega), clN (k := jb) (by omega), la, lb]
          refine h201 _ (by rw [up2_i (by omega), ha _ _ (by omega)]; exact k4) (tell _ hz ?_)
          rw [if_neg (by rw [c1]; decide)]
        · have c1 : (flF p).2.1 = true := bI_ne c
          have hs45 := hF5.2.2.2.2.1 c1
          have hrl2 := r4' c1
          obtain ⟨ja, hja, hjae⟩ := hrl
          obtain ⟨jb, hjb, hjbe⟩ := hl.2
          have hga := hlc.2.1.1
          have la : I5 339 ja = lenF q.2.2 (q.2.1[i]).2.2.2 := by rw [hjae]; exact Sr.len (l := 0) hS5.2 hus hja
          have lb : I5 339 jb = lenF e (mE.l e) := by
            rw [← lenF_grow hlc.2.1 hus hl.2, hjbe]; exact Sr.len (l := 0) hS5.2 hus (by omega)
          refine Ex_wx [200] 9 oX9_within hw ?_
          refine And.intro v2 ?_
          refine And.intro (by rw [c2, hrl2, hjae]; exact inN (by omega) (by omega)) ?_
          refine And.intro vh ?_
          refine And.intro (by rw [ch, hs45, hjbe]; exact inN (by omega) (by omega)) ?_
          refine Ex_bn 1 oX9_within hw ?_
          refine And.intro v2 ?_
          rw [c2, hrl2, ch, hs45, hjae, hjbe, clN (k := ja) (by omega), clN (k := jb) (by omega), la, lb]
          refine h201 _ (by rw [up2_i (by omega), ha _ _ (by omega)]; exact k4) (tell _ hz ?_)
          rw [if_pos c1]
      · refine h201 I5 (by rw [ha _ _ (by omega)]; exact k4) (next _ ?_ ha)
        intro j r hj
        have h9 := hm j r hj
        by_cases hji : j = i
        · subst hji
          rw [hci] at hj
          have : q.2.1[j] = r := Option.some.inj hj
          subst this
          rw [if_neg (by omega)] at h9
          rw [if_pos (by omega)]
          unfold heardM
          rw [if_neg hz]
          exact h9
        · rw [show (if j < i + 1 then heardM (flF p) (lenF e (mE.l e)) q.2.2 r else r) = (if j < i then heardM (flF p) (lenF e (mE.l e)) q.2.2 r else r) by
            by_cases hl : j < i
            · rw [if_pos hl, if_pos (by omega)]
            · rw [if_neg hl, if_neg (by omega)]]
          exact h9
  exact loop _ 0 I4 rfl (Nat.zero_le _) (mixR_0 r4) (fun _ _ _ => rfl)
theorem wi_hidden (ih : simC g L p B hg cnt lim okT Run f) (hst : stepR g L Run) (hB : Bw B hg cnt) (hO : okB p B cnt okT) (H : Lf lx ly g p B cnt lim I h t env e) (ho : okT t) (hk : (B t).1 = 13) (hf : hg t ≤ f + 1) (hd : h + hg t ≤ 30) {q : mO} (hq : ev (flF p) B lim f (B t).2.2.2.2.1 env e = q)
    (K : Cont g L (flF p) lim Run (if q.1 ≠ 0 then (q.1, [], q.2.2) else (0, q.2.1.map (hiddenM (mE.l e)), setSL q.2.2 (mE.s q.2.2) (mE.l e))) I h) : Mx mX9_within 5 0 0 [vS 328, vI (nI h)] g I L (rQ g L Run) := by
  refine wi_front ih hst hB hO H ho (by omega) (by omega) hf hd hq K ?_ ?_ ?_
  · intro q1; rw [if_pos (by rw [q1]; decide)]; exact ⟨q1, rfl⟩
  · intro q1; rw [if_pos (by rw [q1]; decide)]; exact q1
  intro q0 I4 hS4 m4 r4 hF4 hT4 bl4
  rw [if_neg (fun c => c q0)] at K
  obtain ⟨hw, hlim, hc, ht, hh, hE, hl, hsu, hT, hS, hF⟩ := H
  have hs1 : hsF p 1 = true := (hO t ht ho).2.1 hk
  have hkc := ev_ok (F := flF p) (B := B) f (B t).2.2.2.2.1 env e hE
  rw [hq] at hkc
  have h5 := (hkc.2.2 q0).1
  have h0 := (hw 328 _ rfl).2.1
  have ch : (nI h).toNatClampNeg = h := clN (by omega)
  have ct : (nI t).toNatClampNeg = t := clN (by omega)
  have vh : vp_in (nI h) 32 := inN (by omega) (by omega)
  have vt : vp_in (nI t) 80 := inN (by omega) (by omega)
  have k4 : I4 329 t = nI 14 := by rw [(hT4.2 t ht).1, hk]; rfl
  refine wi_mid hw hh (by omega) k4 (Or.inr rfl) m4 ?_
  have loop : ∀ (n i : Nat) (I5 : aI), q.2.1.length - i = n → i ≤ q.2.1.length → mixR (flF p) I5 (100 * h + 50) i (hiddenM (mE.l e)) q.2.1 → (∀ a b, ¬ (a = 353 ∧ 100 * h + 50 ≤ b ∧ b < 100 * h + 100) → I5 a b = I4 a b) → Ex mX9_within 5 0 0 (rQ g L Run) 104 [some (vS 328), some (vI (nI h)), some (vI (nI t)), some (vI (nI (100 * h + 50))), some (vI (nI q.2.1.length)), some (vI (nI i))] [] g I5 L := by
    intro n
    induction n with
    | zero =>
      intro i I5 hn hi hm ha
      have : i = q.2.1.length := by omega
      subst this
      have hA5 : At I4 I5 h := fun i k c => ha i k (by unfold mt at c; omega)
      have hS5 := hS4.at hA5
      have hF5 := hF4.at hA5
      have p5 : I5 336 = p := by rw [← hT4.1]; funext b; exact ha _ _ (by omega)
      have m5 : I5 349 (2 * h + 1) = nI (q.2.1.map (hiddenM (mE.l e))).length := by rw [ha _ _ (by omega), m4, List.length_map]
      refine Ex_wx [252] 9 oX9_within hw ?_
      refine And.intro (fun _ => ?_) (fun c => absurd (Int32.le_refl _) c)
      refine And.intro vt ?_
      rw [ct, ha _ _ (by omega), k4]
      refine And.intro (fun _ => ?_) (fun c => absurd rfl c)
      refine Ex_wx [] 9 oX9_within hw ?_
      refine Ex_v (As := [vI 1]) (st := []) (d' := 2) vX9_221 rfl rfl (r_isShared hw (l := 1) rfl (by omega) (by omega)) h0 (by omega) rfl (dc_ok oX9_within rfl) ?_
      rw [p5]
      refine Ex_wx [260] 9 oX9_within hw ?_
      refine And.intro (fun c => ?_) (fun c => ?_)
      · have c1 : (flF p).2.1 = true := by
          have := bI_eq c
          simp only [shF, hs1, Bool.true_and, Bool.not_eq_false'] at this
          exact this
        refine Ex_v (As := []) (st := []) (d' := 0) vX9_262 rfl rfl (r_finish hw hS5.1.1) h0 (by omega) rfl (dc_ok oX9_within rfl) ?_
        refine Ex_wx [] 9 oX9_within hw ?_
        have hS6 : Sr (flF p) I5 lim (setSL q.2.2 (mE.s q.2.2) (mE.l e)) (h + 1) := ⟨hS5.1, hS5.2.1, hS5.2.2.1, hS5.2.2.2.1, hS5.2.2.2.2.1, fun q => (by rw [c1] at q; cases q)⟩
        refine ⟨rfl, rfl, rfl, K.1 rfl _ hS6.high ?_ ?_ ((bl4.trans hA5.bl).trans high_bl)⟩
        · rw [up2_i (by omega)]; exact m5
        · exact (mixR_end hm).eq (fun i k h1 h2 h3 h4 => up2_i (by omega))
      · have c1 : (flF p).2.1 = false := by
          have := bI_ne c
          simp only [shF, hs1, Bool.true_and, Bool.not_eq_true'] at this
          exact this
        have hs47 := hF5.2.2.2.2.2 c1
        refine Ex_bn 6 oX9_within hw ?_
        refine And.intro vh ?_
        show Ex mX9_within 5 0 0 (rQ g L Run) 270 [some (vS 328), some (vI (nI h)), some (vI (nI t)), some (vI (nI (100 * h + 50))), some (vI (nI q.2.1.length)), some (vI (nI q.2.1.length))] [] g (up2 I5 328 30 (I5 347 (nI h).toNatClampNeg)) L
        rw [ch, hs47]
        have hS6 : Sr (flF p) (up2 I5 328 30 (mE.l e)) lim (setSL q.2.2 (mE.s q.2.2) (mE.l e)) (h + 1) := by
          obtain ⟨⟨h1, h2, h3, h4, h5, h6⟩, l1, ⟨l2, l3, l4⟩, l5, l6, l7⟩ := hS5
          refine ⟨⟨?_, ?_, ?_, ?_, ?_, ?_⟩, ?_, ⟨?_, ?_, ?_⟩, fun k k1 k2 => ?_, fun c => ?_, fun _ => up2_s⟩
          · rw [up2_k (by omega)]; exact h1
          · rw [up2_k (by omega)]; exact h2
          · rw [up2_k (by omega)]; exact h3
          · rw [up2_k (by omega)]; exact h4
          · rw [up2_k (by omega)]; exact h5
          · rw [up2_k (by omega)]; exact h6
          · rw [up2_k (by omega)]; exact l1
          · rw [up2_i (by omega)]; exact l2
          · rw [up2_i (by omega)]; exact l3
          · rw [up2_i (by omega)]; exact l4
          · rw [up2_i (by omega), up2_i (by omega), up2_i (by omega)]; exact l5 k k1 k2
          · rw [up2_k (by omega)]; exact l6 c
        refine Ex_wx [] 9 oX9_within hw ?_
        refine Ex_v (As := []) (st := []) (d' := 0) vX9_262 rfl rfl (r_finish hw hS6.1.1) h0 (by omega) rfl (dc_ok oX9_within rfl) ?_
        refine Ex_wx [] 9 oX9_within hw ?_
        have bl6 : Bl I5 (up2 I5 328 30 (mE.l e)) h := fun i k c => up2_n (by unfold kp at c; omega)
        refine ⟨rfl, rfl, rfl, K.1 rfl _ hS6.high ?_ ?_ (((bl4.trans hA5.bl).trans bl6).trans high_bl)⟩
        · rw [up2_i (by omega), up2_i (by omega)]; exact m5
        · exact (mixR_end hm).eq (fun i k h1 h2 h3 h4 => by rw [up2_i (by omega), up2_i (by omega)])
    | succ n ihn =>
      intro i I5 hn hi hm ha
      have hil : i < q.2.1.length := by omega
      have hA5 : At I4 I5 h := fun i k c => ha i k (by unfold mt at c; omega)
      have hF5 := hF4.at hA5
      have p5 : I5 336 = p := by rw [← hT4.1]; funext b; exact ha _ _ (by omega)
      have hci : q.2.1[i]? = some q.2.1[i] := List.getElem?_eq_getElem hil
      have e2 : nI (100 * h + 50) + nI i = nI (100 * h + 50 + i) := nI_add _ _
      have v2 : vp_in (nI (100 * h + 50) + nI i) 3200 := by rw [e2]; exact inN (by omega) (by omega)
      have c2 : (nI (100 * h + 50) + nI i).toNatClampNeg = 100 * h + 50 + i := by rw [e2]; exact clN (by omega)
      have next : ∀ I6 : aI, (∀ a b, ¬ (a = 353 ∧ 100 * h + 50 ≤ b ∧ b < 100 * h + 100) → I6 a b = I4 a b) → (∀ a b, ¬ (a = 353 ∧ b = 100 * h + 50 + i) → I6 a b = I5 a b) → ((flF p).2.1 = true → I6 353 (100 * h + 50 + i) = mE.l e) → Ex mX9_within 5 0 0 (rQ g L Run) 104 [some (vS 328), some (vI (nI h)), some (vI (nI t)), some (vI (nI (100 * h + 50))), some (vI (nI q.2.1.length)), some (vI (nI i + 1))] [] g I6 L := by
        intro I6 a1 a2 a3
        rw [nI_1]
        refine ihn (i + 1) I6 (by omega) (by omega) ?_ a1
        intro j r hj
        have h9 := hm j r hj
        by_cases hji : j = i
        · subst hji
          rw [if_neg (by omega)] at h9
          rw [if_pos (by omega)]
          refine ⟨by rw [a2 _ _ (by omega)]; exact h9.1, by rw [a2 _ _ (by omega)]; exact h9.2.1, fun c => by rw [a2 _ _ (by omega)]; exact h9.2.2.1 c, a3⟩
        · rw [show (if j < i + 1 then hiddenM (mE.l e) r else r) = (if j < i then hiddenM (mE.l e) r else r) by
            by_cases hl : j < i
            · rw [if_pos hl, if_pos (by omega)]
            · rw [if_neg hl, if_neg (by omega)]]
          unfold RowAt at h9 ⊢
          rw [a2 _ _ (by omega), a2 _ _ (by omega), a2 _ _ (by omega), a2 _ _ (by omega)]
          exact h9
      refine Ex_wx [212] 9 oX9_within hw ?_
      refine And.intro (fun c => absurd (leN c (by omega) (by omega)) (by omega)) (fun _ => ?_)
      refine And.intro vt ?_
      rw [ct, ha _ _ (by omega), k4]
      refine And.intro (fun c => absurd c (by decide)) (fun _ => ?_)
      refine And.intro vt ?_
      rw [ct, ha _ _ (by omega), k4]
      refine And.intro (fun _ => ?_) (fun c => absurd rfl c)
      refine Ex_wx [] 9 oX9_within hw ?_
      refine Ex_v (As := [vI 1]) (st := []) (d' := 1) vX9_178 rfl rfl (r_isOwn hw (l := 1) rfl (by omega) (by omega)) h0 (by omega) rfl (dc_ok oX9_within rfl) ?_
      rw [p5]
      refine Ex_wx [104] 9 oX9_within hw ?_
      refine And.intro (fun c => ?_) (fun c => ?_)
      · have c1 : (flF p).2.1 = false := bI_eq c
        exact next I5 ha (fun _ _ _ => rfl) (fun q => by rw [c1] at q; cases q)
      · have c1 : (flF p).2.1 = true := bI_ne c
        have hs45 := hF5.2.2.2.2.1 c1
        refine And.intro vh (And.intro v2 ?_)
        rw [c2, ch, hs45]
        refine next _ ?_ ?_ (fun _ => up2_s)
        · intro a b hab
          rw [up2_n (by omega)]; exact ha a b hab
        · intro a b hab
          rw [up2_n (by omega)]
  exact loop _ 0 I4 rfl (Nat.zero_le _) (mixR_0 r4) (fun _ _ _ => rfl)
end Heard
