/-! the reference: within -/
theorem lenF_grow {e e' : mE} {l : Int32} (hg : grow e e') (hu : mE.us e' ≤ 2001) (hl : inL (mE.us e) l) : lenF e' l = lenF e l := by
  obtain ⟨j, hj, rfl⟩ := hl
  have := hg.1
  unfold lenF gtL
  by_cases h0 : j = 0
  · subst h0
    rw [if_neg (fun c => absurd c.1 (by decide)), if_neg (fun c => absurd c.1 (by decide))]
  · rw [if_pos ⟨nI_lt (a := 0) (by omega) (by omega), nI_lt (by omega) (by omega)⟩, if_pos ⟨nI_lt (a := 0) (by omega) (by omega), nI_lt (by omega) (by omega)⟩, clN (by omega)]
    exact (hg.2 j hj).2.2
def RowAt (F : mF) (I : aI) (k : Nat) (r : mR) : Prop := I 351 k = r.1 ∧ I 350 k = r.2.1 ∧ (F.1 = true → I 352 k = r.2.2.1) ∧ (F.2.1 = true → I 353 k = r.2.2.2)
section Within
variable {lx ly : Nat} {g : aG} {I : aI} {L : aL} {p : Nat → Int32} {B : mB} {hg : Nat → Nat} {cnt lim h t c f : Nat} {okT : Nat → Prop} {Run : aI → Prop} {env : Nat → Int32} {e : mE}
theorem wi_front (ih : simC g L p B hg cnt lim okT Run f) (hst : stepR g L Run) (hB : Bw B hg cnt) (hO : okB p B cnt okT) (H : Lf lx ly g p B cnt lim I h t env e) (ho : okT t) (hk : 11 ≤ (B t).1) (hk2 : (B t).1 ≤ 13) (hf : hg t ≤ f + 1) (hd : h + hg t ≤ 30) {q q2 : mO} (hq : ev (flF p) B lim f (B t).2.2.2.2.1 env e = q)
    (K : Cont g L (flF p) lim Run q2 I h) (h1 : q.1 = 1 → q2.1 = 1 ∧ q2.2.2 = q.2.2) (h2 : q.1 = 2 → q2.1 = 2)
    (K0 : q.1 = 0 → ∀ I4, Sr (flF p) I4 lim q.2.2 (h + 1) → I4 349 (2 * h + 1) = nI q.2.1.length → Rr (flF p) I4 (100 * h + 50) q.2.1 → Fr (flF p) I4 h t env (mE.s e) (mE.l e) → Tr I4 p B cnt → Bl I I4 h → Ex mX9_within 5 0 0 (rQ g L Run) 54 [some (vS 328), some (vI (nI h)), some (vI (nI t)), none, none, none] [] g I4 L) : Mx mX9_within 5 0 0 [vS 328, vI (nI h)] g I L (rQ g L Run) := by
  obtain ⟨hw, hlim, hc, ht, hh, hE, hl, hsu, hT, hS, hF⟩ := H
  obtain ⟨hk1, -, -, hk4, -⟩ := hT.2 t ht
  have h330 := hk4 (by omega) (by omega)
  obtain ⟨-, -, hb3, -⟩ := hB t ht
  obtain ⟨ha1, ha2⟩ := hb3 (by omega) (by omega)
  obtain ⟨-, -, ho3, -⟩ := hO t ht ho
  have hoa := ho3 (by omega) (by omega)
  have h0 := (hw 328 _ rfl).2.1
  have ch : (nI h).toNatClampNeg = h := clN (by omega)
  have ct : (nI t).toNatClampNeg = t := clN (by omega)
  have vh : vp_in (nI h) 32 := inN (by omega) (by omega)
  have vt : vp_in (nI t) 80 := inN (by omega) (by omega)
  have hkr : kR (B t).1 = 12 ∨ kR (B t).1 = 13 ∨ kR (B t).1 = 14 := by
    have : (B t).1 = 11 ∨ (B t).1 = 12 ∨ (B t).1 = 13 := by omega
    rcases this with q | q | q <;> rw [q] <;> simp [kR]
  have hA : At I (up2 I 341 h 1) h := fun i k c => up2_n (by unfold mt at c; omega)
  have hS1 := hS.at hA
  have hF1 := hF.1.at hA
  have hkc := ev_ok (F := flF p) (B := B) f (B t).2.2.2.2.1 env e hE
  have hlc := ev_log (F := flF p) (B := B) hlim f (B t).2.2.2.2.1 env e hE hl
  rw [hq] at hkc hlc
  refine Mx_in (by decide +kernel) rfl rfl (Ex_bn 5 oX9_within hw ?_)
  refine And.intro vh ?_
  show Ex mX9_within 5 0 0 (rQ g L Run) 7 [some (vS 328), some (vI (nI h)), some (vI (I 340 (nI h).toNatClampNeg)), none, none, none] [] g I L
  rw [ch, hF.1.1]
  refine Ex_wx [16] 9 oX9_within hw ?_
  refine And.intro vh ?_
  rw [ch, hF.2.1]
  refine And.intro (fun _ => ?_) (fun c => absurd rfl c)
  refine Ex_bn 5 oX9_within hw ?_
  refine And.intro vh ?_
  show Ex mX9_within 5 0 0 (rQ g L Run) 23 [some (vS 328), some (vI (nI h)), some (vI (nI t)), none, none, none] [] g (up2 I 341 (nI h).toNatClampNeg 1) L
  rw [ch]
  have q330 : up2 I 341 h 1 330 t = nI (B t).2.2.2.2.1 := by rw [up2_i (by omega)]; exact h330
  have hX := r_push (L := L) (d := 0) (t := (B t).2.2.2.2.1) (fr := nI h) (n := -1) (v := 0) (src := env) hw (by omega) hS1 hE.2.2 hlim (Or.inr ⟨h, by omega, rfl, hF1.2.1⟩) (Or.inl rfl) hF1.2.2.1 hF1.2.2.2.2.1
  rw [upE_no] at hX
  refine Ex_wx [] 9 oX9_within hw ?_
  refine And.intro vt (And.intro vh (And.intro vh ?_))
  rw [ch, ct, q330]
  refine Ex_r (As := [vI (nI (B t).2.2.2.2.1), vI (nI h), vI (-1), vI 0, vI (up2 I 341 h 1 344 h), vI (up2 I 341 h 1 345 h)]) (st := []) vX9_237 rfl rfl hX h0 (by omega) rfl (dc_ok oX9_within rfl) ?_
  intro I2 hP
  refine Ex_wx [] 9 oX9_within hw ?_
  refine ⟨rfl, rfl, rfl, ?_⟩
  refine sim_child ih hP hS1 (hT.bl hA.bl) ha1 (by omega) hoa (by omega) hE hl hlim ?_
  rw [hq]
  refine cont_err (t := t) (q2 := q2) hw hh (by omega) hF1 ?_ (K.bl hA.bl) h1 h2 ?_
  · rw [up2_i (by omega), hk1]
    rcases hkr with q | q | q <;> rw [q] <;> exact fun c => absurd c.1 (by decide)
  intro q0 I3 sS sm sr sb
  have hT3 := (hT.bl hA.bl).bl sb
  have hF3 := hF1.bl sb
  have p3 : I3 341 h = 1 := by rw [sb 341 h (by unfold kp; omega)]; exact up2_s
  have m3 : I3 349 (2 * h + 1) = 0 := by rw [sb 349 _ (by unfold kp; omega), up2_i (by omega)]; exact hF.2.2.2.2.2
  have bl3 : Bl I I3 h := hA.bl.trans (sb.mono (by omega))
  refine hst I3 h sS.1.1 (by omega) sS.1.2.2.2.1 (r_go_within hw sS.1.1 (by omega) hF3.1 (by omega) (hT3.2 t ht).1 hkr ?_)
  refine Mx_in (by decide +kernel) rfl rfl (Ex_bn 5 oX9_within hw ?_)
  refine And.intro vh ?_
  show Ex mX9_within 5 0 0 (rQ g L Run) 7 [some (vS 328), some (vI (nI h)), some (vI (I3 340 (nI h).toNatClampNeg)), none, none, none] [] g I3 L
  rw [ch, hF3.1]
  refine Ex_wx [16] 9 oX9_within hw ?_
  refine And.intro vh ?_
  rw [ch, p3]
  refine And.intro (fun c => absurd c (by decide)) (fun _ => ?_)
  refine Ex_r (As := [vI (nI h)]) (st := []) vX9_259 rfl rfl (r_gather (acc := []) (d := 4) (F := flF p) hw (by omega) (by omega) m3 (by simp) Rr.nil sm sr (hkc.2.2 q0).2 (hkc.2.2 q0).1 sS.1.2.2.2.1) h0 (by omega) rfl (dc_ok oX9_within rfl) ?_
  intro I4 hG
  rcases hG.split sS hlc.1 hkc.2.1 hlim with ⟨hbig, -⟩ | ⟨-, hS4, m4, r4, hA4, -⟩
  · rw [List.nil_append] at hbig
    exact absurd (hkc.2.2 q0).1 (by omega)
  · rw [List.nil_append] at m4 r4
    exact K0 q0 I4 hS4 m4 r4 (hF3.at hA4) (hT3.bl hA4.bl) (bl3.trans hA4.bl)
theorem wi_once (ih : simC g L p B hg cnt lim okT Run f) (hst : stepR g L Run) (hB : Bw B hg cnt) (hO : okB p B cnt okT) (H : Lf lx ly g p B cnt lim I h t env e) (ho : okT t) (hk : (B t).1 = 11) (hf : hg t ≤ f + 1) (hd : h + hg t ≤ 30) {q : mO} (hq : ev (flF p) B lim f (B t).2.2.2.2.1 env e = q)
    (K : Cont g L (flF p) lim Run (if q.1 ≠ 0 then (q.1, [], q.2.2) else (0, q.2.1.take 1, q.2.2)) I h) : Mx mX9_within 5 0 0 [vS 328, vI (nI h)] g I L (rQ g L Run) := by
  refine wi_front ih hst hB hO H ho (by omega) (by omega) hf hd hq K ?_ ?_ ?_
  · intro q1; rw [if_pos (by rw [q1]; decide)]; exact ⟨q1, rfl⟩
  · intro q1; rw [if_pos (by rw [q1]; decide)]; exact q1
  intro q0 I4 hS4 m4 r4 hF4 hT4 bl4
  rw [if_neg (fun c => c q0)] at K
  obtain ⟨hw, hlim, hc, ht, hh, hE, hl, hsu, hT, hS, hF⟩ := H
  have hkc := ev_ok (F := flF p) (B := B) f (B t).2.2.2.2.1 env e hE
  rw [hq] at hkc
  have h5 := (hkc.2.2 q0).1
  have h0 := (hw 328 _ rfl).2.1
  have ct : (nI t).toNatClampNeg = t := clN (by omega)
  have vt : vp_in (nI t) 80 := inN (by omega) (by omega)
  have e3 : (2 : Int32) * nI h + 1 = nI (2 * h + 1) := by rw [show (2 : Int32) * nI h = nI (2 * h) from nI_mul 2 h, nI_1]
  have v3 : vp_in ((2 : Int32) * nI h + 1) 64 := by rw [e3]; exact inN (by omega) (by omega)
  have c3 : ((2 : Int32) * nI h + 1).toNatClampNeg = 2 * h + 1 := by rw [e3]; exact clN (by omega)
  have k4 : I4 329 t = nI 12 := by rw [(hT4.2 t ht).1, hk]; rfl
  -- the loop does nothing
  have loop : ∀ (n i : Nat) (I5 : aI), q.2.1.length - i = n → i ≤ q.2.1.length → I5 329 t = nI 12 → I5 328 14 = nI (h + 1) → Run (up2 I5 328 14 (nI h)) → Ex mX9_within 5 0 0 (rQ g L Run) 104 [some (vS 328), some (vI (nI h)), some (vI (nI t)), some (vI (nI (100 * h + 50))), some (vI (nI q.2.1.length)), some (vI (nI i))] [] g I5 L := by
    intro n
    induction n with
    | zero =>
      intro i I5 hn hi k5 h14 hR
      have : i = q.2.1.length := by omega
      subst this
      refine Ex_wx [] 9 oX9_within hw ?_
      refine And.intro (fun _ => ?_) (fun c => absurd (Int32.le_refl _) c)
      refine And.intro vt ?_
      rw [ct, k5]
      refine And.intro (fun c => absurd c (by decide)) (fun _ => ?_)
      refine Ex_v (As := []) (st := []) (d' := 0) vX9_262 rfl rfl (r_finish hw h14) h0 (by omega) rfl (dc_ok oX9_within rfl) ?_
      refine Ex_wx [] 9 oX9_within hw ?_
      exact ⟨rfl, rfl, rfl, hR⟩
    | succ n ihn =>
      intro i I5 hn hi k5 h14 hR
      refine Ex_wx [104] 9 oX9_within hw ?_
      refine And.intro (fun c => absurd (leN c (by omega) (by omega)) (by omega)) (fun _ => ?_)
      refine And.intro vt ?_
      rw [ct, k5]
      refine And.intro (fun c => absurd c (by decide)) (fun _ => ?_)
      refine And.intro vt ?_
      rw [ct, k5]
      refine And.intro (fun c => absurd c (by decide)) (fun _ => ?_)
      show Ex mX9_within 5 0 0 (rQ g L Run) 104 [some (vS 328), some (vI (nI h)), some (vI (nI t)), some (vI (nI (100 * h + 50))), some (vI (nI q.2.1.length)), some (vI (nI i + 1))] [] g I5 L
      rw [nI_1]
      exact ihn (i + 1) I5 (by omega) (by omega) k5 h14 hR
  refine Ex_wx [] 9 oX9_within hw ?_
  refine Ex_v (As := [vI (nI h), vI 1]) (st := []) (d' := 0) vX9_200 rfl rfl (r_row hw (l := 1) rfl) h0 (by omega) rfl (dc_ok oX9_within rfl) ?_
  rw [show 100 * h + 50 * 1 = 100 * h + 50 by omega]
  refine Ex_bn 10 oX9_within hw ?_
  refine And.intro v3 ?_
  show Ex mX9_within 5 0 0 (rQ g L Run) 73 [some (vS 328), some (vI (nI h)), some (vI (nI t)), some (vI (nI (100 * h + 50))), some (vI (I4 349 ((2 : Int32) * nI h + 1).toNatClampNeg)), none] [] g I4 L
  rw [c3, m4]
  refine Ex_wx [84, 90, 101] 9 oX9_within hw ?_
  refine And.intro vt ?_
  rw [ct, k4]
  refine And.intro (fun _ => ?_) (fun c => absurd rfl c)
  refine Ex_wx [90, 101] 9 oX9_within hw ?_
  refine And.intro (fun c => ?_) (fun c => ?_)
  · have hl1 := leN (b := 1) c (by omega) (by omega)
    refine Ex_bn 2 oX9_within hw ?_
    refine loop _ 0 I4 rfl (Nat.zero_le _) k4 hS4.1.1 ?_
    refine K.1 rfl _ hS4.high ?_ ?_ (bl4.trans high_bl)
    · rw [up2_i (by omega), m4, List.length_take, Nat.min_eq_right hl1]
    · rw [List.take_of_length_le hl1]
      exact r4.eq (fun i k h1 h2 h3 h4 => up2_i (by omega))
  · have hl1 : 1 < q.2.1.length := by
      rcases Nat.lt_or_ge 1 q.2.1.length with h9 | h9
      · exact h9
      · exact absurd (nI_le (b := 1) h9 (by omega)) c
    refine Ex_bn 9 oX9_within hw ?_
    refine And.intro v3 ?_
    show Ex mX9_within 5 0 0 (rQ g L Run) 101 [some (vS 328), some (vI (nI h)), some (vI (nI t)), some (vI (nI (100 * h + 50))), some (vI (nI q.2.1.length)), none] [] g (up2 I4 349 ((2 : Int32) * nI h + 1).toNatClampNeg 1) L
    rw [c3]
    have hA5 : At I4 (up2 I4 349 (2 * h + 1) 1) h := fun i k c => up2_n (by unfold mt at c; omega)
    refine Ex_bn 2 oX9_within hw ?_
    refine loop _ 0 _ rfl (Nat.zero_le _) (by rw [up2_i (by omega)]; exact k4) (hS4.at hA5).1.1 ?_
    refine K.1 rfl _ (hS4.at hA5).high ?_ ?_ ((bl4.trans hA5.bl).trans high_bl)
    · rw [up2_i (by omega), up2_s, List.length_take, Nat.min_eq_left (by omega)]; rfl
    · intro j r hj
      have hj2 : q.2.1[j]? = some r := by
        rw [List.getElem?_take] at hj
        split at hj
        · exact hj
        · cases hj
      have h9 := r4 j r hj2
      rw [up2_i (by omega), up2_i (by omega), up2_i (by omega), up2_i (by omega), up2_i (by omega), up2_i (by omega), up2_i (by omega), up2_i (by omega)]
      exact h9
end Within
