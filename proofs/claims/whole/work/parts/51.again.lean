/-! the reference: again -/
theorem own2_self {F : mF} {e : mE} : own2 F e (mE.s e) (mE.l e) = e := by
  unfold own2
  rw [ite_self, ite_self]
/-- the rest of the rounds: this one's rest, then n more -/
def tmF (F : mF) (go : (Nat → Int32) → mE → mO) (env : Nat → Int32) (n : Nat) (rs acc : List mR) (e : mE) : mO :=
  if (eachF F go 0 (-1) env rs acc e).1 ≠ 0 then ((eachF F go 0 (-1) env rs acc e).1, [], (eachF F go 0 (-1) env rs acc e).2.2) else timesF F go env n (eachF F go 0 (-1) env rs acc e).2.1 (eachF F go 0 (-1) env rs acc e).2.2
theorem tm_stop {F : mF} {go : (Nat → Int32) → mE → mO} {env : Nat → Int32} {n : Nat} {r : mR} {rs acc : List mR} {e : mE} (h : (stepF F go 0 (-1) env r e).1 ≠ 0) : tmF F go env n (r :: rs) acc e = ((stepF F go 0 (-1) env r e).1, [], (stepF F go 0 (-1) env r e).2.2) := by
  unfold tmF
  rw [each_stop h, if_pos h]
theorem tm_many {F : mF} {go : (Nat → Int32) → mE → mO} {env : Nat → Int32} {n : Nat} {r : mR} {rs acc : List mR} {e : mE} (h : (stepF F go 0 (-1) env r e).1 = 0) (h2 : 50 < (acc ++ (stepF F go 0 (-1) env r e).2.1).length) : tmF F go env n (r :: rs) acc e = (2, [], (stepF F go 0 (-1) env r e).2.2) := by
  unfold tmF
  rw [each_many h h2, if_pos (fun q => by cases q)]
theorem tm_go {F : mF} {go : (Nat → Int32) → mE → mO} {env : Nat → Int32} {n : Nat} {r : mR} {rs acc : List mR} {e : mE} (h : (stepF F go 0 (-1) env r e).1 = 0) (h2 : ¬ 50 < (acc ++ (stepF F go 0 (-1) env r e).2.1).length) : tmF F go env n (r :: rs) acc e = tmF F go env n rs (acc ++ (stepF F go 0 (-1) env r e).2.1) (stepF F go 0 (-1) env r e).2.2 := by
  unfold tmF
  rw [each_go h h2]
/-- a round under way: the RESULTS of the round before, how far, what is told -/
def AgI (p : Nat → Int32) (B : mB) (cnt lim : Nat) (I : aI) (h t : Nat) (env : Nat → Int32) (e : mE) (n : Nat) (rs : List mR) (j : Nat) (acc : List mR) (e1 : mE) (I1 : aI) : Prop :=
  Sr (flF p) I1 lim e1 (h + 1) ∧ invE lim e1 ∧ invL e1 ∧ Fr (flF p) I1 h t env (mE.s e) (mE.l e) ∧ I1 341 h = nI 2 ∧ I1 343 h = nI (n + 1) ∧ I1 342 h = nI j ∧ I1 349 (2 * h) = nI rs.length ∧ Rr (flF p) I1 (100 * h) rs ∧ I1 349 (2 * h + 1) = nI acc.length ∧ Rr (flF p) I1 (100 * h + 50) acc ∧ acc.length ≤ 50 ∧ errR acc ∧ rowL (mE.us e1) rs ∧ rowL (mE.us e1) acc ∧ Tr I1 p B cnt ∧ Bl I I1 h
section Again
variable {lx ly : Nat} {g : aG} {I : aI} {L : aL} {p : Nat → Int32} {B : mB} {hg : Nat → Nat} {cnt lim h t f : Nat} {okT : Nat → Prop} {Run : aI → Prop} {env : Nat → Int32} {e : mE}
theorem ag_round (ih : simC g L p B hg cnt lim okT Run f) (hst : stepR g L Run) (hB : Bw B hg cnt) (hO : okB p B cnt okT) (hw : WS lx ly g) (hlim : lim ≤ 2000) (hc : cnt ≤ 80) (ht : t < cnt) (hh : h ≤ 29) (ho : okT t) (hk : (B t).1 = 10) (hf : hg t ≤ f + 1) (hd : h + hg t ≤ 30) {n : Nat} {rs : List mR} (hrs : rs.length ≤ 50) (hre : errR rs)
    (hEnd : ∀ (acc : List mR) (e1 : mE) (I1 : aI) (w3 : Option aV), AgI p B cnt lim I h t env e n rs rs.length acc e1 I1 → Cont g L (flF p) lim Run (timesF (flF p) (ev (flF p) B lim f (B t).2.2.2.2.1) env n acc e1) I h → Ex mX9_again 5 0 0 (rQ g L Run) 185 [some (vS 328), some (vI (nI h)), some (vI (nI t)), w3] [] g I1 L) :
    ∀ (rs2 : List mR) (j : Nat) (acc : List mR) (e1 : mE) (I1 : aI) (w3 : Option aV), rs.drop j = rs2 → j ≤ rs.length → AgI p B cnt lim I h t env e n rs j acc e1 I1 →
      Cont g L (flF p) lim Run (tmF (flF p) (ev (flF p) B lim f (B t).2.2.2.2.1) env n rs2 acc e1) I h →
      Ex mX9_again 5 0 0 (rQ g L Run) 185 [some (vS 328), some (vI (nI h)), some (vI (nI t)), w3] [] g I1 L := by
  have h0 := (hw 328 _ rfl).2.1
  have ch : (nI h).toNatClampNeg = h := clN (by omega)
  have ctt : (nI t).toNatClampNeg = t := clN (by omega)
  have vh : vp_in (nI h) 32 := inN (by omega) (by omega)
  have vt : vp_in (nI t) 80 := inN (by omega) (by omega)
  have e2 : (2 : Int32) * nI h = nI (2 * h) := nI_mul 2 h
  have v2 : vp_in ((2 : Int32) * nI h) 64 := by rw [e2]; exact inN (by omega) (by omega)
  have c2 : ((2 : Int32) * nI h).toNatClampNeg = 2 * h := by rw [e2]; exact clN (by omega)
  obtain ⟨-, -, hb3, -⟩ := hB t ht
  obtain ⟨ha1, ha2⟩ := hb3 (by omega) (by omega)
  have hoa := (hO t ht ho).2.2.1 (by omega) (by omega)
  have hkr : kR (B t).1 = 11 := by rw [hk]; rfl
  intro rs2
  induction rs2 with
  | nil =>
    intro j acc e1 I1 w3 hdr hj hI K
    have hjl : j = rs.length := by
      have := congrArg List.length hdr
      simp at this
      omega
    subst hjl
    exact hEnd acc e1 I1 w3 hI K
  | cons r rs2 ihr =>
    intro j acc e1 I1 w3 hdr hj hI K
    obtain ⟨hS, hE, hl, hF, p1, n1, a1, m1, r1, m2, r2, hacc, hae, hrl, hal, hT, bl⟩ := hI
    have hjl : j < rs.length := by
      have := congrArg List.length hdr
      simp at this
      omega
    have hrj : rs[j]? = some r := by
      have h9 : (rs.drop j)[0]? = some r := by rw [hdr]; rfl
      rw [List.getElem?_drop] at h9
      exact h9
    have hd2 : rs.drop (j + 1) = rs2 := by rw [← List.drop_drop, hdr]; rfl
    obtain ⟨q1, q2, q3, q4⟩ := r1 j r hrj
    have hr01 : r.2.1 = 0 ∨ r.2.1 = 1 := hre r (List.mem_of_getElem? hrj)
    have hrlr : inL (mE.us e1) r.2.2.2 := hrl r (List.mem_of_getElem? hrj)
    have t330 := (hT.2 t ht).2.2.2.1 (by omega) (by omega)
    refine Ex_wx [202] 9 oX9_again hw ?_
    refine And.intro vh (And.intro v2 ?_)
    rw [ch, c2, a1, m1]
    refine And.intro (fun c => absurd (leN c (by omega) (by omega)) (by omega)) (fun _ => ?_)
    refine Ex_wx [] 9 oX9_again hw ?_
    refine Ex_v (As := [vI (nI h), vI 0]) (st := []) (d' := 0) vX9_200 rfl rfl (r_row hw (l := 0) rfl) h0 (by omega) rfl (dc_ok oX9_again rfl) ?_
    refine Ex_bn 14 oX9_again hw ?_
    refine And.intro vh (And.intro vh (And.intro vh ?_))
    show Ex mX9_again 5 0 0 (rQ g L Run) 226 [some (vS 328), some (vI (nI h)), some (vI (nI t)), some (vI (nI (100 * h + 50 * 0) + I1 342 (nI h).toNatClampNeg))] [] g (up2 I1 342 (nI h).toNatClampNeg (I1 342 (nI h).toNatClampNeg + 1)) L
    rw [ch, a1, nI_add, nI_1, show 100 * h + 50 * 0 + j = 100 * h + j by omega]
    have hA : At I1 (up2 I1 342 h (nI (j + 1))) h := fun i k c => up2_n (by unfold mt at c; omega)
    have hS1 := hS.at hA
    have hF1 := hF.at hA
    have hT1 := hT.bl hA.bl
    have bl1 := bl.trans hA.bl
    have cc : (nI (100 * h + j)).toNatClampNeg = 100 * h + j := clN (by omega)
    have vv : vp_in (nI (100 * h + j)) 3200 := inN (by omega) (by omega)
    have oth : ∀ i k, ¬ (i = 342 ∧ k = h) → up2 I1 342 h (nI (j + 1)) i k = I1 i k := fun i k c => up2_n (by omega)
    have at1 : up2 I1 342 h (nI (j + 1)) 342 h = nI (j + 1) := up2_s
    generalize up2 I1 342 h (nI (j + 1)) = J at hA hS1 hF1 hT1 bl1 oth at1 ⊢
    have p2 : J 341 h = nI 2 := by rw [oth _ _ (by omega)]; exact p1
    have n2 : J 343 h = nI (n + 1) := by rw [oth _ _ (by omega)]; exact n1
    have m12 : J 349 (2 * h) = nI rs.length := by rw [oth _ _ (by omega)]; exact m1
    have r12 : Rr (flF p) J (100 * h) rs := r1.eq (fun i k h1 h2 h3 h4 => oth i k (by omega))
    have m22 : J 349 (2 * h + 1) = nI acc.length := by rw [oth _ _ (by omega)]; exact m2
    have r22 : Rr (flF p) J (100 * h + 50) acc := r2.eq (fun i k h1 h2 h3 h4 => oth i k (by omega))
    have j1 : J 351 (100 * h + j) = r.1 := by rw [oth _ _ (by omega)]; exact q1
    have j2 : J 350 (100 * h + j) = r.2.1 := by rw [oth _ _ (by omega)]; exact q2
    have j330 : J 330 t = nI (B t).2.2.2.2.1 := by rw [oth _ _ (by omega)]; exact t330
    have j352 : (flF p).1 = true → J 352 (100 * h + j) = r.2.2.1 := fun c => by rw [oth _ _ (by omega)]; exact q3 c
    have j353 : (flF p).2.1 = true → J 353 (100 * h + j) = r.2.2.2 := fun c => by rw [oth _ _ (by omega)]; exact q4 c
    refine Ex_wx [235, 261] 9 oX9_again hw ?_
    refine And.intro vv ?_
    rw [cc, j2]
    refine And.intro (fun cm => ?_) (fun cm => ?_)
    · have hX := r_push (L := L) (d := 0) (t := (B t).2.2.2.2.1) (fr := nI h) (n := -1) (v := 0) (st := J 352 (100 * h + j)) (lg := J 353 (100 * h + j)) (src := env) (e := own2 (flF p) e1 r.2.2.1 r.2.2.2) hw (show h + 1 < 32 by omega) hS1.own2 hE.2.2 hlim (Or.inr ⟨h, by omega, rfl, hF1.2.1⟩) (Or.inl rfl) (fun c => (j352 c).trans (by show _ = if (flF p).1 = true then _ else _; rw [if_pos c])) (fun c => (j353 c).trans (by show _ = if (flF p).2.1 = true then _ else _; rw [if_pos c]))
      rw [upE_no] at hX
      refine Ex_wx [] 9 oX9_again hw ?_
      refine And.intro vt (And.intro vv (And.intro vv ?_))
      rw [ctt, cc, j330]
      refine Ex_r (As := [vI (nI (B t).2.2.2.2.1), vI (nI h), vI (-1), vI 0, vI (J 352 (100 * h + j)), vI (J 353 (100 * h + j))]) (st := []) vX9_237 rfl rfl hX h0 (by omega) rfl (dc_ok oX9_again rfl) ?_
      intro I2 hP
      refine Ex_wx [] 9 oX9_again hw ?_
      refine ⟨rfl, rfl, rfl, ?_⟩
      have hiL : invL (own2 (flF p) e1 r.2.2.1 r.2.2.2) := own2_invL hl hrlr
      have hiE : invE lim (own2 (flF p) e1 r.2.2.1 r.2.2.2) := own2_inv hE
      refine sim_child ih hP hS1.own2 hT1 ha1 (by omega) hoa (by omega) hiE hiL hlim ?_
      have hkq := ev_ok (F := flF p) (B := B) f (B t).2.2.2.2.1 env _ hiE
      have hlq := ev_log (F := flF p) (B := B) hlim f (B t).2.2.2.2.1 env _ hiE hiL
      have hsf : stepF (flF p) (ev (flF p) B lim f (B t).2.2.2.2.1) 0 (-1) env r e1 = ev (flF p) B lim f (B t).2.2.2.2.1 env (own2 (flF p) e1 r.2.2.1 r.2.2.2) := by
        rw [stepF_err cm, upE_no]
      generalize ev (flF p) B lim f (B t).2.2.2.2.1 env (own2 (flF p) e1 r.2.2.1 r.2.2.2) = q at hkq hlq hsf ⊢
      refine cont_err (t := t) hw hh (by omega) hF1 ?_ (K.bl bl1) ?_ ?_ ?_
      · rw [p2]; exact fun c => absurd c.2 (by decide)
      · intro q1
        rw [tm_stop (by rw [hsf, q1]; decide), hsf]
        exact ⟨q1, rfl⟩
      · intro q1
        rw [tm_stop (by rw [hsf, q1]; decide), hsf]
        exact q1
      intro q0 I3 sS sm sr sb
      have hT3 := hT1.bl sb
      have hF3 := hF1.bl sb
      have p3 : I3 341 h = nI 2 := by rw [sb 341 h (by unfold kp; omega)]; exact p2
      have n3 : I3 343 h = nI (n + 1) := by rw [sb 343 h (by unfold kp; omega)]; exact n2
      have a3 : I3 342 h = nI (j + 1) := by rw [sb 342 h (by unfold kp; omega)]; exact at1
      have m13 : I3 349 (2 * h) = nI rs.length := by rw [sb 349 _ (by unfold kp; omega)]; exact m12
      have r13 : Rr (flF p) I3 (100 * h) rs := r12.eq (fun i k h1 h2 h3 h4 => sb i k (by unfold kp; omega))
      have m23 : I3 349 (2 * h + 1) = nI acc.length := by rw [sb 349 _ (by unfold kp; omega)]; exact m22
      have r23 : Rr (flF p) I3 (100 * h + 50) acc := r22.eq (fun i k h1 h2 h3 h4 => sb i k (by unfold kp; omega))
      have bl3 : Bl I I3 h := bl1.trans (sb.mono (by omega))
      refine hst I3 h sS.1.1 (by omega) sS.1.2.2.2.1 (r_go_again hw sS.1.1 (by omega) hF3.1 (by omega) (by rw [(hT3.2 t ht).1, hkr]) ?_)
      refine Mx_in (by decide +kernel) rfl rfl (Ex_bn 5 oX9_again hw ?_)
      refine And.intro vh ?_
      show Ex mX9_again 5 0 0 (rQ g L Run) 7 [some (vS 328), some (vI (nI h)), some (vI (I3 340 (nI h).toNatClampNeg)), none] [] g I3 L
      rw [ch, hF3.1]
      refine Ex_wx [16] 9 oX9_again hw ?_
      refine And.intro vh ?_
      rw [ch, p3]
      refine And.intro (fun c => absurd c (by decide)) (fun _ => ?_)
      refine Ex_r (As := [vI (nI h)]) (st := []) vX9_259 rfl rfl (r_gather (acc := acc) (d := 4) (F := flF p) hw (by omega) (by omega) m23 hacc r23 sm sr (hkq.2.2 q0).2 (hkq.2.2 q0).1 sS.1.2.2.2.1) h0 (by omega) rfl (dc_ok oX9_again rfl) ?_
      intro I4 hG
      rcases hG.split sS hlq.1 hkq.2.1 hlim with ⟨hbig, hO4, o4, hx4⟩ | ⟨hsm, hS4, m4, r4, hA4, hx4⟩
      · rw [tm_many (by rw [hsf]; exact q0) (by rw [hsf]; exact hbig), hsf] at K
        refine Ex_wx [] 9 oX9_again hw ?_
        refine And.intro (fun c => ?_) (fun _ => ?_)
        · rw [o4] at c; exact absurd c (by decide)
        · refine ⟨rfl, rfl, rfl, K.2.2 rfl _ hO4 ?_⟩
          intro i k c
          unfold kp at c
          rw [hx4 i k (by unfold cb; omega) (by omega)]
          exact bl3 i k (by unfold kp; omega)
      · rw [tm_go (by rw [hsf]; exact q0) (by rw [hsf]; omega), hsf] at K
        refine Ex_wx [139] 9 oX9_again hw ?_
        refine And.intro (fun _ => ?_) (fun c => absurd hS4.1.2.2.2.1 c)
        refine Ex_wx [185] 9 oX9_again hw ?_
        refine And.intro vh ?_
        have p4 : I4 341 h = nI 2 := by rw [hx4 341 h (by unfold cb; omega)]; exact p3
        rw [ch, p4]
        refine And.intro (fun c => absurd c (by decide)) (fun _ => ?_)
        refine ihr (j + 1) (acc ++ q.2.1) q.2.2 I4 none hd2 (by omega) ⟨hS4, hkq.2.1, hlq.1, hF3.at hA4, p4, ?_, ?_, ?_, ?_, m4, r4, hsm, errR_app hae (hkq.2.2 q0).2, hrl.mono hlq.2.1.1, (hal.mono hlq.2.1.1).app hlq.2.2, hT3.bl hA4.bl, bl3.trans hA4.bl⟩ K
        · rw [hx4 _ _ (by unfold cb; omega)]; exact n3
        · rw [hx4 _ _ (by unfold cb; omega)]; exact a3
        · rw [hx4 _ _ (by unfold cb; omega)]; exact m13
        · exact r13.eq (fun i k h1 h2 h3 h4 => hx4 i k (by unfold cb; omega))
    · have hr1 : r.2.1 = 1 := hr01.resolve_left cm
      have hsf : stepF (flF p) (ev (flF p) B lim f (B t).2.2.2.2.1) 0 (-1) env r e1 = (0, [r], e1) := stepF_oth cm
      refine Ex_wx [] 9 oX9_again hw ?_
      refine And.intro vv (And.intro vv (And.intro vv ?_))
      rw [cc]
      refine Ex_v (As := [vI (nI h), vI 1, vI (J 351 (100 * h + j)), vI (J 352 (100 * h + j)), vI (J 353 (100 * h + j))]) (st := []) (d' := 1) vX9_203 rfl rfl (r_tell hw (by omega) m22 hacc (Or.inr rfl) (by omega)) h0 (by omega) rfl (dc_ok oX9_again rfl) ?_
      refine Ex_wx [185] 9 oX9_again hw ?_
      by_cases hfull : acc.length = 50
      · rw [if_pos hfull]
        rw [tm_many (by rw [hsf]) (by rw [hsf, List.length_append, hfull]; exact Nat.lt_succ_self 50), hsf] at K
        have hO7 : OutS (flF p) (up2 J 328 33 1) := hS1.out up2_s (fun i k c => up2_n (by omega)) hl hE hlim
        have hfin : rQ g L Run (.inl none) g (up2 J 328 33 1) L := by
          refine ⟨rfl, rfl, rfl, K.2.2 rfl _ hO7 ?_⟩
          intro i k c
          unfold kp at c
          rw [up2_n (by omega)]
          exact bl1 i k (by unfold kp; omega)
        exact And.intro (fun c => absurd c (by rw [up2_s]; decide)) (fun _ => hfin)
      · rw [if_neg hfull]
        have hlt : acc.length < 50 := by omega
        rw [tm_go (by rw [hsf]) (by rw [hsf, List.length_append]; simp only [List.length_singleton]; omega), hsf] at K
        have hAt : At J (tellI J h acc.length 1 (J 351 (100 * h + j)) (J 352 (100 * h + j)) (J 353 (100 * h + j))) h := cb_at (tell_cb hlt)
        have htc := fun i k => tell_cb (I := J) (h := h) (er := 1) (v := J 351 (100 * h + j)) (st := J 352 (100 * h + j)) (lg := J 353 (100 * h + j)) hlt i k
        refine And.intro (fun _ => ?_) (fun c => absurd (by rw [htc _ _ (by unfold cb; omega)]; exact hS1.1.2.2.2.1) c)
        refine ihr (j + 1) (acc ++ [r]) e1 _ _ hd2 (by omega) ⟨hS1.at hAt, hE, hl, hF1.at hAt, ?_, ?_, ?_, ?_, ?_, ?_, ?_, ?_, ?_, hrl, ?_, hT1.bl hAt.bl, bl1.trans hAt.bl⟩ K
        · rw [htc _ _ (by unfold cb; omega)]; exact p2
        · rw [htc _ _ (by unfold cb; omega)]; exact n2
        · rw [htc _ _ (by unfold cb; omega)]; exact at1
        · rw [htc _ _ (by unfold cb; omega)]; exact m12
        · exact r12.eq (fun i k h1 h2 h3 h4 => htc i k (by unfold cb; omega))
        · rw [tell_many, List.length_append, List.length_singleton]
        · have h9 := tell_rows (er := 1) (v := J 351 (100 * h + j)) r22 rfl j352 j353
          rw [show ((J 351 (100 * h + j), 1, r.2.2.1, r.2.2.2) : mR) = r by rw [j1, ← hr1]] at h9
          exact h9
        · rw [List.length_append, List.length_singleton]; omega
        · exact errR_app hae (fun x hx => by rw [List.mem_singleton.mp hx]; exact hr01)
        · exact hal.app (fun x hx => by rw [List.mem_singleton.mp hx]; exact hrlr)
/-- the end of a round, then more of them -/
theorem ag_loop (ih : simC g L p B hg cnt lim okT Run f) (hst : stepR g L Run) (hB : Bw B hg cnt) (hO : okB p B cnt okT) (hw : WS lx ly g) (hlim : lim ≤ 2000) (hc : cnt ≤ 80) (ht : t < cnt) (hh : h ≤ 29) (ho : okT t) (hk : (B t).1 = 10) (hf : hg t ≤ f + 1) (hd : h + hg t ≤ 30) :
    ∀ (n : Nat), n ≤ 8 → ∀ (rs : List mR), rs.length ≤ 50 → errR rs → ∀ (e1 : mE) (I1 : aI) (w3 : Option aV), AgI p B cnt lim I h t env e n rs 0 [] e1 I1 →
      Cont g L (flF p) lim Run (tmF (flF p) (ev (flF p) B lim f (B t).2.2.2.2.1) env n rs [] e1) I h →
      Ex mX9_again 5 0 0 (rQ g L Run) 185 [some (vS 328), some (vI (nI h)), some (vI (nI t)), w3] [] g I1 L := by
  have h0 := (hw 328 _ rfl).2.1
  have ch : (nI h).toNatClampNeg = h := clN (by omega)
  have vh : vp_in (nI h) 32 := inN (by omega) (by omega)
  have e2 : (2 : Int32) * nI h = nI (2 * h) := nI_mul 2 h
  have v2 : vp_in ((2 : Int32) * nI h) 64 := by rw [e2]; exact inN (by omega) (by omega)
  have c2 : ((2 : Int32) * nI h).toNatClampNeg = 2 * h := by rw [e2]; exact clN (by omega)
  intro n
  induction n with
  | zero =>
    intro hn rs hrs hre e1 I1 w3 hI K
    refine ag_round (I := I) (e := e) ih hst hB hO hw hlim hc ht hh ho hk hf hd hrs hre ?_ rs 0 [] e1 I1 w3 rfl (Nat.zero_le _) hI K
    clear hI K I1 e1 w3
    rintro acc e1 I1 w3 ⟨hS, hE, hl, hF, p1, n1, a1, m1, r1, m2, r2, hacc, hae, hrl, hal, hT, bl⟩ K
    refine Ex_wx [296] 9 oX9_again hw ?_
    refine And.intro vh (And.intro v2 ?_)
    rw [ch, c2, a1, m1]
    refine And.intro (fun _ => ?_) (fun c => absurd (Int32.le_refl _) c)
    refine Ex_bn 8 oX9_again hw ?_
    refine And.intro vh (And.intro vh ?_)
    show Ex mX9_again 5 0 0 (rQ g L Run) 306 [some (vS 328), some (vI (nI h)), some (vI (nI t)), w3] [] g (up2 I1 343 (nI h).toNatClampNeg (I1 343 (nI h).toNatClampNeg - 1)) L
    rw [ch, n1, nI_pred]
    have hA : At I1 (up2 I1 343 h (nI 0)) h := fun i k c => up2_n (by unfold mt at c; omega)
    have hS1 := hS.at hA
    refine Ex_wx [320] 9 oX9_again hw ?_
    refine And.intro vh ?_
    rw [ch, up2_s]
    refine And.intro (fun _ => ?_) (fun c => absurd rfl c)
    refine Ex_v (As := []) (st := []) (d' := 0) vX9_262 rfl rfl (r_finish hw hS1.1.1) h0 (by omega) rfl (dc_ok oX9_again rfl) ?_
    refine Ex_wx [] 9 oX9_again hw ?_
    refine ⟨rfl, rfl, rfl, K.1 rfl _ hS1.high ?_ ?_ ((bl.trans hA.bl).trans high_bl)⟩
    · rw [up2_i (by omega), up2_i (by omega)]; exact m2
    · exact r2.eq (fun i k h1 h2 h3 h4 => by rw [up2_i (by omega), up2_i (by omega)])
  | succ n ihn =>
    intro hn rs hrs hre e1 I1 w3 hI K
    refine ag_round (I := I) (e := e) ih hst hB hO hw hlim hc ht hh ho hk hf hd hrs hre ?_ rs 0 [] e1 I1 w3 rfl (Nat.zero_le _) hI K
    clear hI K I1 e1 w3
    rintro acc e1 I1 w3 ⟨hS, hE, hl, hF, p1, n1, a1, m1, r1, m2, r2, hacc, hae, hrl, hal, hT, bl⟩ K
    refine Ex_wx [296] 9 oX9_again hw ?_
    refine And.intro vh (And.intro v2 ?_)
    rw [ch, c2, a1, m1]
    refine And.intro (fun _ => ?_) (fun c => absurd (Int32.le_refl _) c)
    refine Ex_bn 8 oX9_again hw ?_
    refine And.intro vh (And.intro vh ?_)
    show Ex mX9_again 5 0 0 (rQ g L Run) 306 [some (vS 328), some (vI (nI h)), some (vI (nI t)), w3] [] g (up2 I1 343 (nI h).toNatClampNeg (I1 343 (nI h).toNatClampNeg - 1)) L
    rw [ch, n1, nI_pred]
    have hA : At I1 (up2 I1 343 h (nI (n + 1))) h := fun i k c => up2_n (by unfold mt at c; omega)
    have hS1 := hS.at hA
    have oth : ∀ i k, ¬ (i = 343 ∧ k = h) → up2 I1 343 h (nI (n + 1)) i k = I1 i k := fun i k c => up2_n (by omega)
    have nx : up2 I1 343 h (nI (n + 1)) 343 h = nI (n + 1) := up2_s
    have hF1 := hF.at hA
    have hT1 := hT.bl hA.bl
    have bl1 := bl.trans hA.bl
    generalize up2 I1 343 h (nI (n + 1)) = J at hA hS1 oth nx hF1 hT1 bl1 ⊢
    have r22 : Rr (flF p) J (100 * h + 50) acc := r2.eq (fun i k h1 h2 h3 h4 => oth i k (by omega))
    refine Ex_wx [320] 9 oX9_again hw ?_
    refine And.intro vh ?_
    rw [ch, nx]
    refine And.intro (fun c => absurd c (nI_ne0 (by omega) (by omega))) (fun _ => ?_)
    refine Ex_wx [] 9 oX9_again hw ?_
    refine Ex_r (As := [vI (nI h)]) (st := []) (d' := 3) vX9_268 rfl rfl (r_turn (m := acc.length) hw (by omega) (by omega) (by rw [oth _ _ (by omega)]; exact m2) hacc (rr_err r22 hae)) h0 (by omega) rfl (dc_ok oX9_again rfl) ?_
    intro I2 hU
    have hA2 := ct_at hU.2.2.2.2
    refine Ex_wx [185] 9 oX9_again hw ?_
    refine ihn (by omega) acc hacc hae e1 I2 w3 ⟨hS1.at hA2, hE, hl, hF1.at hA2, ?_, ?_, ?_, hU.1, tu_rows hU r22 rfl, ?_, Rr.nil, by simp, (fun x hx => by cases hx), hal, rowL.nil, hT1.bl hA2.bl, bl1.trans hA2.bl⟩ ?_
    · rw [hU.2.2.2.2 _ _ (by unfold ct; omega), oth _ _ (by omega)]; exact p1
    · rw [hU.2.2.2.2 _ _ (by unfold ct; omega)]; exact nx
    · exact hU.2.2.1
    · exact hU.2.1
    · exact K
end Again
