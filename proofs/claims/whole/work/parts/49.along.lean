/-! the reference: along, part by part -/
section Along
variable {lx ly : Nat} {g : aG} {I : aI} {L : aL} {p : Nat → Int32} {B : mB} {hg : Nat → Nat} {cnt lim h t f : Nat} {okT : Nat → Prop} {Run : aI → Prop} {env : Nat → Int32} {e : mE} {oe : Int32} {sv : mR → mR} {rs : List mR}
/-- then: the RESULTS as they are; saved: the errors' as the beginning's, where lost -/
def svK (p : Nat → Int32) (e : mE) (k : Nat) (oe : Int32) (sv : mR → mR) : Prop := (oe = 0 ∧ k = 7 ∧ ∀ r, sv r = r) ∨ (oe = 1 ∧ k = 8 ∧ ∀ r, sv r = savedM (flF p) e r)
theorem svK.row {k : Nat} (h : svK p e k oe sv) (r : mR) : (sv r).1 = r.1 ∧ (sv r).2.1 = r.2.1 ∧ (r.2.1 = oe → ((flF p).1 = true → (sv r).2.2.1 = if oe = 1 ∧ ouF p 0 = true then mE.s e else r.2.2.1) ∧ ((flF p).2.1 = true → (sv r).2.2.2 = if oe = 1 ∧ ouF p 1 = true then mE.l e else r.2.2.2)) ∧ (r.2.1 = 0 ∨ r.2.1 = 1 → r.2.1 ≠ oe → sv r = r) := by
  rcases h with ⟨rfl, -, h⟩ | ⟨rfl, -, h⟩
  · rw [h r]
    exact ⟨rfl, rfl, fun _ => ⟨fun _ => by rw [if_neg (fun c => absurd c.1 (by decide))], fun _ => by rw [if_neg (fun c => absurd c.1 (by decide))]⟩, fun _ _ => rfl⟩
  · rw [h r]
    unfold savedM
    by_cases c : r.2.1 = 0
    · rw [if_pos c]
      exact ⟨rfl, rfl, fun q => absurd (c.symm.trans q) (by decide), fun _ _ => rfl⟩
    · rw [if_neg c]
      refine ⟨rfl, rfl, fun q => ⟨fun _ => ?_, fun _ => ?_⟩, fun q q2 => absurd (q.resolve_left c) q2⟩
      · show (if (flF p).2.2.2.1 = true then mE.s e else r.2.2.1) = _
        by_cases c2 : ouF p 0 = true
        · rw [if_pos (show (flF p).2.2.2.1 = true from c2), if_pos ⟨rfl, c2⟩]
        · rw [if_neg (show ¬ (flF p).2.2.2.1 = true from c2), if_neg (fun q => c2 q.2)]
      · show (if (flF p).2.2.2.2 = true then mE.l e else r.2.2.2) = _
        by_cases c2 : ouF p 1 = true
        · rw [if_pos (show (flF p).2.2.2.2 = true from c2), if_pos ⟨rfl, c2⟩]
        · rw [if_neg (show ¬ (flF p).2.2.2.2 = true from c2), if_neg (fun q => c2 q.2)]
theorem svK.log {k us : Nat} (h : svK p e k oe sv) (r : mR) (hr : inL us r.2.2.2) (he : inL us (mE.l e)) : inL us (sv r).2.2.2 := by
  rcases h with ⟨-, -, h⟩ | ⟨-, -, h⟩
  · rw [h r]; exact hr
  · rw [h r]
    unfold savedM
    split
    · exact hr
    · show inL us (if _ then mE.l e else r.2.2.2)
      split
      · exact he
      · exact hr
theorem stepF_err {F : mF} {go : (Nat → Int32) → mE → mO} {nm : Int32} {r : mR} {e1 : mE} (h : r.2.1 = oe) : stepF F go oe nm env r e1 = go (upE env nm r.1) (own2 F e1 r.2.2.1 r.2.2.2) := by
  unfold stepF; rw [if_pos h]
theorem stepF_oth {F : mF} {go : (Nat → Int32) → mE → mO} {nm : Int32} {r : mR} {e1 : mE} (h : ¬ r.2.1 = oe) : stepF F go oe nm env r e1 = (0, [r], e1) := by
  unfold stepF; rw [if_neg h]
theorem al_loop (ih : simC g L p B hg cnt lim okT Run f) (hst : stepR g L Run) (hB : Bw B hg cnt) (hO : okB p B cnt okT) (hw : WS lx ly g) (hlim : lim ≤ 2000) (hc : cnt ≤ 80) (ht : t < cnt) (hh : h ≤ 29) (hl0 : inL (mE.us e) (mE.l e)) (ho : okT t) (hk : (B t).1 = 7 ∨ (B t).1 = 8) (hsv : svK p e (B t).1 oe sv) (hf : hg t ≤ f + 1) (hd : h + hg t ≤ 30) (hrs : rs.length ≤ 50) (hre : errR rs) :
    ∀ (rs2 : List mR) (j : Nat) (acc : List mR) (e1 : mE) (I1 : aI) (w5 w6 w7 : Option aV), rs.drop j = rs2 → j ≤ rs.length → Sr (flF p) I1 lim e1 (h + 1) → invE lim e1 → invL e1 → mE.us e ≤ mE.us e1 → Fr (flF p) I1 h t env (mE.s e) (mE.l e) → I1 341 h = nI 2 → I1 342 h = nI j → I1 349 (2 * h) = nI rs.length → Rr (flF p) I1 (100 * h) rs → I1 349 (2 * h + 1) = nI acc.length → Rr (flF p) I1 (100 * h + 50) acc → acc.length ≤ 50 → errR acc → rowL (mE.us e1) rs → Tr I1 p B cnt → Bl I I1 h →
      Cont g L (flF p) lim Run (eachF (flF p) (ev (flF p) B lim f (B t).2.2.2.2.2) oe (B t).2.2.2.1 env (rs2.map sv) acc e1) I h →
      Ex mX9_along 5 0 0 (rQ g L Run) 109 [some (vS 328), some (vI (nI h)), some (vI (nI t)), some (vI oe), some (vI (nI (100 * h))), w5, w6, w7] [] g I1 L := by
  have h0 := (hw 328 _ rfl).2.1
  have ch : (nI h).toNatClampNeg = h := clN (by omega)
  have ct : (nI t).toNatClampNeg = t := clN (by omega)
  have vh : vp_in (nI h) 32 := inN (by omega) (by omega)
  have vt : vp_in (nI t) 80 := inN (by omega) (by omega)
  have e2 : (2 : Int32) * nI h = nI (2 * h) := nI_mul 2 h
  have v2 : vp_in ((2 : Int32) * nI h) 64 := by rw [e2]; exact inN (by omega) (by omega)
  have c2 : ((2 : Int32) * nI h).toNatClampNeg = 2 * h := by rw [e2]; exact clN (by omega)
  obtain ⟨-, -, -, hb4⟩ := hB t ht
  obtain ⟨hb1, hb2⟩ := hb4 (by omega) (by omega)
  have hob := (hO t ht ho).2.2.2 (by omega) (by omega)
  have hkr : kR (B t).1 = 8 ∨ kR (B t).1 = 9 := by
    rcases hk with q | q <;> rw [q] <;> simp [kR]
  have hoe : oe = 0 ∨ oe = 1 := by
    rcases hsv with ⟨q, -⟩ | ⟨q, -⟩
    · exact Or.inl q
    · exact Or.inr q
  have hoeK : (oe = 1 ↔ kR (B t).1 = 9) := by
    rcases hsv with ⟨q, q2, -⟩ | ⟨q, q2, -⟩
    · rw [q, q2]; simp [kR]
    · rw [q, q2]; simp [kR]
  intro rs2
  induction rs2 with
  | nil =>
    intro j acc e1 I1 w5 w6 w7 hdr hj hS hE hl hus hF p1 a1 m1 r1 m2 r2 hacc hae hrl hT bl K
    have hjl : j = rs.length := by
      have := congrArg List.length hdr
      simp at this
      omega
    subst hjl
    refine Ex_wx [] 9 oX9_along hw ?_
    refine And.intro vh (And.intro v2 ?_)
    rw [ch, c2, a1, m1]
    refine And.intro (fun _ => ?_) (fun c => absurd (Int32.le_refl _) c)
    refine And.intro (fun _ => ?_) (fun c => absurd hS.1.2.2.2.1 c)
    refine Ex_v (As := []) (st := []) (d' := 0) vX9_262 rfl rfl (r_finish hw hS.1.1) h0 (by omega) rfl (dc_ok oX9_along rfl) ?_
    refine Ex_wx [] 9 oX9_along hw ?_
    refine ⟨rfl, rfl, rfl, K.1 rfl _ hS.high ?_ ?_ (bl.trans high_bl)⟩
    · rw [up2_i (by omega)]; exact m2
    · exact r2.eq (fun i k h1 h2 h3 h4 => up2_i (by omega))
  | cons r rs2 ihr =>
    intro j acc e1 I1 w5 w6 w7 hdr hj hS hE hl hus hF p1 a1 m1 r1 m2 r2 hacc hae hrl hT bl K
    have hjl : j < rs.length := by
      have := congrArg List.length hdr
      simp at this
      omega
    have hrj : rs[j]? = some r := by
      have h9 : (rs.drop j)[0]? = some r := by rw [hdr]; rfl
      rw [List.getElem?_drop] at h9
      exact h9
    have hd2 : rs.drop (j + 1) = rs2 := by rw [← List.drop_drop, hdr]; rfl
    obtain ⟨q1, q2, q3, q4⟩ := r1 j r hrj
    have hr01 : r.2.1 = 0 ∨ r.2.1 = 1 := hre r (List.mem_of_getElem? hrj)
    obtain ⟨sv1, sv2, sv3, sv4⟩ := hsv.row r
    have hrlr : inL (mE.us e1) r.2.2.2 := hrl r (List.mem_of_getElem? hrj)
    rw [List.map_cons] at K
    obtain ⟨t332, jn, hjn, hjn2⟩ := (hT.2 t ht).2.2.2.2.2.1 (by omega) (by omega)
    have t331 := (hT.2 t ht).2.2.2.2.1 (by omega) (by omega)
    -- at is one more
    refine Ex_wx [133] 9 oX9_along hw ?_
    refine And.intro vh (And.intro v2 ?_)
    rw [ch, c2, a1, m1]
    refine And.intro (fun c => absurd (leN c (by omega) (by omega)) (by omega)) (fun _ => ?_)
    refine And.intro (fun _ => ?_) (fun c => absurd hS.1.2.2.2.1 c)
    refine Ex_bn 15 oX9_along hw ?_
    refine And.intro vh (And.intro vh (And.intro vh ?_))
    show Ex mX9_along 5 0 0 (rQ g L Run) 154 [some (vS 328), some (vI (nI h)), some (vI (nI t)), some (vI oe), some (vI (nI (100 * h))), some (vI (nI (100 * h) + I1 342 (nI h).toNatClampNeg)), w6, w7] [] g (up2 I1 342 (nI h).toNatClampNeg (I1 342 (nI h).toNatClampNeg + 1)) L
    rw [ch, a1, nI_add, nI_1]
    have hA : At I1 (up2 I1 342 h (nI (j + 1))) h := fun i k c => up2_n (by unfold mt at c; omega)
    have hS1 := hS.at hA
    have hF1 := hF.at hA
    have hT1 := hT.bl hA.bl
    have bl1 := bl.trans hA.bl
    have cc : (nI (100 * h + j)).toNatClampNeg = 100 * h + j := clN (by omega)
    have vv : vp_in (nI (100 * h + j)) 3200 := inN (by omega) (by omega)
    have oth : ∀ i k, ¬ (i = 342 ∧ k = h) → up2 I1 342 h (nI (j + 1)) i k = I1 i k := fun i k c => up2_n (by omega)
    have at1 : up2 I1 342 h (nI (j + 1)) 342 h = nI (j + 1) := up2_s
    generalize up2 I1 342 h (nI (j + 1)) = J at hA hS1 hF1 hT1 bl1 oth at1 ⊢
    have p2 : J 341 h = nI 2 := by rw [oth _ _ (by omega)]; exact p1
    have m12 : J 349 (2 * h) = nI rs.length := by rw [oth _ _ (by omega)]; exact m1
    have r12 : Rr (flF p) J (100 * h) rs := r1.eq (fun i k h1 h2 h3 h4 => oth i k (by omega))
    have m22 : J 349 (2 * h + 1) = nI acc.length := by rw [oth _ _ (by omega)]; exact m2
    have r22 : Rr (flF p) J (100 * h + 50) acc := r2.eq (fun i k h1 h2 h3 h4 => oth i k (by omega))
    have j1 : J 351 (100 * h + j) = r.1 := by rw [oth _ _ (by omega)]; exact q1
    have j2 : J 350 (100 * h + j) = r.2.1 := by rw [oth _ _ (by omega)]; exact q2
    have j331 : J 331 t = nI (B t).2.2.2.2.2 := by rw [oth _ _ (by omega)]; exact t331
    have j332 : J 332 t = (B t).2.2.2.1 := by rw [oth _ _ (by omega)]; exact t332
    refine Ex_wx [165, 254] 9 oX9_along hw ?_
    refine And.intro vv ?_
    rw [cc, j2]
    refine And.intro (fun cm => ?_) (fun cm => ?_)
    · -- the part is done
      obtain ⟨svS, svL⟩ := sv3 cm
      -- behind the choice of state and log
      have fin : ∀ (st lg : Int32), ((flF p).1 = true → st = (sv r).2.2.1) → ((flF p).2.1 = true → lg = (sv r).2.2.2) → Ex mX9_along 5 0 0 (rQ g L Run) 225 [some (vS 328), some (vI (nI h)), some (vI (nI t)), some (vI oe), some (vI (nI (100 * h))), some (vI (nI (100 * h + j))), some (vI st), some (vI lg)] [] g J L := by
        intro st lg hst1 hlg1
        have hX := r_push (L := L) (d := 0) (t := (B t).2.2.2.2.2) (fr := nI h) (n := (B t).2.2.2.1) (v := r.1) (st := st) (lg := lg) (src := env) (e := own2 (flF p) e1 (sv r).2.2.1 (sv r).2.2.2) hw (show h + 1 < 32 by omega) hS1.own2 hE.2.2 hlim (Or.inr ⟨h, by omega, rfl, hF1.2.1⟩) (Or.inr ⟨jn, hjn, hjn2⟩) (fun c => (hst1 c).trans (by show _ = if (flF p).1 = true then _ else _; rw [if_pos c])) (fun c => (hlg1 c).trans (by show _ = if (flF p).2.1 = true then _ else _; rw [if_pos c]))
        refine Ex_wx [] 9 oX9_along hw ?_
        refine And.intro vt (And.intro vt (And.intro vv ?_))
        rw [ct, cc, j331, j332, j1]
        refine Ex_r (As := [vI (nI (B t).2.2.2.2.2), vI (nI h), vI (B t).2.2.2.1, vI r.1, vI st, vI lg]) (st := []) vX9_237 rfl rfl hX h0 (by omega) rfl (dc_ok oX9_along rfl) ?_
        intro I2 hP
        refine Ex_wx [] 9 oX9_along hw ?_
        refine ⟨rfl, rfl, rfl, ?_⟩
        have hiL : invL (own2 (flF p) e1 (sv r).2.2.1 (sv r).2.2.2) := own2_invL hl (hsv.log r hrlr (hl0.mono hus))
        have hiE : invE lim (own2 (flF p) e1 (sv r).2.2.1 (sv r).2.2.2) := own2_inv hE
        refine sim_child ih hP hS1.own2 hT1 hb1 (by omega) hob (by omega) hiE hiL hlim ?_
        have hkq := ev_ok (F := flF p) (B := B) f (B t).2.2.2.2.2 (upE env (B t).2.2.2.1 r.1) _ hiE
        have hlq := ev_log (F := flF p) (B := B) hlim f (B t).2.2.2.2.2 (upE env (B t).2.2.2.1 r.1) _ hiE hiL
        have hsf : stepF (flF p) (ev (flF p) B lim f (B t).2.2.2.2.2) oe (B t).2.2.2.1 env (sv r) e1 = ev (flF p) B lim f (B t).2.2.2.2.2 (upE env (B t).2.2.2.1 r.1) (own2 (flF p) e1 (sv r).2.2.1 (sv r).2.2.2) := by
          rw [stepF_err (by rw [sv2]; exact cm), sv1]
        generalize ev (flF p) B lim f (B t).2.2.2.2.2 (upE env (B t).2.2.2.1 r.1) (own2 (flF p) e1 (sv r).2.2.1 (sv r).2.2.2) = q at hkq hlq hsf ⊢
        refine cont_err (t := t) hw hh (by omega) hF1 ?_ (K.bl bl1) ?_ ?_ ?_
        · rw [p2]; exact fun c => absurd c.2 (by decide)
        · intro q1
          rw [each_stop (by rw [hsf, q1]; decide), hsf]
          exact ⟨q1, rfl⟩
        · intro q1
          rw [each_stop (by rw [hsf, q1]; decide), hsf]
          exact q1
        intro q0 I3 sS sm sr sb
        have hT3 := hT1.bl sb
        have hF3 := hF1.bl sb
        have p3 : I3 341 h = nI 2 := by rw [sb 341 h (by unfold kp; omega)]; exact p2
        have a3 : I3 342 h = nI (j + 1) := by rw [sb 342 h (by unfold kp; omega)]; exact at1
        have m13 : I3 349 (2 * h) = nI rs.length := by rw [sb 349 _ (by unfold kp; omega)]; exact m12
        have r13 : Rr (flF p) I3 (100 * h) rs := r12.eq (fun i k h1 h2 h3 h4 => sb i k (by unfold kp; omega))
        have m23 : I3 349 (2 * h + 1) = nI acc.length := by rw [sb 349 _ (by unfold kp; omega)]; exact m22
        have r23 : Rr (flF p) I3 (100 * h + 50) acc := r22.eq (fun i k h1 h2 h3 h4 => sb i k (by unfold kp; omega))
        have bl3 : Bl I I3 h := bl1.trans (sb.mono (by omega))
        refine hst I3 h sS.1.1 (by omega) sS.1.2.2.2.1 (r_go_along hw sS.1.1 (by omega) hF3.1 (by omega) (hT3.2 t ht).1 hkr ?_)
        refine Mx_in (by decide +kernel) rfl rfl (Ex_bn 5 oX9_along hw ?_)
        refine And.intro vh ?_
        show Ex mX9_along 5 0 0 (rQ g L Run) 7 [some (vS 328), some (vI (nI h)), some (vI (I3 340 (nI h).toNatClampNeg)), none, none, none, none, none] [] g I3 L
        rw [ch, hF3.1]
        refine Ex_wx [16] 9 oX9_along hw ?_
        refine And.intro vh ?_
        rw [ch, p3]
        refine And.intro (fun c => absurd c (by decide)) (fun _ => ?_)
        refine Ex_r (As := [vI (nI h)]) (st := []) vX9_265 rfl rfl (r_gn (acc := acc) (F := flF p) hw hh (by rw [p3]; decide) m23 hacc r23 sm sr (hkq.2.2 q0).2 (hkq.2.2 q0).1 sS.1.2.2.2.1) h0 (by omega) rfl (dc_ok oX9_along rfl) ?_
        intro I4 hG
        rcases hG.split sS hlq.1 hkq.2.1 hlim with ⟨hbig, hO4, o4, hx4⟩ | ⟨hsm, hS4, m4, r4, hA4, hx4⟩
        · rw [each_many (by rw [hsf]; exact q0) (by rw [hsf]; exact hbig), hsf] at K
          refine Ex_wx [] 9 oX9_along hw ?_
          refine And.intro (fun c => ?_) (fun _ => ?_)
          · rw [o4] at c; exact absurd c (by decide)
          · refine ⟨rfl, rfl, rfl, K.2.2 rfl _ hO4 ?_⟩
            intro i k c
            unfold kp at c
            rw [hx4 i k (by unfold cb; omega) (by omega)]
            exact bl3 i k (by unfold kp; omega)
        · rw [each_go (by rw [hsf]; exact q0) (by rw [hsf]; omega), hsf] at K
          refine Ex_wx [62] 9 oX9_along hw ?_
          refine And.intro (fun _ => ?_) (fun c => absurd hS4.1.2.2.2.1 c)
          refine Ex_wx [77] 9 oX9_along hw ?_
          refine And.intro vh ?_
          have p4 : I4 341 h = nI 2 := by rw [hx4 341 h (by unfold cb; omega)]; exact p3
          rw [ch, p4]
          refine And.intro (fun c => absurd c (by decide)) (fun _ => ?_)
          refine Ex_bn 5 oX9_along hw ?_
          refine And.intro vh ?_
          show Ex mX9_along 5 0 0 (rQ g L Run) 84 [some (vS 328), some (vI (nI h)), some (vI (nI t)), none, none, none, none, none] [] g (up2 I4 341 (nI h).toNatClampNeg 2) L
          rw [ch, show up2 I4 341 h 2 = I4 from up2_self p4]
          have hT4 := hT3.bl hA4.bl
          have k4 := (hT4.2 t ht).1
          have h101 : Ex mX9_along 5 0 0 (rQ g L Run) 101 [some (vS 328), some (vI (nI h)), some (vI (nI t)), some (vI oe), none, none, none, none] [] g I4 L := by
            refine Ex_wx [] 9 oX9_along hw ?_
            refine Ex_v (As := [vI (nI h), vI 0]) (st := []) (d' := 0) vX9_200 rfl rfl (r_row hw (l := 0) rfl) h0 (by omega) rfl (dc_ok oX9_along rfl) ?_
            refine Ex_bn 1 oX9_along hw ?_
            rw [show 100 * h + 50 * 0 = 100 * h by omega]
            refine ihr (j + 1) (acc ++ q.2.1) q.2.2 I4 none none none hd2 (by omega) hS4 hkq.2.1 hlq.1 (Nat.le_trans hus hlq.2.1.1) (hF3.at hA4) p4 ?_ ?_ ?_ m4 r4 hsm (errR_app hae (hkq.2.2 q0).2) (hrl.mono hlq.2.1.1) hT4 (bl3.trans hA4.bl) K
            · rw [hx4 _ _ (by unfold cb; omega)]; exact a3
            · rw [hx4 _ _ (by unfold cb; omega)]; exact m13
            · exact r13.eq (fun i k h1 h2 h3 h4 => hx4 i k (by unfold cb; omega))
          refine Ex_wx [95, 99] 9 oX9_along hw ?_
          refine And.intro vt ?_
          rw [ct, k4]
          refine And.intro (fun c9 => ?_) (fun c9 => ?_)
          · have : oe = 1 := hoeK.mpr (eqN (b := 9) c9 (by omega) (by omega))
            rw [this] at h101
            refine Ex_wx [100] 9 oX9_along hw ?_
            refine Ex_bn 1 oX9_along hw ?_
            exact h101
          · have : oe = 0 := hoe.resolve_right (fun q => c9 (by rw [hoeK.mp q]; rfl))
            rw [this] at h101
            refine Ex_bn 2 oX9_along hw ?_
            exact h101
      have p5 : J 336 = p := hT1.1
      have j352 : (flF p).1 = true → J 352 (100 * h + j) = r.2.2.1 := fun c => by rw [oth _ _ (by omega)]; exact q3 c
      have j353 : (flF p).2.1 = true → J 353 (100 * h + j) = r.2.2.2 := fun c => by rw [oth _ _ (by omega)]; exact q4 c
      have h195 : ∀ (st : Int32), ((flF p).1 = true → st = (sv r).2.2.1) → Ex mX9_along 5 0 0 (rQ g L Run) 195 [some (vS 328), some (vI (nI h)), some (vI (nI t)), some (vI oe), some (vI (nI (100 * h))), some (vI (nI (100 * h + j))), some (vI st), w7] [] g J L := by
        intro st hst1
        have hlog : ((flF p).2.1 = true → (sv r).2.2.2 = r.2.2.2) → Ex mX9_along 5 0 0 (rQ g L Run) 216 [some (vS 328), some (vI (nI h)), some (vI (nI t)), some (vI oe), some (vI (nI (100 * h))), some (vI (nI (100 * h + j))), some (vI st), w7] [] g J L := by
          intro hq
          refine Ex_bn 5 oX9_along hw ?_
          refine And.intro vv ?_
          show Ex mX9_along 5 0 0 (rQ g L Run) 225 [some (vS 328), some (vI (nI h)), some (vI (nI t)), some (vI oe), some (vI (nI (100 * h))), some (vI (nI (100 * h + j))), some (vI st), some (vI (J 353 (nI (100 * h + j)).toNatClampNeg))] [] g J L
          rw [cc]
          exact fin st _ hst1 (fun c => by rw [j353 c, hq c])
        refine Ex_wx [199, 216] 9 oX9_along hw ?_
        refine And.intro (fun c0 => ?_) (fun c0 => ?_)
        · exact hlog (fun c => by rw [svL c, if_neg (fun q => absurd (c0.symm.trans q.1) (by decide))])
        · have o1 : oe = 1 := hoe.resolve_left c0
          refine Ex_wx [] 9 oX9_along hw ?_
          refine Ex_v (As := [vI 1]) (st := []) (d' := 1) vX9_234 rfl rfl (r_isOutside hw (l := 1) rfl (by omega) (by omega)) h0 (by omega) rfl (dc_ok oX9_along rfl) ?_
          rw [p5]
          refine Ex_wx [207, 216] 9 oX9_along hw ?_
          refine And.intro (fun c1 => ?_) (fun c1 => ?_)
          · have := bI_eq c1
            exact hlog (fun c => by rw [svL c, if_neg (fun q => absurd (this.symm.trans q.2) (by decide))])
          · have := bI_ne c1
            refine Ex_wx [223] 9 oX9_along hw ?_
            refine And.intro vh ?_
            refine Ex_bn 1 oX9_along hw ?_
            rw [ch]
            exact fin st _ hst1 (fun c => by rw [svL c, if_pos ⟨o1, this⟩]; exact hF1.2.2.2.2.1 c)
      have hstate : ((flF p).1 = true → (sv r).2.2.1 = r.2.2.1) → Ex mX9_along 5 0 0 (rQ g L Run) 186 [some (vS 328), some (vI (nI h)), some (vI (nI t)), some (vI oe), some (vI (nI (100 * h))), some (vI (nI (100 * h + j))), w6, w7] [] g J L := by
        intro hq
        refine Ex_bn 5 oX9_along hw ?_
        refine And.intro vv ?_
        show Ex mX9_along 5 0 0 (rQ g L Run) 195 [some (vS 328), some (vI (nI h)), some (vI (nI t)), some (vI oe), some (vI (nI (100 * h))), some (vI (nI (100 * h + j))), some (vI (J 352 (nI (100 * h + j)).toNatClampNeg)), w7] [] g J L
        rw [cc]
        exact h195 _ (fun c => by rw [j352 c, hq c])
      refine Ex_wx [169, 186] 9 oX9_along hw ?_
      refine And.intro (fun c0 => ?_) (fun c0 => ?_)
      · exact hstate (fun c => by rw [svS c, if_neg (fun q => absurd (c0.symm.trans q.1) (by decide))])
      · have o1 : oe = 1 := hoe.resolve_left c0
        refine Ex_wx [] 9 oX9_along hw ?_
        refine Ex_v (As := [vI 0]) (st := []) (d' := 1) vX9_234 rfl rfl (r_isOutside hw (l := 0) rfl (by omega) (by omega)) h0 (by omega) rfl (dc_ok oX9_along rfl) ?_
        rw [p5]
        refine Ex_wx [177, 186] 9 oX9_along hw ?_
        refine And.intro (fun c1 => ?_) (fun c1 => ?_)
        · have := bI_eq c1
          exact hstate (fun c => by rw [svS c, if_neg (fun q => absurd (this.symm.trans q.2) (by decide))])
        · have := bI_ne c1
          refine Ex_wx [193] 9 oX9_along hw ?_
          refine And.intro vh ?_
          refine Ex_bn 1 oX9_along hw ?_
          rw [ch]
          exact h195 _ (fun c => by rw [svS c, if_pos ⟨o1, this⟩]; exact hF1.2.2.1 c)
    · -- it stays as it is
      have hsr : sv r = r := sv4 hr01 cm
      have hsf : stepF (flF p) (ev (flF p) B lim f (B t).2.2.2.2.2) oe (B t).2.2.2.1 env (sv r) e1 = (0, [r], e1) := by
        rw [hsr, stepF_oth cm]
      refine Ex_wx [] 9 oX9_along hw ?_
      refine And.intro vv (And.intro vv (And.intro vv (And.intro vv ?_)))
      rw [cc]
      refine Ex_v (As := [vI (nI h), vI (J 350 (100 * h + j)), vI (J 351 (100 * h + j)), vI (J 352 (100 * h + j)), vI (J 353 (100 * h + j))]) (st := []) (d' := 1) vX9_203 rfl rfl (r_tell hw (by omega) m22 hacc (by rw [j2]; exact hr01) (by omega)) h0 (by omega) rfl (dc_ok oX9_along rfl) ?_
      refine Ex_wx [109] 9 oX9_along hw ?_
      by_cases hfull : acc.length = 50
      · rw [if_pos hfull]
        rw [each_many (by rw [hsf]) (by rw [hsf, List.length_append, hfull]; exact Nat.lt_succ_self 50), hsf] at K
        have hO7 : OutS (flF p) (up2 J 328 33 1) := hS1.out up2_s (fun i k c => up2_n (by omega)) hl hE hlim
        have hfin : rQ g L Run (.inl none) g (up2 J 328 33 1) L := by
          refine ⟨rfl, rfl, rfl, K.2.2 rfl _ hO7 ?_⟩
          intro i k c
          unfold kp at c
          rw [up2_n (by omega)]
          exact bl1 i k (by unfold kp; omega)
        refine Ex_wx [126, 290] 9 oX9_along hw ?_
        refine And.intro vh (And.intro v2 ?_)
        have h290 : ∀ w5, Ex mX9_along 5 0 0 (rQ g L Run) 290 [some (vS 328), some (vI (nI h)), some (vI (nI t)), some (vI oe), some (vI (nI (100 * h))), w5, w6, w7] [] g (up2 J 328 33 1) L := by
          intro w5
          refine Ex_wx [] 9 oX9_along hw ?_
          exact And.intro (fun c => absurd c (by rw [up2_s]; decide)) (fun _ => hfin)
        refine And.intro (fun _ => h290 _) (fun _ => ?_)
        refine Ex_wx [290] 9 oX9_along hw ?_
        exact And.intro (fun c => absurd c (by rw [up2_s]; decide)) (fun _ => h290 _)
      · rw [if_neg hfull]
        have hlt : acc.length < 50 := by omega
        rw [each_go (by rw [hsf]) (by rw [hsf, List.length_append]; simp only [List.length_singleton]; omega), hsf] at K
        have hAt : At J (tellI J h acc.length (J 350 (100 * h + j)) (J 351 (100 * h + j)) (J 352 (100 * h + j)) (J 353 (100 * h + j))) h := cb_at (tell_cb hlt)
        have htc := fun i k => tell_cb (I := J) (h := h) (er := J 350 (100 * h + j)) (v := J 351 (100 * h + j)) (st := J 352 (100 * h + j)) (lg := J 353 (100 * h + j)) hlt i k
        refine ihr (j + 1) (acc ++ [r]) e1 _ _ _ _ hd2 (by omega) (hS1.at hAt) hE hl hus (hF1.at hAt) ?_ ?_ ?_ ?_ ?_ ?_ ?_ ?_ hrl (hT1.bl hAt.bl) (bl1.trans hAt.bl) K
        · rw [htc _ _ (by unfold cb; omega)]; exact p2
        · rw [htc _ _ (by unfold cb; omega)]; exact at1
        · rw [htc _ _ (by unfold cb; omega)]; exact m12
        · exact r12.eq (fun i k h1 h2 h3 h4 => htc i k (by unfold cb; omega))
        · rw [tell_many, List.length_append, List.length_singleton]
        · rw [j1, j2]
          exact tell_rows r22 rfl (fun c => by rw [oth _ _ (by omega)]; exact q3 c) (fun c => by rw [oth _ _ (by omega)]; exact q4 c)
        · rw [List.length_append, List.length_singleton]; omega
        · exact errR_app hae (fun x hx => by rw [List.mem_singleton.mp hx]; exact hr01)
end Along
