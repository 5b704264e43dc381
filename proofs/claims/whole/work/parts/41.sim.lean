/-! the reference's run against the evaluator: what is to be shown -/
def kR (k : Nat) : Nat := if k = 0 then 0 else if k ≤ 13 then k + 1 else 1
def TrT (I : aI) (b : Nat × Int32 × Int32 × Int32 × Nat × Nat) (t : Nat) : Prop :=
  I 329 t = nI (kR b.1) ∧
  (b.1 ≤ 5 → I 330 t = b.2.2.1 ∧ I 333 t = b.2.1 ∧ (b.2.1 = 0 ∨ (b.2.1 = 1 ∧ ∃ j, j < 8 ∧ b.2.2.1 = nI j))) ∧
  (14 ≤ b.1 → b.2.1 = 1 ∧ I 333 t = 0 ∧ I 332 t = nI (b.1 - 14) ∧ I 330 t = b.2.2.1 ∧ I 331 t = b.2.2.2.1 ∧ (∃ j, j < 8 ∧ b.2.2.1 = nI j) ∧ ∃ j, j < 8 ∧ b.2.2.2.1 = nI j) ∧
  (6 ≤ b.1 → b.1 ≤ 13 → I 330 t = nI b.2.2.2.2.1) ∧
  (6 ≤ b.1 → b.1 ≤ 9 → I 331 t = nI b.2.2.2.2.2) ∧
  (7 ≤ b.1 → b.1 ≤ 9 → I 332 t = b.2.2.2.1 ∧ ∃ j, j < 8 ∧ b.2.2.2.1 = nI j) ∧
  (b.1 = 10 → I 331 t = b.2.2.1 ∧ I 333 t = b.2.1 ∧ (b.2.1 = 0 ∨ (b.2.1 = 1 ∧ ∃ j, j < 8 ∧ b.2.2.1 = nI j)))
def Tr (I : aI) (p : Nat → Int32) (B : mB) (cnt : Nat) : Prop := I 336 = p ∧ ∀ t, t < cnt → TrT I (B t) t
theorem Tr.bl {I I' : aI} {p : Nat → Int32} {B : mB} {cnt h : Nat} (q : Tr I p B cnt) (a : Bl I I' h) : Tr I' p B cnt := by
  have e0 : I' 336 = I 336 := a.id (by omega)
  have e1 : I' 329 = I 329 := a.id (by omega)
  have e2 : I' 330 = I 330 := a.id (by omega)
  have e3 : I' 331 = I 331 := a.id (by omega)
  have e4 : I' 332 = I 332 := a.id (by omega)
  have e5 : I' 333 = I 333 := a.id (by omega)
  refine ⟨e0.trans q.1, fun t ht => ?_⟩
  have h9 := q.2 t ht
  unfold TrT at h9 ⊢
  rw [e1, e2, e3, e4, e5]
  exact h9
def Bw (B : mB) (hg : Nat → Nat) (cnt : Nat) : Prop := ∀ t, t < cnt → (B t).1 ≤ 18 ∧ 1 ≤ hg t ∧ (6 ≤ (B t).1 → (B t).1 ≤ 13 → (B t).2.2.2.2.1 < cnt ∧ hg (B t).2.2.2.2.1 < hg t) ∧ (6 ≤ (B t).1 → (B t).1 ≤ 9 → (B t).2.2.2.2.2 < cnt ∧ hg (B t).2.2.2.2.2 < hg t)
def okB (p : Nat → Int32) (B : mB) (cnt : Nat) (okT : Nat → Prop) : Prop := ∀ t, t < cnt → okT t → ((B t).1 = 4 ∨ (B t).1 = 8 → hsF p 2 = true) ∧ ((B t).1 = 13 → hsF p 1 = true) ∧ (6 ≤ (B t).1 → (B t).1 ≤ 13 → okT (B t).2.2.2.2.1) ∧ (6 ≤ (B t).1 → (B t).1 ≤ 9 → okT (B t).2.2.2.2.2)
def Wd (lx ly : Nat) (g : aG) (p : Nat → Int32) (B : mB) (hg : Nat → Nat) (cnt lim : Nat) (okT : Nat → Prop) : Prop := WS lx ly g ∧ lim ≤ 2000 ∧ cnt ≤ 80 ∧ Bw B hg cnt ∧ okB p B cnt okT
def stepR (g : aG) (L : aL) (Run : aI → Prop) : Prop := ∀ (I : aI) (hi : Nat), I 328 14 = nI (hi + 1) → hi < 31 → I 328 33 = 0 → Mx mX9_go 6 0 0 [vS 328] g I L (rQ g L Run) → Run I
def UR (g : aG) (L : aL) (Run : aI → Prop) (I : aI) (v : Int32) : Prop := Ex mX9_unwind 4 0 0 (rQ g L Run) 10 [some (vS 328), some (vI v), none] [] g I L
def Cont (g : aG) (L : aL) (F : mF) (lim : Nat) (Run : aI → Prop) (q : mO) (I : aI) (h : Nat) : Prop :=
  (q.1 = 0 → ∀ I', Sr F I' lim q.2.2 h → I' 349 (2 * h + 1) = nI q.2.1.length → Rr F I' (100 * h + 50) q.2.1 → Bl I I' h → Run I') ∧
  (q.1 = 1 → ∀ I', Sr F I' lim q.2.2 h → Bl I I' h → UR g L Run I' (mE.en q.2.2)) ∧
  (q.1 = 2 → ∀ I', OutS F I' → Bl I I' 0 → Run I')
theorem Cont.bl {g : aG} {L : aL} {F : mF} {lim : Nat} {Run : aI → Prop} {q : mO} {I I1 : aI} {h : Nat} (c : Cont g L F lim Run q I h) (b : Bl I I1 h) : Cont g L F lim Run q I1 h :=
  ⟨fun q0 I' a1 a2 a3 a4 => c.1 q0 I' a1 a2 a3 (b.trans a4), fun q0 I' a1 a2 => c.2.1 q0 I' a1 (b.trans a2), fun q0 I' a1 a2 => c.2.2 q0 I' a1 ((b.mono (Nat.zero_le _)).trans a2)⟩
def Pd (F : mF) (lim : Nat) (e : mE) (h t : Nat) (env : Nat → Int32) (I : aI) : Prop := (lim ≤ mE.sp e ∧ OutS F I) ∨ (mE.sp e < lim ∧ Sr F I lim ((mE.sp e + 1, e.2) : mE) (h + 1) ∧ Fresh F I h t env (mE.s e) (mE.l e))
def simC (g : aG) (L : aL) (p : Nat → Int32) (B : mB) (hg : Nat → Nat) (cnt lim : Nat) (okT : Nat → Prop) (Run : aI → Prop) (f : Nat) : Prop := ∀ (t h : Nat) (env : Nat → Int32) (e : mE) (I : aI), t < cnt → hg t ≤ f → okT t → h + hg t ≤ 30 → invE lim e → invL e → Tr I p B cnt → Pd (flF p) lim e h t env I → Cont g L (flF p) lim Run (ev (flF p) B lim f t env e) I h → Run I
theorem invE.us {lim : Nat} {e : mE} (h : invE lim e) (hl : lim ≤ 2000) : mE.us e ≤ 2001 := by
  have h1 := h.2.1
  have h2 := h.2.2
  omega
theorem Sr.out {F : mF} {I I' : aI} {lim hi : Nat} {e : mE} (h : Sr F I lim e hi) (h1 : I' 328 33 = 1) (a : ∀ i k, (i = 328 ∧ (k = 10 ∨ k = 29 ∨ k = 30)) ∨ (337 ≤ i ∧ i ≤ 339) → I' i k = I i k) (hl : invL e) (hE : invE lim e) (hlim : lim ≤ 2000) : OutS F I' := ⟨h1, e, hl, hE.1, hE.us hlim, h.2.eq a⟩
theorem PushP.pd {F : mF} {I I' : aI} {lim hi t : Nat} {e : mE} {env : Nat → Int32} (h : PushP F I lim e hi t env I') (hS : Sr F I lim e hi) (hl : invL e) (hE : invE lim e) (hlim : lim ≤ 2000) : Pd F lim e hi t env I' ∧ Bl I I' hi := by
  rcases h with ⟨h1, h2, h3⟩ | ⟨h1, h2, h3, h4⟩
  · exact ⟨Or.inl ⟨h1, hS.out h2 (fun i k c => h3 i k (by omega)) hl hE hlim⟩, fun i k c => h3 i k (by unfold kp at c; omega)⟩
  · exact ⟨Or.inr ⟨h1, h2, h3⟩, h4⟩
theorem Sr.own_s {F : mF} {I : aI} {lim hi : Nat} {e : mE} {x : Int32} (c : F.1 = true) (h : Sr F I lim e hi) : Sr F I lim (setSL e x (mE.l e)) hi := ⟨h.1, h.2.1, h.2.2.1, h.2.2.2.1, fun q => (by rw [c] at q; cases q), h.2.2.2.2.2⟩
theorem Sr.put_s {F : mF} {I : aI} {lim hi : Nat} {e : mE} {x : Int32} (h : Sr F I lim e hi) : Sr F (up2 I 328 29 x) lim (setSL e x (mE.l e)) hi := by
  obtain ⟨⟨h1, h2, h3, h4, h5, h6⟩, l1, ⟨l2, l3, l4⟩, l5, l6, l7⟩ := h
  refine ⟨⟨?_, ?_, ?_, ?_, ?_, ?_⟩, ?_, ⟨?_, ?_, ?_⟩, fun k k1 k2 => ?_, fun _ => up2_s, fun c => ?_⟩
  · rw [up2_k (by omega)]; exact h1
  · rw [up2_k (by omega)]; exact h2
  · rw [up2_k (by omega)]; exact h3
  · rw [up2_k (by omega)]; exact h4
  · rw [up2_k (by omega)]; exact h5
  · rw [up2_k (by omega)]; exact h6
  · rw [up2_k (by omega)]; exact l1
  · rw [up2_i (by omega)]; exact l2
  · rw [up2_i (by omega)]; exact l3
  · rw [up2_i (by omega)]; exact l4
  · rw [up2_i (by omega), up2_i (by omega), up2_i (by omega)]; exact l5 k k1 k2
  · rw [up2_k (by omega)]; exact l7 c
theorem long_else {I : aI} {us i k : Nat} {lg v n : Int32} (h : ¬ (i = 328 ∧ k = 10) ∧ ¬ (337 ≤ i ∧ i ≤ 339 ∧ k = us)) : longI I us lg v n i k = I i k := by
  unfold longI
  rw [up2_n (by omega), up2_n (by omega), up2_n (by omega), up2_n (by omega)]
theorem Sr.say {F : mF} {I : aI} {lim hi : Nat} {e : mE} {x : Int32} (h : Sr F I lim e hi) (hu : 1 ≤ mE.us e) (c : F.2.1 = true) : Sr F (longI I (mE.us e) (mE.l e) x (lenF e (mE.l e) + 1)) lim (sayF e x) hi := by
  obtain ⟨⟨h1, h2, h3, h4, h5, h6⟩, l1, ⟨l2, l3, l4⟩, l5, l6, l7⟩ := h
  refine ⟨⟨?_, ?_, ?_, ?_, ?_, ?_⟩, ?_, ⟨?_, ?_, ?_⟩, fun k k1 k2 => ?_, fun c => ?_, fun q => (by rw [c] at q; cases q)⟩
  · rw [long_else (by omega)]; exact h1
  · rw [long_else (by omega)]; exact h2
  · rw [long_else (by omega)]; exact h3
  · rw [long_else (by omega)]; exact h4
  · rw [long_else (by omega)]; exact h5
  · rw [long_else (by omega)]; exact h6
  · show longI I (mE.us e) (mE.l e) x (lenF e (mE.l e) + 1) 328 10 = nI (mE.us e + 1 - 1)
    rw [Nat.add_sub_cancel]
    unfold longI
    rw [up2_i (by omega), up2_i (by omega), up2_i (by omega)]; exact up2_s
  · rw [long_else (by omega)]; exact l2
  · rw [long_else (by omega)]; exact l3
  · rw [long_else (by omega)]; exact l4
  · have k3 : k < mE.us e + 1 := k2
    show _ = up1 (mE.nu e) (mE.us e) x k ∧ _ = up1 (mE.be e) (mE.us e) (mE.l e) k ∧ _ = up1 (mE.le e) (mE.us e) (lenF e (mE.l e) + 1) k
    unfold up1
    by_cases hk : k = mE.us e
    · subst hk
      rw [if_pos rfl, if_pos rfl, if_pos rfl]
      unfold longI
      refine ⟨?_, ?_, up2_s⟩
      · rw [up2_i (by omega)]; exact up2_s
      · rw [up2_i (by omega), up2_i (by omega)]; exact up2_s
    · rw [if_neg hk, if_neg hk, if_neg hk, long_else (by omega), long_else (by omega), long_else (by omega)]
      exact l5 k k1 (by omega)
  · rw [long_else (by omega)]; exact l6 c
theorem Sr.sayS {F : mF} {I : aI} {lim hi : Nat} {e : mE} {x : Int32} (h : Sr F I lim e hi) (hu : 1 ≤ mE.us e) : Sr F (up2 (longI I (mE.us e) (mE.l e) x (lenF e (mE.l e) + 1)) 328 30 (nI (mE.us e))) lim (sayF e x) hi := by
  have h9 := Sr.say (F := (F.1, true, F.2.2)) (x := x) (I := I) (lim := lim) (hi := hi) (e := e) ⟨h.1, h.2.1, h.2.2.1, h.2.2.2.1, h.2.2.2.2.1, fun q => by cases q⟩ hu rfl
  obtain ⟨⟨h1, h2, h3, h4, h5, h6⟩, l1, ⟨l2, l3, l4⟩, l5, l6, l7⟩ := h9
  refine ⟨⟨?_, ?_, ?_, ?_, ?_, ?_⟩, ?_, ⟨?_, ?_, ?_⟩, fun k k1 k2 => ?_, fun c => ?_, fun _ => up2_s⟩
  · rw [up2_k (by omega)]; exact h1
  · rw [up2_k (by omega)]; exact h2
  · rw [up2_k (by omega)]; exact h3
  · rw [up2_k (by omega)]; exact h4
  · rw [up2_k (by omega)]; exact h5
  · rw [up2_k (by omega)]; exact h6
  · rw [up2_k (by omega)]; exact l1
  · rw [up2_i (by omega)]; exact l2
  · rw [up2_i (by omega)]; exact l3
  · rw [up2_i (by omega)]; exact l4
  · rw [up2_i (by omega), up2_i (by omega), up2_i (by omega)]; exact l5 k k1 k2
  · rw [up2_k (by omega)]; exact l6 c
theorem Sr.high {F : mF} {I : aI} {lim hi hi' : Nat} {e : mE} (h : Sr F I lim e hi) : Sr F (up2 I 328 14 (nI hi')) lim e hi' := by
  obtain ⟨⟨h1, h2, h3, h4, h5, h6⟩, l⟩ := h
  refine ⟨⟨up2_s, ?_, ?_, ?_, ?_, ?_⟩, l.eq (fun i k c => up2_n (by omega))⟩
  · rw [up2_k (by omega)]; exact h2
  · rw [up2_k (by omega)]; exact h3
  · rw [up2_k (by omega)]; exact h4
  · rw [up2_k (by omega)]; exact h5
  · rw [up2_k (by omega)]; exact h6
theorem high_bl {I : aI} {h : Nat} {x : Int32} : Bl I (up2 I 328 14 x) h := fun i k c => up2_n (by unfold kp at c; omega)
theorem Ex_r {M N : aM} {d d' : Nat} {Q : aQ} {pc idx n ci i : Nat} {own : String} {lo : List (Option aV)} {st As : List aV} {g : aG} {I : aI} {L : aL} {P : aI → Prop} (ok : vOk own N idx n ci) (ho : M.y.cls = own) (hn : As.length = n) (hM : Mx N d' 0 0 (vS i :: As) g I L (rQ g L P)) (hi : g.2.1 i = some (.inl ci)) (hd' : d' + 1 ≤ d) (hst : Nat.ble (catL st) 8 = true) (hd : decode M.cc pc = .ok (.invokevirtual idx, 3))
    (kk : ∀ I1, P I1 → Ex M d 0 0 Q (pc + 3) lo st g I1 L) : Ex M d 0 0 Q pc lo (As.reverse ++ vS i :: st) g I L := by
  refine Ex_cV (kc := 0) (ks := 0) (kc' := 0) (ks' := 0) ok ho hn hi hM hd' hst hd ?_ (fun E g' I' L' hq => absurd hq rQ_no)
  rintro w g' I1 L' ⟨h1, rfl, rfl, hP⟩
  cases h1
  exact kk I1 hP
section Go
variable {lx ly : Nat} {g : aG} {I : aI} {L : aL} {h t k : Nat} {P : aI → Prop}
theorem r_goH (hw : WS lx ly g) (h14 : I 328 14 = nI (h + 1)) (hh : h < 32) (ht : I 340 h = nI t) (K : Ex mX9_go 6 0 0 (rQ g L P) 14 [some (vS 328), some (vI (nI h)), some (vI (nI t))] [] g I L) : Mx mX9_go 6 0 0 [vS 328] g I L (rQ g L P) := by
  have e1 : I 328 14 - 1 = nI h := by rw [h14, nI_pred]
  refine Mx_in (by decide +kernel) rfl rfl (Ex_bn 5 oX9_go hw ?_)
  show Ex mX9_go 6 0 0 _ 7 [some (vS 328), some (vI (I 328 14 - 1)), none] [] g I L
  rw [e1]
  refine Ex_bn 5 oX9_go hw ?_
  refine And.intro (inN hh (by omega)) ?_
  show Ex mX9_go 6 0 0 _ 14 [some (vS 328), some (vI (nI h)), some (vI (I 340 (nI h).toNatClampNeg))] [] g I L
  rw [clN (by omega), ht]
  exact K
theorem r_go_leaf (hw : WS lx ly g) (h14 : I 328 14 = nI (h + 1)) (hh : h < 32) (ht : I 340 h = nI t) (h80 : t < 80) (hk : I 329 t = nI k) (hk6 : k ≤ 6) (hM : Mx mX9_leaf 5 0 0 [vS 328, vI (nI h)] g I L (rQ g L P)) : Mx mX9_go 6 0 0 [vS 328] g I L (rQ g L P) := by
  have h0 := (hw 328 _ rfl).2.1
  have hk2 : I 329 (nI t).toNatClampNeg = nI k := by rw [clN (by omega)]; exact hk
  have hv : vp_in (nI t) 80 := inN h80 (by omega)
  refine r_goH hw h14 hh ht (Ex_wx [33] 9 oX9_go hw ?_)
  refine And.intro hv ?_
  refine And.intro (fun c => absurd (ltN (a := 6) (hk2 ▸ c) (by omega) (by omega)) (by omega)) (fun _ => ?_)
  refine Ex_r (As := [vI (nI h)]) (st := []) vX9_241 rfl rfl hM h0 (by omega) rfl (dc_ok oX9_go rfl) ?_
  intro I1 hP
  refine Ex_wx [] 9 oX9_go hw ?_
  exact ⟨rfl, rfl, rfl, hP⟩
theorem r_go_either (hw : WS lx ly g) (h14 : I 328 14 = nI (h + 1)) (hh : h < 32) (ht : I 340 h = nI t) (h80 : t < 80) (hk : I 329 t = nI 7) (hM : Mx mX9_either_ 5 0 0 [vS 328, vI (nI h)] g I L (rQ g L P)) : Mx mX9_go 6 0 0 [vS 328] g I L (rQ g L P) := by
  have h0 := (hw 328 _ rfl).2.1
  have hk2 : I 329 (nI t).toNatClampNeg = nI 7 := by rw [clN (by omega)]; exact hk
  have hv : vp_in (nI t) 80 := inN h80 (by omega)
  refine r_goH hw h14 hh ht (Ex_wx [] 9 oX9_go hw ?_)
  refine And.intro hv ?_
  refine And.intro (fun _ => ?_) (fun c => absurd (by rw [hk2]; decide) c)
  refine And.intro hv ?_
  refine And.intro (fun _ => ?_) (fun c => absurd hk2 c)
  refine Ex_r (As := [vI (nI h)]) (st := []) vX9_244 rfl rfl hM h0 (by omega) rfl (dc_ok oX9_go rfl) ?_
  intro I1 hP
  refine Ex_wx [] 9 oX9_go hw ?_
  exact ⟨rfl, rfl, rfl, hP⟩
theorem r_go_along (hw : WS lx ly g) (h14 : I 328 14 = nI (h + 1)) (hh : h < 32) (ht : I 340 h = nI t) (h80 : t < 80) (hk : I 329 t = nI k) (hk6 : k = 8 ∨ k = 9) (hM : Mx mX9_along 5 0 0 [vS 328, vI (nI h)] g I L (rQ g L P)) : Mx mX9_go 6 0 0 [vS 328] g I L (rQ g L P) := by
  have h0 := (hw 328 _ rfl).2.1
  have hk2 : I 329 (nI t).toNatClampNeg = nI k := by rw [clN (by omega)]; exact hk
  have hv : vp_in (nI t) 80 := inN h80 (by omega)
  have fin : Ex mX9_go 6 0 0 (rQ g L P) 74 [some (vS 328), some (vI (nI h)), some (vI (nI t))] [] g I L := by
    refine Ex_wx [] 9 oX9_go hw ?_
    refine Ex_r (As := [vI (nI h)]) (st := []) vX9_247 rfl rfl hM h0 (by omega) rfl (dc_ok oX9_go rfl) ?_
    intro I1 hP
    refine Ex_wx [] 9 oX9_go hw ?_
    exact ⟨rfl, rfl, rfl, hP⟩
  refine r_goH hw h14 hh ht (Ex_wx [74] 9 oX9_go hw ?_)
  refine And.intro hv ?_
  refine And.intro (fun _ => ?_) (fun c => absurd (by rw [hk2]; rcases hk6 with rfl | rfl <;> decide) c)
  refine And.intro hv ?_
  refine And.intro (fun c => absurd (hk2 ▸ c) (by rcases hk6 with rfl | rfl <;> decide)) (fun _ => ?_)
  refine And.intro hv ?_
  rcases hk6 with rfl | rfl
  · exact And.intro (fun _ => fin) (fun c => absurd hk2 c)
  · refine And.intro (fun _ => fin) (fun _ => ?_)
    refine And.intro hv ?_
    exact And.intro (fun _ => fin) (fun c => absurd hk2 c)
theorem r_go_choose (hw : WS lx ly g) (h14 : I 328 14 = nI (h + 1)) (hh : h < 32) (ht : I 340 h = nI t) (h80 : t < 80) (hk : I 329 t = nI 10) (hM : Mx mX9_choose 5 0 0 [vS 328, vI (nI h)] g I L (rQ g L P)) : Mx mX9_go 6 0 0 [vS 328] g I L (rQ g L P) := by
  have h0 := (hw 328 _ rfl).2.1
  have hk2 : I 329 (nI t).toNatClampNeg = nI 10 := by rw [clN (by omega)]; exact hk
  have hv : vp_in (nI t) 80 := inN h80 (by omega)
  refine r_goH hw h14 hh ht (Ex_wx [74] 9 oX9_go hw ?_)
  refine And.intro hv ?_
  refine And.intro (fun _ => ?_) (fun c => absurd (by rw [hk2]; decide) c)
  refine And.intro hv ?_
  refine And.intro (fun c => absurd (hk2 ▸ c) (by decide)) (fun _ => ?_)
  refine And.intro hv ?_
  refine And.intro (fun c => absurd (hk2 ▸ c) (by decide)) (fun _ => ?_)
  refine And.intro hv ?_
  refine And.intro (fun c => absurd (hk2 ▸ c) (by decide)) (fun _ => ?_)
  refine And.intro hv ?_
  refine And.intro (fun _ => ?_) (fun c => absurd hk2 c)
  refine Ex_r (As := [vI (nI h)]) (st := []) vX9_250 rfl rfl hM h0 (by omega) rfl (dc_ok oX9_go rfl) ?_
  intro I1 hP
  refine Ex_wx [] 9 oX9_go hw ?_
  exact ⟨rfl, rfl, rfl, hP⟩
theorem r_go_again (hw : WS lx ly g) (h14 : I 328 14 = nI (h + 1)) (hh : h < 32) (ht : I 340 h = nI t) (h80 : t < 80) (hk : I 329 t = nI 11) (hM : Mx mX9_again 5 0 0 [vS 328, vI (nI h)] g I L (rQ g L P)) : Mx mX9_go 6 0 0 [vS 328] g I L (rQ g L P) := by
  have h0 := (hw 328 _ rfl).2.1
  have hk2 : I 329 (nI t).toNatClampNeg = nI 11 := by rw [clN (by omega)]; exact hk
  have hv : vp_in (nI t) 80 := inN h80 (by omega)
  refine r_goH hw h14 hh ht (Ex_wx [74] 9 oX9_go hw ?_)
  refine And.intro hv ?_
  refine And.intro (fun _ => ?_) (fun c => absurd (by rw [hk2]; decide) c)
  refine And.intro hv ?_
  refine And.intro (fun c => absurd (hk2 ▸ c) (by decide)) (fun _ => ?_)
  refine And.intro hv ?_
  refine And.intro (fun c => absurd (hk2 ▸ c) (by decide)) (fun _ => ?_)
  refine And.intro hv ?_
  refine And.intro (fun c => absurd (hk2 ▸ c) (by decide)) (fun _ => ?_)
  refine And.intro hv ?_
  refine And.intro (fun c => absurd (hk2 ▸ c) (by decide)) (fun _ => ?_)
  refine And.intro hv ?_
  refine And.intro (fun _ => ?_) (fun c => absurd hk2 c)
  refine Ex_r (As := [vI (nI h)]) (st := []) vX9_253 rfl rfl hM h0 (by omega) rfl (dc_ok oX9_go rfl) ?_
  intro I1 hP
  refine Ex_wx [] 9 oX9_go hw ?_
  exact ⟨rfl, rfl, rfl, hP⟩
theorem r_go_within (hw : WS lx ly g) (h14 : I 328 14 = nI (h + 1)) (hh : h < 32) (ht : I 340 h = nI t) (h80 : t < 80) (hk : I 329 t = nI k) (hk6 : k = 12 ∨ k = 13 ∨ k = 14) (hM : Mx mX9_within 5 0 0 [vS 328, vI (nI h)] g I L (rQ g L P)) : Mx mX9_go 6 0 0 [vS 328] g I L (rQ g L P) := by
  have h0 := (hw 328 _ rfl).2.1
  have hk2 : I 329 (nI t).toNatClampNeg = nI k := by rw [clN (by omega)]; exact hk
  have hv : vp_in (nI t) 80 := inN h80 (by omega)
  refine r_goH hw h14 hh ht (Ex_wx [74] 9 oX9_go hw ?_)
  refine And.intro hv ?_
  refine And.intro (fun _ => ?_) (fun c => absurd (by rw [hk2]; rcases hk6 with rfl | rfl | rfl <;> decide) c)
  refine And.intro hv ?_
  refine And.intro (fun c => absurd (hk2 ▸ c) (by rcases hk6 with rfl | rfl | rfl <;> decide)) (fun _ => ?_)
  refine And.intro hv ?_
  refine And.intro (fun c => absurd (hk2 ▸ c) (by rcases hk6 with rfl | rfl | rfl <;> decide)) (fun _ => ?_)
  refine And.intro hv ?_
  refine And.intro (fun c => absurd (hk2 ▸ c) (by rcases hk6 with rfl | rfl | rfl <;> decide)) (fun _ => ?_)
  refine And.intro hv ?_
  refine And.intro (fun c => absurd (hk2 ▸ c) (by rcases hk6 with rfl | rfl | rfl <;> decide)) (fun _ => ?_)
  refine And.intro hv ?_
  refine And.intro (fun c => absurd (hk2 ▸ c) (by rcases hk6 with rfl | rfl | rfl <;> decide)) (fun _ => ?_)
  refine Ex_r (As := [vI (nI h)]) (st := []) vX9_256 rfl rfl hM h0 (by omega) rfl (dc_ok oX9_go rfl) ?_
  intro I1 hP
  refine Ex_wx [] 9 oX9_go hw ?_
  exact ⟨rfl, rfl, rfl, hP⟩
end Go
