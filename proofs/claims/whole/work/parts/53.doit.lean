/-! the reference: doIt -/
def kq (i k : Nat) : Prop := (i ≠ 328 ∧ (i < 337 ∨ 353 < i)) ∨ (i = 328 ∧ (k < 10 ∨ 35 < k))
def DoP (F : mF) (lim : Nat) (q : mO) (I I' : aI) : Prop := (∀ i k, kq i k → I' i k = I i k) ∧
  ((q.1 = 0 ∧ Sr F I' lim q.2.2 0 ∧ I' 349 1 = nI q.2.1.length ∧ Rr F I' 50 q.2.1) ∨ (q.1 = 1 ∧ I' 328 33 = 0 ∧ I' 328 34 = 1 ∧ I' 328 35 = mE.en q.2.2 ∧ I' 328 31 = nI (mE.sp q.2.2) ∧ Lr F I' q.2.2) ∨ (q.1 = 2 ∧ OutS F I'))
def e0F (nu be le : Nat → Int32) (s : Int32) : mE := (0, 1, nu, be, le, s, 0, 0)
theorem e0_invE {lim : Nat} {nu be le : Nat → Int32} {s : Int32} : invE lim (e0F nu be le s) := ⟨Nat.le_refl _, Nat.le_refl _, Nat.zero_le _⟩
theorem e0_invL {nu be le : Nat → Int32} {s : Int32} : invL (e0F nu be le s) := ⟨fun k h1 h2 => by
  have : k < 1 := h2
  omega, 0, Nat.lt_succ_self 0, rfl⟩
section DoIt
variable {lx ly : Nat} {g : aG} {I : aI} {L : aL} {p : Nat → Int32} {B : mB} {hg : Nat → Nat} {cnt lim t f : Nat} {okT : Nat → Prop} {s : Int32} {nu be le : Nat → Int32}
theorem r_doIt (hW : Wd lx ly g p B hg cnt lim okT) (ht : t < cnt) (ho : okT t) (hf : hg t ≤ f) (hd : hg t ≤ 30) (hT : Tr I p B cnt) (hz : I 337 0 = 0 ∧ I 338 0 = 0 ∧ I 339 0 = 0) :
    Mx mX9_doIt 7 0 0 [vS 328, vI (nI t), vI s, vI (nI lim)] g I L (rQ g L (DoP (flF p) lim (ev (flF p) B lim f t (fun _ => 0) (e0F nu be le s)) I)) := by
  have hw := hW.1
  have hlim := hW.2.1
  have h0 := (hw 328 _ rfl).2.1
  generalize hq : ev (flF p) B lim f t (fun _ => 0) (e0F nu be le s) = q
  -- going on
  have hst : stepR g L (fun I1 => Ex mX9_doIt 7 0 0 (rQ g L (DoP (flF p) lim q I)) 55 [some (vS 328), some (vI (nI t)), some (vI s), some (vI (nI lim))] [] g I1 L) := by
    intro I1 hi h14 hhi h33 hM
    refine Ex_wx [62] 9 oX9_doIt hw ?_
    refine And.intro (fun c => absurd (h14 ▸ c) (nI_nle (by omega) (by omega))) (fun _ => ?_)
    refine Ex_wx [] 9 oX9_doIt hw ?_
    refine And.intro (fun _ => ?_) (fun c => absurd h33 c)
    refine Ex_r (As := []) (st := []) vX9_271 rfl rfl hM h0 (by omega) rfl (dc_ok oX9_doIt rfl) ?_
    intro I2 hP
    refine Ex_wx [55] 9 oX9_doIt hw ?_
    exact hP
  have hsim := sim_all hst hW f
  refine Mx_in (by decide +kernel) rfl rfl (Ex_wx [] 9 oX9_doIt hw ?_)
  refine And.intro (Or.inl rfl) ?_
  refine And.intro (Or.inl rfl) ?_
  have hJ : Sr (flF p) (up2 (up2 (up2 (up2 (up2 (up2 (up2 (up2 (up2 I 328 14 0) 328 10 0) 328 31 0) 328 32 (nI lim)) 328 33 0) 328 34 0) 328 35 0) 328 29 s) 328 30 0) lim (e0F nu be le s) 0 := by
    refine ⟨⟨?_, ?_, ?_, ?_, ?_, ?_⟩, ?_, ⟨?_, ?_, ?_⟩, fun k h1 h2 => ?_, fun _ => ?_, fun _ => up2_s⟩
    · rw [up2_k (by omega), up2_k (by omega), up2_k (by omega), up2_k (by omega), up2_k (by omega), up2_k (by omega), up2_k (by omega), up2_k (by omega)]; exact up2_s
    · rw [up2_k (by omega), up2_k (by omega), up2_k (by omega), up2_k (by omega), up2_k (by omega), up2_k (by omega)]; exact up2_s
    · rw [up2_k (by omega), up2_k (by omega), up2_k (by omega), up2_k (by omega), up2_k (by omega)]; exact up2_s
    · rw [up2_k (by omega), up2_k (by omega), up2_k (by omega), up2_k (by omega)]; exact up2_s
    · rw [up2_k (by omega), up2_k (by omega), up2_k (by omega)]; exact up2_s
    · rw [up2_k (by omega), up2_k (by omega)]; exact up2_s
    · rw [up2_k (by omega), up2_k (by omega), up2_k (by omega), up2_k (by omega), up2_k (by omega), up2_k (by omega), up2_k (by omega)]; exact up2_s
    · rw [up2_i (by omega), up2_i (by omega), up2_i (by omega), up2_i (by omega), up2_i (by omega), up2_i (by omega), up2_i (by omega), up2_i (by omega), up2_i (by omega)]; exact hz.1
    · rw [up2_i (by omega), up2_i (by omega), up2_i (by omega), up2_i (by omega), up2_i (by omega), up2_i (by omega), up2_i (by omega), up2_i (by omega), up2_i (by omega)]; exact hz.2.1
    · rw [up2_i (by omega), up2_i (by omega), up2_i (by omega), up2_i (by omega), up2_i (by omega), up2_i (by omega), up2_i (by omega), up2_i (by omega), up2_i (by omega)]; exact hz.2.2
    · have : k < 1 := h2
      omega
    · rw [up2_k (by omega)]; exact up2_s
  have hJ2 : ∀ i k, kq i k → up2 (up2 (up2 (up2 (up2 (up2 (up2 (up2 (up2 I 328 14 0) 328 10 0) 328 31 0) 328 32 (nI lim)) 328 33 0) 328 34 0) 328 35 0) 328 29 s) 328 30 0 i k = I i k := by
    intro i k c
    unfold kq at c
    rw [up2_n (by omega), up2_n (by omega), up2_n (by omega), up2_n (by omega), up2_n (by omega), up2_n (by omega), up2_n (by omega), up2_n (by omega), up2_n (by omega)]
  have hX := r_push (L := L) (d := 0) (t := t) (fr := -1) (n := -1) (v := 0) (st := s) (lg := 0) (src := fun _ => 0) hw (by omega) hJ (Nat.zero_le _) hlim (Or.inl ⟨rfl, fun _ => rfl⟩) (Or.inl rfl) (fun _ => rfl) (fun _ => rfl)
  rw [upE_no] at hX
  refine Ex_r (As := [vI (nI t), vI (-1), vI (-1), vI 0, vI s, vI 0]) (st := []) vX9_237 rfl rfl hX h0 (by omega) rfl (dc_ok oX9_doIt rfl) ?_
  intro I2 hP
  have hTJ : Tr (up2 (up2 (up2 (up2 (up2 (up2 (up2 (up2 (up2 I 328 14 0) 328 10 0) 328 31 0) 328 32 (nI lim)) 328 33 0) 328 34 0) 328 35 0) 328 29 s) 328 30 0) p B cnt := by
    have ee : ∀ i, i ≠ 328 → up2 (up2 (up2 (up2 (up2 (up2 (up2 (up2 (up2 I 328 14 0) 328 10 0) 328 31 0) 328 32 (nI lim)) 328 33 0) 328 34 0) 328 35 0) 328 29 s) 328 30 0 i = I i := fun i hi => by
      funext k
      rw [up2_i hi, up2_i hi, up2_i hi, up2_i hi, up2_i hi, up2_i hi, up2_i hi, up2_i hi, up2_i hi]
    refine ⟨(ee 336 (by omega)).trans hT.1, fun t ht => ?_⟩
    have h9 := hT.2 t ht
    unfold TrT at h9 ⊢
    rw [ee 329 (by omega), ee 330 (by omega), ee 331 (by omega), ee 332 (by omega), ee 333 (by omega)]
    exact h9
  generalize up2 (up2 (up2 (up2 (up2 (up2 (up2 (up2 (up2 I 328 14 0) 328 10 0) 328 31 0) 328 32 (nI lim)) 328 33 0) 328 34 0) 328 35 0) 328 29 s) 328 30 0 = J at hJ hJ2 hP hTJ
  obtain ⟨hpd, hbl⟩ := hP.pd hJ e0_invL e0_invE hlim
  have keep : ∀ I', Bl I2 I' 0 → ∀ i k, kq i k → I' i k = I i k := fun I' hb i k c => by
    unfold kq at c
    rw [hb i k (by unfold kp; omega), hbl i k (by unfold kp; omega)]
    exact hJ2 i k (by unfold kq; omega)
  refine hsim t 0 (fun _ => 0) (e0F nu be le s) I2 ht hf ho (by omega) e0_invE e0_invL (hTJ.bl hbl) hpd ?_
  rw [hq]
  have hout : ∀ I', I' 328 33 = 1 → DoP (flF p) lim q I I' → Ex mX9_doIt 7 0 0 (rQ g L (DoP (flF p) lim q I)) 55 [some (vS 328), some (vI (nI t)), some (vI s), some (vI (nI lim))] [] g I' L := by
    intro I' o1 hD
    refine Ex_wx [62] 9 oX9_doIt hw ?_
    refine And.intro (fun _ => ⟨rfl, rfl, rfl, hD⟩) (fun _ => ?_)
    refine Ex_wx [] 9 oX9_doIt hw ?_
    exact And.intro (fun c => absurd (o1.symm.trans c) (by decide)) (fun _ => ⟨rfl, rfl, rfl, hD⟩)
  have hend : ∀ I', I' 328 14 = nI 0 → DoP (flF p) lim q I I' → Ex mX9_doIt 7 0 0 (rQ g L (DoP (flF p) lim q I)) 55 [some (vS 328), some (vI (nI t)), some (vI s), some (vI (nI lim))] [] g I' L := by
    intro I' o1 hD
    refine Ex_wx [62] 9 oX9_doIt hw ?_
    exact And.intro (fun _ => ⟨rfl, rfl, rfl, hD⟩) (fun c => absurd (by rw [o1]; decide) c)
  refine ⟨fun q0 I' a1 a2 a3 a4 => ?_, fun q1 I' a1 a2 => ?_, fun q2 I' a1 a2 => ?_⟩
  · exact hend I' a1.1.1 ⟨keep I' a4, Or.inl ⟨q0, a1, a2, a3⟩⟩
  · unfold UR
    refine Ex_wx [66] 9 oX9_unwind hw ?_
    refine And.intro (fun _ => ?_) (fun c => absurd (by rw [a1.1.1]; decide) c)
    refine Ex_wx [84] 9 oX9_unwind hw ?_
    refine And.intro (fun _ => ?_) (fun c => absurd a1.1.1 c)
    refine ⟨Or.inr rfl, rfl, rfl, rfl, ?_⟩
    refine hend _ ?_ ⟨?_, Or.inr (Or.inl ⟨q1, ?_, ?_, up2_s, ?_, ?_⟩)⟩
    · rw [up2_k (by omega), up2_k (by omega)]; exact a1.1.1
    · intro i k c
      unfold kq at c
      rw [up2_n (by omega), up2_n (by omega)]
      exact keep I' a2 i k (by unfold kq; omega)
    · rw [up2_k (by omega), up2_k (by omega)]; exact a1.1.2.2.2.1
    · rw [up2_k (by omega)]; exact up2_s
    · rw [up2_k (by omega), up2_k (by omega)]; exact a1.1.2.1
    · exact a1.2.eq (fun i k c => by rw [up2_n (by omega), up2_n (by omega)])
  · exact hout I' a1.1 ⟨keep I' a2, Or.inr (Or.inr ⟨q2, a1⟩)⟩
end DoIt
