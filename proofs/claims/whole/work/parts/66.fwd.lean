/-! the class: its calls that make TERMS, as the law makes them -/
theorem ws_mk {lx ly cnt k h n : Nat} {g g' : aG} {I I' : aI} {L L' : aL} {b x nm : Int32} {f s : Option Nat} (hw : WS lx ly g) (hg : 372 ≤ g.1) (q : MkP g I L cnt k b x nm f s h n g' I' L') : WS lx ly g' := by
  intro i e hi
  obtain ⟨h1, h2, h3⟩ := hw i e hi
  have hl := sT_le hi
  obtain ⟨a1, a2, -⟩ := q.2.1 i (by omega)
  refine ⟨h1, a1.trans h2, fun c v hv => ?_⟩
  by_cases z : i = 2 ∧ c = cnt
  · obtain ⟨rfl, rfl⟩ := z
    cases hv
  · rw [a2 c z]
    exact h3 c v hv
def lmQ (c1 c3 c2 : Int32) (C1 C3 C2 : Prop) (g : aG) (I : aI) (L : aL) (cnt k : Nat) (b x nm : Int32) (f s : Option Nat) (h n : Nat) : aQ := fun o g' I' L' =>
  (o = .inl (some (vI 0)) ∧ ¬ C1 ∧ ¬ C3 ∧ ¬ C2 ∧ L' 371 = (nI cnt).toInt64 ∧ ∃ L1, MkP g I L cnt k b x nm f s h n g' I' L1 ∧ L' = up1 L1 371 (nI cnt).toInt64) ∨ (o = .inl (some (vI c1)) ∧ C1 ∧ Ext g I L g' I' L') ∨ (o = .inl (some (vI c3)) ∧ ¬ C1 ∧ C3 ∧ Ext g I L g' I' L') ∨ (o = .inl (some (vI c2)) ∧ ¬ C1 ∧ ¬ C3 ∧ C2 ∧ Ext g I L g' I' L')
theorem ck_1 : Cond.classLink RL 13 E1 ∈ gT := gOne (by decide +kernel)
theorem ck_2 : Cond.classLink RL 15 E2 ∈ gT := gOne (by decide +kernel)
theorem ck_3 : Cond.classLink RL 21 E3 ∈ gT := gOne (by decide +kernel)
theorem ck_4 : Cond.classLink RL 70 E4 ∈ gT := gOne (by decide +kernel)
theorem Ex_fw {M N : aM} {d d' kc ks idx n ci pc i : Nat} {own : String} {lo : List (Option aV)} {As : List aV} {g : aG} {I : aI} {L : aL} {Q : aQ} (ok : vOk own N idx n ci) (ho : M.y.cls = own) (hn : As.length = n) (hM : Mx N d' kc ks (vS i :: As) g I L Q) (hi : g.2.1 i = some (.inl ci)) (hd' : d' + 1 ≤ d) (hd : decode M.cc pc = .ok (.invokevirtual idx, 3)) (hr : decode M.cc (pc + 3) = .ok (.ireturn, 1)) (hret : M.ret = some .int) (hh : M.hh = []) (hv : ∀ v g' I' L', Q (.inl v) g' I' L' → ∃ x, v = some (vI x)) : Ex M d kc ks Q pc lo (As.reverse ++ vS i :: []) g I L := by
  have h := Ex_cV (kc := 0) (ks := 0) (kc' := kc) (ks' := ks) (M := M) (d := d) (Q := Q) (pc := pc) (lo := lo) (st := []) ok ho hn hi hM hd' rfl hd (fun v g' I' L' hq => by
    obtain ⟨x, rfl⟩ := hv v g' I' L' hq
    exact Ex_ireturn hret hr hq) (fun E g' I' L' hq => Xx_out hh hq)
  rw [Nat.zero_add, Nat.zero_add] at h
  exact h
theorem mkQ_v {C1 C3 C2 : Prop} {g g' : aG} {I I' : aI} {L L' : aL} {cnt k h n : Nat} {b x nm : Int32} {f s : Option Nat} {v : Option aV} (q : mkQ C1 C3 C2 g I L cnt k b x nm f s h n (.inl v) g' I' L') : ∃ x, v = some (vI x) := by
  rcases q with ⟨e, -⟩ | ⟨e, -⟩ | ⟨e, -⟩ | ⟨e, -⟩ <;> cases e
  exact ⟨_, rfl⟩
section Fwd
variable {lx ly : Nat} {g : aG} {I : aI} {L : aL} {d cnt : Nat} {τ hg nd : Nat → Nat} {b x y z : Int32}
theorem e8_give (h : MC lx ly g I τ hg nd cnt) (hb : b = 0 ∨ b = 1) (hd : 10 ≤ d) : Mx mX8_give d 2 14 [vS 1, vI b, vI x] g I L (mkQ (¬ (b = 0 ∨ nmP x)) False (¬ (cnt < 80 ∧ 1 + max 0 0 ≤ 30)) g I L cnt 0 b x (-1) none none (1 + max 0 0) (kbN 0 ||| 0 ||| 0)) := by
  have h1 := (h.1 1 _ rfl).2.1
  refine Mx_in (by decide +kernel) rfl rfl (Ex_wx [] 9 oX8_give h.1 ?_)
  exact Ex_fw (As := [vI 0, vI b, vI x]) (d' := 9) vX8_46 rfl rfl (e8_keepAct (k := 0) h (by omega) hb (by omega) rfl) h1 hd (dc_ok oX8_give rfl) (dc_ok oX8_give rfl) rfl rfl (fun _ _ _ _ => mkQ_v)
theorem e8_read (h : MC lx ly g I τ hg nd cnt) (hd : 10 ≤ d) : Mx mX8_read d 2 14 [vS 1] g I L (mkQ (¬ ((0 : Int32) = 0 ∨ nmP 0)) False (¬ (cnt < 80 ∧ 1 + max 0 0 ≤ 30)) g I L cnt 1 0 0 (-1) none none (1 + max 0 0) (kbN 1 ||| 0 ||| 0)) := by
  have h1 := (h.1 1 _ rfl).2.1
  refine Mx_in (by decide +kernel) rfl rfl (Ex_wx [] 9 oX8_read h.1 ?_)
  exact Ex_fw (As := [vI 1, vI 0, vI 0]) (d' := 9) vX8_46 rfl rfl (e8_keepAct (k := 1) h (by omega) (Or.inl rfl) (by omega) rfl) h1 hd (dc_ok oX8_read rfl) (dc_ok oX8_read rfl) rfl rfl (fun _ _ _ _ => mkQ_v)
theorem e8_write (h : MC lx ly g I τ hg nd cnt) (hb : b = 0 ∨ b = 1) (hd : 10 ≤ d) : Mx mX8_write d 2 14 [vS 1, vI b, vI x] g I L (mkQ (¬ (b = 0 ∨ nmP x)) False (¬ (cnt < 80 ∧ 1 + max 0 0 ≤ 30)) g I L cnt 2 b x (-1) none none (1 + max 0 0) (kbN 2 ||| 0 ||| 0)) := by
  have h1 := (h.1 1 _ rfl).2.1
  refine Mx_in (by decide +kernel) rfl rfl (Ex_wx [] 9 oX8_write h.1 ?_)
  exact Ex_fw (As := [vI 2, vI b, vI x]) (d' := 9) vX8_46 rfl rfl (e8_keepAct (k := 2) h (by omega) hb (by omega) rfl) h1 hd (dc_ok oX8_write rfl) (dc_ok oX8_write rfl) rfl rfl (fun _ _ _ _ => mkQ_v)
theorem e8_say (h : MC lx ly g I τ hg nd cnt) (hb : b = 0 ∨ b = 1) (hd : 10 ≤ d) : Mx mX8_say d 2 14 [vS 1, vI b, vI x] g I L (mkQ (¬ (b = 0 ∨ nmP x)) False (¬ (cnt < 80 ∧ 1 + max 0 0 ≤ 30)) g I L cnt 3 b x (-1) none none (1 + max 0 0) (kbN 3 ||| 0 ||| 0)) := by
  have h1 := (h.1 1 _ rfl).2.1
  refine Mx_in (by decide +kernel) rfl rfl (Ex_wx [] 9 oX8_say h.1 ?_)
  exact Ex_fw (As := [vI 3, vI b, vI x]) (d' := 9) vX8_46 rfl rfl (e8_keepAct (k := 3) h (by omega) hb (by omega) rfl) h1 hd (dc_ok oX8_say rfl) (dc_ok oX8_say rfl) rfl rfl (fun _ _ _ _ => mkQ_v)
theorem e8_fail (h : MC lx ly g I τ hg nd cnt) (hb : b = 0 ∨ b = 1) (hd : 10 ≤ d) : Mx mX8_fail d 2 14 [vS 1, vI b, vI x] g I L (mkQ (¬ (b = 0 ∨ nmP x)) False (¬ (cnt < 80 ∧ 1 + max 0 0 ≤ 30)) g I L cnt 4 b x (-1) none none (1 + max 0 0) (kbN 4 ||| 0 ||| 0)) := by
  have h1 := (h.1 1 _ rfl).2.1
  refine Mx_in (by decide +kernel) rfl rfl (Ex_wx [] 9 oX8_fail h.1 ?_)
  exact Ex_fw (As := [vI 4, vI b, vI x]) (d' := 9) vX8_46 rfl rfl (e8_keepAct (k := 4) h (by omega) hb (by omega) rfl) h1 hd (dc_ok oX8_fail rfl) (dc_ok oX8_fail rfl) rfl rfl (fun _ _ _ _ => mkQ_v)
theorem e8_none (h : MC lx ly g I τ hg nd cnt) (hd : 10 ≤ d) : Mx mX8_none d 2 14 [vS 1] g I L (mkQ (¬ ((0 : Int32) = 0 ∨ nmP 0)) False (¬ (cnt < 80 ∧ 1 + max 0 0 ≤ 30)) g I L cnt 5 0 0 (-1) none none (1 + max 0 0) (kbN 5 ||| 0 ||| 0)) := by
  have h1 := (h.1 1 _ rfl).2.1
  refine Mx_in (by decide +kernel) rfl rfl (Ex_wx [] 9 oX8_none h.1 ?_)
  exact Ex_fw (As := [vI 5, vI 0, vI 0]) (d' := 9) vX8_46 rfl rfl (e8_keepAct (k := 5) h (by omega) (Or.inl rfl) (by omega) rfl) h1 hd (dc_ok oX8_none rfl) (dc_ok oX8_none rfl) rfl rfl (fun _ _ _ _ => mkQ_v)
theorem e8_then (h : MC lx ly g I τ hg nd cnt) (hd : 10 ≤ d) : Mx mX8_then d 2 14 [vS 1, vI x, vI y, vI z] g I L (mkQ (¬ (nmP y ∧ tmP cnt x ∧ tmP cnt z)) False (¬ (cnt < 80 ∧ 1 + max (hg x.toNatClampNeg) (hg z.toNatClampNeg) ≤ 30)) g I L cnt 7 0 0 y (some (τ x.toNatClampNeg)) (some (τ z.toNatClampNeg)) (1 + max (hg x.toNatClampNeg) (hg z.toNatClampNeg)) (kbN 7 ||| nd x.toNatClampNeg ||| nd z.toNatClampNeg)) := by
  have h1 := (h.1 1 _ rfl).2.1
  refine Mx_in (by decide +kernel) rfl rfl (Ex_wx [] 9 oX8_then h.1 ?_)
  exact Ex_fw (As := [vI 7, vI y, vI x, vI z]) (d' := 9) vX8_72 rfl rfl (e8_keepNaming (k := 7) h (by omega) rfl (by omega)) h1 hd (dc_ok oX8_then rfl) (dc_ok oX8_then rfl) rfl rfl (fun _ _ _ _ => mkQ_v)
theorem e8_saved (h : MC lx ly g I τ hg nd cnt) (hd : 10 ≤ d) : Mx mX8_saved d 2 14 [vS 1, vI x, vI y, vI z] g I L (mkQ (¬ (nmP y ∧ tmP cnt x ∧ tmP cnt z)) False (¬ (cnt < 80 ∧ 1 + max (hg x.toNatClampNeg) (hg z.toNatClampNeg) ≤ 30)) g I L cnt 8 0 0 y (some (τ x.toNatClampNeg)) (some (τ z.toNatClampNeg)) (1 + max (hg x.toNatClampNeg) (hg z.toNatClampNeg)) (kbN 8 ||| nd x.toNatClampNeg ||| nd z.toNatClampNeg)) := by
  have h1 := (h.1 1 _ rfl).2.1
  refine Mx_in (by decide +kernel) rfl rfl (Ex_wx [] 9 oX8_saved h.1 ?_)
  exact Ex_fw (As := [vI 8, vI y, vI x, vI z]) (d' := 9) vX8_72 rfl rfl (e8_keepNaming (k := 8) h (by omega) rfl (by omega)) h1 hd (dc_ok oX8_saved rfl) (dc_ok oX8_saved rfl) rfl rfl (fun _ _ _ _ => mkQ_v)
theorem e8_when (h : MC lx ly g I τ hg nd cnt) (hd : 10 ≤ d) : Mx mX8_when d 2 14 [vS 1, vI x, vI y, vI z] g I L (mkQ (¬ (nmP x ∧ tmP cnt y ∧ tmP cnt z)) False (¬ (cnt < 80 ∧ 1 + max (hg y.toNatClampNeg) (hg z.toNatClampNeg) ≤ 30)) g I L cnt 9 0 0 x (some (τ y.toNatClampNeg)) (some (τ z.toNatClampNeg)) (1 + max (hg y.toNatClampNeg) (hg z.toNatClampNeg)) (kbN 9 ||| nd y.toNatClampNeg ||| nd z.toNatClampNeg)) := by
  have h1 := (h.1 1 _ rfl).2.1
  refine Mx_in (by decide +kernel) rfl rfl (Ex_wx [] 9 oX8_when h.1 ?_)
  exact Ex_fw (As := [vI 9, vI x, vI y, vI z]) (d' := 9) vX8_72 rfl rfl (e8_keepNaming (k := 9) h (by omega) rfl (by omega)) h1 hd (dc_ok oX8_when rfl) (dc_ok oX8_when rfl) rfl rfl (fun _ _ _ _ => mkQ_v)
theorem l_give (h : MC lx ly g I τ hg nd cnt) (hb : b = 0 ∨ b = 1) (hd : 11 ≤ d) : Mx mL_give d 2 14 [vS 1, vI b, vI x, vS 371] g I L (lmQ 1 0 2 (¬ (b = 0 ∨ nmP x)) False (¬ (cnt < 80 ∧ 1 + max 0 0 ≤ 30)) g I L cnt 0 b x (-1) none none (1 + max 0 0) (kbN 0 ||| 0 ||| 0)) := by
  have h1 := (h.1 1 _ rfl).2.1
  refine Mx_in (by decide +kernel) rfl rfl (Ex_wx [] 9 oL_give h.1 ?_)
  refine Ex_cV (kc := 0) (ks := 0) (kc' := 2) (ks' := 14) (As := [vI b, vI x]) (st := [vI 0, vS 371]) (d' := 10) vL_7 rfl rfl h1 (e8_give h hb (by omega)) (by omega) rfl (dc_ok oL_give rfl) ?_ ?_
  · rintro v g' I' L' (⟨e, a1, a2, a3, hP⟩ | ⟨e, -⟩ | ⟨e, -⟩ | ⟨e, -⟩) <;> cases e
    refine Ex_wx [] 9 oL_give (ws_mk h.1 h.2.1 hP) ?_
    refine And.intro (show vp_in (nI 0) 1 from inN (by omega) (by omega)) ?_
    refine Or.inl ⟨rfl, a1, a2, a3, ?_, L', hP, rfl⟩
    show up1 L' 371 _ 371 = _
    unfold up1; rw [if_pos rfl]
  · rintro E g' I' L' (⟨e, -⟩ | ⟨e, a1, hP⟩ | ⟨e, a1, a2, hP⟩ | ⟨e, a1, a2, a3, hP⟩) <;> cases e
    · exact Xx_catch (a := 4) (ln := 2) [] (0, 10, 13, 13) [(0, 10, 17, 15)] rfl (by decide) (fun z hz => by cases hz) ⟨by decide, by decide⟩ (by decide) ck_1 (Or.inr ⟨rfl, dc_ok oL_give rfl⟩) (by decide) (dc_ok oL_give rfl) rfl (dc_ok oL_give rfl) rfl (Or.inr (Or.inl ⟨rfl, a1, hP⟩))
    · exact a2.elim
    · exact Xx_catch (a := 4) (ln := 2) [(0, 10, 13, 13)] (0, 10, 17, 15) [] rfl (by decide) (fun z hz => by rw [List.mem_singleton.mp hz]; exact ⟨by decide, E1, by decide, by decide, ck_1⟩) ⟨by decide, by decide⟩ (by decide) ck_2 (Or.inr ⟨rfl, dc_ok oL_give rfl⟩) (by decide) (dc_ok oL_give rfl) rfl (dc_ok oL_give rfl) rfl (Or.inr (Or.inr (Or.inr ⟨rfl, a1, a2, a3, hP⟩)))
theorem l_of (h : MC lx ly g I τ hg nd cnt) (hd : 11 ≤ d) : Mx mL_of d 2 14 [vS 1, vI x, vI y, vI z, vS 371] g I L (lmQ 1 2 3 (¬ (nmP x ∧ nmP y)) (¬ (0 ≤ z ∧ z < 5)) (¬ (cnt < 80 ∧ 1 + max 0 0 ≤ 30)) g I L cnt (14 + z.toNatClampNeg) 1 x y none none (1 + max 0 0) (kbN (14 + z.toNatClampNeg) ||| 0 ||| 0)) := by
  have h1 := (h.1 1 _ rfl).2.1
  refine Mx_in (by decide +kernel) rfl rfl (Ex_wx [] 9 oL_of h.1 ?_)
  refine Ex_cV (kc := 0) (ks := 0) (kc' := 2) (ks' := 14) (As := [vI x, vI y, vI z]) (st := [vI 0, vS 371]) (d' := 10) vL_17 rfl rfl h1 (e8_of h (by omega)) (by omega) rfl (dc_ok oL_of rfl) ?_ ?_
  · rintro v g' I' L' (⟨e, a1, a2, a3, hP⟩ | ⟨e, -⟩ | ⟨e, -⟩ | ⟨e, -⟩) <;> cases e
    refine Ex_wx [] 9 oL_of (ws_mk h.1 h.2.1 hP) ?_
    refine And.intro (show vp_in (nI 0) 1 from inN (by omega) (by omega)) ?_
    refine Or.inl ⟨rfl, a1, a2, a3, ?_, L', hP, rfl⟩
    show up1 L' 371 _ 371 = _
    unfold up1; rw [if_pos rfl]
  · rintro E g' I' L' (⟨e, -⟩ | ⟨e, a1, hP⟩ | ⟨e, a1, a2, hP⟩ | ⟨e, a1, a2, a3, hP⟩) <;> cases e
    · exact Xx_catch (a := 5) (ln := 2) [] (0, 12, 15, 13) [(0, 12, 19, 21), (0, 12, 23, 15)] rfl (by decide) (fun z hz => by cases hz) ⟨by decide, by decide⟩ (by decide) ck_1 (Or.inr ⟨rfl, dc_ok oL_of rfl⟩) (by decide) (dc_ok oL_of rfl) rfl (dc_ok oL_of rfl) rfl (Or.inr (Or.inl ⟨rfl, a1, hP⟩))
    · exact Xx_catch (a := 5) (ln := 2) [(0, 12, 15, 13)] (0, 12, 19, 21) [(0, 12, 23, 15)] rfl (by decide) (fun z hz => by rw [List.mem_singleton.mp hz]; exact ⟨by decide, E1, by decide, by decide, ck_1⟩) ⟨by decide, by decide⟩ (by decide) ck_3 (Or.inr ⟨rfl, dc_ok oL_of rfl⟩) (by decide) (dc_ok oL_of rfl) rfl (dc_ok oL_of rfl) rfl (Or.inr (Or.inr (Or.inl ⟨rfl, a1, a2, hP⟩)))
    · exact Xx_catch (a := 5) (ln := 2) [(0, 12, 15, 13), (0, 12, 19, 21)] (0, 12, 23, 15) [] rfl (by decide) (fun z hz => by rcases List.mem_cons.mp hz with rfl | hz; exact ⟨by decide, E1, by decide, by decide, ck_1⟩; rw [List.mem_singleton.mp hz]; exact ⟨by decide, E3, by decide, by decide, ck_3⟩) ⟨by decide, by decide⟩ (by decide) ck_2 (Or.inr ⟨rfl, dc_ok oL_of rfl⟩) (by decide) (dc_ok oL_of rfl) rfl (dc_ok oL_of rfl) rfl (Or.inr (Or.inr (Or.inr ⟨rfl, a1, a2, a3, hP⟩)))
theorem l_read (h : MC lx ly g I τ hg nd cnt) (hd : 11 ≤ d) : Mx mL_read d 2 14 [vS 1, vS 371] g I L (lmQ 0 0 1 (¬ ((0 : Int32) = 0 ∨ nmP 0)) False (¬ (cnt < 80 ∧ 1 + max 0 0 ≤ 30)) g I L cnt 1 0 0 (-1) none none (1 + max 0 0) (kbN 1 ||| 0 ||| 0)) := by
  have h1 := (h.1 1 _ rfl).2.1
  refine Mx_in (by decide +kernel) rfl rfl (Ex_wx [] 9 oL_read h.1 ?_)
  refine Ex_cV (kc := 0) (ks := 0) (kc' := 2) (ks' := 14) (As := []) (st := [vI 0, vS 371]) (d' := 10) vL_23 rfl rfl h1 (e8_read h (by omega)) (by omega) rfl (dc_ok oL_read rfl) ?_ ?_
  · rintro v g' I' L' (⟨e, a1, a2, a3, hP⟩ | ⟨e, -⟩ | ⟨e, -⟩ | ⟨e, -⟩) <;> cases e
    refine Ex_wx [] 9 oL_read (ws_mk h.1 h.2.1 hP) ?_
    refine And.intro (show vp_in (nI 0) 1 from inN (by omega) (by omega)) ?_
    refine Or.inl ⟨rfl, a1, a2, a3, ?_, L', hP, rfl⟩
    show up1 L' 371 _ 371 = _
    unfold up1; rw [if_pos rfl]
  · rintro E g' I' L' (⟨e, -⟩ | ⟨e, a1, hP⟩ | ⟨e, a1, a2, hP⟩ | ⟨e, a1, a2, a3, hP⟩) <;> cases e
    · exact absurd (Or.inl rfl) a1
    · exact a2.elim
    · exact Xx_catch (a := 2) (ln := 1) [] (0, 8, 11, 15) [] rfl (by decide) (fun z hz => by cases hz) ⟨by decide, by decide⟩ (by decide) ck_2 (Or.inl ⟨2, rfl, rfl, dc_ok oL_read rfl⟩) (by decide) (dc_ok oL_read rfl) rfl (dc_ok oL_read rfl) rfl (Or.inr (Or.inr (Or.inr ⟨rfl, a1, a2, a3, hP⟩)))
theorem l_write (h : MC lx ly g I τ hg nd cnt) (hb : b = 0 ∨ b = 1) (hd : 11 ≤ d) : Mx mL_write d 2 14 [vS 1, vI b, vI x, vS 371] g I L (lmQ 1 0 2 (¬ (b = 0 ∨ nmP x)) False (¬ (cnt < 80 ∧ 1 + max 0 0 ≤ 30)) g I L cnt 2 b x (-1) none none (1 + max 0 0) (kbN 2 ||| 0 ||| 0)) := by
  have h1 := (h.1 1 _ rfl).2.1
  refine Mx_in (by decide +kernel) rfl rfl (Ex_wx [] 9 oL_write h.1 ?_)
  refine Ex_cV (kc := 0) (ks := 0) (kc' := 2) (ks' := 14) (As := [vI b, vI x]) (st := [vI 0, vS 371]) (d' := 10) vL_27 rfl rfl h1 (e8_write h hb (by omega)) (by omega) rfl (dc_ok oL_write rfl) ?_ ?_
  · rintro v g' I' L' (⟨e, a1, a2, a3, hP⟩ | ⟨e, -⟩ | ⟨e, -⟩ | ⟨e, -⟩) <;> cases e
    refine Ex_wx [] 9 oL_write (ws_mk h.1 h.2.1 hP) ?_
    refine And.intro (show vp_in (nI 0) 1 from inN (by omega) (by omega)) ?_
    refine Or.inl ⟨rfl, a1, a2, a3, ?_, L', hP, rfl⟩
    show up1 L' 371 _ 371 = _
    unfold up1; rw [if_pos rfl]
  · rintro E g' I' L' (⟨e, -⟩ | ⟨e, a1, hP⟩ | ⟨e, a1, a2, hP⟩ | ⟨e, a1, a2, a3, hP⟩) <;> cases e
    · exact Xx_catch (a := 4) (ln := 2) [] (0, 10, 13, 13) [(0, 10, 17, 15)] rfl (by decide) (fun z hz => by cases hz) ⟨by decide, by decide⟩ (by decide) ck_1 (Or.inr ⟨rfl, dc_ok oL_write rfl⟩) (by decide) (dc_ok oL_write rfl) rfl (dc_ok oL_write rfl) rfl (Or.inr (Or.inl ⟨rfl, a1, hP⟩))
    · exact a2.elim
    · exact Xx_catch (a := 4) (ln := 2) [(0, 10, 13, 13)] (0, 10, 17, 15) [] rfl (by decide) (fun z hz => by rw [List.mem_singleton.mp hz]; exact ⟨by decide, E1, by decide, by decide, ck_1⟩) ⟨by decide, by decide⟩ (by decide) ck_2 (Or.inr ⟨rfl, dc_ok oL_write rfl⟩) (by decide) (dc_ok oL_write rfl) rfl (dc_ok oL_write rfl) rfl (Or.inr (Or.inr (Or.inr ⟨rfl, a1, a2, a3, hP⟩)))
theorem l_say (h : MC lx ly g I τ hg nd cnt) (hb : b = 0 ∨ b = 1) (hd : 11 ≤ d) : Mx mL_say d 2 14 [vS 1, vI b, vI x, vS 371] g I L (lmQ 1 0 2 (¬ (b = 0 ∨ nmP x)) False (¬ (cnt < 80 ∧ 1 + max 0 0 ≤ 30)) g I L cnt 3 b x (-1) none none (1 + max 0 0) (kbN 3 ||| 0 ||| 0)) := by
  have h1 := (h.1 1 _ rfl).2.1
  refine Mx_in (by decide +kernel) rfl rfl (Ex_wx [] 9 oL_say h.1 ?_)
  refine Ex_cV (kc := 0) (ks := 0) (kc' := 2) (ks' := 14) (As := [vI b, vI x]) (st := [vI 0, vS 371]) (d' := 10) vL_30 rfl rfl h1 (e8_say h hb (by omega)) (by omega) rfl (dc_ok oL_say rfl) ?_ ?_
  · rintro v g' I' L' (⟨e, a1, a2, a3, hP⟩ | ⟨e, -⟩ | ⟨e, -⟩ | ⟨e, -⟩) <;> cases e
    refine Ex_wx [] 9 oL_say (ws_mk h.1 h.2.1 hP) ?_
    refine And.intro (show vp_in (nI 0) 1 from inN (by omega) (by omega)) ?_
    refine Or.inl ⟨rfl, a1, a2, a3, ?_, L', hP, rfl⟩
    show up1 L' 371 _ 371 = _
    unfold up1; rw [if_pos rfl]
  · rintro E g' I' L' (⟨e, -⟩ | ⟨e, a1, hP⟩ | ⟨e, a1, a2, hP⟩ | ⟨e, a1, a2, a3, hP⟩) <;> cases e
    · exact Xx_catch (a := 4) (ln := 2) [] (0, 10, 13, 13) [(0, 10, 17, 15)] rfl (by decide) (fun z hz => by cases hz) ⟨by decide, by decide⟩ (by decide) ck_1 (Or.inr ⟨rfl, dc_ok oL_say rfl⟩) (by decide) (dc_ok oL_say rfl) rfl (dc_ok oL_say rfl) rfl (Or.inr (Or.inl ⟨rfl, a1, hP⟩))
    · exact a2.elim
    · exact Xx_catch (a := 4) (ln := 2) [(0, 10, 13, 13)] (0, 10, 17, 15) [] rfl (by decide) (fun z hz => by rw [List.mem_singleton.mp hz]; exact ⟨by decide, E1, by decide, by decide, ck_1⟩) ⟨by decide, by decide⟩ (by decide) ck_2 (Or.inr ⟨rfl, dc_ok oL_say rfl⟩) (by decide) (dc_ok oL_say rfl) rfl (dc_ok oL_say rfl) rfl (Or.inr (Or.inr (Or.inr ⟨rfl, a1, a2, a3, hP⟩)))
theorem l_fail (h : MC lx ly g I τ hg nd cnt) (hb : b = 0 ∨ b = 1) (hd : 11 ≤ d) : Mx mL_fail d 2 14 [vS 1, vI b, vI x, vS 371] g I L (lmQ 1 0 2 (¬ (b = 0 ∨ nmP x)) False (¬ (cnt < 80 ∧ 1 + max 0 0 ≤ 30)) g I L cnt 4 b x (-1) none none (1 + max 0 0) (kbN 4 ||| 0 ||| 0)) := by
  have h1 := (h.1 1 _ rfl).2.1
  refine Mx_in (by decide +kernel) rfl rfl (Ex_wx [] 9 oL_fail h.1 ?_)
  refine Ex_cV (kc := 0) (ks := 0) (kc' := 2) (ks' := 14) (As := [vI b, vI x]) (st := [vI 0, vS 371]) (d' := 10) vL_33 rfl rfl h1 (e8_fail h hb (by omega)) (by omega) rfl (dc_ok oL_fail rfl) ?_ ?_
  · rintro v g' I' L' (⟨e, a1, a2, a3, hP⟩ | ⟨e, -⟩ | ⟨e, -⟩ | ⟨e, -⟩) <;> cases e
    refine Ex_wx [] 9 oL_fail (ws_mk h.1 h.2.1 hP) ?_
    refine And.intro (show vp_in (nI 0) 1 from inN (by omega) (by omega)) ?_
    refine Or.inl ⟨rfl, a1, a2, a3, ?_, L', hP, rfl⟩
    show up1 L' 371 _ 371 = _
    unfold up1; rw [if_pos rfl]
  · rintro E g' I' L' (⟨e, -⟩ | ⟨e, a1, hP⟩ | ⟨e, a1, a2, hP⟩ | ⟨e, a1, a2, a3, hP⟩) <;> cases e
    · exact Xx_catch (a := 4) (ln := 2) [] (0, 10, 13, 13) [(0, 10, 17, 15)] rfl (by decide) (fun z hz => by cases hz) ⟨by decide, by decide⟩ (by decide) ck_1 (Or.inr ⟨rfl, dc_ok oL_fail rfl⟩) (by decide) (dc_ok oL_fail rfl) rfl (dc_ok oL_fail rfl) rfl (Or.inr (Or.inl ⟨rfl, a1, hP⟩))
    · exact a2.elim
    · exact Xx_catch (a := 4) (ln := 2) [(0, 10, 13, 13)] (0, 10, 17, 15) [] rfl (by decide) (fun z hz => by rw [List.mem_singleton.mp hz]; exact ⟨by decide, E1, by decide, by decide, ck_1⟩) ⟨by decide, by decide⟩ (by decide) ck_2 (Or.inr ⟨rfl, dc_ok oL_fail rfl⟩) (by decide) (dc_ok oL_fail rfl) rfl (dc_ok oL_fail rfl) rfl (Or.inr (Or.inr (Or.inr ⟨rfl, a1, a2, a3, hP⟩)))
theorem l_none (h : MC lx ly g I τ hg nd cnt) (hd : 11 ≤ d) : Mx mL_none d 2 14 [vS 1, vS 371] g I L (lmQ 0 0 1 (¬ ((0 : Int32) = 0 ∨ nmP 0)) False (¬ (cnt < 80 ∧ 1 + max 0 0 ≤ 30)) g I L cnt 5 0 0 (-1) none none (1 + max 0 0) (kbN 5 ||| 0 ||| 0)) := by
  have h1 := (h.1 1 _ rfl).2.1
  refine Mx_in (by decide +kernel) rfl rfl (Ex_wx [] 9 oL_none h.1 ?_)
  refine Ex_cV (kc := 0) (ks := 0) (kc' := 2) (ks' := 14) (As := []) (st := [vI 0, vS 371]) (d' := 10) vL_36 rfl rfl h1 (e8_none h (by omega)) (by omega) rfl (dc_ok oL_none rfl) ?_ ?_
  · rintro v g' I' L' (⟨e, a1, a2, a3, hP⟩ | ⟨e, -⟩ | ⟨e, -⟩ | ⟨e, -⟩) <;> cases e
    refine Ex_wx [] 9 oL_none (ws_mk h.1 h.2.1 hP) ?_
    refine And.intro (show vp_in (nI 0) 1 from inN (by omega) (by omega)) ?_
    refine Or.inl ⟨rfl, a1, a2, a3, ?_, L', hP, rfl⟩
    show up1 L' 371 _ 371 = _
    unfold up1; rw [if_pos rfl]
  · rintro E g' I' L' (⟨e, -⟩ | ⟨e, a1, hP⟩ | ⟨e, a1, a2, hP⟩ | ⟨e, a1, a2, a3, hP⟩) <;> cases e
    · exact absurd (Or.inl rfl) a1
    · exact a2.elim
    · exact Xx_catch (a := 2) (ln := 1) [] (0, 8, 11, 15) [] rfl (by decide) (fun z hz => by cases hz) ⟨by decide, by decide⟩ (by decide) ck_2 (Or.inl ⟨2, rfl, rfl, dc_ok oL_none rfl⟩) (by decide) (dc_ok oL_none rfl) rfl (dc_ok oL_none rfl) rfl (Or.inr (Or.inr (Or.inr ⟨rfl, a1, a2, a3, hP⟩)))
theorem l_either (h : MC lx ly g I τ hg nd cnt) (hd : 11 ≤ d) : Mx mL_either d 2 14 [vS 1, vI x, vI y, vS 371] g I L (lmQ 1 0 2 (¬ (tmP cnt x ∧ tmP cnt y)) False (¬ (cnt < 80 ∧ 1 + max (hg x.toNatClampNeg) (hg y.toNatClampNeg) ≤ 30)) g I L cnt 6 0 0 (-1) (some (τ x.toNatClampNeg)) (some (τ y.toNatClampNeg)) (1 + max (hg x.toNatClampNeg) (hg y.toNatClampNeg)) (kbN 6 ||| nd x.toNatClampNeg ||| nd y.toNatClampNeg)) := by
  have h1 := (h.1 1 _ rfl).2.1
  refine Mx_in (by decide +kernel) rfl rfl (Ex_wx [] 9 oL_either h.1 ?_)
  refine Ex_cV (kc := 0) (ks := 0) (kc' := 2) (ks' := 14) (As := [vI x, vI y]) (st := [vI 0, vS 371]) (d' := 10) vL_39 rfl rfl h1 (e8_either h (by omega)) (by omega) rfl (dc_ok oL_either rfl) ?_ ?_
  · rintro v g' I' L' (⟨e, a1, a2, a3, hP⟩ | ⟨e, -⟩ | ⟨e, -⟩ | ⟨e, -⟩) <;> cases e
    refine Ex_wx [] 9 oL_either (ws_mk h.1 h.2.1 hP) ?_
    refine And.intro (show vp_in (nI 0) 1 from inN (by omega) (by omega)) ?_
    refine Or.inl ⟨rfl, a1, a2, a3, ?_, L', hP, rfl⟩
    show up1 L' 371 _ 371 = _
    unfold up1; rw [if_pos rfl]
  · rintro E g' I' L' (⟨e, -⟩ | ⟨e, a1, hP⟩ | ⟨e, a1, a2, hP⟩ | ⟨e, a1, a2, a3, hP⟩) <;> cases e
    · exact Xx_catch (a := 4) (ln := 2) [] (0, 10, 13, 13) [(0, 10, 17, 15)] rfl (by decide) (fun z hz => by cases hz) ⟨by decide, by decide⟩ (by decide) ck_1 (Or.inr ⟨rfl, dc_ok oL_either rfl⟩) (by decide) (dc_ok oL_either rfl) rfl (dc_ok oL_either rfl) rfl (Or.inr (Or.inl ⟨rfl, a1, hP⟩))
    · exact a2.elim
    · exact Xx_catch (a := 4) (ln := 2) [(0, 10, 13, 13)] (0, 10, 17, 15) [] rfl (by decide) (fun z hz => by rw [List.mem_singleton.mp hz]; exact ⟨by decide, E1, by decide, by decide, ck_1⟩) ⟨by decide, by decide⟩ (by decide) ck_2 (Or.inr ⟨rfl, dc_ok oL_either rfl⟩) (by decide) (dc_ok oL_either rfl) rfl (dc_ok oL_either rfl) rfl (Or.inr (Or.inr (Or.inr ⟨rfl, a1, a2, a3, hP⟩)))
theorem l_then (h : MC lx ly g I τ hg nd cnt) (hd : 11 ≤ d) : Mx mL_then d 2 14 [vS 1, vI x, vI y, vI z, vS 371] g I L (lmQ 1 0 2 (¬ (nmP y ∧ tmP cnt x ∧ tmP cnt z)) False (¬ (cnt < 80 ∧ 1 + max (hg x.toNatClampNeg) (hg z.toNatClampNeg) ≤ 30)) g I L cnt 7 0 0 y (some (τ x.toNatClampNeg)) (some (τ z.toNatClampNeg)) (1 + max (hg x.toNatClampNeg) (hg z.toNatClampNeg)) (kbN 7 ||| nd x.toNatClampNeg ||| nd z.toNatClampNeg)) := by
  have h1 := (h.1 1 _ rfl).2.1
  refine Mx_in (by decide +kernel) rfl rfl (Ex_wx [] 9 oL_then h.1 ?_)
  refine Ex_cV (kc := 0) (ks := 0) (kc' := 2) (ks' := 14) (As := [vI x, vI y, vI z]) (st := [vI 0, vS 371]) (d' := 10) vL_43 rfl rfl h1 (e8_then h (by omega)) (by omega) rfl (dc_ok oL_then rfl) ?_ ?_
  · rintro v g' I' L' (⟨e, a1, a2, a3, hP⟩ | ⟨e, -⟩ | ⟨e, -⟩ | ⟨e, -⟩) <;> cases e
    refine Ex_wx [] 9 oL_then (ws_mk h.1 h.2.1 hP) ?_
    refine And.intro (show vp_in (nI 0) 1 from inN (by omega) (by omega)) ?_
    refine Or.inl ⟨rfl, a1, a2, a3, ?_, L', hP, rfl⟩
    show up1 L' 371 _ 371 = _
    unfold up1; rw [if_pos rfl]
  · rintro E g' I' L' (⟨e, -⟩ | ⟨e, a1, hP⟩ | ⟨e, a1, a2, hP⟩ | ⟨e, a1, a2, a3, hP⟩) <;> cases e
    · exact Xx_catch (a := 5) (ln := 2) [] (0, 12, 15, 13) [(0, 12, 19, 15)] rfl (by decide) (fun z hz => by cases hz) ⟨by decide, by decide⟩ (by decide) ck_1 (Or.inr ⟨rfl, dc_ok oL_then rfl⟩) (by decide) (dc_ok oL_then rfl) rfl (dc_ok oL_then rfl) rfl (Or.inr (Or.inl ⟨rfl, a1, hP⟩))
    · exact a2.elim
    · exact Xx_catch (a := 5) (ln := 2) [(0, 12, 15, 13)] (0, 12, 19, 15) [] rfl (by decide) (fun z hz => by rw [List.mem_singleton.mp hz]; exact ⟨by decide, E1, by decide, by decide, ck_1⟩) ⟨by decide, by decide⟩ (by decide) ck_2 (Or.inr ⟨rfl, dc_ok oL_then rfl⟩) (by decide) (dc_ok oL_then rfl) rfl (dc_ok oL_then rfl) rfl (Or.inr (Or.inr (Or.inr ⟨rfl, a1, a2, a3, hP⟩)))
theorem l_saved (h : MC lx ly g I τ hg nd cnt) (hd : 11 ≤ d) : Mx mL_saved d 2 14 [vS 1, vI x, vI y, vI z, vS 371] g I L (lmQ 1 0 2 (¬ (nmP y ∧ tmP cnt x ∧ tmP cnt z)) False (¬ (cnt < 80 ∧ 1 + max (hg x.toNatClampNeg) (hg z.toNatClampNeg) ≤ 30)) g I L cnt 8 0 0 y (some (τ x.toNatClampNeg)) (some (τ z.toNatClampNeg)) (1 + max (hg x.toNatClampNeg) (hg z.toNatClampNeg)) (kbN 8 ||| nd x.toNatClampNeg ||| nd z.toNatClampNeg)) := by
  have h1 := (h.1 1 _ rfl).2.1
  refine Mx_in (by decide +kernel) rfl rfl (Ex_wx [] 9 oL_saved h.1 ?_)
  refine Ex_cV (kc := 0) (ks := 0) (kc' := 2) (ks' := 14) (As := [vI x, vI y, vI z]) (st := [vI 0, vS 371]) (d' := 10) vL_46 rfl rfl h1 (e8_saved h (by omega)) (by omega) rfl (dc_ok oL_saved rfl) ?_ ?_
  · rintro v g' I' L' (⟨e, a1, a2, a3, hP⟩ | ⟨e, -⟩ | ⟨e, -⟩ | ⟨e, -⟩) <;> cases e
    refine Ex_wx [] 9 oL_saved (ws_mk h.1 h.2.1 hP) ?_
    refine And.intro (show vp_in (nI 0) 1 from inN (by omega) (by omega)) ?_
    refine Or.inl ⟨rfl, a1, a2, a3, ?_, L', hP, rfl⟩
    show up1 L' 371 _ 371 = _
    unfold up1; rw [if_pos rfl]
  · rintro E g' I' L' (⟨e, -⟩ | ⟨e, a1, hP⟩ | ⟨e, a1, a2, hP⟩ | ⟨e, a1, a2, a3, hP⟩) <;> cases e
    · exact Xx_catch (a := 5) (ln := 2) [] (0, 12, 15, 13) [(0, 12, 19, 15)] rfl (by decide) (fun z hz => by cases hz) ⟨by decide, by decide⟩ (by decide) ck_1 (Or.inr ⟨rfl, dc_ok oL_saved rfl⟩) (by decide) (dc_ok oL_saved rfl) rfl (dc_ok oL_saved rfl) rfl (Or.inr (Or.inl ⟨rfl, a1, hP⟩))
    · exact a2.elim
    · exact Xx_catch (a := 5) (ln := 2) [(0, 12, 15, 13)] (0, 12, 19, 15) [] rfl (by decide) (fun z hz => by rw [List.mem_singleton.mp hz]; exact ⟨by decide, E1, by decide, by decide, ck_1⟩) ⟨by decide, by decide⟩ (by decide) ck_2 (Or.inr ⟨rfl, dc_ok oL_saved rfl⟩) (by decide) (dc_ok oL_saved rfl) rfl (dc_ok oL_saved rfl) rfl (Or.inr (Or.inr (Or.inr ⟨rfl, a1, a2, a3, hP⟩)))
theorem l_when (h : MC lx ly g I τ hg nd cnt) (hd : 11 ≤ d) : Mx mL_when d 2 14 [vS 1, vI x, vI y, vI z, vS 371] g I L (lmQ 1 0 2 (¬ (nmP x ∧ tmP cnt y ∧ tmP cnt z)) False (¬ (cnt < 80 ∧ 1 + max (hg y.toNatClampNeg) (hg z.toNatClampNeg) ≤ 30)) g I L cnt 9 0 0 x (some (τ y.toNatClampNeg)) (some (τ z.toNatClampNeg)) (1 + max (hg y.toNatClampNeg) (hg z.toNatClampNeg)) (kbN 9 ||| nd y.toNatClampNeg ||| nd z.toNatClampNeg)) := by
  have h1 := (h.1 1 _ rfl).2.1
  refine Mx_in (by decide +kernel) rfl rfl (Ex_wx [] 9 oL_when h.1 ?_)
  refine Ex_cV (kc := 0) (ks := 0) (kc' := 2) (ks' := 14) (As := [vI x, vI y, vI z]) (st := [vI 0, vS 371]) (d' := 10) vL_49 rfl rfl h1 (e8_when h (by omega)) (by omega) rfl (dc_ok oL_when rfl) ?_ ?_
  · rintro v g' I' L' (⟨e, a1, a2, a3, hP⟩ | ⟨e, -⟩ | ⟨e, -⟩ | ⟨e, -⟩) <;> cases e
    refine Ex_wx [] 9 oL_when (ws_mk h.1 h.2.1 hP) ?_
    refine And.intro (show vp_in (nI 0) 1 from inN (by omega) (by omega)) ?_
    refine Or.inl ⟨rfl, a1, a2, a3, ?_, L', hP, rfl⟩
    show up1 L' 371 _ 371 = _
    unfold up1; rw [if_pos rfl]
  · rintro E g' I' L' (⟨e, -⟩ | ⟨e, a1, hP⟩ | ⟨e, a1, a2, hP⟩ | ⟨e, a1, a2, a3, hP⟩) <;> cases e
    · exact Xx_catch (a := 5) (ln := 2) [] (0, 12, 15, 13) [(0, 12, 19, 15)] rfl (by decide) (fun z hz => by cases hz) ⟨by decide, by decide⟩ (by decide) ck_1 (Or.inr ⟨rfl, dc_ok oL_when rfl⟩) (by decide) (dc_ok oL_when rfl) rfl (dc_ok oL_when rfl) rfl (Or.inr (Or.inl ⟨rfl, a1, hP⟩))
    · exact a2.elim
    · exact Xx_catch (a := 5) (ln := 2) [(0, 12, 15, 13)] (0, 12, 19, 15) [] rfl (by decide) (fun z hz => by rw [List.mem_singleton.mp hz]; exact ⟨by decide, E1, by decide, by decide, ck_1⟩) ⟨by decide, by decide⟩ (by decide) ck_2 (Or.inr ⟨rfl, dc_ok oL_when rfl⟩) (by decide) (dc_ok oL_when rfl) rfl (dc_ok oL_when rfl) rfl (Or.inr (Or.inr (Or.inr ⟨rfl, a1, a2, a3, hP⟩)))
theorem l_times (h : MC lx ly g I τ hg nd cnt) (hb : b = 0 ∨ b = 1) (hd : 11 ≤ d) : Mx mL_times d 2 14 [vS 1, vI b, vI x, vI y, vS 371] g I L (lmQ 1 0 2 (¬ ((b = 0 ∨ nmP x) ∧ tmP cnt y)) False (¬ (cnt < 80 ∧ 1 + max (hg y.toNatClampNeg) 0 ≤ 30)) g I L cnt 10 b x (-1) (some (τ y.toNatClampNeg)) none (1 + max (hg y.toNatClampNeg) 0) (kbN 10 ||| nd y.toNatClampNeg ||| 0)) := by
  have h1 := (h.1 1 _ rfl).2.1
  refine Mx_in (by decide +kernel) rfl rfl (Ex_wx [] 9 oL_times h.1 ?_)
  refine Ex_cV (kc := 0) (ks := 0) (kc' := 2) (ks' := 14) (As := [vI b, vI x, vI y]) (st := [vI 0, vS 371]) (d' := 10) vL_52 rfl rfl h1 (e8_times h hb (by omega)) (by omega) rfl (dc_ok oL_times rfl) ?_ ?_
  · rintro v g' I' L' (⟨e, a1, a2, a3, hP⟩ | ⟨e, -⟩ | ⟨e, -⟩ | ⟨e, -⟩) <;> cases e
    refine Ex_wx [] 9 oL_times (ws_mk h.1 h.2.1 hP) ?_
    refine And.intro (show vp_in (nI 0) 1 from inN (by omega) (by omega)) ?_
    refine Or.inl ⟨rfl, a1, a2, a3, ?_, L', hP, rfl⟩
    show up1 L' 371 _ 371 = _
    unfold up1; rw [if_pos rfl]
  · rintro E g' I' L' (⟨e, -⟩ | ⟨e, a1, hP⟩ | ⟨e, a1, a2, hP⟩ | ⟨e, a1, a2, a3, hP⟩) <;> cases e
    · exact Xx_catch (a := 5) (ln := 2) [] (0, 12, 15, 13) [(0, 12, 19, 15)] rfl (by decide) (fun z hz => by cases hz) ⟨by decide, by decide⟩ (by decide) ck_1 (Or.inr ⟨rfl, dc_ok oL_times rfl⟩) (by decide) (dc_ok oL_times rfl) rfl (dc_ok oL_times rfl) rfl (Or.inr (Or.inl ⟨rfl, a1, hP⟩))
    · exact a2.elim
    · exact Xx_catch (a := 5) (ln := 2) [(0, 12, 15, 13)] (0, 12, 19, 15) [] rfl (by decide) (fun z hz => by rw [List.mem_singleton.mp hz]; exact ⟨by decide, E1, by decide, by decide, ck_1⟩) ⟨by decide, by decide⟩ (by decide) ck_2 (Or.inr ⟨rfl, dc_ok oL_times rfl⟩) (by decide) (dc_ok oL_times rfl) rfl (dc_ok oL_times rfl) rfl (Or.inr (Or.inr (Or.inr ⟨rfl, a1, a2, a3, hP⟩)))
theorem l_as (h : MC lx ly g I τ hg nd cnt) (hd : 11 ≤ d) : Mx mL_as d 2 14 [vS 1, vI z, vI y, vS 371] g I L (lmQ 1 2 3 (¬ tmP cnt y) (¬ (0 ≤ z ∧ z < 3)) (¬ (cnt < 80 ∧ 1 + max (hg y.toNatClampNeg) 0 ≤ 30)) g I L cnt (11 + z.toNatClampNeg) 0 0 (-1) (some (τ y.toNatClampNeg)) none (1 + max (hg y.toNatClampNeg) 0) (kbN (11 + z.toNatClampNeg) ||| nd y.toNatClampNeg ||| 0)) := by
  have h1 := (h.1 1 _ rfl).2.1
  refine Mx_in (by decide +kernel) rfl rfl (Ex_wx [] 9 oL_as h.1 ?_)
  refine Ex_cV (kc := 0) (ks := 0) (kc' := 2) (ks' := 14) (As := [vI z, vI y]) (st := [vI 0, vS 371]) (d' := 10) vL_56 rfl rfl h1 (e8_as h (by omega)) (by omega) rfl (dc_ok oL_as rfl) ?_ ?_
  · rintro v g' I' L' (⟨e, a1, a2, a3, hP⟩ | ⟨e, -⟩ | ⟨e, -⟩ | ⟨e, -⟩) <;> cases e
    refine Ex_wx [] 9 oL_as (ws_mk h.1 h.2.1 hP) ?_
    refine And.intro (show vp_in (nI 0) 1 from inN (by omega) (by omega)) ?_
    refine Or.inl ⟨rfl, a1, a2, a3, ?_, L', hP, rfl⟩
    show up1 L' 371 _ 371 = _
    unfold up1; rw [if_pos rfl]
  · rintro E g' I' L' (⟨e, -⟩ | ⟨e, a1, hP⟩ | ⟨e, a1, a2, hP⟩ | ⟨e, a1, a2, a3, hP⟩) <;> cases e
    · exact Xx_catch (a := 4) (ln := 2) [] (0, 10, 13, 13) [(0, 10, 17, 21), (0, 10, 21, 15)] rfl (by decide) (fun z hz => by cases hz) ⟨by decide, by decide⟩ (by decide) ck_1 (Or.inr ⟨rfl, dc_ok oL_as rfl⟩) (by decide) (dc_ok oL_as rfl) rfl (dc_ok oL_as rfl) rfl (Or.inr (Or.inl ⟨rfl, a1, hP⟩))
    · exact Xx_catch (a := 4) (ln := 2) [(0, 10, 13, 13)] (0, 10, 17, 21) [(0, 10, 21, 15)] rfl (by decide) (fun z hz => by rw [List.mem_singleton.mp hz]; exact ⟨by decide, E1, by decide, by decide, ck_1⟩) ⟨by decide, by decide⟩ (by decide) ck_3 (Or.inr ⟨rfl, dc_ok oL_as rfl⟩) (by decide) (dc_ok oL_as rfl) rfl (dc_ok oL_as rfl) rfl (Or.inr (Or.inr (Or.inl ⟨rfl, a1, a2, hP⟩)))
    · exact Xx_catch (a := 4) (ln := 2) [(0, 10, 13, 13), (0, 10, 17, 21)] (0, 10, 21, 15) [] rfl (by decide) (fun z hz => by rcases List.mem_cons.mp hz with rfl | hz; exact ⟨by decide, E1, by decide, by decide, ck_1⟩; rw [List.mem_singleton.mp hz]; exact ⟨by decide, E3, by decide, by decide, ck_3⟩) ⟨by decide, by decide⟩ (by decide) ck_2 (Or.inr ⟨rfl, dc_ok oL_as rfl⟩) (by decide) (dc_ok oL_as rfl) rfl (dc_ok oL_as rfl) rfl (Or.inr (Or.inr (Or.inr ⟨rfl, a1, a2, a3, hP⟩)))
end Fwd
