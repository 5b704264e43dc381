/-! throws and catches -/
def tNames : List String := ["java/lang/RuntimeException", "java/lang/Exception"]
def qB (E : String) : List Cond := Cond.castable E E :: qDecl.map Cond.declares
def tOk (E : String) (ik ic : Nat) : Bool := Bundle.fit E && gIn ((vx_atS RX8 ic E tNames).filter goodWord) && ((vx_atS RX8 ic E tNames).filter (fun w => !goodWord w)).all (fun w => decide (w ∈ qB E)) && (Cond.classLink RX8 ik E :: Cond.initialized E :: vx_atS RX8 ic E tNames).all vx_ot && gIn [Cond.classLink RX8 ik E, Cond.initialized E] && decide (E ∈ qExc)
theorem qz.grow {D : va_G} {K : FieldType → ClassId} {b b0 : Nat} {g : aG} {I : aI} {L : aL} {H H1 : Heap} (hz : qz D K b b0 g I L H) (hs : H.size ≤ H1.size) (ho : ∀ q : Nat, q < H.size → H1[q]? = H[q]?) : ∃ n, g.1 ≤ n ∧ qz D K b b0 (n, g.2.1, g.2.2) I L H1 := by
  obtain ⟨⟨h1, h2, h3⟩, h4⟩ := hz
  refine ⟨g.1 + (H1.size - H.size), Nat.le_add_right _ _, ⟨?_, by show 0 < g.1 + _; omega, fun i hi => h3 i (by have hi' : g.1 + (H1.size - H.size) ≤ i := hi; omega)⟩, fun i c hi => ?_⟩
  · show qa b b0 (g.1 + (H1.size - H.size)) = H1.size
    obtain ⟨n, hn⟩ : ∃ n, g.1 = n + 1 := ⟨g.1 - 1, by omega⟩
    rw [hn] at h1 ⊢
    rw [show n + 1 + (H1.size - H.size) = (n + (H1.size - H.size)) + 1 by omega]
    simp only [qa] at h1 ⊢
    omega
  · have hq := h4 i c hi
    refine qc_other (fun k => rfl) (fun k => rfl) rfl (ho _ ?_) hq
    rcases c with ci | ⟨ty, n⟩
    · obtain ⟨r, -, cell, q1, -⟩ := hq
      exact (Array.getElem?_eq_some_iff.mp q1).1
    · by_cases h0 : i = 0
      · have hq' : (if i = 0 then ty = .int ∧ scr (qa b b0 i) n (I i) H else _) := hq
        rw [if_pos h0] at hq'
        obtain ⟨-, cell, q1, -⟩ := hq'
        exact (Array.getElem?_eq_some_iff.mp q1).1
      · have hq' : (if i = 0 then _ else H[qa b b0 i]? = some (arrV (K ty) n (qE (qa b b0) I g.2.2 L ty i))) := hq
        rw [if_neg h0] at hq'
        exact (Array.getElem?_eq_some_iff.mp hq').1
theorem tOk_1 : tOk "java/lang/IndexOutOfBoundsException" 113 117 = true := by decide +kernel
theorem tOk_2 : tOk "java/lang/UnsupportedOperationException" 141 145 = true := by decide +kernel
theorem tOk_3 : tOk "java/lang/IllegalArgumentException" 54 58 = true := by decide +kernel
theorem tOk_4 : tOk "java/lang/IllegalStateException" 122 126 = true := by decide +kernel
section Throw
variable {M : aM} {d kc ks : Nat} {Q : aQ} {pc : Nat} {lo : List (Option aV)} {st : List aV} {g : aG} {I : aI} {L : aL}
theorem Ex_throw {E : String} {ik ic is : Nat} {text : String} (ht : tOk E ik ic = true) (hM : M.y.cls = RX8) (hh : M.hh = []) (hs : (is, text) ∈ qStr) (hd6 : 6 ≤ d) (hst : catL st ≤ 8)
    (d0 : decode M.cc pc = .ok (.new ik, 3)) (d3 : decode M.cc (pc + 3) = .ok (.dup, 1)) (d4 : decode M.cc (pc + 4) = .ok (.ldc is, 2)) (d6 : decode M.cc (pc + 6) = .ok (.invokespecial ic, 3)) (d9 : decode M.cc (pc + 9) = .ok (.athrow, 1))
    (hq : ∀ n, g.1 ≤ n → Q (.inr E) (n, g.2.1, g.2.2) I L) : Ex M d (kc + 1) (ks + 6) Q pc lo st g I L := by
  intro D K b b0 SA p l e R s m args below meth c H locs cells slots mc ms ls C hc hs' hz hS hl
  unfold tOk at ht
  simp only [Bool.and_eq_true, decide_eq_true_eq, List.all_eq_true] at ht
  obtain ⟨⟨⟨⟨⟨t1, t2⟩, t3⟩, t4⟩, t5⟩, t6⟩ := ht
  have hR := C.2.2.2.1
  have hKv := C.2.2.2.2.2.2.1
  have w := gT_of t5
  have hat : ∀ w ∈ vx_atS RX8 ic E tNames, w.before args s = true := by
    refine vx_hat (B := qB E) (fun w hw => C.2.1 _ (gT_of t2 w hw)) t3 ?_
    intro w hw
    unfold qB at hw
    rcases List.mem_cons.mp hw with rfl | h
    · exact va_Nw.use rfl (hKv.2.2.2.2.1 E t6)
    · obtain ⟨y, hy, rfl⟩ := List.mem_map.mp h
      exact va_Nw.use rfl (hKv.2.2.2.2.2.1 y hy)
  have hown : s.vm.findClass RX8 = some m.cls := by rw [← hM]; exact C.1.2.2.2.2.2.1
  have e0 : c.exceptionTable.toList = [] := by rw [C.2.2.2.2.1, hh]; rfl
  refine vx_throwS (names := tNames) (text := text) (sa := SA is) (A := qA b0) C.1.1 C.1.2.1 C.2.2.1 hown t1 (by decide +kernel) (C.2.1 _ (w _ List.mem_cons_self)) (C.2.1 _ (w _ (List.mem_cons_of_mem _ List.mem_cons_self))) (hKv.2.2.1 _ hs) hat t4 C.2.2.2.2.2.2.2.1 C.2.2.2.2.2.2.2.2.1 hS (hl.1.trans C.1.2.2.1.symm) d0 d3 d4 d6 d9 (by rw [e0]; intro x hx; cases hx) ?_ ?_ (by omega) (by omega) C.1.2.2.2.2.1 ?_ hS.2.2 (by omega) (by omega)
  · show 2 + 3 < R.frames
    omega
  · rw [catL_ok]
    show catL st + (13 * (2 + 1) + 43) ≤ R.locals
    omega
  · intro t hA hsz ho
    obtain ⟨n, hn, hz1⟩ := hz.grow hsz ho
    exact ⟨(n, g.2.1, g.2.2), I, L, hq n hn, hz1, ⟨Nat.le_trans hS.1 hsz, fun q h1 h2 => by rw [ho q (Nat.lt_of_lt_of_le h1 hS.1)]; exact hS.2.1 q h1 h2⟩⟩
/-- caught by a row of the method's own table, whose handler drops it and answers a number -/
theorem Xx_catch {E : String} {v : Int32} {n : Int} {a : Nat} {ln : Nat} (pre : List (Nat × Nat × Nat × Nat)) (x : Nat × Nat × Nat × Nat) (suf : List (Nat × Nat × Nat × Nat)) (hsp : M.hh = pre ++ x :: suf) (hE : E ∈ qExc)
    (hpass : ∀ z ∈ pre, z.2.2.2 ≠ 0 ∧ ∃ nm ∈ qExc, E ≠ nm ∧ Cond.classLink M.y.cls z.2.2.2 nm ∈ gT) (hx : x.1 ≤ pc ∧ pc < x.2.1) (hx0 : x.2.2.2 ≠ 0) (hlk : Cond.classLink M.y.cls x.2.2.2 E ∈ gT)
    (hast : (∃ k : Fin 4, (k : Nat) = a ∧ ln = 1 ∧ decode M.cc x.2.2.1 = .ok (.astore_n k, 1)) ∨ (ln = 2 ∧ decode M.cc x.2.2.1 = .ok (.astore a, 2))) (han : a < M.nL) (hic : decode M.cc (x.2.2.1 + ln) = .ok (.iconst n, 1)) (hv : Int32.ofInt n = v) (hir : decode M.cc (x.2.2.1 + ln + 1) = .ok (.ireturn, 1)) (hr : M.ret = some .int)
    (hq : Q (.inl (some (vI v))) g I L) : Xx M d kc ks Q pc lo E g I L := by
  intro D K b b0 SA p l e R s m args below meth c H locs cells slots mc ms ls q9 ce rest C hc hs hz hS hl h1 h2 h3
  have hKv := C.2.2.2.2.2.2.1
  refine vx_catch (own := M.y.cls) (name := E) C.1.2.2.2.2.2.1 (tableOf pre) ⟨x.1, x.2.1, x.2.2.1, x.2.2.2⟩ (tableOf suf) (by rw [C.2.2.2.2.1, hsp]; simp [tableOf]) ?_ (by simp [covers, hx]) hx0 (C.2.1 _ hlk) (va_Nw.use rfl (hKv.2.2.2.2.1 E hE)) h1 h2 h3 ?_
  · intro z hz
    obtain ⟨q, hq1, rfl⟩ := List.mem_map.mp hz
    obtain ⟨hp0, nm, hp1, hp2, hp3⟩ := hpass q hq1
    exact Or.inr ⟨hp0, nm, C.2.1 _ hp3, hKv.2.2.2.2.2.2.1 E hE nm hp1 hp2⟩
  · have tl : ∀ (ls' : Array Slot), W p l e R s m args below meth c H locs cells slots (vx_MQ below (qQ D K b b0 Q) (qX D K b b0 Q) args s mc ms (qA b0)) (F0 m (x.2.2.1 + ln) ls' []) := by
      intro ls'
      refine lv_iconst C.1.1 C.1.2.1 hic hv ?_
      refine W.widen (k := mc) (n := ms) (by omega) (by omega) (vx_ret ?_)
      have hlk := C.1.2.2.2.2.1
      exact W.iret (v := v) C.1.1 C.1.2.1 (C.1.2.2.2.1.trans hr) (fun t ht hW => ⟨⟨some (vI v), g, I, L, rfl, hq, by rw [ht]; exact hz⟩, hS.F ht⟩) hS.2.2 hir
    rcases hast with ⟨k, rfl, rfl, hk⟩ | ⟨rfl, hk⟩
    · exact lv_astore_n C.1.1 C.1.2.1 hk rfl hl.has han rfl (fun ls' _ => tl ls')
    · exact lv_astore C.1.1 C.1.2.1 hk hl.has han rfl (fun ls' _ => tl ls')
end Throw
