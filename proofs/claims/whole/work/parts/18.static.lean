/-! the things that never move -/
def sTa : List (Option aSh) := [none, some (.inl 8), some (.inr (.object RX7, 80)), some (.inl 3), some (.inl 5), some (.inr (.int, 3100)), some (.inr (.boolean, 3100)), some (.inr (.int, 3100)), some (.inr (.int, 3100)), some (.inl 2), some (.inr (.int, 2001)), some (.inr (.int, 2001)), some (.inr (.int, 2001)), some (.inr (.int, 8)), none, some (.inl 4), some (.inl 6), some (.inr (.int, 65)), some (.inr (.object RX6, 50))]
def sTb : List (Option aSh) := [some (.inl 4), some (.inl 6), some (.inr (.int, 65)), some (.inr (.object RX6, 50))]
def sTc : List (Option aSh) := [some (.inl 9), some (.inr (.int, 80)), some (.inr (.int, 80)), some (.inr (.int, 80)), some (.inr (.int, 80)), some (.inr (.boolean, 80)), some (.inr (.int, 80)), some (.inr (.int, 80)), some (.inr (.int, 4)), some (.inr (.int, 2002)), some (.inr (.int, 2002)), some (.inr (.int, 2002)), some (.inr (.int, 32)), some (.inr (.int, 32)), some (.inr (.int, 32)), some (.inr (.int, 32)), some (.inr (.int, 32)), some (.inr (.int, 32)), some (.inr (.int, 32)), some (.inr (.int, 32)), some (.inr (.int, 256)), some (.inr (.int, 64)), some (.inr (.boolean, 3200)), some (.inr (.int, 3200)), some (.inr (.int, 3200)), some (.inr (.int, 3200)), some (.inr (.int, 2)), some (.inr (.boolean, 100)), some (.inr (.int, 120)), some (.inr (.boolean, 100)), some (.inr (.int, 120)), some (.inr (.int, 120)), some (.inr (.int, 6000)), some (.inr (.int, 12)), some (.inr (.int, 120)), some (.inr (.int, 6)), some (.inr (.int, 60)), some (.inr (.boolean, 60)), some (.inr (.int, 60)), some (.inr (.boolean, 60)), some (.inr (.int, 60)), some (.inr (.int, 60)), some (.inr (.int, 3600)), some (.inr (.long, 1))]
def nthO {α : Type} (l : List (Option α)) (i : Nat) : Option α := match nth l i with
  | some x => x
  | none => none
def sT (i : Nat) : Option aSh := cond (Nat.ble 328 i) (nthO sTc (i - 328)) (cond (Nat.ble i 18) (nthO sTa i) (cond (Nat.ble 223 i) (nthO sTb (i - 223)) (cond (Nat.ble 119 i) (nthO sTb (i - 119)) none)))
def rTm : List (Option Nat) := [none, none, some 329, some 330, some 331, some 332, some 333, some 334, some 335, some 336, none, some 337, some 338, some 339, none, some 340, some 341, some 342, some 343, some 344, some 345, some 346, some 347, some 348, some 349, some 350, some 351, some 352, some 353, none, none, none, none, none, none, none, some 354, some 355, some 356, some 357, some 358, some 359, some 360, some 361, some 362, none, some 363, some 364, some 365, some 366, some 367, some 368, some 369, some 370]
def rTa : List (Option (List (Option Nat))) := [none, some [some 2, some 3, some 15, some 119, some 223], none, some [some 4, some 9, some 13], some [some 5, some 6, some 7, some 8], none, none, none, none, some [some 10, some 11, some 12], none, none, none, none, none, some [none, some 16, some 18], some [some 17]]
def rTk (l : Option (List (Option Nat))) (k : Nat) : Option Nat := match l with
  | some l => nthO l k
  | none => none
def rT (i k : Nat) : Option Nat := cond (Nat.beq i 328) (nthO rTm k) (cond (Nat.ble i 16) (rTk (nthO rTa i) k) (cond (Nat.beq i 119) (nthO [none, some 120, some 122] k) (cond (Nat.beq i 120) (nthO [some 121] k) (cond (Nat.beq i 223) (nthO [none, some 224, some 226] k) (cond (Nat.beq i 224) (nthO [some 225] k) none)))))
/-- the static table, with the layering of the object (lx) and of the machine (ly) -/
def tS (lx ly : Nat) : aT := (sT, fun i k => cond (Nat.beq i 3 && Nat.beq k 3) (some (vD (some ly))) (cond (Nat.beq i 1 && Nat.beq k 6) (some (vD (some lx))) (match rT i k with
  | some j => some (vS j)
  | none => none)))
abbrev WS (lx ly : Nat) (g : aG) : Prop := Wf (tS lx ly) g
def noJ : List aV → Bool
  | [] => true
  | .inr (.inr (.inr _)) :: _ => false
  | _ :: r => noJ r
theorem noJ_ok : ∀ (av : List aV), noJ av = true → ∀ w ∈ av, ∀ x, w ≠ vJ x
  | [], _, w, hw, _ => by cases hw
  | v :: r, h, w, hw, x => by
    rcases v with y | i | q | y
    · rcases List.mem_cons.mp hw with rfl | hw
      · intro e; cases e
      · exact noJ_ok r h w hw x
    · rcases List.mem_cons.mp hw with rfl | hw
      · intro e; cases e
      · exact noJ_ok r h w hw x
    · rcases List.mem_cons.mp hw with rfl | hw
      · intro e; cases e
      · exact noJ_ok r h w hw x
    · cases h
/-- the one outcome: it returns v, the heap then -/
def qV (v : Option aV) (g : aG) (I : aI) (L : aL) : aQ := fun o g' I' L' => o = .inl v ∧ g' = g ∧ I' = I ∧ L' = L
/-- it throws E; cells may have come -/
def qT (E : String) (g : aG) (I : aI) (L : aL) : aQ := fun o g' I' L' => o = .inr E ∧ (∃ n, g.1 ≤ n ∧ g' = (n, g.2.1, g.2.2)) ∧ I' = I ∧ L' = L
section Use
variable {M N : aM} {d d' kc ks kc' ks' : Nat} {Q Q' : aQ} {pc idx : Nat} {lo : List (Option aV)} {st As av : List aV} {g g' : aG} {I I' : aI} {L L' : aL} {v : Option aV}
theorem Mx_in (hy : plainName M.y.cls = true) (hc : noJ av = true) (hn : Nat.ble av.length M.nL = true) (k : Ex M d kc ks Q 0 (lo0 av M.nL) [] g I L) : Mx M d kc ks av g I L Q := Mx_of hy (noJ_ok av hc) (Nat.le_of_ble_eq_true hn) k
theorem Ex_V {i ci : Nat} {q : vw_C} (ok : cOk M N idx As.length) (w1 : Cond.instanceMethod N.y ∈ gT) (w2 : Cond.selects N.y.cls N.y N.y ∈ gT) (hq : qC[ci]? = some q) (hq1 : q.1 = N.y.cls) (hM : Mx N d' 0 0 (vS i :: As) g I L (qV v g' I' L')) (hi : g.2.1 i = some (.inl ci)) (hd' : d' + 1 ≤ d) (hst : Nat.ble (catL st) 8 = true) (hd : decode M.cc pc = .ok (.invokevirtual idx, 3))
    (kk : Ex M d kc ks Q (pc + 3) lo (v.toList ++ st) g' I' L') : Ex M d kc ks Q pc lo (As.reverse ++ vS i :: st) g I L := by
  refine Ex_callV ok w1 w2 hq hq1 hi hM hd' (Nat.le_of_ble_eq_true hst) hd ?_ ?_
  · rintro _ _ _ _ ⟨e, rfl, rfl, rfl⟩
    cases e
    exact kk
  · rintro _ _ _ _ ⟨e, -⟩
    cases e
theorem Ex_S (ok : cOk M N idx As.length) (w1 : Cond.static N.y ∈ gT) (hM : Mx N d' 0 0 As g I L (qV v g' I' L')) (hd' : d' + 1 ≤ d) (hst : Nat.ble (catL st) 8 = true) (hd : decode M.cc pc = .ok (.invokestatic idx, 3))
    (kk : Ex M d kc ks Q (pc + 3) lo (v.toList ++ st) g' I' L') : Ex M d kc ks Q pc lo (As.reverse ++ st) g I L := by
  refine Ex_callS ok w1 hM hd' (Nat.le_of_ble_eq_true hst) hd ?_ ?_
  · rintro _ _ _ _ ⟨e, rfl, rfl, rfl⟩
    cases e
    exact kk
  · rintro _ _ _ _ ⟨e, -⟩
    cases e
end Use
