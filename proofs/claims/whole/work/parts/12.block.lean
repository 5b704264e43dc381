/-! a basic block at once -/
abbrev aT : Type := (Nat → Option aSh) × (Nat → Nat → Option aV)
/-- the reference that a value is -/
def rfV (v : aV) (r : Option Nat) : Prop := match v with
  | .inr (.inl j) => r = some j
  | .inr (.inr (.inl q)) => r = q
  | _ => False
def Wf (T : aT) (g : aG) : Prop := ∀ (i : Nat) (c : aSh), T.1 i = some c → i ≠ 0 ∧ g.2.1 i = some c ∧ ∀ k v, T.2 i k = some v → rfV v (g.2.2 i k)
def nth {α : Type} : List α → Nat → Option α
  | [], _ => none
  | a :: _, 0 => some a
  | _ :: l, n + 1 => nth l n
theorem nth_eq {α : Type} : ∀ (l : List α) (n : Nat), nth l n = l[n]?
  | [], n => by simp [nth]
  | a :: l, 0 => rfl
  | a :: l, n + 1 => by rw [List.getElem?_cons_succ]; exact nth_eq l n
def lsetK : List (Option aV) → Nat → aV → (List (Option aV) → Prop) → Prop
  | [], _, _, _ => False
  | _ :: l, 0, v, k => k (some v :: l)
  | a :: l, n + 1, v, k => lsetK l n v (fun l' => k (a :: l'))
theorem lsetK_eq : ∀ (l : List (Option aV)) (n : Nat) (v : aV) (k : List (Option aV) → Prop), lsetK l n v k → k (l.set n (some v))
  | [], _, _, _, h => h.elim
  | _ :: _, 0, _, _, h => h
  | a :: l, n + 1, v, k, h => lsetK_eq l n v (fun l' => k (a :: l')) h
/-- the local a, an int -/
def ldI (lo : List (Option aV)) (a : Nat) (k : Int32 → Prop) : Prop := match nth lo a with
  | some (some (.inl x)) => k x
  | _ => False
/-- the local a, a reference -/
def ldA (lo : List (Option aV)) (a : Nat) (k : aV → Prop) : Prop := match nth lo a with
  | some (some (.inr (.inl i))) => k (vS i)
  | some (some (.inr (.inr (.inl r)))) => k (vD r)
  | _ => False
def brK (c : Prop) (A B : Prop) : Prop := (c → A) ∧ (¬ c → B)
def stp (T : aT) (M : aM) (d kc ks : Nat) (Q : aQ) (g : aG) (J : Nat → List (Option aV) → List aV → aI → aL → Prop) (row : aR) (k : List (Option aV) → List aV → aI → aL → Prop) (lo : List (Option aV)) (st : List aV) (I : aI) (L : aL) : Prop :=
  match row with
  | (pc, i, _, x, a, b) =>
  match i with
  | .iconst _ => k lo (vI x :: st) I L
  | .bipush _ => k lo (vI x :: st) I L
  | .sipush _ => k lo (vI x :: st) I L
  | .lconst _ => k lo (vJ x.toInt64 :: st) I L
  | .iload_n j => ldI lo j (fun v => k lo (vI v :: st) I L)
  | .iload j => ldI lo j (fun v => k lo (vI v :: st) I L)
  | .aload_n j => ldA lo j (fun v => k lo (v :: st) I L)
  | .aload j => ldA lo j (fun v => k lo (v :: st) I L)
  | .istore_n j => (match st with
    | .inl v :: st' => lsetK lo j (vI v) (fun lo' => k lo' st' I L)
    | _ => False)
  | .istore j => (match st with
    | .inl v :: st' => lsetK lo j (vI v) (fun lo' => k lo' st' I L)
    | _ => False)
  | .astore_n j => (match st with
    | .inr (.inl v) :: st' => lsetK lo j (vS v) (fun lo' => k lo' st' I L)
    | .inr (.inr (.inl v)) :: st' => lsetK lo j (vD v) (fun lo' => k lo' st' I L)
    | _ => False)
  | .astore j => (match st with
    | .inr (.inl v) :: st' => lsetK lo j (vS v) (fun lo' => k lo' st' I L)
    | .inr (.inr (.inl v)) :: st' => lsetK lo j (vD v) (fun lo' => k lo' st' I L)
    | _ => False)
  | .iinc j _ => ldI lo j (fun v => lsetK lo j (vI (v + x)) (fun lo' => k lo' st I L))
  | .iadd => (match st with
    | .inl z :: .inl y :: st' => k lo (vI (y + z) :: st') I L
    | _ => False)
  | .isub => (match st with
    | .inl z :: .inl y :: st' => k lo (vI (y - z) :: st') I L
    | _ => False)
  | .imul => (match st with
    | .inl z :: .inl y :: st' => k lo (vI (y * z) :: st') I L
    | _ => False)
  | .iand => (match st with
    | .inl z :: .inl y :: st' => k lo (vI (y &&& z) :: st') I L
    | _ => False)
  | .ior => (match st with
    | .inl z :: .inl y :: st' => k lo (vI (y ||| z) :: st') I L
    | _ => False)
  | .ixor => (match st with
    | .inl z :: .inl y :: st' => k lo (vI (y ^^^ z) :: st') I L
    | _ => False)
  | .ishl => (match st with
    | .inl z :: .inl y :: st' => k lo (vI (y <<< (z &&& 31)) :: st') I L
    | _ => False)
  | .ishr => (match st with
    | .inl z :: .inl y :: st' => k lo (vI (y >>> (z &&& 31)) :: st') I L
    | _ => False)
  | .iushr => (match st with
    | .inl z :: .inl y :: st' => k lo (vI (y.toUInt32 >>> (z.toUInt32 &&& Int32.toUInt32 31)).toInt32 :: st') I L
    | _ => False)
  | .i2l => (match st with
    | .inl y :: st' => k lo (vJ y.toInt64 :: st') I L
    | _ => False)
  | .lcmp => (match st with
    | .inr (.inr (.inr z)) :: .inr (.inr (.inr y)) :: st' => k lo (vI (lg_cmp y z) :: st') I L
    | _ => False)
  | .dup => (match st with
    | .inl y :: st' => k lo (vI y :: vI y :: st') I L
    | .inr (.inl y) :: st' => k lo (vS y :: vS y :: st') I L
    | .inr (.inr (.inl y)) :: st' => k lo (vD y :: vD y :: st') I L
    | _ => False)
  | .dup2 => (match st with
    | .inl y :: .inr (.inl z) :: st' => k lo (vI y :: vS z :: vI y :: vS z :: st') I L
    | _ => False)
  | .aconst_null => k lo (vD none :: st) I L
  | .pop => (match st with
    | .inl _ :: st' => k lo st' I L
    | _ => False)
  | .getfield _ => (match st with
    | .inr (.inl i) :: st' => (match T.1 i with
      | some (.inl ci) => cond (Nat.beq ci a) (cond (isI (qt a b)) (k lo (vI (I i b) :: st') I L) (match T.2 i b with
        | some v => k lo (v :: st') I L
        | none => k lo (vD (g.2.2 i b) :: st') I L)) False
      | _ => False)
    | .inr (.inr (.inl (some i))) :: st' => g.2.1 i = some (.inl a) ∧ cond (isI (qt a b)) (k lo (vI (I i b) :: st') I L) (k lo (vD (g.2.2 i b) :: st') I L)
    | _ => False)
  | .putfield _ => cond (isI (qt a b) && !fFin a b) (match st with
    | .inl v :: .inr (.inl i) :: st' => (match T.1 i with
      | some (.inl ci) => cond (Nat.beq ci a) (match qt a b with
        | .boolean => (v = 0 ∨ v = 1) ∧ k lo st' (up2 I i b v) L
        | .int => k lo st' (up2 I i b v) L
        | _ => False) False
      | _ => False)
    | .inl v :: .inr (.inr (.inl (some i))) :: st' => (g.2.1 i = some (.inl a) ∧ i ≠ 0 ∧ fitI (qt a b) v) ∧ k lo st' (up2 I i b v) L
    | _ => False) (Ex M d kc ks Q pc lo st g I L)
  | .iaload => (match st with
    | .inl j :: .inr (.inl i) :: st' => (match T.1 i with
      | some (.inr (.int, n)) => vp_in j n ∧ k lo (vI (I i j.toNatClampNeg) :: st') I L
      | _ => False)
    | .inl j :: .inr (.inr (.inl (some i))) :: st' => ∃ n, (g.2.1 i = some (.inr (.int, n)) ∧ vp_in j n) ∧ k lo (vI (I i j.toNatClampNeg) :: st') I L
    | _ => False)
  | .baload => (match st with
    | .inl j :: .inr (.inl i) :: st' => (match T.1 i with
      | some (.inr (.boolean, n)) => vp_in j n ∧ k lo (vI (I i j.toNatClampNeg) :: st') I L
      | _ => False)
    | _ => False)
  | .iastore => (match st with
    | .inl v :: .inl j :: .inr (.inl i) :: st' => (match T.1 i with
      | some (.inr (.int, n)) => vp_in j n ∧ k lo st' (up2 I i j.toNatClampNeg v) L
      | _ => False)
    | .inl v :: .inl j :: .inr (.inr (.inl (some i))) :: st' => ∃ n, (g.2.1 i = some (.inr (.int, n)) ∧ i ≠ 0 ∧ vp_in j n) ∧ k lo st' (up2 I i j.toNatClampNeg v) L
    | _ => False)
  | .bastore => (match st with
    | .inl v :: .inl j :: .inr (.inl i) :: st' => (match T.1 i with
      | some (.inr (.boolean, n)) => (vp_in j n ∧ (v = 0 ∨ v = 1)) ∧ k lo st' (up2 I i j.toNatClampNeg v) L
      | _ => False)
    | _ => False)
  | .laload => (match st with
    | .inl j :: .inr (.inl i) :: st' => (match T.1 i with
      | some (.inr (.long, n)) => vp_in j n ∧ k lo (vJ (L i) :: st') I L
      | _ => False)
    | _ => False)
  | .lastore => (match st with
    | .inr (.inr (.inr v)) :: .inl j :: .inr (.inl i) :: st' => (match T.1 i with
      | some (.inr (.long, 1)) => vp_in j 1 ∧ k lo st' I (up1 L i v)
      | _ => False)
    | _ => False)
  | .aaload => (match st with
    | .inl j :: .inr (.inl i) :: st' => (match T.1 i with
      | some (.inr (.object T0, n)) => (T0 = RX7 ∨ T0 = RX6) ∧ vp_in j n ∧ k lo (vD (g.2.2 i j.toNatClampNeg) :: st') I L
      | _ => False)
    | .inl j :: .inr (.inr (.inl (some i))) :: st' => ∃ n T0, ((T0 = RX7 ∨ T0 = RX6) ∧ g.2.1 i = some (.inr (.object T0, n)) ∧ vp_in j n) ∧ k lo (vD (g.2.2 i j.toNatClampNeg) :: st') I L
    | _ => False)
  | .arraylength => (match st with
    | .inr (.inl i) :: st' => (match T.1 i with
      | some (.inr (.int, n)) => k lo (vI (Int32.ofNat n) :: st') I L
      | _ => False)
    | .inr (.inr (.inl (some i))) :: st' => ∃ ty n, (ty ∈ qTy ∧ g.2.1 i = some (.inr (ty, n))) ∧ k lo (vI (Int32.ofNat n) :: st') I L
    | _ => False)
  | .goto _ => J a lo st I L
  | .ifCond op _ => (match st with
    | .inl v :: st' => (match op with
      | .eq => brK (v = 0) (J a lo st' I L) (J (pc + 3) lo st' I L)
      | .ne => brK (v = 0) (J (pc + 3) lo st' I L) (J a lo st' I L)
      | .lt => brK (v < 0) (J a lo st' I L) (J (pc + 3) lo st' I L)
      | .ge => brK (0 ≤ v) (J a lo st' I L) (J (pc + 3) lo st' I L)
      | .gt => brK (0 < v) (J a lo st' I L) (J (pc + 3) lo st' I L)
      | .le => brK (v ≤ 0) (J a lo st' I L) (J (pc + 3) lo st' I L))
    | _ => False)
  | .if_icmp op _ => (match st with
    | .inl z :: .inl v :: st' => (match op with
      | .eq => brK (v = z) (J a lo st' I L) (J (pc + 3) lo st' I L)
      | .ne => brK (v = z) (J (pc + 3) lo st' I L) (J a lo st' I L)
      | .lt => brK (v < z) (J a lo st' I L) (J (pc + 3) lo st' I L)
      | .ge => brK (z ≤ v) (J a lo st' I L) (J (pc + 3) lo st' I L)
      | .gt => brK (z < v) (J a lo st' I L) (J (pc + 3) lo st' I L)
      | .le => brK (v ≤ z) (J a lo st' I L) (J (pc + 3) lo st' I L))
    | _ => False)
  | .ifnull _ => (match st with
    | .inr (.inl _) :: st' => J (pc + 3) lo st' I L
    | .inr (.inr (.inl (some _))) :: st' => J (pc + 3) lo st' I L
    | .inr (.inr (.inl none)) :: st' => J a lo st' I L
    | _ => False)
  | .ifnonnull _ => (match st with
    | .inr (.inl _) :: st' => J a lo st' I L
    | .inr (.inr (.inl (some _))) :: st' => J a lo st' I L
    | .inr (.inr (.inl none)) :: st' => J (pc + 3) lo st' I L
    | _ => False)
  | .ireturn => (match st with
    | [.inl v] => (match M.ret with
      | some .int => Q (.inl (some (vI v))) g I L
      | some .boolean => (v = 0 ∨ v = 1) ∧ Q (.inl (some (vI v))) g I L
      | _ => False)
    | _ => False)
  | .areturn => (match st with
    | [.inr (.inr (.inl r))] => (match M.ret with
      | some (.object _) => Q (.inl (some (vD r))) g I L
      | _ => False)
    | [.inr (.inl i)] => (match M.ret with
      | some (.object _) => Q (.inl (some (vD (some i)))) g I L
      | _ => False)
    | _ => False)
  | .return_ => (match st with
    | [] => (match M.ret with
      | none => Q (.inl none) g I L
      | _ => False)
    | _ => False)
  | _ => Ex M d kc ks Q pc lo st g I L
def bx (T : aT) (M : aM) (d kc ks : Nat) (Q : aQ) (g : aG) (J : Nat → List (Option aV) → List aV → aI → aL → Prop) : List aR → List (Option aV) → List aV → aI → aL → Prop
  | [] => fun _ _ _ _ => False
  | row :: r => stp T M d kc ks Q g J row (bx T M d kc ks Q g J r)
def fr : List aR → Nat → List aR
  | [], _ => []
  | r :: l, pc => cond (Nat.beq r.1 pc) (r :: l) (fr l pc)
def hasN : List Nat → Nat → Bool
  | [], _ => false
  | a :: l, n => cond (Nat.beq a n) true (hasN l n)
/-- block after block, but no further than the cuts -/
def wx (T : aT) (M : aM) (d kc ks : Nat) (Q : aQ) (g : aG) (cuts : List Nat) : Nat → Nat → List (Option aV) → List aV → aI → aL → Prop
  | 0, pc => fun lo st I L => Ex M d kc ks Q pc lo st g I L
  | f + 1, pc => bx T M d kc ks Q g (fun pc' lo st I L => cond (hasN cuts pc') (Ex M d kc ks Q pc' lo st g I L) (wx T M d kc ks Q g cuts f pc' lo st I L)) (fr M.code pc)
/-- at most n rows -/
def bn (T : aT) (M : aM) (d kc ks : Nat) (Q : aQ) (g : aG) (J : Nat → List (Option aV) → List aV → aI → aL → Prop) : Nat → List aR → List (Option aV) → List aV → aI → aL → Prop
  | _, [] => fun _ _ _ _ => False
  | 0, row :: _ => fun lo st I L => Ex M d kc ks Q row.1 lo st g I L
  | n + 1, row :: r => stp T M d kc ks Q g J row (bn T M d kc ks Q g J n r)
