/-! what doing a TERM comes to: the middle between the class and the reference -/
/-- spent, used, numbers, befores, lengths, state, log, the error's number -/
abbrev mE : Type := Nat × Nat × (Nat → Int32) × (Nat → Int32) × (Nat → Int32) × Int32 × Int32 × Int32
abbrev mE.sp (e : mE) : Nat := e.1
abbrev mE.us (e : mE) : Nat := e.2.1
abbrev mE.nu (e : mE) : Nat → Int32 := e.2.2.1
abbrev mE.be (e : mE) : Nat → Int32 := e.2.2.2.1
abbrev mE.le (e : mE) : Nat → Int32 := e.2.2.2.2.1
abbrev mE.s (e : mE) : Int32 := e.2.2.2.2.2.1
abbrev mE.l (e : mE) : Int32 := e.2.2.2.2.2.2.1
abbrev mE.en (e : mE) : Int32 := e.2.2.2.2.2.2.2
/-- own state, own log, own error, an error loses the state, the log -/
abbrev mF : Type := Bool × Bool × Bool × Bool × Bool
/-- kind, named, operand, name, first, second -/
abbrev mB : Type := Nat → Nat × Int32 × Int32 × Int32 × Nat × Nat
abbrev mO : Type := Nat × List mR × mE
def nmF (env : Nat → Int32) (n : Int32) : Int32 := if 0 ≤ n ∧ n < 8 then env n.toNatClampNeg else 0
def upE (env : Nat → Int32) (n v : Int32) : Nat → Int32 := if 0 ≤ n ∧ n < 8 then up1 env n.toNatClampNeg v else env
def opF (env : Nat → Int32) (named x : Int32) : Int32 := if named = 0 then x else nmF env x
def rkF (k : Nat) (p q : Int32) : Int32 := if k = 14 then p + q else if k = 15 then p - q else if k = 16 then p * q else if k = 17 then (if p < q then 1 else 0) else (if p = q then 1 else 0)
def own2 (F : mF) (e : mE) (s l : Int32) : mE := (e.sp, e.us, e.nu, e.be, e.le, if F.1 = true then s else e.s, if F.2.1 = true then l else e.l, e.en)
def setSL (e : mE) (s l : Int32) : mE := (e.sp, e.us, e.nu, e.be, e.le, s, l, e.en)
def ansF (x : Int32) (e : mE) : mO := (0, [(x, 0, e.s, e.l)], e)
def lenF (e : mE) (l : Int32) : Int32 := gtL e.le e.us l
def sayF (e : mE) (x : Int32) : mE := (e.sp, e.us + 1, up1 e.nu e.us x, up1 e.be e.us e.l, up1 e.le e.us (lenF e e.l + 1), e.s, nI e.us, e.en)
def eachF (F : mF) (go : (Nat → Int32) → mE → mO) (oe nm : Int32) (env : Nat → Int32) : List mR → List mR → mE → mO
  | [], acc, e => (0, acc, e)
  | r :: rs, acc, e =>
    let q : mO := if r.2.1 = oe then go (upE env nm r.1) (own2 F e r.2.2.1 r.2.2.2) else (0, [r], e)
    if q.1 ≠ 0 then (q.1, [], q.2.2) else if 50 < (acc ++ q.2.1).length then (2, [], q.2.2) else eachF F go oe nm env rs (acc ++ q.2.1) q.2.2
def timesF (F : mF) (go : (Nat → Int32) → mE → mO) (env : Nat → Int32) : Nat → List mR → mE → mO
  | 0, rs, e => (0, rs, e)
  | n + 1, rs, e =>
    let q := eachF F go 0 (-1) env rs [] e
    if q.1 ≠ 0 then (q.1, [], q.2.2) else timesF F go env n q.2.1 q.2.2
def clampF (x : Int32) : Nat := if x < 0 then 0 else if 8 < x then 8 else x.toNatClampNeg
def eitherF (F : mF) (e : mE) (a : mO) (go : mE → mO) : mO :=
  if a.1 ≠ 0 then (a.1, [], a.2.2) else
    let q := go (own2 F a.2.2 e.s e.l)
    if q.1 ≠ 0 then (q.1, [], q.2.2) else if 50 < (a.2.1 ++ q.2.1).length then (2, [], q.2.2) else (0, a.2.1 ++ q.2.1, q.2.2)
def savedM (F : mF) (e : mE) (r : mR) : mR := if r.2.1 = 0 then r else (r.1, r.2.1, if F.2.2.2.1 = true then e.s else r.2.2.1, if F.2.2.2.2 = true then e.l else r.2.2.2)
def savedF (F : mF) (e : mE) (a : mO) (go : (Nat → Int32) → mE → mO) (nm : Int32) (env : Nat → Int32) : mO :=
  if a.1 = 1 then go (upE env nm a.2.2.en) (setSL a.2.2 (if F.2.2.2.1 = true then e.s else a.2.2.s) (if F.2.2.2.2 = true then e.l else a.2.2.l))
  else if a.1 ≠ 0 then (a.1, [], a.2.2) else eachF F go 1 nm env (a.2.1.map (savedM F e)) [] a.2.2
def heardM (F : mF) (len0 : Int32) (e : mE) (r : mR) : mR := if r.2.1 = 0 then (lenF e (if F.2.1 = true then r.2.2.2 else e.l) - len0, r.2.1, r.2.2.1, r.2.2.2) else r
def hiddenM (l : Int32) (r : mR) : mR := (r.1, r.2.1, r.2.2.1, l)
def ev (F : mF) (B : mB) (lim : Nat) : Nat → Nat → (Nat → Int32) → mE → mO
  | 0, _, _, e => (2, [], e)
  | f + 1, t, env, e0 =>
    if lim ≤ e0.sp then (2, [], e0) else
    let e : mE := (e0.sp + 1, e0.2)
    let x := opF env (B t).2.1 (B t).2.2.1
    let nm := (B t).2.2.2.1
    let a := (B t).2.2.2.2.1
    let b := (B t).2.2.2.2.2
    match (B t).1 with
    | 0 => ansF x e
    | 1 => ansF e.s e
    | 2 => ansF e.s (setSL e x e.l) 
    | 3 => if 60 < lenF e e.l + 1 then (2, [], e) else ansF x (sayF e x)
    | 4 => if F.2.2.1 = true then (0, [(x, 1, e.s, e.l)], e) else (1, [], (e.sp, e.us, e.nu, e.be, e.le, e.s, e.l, x))
    | 5 => (0, [], e)
    | 6 => eitherF F e (ev F B lim f a env e) (ev F B lim f b env)
    | 7 => let q := ev F B lim f a env e
      if q.1 ≠ 0 then (q.1, [], q.2.2) else eachF F (ev F B lim f b) 0 nm env q.2.1 [] q.2.2
    | 8 => savedF F e (ev F B lim f a env e) (ev F B lim f b) nm env
    | 9 => ev F B lim f (if nmF env nm = 0 then b else a) env e
    | 10 => timesF F (ev F B lim f a) env (clampF x) [(0, 0, e.s, e.l)] e
    | 11 => let q := ev F B lim f a env e
      if q.1 ≠ 0 then (q.1, [], q.2.2) else (0, q.2.1.take 1, q.2.2)
    | 12 => let q := ev F B lim f a env e
      if q.1 ≠ 0 then (q.1, [], q.2.2) else (0, q.2.1.map (heardM F (lenF e e.l) q.2.2), q.2.2)
    | 13 => let q := ev F B lim f a env e
      if q.1 ≠ 0 then (q.1, [], q.2.2) else (0, q.2.1.map (hiddenM e.l), setSL q.2.2 q.2.2.s e.l)
    | k => ansF (rkF k x (nmF env nm)) e
