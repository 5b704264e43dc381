/-! the evaluator's LOGs -/
theorem nI_mul (a b : Nat) : nI a * nI b = nI (a * b) := (Int32.ofNat_mul a b).symm
def inL (us : Nat) (l : Int32) : Prop := ∃ j, j < us ∧ l = nI j
def invL (e : mE) : Prop := (∀ k, 1 ≤ k → k < e.us → (∃ j, j < k ∧ e.be k = nI j) ∧ ∃ n, n ≤ 60 ∧ e.le k = nI n) ∧ inL e.us e.l
def grow (e e' : mE) : Prop := e.us ≤ e'.us ∧ ∀ k, k < e.us → e'.nu k = e.nu k ∧ e'.be k = e.be k ∧ e'.le k = e.le k
def rowL (us : Nat) (rs : List mR) : Prop := ∀ r ∈ rs, inL us r.2.2.2
def okL (e : mE) (q : mO) : Prop := invL q.2.2 ∧ grow e q.2.2 ∧ rowL q.2.2.us q.2.1
def lgG (lim : Nat) (go : (Nat → Int32) → mE → mO) : Prop := ∀ env e, invE lim e → invL e → okL e (go env e)
theorem inL.mono {us us' : Nat} {l : Int32} (h : inL us l) (hu : us ≤ us') : inL us' l := by
  obtain ⟨j, hj, rfl⟩ := h
  exact ⟨j, by omega, rfl⟩
theorem rowL.mono {us us' : Nat} {rs : List mR} (h : rowL us rs) (hu : us ≤ us') : rowL us' rs := fun r hr => (h r hr).mono hu
theorem rowL.nil {us : Nat} : rowL us [] := fun r hr => by cases hr
theorem rowL.app {us : Nat} {a b : List mR} (ha : rowL us a) (hb : rowL us b) : rowL us (a ++ b) := fun r hr => (List.mem_append.mp hr).elim (ha r) (hb r)
theorem grow.refl {e : mE} : grow e e := ⟨Nat.le_refl _, fun _ _ => ⟨rfl, rfl, rfl⟩⟩
theorem grow.trans {e e1 e2 : mE} (h : grow e e1) (h' : grow e1 e2) : grow e e2 := ⟨Nat.le_trans h.1 h'.1, fun k hk => by
  have a := h.2 k hk
  have b := h'.2 k (Nat.lt_of_lt_of_le hk h.1)
  exact ⟨b.1.trans a.1, b.2.1.trans a.2.1, b.2.2.trans a.2.2⟩⟩
theorem own2_invL {F : mF} {e : mE} {s l : Int32} (h : invL e) (hl : inL e.us l) : invL (own2 F e s l) := by
  refine ⟨h.1, ?_⟩
  show inL e.us (if F.2.1 = true then l else e.l)
  split
  · exact hl
  · exact h.2
theorem setSL_invL {e : mE} {s l : Int32} (h : invL e) (hl : inL e.us l) : invL (setSL e s l) := ⟨h.1, hl⟩
theorem ans_okL {e : mE} {x : Int32} (h : invL e) : okL e (ansF x e) := ⟨h, grow.refl, fun r hr => by
  simp only [ansF, List.mem_singleton] at hr
  rw [hr]; exact h.2⟩
theorem lenF_ok {e : mE} {l : Int32} (h : invL e) (hu : e.us ≤ 2001) (hl : inL e.us l) : ∃ n, n ≤ 60 ∧ lenF e l = nI n := by
  unfold lenF gtL
  split
  · rename_i c
    obtain ⟨j, hj, rfl⟩ := hl
    rw [clN (by omega)]
    refine (h.1 j ?_ hj).2
    by_cases h0 : j = 0
    · subst h0; exact absurd c.1 (by decide)
    · omega
  · exact ⟨0, by omega, rfl⟩
theorem each_log {lim : Nat} {F : mF} {go : (Nat → Int32) → mE → mO} {oe nm : Int32} {env : Nat → Int32} (hg : lgG lim go) (hk : okG lim go) : ∀ (rs acc : List mR) (e : mE), invE lim e → errR rs → invL e → rowL e.us rs → rowL e.us acc → okL e (eachF F go oe nm env rs acc e) := by
  intro rs
  induction rs with
  | nil => intro acc e h1 h0 h2 h3 h4; exact ⟨h2, grow.refl, h4⟩
  | cons r rs ih =>
    intro acc e h1 h0 h2 h3 h4
    simp only [eachF]
    generalize hq : (if r.2.1 = oe then go (upE env nm r.1) (own2 F e r.2.2.1 r.2.2.2) else (0, [r], e) : mO) = q
    have hr := h3 r List.mem_cons_self
    have hqo : okL e q ∧ okO lim q := by
      rw [← hq]
      split
      · exact ⟨hg _ _ (own2_inv h1) (own2_invL h2 hr), hk _ _ (own2_inv h1)⟩
      · exact ⟨⟨h2, grow.refl, fun x hx => by rw [List.mem_singleton.mp hx]; exact hr⟩, Nat.zero_le _, h1, fun _ => ⟨by simp, fun x hx => by rw [List.mem_singleton.mp hx]; exact h0 r List.mem_cons_self⟩⟩
    split
    · exact ⟨hqo.1.1, hqo.1.2.1, rowL.nil⟩
    · split
      · exact ⟨hqo.1.1, hqo.1.2.1, rowL.nil⟩
      · have h9 := ih (acc ++ q.2.1) q.2.2 hqo.2.2.1 (fun x hx => h0 x (List.mem_cons_of_mem _ hx)) hqo.1.1 (fun x hx => (h3 x (List.mem_cons_of_mem _ hx)).mono hqo.1.2.1.1) ((h4.mono hqo.1.2.1.1).app hqo.1.2.2)
        exact ⟨h9.1, hqo.1.2.1.trans h9.2.1, h9.2.2⟩
theorem times_log {lim : Nat} {F : mF} {go : (Nat → Int32) → mE → mO} {env : Nat → Int32} (hg : lgG lim go) (hk : okG lim go) : ∀ (n : Nat) (rs : List mR) (e : mE), invE lim e → errR rs → invL e → rowL e.us rs → okL e (timesF F go env n rs e) := by
  intro n
  induction n with
  | zero => intro rs e h1 h0 h2 h3; exact ⟨h2, grow.refl, h3⟩
  | succ n ih =>
    intro rs e h1 h0 h2 h3
    simp only [timesF]
    have hq := each_log (F := F) (oe := 0) (nm := -1) (env := env) hg hk rs [] e h1 h0 h2 h3 rowL.nil
    have hq2 := each_ok (F := F) (oe := 0) (nm := -1) (env := env) hk rs [] e h1 h0 (fun x hx => by cases hx) (by simp)
    split
    · exact ⟨hq.1, hq.2.1, rowL.nil⟩
    · rename_i hne
      have hz := Decidable.not_not.mp hne
      have h9 := ih _ _ hq2.2.1 (hq2.2.2 hz).2 hq.1 hq.2.2
      exact ⟨h9.1, hq.2.1.trans h9.2.1, h9.2.2⟩
theorem ev_log {F : mF} {B : mB} {lim : Nat} (hlim : lim ≤ 2000) : ∀ (f t : Nat) (env : Nat → Int32) (e : mE), invE lim e → invL e → okL e (ev F B lim f t env e) := by
  intro f
  induction f with
  | zero => intro t env e h hl; exact ⟨hl, grow.refl, rowL.nil⟩
  | succ f ih =>
    intro t env e0 h0 hl0
    simp only [ev]
    split
    · exact ⟨hl0, grow.refl, rowL.nil⟩
    · rename_i hsp
      have hge : grow e0 ((e0.sp + 1, e0.2) : mE) := ⟨Nat.le_refl _, fun _ _ => ⟨rfl, rfl, rfl⟩⟩
      have hl : invL ((e0.sp + 1, e0.2) : mE) := hl0
      generalize he : ((e0.sp + 1, e0.2) : mE) = e at hge hl
      have h : invE lim e := by
        rw [← he]
        obtain ⟨h1, h2, h3⟩ := h0
        exact ⟨h1, by show e0.us ≤ e0.sp + 1 + 1; omega, by show e0.sp + 1 ≤ lim; omega⟩
      have hsu : mE.us e ≤ mE.sp e := by
        rw [← he]; exact h0.2.1
      have hu : mE.us e ≤ 2001 := by have := h.2.2; omega
      have hk : ∀ t, okG lim (ev F B lim f t) := fun t env e h => ev_ok f t env e h
      have hgo : ∀ t, lgG lim (ev F B lim f t) := fun t env e h hl => ih t env e h hl
      suffices hX : ∀ q : mO, okL e q → okL e0 q by
        apply hX
        have hne : ∀ (q : mO), okL e q → okL e (q.1, [], q.2.2) := fun q hq => ⟨hq.1, hq.2.1, rowL.nil⟩
        split
        · exact ans_okL hl
        · exact ans_okL hl
        · exact ans_okL (e := setSL e _ _) (setSL_invL hl hl.2)
        · split
          · exact ⟨hl, grow.refl, rowL.nil⟩
          · rename_i c
            obtain ⟨n, hn, hle⟩ := lenF_ok hl hu hl.2
            have hn2 : n + 1 ≤ 60 := by
              rw [hle, nI_1] at c
              rcases Nat.lt_or_ge 60 (n + 1) with h9 | h9
              · exact absurd (nI_lt (a := 60) h9 (by omega)) c
              · exact h9
            have hiv : invL (sayF e (opF env (B t).2.1 (B t).2.2.1)) := by
              refine ⟨?_, ⟨mE.us e, by show mE.us e < mE.us e + 1; omega, rfl⟩⟩
              intro k hk1 hk2
              show (∃ j, j < k ∧ up1 (mE.be e) (mE.us e) (mE.l e) k = nI j) ∧ ∃ n, n ≤ 60 ∧ up1 (mE.le e) (mE.us e) (lenF e (mE.l e) + 1) k = nI n
              unfold up1
              by_cases hku : k = mE.us e
              · rw [if_pos hku, if_pos hku]
                obtain ⟨j, hj, hj2⟩ := hl.2
                exact ⟨⟨j, by omega, hj2⟩, n + 1, hn2, by rw [hle, nI_1]⟩
              · rw [if_neg hku, if_neg hku]
                have hk3 : k < mE.us e + 1 := hk2
                exact hl.1 k hk1 (by omega)
            have ha := ans_okL (x := opF env (B t).2.1 (B t).2.2.1) hiv
            refine ⟨ha.1, ⟨by show mE.us e ≤ mE.us e + 1; omega, fun k hk => ?_⟩, ha.2.2⟩
            show up1 (mE.nu e) (mE.us e) _ k = _ ∧ up1 (mE.be e) (mE.us e) _ k = _ ∧ up1 (mE.le e) (mE.us e) _ k = _
            unfold up1
            rw [if_neg (by omega), if_neg (by omega), if_neg (by omega)]
            exact ⟨rfl, rfl, rfl⟩
        · split
          · exact ⟨hl, grow.refl, fun r hr => by rw [List.mem_singleton.mp hr]; exact hl.2⟩
          · exact ⟨hl, grow.refl, rowL.nil⟩
        · exact ⟨hl, grow.refl, rowL.nil⟩
        · unfold eitherF
          have ha := ih (B t).2.2.2.2.1 env e h hl
          have ha2 := ev_ok (F := F) (B := B) f (B t).2.2.2.2.1 env e h
          split
          · exact hne _ ha
          · have hb := ih (B t).2.2.2.2.2 env _ (own2_inv (F := F) (s := mE.s e) (l := mE.l e) ha2.2.1) (own2_invL ha.1 (hl.2.mono ha.2.1.1))
            simp only
            split
            · exact ⟨hb.1, ha.2.1.trans hb.2.1, rowL.nil⟩
            · split
              · exact ⟨hb.1, ha.2.1.trans hb.2.1, rowL.nil⟩
              · exact ⟨hb.1, ha.2.1.trans hb.2.1, (ha.2.2.mono hb.2.1.1).app hb.2.2⟩
        · have ha := ih (B t).2.2.2.2.1 env e h hl
          have ha2 := ev_ok (F := F) (B := B) f (B t).2.2.2.2.1 env e h
          split
          · exact hne _ ha
          · rename_i hn
            have hz := Decidable.not_not.mp hn
            have h9 := each_log (F := F) (oe := 0) (nm := (B t).2.2.2.1) (env := env) (hgo (B t).2.2.2.2.2) (hk _) _ [] _ ha2.2.1 (ha2.2.2 hz).2 ha.1 ha.2.2 rowL.nil
            exact ⟨h9.1, ha.2.1.trans h9.2.1, h9.2.2⟩
        · unfold savedF
          have ha := ih (B t).2.2.2.2.1 env e h hl
          have ha2 := ev_ok (F := F) (B := B) f (B t).2.2.2.2.1 env e h
          split
          · have h9 := ih (B t).2.2.2.2.2 (upE env (B t).2.2.2.1 (ev F B lim f (B t).2.2.2.2.1 env e).2.2.en) (setSL (ev F B lim f (B t).2.2.2.2.1 env e).2.2 (if F.2.2.2.1 = true then mE.s e else mE.s (ev F B lim f (B t).2.2.2.2.1 env e).2.2) (if F.2.2.2.2 = true then mE.l e else mE.l (ev F B lim f (B t).2.2.2.2.1 env e).2.2)) (setSL_inv ha2.2.1) (setSL_invL ha.1 (by split; exact hl.2.mono ha.2.1.1; exact ha.1.2))
            exact ⟨h9.1, ha.2.1.trans h9.2.1, h9.2.2⟩
          · split
            · exact hne _ ha
            · rename_i hn
              have hz := Decidable.not_not.mp hn
              have h9 := each_log (F := F) (oe := 1) (nm := (B t).2.2.2.1) (env := env) (hgo (B t).2.2.2.2.2) (hk _) ((ev F B lim f (B t).2.2.2.2.1 env e).2.1.map (savedM F e)) [] _ ha2.2.1 (by
                intro r hr
                obtain ⟨r', hr', rfl⟩ := List.mem_map.mp hr
                have := (ha2.2.2 hz).2 r' hr'
                unfold savedM
                split <;> exact this) ha.1 (by
                intro r hr
                obtain ⟨r', hr', rfl⟩ := List.mem_map.mp hr
                have := ha.2.2 r' hr'
                unfold savedM
                split
                · exact this
                · show inL _ (if F.2.2.2.2 = true then mE.l e else r'.2.2.2)
                  split
                  · exact hl.2.mono ha.2.1.1
                  · exact this) rowL.nil
              exact ⟨h9.1, ha.2.1.trans h9.2.1, h9.2.2⟩
        · exact ih _ _ _ h hl
        · exact times_log (hgo _) (hk _) _ _ _ h (fun r hr => by rw [List.mem_singleton.mp hr]; exact Or.inl rfl) hl (fun r hr => by rw [List.mem_singleton.mp hr]; exact hl.2)
        · have ha := ih (B t).2.2.2.2.1 env e h hl
          split
          · exact hne _ ha
          · exact ⟨ha.1, ha.2.1, fun r hr => ha.2.2 r (List.mem_of_mem_take hr)⟩
        · have ha := ih (B t).2.2.2.2.1 env e h hl
          split
          · exact hne _ ha
          · refine ⟨ha.1, ha.2.1, fun r hr => ?_⟩
            obtain ⟨r', hr', rfl⟩ := List.mem_map.mp hr
            have h9 := ha.2.2 r' hr'
            have h8 : (heardM F (lenF e (mE.l e)) (ev F B lim f (B t).2.2.2.2.1 env e).2.2 r').2.2.2 = r'.2.2.2 := by
              unfold heardM
              by_cases c : r'.2.1 = 0
              · rw [if_pos c]
              · rw [if_neg c]
            rw [h8]
            exact h9
        · have ha := ih (B t).2.2.2.2.1 env e h hl
          split
          · exact hne _ ha
          · refine ⟨setSL_invL ha.1 (hl.2.mono ha.2.1.1), ha.2.1, fun r hr => ?_⟩
            obtain ⟨r', hr', rfl⟩ := List.mem_map.mp hr
            exact hl.2.mono ha.2.1.1
        · exact ans_okL hl
      intro q hq
      exact ⟨hq.1, hge.trans hq.2.1, hq.2.2⟩
