/-! the evaluator's own laws -/
def invE (lim : Nat) (e : mE) : Prop := 1 ≤ e.us ∧ e.us ≤ e.sp + 1 ∧ e.sp ≤ lim
def errR (rs : List mR) : Prop := ∀ r ∈ rs, r.2.1 = 0 ∨ r.2.1 = 1
def okO (lim : Nat) (q : mO) : Prop := q.1 ≤ 2 ∧ invE lim q.2.2 ∧ (q.1 = 0 → q.2.1.length ≤ 50 ∧ errR q.2.1)
def okG (lim : Nat) (go : (Nat → Int32) → mE → mO) : Prop := ∀ env e, invE lim e → okO lim (go env e)
theorem own2_inv {lim : Nat} {F : mF} {e : mE} {s l : Int32} (h : invE lim e) : invE lim (own2 F e s l) := h
theorem setSL_inv {lim : Nat} {e : mE} {s l : Int32} (h : invE lim e) : invE lim (setSL e s l) := h
theorem errR_app {a b : List mR} (ha : errR a) (hb : errR b) : errR (a ++ b) := fun r hr => (List.mem_append.mp hr).elim (ha r) (hb r)
theorem each_ok {lim : Nat} {F : mF} {go : (Nat → Int32) → mE → mO} {oe nm : Int32} {env : Nat → Int32} (hg : okG lim go) : ∀ (rs acc : List mR) (e : mE), invE lim e → errR rs → errR acc → acc.length ≤ 50 → okO lim (eachF F go oe nm env rs acc e) := by
  intro rs
  induction rs with
  | nil => intro acc e h1 h2 h3 h4; exact ⟨Nat.zero_le _, h1, fun _ => ⟨h4, h3⟩⟩
  | cons r rs ih =>
    intro acc e h1 h2 h3 h4
    simp only [eachF]
    generalize hq : (if r.2.1 = oe then go (upE env nm r.1) (own2 F e r.2.2.1 r.2.2.2) else (0, [r], e) : mO) = q
    have hqo : okO lim q := by
      rw [← hq]
      split
      · exact hg _ _ (own2_inv h1)
      · exact ⟨Nat.zero_le _, h1, fun _ => ⟨by simp, fun x hx => by rw [List.mem_singleton.mp hx]; exact h2 r List.mem_cons_self⟩⟩
    split
    · rename_i hne
      exact ⟨hqo.1, hqo.2.1, fun h => absurd h hne⟩
    · rename_i hne
      have hz : q.1 = 0 := Decidable.not_not.mp hne
      split
      · exact ⟨Nat.le_refl _, hqo.2.1, fun h => by cases h⟩
      · rename_i hl
        exact ih _ _ hqo.2.1 (fun x hx => h2 x (List.mem_cons_of_mem _ hx)) (errR_app h3 (hqo.2.2 hz).2) (Nat.le_of_not_lt hl)
theorem times_ok {lim : Nat} {F : mF} {go : (Nat → Int32) → mE → mO} {env : Nat → Int32} (hg : okG lim go) : ∀ (n : Nat) (rs : List mR) (e : mE), invE lim e → errR rs → rs.length ≤ 50 → okO lim (timesF F go env n rs e) := by
  intro n
  induction n with
  | zero => intro rs e h1 h2 h3; exact ⟨Nat.zero_le _, h1, fun _ => ⟨h3, h2⟩⟩
  | succ n ih =>
    intro rs e h1 h2 h3
    simp only [timesF]
    have hq := each_ok (F := F) (oe := 0) (nm := -1) (env := env) hg rs [] e h1 h2 (fun x hx => by cases hx) (by simp)
    split
    · rename_i hne
      exact ⟨hq.1, hq.2.1, fun h => absurd h hne⟩
    · rename_i hne
      have hz := Decidable.not_not.mp hne
      exact ih _ _ hq.2.1 (hq.2.2 hz).2 (hq.2.2 hz).1
theorem ans_ok {lim : Nat} {x : Int32} {e : mE} (h : invE lim e) : okO lim (ansF x e) := ⟨Nat.zero_le _, h, fun _ => ⟨by simp [ansF], fun r hr => by simp only [ansF, List.mem_singleton] at hr; rw [hr]; exact Or.inl rfl⟩⟩
theorem ev_ok {F : mF} {B : mB} {lim : Nat} : ∀ (f t : Nat) (env : Nat → Int32) (e : mE), invE lim e → okO lim (ev F B lim f t env e) := by
  intro f
  induction f with
  | zero => intro t env e h; exact ⟨Nat.le_refl _, h, fun h => by cases h⟩
  | succ f ih =>
    intro t env e0 h0
    simp only [ev]
    split
    · exact ⟨Nat.le_refl _, h0, fun h => by cases h⟩
    · rename_i hsp
      generalize he : ((e0.sp + 1, e0.2) : mE) = e
      have h : invE lim e := by
        rw [← he]
        obtain ⟨h1, h2, h3⟩ := h0
        exact ⟨h1, by show e0.us ≤ e0.sp + 1 + 1; omega, by show e0.sp + 1 ≤ lim; omega⟩
      have hsu : mE.us e ≤ mE.sp e := by
        rw [← he]; exact h0.2.1
      have hgo : ∀ t, okG lim (ev F B lim f t) := fun t env e h => ih t env e h
      have hne : ∀ (q : mO), okO lim q → q.1 ≠ 0 → okO lim (q.1, [], q.2.2) := fun q hq hn => ⟨hq.1, hq.2.1, fun h => absurd h hn⟩
      split
      · exact ans_ok h
      · exact ans_ok h
      · exact ans_ok (setSL_inv h)
      · split
        · exact ⟨Nat.le_refl _, h, fun h => by cases h⟩
        · refine ans_ok ⟨?_, ?_, h.2.2⟩
          · show 1 ≤ mE.us e + 1; omega
          · show mE.us e + 1 ≤ mE.sp e + 1; omega
      · split
        · exact ⟨Nat.zero_le _, h, fun _ => ⟨by simp, fun r hr => by rw [List.mem_singleton.mp hr]; exact Or.inr rfl⟩⟩
        · exact ⟨by simp, h, fun h => by cases h⟩
      · exact ⟨Nat.zero_le _, h, fun _ => ⟨by simp, fun r hr => by cases hr⟩⟩
      · unfold eitherF
        have ha := ih (B t).2.2.2.2.1 env e h
        split
        · rename_i hn; exact hne _ ha hn
        · rename_i hn
          have hz := Decidable.not_not.mp hn
          have hb := ih (B t).2.2.2.2.2 env _ (own2_inv (F := F) (s := mE.s e) (l := mE.l e) ha.2.1)
          simp only
          split
          · rename_i hn2; exact hne _ hb hn2
          · rename_i hn2
            have hz2 := Decidable.not_not.mp hn2
            split
            · exact ⟨Nat.le_refl _, hb.2.1, fun h => by cases h⟩
            · rename_i hl
              exact ⟨Nat.zero_le _, hb.2.1, fun _ => ⟨Nat.le_of_not_lt hl, errR_app (ha.2.2 hz).2 (hb.2.2 hz2).2⟩⟩
      · have ha := ih (B t).2.2.2.2.1 env e h
        split
        · rename_i hn; exact hne _ ha hn
        · rename_i hn
          have hz := Decidable.not_not.mp hn
          exact each_ok (hgo _) _ _ _ ha.2.1 (ha.2.2 hz).2 (fun x hx => by cases hx) (by simp)
      · unfold savedF
        have ha := ih (B t).2.2.2.2.1 env e h
        split
        · exact ih _ _ _ (setSL_inv ha.2.1)
        · split
          · rename_i hn; exact hne _ ha hn
          · rename_i hn
            have hz := Decidable.not_not.mp hn
            refine each_ok (hgo _) _ _ _ ha.2.1 ?_ (fun x hx => by cases hx) (by simp)
            intro r hr
            obtain ⟨r', hr', rfl⟩ := List.mem_map.mp hr
            have := (ha.2.2 hz).2 r' hr'
            unfold savedM
            split <;> exact this
      · exact ih _ _ _ h
      · exact times_ok (hgo _) _ _ _ h (fun r hr => by rw [List.mem_singleton.mp hr]; exact Or.inl rfl) (by simp)
      · have ha := ih (B t).2.2.2.2.1 env e h
        split
        · rename_i hn; exact hne _ ha hn
        · rename_i hn
          have hz := Decidable.not_not.mp hn
          refine ⟨Nat.zero_le _, ha.2.1, fun _ => ⟨?_, fun r hr => (ha.2.2 hz).2 r (List.mem_of_mem_take hr)⟩⟩
          have := (ha.2.2 hz).1
          simp only [List.length_take]
          omega
      · have ha := ih (B t).2.2.2.2.1 env e h
        split
        · rename_i hn; exact hne _ ha hn
        · rename_i hn
          have hz := Decidable.not_not.mp hn
          refine ⟨Nat.zero_le _, ha.2.1, fun _ => ⟨by simp only [List.length_map]; exact (ha.2.2 hz).1, fun r hr => ?_⟩⟩
          obtain ⟨r', hr', rfl⟩ := List.mem_map.mp hr
          have := (ha.2.2 hz).2 r' hr'
          unfold heardM
          split <;> exact this
      · have ha := ih (B t).2.2.2.2.1 env e h
        split
        · rename_i hn; exact hne _ ha hn
        · rename_i hn
          have hz := Decidable.not_not.mp hn
          refine ⟨Nat.zero_le _, setSL_inv ha.2.1, fun _ => ⟨by simp only [List.length_map]; exact (ha.2.2 hz).1, fun r hr => ?_⟩⟩
          obtain ⟨r', hr', rfl⟩ := List.mem_map.mp hr
          exact (ha.2.2 hz).2 r' hr'
      · exact ans_ok h
