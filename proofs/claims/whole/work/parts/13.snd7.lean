/-! ===== SOUNDNESS 7: a method's run ===== -/
def im_ro (rt : Option FieldType) (r : Value) (ad : Nat → Nat) : Option Value := match rt with
  | none => none
  | some _ => some (im_tr ad r)
/-- the instruction by which a method ends, what it answers, what lies on the stack -/
def im_rts (rt : Option FieldType) (ins : Instr) (r : Value) (st : List Value) : Prop :=
  (ins = .ireturn ∧ ∃ v t, r = .int v ∧ st = [.int v] ∧ rt = some t ∧ narrow t (.int v) = .int v) ∨ (ins = .lreturn ∧ ∃ v, r = .long v ∧ st = [.long v] ∧ rt = some .long) ∨
  (ins = .areturn ∧ ∃ t v, rt = some t ∧ im_isR t = true ∧ r = im_rv v ∧ st = [im_rv v]) ∨ (ins = .return_ ∧ r = im_bad ∧ st = [] ∧ rt = none)
theorem im_do_ret {y pc nx a b c0 : Nat} {ins : Instr} {L st : List Value} {sh : im_Sh} {mi : im_MI} {mr : im_MR} {v : Value} (hok : im_okR y pc nx a b c0 ins = true) (h : im_do im_na im_rc im_nf im_ft (im_rt y) pc nx a b ins L st sh mi mr = some (.inr (.inl v))) : nx = pc + 1 ∧ im_rts (im_rt y) ins v st := by
  cases ins <;> simp only [im_do, im_nx, im_inv] at h <;> first
    | (cases h; done)
    | (repeat' split at h
       all_goals (first | (cases h; done) | skip)
       all_goals skip; done)
    | skip
  case ireturn =>
    split at h
    · rename_i x1 t ht
      split at h
      · rename_i hn
        cases h
        exact ⟨Nat.eq_of_beq_eq_true hok, Or.inl ⟨rfl, x1, t, rfl, rfl, ht, hn⟩⟩
      · cases h
    · cases h
  case lreturn =>
    simp only [im_okR, Bool.and_eq_true, decide_eq_true_eq] at hok
    split at h
    · cases h
      exact ⟨Nat.eq_of_beq_eq_true hok.1, Or.inr (Or.inl ⟨rfl, _, rfl, rfl, hok.2⟩)⟩
    · cases h
  case areturn =>
    simp only [im_okR, Bool.and_eq_true] at hok
    obtain ⟨hok1, hok2⟩ := hok
    split at hok2
    · rename_i t ht
      split at h
      · rename_i v1
        cases h
        exact ⟨Nat.eq_of_beq_eq_true hok1, Or.inr (Or.inr (Or.inl ⟨rfl, t, some v1, ht, hok2, rfl, rfl⟩))⟩
      · cases h
        exact ⟨Nat.eq_of_beq_eq_true hok1, Or.inr (Or.inr (Or.inl ⟨rfl, t, none, ht, hok2, rfl, rfl⟩))⟩
      · cases h
    · cases hok2
  case return_ =>
    simp only [im_okR, Bool.and_eq_true, decide_eq_true_eq] at hok
    split at h
    · cases h
      exact ⟨Nat.eq_of_beq_eq_true hok.1, Or.inr (Or.inr (Or.inr ⟨rfl, rfl, rfl, hok.2⟩))⟩
    · cases h
  all_goals (cases h9 : Nat.beq a 900 <;> cases h8 : Nat.beq a 901 <;> cases h7 : Nat.ble 900 a <;> simp only [h9, h8, h7, cond_true, cond_false] at h <;> (repeat' split at h) <;> cases h)
/-- a call: what is called, with what, what stays -/
theorem im_do_call {y pc nx a b : Nat} {ins : Instr} {L st : List Value} {sh : im_Sh} {mi : im_MI} {mr : im_MR} {q : Nat × List Value × Nat × List Value} (h : im_do im_na im_rc im_nf im_ft (im_rt y) pc nx a b ins L st sh mi mr = some (.inr (.inr q))) :
    ((∃ i, ins = .invokevirtual i) ∨ (∃ i, ins = .invokespecial i) ∨ (∃ i, ins = .invokestatic i)) ∧ q.1 = a ∧ q.2.2.1 = nx ∧ Nat.ble 900 a = false ∧ im_na a ≤ st.length ∧ im_cat q.2.2.2 ≤ 8 ∧ q.2.1 = (st.take (im_na a)).reverse ∧ q.2.2.2 = st.drop (im_na a) ∧
    (im_rc a = 0 ∨ ∃ (r : Nat) (as : List Value) (k2 n2 : Nat), q.2.1 = .ref r :: as ∧ sh[r]? = some (k2, n2) ∧ im_rc a = k2 + 1) := by
  have key : ∀ {i : Instr}, ((∃ j, i = .invokevirtual j) ∨ (∃ j, i = .invokespecial j) ∨ (∃ j, i = .invokestatic j)) → im_do im_na im_rc im_nf im_ft (im_rt y) pc nx a b i L st sh mi mr = some (.inr (.inr q)) → q.1 = a ∧ q.2.2.1 = nx ∧ Nat.ble 900 a = false ∧ im_na a ≤ st.length ∧ im_cat q.2.2.2 ≤ 8 ∧ q.2.1 = (st.take (im_na a)).reverse ∧ q.2.2.2 = st.drop (im_na a) ∧
    (im_rc a = 0 ∨ ∃ (r : Nat) (as : List Value) (k2 n2 : Nat), q.2.1 = .ref r :: as ∧ sh[r]? = some (k2, n2) ∧ im_rc a = k2 + 1) := by
    intro i hi h
    have h2 : im_inv im_na im_rc nx a L st sh mi mr = some (.inr (.inr q)) := by
      rcases hi with ⟨j, rfl⟩ | ⟨j, rfl⟩ | ⟨j, rfl⟩ <;> exact h
    unfold im_inv at h2
    cases h9 : Nat.beq a 900 with
    | true =>
      rw [h9] at h2
      simp only [cond_true] at h2
      split at h2
      · split at h2
        · simp [im_nx] at h2
        · cases h2
      · cases h2
    | false =>
      rw [h9] at h2
      cases h8 : Nat.beq a 901 with
      | true =>
        rw [h8] at h2
        simp only [cond_true, cond_false] at h2
        split at h2
        · split at h2
          · split at h2
            · simp [im_nx] at h2
            · cases h2
          · cases h2
        · cases h2
      | false =>
        rw [h8] at h2
        cases h7 : Nat.ble 900 a with
        | true => rw [h7] at h2; cases h2
        | false =>
          rw [h7] at h2
          simp only [cond_false] at h2
          split at h2
          · rename_i hc
            split at h2
            · rename_i hrc
              cases h2
              exact ⟨rfl, rfl, rfl, hc.1, hc.2, rfl, rfl, Or.inl hrc⟩
            · rename_i k hrc
              split at h2
              · rename_i r as has
                split at h2
                · rename_i k2 n2 hs
                  split at h2
                  · rename_i hk
                    subst hk
                    cases h2
                    exact ⟨rfl, rfl, rfl, hc.1, hc.2, has.symm, rfl, Or.inr ⟨r, as, k2, n2, rfl, hs, hrc⟩⟩
                  · cases h2
                · cases h2
              · cases h2
          · cases h2
  cases ins <;> first
    | exact ⟨Or.inl ⟨_, rfl⟩, key (Or.inl ⟨_, rfl⟩) h⟩
    | exact ⟨Or.inr (Or.inl ⟨_, rfl⟩), key (Or.inr (Or.inl ⟨_, rfl⟩)) h⟩
    | exact ⟨Or.inr (Or.inr ⟨_, rfl⟩), key (Or.inr (Or.inr ⟨_, rfl⟩)) h⟩
    | (exfalso
       simp only [im_do, im_nx] at h
       first
        | (cases h; done)
        | (repeat' split at h
           all_goals first | (cases h; done) | (simp at h; done)))
