/-! ===== PURE: the formatter may be null: where it lies on the stack nothing hangs on it ===== -/
theorem ex_s {n d y pc pc2 : Nat} {L L2 st st2 : List Value} {sh sh2 : im_Sh} {mi mi2 : im_MI} {mr mr2 : im_MR} (h : im_step y pc L st sh mi mr = im_nx pc2 L2 st2 sh2 mi2 mr2) : im_exec (n + 1) d y pc L st sh mi mr = im_exec n d y pc2 L2 st2 sh2 mi2 mr2 := by
  rw [im_exec, h]
  rfl
theorem ex_n {n d y pc : Nat} {L st : List Value} {sh : im_Sh} {mi : im_MI} {mr : im_MR} (h : im_step y pc L st sh mi mr = none) : im_exec (n + 1) d y pc L st sh mi mr = none := by
  rw [im_exec, h]
theorem ex_r {n d y pc : Nat} {L st : List Value} {sh : im_Sh} {mi : im_MI} {mr : im_MR} {v : Value} (h : im_step y pc L st sh mi mr = some (.inr (.inl v))) : im_exec (n + 1) d y pc L st sh mi mr = some (v, sh, mi, mr) := by
  rw [im_exec, h]
theorem nl_load {y pc nx a b c : Nat} {L st : List Value} {sh : im_Sh} {mi : im_MI} {mr : im_MR} {i : Fin 4} {v : Value} (hi : im_ins y pc = some (nx, .iload_n i, a, b, c)) (hx : L[i.val]? = some v) (hv : ∀ x, v ≠ .int x) : im_step y pc L st sh mi mr = none := by
  simp only [im_step, hi, im_do, hx]
  cases v <;> first
    | rfl
    | exact absurd rfl (hv _)
theorem nl_bad {d : Nat} {b v : Value} {x : Int32} {sh : im_Sh} {mi : im_MI} {mr : im_MR} (hv : v = .ref 2 ∨ v = .null) : ∀ n, im_exec n d 220 9 [.int x, b, v] [] sh mi mr = none := by
  have tail : ∀ n, im_exec n d 220 10 [.int x, b, v] [v] sh mi mr = none := by
    intro n
    cases n with
    | zero => rfl
    | succ n =>
      rw [ex_s (is_iload_n rfl rfl)]
      cases n with
      | zero => rfl
      | succ n =>
        by_cases hb : ∃ z, b = .int z
        · obtain ⟨z, rfl⟩ := hb
          rw [ex_s (is_iload_n rfl rfl)]
          cases n with
          | zero => rfl
          | succ n => exact ex_n rfl
        · exact ex_n (nl_load (v := b) rfl rfl (fun z q => hb ⟨z, q⟩))
  intro n
  cases n with
  | zero => rfl
  | succ n =>
    rcases hv with rfl | rfl
    · rw [ex_s (is_aload_n rfl rfl)]
      exact tail n
    · rw [ex_s (is_aload_nN rfl rfl)]
      exact tail n
theorem nl_220 (n d : Nat) (a b : Value) (sh : im_Sh) (mi : im_MI) (mr : im_MR) : im_exec n d 220 0 [a, b, .ref 2] [] sh mi mr = im_exec n d 220 0 [a, b, .null] [] sh mi mr := by
  cases n with
  | zero => rfl
  | succ n =>
    by_cases ha : ∃ x, a = .int x
    · obtain ⟨x, rfl⟩ := ha
      rw [ex_s (is_iload_n rfl rfl), ex_s (is_iload_n rfl rfl)]
      cases n with
      | zero => rfl
      | succ n =>
        by_cases hx : x < 0
        · rw [ex_s (is_if_lt_t rfl hx), ex_s (is_if_lt_t rfl hx), nl_bad (Or.inl rfl), nl_bad (Or.inr rfl)]
        · rw [ex_s (is_if_lt_f rfl hx), ex_s (is_if_lt_f rfl hx)]
          cases n with
          | zero => rfl
          | succ n =>
            rw [ex_s (is_iload_n rfl rfl), ex_s (is_iload_n rfl rfl)]
            cases n with
            | zero => rfl
            | succ n =>
              by_cases hb : ∃ z, b = .int z
              · obtain ⟨z, rfl⟩ := hb
                rw [ex_s (is_iload_n rfl rfl), ex_s (is_iload_n rfl rfl)]
                cases n with
                | zero => rfl
                | succ n =>
                  by_cases hz : x < z
                  · rw [ex_s (is_icmp_lt_t rfl hz), ex_s (is_icmp_lt_t rfl hz)]
                    cases n with
                    | zero => rfl
                    | succ n =>
                      rw [ex_s (is_iload_n rfl rfl), ex_s (is_iload_n rfl rfl)]
                      cases n with
                      | zero => rfl
                      | succ n => rw [ex_r (is_ireturn rfl rfl rfl), ex_r (is_ireturn rfl rfl rfl)]
                  · rw [ex_s (is_icmp_lt_f rfl hz), ex_s (is_icmp_lt_f rfl hz), nl_bad (Or.inl rfl), nl_bad (Or.inr rfl)]
              · rw [ex_n (nl_load (v := b) rfl rfl (fun z q => hb ⟨z, q⟩)), ex_n (nl_load (v := b) rfl rfl (fun z q => hb ⟨z, q⟩))]
    · rw [ex_n (nl_load (v := a) rfl rfl (fun z q => ha ⟨z, q⟩)), ex_n (nl_load (v := a) rfl rfl (fun z q => ha ⟨z, q⟩))]
theorem nl_len {x y v : Value} (hv : im_isL v = false) (h : im_isL x = true ∨ im_isL y = true) : ¬ (im_flat [x, y, v]).length ≤ 3 := by
  unfold im_flat im_flat im_flat im_flat
  rw [hv]
  cases hx : im_isL x with
  | true => cases hy : im_isL y with
    | true => exact fun q => absurd q (show ¬ 5 ≤ 3 by decide)
    | false => exact fun q => absurd q (show ¬ 4 ≤ 3 by decide)
  | false => cases hy : im_isL y with
    | true => exact fun q => absurd q (show ¬ 4 ≤ 3 by decide)
    | false =>
      rw [hx, hy] at h
      rcases h with q | q
      · cases q
      · cases q
theorem nl_ent {x y v : Value} (hv : im_isL v = false) (hx : im_isL x = false) (hy : im_isL y = false) : im_flat [x, y, v] = [x, y, v] := by
  unfold im_flat im_flat im_flat im_flat
  rw [hv, hx, hy]
  rfl
theorem nl_214 (n d : Nat) (L st : List Value) (sh : im_Sh) (mi : im_MI) (mr : im_MR) : im_exec n d 214 5 L (.ref 2 :: st) sh mi mr = im_exec n d 214 5 L (.null :: st) sh mi mr := by
  cases n with
  | zero => rfl
  | succ n =>
    match st with
    | [] => rfl
    | [_] => rfl
    | y :: x :: rest =>
      by_cases hc : im_cat rest ≤ 8
      · have h1 : ∀ v, im_step 214 5 L (v :: y :: x :: rest) sh mi mr = some (.inr (.inr (220, [x, y, v], 8, rest))) := fun v => is_call0 3 [x, y, v] rest rfl rfl rfl rfl rfl hc rfl rfl rfl
        rw [im_exec, im_exec, h1, h1]
        dsimp only
        cases d with
        | zero => rfl
        | succ d =>
          have hmx : im_mx 220 = 3 := rfl
          by_cases hl : im_isL x = true ∨ im_isL y = true
          · dsimp only
            rw [if_neg (by rw [hmx]; exact nl_len rfl hl), if_neg (by rw [hmx]; exact nl_len rfl hl)]
          · have hx : im_isL x = false := by cases q : im_isL x <;> simp_all
            have hy : im_isL y = false := by cases q : im_isL y <;> simp_all
            have e : ∀ v, im_isL v = false → im_entry 220 [x, y, v] = [x, y, v] := fun v hv => by
              unfold im_entry
              rw [nl_ent hv hx hy, hmx]
              rfl
            dsimp only
            rw [e _ rfl, e _ rfl, nl_ent rfl hx hy, nl_ent rfl hx hy, nl_220]
            rfl
      · have h1 : ∀ v, im_step 214 5 L (v :: y :: x :: rest) sh mi mr = none := fun v => if_neg (fun q => hc q.2)
        rw [ex_n (h1 _), ex_n (h1 _)]
set_option maxRecDepth 100000 in
theorem im_32 : ∀ y, y < 222 → (im_tabs y).all (fun c => c.2.all (fun e => match e.2.2.1 with
  | .getstatic _ => !Nat.beq e.2.2.2.1 32 || (Nat.beq y 214 && Nat.beq e.1 2 && Nat.beq e.2.1 5)
  | _ => true)) = true := by decide +kernel
theorem im_ins_32 {y pc : Nat} {en : Nat × Instr × Nat × Nat × Nat} (hy : y < 222) (h : im_ins y pc = some en) (hn : ¬ im_n32 en.2.1 en.2.2.1) : y = 214 ∧ pc = 2 ∧ en.1 = 5 ∧ (∃ i, en.2.1 = .getstatic i) ∧ en.2.2.1 = 32 := by
  obtain ⟨cc, h1, h2⟩ := im_find2_mem _ _ _ h
  have hk := List.all_eq_true.mp (List.all_eq_true.mp (im_32 y hy) cc h1) _ h2
  obtain ⟨nx, ins, a, b, c⟩ := en
  dsimp only at hk hn ⊢
  cases ins with
  | getstatic i =>
    have ha : a = 32 := Decidable.of_not_not hn
    subst ha
    simp only [show Nat.beq 32 32 = true from rfl, Bool.not_true, Bool.false_or, Bool.and_eq_true] at hk
    exact ⟨Nat.eq_of_beq_eq_true hk.1.1, Nat.eq_of_beq_eq_true hk.1.2, Nat.eq_of_beq_eq_true hk.2, ⟨i, rfl⟩, rfl⟩
  | _ => exact absurd trivial hn
