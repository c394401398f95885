/-! ===== PURE, the reference: a whole text is read ===== -/
theorem re_eRead {d : Nat} {sh : im_Sh} {mi : im_MI} {mr : im_MR} (hC : pu_C sh mr) {tb : Nat → Nat} {z t : Nat} (hT : re_M mi tb z) (ht : t < 6) {p : Nat} {C : List Nat} (hp : p ≤ z) (h18 : mi 110 18 = nI p) (h9 : mi 110 9 = nI t) (ho : ro_ t mi C) (hl : C.length ≤ p) : EvM (d + 3) 148 [.ref 110] sh mi mr (fun r sh2 m2 r2 => sh2 = sh ∧ (r2 = mr ∧ rq_ t mi m2 ∧ eq_ t (pd_C C (pd_E (tk_k tb z) (tk_v tb z) (tk_f tb z) (tk_t tb z) p)) r m2)) := by
  show Ev (d + 3) 148 0 [.ref 110, im_bad, im_bad, im_bad] [] sh mi mr _
  refine ev_s (is_aload_n rfl rfl) ?_
  refine ev_s (is_iconst (nI 0) rfl rfl) ?_
  refine ev_s (is_putI rfl (pu_s hC 110 rfl rfl) rfl rfl rfl) ?_
  refine ev_s (is_aload_n rfl rfl) ?_
  refine ev_s (is_iconst (nI 0) rfl rfl) ?_
  refine ev_s (is_putI rfl (pu_s hC 110 rfl rfl) rfl rfl rfl) ?_
  refine ev_s (is_iconst (nI 1) rfl rfl) ?_
  refine ev_s (st_istore_n_1 rfl rfl) ?_
  refine ev_s (is_iconst (nI 1) rfl rfl) ?_
  refine ev_s (st_istore_n_2 rfl rfl) ?_
  have hs0 : rs_ (im_u (im_u mi 110 24 (nI 0)) 110 25 (nI 0)) [] := ⟨(im_u_j _ _ _ _ (by decide)).trans (im_u_s _ _ _ _), fun j hj => absurd hj (Nat.not_lt_zero _), im_u_s _ _ _ _, fun x hx => absurd hx List.not_mem_nil⟩
  exact re_eReadL hC hT ht (z + 2) p C [] true true _ _ _ (ya_top hT.2.2.1 (tk_T hT.2.2.1) hp C) (rq_u (rq_u rq_rf (Or.inl ⟨rfl, by decide⟩)) (Or.inl ⟨rfl, by decide⟩)) hp (by rw [im_u_j _ _ _ _ (by decide), im_u_j _ _ _ _ (by decide)]; exact h18) (by rw [im_u_j _ _ _ _ (by decide), im_u_j _ _ _ _ (by decide)]; exact h9) (ro_o ho (by rw [im_u_row' (by decide), im_u_row' (by decide)]) (by rw [im_u_j _ _ _ _ (by decide), im_u_j _ _ _ _ (by decide)])) hs0 hl
/-- what reading a text may write -/
def ru_ (t : Nat) (mi m2 : im_MI) : Prop := (∀ k, k ≠ 110 → k ≠ 115 → k ≠ 116 → k ≠ 124 → m2 k = mi k) ∧ (∀ j, j < 18 → m2 110 j = mi 110 j) ∧ (∀ i, i < 200 * t → m2 115 i = mi 115 i) ∧ ∀ i, i < 4 * t → m2 116 i = mi 116 i
theorem ru_rf {t : Nat} {mi : im_MI} : ru_ t mi mi := ⟨fun _ _ _ _ _ => rfl, fun _ _ => rfl, fun _ _ => rfl, fun _ _ => rfl⟩
theorem ru_q {t : Nat} {a b c : im_MI} (h : ru_ t a b) (h2 : rq_ t b c) : ru_ t a c := ⟨fun k q1 q2 q3 q4 => (h2.1 k q1 q2 q4).trans (h.1 k q1 q2 q3 q4), fun j hj => (h2.2.1 j hj).trans (h.2.1 j hj), fun i hi => (h2.2.2 i hi).trans (h.2.2.1 i hi), fun i hi => by rw [h2.1 116 (by decide) (by decide) (by decide)]; exact h.2.2.2 i hi⟩
theorem ru_u {t : Nat} {a b : im_MI} (h : ru_ t a b) {k j : Nat} {v : Int32} (hk : (k = 110 ∧ 18 ≤ j) ∨ (k = 116 ∧ 4 * t ≤ j)) : ru_ t a (im_u b k j v) := by
  refine ⟨fun q q1 q2 q3 q4 => ?_, fun i hi => ?_, fun i hi => ?_, fun i hi => ?_⟩
  · rw [im_u_row' (by omega)]; exact h.1 q q1 q2 q3 q4
  · rcases hk with ⟨rfl, c⟩ | ⟨rfl, c⟩
    · rw [im_u_j _ _ _ _ (by omega)]; exact h.2.1 i hi
    · rw [im_u_k _ _ _ _ (by decide)]; exact h.2.1 i hi
  · rw [im_u_k _ _ _ _ (by omega)]; exact h.2.2.1 i hi
  · rcases hk with ⟨rfl, c⟩ | ⟨rfl, c⟩
    · rw [im_u_k _ _ _ _ (by decide)]; exact h.2.2.2 i hi
    · rw [im_u_j _ _ _ _ (by omega)]; exact h.2.2.2 i hi
theorem re_M_u {t : Nat} {mi m2 : im_MI} {tb : Nat → Nat} {z : Nat} (h : re_M mi tb z) (h2 : ru_ t mi m2) : re_M m2 tb z := by
  obtain ⟨h1, h3, h4, h5, h6⟩ := h
  exact ⟨by rw [h2.2.1 6 (by decide)]; exact h1, by rw [h2.1 114 (by decide) (by decide) (by decide) (by decide)]; exact h3, h4, h5, by rw [h2.1 123 (by decide) (by decide) (by decide) (by decide)]; exact h6⟩
/-- all parts are in -/
def rg_ (t : Nat) (mi : im_MI) (l : List (List Nat)) : Prop := l.length = 3 ∧ ro_ t mi l.flatten ∧ (∀ k, k ≤ 3 → mi 116 (4 * t + k) = nI ((l.take k).flatten.length)) ∧ (∀ c, c ∈ l → te_ok 0 c = true) ∧ l.flatten.length ≤ 160
def rT_Q (t : Nat) (l : List (List Nat)) (a : pd_T) (r : Value) (m1 m2 : im_MI) : Prop := match a with
  | .inl f => r = .int ((-100) - nI f) ∧ m2 = im_u m1 110 6 (nI 0)
  | .inr l2 => r = .int (nI t) ∧ m2 = im_u (im_u m1 110 6 (nI 0)) 110 9 (nI (t + 1)) ∧ rg_ t m1 (l ++ l2)
theorem rT_fail {d : Nat} {sh : im_Sh} {mi0 mi : im_MI} {mr : im_MR} (hC : pu_C sh mr) {t f i : Nat} (ht : t < 6) (h9 : mi 110 9 = nI t) (hu : ru_ t mi0 mi) (h19 : mi 110 19 = nI f) (hi : i ≤ 3) (l : List (List Nat)) : Ev d 149 26 [.ref 110, .int (nI 0), .int (nI i)] [] sh mi mr (fun r sh2 m2 r2 => sh2 = sh ∧ (r2 = mr ∧ ∃ m1, ru_ t mi0 m1 ∧ rT_Q t l (.inl f) r m1 m2)) := by
  have tail : Ev d 149 101 [.ref 110, .int (nI 0), .int (nI i)] [] sh mi mr (fun r sh2 m2 r2 => sh2 = sh ∧ (r2 = mr ∧ ∃ m1, ru_ t mi0 m1 ∧ rT_Q t l (.inl f) r m1 m2)) := by
    refine ev_s (is_iload_n rfl rfl) ?_
    refine ev_s (is_if_eq_t rfl rfl) ?_
    refine ev_s (is_aload_n rfl rfl) ?_
    refine ev_s (is_getR rfl (pu_s hC 110 rfl rfl) rfl rfl (pu_r hC 110 8 rfl rfl)) ?_
    refine ev_s (is_iconst (nI 4) rfl rfl) ?_
    refine ev_s (is_aload_n rfl rfl) ?_
    refine ev_s (is_getI' rfl (pu_s hC 110 rfl rfl) rfl rfl h9) ?_
    first
      | refine ev_s (is_imul _ rfl (pk_mul _ _)) ?_
      | refine ev_s (is_imul _ rfl rfl) ?_
    refine ev_s (is_iconst (nI 3) rfl rfl) ?_
    first
      | refine ev_s (is_iadd _ rfl (nI_add _ _)) ?_
      | refine ev_s (is_iadd _ rfl rfl) ?_
    refine ev_s (is_aload_n rfl rfl) ?_
    refine ev_s (is_getI rfl (pu_s hC 110 rfl rfl) rfl rfl) ?_
    refine ev_s (is_iastore (4 * t + 3) rfl (pu_s hC 116 rfl rfl) rfl rfl (by omega)) ?_
    refine ev_s (is_aload_n rfl rfl) ?_
    refine ev_s (is_iconst (nI 0) rfl rfl) ?_
    refine ev_s (is_putI rfl (pu_s hC 110 rfl rfl) rfl rfl rfl) ?_
    refine ev_s (is_iload_n rfl rfl) ?_
    refine ev_s (is_if_ne_f rfl (by decide)) ?_
    refine ev_s (is_bipush ((-100)) rfl rfl) ?_
    refine ev_s (is_aload_n rfl rfl) ?_
    refine ev_s (is_getI' rfl (pu_s hC 110 rfl rfl) rfl rfl ((im_u_j _ _ _ _ (by decide)).trans ((im_u_k _ _ _ _ (by decide)).trans h19))) ?_
    first
      | refine ev_s (is_isub _ rfl (pk_sub (by omega))) ?_
      | refine ev_s (is_isub _ rfl rfl) ?_
    refine ev_ret (is_ireturn rfl rfl (by first | rfl | exact pu_b_nar | decide)) ?_
    exact ⟨rfl, rfl, _, ru_u hu (Or.inr ⟨rfl, Nat.le_add_right _ _⟩), rfl, rfl⟩
  by_cases c : 3 ≤ i
  · refine ev_s (is_iload_n rfl rfl) ?_
    refine ev_s (is_iconst (nI 3) rfl rfl) ?_
    refine ev_s (is_icmp_ge_t rfl (nI_le (by omega) (by omega))) ?_
    exact tail
  · refine ev_s (is_iload_n rfl rfl) ?_
    refine ev_s (is_iconst (nI 3) rfl rfl) ?_
    refine ev_s (is_icmp_ge_f rfl (nI_ge (by omega) (by omega))) ?_
    refine ev_s (is_iload_n rfl rfl) ?_
    refine ev_s (is_if_eq_t rfl rfl) ?_
    exact tail
theorem rT_loop {d : Nat} {sh : im_Sh} {mi0 : im_MI} {mr : im_MR} (hC : pu_C sh mr) {tb : Nat → Nat} {z t : Nat} (hT0 : re_M mi0 tb z) (ht : t < 6) (h90 : mi0 110 9 = nI t) : ∀ (j i p : Nat) (l : List (List Nat)) (mi : im_MI), i + j = 3 → ru_ t mi0 mi → p ≤ z → mi 110 18 = nI p → ro_ t mi l.flatten → l.flatten.length ≤ p → l.length = i → (∀ k, k < i → mi 116 (4 * t + k) = nI ((l.take k).flatten.length)) → (∀ c, c ∈ l → te_ok 0 c = true) → Ev (d + 4) 149 26 [.ref 110, .int (nI 1), .int (nI i)] [] sh mi mr (fun r sh2 m2 r2 => sh2 = sh ∧ (r2 = mr ∧ ∃ m1, ru_ t mi0 m1 ∧ rT_Q t l (rdT (tk_k tb z) (tk_v tb z) (tk_f tb z) (tk_t tb z) j p) r m1 m2)) := by
  intro j
  induction j with
  | zero =>
    intro i p l mi hi hu hp h18 ho hlen hl hs hw
    have h9 : mi 110 9 = nI t := by rw [hu.2.1 9 (by decide)]; exact h90
    have hT := re_M_u hT0 hu
    have hz1 := hT.2.2.1
    refine ev_s (is_iload_n rfl rfl) ?_
    refine ev_s (is_iconst (nI 3) rfl rfl) ?_
    refine ev_s (is_icmp_ge_t rfl (nI_le (by omega) (by omega))) ?_
    refine ev_s (is_iload_n rfl rfl) ?_
    refine ev_s (is_if_eq_f rfl (by decide)) ?_
    refine ev_s (is_aload_n rfl rfl) ?_
    refine ev_q0 (is_callR 1 [] [] rfl rfl rfl rfl rfl (Nat.le_of_ble_eq_true rfl) rfl rfl rfl (pu_s hC 110 rfl rfl)) rfl rfl (re_next hC hT hp h18) (fun r_106 mi mr hq_106 => ?_)
    obtain ⟨rfl, hn, hk⟩ := hq_106
    have hun := ru_q hu (rn_q (t := t) hn)
    have h9n : mi 110 9 = nI t := by rw [hn.2 9 (by decide)]; exact h9
    have hon := ro_n ho hn
    have hk256 := tk_lt (tb := tb) (z := z) hT.2.2.2.1 p
    have e116 := hn.1 116 (by decide)
    refine ev_s (is_aload_n rfl rfl) ?_
    refine ev_s (is_getI' rfl (pu_s hC 110 rfl rfl) rfl rfl hk.2.2.1) ?_
    refine ev_tk0_ne rfl (rt_e0 (by omega)) (fun h_113 => ?_) (fun h_113 => ?_)
    · refine ev_s (is_iconst (nI 0) rfl rfl) ?_
      refine ev_s (st_istore_n_1 rfl rfl) ?_
      refine ev_s (is_aload_n rfl rfl) ?_
      refine ev_s (is_getR rfl (pu_s hC 110 rfl rfl) rfl rfl (pu_r hC 110 8 rfl rfl)) ?_
      refine ev_s (is_iconst (nI 4) rfl rfl) ?_
      refine ev_s (is_aload_n rfl rfl) ?_
      refine ev_s (is_getI' rfl (pu_s hC 110 rfl rfl) rfl rfl h9n) ?_
      first
        | refine ev_s (is_imul _ rfl (pk_mul _ _)) ?_
        | refine ev_s (is_imul _ rfl rfl) ?_
      refine ev_s (is_iconst (nI 3) rfl rfl) ?_
      first
        | refine ev_s (is_iadd _ rfl (nI_add _ _)) ?_
        | refine ev_s (is_iadd _ rfl rfl) ?_
      refine ev_s (is_aload_n rfl rfl) ?_
      refine ev_s (is_getI' rfl (pu_s hC 110 rfl rfl) rfl rfl hon.1) ?_
      refine ev_s (is_iastore (4 * t + 3) rfl (pu_s hC 116 rfl rfl) rfl rfl (by omega)) ?_
      refine ev_s (is_aload_n rfl rfl) ?_
      refine ev_s (is_iconst (nI 0) rfl rfl) ?_
      refine ev_s (is_putI rfl (pu_s hC 110 rfl rfl) rfl rfl rfl) ?_
      refine ev_s (is_iload_n rfl rfl) ?_
      refine ev_s (is_if_ne_f rfl (by decide)) ?_
      refine ev_s (is_bipush ((-100)) rfl rfl) ?_
      refine ev_s (is_aload_n rfl rfl) ?_
      refine ev_s (is_getI' rfl (pu_s hC 110 rfl rfl) rfl rfl ((im_u_j _ _ _ _ (by decide)).trans ((im_u_k _ _ _ _ (by decide)).trans hk.2.1))) ?_
      first
        | refine ev_s (is_isub _ rfl (pk_sub (by omega))) ?_
        | refine ev_s (is_isub _ rfl rfl) ?_
      refine ev_ret (is_ireturn rfl rfl (by first | rfl | exact pu_b_nar | decide)) ?_
      rw [rdT, if_neg h_113]
      exact ⟨rfl, rfl, _, ru_u hun (Or.inr ⟨rfl, Nat.le_add_right _ _⟩), rfl, rfl⟩
    · refine ev_s (is_iconst (nI 1) rfl rfl) ?_
      refine ev_s (is_goto rfl) ?_
      refine ev_s (st_istore_n_1 rfl rfl) ?_
      refine ev_s (is_aload_n rfl rfl) ?_
      refine ev_s (is_getR rfl (pu_s hC 110 rfl rfl) rfl rfl (pu_r hC 110 8 rfl rfl)) ?_
      refine ev_s (is_iconst (nI 4) rfl rfl) ?_
      refine ev_s (is_aload_n rfl rfl) ?_
      refine ev_s (is_getI' rfl (pu_s hC 110 rfl rfl) rfl rfl h9n) ?_
      first
        | refine ev_s (is_imul _ rfl (pk_mul _ _)) ?_
        | refine ev_s (is_imul _ rfl rfl) ?_
      refine ev_s (is_iconst (nI 3) rfl rfl) ?_
      first
        | refine ev_s (is_iadd _ rfl (nI_add _ _)) ?_
        | refine ev_s (is_iadd _ rfl rfl) ?_
      refine ev_s (is_aload_n rfl rfl) ?_
      refine ev_s (is_getI' rfl (pu_s hC 110 rfl rfl) rfl rfl hon.1) ?_
      refine ev_s (is_iastore (4 * t + 3) rfl (pu_s hC 116 rfl rfl) rfl rfl (by omega)) ?_
      refine ev_s (is_aload_n rfl rfl) ?_
      refine ev_s (is_iconst (nI 0) rfl rfl) ?_
      refine ev_s (is_putI rfl (pu_s hC 110 rfl rfl) rfl rfl rfl) ?_
      refine ev_s (is_iload_n rfl rfl) ?_
      refine ev_s (is_if_ne_t rfl (by decide)) ?_
      refine ev_s (is_aload_n rfl rfl) ?_
      refine ev_s (is_dup rfl rfl) ?_
      refine ev_s (is_getI' rfl (pu_s hC 110 rfl rfl) rfl rfl ((im_u_j _ _ _ _ (by decide)).trans ((im_u_k _ _ _ _ (by decide)).trans h9n))) ?_
      refine ev_s (is_iconst (nI 1) rfl rfl) ?_
      first
        | refine ev_s (is_iadd _ rfl (nI_add _ _)) ?_
        | refine ev_s (is_iadd _ rfl rfl) ?_
      refine ev_s (is_putI rfl (pu_s hC 110 rfl rfl) rfl rfl rfl) ?_
      refine ev_s (is_aload_n rfl rfl) ?_
      refine ev_s (is_getI' rfl (pu_s hC 110 rfl rfl) rfl rfl (im_u_s _ _ _ _)) ?_
      refine ev_s (is_iconst (nI 1) rfl rfl) ?_
      refine ev_s (is_isub (nI t) rfl (by rw [pk_sub (by omega)]; rfl)) ?_
      refine ev_ret (is_ireturn rfl rfl (by first | rfl | exact pu_b_nar | decide)) ?_
      rw [rdT, if_pos h_113]
      refine ⟨rfl, rfl, _, ru_u hun (Or.inr ⟨rfl, Nat.le_add_right _ _⟩), rfl, rfl, ?_⟩
      rw [List.append_nil]
      refine ⟨hl.trans hi, ⟨by rw [im_u_k _ _ _ _ (by decide)]; exact hon.1, fun k hk2 => by rw [im_u_k _ _ _ _ (by decide)]; exact hon.2 k hk2⟩, fun k hk2 => ?_, hw, by omega⟩
      by_cases c : k = 3
      · subst c; rw [im_u_s, List.take_of_length_le (by omega)]
      · rw [im_u_j _ _ _ _ (by omega), e116]; exact hs k (by omega)
  | succ j ih =>
    intro i p l mi hi hu hp h18 ho hlen hl hs hw
    have h9 : mi 110 9 = nI t := by rw [hu.2.1 9 (by decide)]; exact h90
    have hT := re_M_u hT0 hu
    have hz1 := hT.2.2.1
    refine ev_s (is_iload_n rfl rfl) ?_
    refine ev_s (is_iconst (nI 3) rfl rfl) ?_
    refine ev_s (is_icmp_ge_f rfl (nI_ge (by omega) (by omega))) ?_
    refine ev_s (is_iload_n rfl rfl) ?_
    refine ev_s (is_if_eq_f rfl (by decide)) ?_
    refine ev_s (is_aload_n rfl rfl) ?_
    refine ev_q0 (is_callR 1 [] [] rfl rfl rfl rfl rfl (Nat.le_of_ble_eq_true rfl) rfl rfl rfl (pu_s hC 110 rfl rfl)) rfl rfl (re_next hC hT hp h18) (fun r_36 mi mr hq_36 => ?_)
    obtain ⟨rfl, hn, hk⟩ := hq_36
    have hun := ru_q hu (rn_q (t := t) hn)
    have h9n : mi 110 9 = nI t := by rw [hn.2 9 (by decide)]; exact h9
    have hon := ro_n ho hn
    have hk256 := tk_lt (tb := tb) (z := z) hT.2.2.2.1 p
    have e116 := hn.1 116 (by decide)
    refine ev_s (is_aload_n rfl rfl) ?_
    refine ev_s (is_getI' rfl (pu_s hC 110 rfl rfl) rfl rfl hk.2.2.1) ?_
    refine ev_s (is_iconst (nI 3) rfl rfl) ?_
    refine ev_icmp_ne rfl (fun h_44 => ?_) (fun h_44 => ?_)
    · have hne : ¬ tk_k tb z p = 6 - j := fun q => h_44 ((rt_e4 hk256).mpr (by omega))
      refine ev_s (is_iconst (nI 0) rfl rfl) ?_
      refine ev_s (st_istore_n_1 rfl rfl) ?_
      refine ev_s (is_aload_n rfl rfl) ?_
      refine ev_s (is_getR rfl (pu_s hC 110 rfl rfl) rfl rfl (pu_r hC 110 8 rfl rfl)) ?_
      refine ev_s (is_iconst (nI 4) rfl rfl) ?_
      refine ev_s (is_aload_n rfl rfl) ?_
      refine ev_s (is_getI' rfl (pu_s hC 110 rfl rfl) rfl rfl h9n) ?_
      first
        | refine ev_s (is_imul _ rfl (pk_mul _ _)) ?_
        | refine ev_s (is_imul _ rfl rfl) ?_
      refine ev_s (is_iload_n rfl rfl) ?_
      first
        | refine ev_s (is_iadd _ rfl (nI_add _ _)) ?_
        | refine ev_s (is_iadd _ rfl rfl) ?_
      refine ev_s (is_aload_n rfl rfl) ?_
      refine ev_s (is_getI' rfl (pu_s hC 110 rfl rfl) rfl rfl hon.1) ?_
      refine ev_s (is_iastore (4 * t + i) rfl (pu_s hC 116 rfl rfl) rfl rfl (by omega)) ?_
      refine ev_s (is_iload_n rfl rfl) ?_
      refine ev_s (is_if_eq_t rfl rfl) ?_
      refine ev_s (is_iconst (nI 0) rfl rfl) ?_
      refine ev_s (st_istore_n_1 rfl rfl) ?_
      refine ev_s (st_iinc_2 _ rfl rfl (nI_inc _)) ?_
      refine ev_s (is_goto rfl) ?_
      rw [show rdT (tk_k tb z) (tk_v tb z) (tk_f tb z) (tk_t tb z) (j + 1) p = .inl (tk_f tb z p) from if_neg hne]
      exact rT_fail hC ht ((im_u_k _ _ _ _ (by decide)).trans h9n) (ru_u hun (Or.inr ⟨rfl, Nat.le_add_right _ _⟩)) ((im_u_k _ _ _ _ (by decide)).trans hk.2.1) (by omega) l
    · have h_44 := (rt_e4 hk256).mp (Decidable.not_not.mp h_44)
      refine ev_s (is_aload_n rfl rfl) ?_
      refine ev_s (is_getI' rfl (pu_s hC 110 rfl rfl) rfl rfl (hk.2.2.2.2 h_44.1 (by omega))) ?_
      refine ev_s (is_iload_n rfl rfl) ?_
      refine ev_icmpN_ne rfl (by omega) (by omega) (fun h_52 => ?_) (fun h_52 => ?_)
      · have hne : ¬ tk_k tb z p = 6 - j := fun q => h_52 (by omega)
        refine ev_s (is_iconst (nI 0) rfl rfl) ?_
        refine ev_s (st_istore_n_1 rfl rfl) ?_
        refine ev_s (is_aload_n rfl rfl) ?_
        refine ev_s (is_getR rfl (pu_s hC 110 rfl rfl) rfl rfl (pu_r hC 110 8 rfl rfl)) ?_
        refine ev_s (is_iconst (nI 4) rfl rfl) ?_
        refine ev_s (is_aload_n rfl rfl) ?_
        refine ev_s (is_getI' rfl (pu_s hC 110 rfl rfl) rfl rfl h9n) ?_
        first
          | refine ev_s (is_imul _ rfl (pk_mul _ _)) ?_
          | refine ev_s (is_imul _ rfl rfl) ?_
        refine ev_s (is_iload_n rfl rfl) ?_
        first
          | refine ev_s (is_iadd _ rfl (nI_add _ _)) ?_
          | refine ev_s (is_iadd _ rfl rfl) ?_
        refine ev_s (is_aload_n rfl rfl) ?_
        refine ev_s (is_getI' rfl (pu_s hC 110 rfl rfl) rfl rfl hon.1) ?_
        refine ev_s (is_iastore (4 * t + i) rfl (pu_s hC 116 rfl rfl) rfl rfl (by omega)) ?_
        refine ev_s (is_iload_n rfl rfl) ?_
        refine ev_s (is_if_eq_t rfl rfl) ?_
        refine ev_s (is_iconst (nI 0) rfl rfl) ?_
        refine ev_s (st_istore_n_1 rfl rfl) ?_
        refine ev_s (st_iinc_2 _ rfl rfl (nI_inc _)) ?_
        refine ev_s (is_goto rfl) ?_
        rw [show rdT (tk_k tb z) (tk_v tb z) (tk_f tb z) (tk_t tb z) (j + 1) p = .inl (tk_f tb z p) from if_neg hne]
        exact rT_fail hC ht ((im_u_k _ _ _ _ (by decide)).trans h9n) (ru_u hun (Or.inr ⟨rfl, Nat.le_add_right _ _⟩)) ((im_u_k _ _ _ _ (by decide)).trans hk.2.1) (by omega) l
      · have hkey : tk_k tb z p = 6 - j := by omega
        have hT2 := tk_T (tb := tb) (z := z) hz1 p hp (by omega)
        refine ev_s (is_iconst (nI 1) rfl rfl) ?_
        refine ev_s (is_goto rfl) ?_
        refine ev_s (st_istore_n_1 rfl rfl) ?_
        refine ev_s (is_aload_n rfl rfl) ?_
        refine ev_s (is_getR rfl (pu_s hC 110 rfl rfl) rfl rfl (pu_r hC 110 8 rfl rfl)) ?_
        refine ev_s (is_iconst (nI 4) rfl rfl) ?_
        refine ev_s (is_aload_n rfl rfl) ?_
        refine ev_s (is_getI' rfl (pu_s hC 110 rfl rfl) rfl rfl h9n) ?_
        first
          | refine ev_s (is_imul _ rfl (pk_mul _ _)) ?_
          | refine ev_s (is_imul _ rfl rfl) ?_
        refine ev_s (is_iload_n rfl rfl) ?_
        first
          | refine ev_s (is_iadd _ rfl (nI_add _ _)) ?_
          | refine ev_s (is_iadd _ rfl rfl) ?_
        refine ev_s (is_aload_n rfl rfl) ?_
        refine ev_s (is_getI' rfl (pu_s hC 110 rfl rfl) rfl rfl hon.1) ?_
        refine ev_s (is_iastore (4 * t + i) rfl (pu_s hC 116 rfl rfl) rfl rfl (by omega)) ?_
        refine ev_s (is_iload_n rfl rfl) ?_
        refine ev_s (is_if_eq_f rfl (by decide)) ?_
        refine ev_s (is_aload_n rfl rfl) ?_
        refine ev_q1 (is_callR 1 [] [] rfl rfl rfl rfl rfl (Nat.le_of_ble_eq_true rfl) rfl rfl rfl (pu_s hC 110 rfl rfl)) rfl rfl (re_eRead hC (mi := (im_u mi 116 (4 * t + i) (nI l.flatten.length))) (re_M_u hT0 (ru_u hun (Or.inr ⟨rfl, Nat.le_add_right _ _⟩))) ht hT2.2 ((im_u_k _ _ _ _ (by decide)).trans hk.1) ((im_u_k _ _ _ _ (by decide)).trans h9n) (ro_o hon (by rw [im_u_row' (by decide)]) (by rw [im_u_k _ _ _ _ (by decide)])) (by omega)) (fun r_83 mi mr hq_83 => ?_)
        obtain ⟨rfl, hq1, hq2⟩ := hq_83
        cases hE : pd_E (tk_k tb z) (tk_v tb z) (tk_f tb z) (tk_t tb z) (tk_t tb z p) with
        | inl f =>
          rw [hE] at hq2
          obtain ⟨rfl, hq3⟩ : r_83 = .int (nI 0) ∧ mi 110 19 = nI f := hq2
          have hq2 : True ∧ mi 110 19 = nI f := ⟨trivial, hq3⟩
          refine ev_s (is_if_eq_t rfl rfl) ?_
          refine ev_s (is_iconst (nI 0) rfl rfl) ?_
          refine ev_s (st_istore_n_1 rfl rfl) ?_
          refine ev_s (st_iinc_2 _ rfl rfl (nI_inc _)) ?_
          refine ev_s (is_goto rfl) ?_
          rw [show rdT (tk_k tb z) (tk_v tb z) (tk_f tb z) (tk_t tb z) (j + 1) p = .inl f from (if_pos hkey).trans (by rw [hE] <;> rfl)]
          exact rT_fail hC ht (by rw [hq1.2.1 9 (by decide), im_u_k _ _ _ _ (by decide)]; exact h9n) (ru_q (ru_u hun (Or.inr ⟨rfl, Nat.le_add_right _ _⟩)) hq1) hq2.2 (by omega) l
        | inr q =>
          have hW := pd_E_W (F := tk_f tb z) (tk_T hz1) tk_V hT2.2 hE
          rw [hE] at hq2
          obtain ⟨rfl, hq3, hq4⟩ : r_83 = .int (nI 1) ∧ mi 110 18 = nI q.1 ∧ ro_ t mi (l.flatten ++ q.2) := hq2
          have hq2 : True ∧ mi 110 18 = nI q.1 ∧ ro_ t mi (l.flatten ++ q.2) := ⟨trivial, hq3, hq4⟩
          refine ev_s (is_if_eq_f rfl (by decide)) ?_
          refine ev_s (is_iconst (nI 1) rfl rfl) ?_
          refine ev_s (is_goto rfl) ?_
          refine ev_s (st_istore_n_1 rfl rfl) ?_
          refine ev_s (st_iinc_2 _ rfl rfl (nI_inc _)) ?_
          refine ev_s (is_goto rfl) ?_
          have hih := ih (i + 1) q.1 (l ++ [q.2]) _ (by omega) (ru_q (ru_u hun (Or.inr ⟨rfl, Nat.le_add_right _ _⟩)) hq1) hW.2.1 hq2.2.1 (by rw [flat_app]; exact hq2.2.2) (by rw [flat_app, List.length_append]; omega) (by rw [List.length_append, hl]; rfl) (fun k hk2 => ?_) (fun c hc => ?_)
          · refine ev_imp hih (fun r sh2 m2 r2 hh => ⟨hh.1, hh.2.1, ?_⟩)
            obtain ⟨m1, hm1, hm2⟩ := hh.2.2
            refine ⟨m1, hm1, ?_⟩
            rw [show rdT (tk_k tb z) (tk_v tb z) (tk_f tb z) (tk_t tb z) (j + 1) p = (match rdT (tk_k tb z) (tk_v tb z) (tk_f tb z) (tk_t tb z) j q.1 with
              | .inl f => .inl f
              | .inr l => .inr (q.2 :: l)) from (if_pos hkey).trans (by rw [hE] <;> rfl)]
            cases hr : rdT (tk_k tb z) (tk_v tb z) (tk_f tb z) (tk_t tb z) j q.1 with
            | inl f => rw [hr] at hm2; exact hm2
            | inr l2 => rw [hr] at hm2; exact ⟨hm2.1, hm2.2.1, by have := hm2.2.2; rw [List.append_assoc] at this; exact this⟩
          · rw [hq1.1 116 (by decide) (by decide) (by decide)]
            by_cases c : k = i
            · subst c; rw [im_u_s, List.take_append_of_le_length (by omega), List.take_of_length_le (by omega)]
            · rw [im_u_j _ _ _ _ (by omega), e116, List.take_append_of_le_length (by omega)]; exact hs k (by omega)
          · rcases List.mem_append.mp hc with c1 | c1
            · exact hw c c1
            · rw [List.mem_singleton.mp c1]; exact hW.2.2.2
