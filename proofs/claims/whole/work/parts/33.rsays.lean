/-! ===== PURE, the reference: says ===== -/

theorem lo_drop {α : Type} [Inhabited α] {l : List α} {i : Nat} {c : α} {r : List α} (e0 : α) (h : l.drop i = c :: r) : i < l.length ∧ l.getD i e0 = c ∧ l.drop (i + 1) = r := by
  have hl : i < l.length := by
    rcases Nat.lt_or_ge i l.length with q | q
    · exact q
    · rw [List.drop_eq_nil_iff.mpr q] at h; cases h
  rw [List.drop_eq_getElem_cons hl] at h
  obtain ⟨rfl, rfl⟩ := List.cons.inj h
  exact ⟨hl, by rw [List.getD_eq_getElem?_getD, List.getElem?_eq_getElem hl]; rfl, rfl⟩

theorem r_says {d : Nat} {sh : im_Sh} {mi : im_MI} {mr : im_MR} (hC : pu_C sh mr) {H : ho_T} {G : ho_G} (hR : rr_ok H G mi) {p : Nat} (hp : p < 3) {nm : Nat → Int32} (hnm : ∀ c, c < 6 → mi 126 c = nm c) : EvM (d + 1) 151 [.ref 110, .int (nI p)] sh mi mr (fun r sh2 m2 r2 => sh2 = sh ∧ (r = .int (te_val nm (G (H 0 3) p)) ∧ r2 = mr ∧ sc_ (fun k => Nat.beq k 125) mi m2)) := by
  show Ev (d + 1) 151 0 [.ref 110, .int (nI p), im_bad, im_bad, im_bad] [] sh mi mr _
  obtain ⟨h1, h2, h3, h4, h5, h6, h7, h8, h9⟩ := id hR
  obtain ⟨b1, b2, b3, b4, b5, b6, b7, b8, b9, b10⟩ := id h8
  have hg := h9 _ b4
  have hp1 : te_at G (H 0 3) (p + 1) = te_at G (H 0 3) p + (G (H 0 3) p).length := rfl
  have hlen : te_at G (H 0 3) p + (G (H 0 3) p).length ≤ 160 := by
    have h3 := hg.2
    rcases (show p = 0 ∨ p = 1 ∨ p = 2 by omega) with rfl | rfl | rfl <;> simp only [te_at, lo_sum] at h3 ⊢ <;> omega
  have loop : ∀ (l : List Nat) (i : Nat) (st : List Int32) (mi2 : im_MI) (v4 : Value), i ≤ 200 → st.length ≤ 32 → (G (H 0 3) p).drop i = l → te_ok st.length l = true → sc_ (fun k => Nat.beq k 125) mi mi2 → te_st mi2 125 st → Ev (d + 1) 151 16 [.ref 110, .int (nI p), .int (nI st.length), .int (nI (te_at G (H 0 3) p + i)), v4] [] sh mi2 mr (fun r sh2 m2 r2 => sh2 = sh ∧ (r = .int ((te_run nm l st).headD 0) ∧ r2 = mr ∧ sc_ (fun k => Nat.beq k 125) mi m2)) := by
    intro l
    induction l with
    | nil =>
      intro i st mi2 v4 hi2 hdep hd hok hsc hst
      have hi : (G (H 0 3) p).length ≤ i := List.drop_eq_nil_iff.mp hd
      have h4 := (congrFun (hsc 110 rfl) 10).trans h4
      have h1s : st.length = 1 := Nat.eq_of_beq_eq_true hok
      match st, h1s with
      | [a], _ =>
      have hta : mi2 125 0 = a := hst.top
      have hib : te_at G (H 0 3) p + i < 2 ^ 31 := by omega
      refine ev_s (is_iload_n rfl rfl) ?_
      refine ev_s (is_aload_n rfl rfl) ?_
      refine ev_s (is_getR rfl (pu_s hC 110 rfl rfl) rfl rfl (pu_r hC 110 8 rfl rfl)) ?_
      refine ev_s (is_iconst (nI 4) rfl rfl) ?_
      refine ev_s (is_aload_n rfl rfl) ?_
      refine ev_s (is_getI' rfl (pu_s hC 110 rfl rfl) rfl rfl h4) ?_
      first
        | refine ev_s (is_imul _ rfl (pk_mul _ _)) ?_
        | refine ev_s (is_imul _ rfl rfl) ?_
      refine ev_s (is_iload_n rfl rfl) ?_
      first
        | refine ev_s (is_iadd _ rfl (nI_add _ _)) ?_
        | refine ev_s (is_iadd _ rfl rfl) ?_
      refine ev_s (is_iconst (nI 1) rfl rfl) ?_
      first
        | refine ev_s (is_iadd _ rfl (nI_add _ _)) ?_
        | refine ev_s (is_iadd _ rfl rfl) ?_
      refine ev_s (is_iaload' (4 * H 0 3 + (p + 1)) rfl (pu_s hC 116 rfl rfl) rfl rfl (by omega) ((congrFun (hsc 116 rfl) _).trans ((h7 _ b4).1 (p + 1) (by omega)))) ?_
      refine ev_s (is_icmp_ge_t rfl (nI_le (show te_at G (H 0 3) p + (G (H 0 3) p).length ≤ te_at G (H 0 3) p + i by omega) (hib))) ?_
      refine ev_s (is_aload_n rfl rfl) ?_
      refine ev_s (is_getR rfl (pu_s hC 110 rfl rfl) rfl rfl (pu_r hC 110 27 rfl rfl)) ?_
      refine ev_s (is_iconst (nI 0) rfl rfl) ?_
      refine ev_s (is_iaload' (0) rfl (pu_s hC 125 rfl rfl) rfl rfl (by decide) hta) ?_
      refine ev_ret (is_ireturn rfl rfl (by first | rfl | exact pu_b_nar | decide)) ?_
      exact ⟨rfl, rfl, rfl, hsc⟩
    | cons c l ih =>
      intro i st mi2 v4 hi2 hdep hd hok hsc hst
      have h4 := (congrFun (hsc 110 rfl) 10).trans h4
      obtain ⟨hi, hce, hdr⟩ := lo_drop 0 hd
      have hok2 : te_okc st.length c = true ∧ te_ok (te_dep st.length c) l = true := by
        rw [te_ok, Bool.and_eq_true] at hok
        exact hok
      obtain ⟨hoc, hol⟩ := hok2
      unfold te_okc at hoc
      unfold te_dep at hol
      by_cases hA : 100000 ≤ c
      · have hs : te_run nm (c :: l) st = te_run nm l (nI (c - 100000) :: st) := by show te_run nm l (te_step nm st c) = _; unfold te_step; rw [if_pos hA]
        rw [hs]
        rw [if_pos hA] at hoc
        simp only [Bool.and_eq_true, decide_eq_true_eq] at hoc
        rw [if_pos (Or.inl hA)] at hol
        refine ev_s (is_iload_n rfl rfl) ?_
        refine ev_s (is_aload_n rfl rfl) ?_
        refine ev_s (is_getR rfl (pu_s hC 110 rfl rfl) rfl rfl (pu_r hC 110 8 rfl rfl)) ?_
        refine ev_s (is_iconst (nI 4) rfl rfl) ?_
        refine ev_s (is_aload_n rfl rfl) ?_
        refine ev_s (is_getI' rfl (pu_s hC 110 rfl rfl) rfl rfl h4) ?_
        first
          | refine ev_s (is_imul _ rfl (pk_mul _ _)) ?_
          | refine ev_s (is_imul _ rfl rfl) ?_
        refine ev_s (is_iload_n rfl rfl) ?_
        first
          | refine ev_s (is_iadd _ rfl (nI_add _ _)) ?_
          | refine ev_s (is_iadd _ rfl rfl) ?_
        refine ev_s (is_iconst (nI 1) rfl rfl) ?_
        first
          | refine ev_s (is_iadd _ rfl (nI_add _ _)) ?_
          | refine ev_s (is_iadd _ rfl rfl) ?_
        refine ev_s (is_iaload' (4 * H 0 3 + (p + 1)) rfl (pu_s hC 116 rfl rfl) rfl rfl (by omega) ((congrFun (hsc 116 rfl) _).trans ((h7 _ b4).1 (p + 1) (by omega)))) ?_
        refine ev_s (is_icmp_ge_f rfl (nI_ge (by omega) (by omega))) ?_
        refine ev_s (is_aload_n rfl rfl) ?_
        refine ev_s (is_getR rfl (pu_s hC 110 rfl rfl) rfl rfl (pu_r hC 110 7 rfl rfl)) ?_
        refine ev_s (is_sipush (nI 200) rfl rfl) ?_
        refine ev_s (is_aload_n rfl rfl) ?_
        refine ev_s (is_getI' rfl (pu_s hC 110 rfl rfl) rfl rfl h4) ?_
        first
          | refine ev_s (is_imul _ rfl (pk_mul _ _)) ?_
          | refine ev_s (is_imul _ rfl rfl) ?_
        refine ev_s (is_iload_n rfl rfl) ?_
        first
          | refine ev_s (is_iadd _ rfl (nI_add _ _)) ?_
          | refine ev_s (is_iadd _ rfl rfl) ?_
        refine ev_s (is_iaload' (200 * H 0 3 + (te_at G (H 0 3) p + i)) rfl (pu_s hC 115 rfl rfl) rfl rfl (by omega) ((congrFun (hsc 115 rfl) _).trans (((h7 _ b4).2 p i (by omega) hi).trans (by rw [hce])))) ?_
        refine ev_s (st_istore_4 rfl rfl) ?_
        refine ev_s (is_iload rfl rfl) ?_
        refine ev_s (is_ldcI (nI 100000) rfl rfl) ?_
        refine ev_s (is_icmp_ge_t rfl (nI_le (by omega) (by omega))) ?_
        refine ev_s (is_aload_n rfl rfl) ?_
        refine ev_s (is_getR rfl (pu_s hC 110 rfl rfl) rfl rfl (pu_r hC 110 27 rfl rfl)) ?_
        refine ev_s (is_iload_n rfl rfl) ?_
        refine ev_s (is_iload rfl rfl) ?_
        refine ev_s (is_bipush (nI 11) rfl rfl) ?_
        refine ev_s (is_icmp_ge_t rfl (nI_le (by omega) (by omega))) ?_
        refine ev_s (is_iload rfl rfl) ?_
        refine ev_s (is_ldcI (nI 100000) rfl rfl) ?_
        first
          | refine ev_s (is_isub _ rfl (pk_sub (by omega))) ?_
          | refine ev_s (is_isub _ rfl rfl) ?_
        refine ev_s (is_iastore (st.length) rfl (pu_s hC 125 rfl rfl) rfl rfl (by omega)) ?_
        refine ev_s (st_iinc_2 _ rfl rfl (nI_inc _)) ?_
        refine ev_s (is_goto rfl) ?_
        refine ev_s (st_iinc_3 _ rfl rfl (nI_inc _)) ?_
        refine ev_s (is_goto rfl) ?_
        exact ih (i + 1) (nI (c - 100000) :: st) _ _ (by omega) (by simp at hdep ⊢; omega) hdr hol (hsc.u rfl) (hst.push _)
      by_cases hB : c < 11
      · have hs : te_run nm (c :: l) st = te_run nm l (nm c :: st) := by show te_run nm l (te_step nm st c) = _; unfold te_step; rw [if_neg hA, if_pos hB]
        rw [hs]
        rw [if_neg hA, if_pos hB] at hoc
        simp only [Bool.and_eq_true, decide_eq_true_eq] at hoc
        rw [if_pos (Or.inr hB)] at hol
        refine ev_s (is_iload_n rfl rfl) ?_
        refine ev_s (is_aload_n rfl rfl) ?_
        refine ev_s (is_getR rfl (pu_s hC 110 rfl rfl) rfl rfl (pu_r hC 110 8 rfl rfl)) ?_
        refine ev_s (is_iconst (nI 4) rfl rfl) ?_
        refine ev_s (is_aload_n rfl rfl) ?_
        refine ev_s (is_getI' rfl (pu_s hC 110 rfl rfl) rfl rfl h4) ?_
        first
          | refine ev_s (is_imul _ rfl (pk_mul _ _)) ?_
          | refine ev_s (is_imul _ rfl rfl) ?_
        refine ev_s (is_iload_n rfl rfl) ?_
        first
          | refine ev_s (is_iadd _ rfl (nI_add _ _)) ?_
          | refine ev_s (is_iadd _ rfl rfl) ?_
        refine ev_s (is_iconst (nI 1) rfl rfl) ?_
        first
          | refine ev_s (is_iadd _ rfl (nI_add _ _)) ?_
          | refine ev_s (is_iadd _ rfl rfl) ?_
        refine ev_s (is_iaload' (4 * H 0 3 + (p + 1)) rfl (pu_s hC 116 rfl rfl) rfl rfl (by omega) ((congrFun (hsc 116 rfl) _).trans ((h7 _ b4).1 (p + 1) (by omega)))) ?_
        refine ev_s (is_icmp_ge_f rfl (nI_ge (by omega) (by omega))) ?_
        refine ev_s (is_aload_n rfl rfl) ?_
        refine ev_s (is_getR rfl (pu_s hC 110 rfl rfl) rfl rfl (pu_r hC 110 7 rfl rfl)) ?_
        refine ev_s (is_sipush (nI 200) rfl rfl) ?_
        refine ev_s (is_aload_n rfl rfl) ?_
        refine ev_s (is_getI' rfl (pu_s hC 110 rfl rfl) rfl rfl h4) ?_
        first
          | refine ev_s (is_imul _ rfl (pk_mul _ _)) ?_
          | refine ev_s (is_imul _ rfl rfl) ?_
        refine ev_s (is_iload_n rfl rfl) ?_
        first
          | refine ev_s (is_iadd _ rfl (nI_add _ _)) ?_
          | refine ev_s (is_iadd _ rfl rfl) ?_
        refine ev_s (is_iaload' (200 * H 0 3 + (te_at G (H 0 3) p + i)) rfl (pu_s hC 115 rfl rfl) rfl rfl (by omega) ((congrFun (hsc 115 rfl) _).trans (((h7 _ b4).2 p i (by omega) hi).trans (by rw [hce])))) ?_
        refine ev_s (st_istore_4 rfl rfl) ?_
        refine ev_s (is_iload rfl rfl) ?_
        refine ev_s (is_ldcI (nI 100000) rfl rfl) ?_
        refine ev_s (is_icmp_ge_f rfl (nI_ge (by omega) (by omega))) ?_
        refine ev_s (is_iload rfl rfl) ?_
        refine ev_s (is_bipush (nI 11) rfl rfl) ?_
        refine ev_s (is_icmp_ge_f rfl (nI_ge (by omega) (by omega))) ?_
        refine ev_s (is_aload_n rfl rfl) ?_
        refine ev_s (is_getR rfl (pu_s hC 110 rfl rfl) rfl rfl (pu_r hC 110 27 rfl rfl)) ?_
        refine ev_s (is_iload_n rfl rfl) ?_
        refine ev_s (is_iload rfl rfl) ?_
        refine ev_s (is_bipush (nI 11) rfl rfl) ?_
        refine ev_s (is_icmp_ge_f rfl (nI_ge (by omega) (by omega))) ?_
        refine ev_s (is_aload_n rfl rfl) ?_
        refine ev_s (is_getR rfl (pu_s hC 110 rfl rfl) rfl rfl (pu_r hC 110 28 rfl rfl)) ?_
        refine ev_s (is_iload rfl rfl) ?_
        refine ev_s (is_iaload' (c) rfl (pu_s hC 126 rfl rfl) rfl rfl (by omega) ((congrFun (hsc 126 rfl) c).trans (hnm c hoc.1))) ?_
        refine ev_s (is_goto rfl) ?_
        refine ev_s (is_iastore (st.length) rfl (pu_s hC 125 rfl rfl) rfl rfl (by omega)) ?_
        refine ev_s (st_iinc_2 _ rfl rfl (nI_inc _)) ?_
        refine ev_s (is_goto rfl) ?_
        refine ev_s (st_iinc_3 _ rfl rfl (nI_inc _)) ?_
        refine ev_s (is_goto rfl) ?_
        exact ih (i + 1) (nm c :: st) _ _ (by omega) (by simp at hdep ⊢; omega) hdr hol (hsc.u rfl) (hst.push _)
      by_cases hCc : c = 13
      · have hc13 : c = 13 := hCc
        subst hc13
        rw [if_neg hA, if_neg hB, if_pos (Or.inl rfl)] at hoc
        have hoc := of_decide_eq_true hoc
        rw [if_neg (by omega), if_pos (Or.inl rfl)] at hol
        match st, hoc, hst, hol with
        | a :: st, hoc, hst, hol =>
        have hta := hst.top
        have hlb : st.length < 200 := by
          have := hdep
          simp at this
          omega
        have hs : te_run nm (13 :: l) (a :: st) = te_run nm l (pu_b (a = 0) :: st) := rfl
        rw [hs]
        refine ev_s (is_iload_n rfl rfl) ?_
        refine ev_s (is_aload_n rfl rfl) ?_
        refine ev_s (is_getR rfl (pu_s hC 110 rfl rfl) rfl rfl (pu_r hC 110 8 rfl rfl)) ?_
        refine ev_s (is_iconst (nI 4) rfl rfl) ?_
        refine ev_s (is_aload_n rfl rfl) ?_
        refine ev_s (is_getI' rfl (pu_s hC 110 rfl rfl) rfl rfl h4) ?_
        first
          | refine ev_s (is_imul _ rfl (pk_mul _ _)) ?_
          | refine ev_s (is_imul _ rfl rfl) ?_
        refine ev_s (is_iload_n rfl rfl) ?_
        first
          | refine ev_s (is_iadd _ rfl (nI_add _ _)) ?_
          | refine ev_s (is_iadd _ rfl rfl) ?_
        refine ev_s (is_iconst (nI 1) rfl rfl) ?_
        first
          | refine ev_s (is_iadd _ rfl (nI_add _ _)) ?_
          | refine ev_s (is_iadd _ rfl rfl) ?_
        refine ev_s (is_iaload' (4 * H 0 3 + (p + 1)) rfl (pu_s hC 116 rfl rfl) rfl rfl (by omega) ((congrFun (hsc 116 rfl) _).trans ((h7 _ b4).1 (p + 1) (by omega)))) ?_
        refine ev_s (is_icmp_ge_f rfl (nI_ge (by omega) (by omega))) ?_
        refine ev_s (is_aload_n rfl rfl) ?_
        refine ev_s (is_getR rfl (pu_s hC 110 rfl rfl) rfl rfl (pu_r hC 110 7 rfl rfl)) ?_
        refine ev_s (is_sipush (nI 200) rfl rfl) ?_
        refine ev_s (is_aload_n rfl rfl) ?_
        refine ev_s (is_getI' rfl (pu_s hC 110 rfl rfl) rfl rfl h4) ?_
        first
          | refine ev_s (is_imul _ rfl (pk_mul _ _)) ?_
          | refine ev_s (is_imul _ rfl rfl) ?_
        refine ev_s (is_iload_n rfl rfl) ?_
        first
          | refine ev_s (is_iadd _ rfl (nI_add _ _)) ?_
          | refine ev_s (is_iadd _ rfl rfl) ?_
        refine ev_s (is_iaload' (200 * H 0 3 + (te_at G (H 0 3) p + i)) rfl (pu_s hC 115 rfl rfl) rfl rfl (by omega) ((congrFun (hsc 115 rfl) _).trans (((h7 _ b4).2 p i (by omega) hi).trans (by rw [hce])))) ?_
        refine ev_s (st_istore_4 rfl rfl) ?_
        refine ev_s (is_iload rfl rfl) ?_
        refine ev_s (is_ldcI (nI 100000) rfl rfl) ?_
        refine ev_s (is_icmp_ge_f rfl (nI_ge (by omega) (by omega))) ?_
        refine ev_s (is_iload rfl rfl) ?_
        refine ev_s (is_bipush (nI 11) rfl rfl) ?_
        refine ev_s (is_icmp_ge_t rfl (nI_le (by omega) (by omega))) ?_
        refine ev_s (is_iload rfl rfl) ?_
        refine ev_s (is_bipush (nI 13) rfl rfl) ?_
        refine ev_s (is_icmp_ne_f rfl (fun q => q rfl)) ?_
        refine ev_s (is_aload_n rfl rfl) ?_
        refine ev_s (is_getR rfl (pu_s hC 110 rfl rfl) rfl rfl (pu_r hC 110 27 rfl rfl)) ?_
        refine ev_s (is_iload_n rfl rfl) ?_
        refine ev_s (is_iconst (nI 1) rfl rfl) ?_
        refine ev_s (is_isub (nI st.length) rfl (pk_sub (a := st.length + 1) (b := 1) (by omega))) ?_
        refine ev_s (is_aload_n rfl rfl) ?_
        refine ev_s (is_getR rfl (pu_s hC 110 rfl rfl) rfl rfl (pu_r hC 110 27 rfl rfl)) ?_
        refine ev_s (is_iload_n rfl rfl) ?_
        refine ev_s (is_iconst (nI 1) rfl rfl) ?_
        refine ev_s (is_isub (nI st.length) rfl (pk_sub (a := st.length + 1) (b := 1) (by omega))) ?_
        refine ev_s (is_iaload' (st.length) rfl (pu_s hC 125 rfl rfl) rfl rfl hlb hta) ?_
        refine ev_selB1 (a = 0) (pcJ := 130) (fun hS kS => ?_) (fun hS kS => ?_) ?_
        · refine ev_s (is_if_ne_f rfl (fun q => q hS)) ?_
          refine ev_s (is_iconst (nI 1) rfl rfl) ?_
          refine ev_s (is_goto rfl) ?_
          exact kS
        · refine ev_s (is_if_ne_t rfl hS) ?_
          refine ev_s (is_iconst (nI 0) rfl rfl) ?_
          exact kS
        refine ev_s (is_iastore (st.length) rfl (pu_s hC 125 rfl rfl) rfl rfl hlb) ?_
        refine ev_s (is_goto rfl) ?_
        refine ev_s (st_iinc_3 _ rfl rfl (nI_inc _)) ?_
        refine ev_s (is_goto rfl) ?_
        exact ih (i + 1) (pu_b (a = 0) :: st) _ _ (by omega) (by simp at hdep ⊢; omega) hdr hol (hsc.u rfl) (hst.tail.push _)
      by_cases hDd : c = 19
      · subst hDd
        rw [if_neg hA, if_neg hB, if_pos (Or.inr rfl)] at hoc
        have hoc := of_decide_eq_true hoc
        rw [if_neg (by omega), if_pos (Or.inr rfl)] at hol
        match st, hoc, hst, hol with
        | a :: st, hoc, hst, hol =>
        have hta := hst.top
        have hlb : st.length < 200 := by
          have := hdep
          simp at this
          omega
        have hs : te_run nm (19 :: l) (a :: st) = te_run nm l ((-a) :: st) := rfl
        rw [hs]
        refine ev_s (is_iload_n rfl rfl) ?_
        refine ev_s (is_aload_n rfl rfl) ?_
        refine ev_s (is_getR rfl (pu_s hC 110 rfl rfl) rfl rfl (pu_r hC 110 8 rfl rfl)) ?_
        refine ev_s (is_iconst (nI 4) rfl rfl) ?_
        refine ev_s (is_aload_n rfl rfl) ?_
        refine ev_s (is_getI' rfl (pu_s hC 110 rfl rfl) rfl rfl h4) ?_
        first
          | refine ev_s (is_imul _ rfl (pk_mul _ _)) ?_
          | refine ev_s (is_imul _ rfl rfl) ?_
        refine ev_s (is_iload_n rfl rfl) ?_
        first
          | refine ev_s (is_iadd _ rfl (nI_add _ _)) ?_
          | refine ev_s (is_iadd _ rfl rfl) ?_
        refine ev_s (is_iconst (nI 1) rfl rfl) ?_
        first
          | refine ev_s (is_iadd _ rfl (nI_add _ _)) ?_
          | refine ev_s (is_iadd _ rfl rfl) ?_
        refine ev_s (is_iaload' (4 * H 0 3 + (p + 1)) rfl (pu_s hC 116 rfl rfl) rfl rfl (by omega) ((congrFun (hsc 116 rfl) _).trans ((h7 _ b4).1 (p + 1) (by omega)))) ?_
        refine ev_s (is_icmp_ge_f rfl (nI_ge (by omega) (by omega))) ?_
        refine ev_s (is_aload_n rfl rfl) ?_
        refine ev_s (is_getR rfl (pu_s hC 110 rfl rfl) rfl rfl (pu_r hC 110 7 rfl rfl)) ?_
        refine ev_s (is_sipush (nI 200) rfl rfl) ?_
        refine ev_s (is_aload_n rfl rfl) ?_
        refine ev_s (is_getI' rfl (pu_s hC 110 rfl rfl) rfl rfl h4) ?_
        first
          | refine ev_s (is_imul _ rfl (pk_mul _ _)) ?_
          | refine ev_s (is_imul _ rfl rfl) ?_
        refine ev_s (is_iload_n rfl rfl) ?_
        first
          | refine ev_s (is_iadd _ rfl (nI_add _ _)) ?_
          | refine ev_s (is_iadd _ rfl rfl) ?_
        refine ev_s (is_iaload' (200 * H 0 3 + (te_at G (H 0 3) p + i)) rfl (pu_s hC 115 rfl rfl) rfl rfl (by omega) ((congrFun (hsc 115 rfl) _).trans (((h7 _ b4).2 p i (by omega) hi).trans (by rw [hce])))) ?_
        refine ev_s (st_istore_4 rfl rfl) ?_
        refine ev_s (is_iload rfl rfl) ?_
        refine ev_s (is_ldcI (nI 100000) rfl rfl) ?_
        refine ev_s (is_icmp_ge_f rfl (nI_ge (by omega) (by omega))) ?_
        refine ev_s (is_iload rfl rfl) ?_
        refine ev_s (is_bipush (nI 11) rfl rfl) ?_
        refine ev_s (is_icmp_ge_t rfl (nI_le (by omega) (by omega))) ?_
        refine ev_s (is_iload rfl rfl) ?_
        refine ev_s (is_bipush (nI 13) rfl rfl) ?_
        refine ev_s (is_icmp_ne_t rfl (fun q => absurd ((nI_eq (by omega) (by omega)).mp q) (by omega))) ?_
        refine ev_s (is_iload rfl rfl) ?_
        refine ev_s (is_bipush (nI 19) rfl rfl) ?_
        refine ev_s (is_icmp_ne_f rfl (fun q => q rfl)) ?_
        refine ev_s (is_aload_n rfl rfl) ?_
        refine ev_s (is_getR rfl (pu_s hC 110 rfl rfl) rfl rfl (pu_r hC 110 27 rfl rfl)) ?_
        refine ev_s (is_iload_n rfl rfl) ?_
        refine ev_s (is_iconst (nI 1) rfl rfl) ?_
        refine ev_s (is_isub (nI st.length) rfl (pk_sub (a := st.length + 1) (b := 1) (by omega))) ?_
        refine ev_s (is_aload_n rfl rfl) ?_
        refine ev_s (is_getR rfl (pu_s hC 110 rfl rfl) rfl rfl (pu_r hC 110 27 rfl rfl)) ?_
        refine ev_s (is_iload_n rfl rfl) ?_
        refine ev_s (is_iconst (nI 1) rfl rfl) ?_
        refine ev_s (is_isub (nI st.length) rfl (pk_sub (a := st.length + 1) (b := 1) (by omega))) ?_
        refine ev_s (is_iaload' (st.length) rfl (pu_s hC 125 rfl rfl) rfl rfl hlb hta) ?_
        refine ev_s (is_ineg _ rfl rfl) ?_
        refine ev_s (is_iastore (st.length) rfl (pu_s hC 125 rfl rfl) rfl rfl hlb) ?_
        refine ev_s (is_goto rfl) ?_
        refine ev_s (st_iinc_3 _ rfl rfl (nI_inc _)) ?_
        refine ev_s (is_goto rfl) ?_
        exact ih (i + 1) ((-a) :: st) _ _ (by omega) (by simp at hdep ⊢; omega) hdr hol (hsc.u rfl) (hst.tail.push _)
      · rw [if_neg hA, if_neg hB, if_neg (by omega)] at hoc
        simp only [Bool.and_eq_true, decide_eq_true_eq] at hoc
        obtain ⟨hoc, hcc⟩ := hoc
        rw [if_neg (by omega), if_neg (by omega)] at hol
        match st, hoc, hst, hol with
        | b :: a :: st, hoc, hst, hol =>
        obtain ⟨hta, htb⟩ := hst.top2
        have hlb : st.length + 1 < 200 := by
          have := hdep
          simp at this
          omega
        have hs : te_run nm (c :: l) (b :: a :: st) = te_run nm l (te_two c a b :: st) := by show te_run nm l (te_step nm (b :: a :: st) c) = _; unfold te_step; rw [if_neg hA, if_neg hB, if_neg hCc, if_neg hDd]
        rw [hs]
        refine ev_s (is_iload_n rfl rfl) ?_
        refine ev_s (is_aload_n rfl rfl) ?_
        refine ev_s (is_getR rfl (pu_s hC 110 rfl rfl) rfl rfl (pu_r hC 110 8 rfl rfl)) ?_
        refine ev_s (is_iconst (nI 4) rfl rfl) ?_
        refine ev_s (is_aload_n rfl rfl) ?_
        refine ev_s (is_getI' rfl (pu_s hC 110 rfl rfl) rfl rfl h4) ?_
        first
          | refine ev_s (is_imul _ rfl (pk_mul _ _)) ?_
          | refine ev_s (is_imul _ rfl rfl) ?_
        refine ev_s (is_iload_n rfl rfl) ?_
        first
          | refine ev_s (is_iadd _ rfl (nI_add _ _)) ?_
          | refine ev_s (is_iadd _ rfl rfl) ?_
        refine ev_s (is_iconst (nI 1) rfl rfl) ?_
        first
          | refine ev_s (is_iadd _ rfl (nI_add _ _)) ?_
          | refine ev_s (is_iadd _ rfl rfl) ?_
        refine ev_s (is_iaload' (4 * H 0 3 + (p + 1)) rfl (pu_s hC 116 rfl rfl) rfl rfl (by omega) ((congrFun (hsc 116 rfl) _).trans ((h7 _ b4).1 (p + 1) (by omega)))) ?_
        refine ev_s (is_icmp_ge_f rfl (nI_ge (by omega) (by omega))) ?_
        refine ev_s (is_aload_n rfl rfl) ?_
        refine ev_s (is_getR rfl (pu_s hC 110 rfl rfl) rfl rfl (pu_r hC 110 7 rfl rfl)) ?_
        refine ev_s (is_sipush (nI 200) rfl rfl) ?_
        refine ev_s (is_aload_n rfl rfl) ?_
        refine ev_s (is_getI' rfl (pu_s hC 110 rfl rfl) rfl rfl h4) ?_
        first
          | refine ev_s (is_imul _ rfl (pk_mul _ _)) ?_
          | refine ev_s (is_imul _ rfl rfl) ?_
        refine ev_s (is_iload_n rfl rfl) ?_
        first
          | refine ev_s (is_iadd _ rfl (nI_add _ _)) ?_
          | refine ev_s (is_iadd _ rfl rfl) ?_
        refine ev_s (is_iaload' (200 * H 0 3 + (te_at G (H 0 3) p + i)) rfl (pu_s hC 115 rfl rfl) rfl rfl (by omega) ((congrFun (hsc 115 rfl) _).trans (((h7 _ b4).2 p i (by omega) hi).trans (by rw [hce])))) ?_
        refine ev_s (st_istore_4 rfl rfl) ?_
        refine ev_s (is_iload rfl rfl) ?_
        refine ev_s (is_ldcI (nI 100000) rfl rfl) ?_
        refine ev_s (is_icmp_ge_f rfl (nI_ge (by omega) (by omega))) ?_
        refine ev_s (is_iload rfl rfl) ?_
        refine ev_s (is_bipush (nI 11) rfl rfl) ?_
        refine ev_s (is_icmp_ge_t rfl (nI_le (by omega) (by omega))) ?_
        refine ev_s (is_iload rfl rfl) ?_
        refine ev_s (is_bipush (nI 13) rfl rfl) ?_
        refine ev_s (is_icmp_ne_t rfl (fun q => absurd ((nI_eq (by omega) (by omega)).mp q) (by omega))) ?_
        refine ev_s (is_iload rfl rfl) ?_
        refine ev_s (is_bipush (nI 19) rfl rfl) ?_
        refine ev_s (is_icmp_ne_t rfl (fun q => absurd ((nI_eq (by omega) (by omega)).mp q) (by omega))) ?_
        refine ev_s (st_iinc_2 (nI (st.length + 1)) rfl rfl (pk_m1 (st.length + 1))) ?_
        refine ev_s (is_aload_n rfl rfl) ?_
        refine ev_s (is_getR rfl (pu_s hC 110 rfl rfl) rfl rfl (pu_r hC 110 27 rfl rfl)) ?_
        refine ev_s (is_iload_n rfl rfl) ?_
        refine ev_s (is_iconst (nI 1) rfl rfl) ?_
        refine ev_s (is_isub (nI st.length) rfl (pk_sub (a := st.length + 1) (b := 1) (by omega))) ?_
        refine ev_s (is_iload rfl rfl) ?_
        refine ev_s (is_aload_n rfl rfl) ?_
        refine ev_s (is_getR rfl (pu_s hC 110 rfl rfl) rfl rfl (pu_r hC 110 27 rfl rfl)) ?_
        refine ev_s (is_iload_n rfl rfl) ?_
        refine ev_s (is_iconst (nI 1) rfl rfl) ?_
        refine ev_s (is_isub (nI st.length) rfl (pk_sub (a := st.length + 1) (b := 1) (by omega))) ?_
        refine ev_s (is_iaload' (st.length) rfl (pu_s hC 125 rfl rfl) rfl rfl (by omega) hta) ?_
        refine ev_s (is_aload_n rfl rfl) ?_
        refine ev_s (is_getR rfl (pu_s hC 110 rfl rfl) rfl rfl (pu_r hC 110 27 rfl rfl)) ?_
        refine ev_s (is_iload_n rfl rfl) ?_
        refine ev_s (is_iaload' (st.length + 1) rfl (pu_s hC 125 rfl rfl) rfl rfl hlb htb) ?_
        refine ev_c1 (is_call0 3 [_, _, _] [_, _] rfl rfl rfl rfl rfl (Nat.le_of_ble_eq_true rfl) rfl rfl rfl) rfl rfl (r_two hcc _ _) ?_
        refine ev_s (is_iastore (st.length) rfl (pu_s hC 125 rfl rfl) rfl rfl (by omega)) ?_
        refine ev_s (st_iinc_3 _ rfl rfl (nI_inc _)) ?_
        refine ev_s (is_goto rfl) ?_
        exact ih (i + 1) (te_two c a b :: st) _ _ (by omega) (by simp at hdep ⊢; omega) hdr hol (hsc.u rfl) (hst.tail.tail.push _)
  refine ev_s (is_iconst (nI 0) rfl rfl) ?_
  refine ev_s (st_istore_n_2 rfl rfl) ?_
  refine ev_s (is_aload_n rfl rfl) ?_
  refine ev_s (is_getR rfl (pu_s hC 110 rfl rfl) rfl rfl (pu_r hC 110 8 rfl rfl)) ?_
  refine ev_s (is_iconst (nI 4) rfl rfl) ?_
  refine ev_s (is_aload_n rfl rfl) ?_
  refine ev_s (is_getI' rfl (pu_s hC 110 rfl rfl) rfl rfl h4) ?_
  first
    | refine ev_s (is_imul _ rfl (pk_mul _ _)) ?_
    | refine ev_s (is_imul _ rfl rfl) ?_
  refine ev_s (is_iload_n rfl rfl) ?_
  first
    | refine ev_s (is_iadd _ rfl (nI_add _ _)) ?_
    | refine ev_s (is_iadd _ rfl rfl) ?_
  refine ev_s (is_iaload' (4 * H 0 3 + p) rfl (pu_s hC 116 rfl rfl) rfl rfl (by omega) ((h7 _ b4).1 p (by omega))) ?_
  refine ev_s (st_istore_n_3 rfl rfl) ?_
  have := loop (G (H 0 3) p) 0 [] mi im_bad (by omega) (by simp) rfl (hg.1 p hp) sc_rf (fun j hj => absurd hj (Nat.not_lt_zero _))
  exact this
