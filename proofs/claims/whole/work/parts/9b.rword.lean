/-! ===== PURE, the reference: the words ===== -/
/-- the tape, the words -/
def re_M (mi : im_MI) (tb : Nat → Nat) (z : Nat) : Prop := mi 110 6 = nI z ∧ (∀ j, j < z → mi 114 j = nI (tb j)) ∧ z ≤ 160 ∧ (∀ j, tb j < 256) ∧ ∀ j, j < 96 → mi 123 j = nI (wd_ j)
/-- the words' order: the reference's of the class's, the class's of the reference's -/
def rw_ (i : Nat) : Nat := if i < 3 then i else if i < 6 then i + 6 else if i < 12 then i - 3 else 12
def cw_ (w : Nat) : Nat := if w < 3 then w else if w < 9 then w + 3 else w - 6
theorem rw_cw : ∀ w, w < 12 → rw_ (cw_ w) = w ∧ cw_ w < 12 := by decide
theorem cw_rw : ∀ i, i < 12 → cw_ (rw_ i) = i ∧ rw_ i < 12 := by decide
theorem wd_at : ∀ w, w < 12 → ∀ j, j < 8 → wd_ (8 * w + j) = (if j < (wl_ (cw_ w)).length then (wl_ (cw_ w)).getD j 0 else 32) := by decide
theorem wl_let : ∀ w, w < 12 → ∀ j, j < (wl_ w).length → 97 ≤ (wl_ w).getD j 0 := by decide
theorem wl_pos : ∀ w, w < 12 → 0 < (wl_ w).length := by decide
theorem wd_b : ∀ j, j < 96 → wd_ j < 128 := by decide
/-- the letter at a place of the tape's word, a blank behind its end -/
def wt_ (tb : Nat → Nat) (f e j : Nat) : Nat := if f + j < e then tb (f + j) else 32
theorem wm_wd {tb : Nat → Nat} {f e w : Nat} (hw : w < 12) (hfe : f < e) (hl : ∀ j, f ≤ j → j < e → 97 ≤ tb j) : (e - f ≤ 8 ∧ ∀ j, j < 8 → wd_ (8 * w + j) = wt_ tb f e j) ↔ wm_ tb f e (cw_ w) = true := by
  have hc := (rw_cw w hw).2
  have hlen := wl_len _ hc
  have hpos := wl_pos _ hc
  constructor
  · intro h
    have h2 : ∀ j, j < (wl_ (cw_ w)).length → f + j < e ∧ tb (f + j) = (wl_ (cw_ w)).getD j 0 := fun j hj => by
      have h3 := h.2 j (by omega)
      rw [wd_at w hw j (by omega), if_pos hj] at h3
      have h4 := wl_let _ hc j hj
      unfold wt_ at h3
      by_cases q : f + j < e
      · rw [if_pos q] at h3; exact ⟨q, h3.symm⟩
      · rw [if_neg q] at h3; omega
    refine decide_eq_true ⟨?_, fun j hj => (h2 j hj).2⟩
    have h5 := (h2 ((wl_ (cw_ w)).length - 1) (by omega)).1
    have h6 := h.2 (wl_ (cw_ w)).length (by omega)
    rw [wd_at w hw _ (by omega), if_neg (by omega)] at h6
    unfold wt_ at h6
    by_cases q : f + (wl_ (cw_ w)).length < e
    · rw [if_pos q] at h6
      have := hl (f + (wl_ (cw_ w)).length) (by omega) q
      omega
    · omega
  · intro h
    obtain ⟨q1, q2⟩ := of_decide_eq_true h
    refine ⟨by omega, fun j hj => ?_⟩
    rw [wd_at w hw j hj]
    unfold wt_
    by_cases q : j < (wl_ (cw_ w)).length
    · rw [if_pos q, if_pos (by omega), q2 j q]
    · rw [if_neg q, if_neg (by omega)]
theorem rw_of {tb : Nat → Nat} {f e w : Nat} (hw : w < 12) (h : wm_ tb f e (cw_ w) = true) : rw_ (wi_ tb f e) = w := by
  rw [wi_of (rw_cw w hw).2 h, (rw_cw w hw).1]
theorem rw_no {tb : Nat → Nat} {f e : Nat} (h : ∀ w, w < 12 → ¬ wm_ tb f e (cw_ w) = true) : rw_ (wi_ tb f e) = 12 := by
  rw [wi_none (fun a ha => by
    have := h (rw_ a) (cw_rw a ha).2
    rw [(cw_rw a ha).1] at this
    exact Bool.eq_false_iff.mpr this)]
  rfl
theorem re_word {d : Nat} {sh : im_Sh} {mi : im_MI} {mr : im_MR} (hC : pu_C sh mr) {tb : Nat → Nat} {z : Nat} (hT : re_M mi tb z) {f e : Nat} (hfe : f < e) (hez : e ≤ z) (hlt : ∀ j, f ≤ j → j < e → 97 ≤ tb j) : EvM (d + 1) 139 [.ref 110, .int (nI f), .int (nI e)] sh mi mr (ev_R sh (.int (nI (rw_ (wi_ tb f e)))) mi mr) := by
  show Ev (d + 1) 139 0 [.ref 110, .int (nI f), .int (nI e), im_bad, im_bad, im_bad] [] sh mi mr _
  have hz1 := hT.2.2.1
  have loop : ∀ (k w : Nat) (v4 v5 : Value), im_isL v4 = false → w + k = 12 → (∀ q, q < w → ¬ wm_ tb f e (cw_ q) = true) → Ev (d + 1) 139 2 [.ref 110, .int (nI f), .int (nI e), .int (nI w), v4, v5] [] sh mi mr (ev_R sh (.int (nI (rw_ (wi_ tb f e)))) mi mr) := by
    intro k
    induction k with
    | zero =>
      intro w v4 v5 hv hk hn
      refine ev_s (is_iload_n rfl rfl) ?_
      refine ev_s (is_bipush (nI 12) rfl rfl) ?_
      refine ev_s (is_icmp_ge_t rfl (nI_le (by omega) (by omega))) ?_
      refine ev_s (is_bipush (nI 12) rfl rfl) ?_
      refine ev_ret (is_ireturn rfl rfl (by first | rfl | exact pu_b_nar | decide)) ?_
      rw [rw_no (fun q hq => hn q (by omega))]
      exact ⟨rfl, rfl, rfl, rfl⟩
    | succ k ih =>
      intro w v4 v5 hv hk hn
      have hw : w < 12 := by omega
      have no : ∀ (j : Nat), j ≤ 8 → ¬ wm_ tb f e (cw_ w) = true → Ev (d + 1) 139 26 [.ref 110, .int (nI f), .int (nI e), .int (nI w), .int (nI 0), .int (nI j)] [] sh mi mr (ev_R sh (.int (nI (rw_ (wi_ tb f e)))) mi mr) := by
        intro j hj hnw
        by_cases c : j < 8
        · refine ev_s (is_iload rfl rfl) ?_
          refine ev_s (is_bipush (nI 8) rfl rfl) ?_
          refine ev_s (is_icmp_ge_f rfl (nI_ge (by omega) (by omega))) ?_
          refine ev_s (is_iload rfl rfl) ?_
          refine ev_s (is_if_eq_t rfl (by decide)) ?_
          refine ev_s (is_iload rfl rfl) ?_
          refine ev_s (is_if_eq_t rfl (by decide)) ?_
          refine ev_s (st_iinc_3 _ rfl rfl (nI_inc _)) ?_
          refine ev_s (is_goto rfl) ?_
          exact ih (w + 1) _ _ rfl (by omega) (fun q hq => by
            rcases Nat.lt_or_eq_of_le (Nat.le_of_lt_succ hq) with c | c
            · exact hn q c
            · rw [c]; exact hnw)
        · refine ev_s (is_iload rfl rfl) ?_
          refine ev_s (is_bipush (nI 8) rfl rfl) ?_
          refine ev_s (is_icmp_ge_t rfl (nI_le (by omega) (by omega))) ?_
          refine ev_s (is_iload rfl rfl) ?_
          refine ev_s (is_if_eq_t rfl (by decide)) ?_
          refine ev_s (st_iinc_3 _ rfl rfl (nI_inc _)) ?_
          refine ev_s (is_goto rfl) ?_
          exact ih (w + 1) _ _ rfl (by omega) (fun q hq => by
            rcases Nat.lt_or_eq_of_le (Nat.le_of_lt_succ hq) with c | c
            · exact hn q c
            · rw [c]; exact hnw)
      have yes : e - f ≤ 8 → ∀ (k j : Nat), j + k = 8 → (∀ q, q < j → wd_ (8 * w + q) = wt_ tb f e q) → Ev (d + 1) 139 26 [.ref 110, .int (nI f), .int (nI e), .int (nI w), .int (nI 1), .int (nI j)] [] sh mi mr (ev_R sh (.int (nI (rw_ (wi_ tb f e)))) mi mr) := by
        intro h8 k
        induction k with
        | zero =>
          intro j hk hj
          refine ev_s (is_iload rfl rfl) ?_
          refine ev_s (is_bipush (nI 8) rfl rfl) ?_
          refine ev_s (is_icmp_ge_t rfl (nI_le (by omega) (by omega))) ?_
          refine ev_s (is_iload rfl rfl) ?_
          refine ev_s (is_if_eq_f rfl (by decide)) ?_
          refine ev_s (is_iload_n rfl rfl) ?_
          refine ev_ret (is_ireturn rfl rfl (by first | rfl | exact pu_b_nar | decide)) ?_
          have hm := (wm_wd (tb := tb) (f := f) (e := e) hw hfe hlt).mp ⟨h8, fun q hq => hj q (by omega)⟩
          rw [rw_of hw hm]
          exact ⟨rfl, rfl, rfl, rfl⟩
        | succ k ihk =>
          intro j hk hj
          refine ev_s (is_iload rfl rfl) ?_
          refine ev_s (is_bipush (nI 8) rfl rfl) ?_
          refine ev_s (is_icmp_ge_f rfl (nI_ge (by omega) (by omega))) ?_
          refine ev_s (is_iload rfl rfl) ?_
          refine ev_s (is_if_eq_f rfl (by decide)) ?_
          refine ev_s (is_aload_n rfl rfl) ?_
          refine ev_s (is_getR rfl (pu_s hC 110 rfl rfl) rfl rfl (pu_r hC 110 22 rfl rfl)) ?_
          refine ev_s (is_bipush (nI 8) rfl rfl) ?_
          refine ev_s (is_iload_n rfl rfl) ?_
          refine ev_s (is_imul _ rfl (pk_mul _ _)) ?_
          refine ev_s (is_iload rfl rfl) ?_
          refine ev_s (is_iadd _ rfl (nI_add _ _)) ?_
          refine ev_s (is_iaload' (8 * w + j) rfl (pu_s hC 123 rfl rfl) rfl (by rfl) (by omega) (hT.2.2.2.2 _ (by omega))) ?_
          refine ev_s (is_iload_n rfl rfl) ?_
          refine ev_s (is_iload rfl rfl) ?_
          refine ev_s (is_iadd _ rfl (nI_add _ _)) ?_
          refine ev_s (is_iload_n rfl rfl) ?_
          refine ev_icmpN_ge rfl (by omega) (by omega) (fun h_55 => ?_) (fun h_55 => ?_)
          · refine ev_s (is_bipush (nI 32) rfl rfl) ?_
            refine ev_icmpN_ne rfl (by have := wd_b (8 * w + j) (by omega); omega) (by have := hT.2.2.2.1 (f + j); omega) (fun h_72 => ?_) (fun h_72 => ?_)
            · have hnm : ¬ wm_ tb f e (cw_ w) = true := fun q => h_72 (by have := ((wm_wd hw hfe hlt).mpr q).2 j (by omega); rw [this]; unfold wt_; first | rw [if_pos (by omega)] | rw [if_neg (by omega)])
              refine ev_s (is_iconst (nI 0) rfl rfl) ?_
              refine ev_s (st_istore_4 rfl rfl) ?_
              refine ev_s (st_iinc_5 _ rfl rfl (nI_inc _)) ?_
              refine ev_s (is_goto rfl) ?_
              first
                | exact ihk (j + 1) (by omega) (fun q hq => by
                    rcases Nat.lt_or_eq_of_le (Nat.le_of_lt_succ hq) with c | c
                    · exact hj q c
                    · rw [c]; exact hE)
                | exact no (j + 1) (by omega) hnm
            · have hE : wd_ (8 * w + j) = wt_ tb f e j := by unfold wt_; first | (rw [if_pos (by omega)]; exact h_72) | (rw [if_neg (by omega)]; exact h_72)
              refine ev_s (is_iconst (nI 1) rfl rfl) ?_
              refine ev_s (is_goto rfl) ?_
              refine ev_s (st_istore_4 rfl rfl) ?_
              refine ev_s (st_iinc_5 _ rfl rfl (nI_inc _)) ?_
              refine ev_s (is_goto rfl) ?_
              first
                | exact ihk (j + 1) (by omega) (fun q hq => by
                    rcases Nat.lt_or_eq_of_le (Nat.le_of_lt_succ hq) with c | c
                    · exact hj q c
                    · rw [c]; exact hE)
                | exact no (j + 1) (by omega) hnm
          · refine ev_s (is_aload_n rfl rfl) ?_
            refine ev_s (is_getR rfl (pu_s hC 110 rfl rfl) rfl rfl (pu_r hC 110 5 rfl rfl)) ?_
            refine ev_s (is_iload_n rfl rfl) ?_
            refine ev_s (is_iload rfl rfl) ?_
            refine ev_s (is_iadd _ rfl (nI_add _ _)) ?_
            refine ev_s (is_iaload' (f + j) rfl (pu_s hC 114 rfl rfl) rfl (by rfl) (by omega) (hT.2.1 _ (by omega))) ?_
            refine ev_s (is_goto rfl) ?_
            refine ev_icmpN_ne rfl (by have := wd_b (8 * w + j) (by omega); omega) (by have := hT.2.2.2.1 (f + j); omega) (fun h_72 => ?_) (fun h_72 => ?_)
            · have hnm : ¬ wm_ tb f e (cw_ w) = true := fun q => h_72 (by have := ((wm_wd hw hfe hlt).mpr q).2 j (by omega); rw [this]; unfold wt_; first | rw [if_pos (by omega)] | rw [if_neg (by omega)])
              refine ev_s (is_iconst (nI 0) rfl rfl) ?_
              refine ev_s (st_istore_4 rfl rfl) ?_
              refine ev_s (st_iinc_5 _ rfl rfl (nI_inc _)) ?_
              refine ev_s (is_goto rfl) ?_
              first
                | exact ihk (j + 1) (by omega) (fun q hq => by
                    rcases Nat.lt_or_eq_of_le (Nat.le_of_lt_succ hq) with c | c
                    · exact hj q c
                    · rw [c]; exact hE)
                | exact no (j + 1) (by omega) hnm
            · have hE : wd_ (8 * w + j) = wt_ tb f e j := by unfold wt_; first | (rw [if_pos (by omega)]; exact h_72) | (rw [if_neg (by omega)]; exact h_72)
              refine ev_s (is_iconst (nI 1) rfl rfl) ?_
              refine ev_s (is_goto rfl) ?_
              refine ev_s (st_istore_4 rfl rfl) ?_
              refine ev_s (st_iinc_5 _ rfl rfl (nI_inc _)) ?_
              refine ev_s (is_goto rfl) ?_
              first
                | exact ihk (j + 1) (by omega) (fun q hq => by
                    rcases Nat.lt_or_eq_of_le (Nat.le_of_lt_succ hq) with c | c
                    · exact hj q c
                    · rw [c]; exact hE)
                | exact no (j + 1) (by omega) hnm
      refine ev_s (is_iload_n rfl rfl) ?_
      refine ev_s (is_bipush (nI 12) rfl rfl) ?_
      refine ev_s (is_icmp_ge_f rfl (nI_ge (by omega) (by omega))) ?_
      refine ev_s (is_iload_n rfl rfl) ?_
      refine ev_s (is_iload_n rfl rfl) ?_
      refine ev_s (is_isub _ rfl (pk_sub (by omega))) ?_
      refine ev_s (is_bipush (nI 8) rfl rfl) ?_
      refine ev_icmpN_gt rfl (by omega) (by omega) (fun h_13 => ?_) (fun h_13 => ?_)
      · refine ev_s (is_iconst (nI 0) rfl rfl) ?_
        refine ev_s (st_istore_4 rfl rfl) ?_
        refine ev_s (is_iconst (nI 0) rfl rfl) ?_
        refine ev_s (st_istore_5 rfl rfl) ?_
        first
          | exact yes h8 8 0 rfl (fun q hq => absurd hq (Nat.not_lt_zero _))
          | exact no 0 (by omega) (fun q => by have := ((wm_wd hw hfe hlt).mpr q).1; omega)
      · have h8 : e - f ≤ 8 := by omega
        refine ev_s (is_iconst (nI 1) rfl rfl) ?_
        refine ev_s (is_goto rfl) ?_
        refine ev_s (st_istore_4 rfl rfl) ?_
        refine ev_s (is_iconst (nI 0) rfl rfl) ?_
        refine ev_s (st_istore_5 rfl rfl) ?_
        first
          | exact yes h8 8 0 rfl (fun q hq => absurd hq (Nat.not_lt_zero _))
          | exact no 0 (by omega) (fun q => by have := ((wm_wd hw hfe hlt).mpr q).1; omega)
  refine ev_s (is_iconst (nI 0) rfl rfl) ?_
  refine ev_s (st_istore_n_3 rfl rfl) ?_
  exact loop 12 0 _ _ rfl rfl (fun q hq => absurd hq (Nat.not_lt_zero _))
