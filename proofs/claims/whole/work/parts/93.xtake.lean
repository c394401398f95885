/-! ===== PURE, the class: the reader takes a token ===== -/
def xk_S (k : Nat) : Bool := Nat.beq k 35
theorem xk_ne {k : Nat} (h : k ≠ 35) : xk_S k = false := by
  unfold xk_S
  cases e : Nat.beq k 35 with
  | false => rfl
  | true => exact absurd (Nat.eq_of_beq_eq_true e) h
theorem xs_M_row {mi ma : im_MI} {tb : Nat → Nat} {z : Nat} (h : xs_M mi tb z) (h2 : ∀ k, k ≤ 34 → ma k = mi k) : xs_M ma tb z := by
  refine ⟨by rw [h2 33 (by decide)]; exact h.1, fun j hj => by rw [h2 34 (by decide)]; exact h.2.1 j hj, h.2.2.1, h.2.2.2.1, fun w hw => ?_⟩
  rw [h2 _ (by omega), h2 _ (by omega)]
  exact h.2.2.2.2 w hw
theorem xs_M_S {mi ma : im_MI} {tb : Nat → Nat} {z : Nat} (h : xs_M mi tb z) (h2 : sc_ xk_S mi ma) : xs_M ma tb z := xs_M_row h fun k hk => h2 k (xk_ne (by omega))
theorem wi_step_t {tb : Nat → Nat} {f e i : Nat} (hi : i < 12) (h : wm_ tb f e i = true) : (if wi_ tb f e < i + 1 then wi_ tb f e else 12) = i := by
  rw [wi_of hi h, if_pos (Nat.lt_succ_self _)]
theorem wi_step_f {tb : Nat → Nat} {f e i : Nat} (hi : i < 12) (h : ¬ wm_ tb f e i = true) : (if wi_ tb f e < i + 1 then wi_ tb f e else 12) = (if wi_ tb f e < i then wi_ tb f e else 12) := by
  have : wi_ tb f e ≠ i := fun q => h (by have := wi_wm (tb := tb) (f := f) (t := e) (by omega); rw [q] at this; exact this)
  by_cases c : wi_ tb f e < i
  · rw [if_pos c, if_pos (by omega)]
  · rw [if_neg c, if_neg (by omega)]
theorem wi_step_e {tb : Nat → Nat} {f e : Nat} : (if wi_ tb f e < 12 then wi_ tb f e else 12) = wi_ tb f e := by
  have := wi_le (tb := tb) f e
  by_cases c : wi_ tb f e < 12
  · rw [if_pos c]
  · rw [if_neg c]; omega
theorem wk_lo {i : Nat} (h : i < 6) : wk_ i = 4 + i ∧ wv_ i = 0 := ⟨if_pos h, if_pos h⟩
theorem wk_hi {i : Nat} (h : 6 ≤ i) (h2 : i < 12) : wk_ i = 3 ∧ wv_ i = i - 6 := ⟨by rw [wk_, if_neg (by omega), if_pos h2], by rw [wv_, if_neg (by omega), if_pos h2]⟩
theorem xk_takeWord {d : Nat} {sh : im_Sh} {mi : im_MI} {mr : im_MR} {t z : Nat} {tb : Nat → Nat} (hC : xs_C sh mr t) (hT : xs_M mi tb z) {f : Nat} (hfz : f < z) (h3 : mi 35 3 = nI 0) (h4 : mi 35 4 = nI f) (h5 : mi 35 5 = nI f) : EvM (d + 5) 62 [.ref 35] sh mi mr (fun r sh2 m2 r2 => sh2 = sh ∧ (r2 = mr ∧ sc_ xk_S mi m2 ∧ m2 35 2 = nI (wk_ (wi_ tb f (lx_to (lx_lt tb z) f))) ∧ m2 35 3 = nI (wv_ (wi_ tb f (lx_to (lx_lt tb z) f))) ∧ m2 35 4 = nI f ∧ m2 35 5 = nI (lx_to (lx_lt tb z) f) ∧ m2 35 6 = mi 35 6)) := by
  show Ev (d + 5) 62 0 [.ref 35, im_bad] [] sh mi mr _
  have hz1 := hT.2.2.1
  have hez : (lx_to (lx_lt tb z) f) ≤ z := lx_to_z (fun _ h => lx_lt_z h) (by omega)
  have hfe : f ≤ (lx_to (lx_lt tb z) f) := lx_to_le _ _
  have loop2 : ∀ (j i : Nat) (ma : im_MI), i + j = 12 → sc_ xk_S mi ma → ma 35 2 = nI (wk_ (if (wi_ tb f (lx_to (lx_lt tb z) f)) < i then (wi_ tb f (lx_to (lx_lt tb z) f)) else 12)) → ma 35 3 = nI (wv_ (if (wi_ tb f (lx_to (lx_lt tb z) f)) < i then (wi_ tb f (lx_to (lx_lt tb z) f)) else 12)) → ma 35 4 = nI f → ma 35 5 = nI (lx_to (lx_lt tb z) f) → ma 35 6 = mi 35 6 → Ev (d + 5) 62 44 [.ref 35, .int (nI i)] [] sh ma mr (fun r sh2 m2 r2 => sh2 = sh ∧ (r2 = mr ∧ sc_ xk_S mi m2 ∧ m2 35 2 = nI (wk_ (wi_ tb f (lx_to (lx_lt tb z) f))) ∧ m2 35 3 = nI (wv_ (wi_ tb f (lx_to (lx_lt tb z) f))) ∧ m2 35 4 = nI f ∧ m2 35 5 = nI (lx_to (lx_lt tb z) f) ∧ m2 35 6 = mi 35 6)) := by
    intro j
    induction j with
    | zero =>
      intro i ma hi hs h2 h3 h4 h5 h6
      have hi : i = 12 := by omega
      refine ev_s (is_iload_n rfl rfl) ?_
      refine ev_s (is_bipush (nI 12) rfl rfl) ?_
      refine ev_s (is_icmp_ge_t rfl (nI_le (by omega) (by omega))) ?_
      refine ev_ret (is_return rfl) ?_
      rw [hi, wi_step_e] at h2 h3
      exact ⟨rfl, rfl, hs, h2, h3, h4, h5, h6⟩
    | succ j ih =>
      intro i ma hi hs h2 h3 h4 h5 h6
      have hTa := xs_M_S hT hs
      refine ev_s (is_iload_n rfl rfl) ?_
      refine ev_s (is_bipush (nI 12) rfl rfl) ?_
      refine ev_s (is_icmp_ge_f rfl (nI_ge (by omega) (by omega))) ?_
      refine ev_s (is_aload_n rfl rfl) ?_
      refine ev_s (is_getR rfl hC.2.2.1.1 rfl rfl hC.2.2.1.2.1) ?_
      refine ev_s (is_aload_n rfl rfl) ?_
      refine ev_s (is_getI' rfl hC.2.2.1.1 rfl rfl h4) ?_
      refine ev_s (is_aload_n rfl rfl) ?_
      refine ev_s (is_getI' rfl hC.2.2.1.1 rfl rfl h5) ?_
      refine ev_s (is_iload_n rfl rfl) ?_
      refine ev_c1 (is_call0 1 [_] [_, _, _] rfl rfl rfl rfl rfl (Nat.le_of_ble_eq_true rfl) rfl rfl rfl) rfl rfl (xk_word (w := i) (by omega)) ?_
      refine ev_c1 (is_callR 4 [_, _, _] [] rfl rfl rfl rfl rfl (Nat.le_of_ble_eq_true rfl) rfl rfl rfl hC.1.1) rfl rfl (xt_spells hC hTa (w := i) (by omega) hfe hez) ?_
      refine ev_ifB_ne rfl (fun h_69 => ?_) (fun h_69 => ?_)
      · refine ev_s (is_aload_n rfl rfl) ?_
        refine ev_s (is_iload_n rfl rfl) ?_
        refine ev_s (is_bipush (nI 6) rfl rfl) ?_
        first
          | refine ev_icmpN_ge rfl (by omega) (by omega) (fun h_79 => ?_) (fun h_79 => ?_)
          | refine ev_icmp_ge rfl (fun h_79 => ?_) (fun h_79 => ?_)
        · first
            | (exfalso; omega)
            | (
               refine ev_s (is_iconst (nI 3) rfl rfl) ?_
               refine ev_s (is_putI rfl hC.2.2.1.1 rfl rfl rfl) ?_
               refine ev_s (is_aload_n rfl rfl) ?_
               refine ev_s (is_iload_n rfl rfl) ?_
               refine ev_s (is_bipush (nI 6) rfl rfl) ?_
               first
                 | refine ev_icmpN_ge rfl (by omega) (by omega) (fun h_96 => ?_) (fun h_96 => ?_)
                 | refine ev_icmp_ge rfl (fun h_96 => ?_) (fun h_96 => ?_)
               · first
                   | (exfalso; omega)
                   | (
                      refine ev_s (is_iload_n rfl rfl) ?_
                      refine ev_s (is_bipush (nI 6) rfl rfl) ?_
                      refine ev_s (is_isub _ rfl (pk_sub (by omega))) ?_
                      refine ev_s (is_putI rfl hC.2.2.1.1 rfl rfl rfl) ?_
                      refine ev_s (st_iinc_1 _ rfl rfl (nI_inc _)) ?_
                      refine ev_s (is_goto rfl) ?_
                      first
                        | (refine ih (i + 1) _ (by omega) ((hs.u rfl).u rfl) ?_ ?_ ((im_u_j _ _ _ _ (by decide)).trans ((im_u_j _ _ _ _ (by decide)).trans h4)) ((im_u_j _ _ _ _ (by decide)).trans ((im_u_j _ _ _ _ (by decide)).trans h5)) ((im_u_j _ _ _ _ (by decide)).trans ((im_u_j _ _ _ _ (by decide)).trans h6))
                           · rw [im_u_j _ _ _ _ (by decide), im_u_s, wi_step_t (by omega) h_69]
                             first
                               | rw [(wk_lo (by omega)).1]
                               | rw [(wk_hi (by omega) (by omega)).1]
                           · rw [im_u_s, wi_step_t (by omega) h_69]
                             first
                               | rw [(wk_lo (by omega)).2]
                               | rw [(wk_hi (by omega) (by omega)).2])
                        | exact ih (i + 1) _ (by omega) hs (by rw [wi_step_f (by omega) h_69]; exact h2) (by rw [wi_step_f (by omega) h_69]; exact h3) h4 h5 h6
                     )
               · first
                   | (exfalso; omega)
                   | (
                      refine ev_s (is_iconst (nI 0) rfl rfl) ?_
                      refine ev_s (is_goto rfl) ?_
                      refine ev_s (is_putI rfl hC.2.2.1.1 rfl rfl rfl) ?_
                      refine ev_s (st_iinc_1 _ rfl rfl (nI_inc _)) ?_
                      refine ev_s (is_goto rfl) ?_
                      first
                        | (refine ih (i + 1) _ (by omega) ((hs.u rfl).u rfl) ?_ ?_ ((im_u_j _ _ _ _ (by decide)).trans ((im_u_j _ _ _ _ (by decide)).trans h4)) ((im_u_j _ _ _ _ (by decide)).trans ((im_u_j _ _ _ _ (by decide)).trans h5)) ((im_u_j _ _ _ _ (by decide)).trans ((im_u_j _ _ _ _ (by decide)).trans h6))
                           · rw [im_u_j _ _ _ _ (by decide), im_u_s, wi_step_t (by omega) h_69]
                             first
                               | rw [(wk_lo (by omega)).1]
                               | rw [(wk_hi (by omega) (by omega)).1]
                           · rw [im_u_s, wi_step_t (by omega) h_69]
                             first
                               | rw [(wk_lo (by omega)).2]
                               | rw [(wk_hi (by omega) (by omega)).2])
                        | exact ih (i + 1) _ (by omega) hs (by rw [wi_step_f (by omega) h_69]; exact h2) (by rw [wi_step_f (by omega) h_69]; exact h3) h4 h5 h6
                     )
              )
        · first
            | (exfalso; omega)
            | (
               refine ev_s (is_iconst (nI 4) rfl rfl) ?_
               refine ev_s (is_iload_n rfl rfl) ?_
               first
                 | refine ev_s (is_iadd _ rfl (nI_add _ _)) ?_
                 | refine ev_s (is_iadd _ rfl rfl) ?_
               refine ev_s (is_goto rfl) ?_
               refine ev_s (is_putI rfl hC.2.2.1.1 rfl rfl rfl) ?_
               refine ev_s (is_aload_n rfl rfl) ?_
               refine ev_s (is_iload_n rfl rfl) ?_
               refine ev_s (is_bipush (nI 6) rfl rfl) ?_
               first
                 | refine ev_icmpN_ge rfl (by omega) (by omega) (fun h_96 => ?_) (fun h_96 => ?_)
                 | refine ev_icmp_ge rfl (fun h_96 => ?_) (fun h_96 => ?_)
               · first
                   | (exfalso; omega)
                   | (
                      refine ev_s (is_iload_n rfl rfl) ?_
                      refine ev_s (is_bipush (nI 6) rfl rfl) ?_
                      refine ev_s (is_isub _ rfl (pk_sub (by omega))) ?_
                      refine ev_s (is_putI rfl hC.2.2.1.1 rfl rfl rfl) ?_
                      refine ev_s (st_iinc_1 _ rfl rfl (nI_inc _)) ?_
                      refine ev_s (is_goto rfl) ?_
                      first
                        | (refine ih (i + 1) _ (by omega) ((hs.u rfl).u rfl) ?_ ?_ ((im_u_j _ _ _ _ (by decide)).trans ((im_u_j _ _ _ _ (by decide)).trans h4)) ((im_u_j _ _ _ _ (by decide)).trans ((im_u_j _ _ _ _ (by decide)).trans h5)) ((im_u_j _ _ _ _ (by decide)).trans ((im_u_j _ _ _ _ (by decide)).trans h6))
                           · rw [im_u_j _ _ _ _ (by decide), im_u_s, wi_step_t (by omega) h_69]
                             first
                               | rw [(wk_lo (by omega)).1]
                               | rw [(wk_hi (by omega) (by omega)).1]
                           · rw [im_u_s, wi_step_t (by omega) h_69]
                             first
                               | rw [(wk_lo (by omega)).2]
                               | rw [(wk_hi (by omega) (by omega)).2])
                        | exact ih (i + 1) _ (by omega) hs (by rw [wi_step_f (by omega) h_69]; exact h2) (by rw [wi_step_f (by omega) h_69]; exact h3) h4 h5 h6
                     )
               · first
                   | (exfalso; omega)
                   | (
                      refine ev_s (is_iconst (nI 0) rfl rfl) ?_
                      refine ev_s (is_goto rfl) ?_
                      refine ev_s (is_putI rfl hC.2.2.1.1 rfl rfl rfl) ?_
                      refine ev_s (st_iinc_1 _ rfl rfl (nI_inc _)) ?_
                      refine ev_s (is_goto rfl) ?_
                      first
                        | (refine ih (i + 1) _ (by omega) ((hs.u rfl).u rfl) ?_ ?_ ((im_u_j _ _ _ _ (by decide)).trans ((im_u_j _ _ _ _ (by decide)).trans h4)) ((im_u_j _ _ _ _ (by decide)).trans ((im_u_j _ _ _ _ (by decide)).trans h5)) ((im_u_j _ _ _ _ (by decide)).trans ((im_u_j _ _ _ _ (by decide)).trans h6))
                           · rw [im_u_j _ _ _ _ (by decide), im_u_s, wi_step_t (by omega) h_69]
                             first
                               | rw [(wk_lo (by omega)).1]
                               | rw [(wk_hi (by omega) (by omega)).1]
                           · rw [im_u_s, wi_step_t (by omega) h_69]
                             first
                               | rw [(wk_lo (by omega)).2]
                               | rw [(wk_hi (by omega) (by omega)).2])
                        | exact ih (i + 1) _ (by omega) hs (by rw [wi_step_f (by omega) h_69]; exact h2) (by rw [wi_step_f (by omega) h_69]; exact h3) h4 h5 h6
                     )
              )
      · refine ev_s (is_goto rfl) ?_
        refine ev_s (st_iinc_1 _ rfl rfl (nI_inc _)) ?_
        refine ev_s (is_goto rfl) ?_
        first
          | (refine ih (i + 1) _ (by omega) ((hs.u rfl).u rfl) ?_ ?_ ((im_u_j _ _ _ _ (by decide)).trans ((im_u_j _ _ _ _ (by decide)).trans h4)) ((im_u_j _ _ _ _ (by decide)).trans ((im_u_j _ _ _ _ (by decide)).trans h5)) ((im_u_j _ _ _ _ (by decide)).trans ((im_u_j _ _ _ _ (by decide)).trans h6))
             · rw [im_u_j _ _ _ _ (by decide), im_u_s, wi_step_t (by omega) h_69]
               first
                 | rw [(wk_lo (by omega)).1]
                 | rw [(wk_hi (by omega) (by omega)).1]
             · rw [im_u_s, wi_step_t (by omega) h_69]
               first
                 | rw [(wk_lo (by omega)).2]
                 | rw [(wk_hi (by omega) (by omega)).2])
          | exact ih (i + 1) _ (by omega) hs (by rw [wi_step_f (by omega) h_69]; exact h2) (by rw [wi_step_f (by omega) h_69]; exact h3) h4 h5 h6
  have loop1 : ∀ (j i : Nat) (ma : im_MI), i + j = 160 → i ≤ z → sc_ xk_S mi ma → ma 35 3 = nI 0 → ma 35 4 = nI f → ma 35 5 = nI i → ma 35 6 = mi 35 6 → lx_to (lx_lt tb z) i = (lx_to (lx_lt tb z) f) → Ev (d + 5) 62 0 [.ref 35, im_bad] [] sh ma mr (fun r sh2 m2 r2 => sh2 = sh ∧ (r2 = mr ∧ sc_ xk_S mi m2 ∧ m2 35 2 = nI (wk_ (wi_ tb f (lx_to (lx_lt tb z) f))) ∧ m2 35 3 = nI (wv_ (wi_ tb f (lx_to (lx_lt tb z) f))) ∧ m2 35 4 = nI f ∧ m2 35 5 = nI (lx_to (lx_lt tb z) f) ∧ m2 35 6 = mi 35 6)) := by
    intro j
    induction j with
    | zero =>
      intro i ma hi hiz0 hs h3 h4 h5 h6 hl
      refine ev_s (is_aload_n rfl rfl) ?_
      refine ev_s (is_getI' rfl hC.2.2.1.1 rfl rfl h5) ?_
      refine ev_s (is_sipush (nI 160) rfl rfl) ?_
      refine ev_s (is_icmp_ge_t rfl (nI_le (by omega) (by omega))) ?_
      refine ev_s (is_aload_n rfl rfl) ?_
      refine ev_s (is_iconst (nI 1) rfl rfl) ?_
      refine ev_s (is_putI rfl hC.2.2.1.1 rfl rfl rfl) ?_
      refine ev_s (is_iconst (nI 0) rfl rfl) ?_
      refine ev_s (st_istore_n_1 rfl rfl) ?_
      have he : lx_to (lx_lt tb z) i = i := lx_to_e (by omega)
      have hs2 : sc_ xk_S mi (im_u ma 35 2 (nI 1)) := hs.u rfl
      exact loop2 12 0 (im_u ma 35 2 (nI 1)) (Nat.zero_add _) hs2 (im_u_s _ _ _ _) ((im_u_j _ _ _ _ (by decide)).trans h3) ((im_u_j _ _ _ _ (by decide)).trans h4) (by rw [im_u_j _ _ _ _ (by decide), h5, ← hl]; exact congrArg nI he.symm) ((im_u_j _ _ _ _ (by decide)).trans h6)
    | succ j ih =>
      intro i ma hi hiz0 hs h3 h4 h5 h6 hl
      have hTa := xs_M_S hT hs
      refine ev_s (is_aload_n rfl rfl) ?_
      refine ev_s (is_getI' rfl hC.2.2.1.1 rfl rfl h5) ?_
      refine ev_s (is_sipush (nI 160) rfl rfl) ?_
      refine ev_s (is_icmp_ge_f rfl (nI_ge (by omega) (by omega))) ?_
      refine ev_s (is_aload_n rfl rfl) ?_
      refine ev_s (is_getR rfl hC.2.2.1.1 rfl rfl hC.2.2.1.2.1) ?_
      refine ev_s (is_aload_n rfl rfl) ?_
      refine ev_s (is_getI' rfl hC.2.2.1.1 rfl rfl h5) ?_
      refine ev_c1 (is_callR 2 [_] [] rfl rfl rfl rfl rfl (Nat.le_of_ble_eq_true rfl) rfl rfl rfl hC.1.1) rfl rfl (xt_letter hC hTa (i := i) (by omega)) ?_
      refine ev_ifB_eq rfl (fun h_21 => ?_) (fun h_21 => ?_)
      · refine ev_s (is_aload_n rfl rfl) ?_
        refine ev_s (is_iconst (nI 1) rfl rfl) ?_
        refine ev_s (is_putI rfl hC.2.2.1.1 rfl rfl rfl) ?_
        refine ev_s (is_iconst (nI 0) rfl rfl) ?_
        refine ev_s (st_istore_n_1 rfl rfl) ?_
        have he : lx_to (lx_lt tb z) i = i := lx_to_f (Bool.eq_false_iff.mpr h_21)
        have hs2 : sc_ xk_S mi (im_u ma 35 2 (nI 1)) := hs.u rfl
        exact loop2 12 0 (im_u ma 35 2 (nI 1)) (Nat.zero_add _) hs2 (im_u_s _ _ _ _) ((im_u_j _ _ _ _ (by decide)).trans h3) ((im_u_j _ _ _ _ (by decide)).trans h4) (by rw [im_u_j _ _ _ _ (by decide), h5, ← hl]; exact congrArg nI he.symm) ((im_u_j _ _ _ _ (by decide)).trans h6)
      · refine ev_s (is_aload_n rfl rfl) ?_
        refine ev_s (is_dup rfl rfl) ?_
        refine ev_s (is_getI' rfl hC.2.2.1.1 rfl rfl h5) ?_
        refine ev_s (is_iconst (nI 1) rfl rfl) ?_
        first
          | refine ev_s (is_iadd _ rfl (nI_add _ _)) ?_
          | refine ev_s (is_iadd _ rfl rfl) ?_
        refine ev_s (is_putI rfl hC.2.2.1.1 rfl rfl rfl) ?_
        refine ev_s (is_goto rfl) ?_
        have hg : lx_lt tb z i = true := h_21
        have hiz := lx_lt_z hg
        exact ih (i + 1) _ (by omega) (by omega) (hs.u rfl) ((im_u_j _ _ _ _ (by decide)).trans h3) ((im_u_j _ _ _ _ (by decide)).trans h4) (im_u_s _ _ _ _) ((im_u_j _ _ _ _ (by decide)).trans h6) (by rw [← hl, lx_to_t (by omega) hg])
  exact loop1 (160 - f) f mi (by omega) (by omega) sc_rf h3 h4 h5 rfl rfl
theorem xk_takeNumber {d : Nat} {sh : im_Sh} {mi : im_MI} {mr : im_MR} {t z : Nat} {tb : Nat → Nat} (hC : xs_C sh mr t) (hT : xs_M mi tb z) {f : Nat} (hfz : f < z) (h3 : mi 35 3 = nI 0) (h4 : mi 35 4 = nI f) (h5 : mi 35 5 = nI f) : EvM (d + 2) 61 [.ref 35] sh mi mr (fun r sh2 m2 r2 => sh2 = sh ∧ (r2 = mr ∧ sc_ xk_S mi m2 ∧ m2 35 2 = nI (if 4 < (lx_to (lx_dg tb z) f) - f then 1 else 2) ∧ m2 35 3 = nI (lx_num tb f (Nat.min 4 ((lx_to (lx_dg tb z) f) - f))) ∧ m2 35 4 = nI f ∧ m2 35 5 = nI (lx_to (lx_dg tb z) f) ∧ m2 35 6 = mi 35 6)) := by
  show Ev (d + 2) 61 0 [.ref 35] [] sh mi mr _
  have hz1 := hT.2.2.1
  have hez : (lx_to (lx_dg tb z) f) ≤ z := lx_to_z (fun _ h => lx_dg_z h) (by omega)
  have loop1 : ∀ (j i : Nat) (ma : im_MI), i + j = 160 → f ≤ i → i ≤ z → sc_ xk_S mi ma → ma 35 3 = nI (lx_num tb f (Nat.min 4 (i - f))) → ma 35 4 = nI f → ma 35 5 = nI i → ma 35 6 = mi 35 6 → lx_to (lx_dg tb z) i = (lx_to (lx_dg tb z) f) → Ev (d + 2) 61 0 [.ref 35] [] sh ma mr (fun r sh2 m2 r2 => sh2 = sh ∧ (r2 = mr ∧ sc_ xk_S mi m2 ∧ m2 35 2 = nI (if 4 < (lx_to (lx_dg tb z) f) - f then 1 else 2) ∧ m2 35 3 = nI (lx_num tb f (Nat.min 4 ((lx_to (lx_dg tb z) f) - f))) ∧ m2 35 4 = nI f ∧ m2 35 5 = nI (lx_to (lx_dg tb z) f) ∧ m2 35 6 = mi 35 6)) := by
    intro j
    induction j with
    | zero =>
      intro i ma hi hfi hiz0 hs h3 h4 h5 h6 hl
      have hTa := xs_M_S hT hs
      refine ev_s (is_aload_n rfl rfl) ?_
      refine ev_s (is_getI' rfl hC.2.2.1.1 rfl rfl h5) ?_
      refine ev_s (is_sipush (nI 160) rfl rfl) ?_
      refine ev_s (is_icmp_ge_t rfl (nI_le (by omega) (by omega))) ?_
      refine ev_s (is_aload_n rfl rfl) ?_
      refine ev_s (is_aload_n rfl rfl) ?_
      refine ev_s (is_getI' rfl hC.2.2.1.1 rfl rfl h5) ?_
      refine ev_s (is_aload_n rfl rfl) ?_
      refine ev_s (is_getI' rfl hC.2.2.1.1 rfl rfl h4) ?_
      refine ev_s (is_isub _ rfl (pk_sub (by omega))) ?_
      refine ev_s (is_iconst (nI 4) rfl rfl) ?_
      refine ev_icmpN_le rfl (by omega) (by omega) (fun h_88 => ?_) (fun h_88 => ?_)
      · refine ev_s (is_iconst (nI 2) rfl rfl) ?_
        refine ev_s (is_putI rfl hC.2.2.1.1 rfl rfl rfl) ?_
        refine ev_ret (is_return rfl) ?_
        have he : lx_to (lx_dg tb z) i = i := lx_to_e (by omega)
        rw [← hl, he]
        first
          | exact ⟨rfl, rfl, hs.u rfl, by rw [im_u_s, if_pos (by omega)], (im_u_j _ _ _ _ (by decide)).trans h3, (im_u_j _ _ _ _ (by decide)).trans h4, (im_u_j _ _ _ _ (by decide)).trans h5, (im_u_j _ _ _ _ (by decide)).trans h6⟩
          | exact ⟨rfl, rfl, hs.u rfl, by rw [im_u_s, if_neg (by omega)], (im_u_j _ _ _ _ (by decide)).trans h3, (im_u_j _ _ _ _ (by decide)).trans h4, (im_u_j _ _ _ _ (by decide)).trans h5, (im_u_j _ _ _ _ (by decide)).trans h6⟩
      · refine ev_s (is_iconst (nI 1) rfl rfl) ?_
        refine ev_s (is_goto rfl) ?_
        refine ev_s (is_putI rfl hC.2.2.1.1 rfl rfl rfl) ?_
        refine ev_ret (is_return rfl) ?_
        have he : lx_to (lx_dg tb z) i = i := lx_to_e (by omega)
        rw [← hl, he]
        first
          | exact ⟨rfl, rfl, hs.u rfl, by rw [im_u_s, if_pos (by omega)], (im_u_j _ _ _ _ (by decide)).trans h3, (im_u_j _ _ _ _ (by decide)).trans h4, (im_u_j _ _ _ _ (by decide)).trans h5, (im_u_j _ _ _ _ (by decide)).trans h6⟩
          | exact ⟨rfl, rfl, hs.u rfl, by rw [im_u_s, if_neg (by omega)], (im_u_j _ _ _ _ (by decide)).trans h3, (im_u_j _ _ _ _ (by decide)).trans h4, (im_u_j _ _ _ _ (by decide)).trans h5, (im_u_j _ _ _ _ (by decide)).trans h6⟩
    | succ j ih =>
      intro i ma hi hfi hiz0 hs h3 h4 h5 h6 hl
      have hTa := xs_M_S hT hs
      refine ev_s (is_aload_n rfl rfl) ?_
      refine ev_s (is_getI' rfl hC.2.2.1.1 rfl rfl h5) ?_
      refine ev_s (is_sipush (nI 160) rfl rfl) ?_
      refine ev_s (is_icmp_ge_f rfl (nI_ge (by omega) (by omega))) ?_
      refine ev_s (is_aload_n rfl rfl) ?_
      refine ev_s (is_getR rfl hC.2.2.1.1 rfl rfl hC.2.2.1.2.1) ?_
      refine ev_s (is_aload_n rfl rfl) ?_
      refine ev_s (is_getI' rfl hC.2.2.1.1 rfl rfl h5) ?_
      refine ev_c1 (is_callR 2 [_] [] rfl rfl rfl rfl rfl (Nat.le_of_ble_eq_true rfl) rfl rfl rfl hC.1.1) rfl rfl (xt_digit hC hTa (i := i) (by omega)) ?_
      refine ev_ifB_eq rfl (fun h_21 => ?_) (fun h_21 => ?_)
      · refine ev_s (is_aload_n rfl rfl) ?_
        refine ev_s (is_aload_n rfl rfl) ?_
        refine ev_s (is_getI' rfl hC.2.2.1.1 rfl rfl h5) ?_
        refine ev_s (is_aload_n rfl rfl) ?_
        refine ev_s (is_getI' rfl hC.2.2.1.1 rfl rfl h4) ?_
        refine ev_s (is_isub _ rfl (pk_sub (by omega))) ?_
        refine ev_s (is_iconst (nI 4) rfl rfl) ?_
        refine ev_icmpN_le rfl (by omega) (by omega) (fun h_88 => ?_) (fun h_88 => ?_)
        · refine ev_s (is_iconst (nI 2) rfl rfl) ?_
          refine ev_s (is_putI rfl hC.2.2.1.1 rfl rfl rfl) ?_
          refine ev_ret (is_return rfl) ?_
          have he : lx_to (lx_dg tb z) i = i := lx_to_f (Bool.eq_false_iff.mpr h_21)
          rw [← hl, he]
          first
            | exact ⟨rfl, rfl, hs.u rfl, by rw [im_u_s, if_pos (by omega)], (im_u_j _ _ _ _ (by decide)).trans h3, (im_u_j _ _ _ _ (by decide)).trans h4, (im_u_j _ _ _ _ (by decide)).trans h5, (im_u_j _ _ _ _ (by decide)).trans h6⟩
            | exact ⟨rfl, rfl, hs.u rfl, by rw [im_u_s, if_neg (by omega)], (im_u_j _ _ _ _ (by decide)).trans h3, (im_u_j _ _ _ _ (by decide)).trans h4, (im_u_j _ _ _ _ (by decide)).trans h5, (im_u_j _ _ _ _ (by decide)).trans h6⟩
        · refine ev_s (is_iconst (nI 1) rfl rfl) ?_
          refine ev_s (is_goto rfl) ?_
          refine ev_s (is_putI rfl hC.2.2.1.1 rfl rfl rfl) ?_
          refine ev_ret (is_return rfl) ?_
          have he : lx_to (lx_dg tb z) i = i := lx_to_f (Bool.eq_false_iff.mpr h_21)
          rw [← hl, he]
          first
            | exact ⟨rfl, rfl, hs.u rfl, by rw [im_u_s, if_pos (by omega)], (im_u_j _ _ _ _ (by decide)).trans h3, (im_u_j _ _ _ _ (by decide)).trans h4, (im_u_j _ _ _ _ (by decide)).trans h5, (im_u_j _ _ _ _ (by decide)).trans h6⟩
            | exact ⟨rfl, rfl, hs.u rfl, by rw [im_u_s, if_neg (by omega)], (im_u_j _ _ _ _ (by decide)).trans h3, (im_u_j _ _ _ _ (by decide)).trans h4, (im_u_j _ _ _ _ (by decide)).trans h5, (im_u_j _ _ _ _ (by decide)).trans h6⟩
      · refine ev_s (is_aload_n rfl rfl) ?_
        refine ev_s (is_getI' rfl hC.2.2.1.1 rfl rfl h5) ?_
        refine ev_s (is_aload_n rfl rfl) ?_
        refine ev_s (is_getI' rfl hC.2.2.1.1 rfl rfl h4) ?_
        refine ev_s (is_isub _ rfl (pk_sub (by omega))) ?_
        refine ev_s (is_iconst (nI 4) rfl rfl) ?_
        refine ev_icmpN_ge rfl (by omega) (by omega) (fun h_34 => ?_) (fun h_34 => ?_)
        · refine ev_s (is_aload_n rfl rfl) ?_
          refine ev_s (is_dup rfl rfl) ?_
          first
            | refine ev_s (is_getI' rfl hC.2.2.1.1 rfl rfl h5) ?_
            | refine ev_s (is_getI' rfl hC.2.2.1.1 rfl rfl ((im_u_j _ _ _ _ (by decide)).trans h5)) ?_
          refine ev_s (is_iconst (nI 1) rfl rfl) ?_
          first
            | refine ev_s (is_iadd _ rfl (nI_add _ _)) ?_
            | refine ev_s (is_iadd _ rfl rfl) ?_
          refine ev_s (is_putI rfl hC.2.2.1.1 rfl rfl rfl) ?_
          refine ev_s (is_goto rfl) ?_
          have hg : lx_dg tb z i = true := h_21
          have hiz := lx_dg_z hg
          first
            | (refine ih (i + 1) _ (by omega) (by omega) (by omega) ((hs.u rfl).u rfl) ?_ ((im_u_j _ _ _ _ (by decide)).trans ((im_u_j _ _ _ _ (by decide)).trans h4)) (im_u_s _ _ _ _) ((im_u_j _ _ _ _ (by decide)).trans ((im_u_j _ _ _ _ (by decide)).trans h6)) (by rw [← hl, lx_to_t (by omega) hg])
               rw [im_u_j _ _ _ _ (by decide), im_u_s, show Nat.min 4 (i + 1 - f) = (i - f) + 1 from (Nat.min_eq_right (by omega)).trans (by omega), lx_num, show f + (i - f) = i by omega]
               exact congrArg nI (by omega))
            | exact ih (i + 1) _ (by omega) (by omega) (by omega) (hs.u rfl) (by rw [im_u_j _ _ _ _ (by decide), h3, show Nat.min 4 (i - f) = 4 from Nat.min_eq_left (by omega), show Nat.min 4 (i + 1 - f) = 4 from Nat.min_eq_left (by omega)]) ((im_u_j _ _ _ _ (by decide)).trans h4) (im_u_s _ _ _ _) ((im_u_j _ _ _ _ (by decide)).trans h6) (by rw [← hl, lx_to_t (by omega) hg])
        · have h3q : ma 35 3 = nI (lx_num tb f (i - f)) := by rw [h3, show Nat.min 4 (i - f) = i - f from Nat.min_eq_right (by omega)]
          have h48 := (of_decide_eq_true h_21).2.1
          refine ev_s (is_aload_n rfl rfl) ?_
          refine ev_s (is_bipush (nI 10) rfl rfl) ?_
          refine ev_s (is_aload_n rfl rfl) ?_
          refine ev_s (is_getI' rfl hC.2.2.1.1 rfl rfl h3q) ?_
          refine ev_s (is_imul _ rfl (pk_mul _ _)) ?_
          refine ev_s (is_aload_n rfl rfl) ?_
          refine ev_s (is_getR rfl hC.2.2.1.1 rfl rfl hC.2.2.1.2.1) ?_
          refine ev_s (is_getR rfl hC.1.1 rfl rfl hC.1.2) ?_
          refine ev_s (is_aload_n rfl rfl) ?_
          refine ev_s (is_getI' rfl hC.2.2.1.1 rfl rfl h5) ?_
          refine ev_s (is_caload' (i) rfl hC.2.1 rfl rfl (by omega) (hTa.2.1 i (lx_dg_z h_21))) ?_
          refine ev_s (is_iadd _ rfl (nI_add _ _)) ?_
          refine ev_s (is_bipush (nI 48) rfl rfl) ?_
          refine ev_s (is_isub (nI (10 * lx_num tb f (i - f) + tb i - 48)) rfl (pk_sub (by omega))) ?_
          refine ev_s (is_putI rfl hC.2.2.1.1 rfl rfl rfl) ?_
          refine ev_s (is_aload_n rfl rfl) ?_
          refine ev_s (is_dup rfl rfl) ?_
          first
            | refine ev_s (is_getI' rfl hC.2.2.1.1 rfl rfl h5) ?_
            | refine ev_s (is_getI' rfl hC.2.2.1.1 rfl rfl ((im_u_j _ _ _ _ (by decide)).trans h5)) ?_
          refine ev_s (is_iconst (nI 1) rfl rfl) ?_
          first
            | refine ev_s (is_iadd _ rfl (nI_add _ _)) ?_
            | refine ev_s (is_iadd _ rfl rfl) ?_
          refine ev_s (is_putI rfl hC.2.2.1.1 rfl rfl rfl) ?_
          refine ev_s (is_goto rfl) ?_
          have hg : lx_dg tb z i = true := h_21
          have hiz := lx_dg_z hg
          first
            | (refine ih (i + 1) _ (by omega) (by omega) (by omega) ((hs.u rfl).u rfl) ?_ ((im_u_j _ _ _ _ (by decide)).trans ((im_u_j _ _ _ _ (by decide)).trans h4)) (im_u_s _ _ _ _) ((im_u_j _ _ _ _ (by decide)).trans ((im_u_j _ _ _ _ (by decide)).trans h6)) (by rw [← hl, lx_to_t (by omega) hg])
               rw [im_u_j _ _ _ _ (by decide), im_u_s, show Nat.min 4 (i + 1 - f) = (i - f) + 1 from (Nat.min_eq_right (by omega)).trans (by omega), lx_num, show f + (i - f) = i by omega]
               exact congrArg nI (by omega))
            | exact ih (i + 1) _ (by omega) (by omega) (by omega) (hs.u rfl) (by rw [im_u_j _ _ _ _ (by decide), h3, show Nat.min 4 (i - f) = 4 from Nat.min_eq_left (by omega), show Nat.min 4 (i + 1 - f) = 4 from Nat.min_eq_left (by omega)]) ((im_u_j _ _ _ _ (by decide)).trans h4) (im_u_s _ _ _ _) ((im_u_j _ _ _ _ (by decide)).trans h6) (by rw [← hl, lx_to_t (by omega) hg])
  exact loop1 (160 - f) f mi (by omega) (Nat.le_refl _) (by omega) sc_rf (by rw [h3, Nat.sub_self]; rfl) h4 h5 rfl rfl
