/-! ===== PURE, the reference: the next token ===== -/
def rtn_ (k : Nat) : Nat := if k = 0 then 0 else if k = 2 then 1 else if k = 3 then 2 else if k < 7 then 3 else if k < 10 then k - 3 else k
/-- the reference's token of the class's -/
def rt_ (k : Nat) : Int32 := if k = 1 then -1 else nI (rtn_ k)
theorem rt_hi {k : Nat} (h : 10 ≤ k) : rt_ k = nI k := by
  unfold rt_ rtn_
  rw [if_neg (by omega), if_neg (by omega), if_neg (by omega), if_neg (by omega), if_neg (by omega), if_neg (by omega)]
theorem rw_tok : ∀ W, W < 13 → (rw_ W < 3 → rt_ (wk_ W) = nI 3 ∧ 4 ≤ wk_ W ∧ wk_ W - 4 = rw_ W) ∧ (3 ≤ rw_ W → rw_ W < 9 → rt_ (wk_ W) = nI 2 ∧ wk_ W = 3 ∧ wv_ W = rw_ W - 3) ∧ (rw_ W = 12 → wk_ W = 1) ∧ (9 ≤ rw_ W → rw_ W ≠ 12 → rt_ (wk_ W) = nI (4 + rw_ W - 9) ∧ 7 ≤ wk_ W) ∧ rw_ W < 13 := by
  intro W hW
  rcases (show W = 0 ∨ W = 1 ∨ W = 2 ∨ W = 3 ∨ W = 4 ∨ W = 5 ∨ W = 6 ∨ W = 7 ∨ W = 8 ∨ W = 9 ∨ W = 10 ∨ W = 11 ∨ W = 12 by omega) with rfl | rfl | rfl | rfl | rfl | rfl | rfl | rfl | rfl | rfl | rfl | rfl | rfl <;> refine ⟨?_, ?_, ?_, ?_, ?_⟩ <;> decide
/-- only the token's cells -/
def rn_ (mi m2 : im_MI) : Prop := (∀ k, k ≠ 110 → m2 k = mi k) ∧ ∀ j, j < 18 ∨ 21 < j → m2 110 j = mi 110 j
theorem rn_rf {mi : im_MI} : rn_ mi mi := ⟨fun _ _ => rfl, fun _ _ => rfl⟩
theorem rn_tr {a b c : im_MI} (h1 : rn_ a b) (h2 : rn_ b c) : rn_ a c := ⟨fun k hk => (h2.1 k hk).trans (h1.1 k hk), fun j hj => (h2.2 j hj).trans (h1.2 j hj)⟩
theorem rn_u {a b : im_MI} (h : rn_ a b) {j : Nat} {v : Int32} (hj : 18 ≤ j ∧ j ≤ 21) : rn_ a (im_u b 110 j v) := ⟨fun k hk => by rw [im_u_row' hk]; exact h.1 k hk, fun i hi => by rw [im_u_j _ _ _ _ (by omega)]; exact h.2 i hi⟩
theorem re_M_n {mi m2 : im_MI} {tb : Nat → Nat} {z : Nat} (h : re_M mi tb z) (h2 : rn_ mi m2) : re_M m2 tb z := by
  unfold re_M at h ⊢
  rw [h2.2 6 (by decide), h2.1 114 (by decide), h2.1 123 (by decide)]
  exact h
def rk_ (tb : Nat → Nat) (z : Nat) (mi : im_MI) (p : Nat) : Prop := mi 110 18 = nI (tk_t tb z p) ∧ mi 110 19 = nI (tk_f tb z p) ∧ mi 110 20 = rt_ (tk_k tb z p) ∧ (tk_k tb z p = 2 ∨ tk_k tb z p = 3 → mi 110 21 = nI (tk_v tb z p)) ∧ (4 ≤ tk_k tb z p → tk_k tb z p ≤ 6 → mi 110 21 = nI (tk_k tb z p - 4))
theorem lx_r {tb : Nat → Nat} {i a b : Nat} (h : ∀ j, tb j < 256) (hb : b < 256) (ha : a < 256) : ho_rng (nI a) (nI (tb i)) (nI b) = true ↔ a ≤ tb i ∧ tb i ≤ b := lx_c (z := 0) h hb ha
theorem re_next {d : Nat} {sh : im_Sh} {mi : im_MI} {mr : im_MR} (hC : pu_C sh mr) {tb : Nat → Nat} {z : Nat} (hT : re_M mi tb z) {p : Nat} (hp : p ≤ z) (h18 : mi 110 18 = nI p) : EvM (d + 2) 140 [.ref 110] sh mi mr (fun r sh2 m2 r2 => sh2 = sh ∧ (r2 = mr ∧ rn_ mi m2 ∧ rk_ tb z m2 p)) := by
  show Ev (d + 2) 140 0 [.ref 110, im_bad, im_bad] [] sh mi mr _
  have hz1 := hT.2.2.1
  have hfz0 := tk_f_z (tb := tb) hp
  have word : (tk_f tb z p) < z → lx_lt tb z (tk_f tb z p) = true → (tk_f tb z p) < (lx_to (lx_lt tb z) (tk_f tb z p)) → (lx_to (lx_lt tb z) (tk_f tb z p)) ≤ z → ∀ (v1 : Int32) (j i : Nat) (mb : im_MI), i + j = z → i ≤ z → rn_ mi mb → mb 110 18 = nI i → mb 110 19 = nI (tk_f tb z p) → lx_to (lx_lt tb z) i = (lx_to (lx_lt tb z) (tk_f tb z p)) → Ev (d + 2) 140 103 [.ref 110, .int v1, im_bad] [] sh mb mr (fun r sh2 m2 r2 => sh2 = sh ∧ (r2 = mr ∧ rn_ mi m2 ∧ rk_ tb z m2 p)) := by
    intro hfz hlf hfE hEz v1 j
    induction j with
    | zero =>
      intro i mb hij hiz hn h18 g19 hl
      have hTa := re_M_n hT hn
      refine ev_s (is_aload_n rfl rfl) ?_
      refine ev_s (is_getI' rfl (pu_s hC 110 rfl rfl) rfl rfl h18) ?_
      refine ev_s (is_aload_n rfl rfl) ?_
      refine ev_s (is_getI' rfl (pu_s hC 110 rfl rfl) rfl rfl hTa.1) ?_
      refine ev_s (is_icmp_ge_t rfl (nI_le (by omega) (by omega))) ?_
      have hE : lx_to (lx_lt tb z) i = i := lx_to_f (decide_eq_false (by omega))
      have hiE : i = (lx_to (lx_lt tb z) (tk_f tb z p)) := by rw [← hE]; exact hl
      have g18 : mb 110 18 = nI (lx_to (lx_lt tb z) (tk_f tb z p)) := by rw [h18, ← hiE]
      have hTb := re_M_n hT hn
      refine ev_s (is_aload_n rfl rfl) ?_
      refine ev_s (is_aload_n rfl rfl) ?_
      refine ev_s (is_getI' rfl (pu_s hC 110 rfl rfl) rfl rfl g19) ?_
      refine ev_s (is_aload_n rfl rfl) ?_
      refine ev_s (is_getI' rfl (pu_s hC 110 rfl rfl) rfl rfl g18) ?_
      refine ev_c1 (is_callR 3 [_, _] [] rfl rfl rfl rfl rfl (Nat.le_of_ble_eq_true rfl) rfl rfl rfl (pu_s hC 110 rfl rfl)) rfl rfl (re_word hC hTb (f := (tk_f tb z p)) (e := (lx_to (lx_lt tb z) (tk_f tb z p))) (by omega) (by omega) (fun j h1 h2 => by have := lx_to_in (g := lx_lt tb z) (i := (tk_f tb z p)) (k := j) h1 h2; exact (of_decide_eq_true this).2.1)) ?_
      obtain ⟨w1, w2, w3, w4, w5⟩ := rw_tok (wi_ tb (tk_f tb z p) (lx_to (lx_lt tb z) (tk_f tb z p))) (Nat.lt_succ_of_le (wi_le _ _))
      refine ev_s (st_istore_n_2 rfl rfl) ?_
      refine ev_s (is_aload_n rfl rfl) ?_
      refine ev_s (is_iload_n rfl rfl) ?_
      refine ev_s (is_iconst (nI 3) rfl rfl) ?_
      first
        | refine ev_icmpN_ge rfl (by omega) (by omega) (fun h_162 => ?_) (fun h_162 => ?_)
        | refine ev_icmp_ge rfl (fun h_162 => ?_) (fun h_162 => ?_)
      · first
          | (exfalso; omega)
          | (
             refine ev_s (is_iload_n rfl rfl) ?_
             refine ev_s (is_bipush (nI 9) rfl rfl) ?_
             first
               | refine ev_icmpN_ge rfl (by omega) (by omega) (fun h_172 => ?_) (fun h_172 => ?_)
               | refine ev_icmp_ge rfl (fun h_172 => ?_) (fun h_172 => ?_)
             · first
                 | (exfalso; omega)
                 | (
                    refine ev_s (is_iload_n rfl rfl) ?_
                    refine ev_s (is_bipush (nI 12) rfl rfl) ?_
                    first
                      | refine ev_icmpN_ne rfl (by omega) (by omega) (fun h_182 => ?_) (fun h_182 => ?_)
                      | refine ev_icmp_ne rfl (fun h_182 => ?_) (fun h_182 => ?_)
                    · first
                        | (exfalso; omega)
                        | (
                           refine ev_s (is_iconst (nI 4) rfl rfl) ?_
                           refine ev_s (is_iload_n rfl rfl) ?_
                           first
                             | refine ev_s (is_iadd _ rfl (nI_add _ _)) ?_
                             | refine ev_s (is_iadd _ rfl rfl) ?_
                           refine ev_s (is_bipush (nI 9) rfl rfl) ?_
                           refine ev_s (is_isub _ rfl (pk_sub (by omega))) ?_
                           refine ev_s (is_putI rfl (pu_s hC 110 rfl rfl) rfl rfl rfl) ?_
                           refine ev_s (is_aload_n rfl rfl) ?_
                           refine ev_s (is_iload_n rfl rfl) ?_
                           refine ev_s (is_iconst (nI 3) rfl rfl) ?_
                           first
                             | refine ev_icmpN_ge rfl (by omega) (by omega) (fun h_201 => ?_) (fun h_201 => ?_)
                             | refine ev_icmp_ge rfl (fun h_201 => ?_) (fun h_201 => ?_)
                           · first
                               | (exfalso; omega)
                               | (
                                  refine ev_s (is_iload_n rfl rfl) ?_
                                  refine ev_s (is_iconst (nI 3) rfl rfl) ?_
                                  refine ev_s (is_isub _ rfl (pk_sub (by omega))) ?_
                                  refine ev_s (is_putI rfl (pu_s hC 110 rfl rfl) rfl rfl rfl) ?_
                                  refine ev_s (is_goto rfl) ?_
                                  refine ev_ret (is_return rfl) ?_
                                  obtain ⟨e1, e2, e3⟩ := tk_word (tb := tb) (z := z) (p := p) hfz hlf
                                  refine ⟨rfl, rfl, rn_u (rn_u hn (by decide)) (by decide), by rw [e3]; exact ((im_u_j _ _ _ _ (by decide)).trans ((im_u_j _ _ _ _ (by decide)).trans g18)), ((im_u_j _ _ _ _ (by decide)).trans ((im_u_j _ _ _ _ (by decide)).trans g19)), ?_, ?_, ?_⟩
                                  · rw [im_u_j _ _ _ _ (by decide), im_u_s, e1]
                                    first
                                      | exact (w1 (by omega)).1.symm
                                      | exact (w2 (by omega) (by omega)).1.symm
                                      | (rw [w3 (by omega)]; rfl)
                                      | exact (w4 (by omega) (by omega)).1.symm
                                  · intro hk
                                    rw [e1] at hk
                                    rw [im_u_s, e2]
                                    first
                                      | (exfalso; have := (w1 (by omega)).2.1; have := (w1 (by omega)).2.2; omega)
                                      | (rw [(w2 (by omega) (by omega)).2.2])
                                      | (exfalso; have := w3 (by omega); omega)
                                      | (exfalso; have := (w4 (by omega) (by omega)).2; omega)
                                  · intro hk1 hk2
                                    rw [e1] at hk1 hk2 ⊢
                                    rw [im_u_s]
                                    first
                                      | (exfalso; have := (w4 (by omega) (by omega)).2; omega)
                                      | (exfalso; have := (w2 (by omega) (by omega)).2.1; omega)
                                      | (exfalso; have := w3 (by omega); omega)
                                      | (rw [(w1 (by omega)).2.2])
                                 )
                           · first
                               | (exfalso; omega)
                               | (
                                  refine ev_s (is_iload_n rfl rfl) ?_
                                  refine ev_s (is_goto rfl) ?_
                                  refine ev_s (is_putI rfl (pu_s hC 110 rfl rfl) rfl rfl rfl) ?_
                                  refine ev_s (is_goto rfl) ?_
                                  refine ev_ret (is_return rfl) ?_
                                  obtain ⟨e1, e2, e3⟩ := tk_word (tb := tb) (z := z) (p := p) hfz hlf
                                  refine ⟨rfl, rfl, rn_u (rn_u hn (by decide)) (by decide), by rw [e3]; exact ((im_u_j _ _ _ _ (by decide)).trans ((im_u_j _ _ _ _ (by decide)).trans g18)), ((im_u_j _ _ _ _ (by decide)).trans ((im_u_j _ _ _ _ (by decide)).trans g19)), ?_, ?_, ?_⟩
                                  · rw [im_u_j _ _ _ _ (by decide), im_u_s, e1]
                                    first
                                      | exact (w1 (by omega)).1.symm
                                      | exact (w2 (by omega) (by omega)).1.symm
                                      | (rw [w3 (by omega)]; rfl)
                                      | exact (w4 (by omega) (by omega)).1.symm
                                  · intro hk
                                    rw [e1] at hk
                                    rw [im_u_s, e2]
                                    first
                                      | (exfalso; have := (w1 (by omega)).2.1; have := (w1 (by omega)).2.2; omega)
                                      | (rw [(w2 (by omega) (by omega)).2.2])
                                      | (exfalso; have := w3 (by omega); omega)
                                      | (exfalso; have := (w4 (by omega) (by omega)).2; omega)
                                  · intro hk1 hk2
                                    rw [e1] at hk1 hk2 ⊢
                                    rw [im_u_s]
                                    first
                                      | (exfalso; have := (w4 (by omega) (by omega)).2; omega)
                                      | (exfalso; have := (w2 (by omega) (by omega)).2.1; omega)
                                      | (exfalso; have := w3 (by omega); omega)
                                      | (rw [(w1 (by omega)).2.2])
                                 )
                          )
                    · first
                        | (exfalso; omega)
                        | (
                           refine ev_s (is_iconst ((-1)) rfl rfl) ?_
                           refine ev_s (is_goto rfl) ?_
                           refine ev_s (is_putI rfl (pu_s hC 110 rfl rfl) rfl rfl rfl) ?_
                           refine ev_s (is_aload_n rfl rfl) ?_
                           refine ev_s (is_iload_n rfl rfl) ?_
                           refine ev_s (is_iconst (nI 3) rfl rfl) ?_
                           first
                             | refine ev_icmpN_ge rfl (by omega) (by omega) (fun h_201 => ?_) (fun h_201 => ?_)
                             | refine ev_icmp_ge rfl (fun h_201 => ?_) (fun h_201 => ?_)
                           · first
                               | (exfalso; omega)
                               | (
                                  refine ev_s (is_iload_n rfl rfl) ?_
                                  refine ev_s (is_iconst (nI 3) rfl rfl) ?_
                                  refine ev_s (is_isub _ rfl (pk_sub (by omega))) ?_
                                  refine ev_s (is_putI rfl (pu_s hC 110 rfl rfl) rfl rfl rfl) ?_
                                  refine ev_s (is_goto rfl) ?_
                                  refine ev_ret (is_return rfl) ?_
                                  obtain ⟨e1, e2, e3⟩ := tk_word (tb := tb) (z := z) (p := p) hfz hlf
                                  refine ⟨rfl, rfl, rn_u (rn_u hn (by decide)) (by decide), by rw [e3]; exact ((im_u_j _ _ _ _ (by decide)).trans ((im_u_j _ _ _ _ (by decide)).trans g18)), ((im_u_j _ _ _ _ (by decide)).trans ((im_u_j _ _ _ _ (by decide)).trans g19)), ?_, ?_, ?_⟩
                                  · rw [im_u_j _ _ _ _ (by decide), im_u_s, e1]
                                    first
                                      | exact (w1 (by omega)).1.symm
                                      | exact (w2 (by omega) (by omega)).1.symm
                                      | (rw [w3 (by omega)]; rfl)
                                      | exact (w4 (by omega) (by omega)).1.symm
                                  · intro hk
                                    rw [e1] at hk
                                    rw [im_u_s, e2]
                                    first
                                      | (exfalso; have := (w1 (by omega)).2.1; have := (w1 (by omega)).2.2; omega)
                                      | (rw [(w2 (by omega) (by omega)).2.2])
                                      | (exfalso; have := w3 (by omega); omega)
                                      | (exfalso; have := (w4 (by omega) (by omega)).2; omega)
                                  · intro hk1 hk2
                                    rw [e1] at hk1 hk2 ⊢
                                    rw [im_u_s]
                                    first
                                      | (exfalso; have := (w4 (by omega) (by omega)).2; omega)
                                      | (exfalso; have := (w2 (by omega) (by omega)).2.1; omega)
                                      | (exfalso; have := w3 (by omega); omega)
                                      | (rw [(w1 (by omega)).2.2])
                                 )
                           · first
                               | (exfalso; omega)
                               | (
                                  refine ev_s (is_iload_n rfl rfl) ?_
                                  refine ev_s (is_goto rfl) ?_
                                  refine ev_s (is_putI rfl (pu_s hC 110 rfl rfl) rfl rfl rfl) ?_
                                  refine ev_s (is_goto rfl) ?_
                                  refine ev_ret (is_return rfl) ?_
                                  obtain ⟨e1, e2, e3⟩ := tk_word (tb := tb) (z := z) (p := p) hfz hlf
                                  refine ⟨rfl, rfl, rn_u (rn_u hn (by decide)) (by decide), by rw [e3]; exact ((im_u_j _ _ _ _ (by decide)).trans ((im_u_j _ _ _ _ (by decide)).trans g18)), ((im_u_j _ _ _ _ (by decide)).trans ((im_u_j _ _ _ _ (by decide)).trans g19)), ?_, ?_, ?_⟩
                                  · rw [im_u_j _ _ _ _ (by decide), im_u_s, e1]
                                    first
                                      | exact (w1 (by omega)).1.symm
                                      | exact (w2 (by omega) (by omega)).1.symm
                                      | (rw [w3 (by omega)]; rfl)
                                      | exact (w4 (by omega) (by omega)).1.symm
                                  · intro hk
                                    rw [e1] at hk
                                    rw [im_u_s, e2]
                                    first
                                      | (exfalso; have := (w1 (by omega)).2.1; have := (w1 (by omega)).2.2; omega)
                                      | (rw [(w2 (by omega) (by omega)).2.2])
                                      | (exfalso; have := w3 (by omega); omega)
                                      | (exfalso; have := (w4 (by omega) (by omega)).2; omega)
                                  · intro hk1 hk2
                                    rw [e1] at hk1 hk2 ⊢
                                    rw [im_u_s]
                                    first
                                      | (exfalso; have := (w4 (by omega) (by omega)).2; omega)
                                      | (exfalso; have := (w2 (by omega) (by omega)).2.1; omega)
                                      | (exfalso; have := w3 (by omega); omega)
                                      | (rw [(w1 (by omega)).2.2])
                                 )
                          )
                   )
             · first
                 | (exfalso; omega)
                 | (
                    refine ev_s (is_iconst (nI 2) rfl rfl) ?_
                    refine ev_s (is_goto rfl) ?_
                    refine ev_s (is_putI rfl (pu_s hC 110 rfl rfl) rfl rfl rfl) ?_
                    refine ev_s (is_aload_n rfl rfl) ?_
                    refine ev_s (is_iload_n rfl rfl) ?_
                    refine ev_s (is_iconst (nI 3) rfl rfl) ?_
                    first
                      | refine ev_icmpN_ge rfl (by omega) (by omega) (fun h_201 => ?_) (fun h_201 => ?_)
                      | refine ev_icmp_ge rfl (fun h_201 => ?_) (fun h_201 => ?_)
                    · first
                        | (exfalso; omega)
                        | (
                           refine ev_s (is_iload_n rfl rfl) ?_
                           refine ev_s (is_iconst (nI 3) rfl rfl) ?_
                           refine ev_s (is_isub _ rfl (pk_sub (by omega))) ?_
                           refine ev_s (is_putI rfl (pu_s hC 110 rfl rfl) rfl rfl rfl) ?_
                           refine ev_s (is_goto rfl) ?_
                           refine ev_ret (is_return rfl) ?_
                           obtain ⟨e1, e2, e3⟩ := tk_word (tb := tb) (z := z) (p := p) hfz hlf
                           refine ⟨rfl, rfl, rn_u (rn_u hn (by decide)) (by decide), by rw [e3]; exact ((im_u_j _ _ _ _ (by decide)).trans ((im_u_j _ _ _ _ (by decide)).trans g18)), ((im_u_j _ _ _ _ (by decide)).trans ((im_u_j _ _ _ _ (by decide)).trans g19)), ?_, ?_, ?_⟩
                           · rw [im_u_j _ _ _ _ (by decide), im_u_s, e1]
                             first
                               | exact (w1 (by omega)).1.symm
                               | exact (w2 (by omega) (by omega)).1.symm
                               | (rw [w3 (by omega)]; rfl)
                               | exact (w4 (by omega) (by omega)).1.symm
                           · intro hk
                             rw [e1] at hk
                             rw [im_u_s, e2]
                             first
                               | (exfalso; have := (w1 (by omega)).2.1; have := (w1 (by omega)).2.2; omega)
                               | (rw [(w2 (by omega) (by omega)).2.2])
                               | (exfalso; have := w3 (by omega); omega)
                               | (exfalso; have := (w4 (by omega) (by omega)).2; omega)
                           · intro hk1 hk2
                             rw [e1] at hk1 hk2 ⊢
                             rw [im_u_s]
                             first
                               | (exfalso; have := (w4 (by omega) (by omega)).2; omega)
                               | (exfalso; have := (w2 (by omega) (by omega)).2.1; omega)
                               | (exfalso; have := w3 (by omega); omega)
                               | (rw [(w1 (by omega)).2.2])
                          )
                    · first
                        | (exfalso; omega)
                        | (
                           refine ev_s (is_iload_n rfl rfl) ?_
                           refine ev_s (is_goto rfl) ?_
                           refine ev_s (is_putI rfl (pu_s hC 110 rfl rfl) rfl rfl rfl) ?_
                           refine ev_s (is_goto rfl) ?_
                           refine ev_ret (is_return rfl) ?_
                           obtain ⟨e1, e2, e3⟩ := tk_word (tb := tb) (z := z) (p := p) hfz hlf
                           refine ⟨rfl, rfl, rn_u (rn_u hn (by decide)) (by decide), by rw [e3]; exact ((im_u_j _ _ _ _ (by decide)).trans ((im_u_j _ _ _ _ (by decide)).trans g18)), ((im_u_j _ _ _ _ (by decide)).trans ((im_u_j _ _ _ _ (by decide)).trans g19)), ?_, ?_, ?_⟩
                           · rw [im_u_j _ _ _ _ (by decide), im_u_s, e1]
                             first
                               | exact (w1 (by omega)).1.symm
                               | exact (w2 (by omega) (by omega)).1.symm
                               | (rw [w3 (by omega)]; rfl)
                               | exact (w4 (by omega) (by omega)).1.symm
                           · intro hk
                             rw [e1] at hk
                             rw [im_u_s, e2]
                             first
                               | (exfalso; have := (w1 (by omega)).2.1; have := (w1 (by omega)).2.2; omega)
                               | (rw [(w2 (by omega) (by omega)).2.2])
                               | (exfalso; have := w3 (by omega); omega)
                               | (exfalso; have := (w4 (by omega) (by omega)).2; omega)
                           · intro hk1 hk2
                             rw [e1] at hk1 hk2 ⊢
                             rw [im_u_s]
                             first
                               | (exfalso; have := (w4 (by omega) (by omega)).2; omega)
                               | (exfalso; have := (w2 (by omega) (by omega)).2.1; omega)
                               | (exfalso; have := w3 (by omega); omega)
                               | (rw [(w1 (by omega)).2.2])
                          )
                   )
            )
      · first
          | (exfalso; omega)
          | (
             refine ev_s (is_iconst (nI 3) rfl rfl) ?_
             refine ev_s (is_goto rfl) ?_
             refine ev_s (is_putI rfl (pu_s hC 110 rfl rfl) rfl rfl rfl) ?_
             refine ev_s (is_aload_n rfl rfl) ?_
             refine ev_s (is_iload_n rfl rfl) ?_
             refine ev_s (is_iconst (nI 3) rfl rfl) ?_
             first
               | refine ev_icmpN_ge rfl (by omega) (by omega) (fun h_201 => ?_) (fun h_201 => ?_)
               | refine ev_icmp_ge rfl (fun h_201 => ?_) (fun h_201 => ?_)
             · first
                 | (exfalso; omega)
                 | (
                    refine ev_s (is_iload_n rfl rfl) ?_
                    refine ev_s (is_iconst (nI 3) rfl rfl) ?_
                    refine ev_s (is_isub _ rfl (pk_sub (by omega))) ?_
                    refine ev_s (is_putI rfl (pu_s hC 110 rfl rfl) rfl rfl rfl) ?_
                    refine ev_s (is_goto rfl) ?_
                    refine ev_ret (is_return rfl) ?_
                    obtain ⟨e1, e2, e3⟩ := tk_word (tb := tb) (z := z) (p := p) hfz hlf
                    refine ⟨rfl, rfl, rn_u (rn_u hn (by decide)) (by decide), by rw [e3]; exact ((im_u_j _ _ _ _ (by decide)).trans ((im_u_j _ _ _ _ (by decide)).trans g18)), ((im_u_j _ _ _ _ (by decide)).trans ((im_u_j _ _ _ _ (by decide)).trans g19)), ?_, ?_, ?_⟩
                    · rw [im_u_j _ _ _ _ (by decide), im_u_s, e1]
                      first
                        | exact (w1 (by omega)).1.symm
                        | exact (w2 (by omega) (by omega)).1.symm
                        | (rw [w3 (by omega)]; rfl)
                        | exact (w4 (by omega) (by omega)).1.symm
                    · intro hk
                      rw [e1] at hk
                      rw [im_u_s, e2]
                      first
                        | (exfalso; have := (w1 (by omega)).2.1; have := (w1 (by omega)).2.2; omega)
                        | (rw [(w2 (by omega) (by omega)).2.2])
                        | (exfalso; have := w3 (by omega); omega)
                        | (exfalso; have := (w4 (by omega) (by omega)).2; omega)
                    · intro hk1 hk2
                      rw [e1] at hk1 hk2 ⊢
                      rw [im_u_s]
                      first
                        | (exfalso; have := (w4 (by omega) (by omega)).2; omega)
                        | (exfalso; have := (w2 (by omega) (by omega)).2.1; omega)
                        | (exfalso; have := w3 (by omega); omega)
                        | (rw [(w1 (by omega)).2.2])
                   )
             · first
                 | (exfalso; omega)
                 | (
                    refine ev_s (is_iload_n rfl rfl) ?_
                    refine ev_s (is_goto rfl) ?_
                    refine ev_s (is_putI rfl (pu_s hC 110 rfl rfl) rfl rfl rfl) ?_
                    refine ev_s (is_goto rfl) ?_
                    refine ev_ret (is_return rfl) ?_
                    obtain ⟨e1, e2, e3⟩ := tk_word (tb := tb) (z := z) (p := p) hfz hlf
                    refine ⟨rfl, rfl, rn_u (rn_u hn (by decide)) (by decide), by rw [e3]; exact ((im_u_j _ _ _ _ (by decide)).trans ((im_u_j _ _ _ _ (by decide)).trans g18)), ((im_u_j _ _ _ _ (by decide)).trans ((im_u_j _ _ _ _ (by decide)).trans g19)), ?_, ?_, ?_⟩
                    · rw [im_u_j _ _ _ _ (by decide), im_u_s, e1]
                      first
                        | exact (w1 (by omega)).1.symm
                        | exact (w2 (by omega) (by omega)).1.symm
                        | (rw [w3 (by omega)]; rfl)
                        | exact (w4 (by omega) (by omega)).1.symm
                    · intro hk
                      rw [e1] at hk
                      rw [im_u_s, e2]
                      first
                        | (exfalso; have := (w1 (by omega)).2.1; have := (w1 (by omega)).2.2; omega)
                        | (rw [(w2 (by omega) (by omega)).2.2])
                        | (exfalso; have := w3 (by omega); omega)
                        | (exfalso; have := (w4 (by omega) (by omega)).2; omega)
                    · intro hk1 hk2
                      rw [e1] at hk1 hk2 ⊢
                      rw [im_u_s]
                      first
                        | (exfalso; have := (w4 (by omega) (by omega)).2; omega)
                        | (exfalso; have := (w2 (by omega) (by omega)).2.1; omega)
                        | (exfalso; have := w3 (by omega); omega)
                        | (rw [(w1 (by omega)).2.2])
                   )
            )
    | succ j ih =>
      intro i mb hij hiz hn h18 g19 hl
      have hTa := re_M_n hT hn
      refine ev_s (is_aload_n rfl rfl) ?_
      refine ev_s (is_getI' rfl (pu_s hC 110 rfl rfl) rfl rfl h18) ?_
      refine ev_s (is_aload_n rfl rfl) ?_
      refine ev_s (is_getI' rfl (pu_s hC 110 rfl rfl) rfl rfl hTa.1) ?_
      refine ev_s (is_icmp_ge_f rfl (nI_ge (by omega) (by omega))) ?_
      refine ev_s (is_aload_n rfl rfl) ?_
      refine ev_s (is_getR rfl (pu_s hC 110 rfl rfl) rfl rfl (pu_r hC 110 5 rfl rfl)) ?_
      refine ev_s (is_aload_n rfl rfl) ?_
      refine ev_s (is_getI' rfl (pu_s hC 110 rfl rfl) rfl rfl h18) ?_
      refine ev_s (is_iaload' (i) rfl (pu_s hC 114 rfl rfl) rfl rfl (by omega) (hTa.2.1 _ (by omega))) ?_
      refine ev_s (is_bipush (nI 97) rfl rfl) ?_
      refine ev_s (is_bipush (nI 122) rfl rfl) ?_
      refine ev_c1 (is_call0 3 [_, _, _] [] rfl rfl rfl rfl rfl (Nat.le_of_ble_eq_true rfl) rfl rfl rfl) rfl rfl (r_in' _ _ _) ?_
      refine ev_ifB_eq rfl (fun h_130 => ?_) (fun h_130 => ?_)
      · have hE : lx_to (lx_lt tb z) i = i := lx_to_f (decide_eq_false (fun q => h_130 ((lx_r hT.2.2.2.1 (by decide) (by decide)).mpr q.2)))
        have hiE : i = (lx_to (lx_lt tb z) (tk_f tb z p)) := by rw [← hE]; exact hl
        have g18 : mb 110 18 = nI (lx_to (lx_lt tb z) (tk_f tb z p)) := by rw [h18, ← hiE]
        have hTb := re_M_n hT hn
        refine ev_s (is_aload_n rfl rfl) ?_
        refine ev_s (is_aload_n rfl rfl) ?_
        refine ev_s (is_getI' rfl (pu_s hC 110 rfl rfl) rfl rfl g19) ?_
        refine ev_s (is_aload_n rfl rfl) ?_
        refine ev_s (is_getI' rfl (pu_s hC 110 rfl rfl) rfl rfl g18) ?_
        refine ev_c1 (is_callR 3 [_, _] [] rfl rfl rfl rfl rfl (Nat.le_of_ble_eq_true rfl) rfl rfl rfl (pu_s hC 110 rfl rfl)) rfl rfl (re_word hC hTb (f := (tk_f tb z p)) (e := (lx_to (lx_lt tb z) (tk_f tb z p))) (by omega) (by omega) (fun j h1 h2 => by have := lx_to_in (g := lx_lt tb z) (i := (tk_f tb z p)) (k := j) h1 h2; exact (of_decide_eq_true this).2.1)) ?_
        obtain ⟨w1, w2, w3, w4, w5⟩ := rw_tok (wi_ tb (tk_f tb z p) (lx_to (lx_lt tb z) (tk_f tb z p))) (Nat.lt_succ_of_le (wi_le _ _))
        refine ev_s (st_istore_n_2 rfl rfl) ?_
        refine ev_s (is_aload_n rfl rfl) ?_
        refine ev_s (is_iload_n rfl rfl) ?_
        refine ev_s (is_iconst (nI 3) rfl rfl) ?_
        first
          | refine ev_icmpN_ge rfl (by omega) (by omega) (fun h_162 => ?_) (fun h_162 => ?_)
          | refine ev_icmp_ge rfl (fun h_162 => ?_) (fun h_162 => ?_)
        · first
            | (exfalso; omega)
            | (
               refine ev_s (is_iload_n rfl rfl) ?_
               refine ev_s (is_bipush (nI 9) rfl rfl) ?_
               first
                 | refine ev_icmpN_ge rfl (by omega) (by omega) (fun h_172 => ?_) (fun h_172 => ?_)
                 | refine ev_icmp_ge rfl (fun h_172 => ?_) (fun h_172 => ?_)
               · first
                   | (exfalso; omega)
                   | (
                      refine ev_s (is_iload_n rfl rfl) ?_
                      refine ev_s (is_bipush (nI 12) rfl rfl) ?_
                      first
                        | refine ev_icmpN_ne rfl (by omega) (by omega) (fun h_182 => ?_) (fun h_182 => ?_)
                        | refine ev_icmp_ne rfl (fun h_182 => ?_) (fun h_182 => ?_)
                      · first
                          | (exfalso; omega)
                          | (
                             refine ev_s (is_iconst (nI 4) rfl rfl) ?_
                             refine ev_s (is_iload_n rfl rfl) ?_
                             first
                               | refine ev_s (is_iadd _ rfl (nI_add _ _)) ?_
                               | refine ev_s (is_iadd _ rfl rfl) ?_
                             refine ev_s (is_bipush (nI 9) rfl rfl) ?_
                             refine ev_s (is_isub _ rfl (pk_sub (by omega))) ?_
                             refine ev_s (is_putI rfl (pu_s hC 110 rfl rfl) rfl rfl rfl) ?_
                             refine ev_s (is_aload_n rfl rfl) ?_
                             refine ev_s (is_iload_n rfl rfl) ?_
                             refine ev_s (is_iconst (nI 3) rfl rfl) ?_
                             first
                               | refine ev_icmpN_ge rfl (by omega) (by omega) (fun h_201 => ?_) (fun h_201 => ?_)
                               | refine ev_icmp_ge rfl (fun h_201 => ?_) (fun h_201 => ?_)
                             · first
                                 | (exfalso; omega)
                                 | (
                                    refine ev_s (is_iload_n rfl rfl) ?_
                                    refine ev_s (is_iconst (nI 3) rfl rfl) ?_
                                    refine ev_s (is_isub _ rfl (pk_sub (by omega))) ?_
                                    refine ev_s (is_putI rfl (pu_s hC 110 rfl rfl) rfl rfl rfl) ?_
                                    refine ev_s (is_goto rfl) ?_
                                    refine ev_ret (is_return rfl) ?_
                                    obtain ⟨e1, e2, e3⟩ := tk_word (tb := tb) (z := z) (p := p) hfz hlf
                                    refine ⟨rfl, rfl, rn_u (rn_u hn (by decide)) (by decide), by rw [e3]; exact ((im_u_j _ _ _ _ (by decide)).trans ((im_u_j _ _ _ _ (by decide)).trans g18)), ((im_u_j _ _ _ _ (by decide)).trans ((im_u_j _ _ _ _ (by decide)).trans g19)), ?_, ?_, ?_⟩
                                    · rw [im_u_j _ _ _ _ (by decide), im_u_s, e1]
                                      first
                                        | exact (w1 (by omega)).1.symm
                                        | exact (w2 (by omega) (by omega)).1.symm
                                        | (rw [w3 (by omega)]; rfl)
                                        | exact (w4 (by omega) (by omega)).1.symm
                                    · intro hk
                                      rw [e1] at hk
                                      rw [im_u_s, e2]
                                      first
                                        | (exfalso; have := (w1 (by omega)).2.1; have := (w1 (by omega)).2.2; omega)
                                        | (rw [(w2 (by omega) (by omega)).2.2])
                                        | (exfalso; have := w3 (by omega); omega)
                                        | (exfalso; have := (w4 (by omega) (by omega)).2; omega)
                                    · intro hk1 hk2
                                      rw [e1] at hk1 hk2 ⊢
                                      rw [im_u_s]
                                      first
                                        | (exfalso; have := (w4 (by omega) (by omega)).2; omega)
                                        | (exfalso; have := (w2 (by omega) (by omega)).2.1; omega)
                                        | (exfalso; have := w3 (by omega); omega)
                                        | (rw [(w1 (by omega)).2.2])
                                   )
                             · first
                                 | (exfalso; omega)
                                 | (
                                    refine ev_s (is_iload_n rfl rfl) ?_
                                    refine ev_s (is_goto rfl) ?_
                                    refine ev_s (is_putI rfl (pu_s hC 110 rfl rfl) rfl rfl rfl) ?_
                                    refine ev_s (is_goto rfl) ?_
                                    refine ev_ret (is_return rfl) ?_
                                    obtain ⟨e1, e2, e3⟩ := tk_word (tb := tb) (z := z) (p := p) hfz hlf
                                    refine ⟨rfl, rfl, rn_u (rn_u hn (by decide)) (by decide), by rw [e3]; exact ((im_u_j _ _ _ _ (by decide)).trans ((im_u_j _ _ _ _ (by decide)).trans g18)), ((im_u_j _ _ _ _ (by decide)).trans ((im_u_j _ _ _ _ (by decide)).trans g19)), ?_, ?_, ?_⟩
                                    · rw [im_u_j _ _ _ _ (by decide), im_u_s, e1]
                                      first
                                        | exact (w1 (by omega)).1.symm
                                        | exact (w2 (by omega) (by omega)).1.symm
                                        | (rw [w3 (by omega)]; rfl)
                                        | exact (w4 (by omega) (by omega)).1.symm
                                    · intro hk
                                      rw [e1] at hk
                                      rw [im_u_s, e2]
                                      first
                                        | (exfalso; have := (w1 (by omega)).2.1; have := (w1 (by omega)).2.2; omega)
                                        | (rw [(w2 (by omega) (by omega)).2.2])
                                        | (exfalso; have := w3 (by omega); omega)
                                        | (exfalso; have := (w4 (by omega) (by omega)).2; omega)
                                    · intro hk1 hk2
                                      rw [e1] at hk1 hk2 ⊢
                                      rw [im_u_s]
                                      first
                                        | (exfalso; have := (w4 (by omega) (by omega)).2; omega)
                                        | (exfalso; have := (w2 (by omega) (by omega)).2.1; omega)
                                        | (exfalso; have := w3 (by omega); omega)
                                        | (rw [(w1 (by omega)).2.2])
                                   )
                            )
                      · first
                          | (exfalso; omega)
                          | (
                             refine ev_s (is_iconst ((-1)) rfl rfl) ?_
                             refine ev_s (is_goto rfl) ?_
                             refine ev_s (is_putI rfl (pu_s hC 110 rfl rfl) rfl rfl rfl) ?_
                             refine ev_s (is_aload_n rfl rfl) ?_
                             refine ev_s (is_iload_n rfl rfl) ?_
                             refine ev_s (is_iconst (nI 3) rfl rfl) ?_
                             first
                               | refine ev_icmpN_ge rfl (by omega) (by omega) (fun h_201 => ?_) (fun h_201 => ?_)
                               | refine ev_icmp_ge rfl (fun h_201 => ?_) (fun h_201 => ?_)
                             · first
                                 | (exfalso; omega)
                                 | (
                                    refine ev_s (is_iload_n rfl rfl) ?_
                                    refine ev_s (is_iconst (nI 3) rfl rfl) ?_
                                    refine ev_s (is_isub _ rfl (pk_sub (by omega))) ?_
                                    refine ev_s (is_putI rfl (pu_s hC 110 rfl rfl) rfl rfl rfl) ?_
                                    refine ev_s (is_goto rfl) ?_
                                    refine ev_ret (is_return rfl) ?_
                                    obtain ⟨e1, e2, e3⟩ := tk_word (tb := tb) (z := z) (p := p) hfz hlf
                                    refine ⟨rfl, rfl, rn_u (rn_u hn (by decide)) (by decide), by rw [e3]; exact ((im_u_j _ _ _ _ (by decide)).trans ((im_u_j _ _ _ _ (by decide)).trans g18)), ((im_u_j _ _ _ _ (by decide)).trans ((im_u_j _ _ _ _ (by decide)).trans g19)), ?_, ?_, ?_⟩
                                    · rw [im_u_j _ _ _ _ (by decide), im_u_s, e1]
                                      first
                                        | exact (w1 (by omega)).1.symm
                                        | exact (w2 (by omega) (by omega)).1.symm
                                        | (rw [w3 (by omega)]; rfl)
                                        | exact (w4 (by omega) (by omega)).1.symm
                                    · intro hk
                                      rw [e1] at hk
                                      rw [im_u_s, e2]
                                      first
                                        | (exfalso; have := (w1 (by omega)).2.1; have := (w1 (by omega)).2.2; omega)
                                        | (rw [(w2 (by omega) (by omega)).2.2])
                                        | (exfalso; have := w3 (by omega); omega)
                                        | (exfalso; have := (w4 (by omega) (by omega)).2; omega)
                                    · intro hk1 hk2
                                      rw [e1] at hk1 hk2 ⊢
                                      rw [im_u_s]
                                      first
                                        | (exfalso; have := (w4 (by omega) (by omega)).2; omega)
                                        | (exfalso; have := (w2 (by omega) (by omega)).2.1; omega)
                                        | (exfalso; have := w3 (by omega); omega)
                                        | (rw [(w1 (by omega)).2.2])
                                   )
                             · first
                                 | (exfalso; omega)
                                 | (
                                    refine ev_s (is_iload_n rfl rfl) ?_
                                    refine ev_s (is_goto rfl) ?_
                                    refine ev_s (is_putI rfl (pu_s hC 110 rfl rfl) rfl rfl rfl) ?_
                                    refine ev_s (is_goto rfl) ?_
                                    refine ev_ret (is_return rfl) ?_
                                    obtain ⟨e1, e2, e3⟩ := tk_word (tb := tb) (z := z) (p := p) hfz hlf
                                    refine ⟨rfl, rfl, rn_u (rn_u hn (by decide)) (by decide), by rw [e3]; exact ((im_u_j _ _ _ _ (by decide)).trans ((im_u_j _ _ _ _ (by decide)).trans g18)), ((im_u_j _ _ _ _ (by decide)).trans ((im_u_j _ _ _ _ (by decide)).trans g19)), ?_, ?_, ?_⟩
                                    · rw [im_u_j _ _ _ _ (by decide), im_u_s, e1]
                                      first
                                        | exact (w1 (by omega)).1.symm
                                        | exact (w2 (by omega) (by omega)).1.symm
                                        | (rw [w3 (by omega)]; rfl)
                                        | exact (w4 (by omega) (by omega)).1.symm
                                    · intro hk
                                      rw [e1] at hk
                                      rw [im_u_s, e2]
                                      first
                                        | (exfalso; have := (w1 (by omega)).2.1; have := (w1 (by omega)).2.2; omega)
                                        | (rw [(w2 (by omega) (by omega)).2.2])
                                        | (exfalso; have := w3 (by omega); omega)
                                        | (exfalso; have := (w4 (by omega) (by omega)).2; omega)
                                    · intro hk1 hk2
                                      rw [e1] at hk1 hk2 ⊢
                                      rw [im_u_s]
                                      first
                                        | (exfalso; have := (w4 (by omega) (by omega)).2; omega)
                                        | (exfalso; have := (w2 (by omega) (by omega)).2.1; omega)
                                        | (exfalso; have := w3 (by omega); omega)
                                        | (rw [(w1 (by omega)).2.2])
                                   )
                            )
                     )
               · first
                   | (exfalso; omega)
                   | (
                      refine ev_s (is_iconst (nI 2) rfl rfl) ?_
                      refine ev_s (is_goto rfl) ?_
                      refine ev_s (is_putI rfl (pu_s hC 110 rfl rfl) rfl rfl rfl) ?_
                      refine ev_s (is_aload_n rfl rfl) ?_
                      refine ev_s (is_iload_n rfl rfl) ?_
                      refine ev_s (is_iconst (nI 3) rfl rfl) ?_
                      first
                        | refine ev_icmpN_ge rfl (by omega) (by omega) (fun h_201 => ?_) (fun h_201 => ?_)
                        | refine ev_icmp_ge rfl (fun h_201 => ?_) (fun h_201 => ?_)
                      · first
                          | (exfalso; omega)
                          | (
                             refine ev_s (is_iload_n rfl rfl) ?_
                             refine ev_s (is_iconst (nI 3) rfl rfl) ?_
                             refine ev_s (is_isub _ rfl (pk_sub (by omega))) ?_
                             refine ev_s (is_putI rfl (pu_s hC 110 rfl rfl) rfl rfl rfl) ?_
                             refine ev_s (is_goto rfl) ?_
                             refine ev_ret (is_return rfl) ?_
                             obtain ⟨e1, e2, e3⟩ := tk_word (tb := tb) (z := z) (p := p) hfz hlf
                             refine ⟨rfl, rfl, rn_u (rn_u hn (by decide)) (by decide), by rw [e3]; exact ((im_u_j _ _ _ _ (by decide)).trans ((im_u_j _ _ _ _ (by decide)).trans g18)), ((im_u_j _ _ _ _ (by decide)).trans ((im_u_j _ _ _ _ (by decide)).trans g19)), ?_, ?_, ?_⟩
                             · rw [im_u_j _ _ _ _ (by decide), im_u_s, e1]
                               first
                                 | exact (w1 (by omega)).1.symm
                                 | exact (w2 (by omega) (by omega)).1.symm
                                 | (rw [w3 (by omega)]; rfl)
                                 | exact (w4 (by omega) (by omega)).1.symm
                             · intro hk
                               rw [e1] at hk
                               rw [im_u_s, e2]
                               first
                                 | (exfalso; have := (w1 (by omega)).2.1; have := (w1 (by omega)).2.2; omega)
                                 | (rw [(w2 (by omega) (by omega)).2.2])
                                 | (exfalso; have := w3 (by omega); omega)
                                 | (exfalso; have := (w4 (by omega) (by omega)).2; omega)
                             · intro hk1 hk2
                               rw [e1] at hk1 hk2 ⊢
                               rw [im_u_s]
                               first
                                 | (exfalso; have := (w4 (by omega) (by omega)).2; omega)
                                 | (exfalso; have := (w2 (by omega) (by omega)).2.1; omega)
                                 | (exfalso; have := w3 (by omega); omega)
                                 | (rw [(w1 (by omega)).2.2])
                            )
                      · first
                          | (exfalso; omega)
                          | (
                             refine ev_s (is_iload_n rfl rfl) ?_
                             refine ev_s (is_goto rfl) ?_
                             refine ev_s (is_putI rfl (pu_s hC 110 rfl rfl) rfl rfl rfl) ?_
                             refine ev_s (is_goto rfl) ?_
                             refine ev_ret (is_return rfl) ?_
                             obtain ⟨e1, e2, e3⟩ := tk_word (tb := tb) (z := z) (p := p) hfz hlf
                             refine ⟨rfl, rfl, rn_u (rn_u hn (by decide)) (by decide), by rw [e3]; exact ((im_u_j _ _ _ _ (by decide)).trans ((im_u_j _ _ _ _ (by decide)).trans g18)), ((im_u_j _ _ _ _ (by decide)).trans ((im_u_j _ _ _ _ (by decide)).trans g19)), ?_, ?_, ?_⟩
                             · rw [im_u_j _ _ _ _ (by decide), im_u_s, e1]
                               first
                                 | exact (w1 (by omega)).1.symm
                                 | exact (w2 (by omega) (by omega)).1.symm
                                 | (rw [w3 (by omega)]; rfl)
                                 | exact (w4 (by omega) (by omega)).1.symm
                             · intro hk
                               rw [e1] at hk
                               rw [im_u_s, e2]
                               first
                                 | (exfalso; have := (w1 (by omega)).2.1; have := (w1 (by omega)).2.2; omega)
                                 | (rw [(w2 (by omega) (by omega)).2.2])
                                 | (exfalso; have := w3 (by omega); omega)
                                 | (exfalso; have := (w4 (by omega) (by omega)).2; omega)
                             · intro hk1 hk2
                               rw [e1] at hk1 hk2 ⊢
                               rw [im_u_s]
                               first
                                 | (exfalso; have := (w4 (by omega) (by omega)).2; omega)
                                 | (exfalso; have := (w2 (by omega) (by omega)).2.1; omega)
                                 | (exfalso; have := w3 (by omega); omega)
                                 | (rw [(w1 (by omega)).2.2])
                            )
                     )
              )
        · first
            | (exfalso; omega)
            | (
               refine ev_s (is_iconst (nI 3) rfl rfl) ?_
               refine ev_s (is_goto rfl) ?_
               refine ev_s (is_putI rfl (pu_s hC 110 rfl rfl) rfl rfl rfl) ?_
               refine ev_s (is_aload_n rfl rfl) ?_
               refine ev_s (is_iload_n rfl rfl) ?_
               refine ev_s (is_iconst (nI 3) rfl rfl) ?_
               first
                 | refine ev_icmpN_ge rfl (by omega) (by omega) (fun h_201 => ?_) (fun h_201 => ?_)
                 | refine ev_icmp_ge rfl (fun h_201 => ?_) (fun h_201 => ?_)
               · first
                   | (exfalso; omega)
                   | (
                      refine ev_s (is_iload_n rfl rfl) ?_
                      refine ev_s (is_iconst (nI 3) rfl rfl) ?_
                      refine ev_s (is_isub _ rfl (pk_sub (by omega))) ?_
                      refine ev_s (is_putI rfl (pu_s hC 110 rfl rfl) rfl rfl rfl) ?_
                      refine ev_s (is_goto rfl) ?_
                      refine ev_ret (is_return rfl) ?_
                      obtain ⟨e1, e2, e3⟩ := tk_word (tb := tb) (z := z) (p := p) hfz hlf
                      refine ⟨rfl, rfl, rn_u (rn_u hn (by decide)) (by decide), by rw [e3]; exact ((im_u_j _ _ _ _ (by decide)).trans ((im_u_j _ _ _ _ (by decide)).trans g18)), ((im_u_j _ _ _ _ (by decide)).trans ((im_u_j _ _ _ _ (by decide)).trans g19)), ?_, ?_, ?_⟩
                      · rw [im_u_j _ _ _ _ (by decide), im_u_s, e1]
                        first
                          | exact (w1 (by omega)).1.symm
                          | exact (w2 (by omega) (by omega)).1.symm
                          | (rw [w3 (by omega)]; rfl)
                          | exact (w4 (by omega) (by omega)).1.symm
                      · intro hk
                        rw [e1] at hk
                        rw [im_u_s, e2]
                        first
                          | (exfalso; have := (w1 (by omega)).2.1; have := (w1 (by omega)).2.2; omega)
                          | (rw [(w2 (by omega) (by omega)).2.2])
                          | (exfalso; have := w3 (by omega); omega)
                          | (exfalso; have := (w4 (by omega) (by omega)).2; omega)
                      · intro hk1 hk2
                        rw [e1] at hk1 hk2 ⊢
                        rw [im_u_s]
                        first
                          | (exfalso; have := (w4 (by omega) (by omega)).2; omega)
                          | (exfalso; have := (w2 (by omega) (by omega)).2.1; omega)
                          | (exfalso; have := w3 (by omega); omega)
                          | (rw [(w1 (by omega)).2.2])
                     )
               · first
                   | (exfalso; omega)
                   | (
                      refine ev_s (is_iload_n rfl rfl) ?_
                      refine ev_s (is_goto rfl) ?_
                      refine ev_s (is_putI rfl (pu_s hC 110 rfl rfl) rfl rfl rfl) ?_
                      refine ev_s (is_goto rfl) ?_
                      refine ev_ret (is_return rfl) ?_
                      obtain ⟨e1, e2, e3⟩ := tk_word (tb := tb) (z := z) (p := p) hfz hlf
                      refine ⟨rfl, rfl, rn_u (rn_u hn (by decide)) (by decide), by rw [e3]; exact ((im_u_j _ _ _ _ (by decide)).trans ((im_u_j _ _ _ _ (by decide)).trans g18)), ((im_u_j _ _ _ _ (by decide)).trans ((im_u_j _ _ _ _ (by decide)).trans g19)), ?_, ?_, ?_⟩
                      · rw [im_u_j _ _ _ _ (by decide), im_u_s, e1]
                        first
                          | exact (w1 (by omega)).1.symm
                          | exact (w2 (by omega) (by omega)).1.symm
                          | (rw [w3 (by omega)]; rfl)
                          | exact (w4 (by omega) (by omega)).1.symm
                      · intro hk
                        rw [e1] at hk
                        rw [im_u_s, e2]
                        first
                          | (exfalso; have := (w1 (by omega)).2.1; have := (w1 (by omega)).2.2; omega)
                          | (rw [(w2 (by omega) (by omega)).2.2])
                          | (exfalso; have := w3 (by omega); omega)
                          | (exfalso; have := (w4 (by omega) (by omega)).2; omega)
                      · intro hk1 hk2
                        rw [e1] at hk1 hk2 ⊢
                        rw [im_u_s]
                        first
                          | (exfalso; have := (w4 (by omega) (by omega)).2; omega)
                          | (exfalso; have := (w2 (by omega) (by omega)).2.1; omega)
                          | (exfalso; have := w3 (by omega); omega)
                          | (rw [(w1 (by omega)).2.2])
                     )
              )
      · refine ev_s (is_aload_n rfl rfl) ?_
        refine ev_s (is_dup rfl rfl) ?_
        refine ev_s (is_getI' rfl (pu_s hC 110 rfl rfl) rfl rfl h18) ?_
        refine ev_s (is_iconst (nI 1) rfl rfl) ?_
        first
          | refine ev_s (is_iadd _ rfl (nI_add _ _)) ?_
          | refine ev_s (is_iadd _ rfl rfl) ?_
        refine ev_s (is_putI rfl (pu_s hC 110 rfl rfl) rfl rfl rfl) ?_
        refine ev_s (is_goto rfl) ?_
        have hg : lx_lt tb z i = true := decide_eq_true ⟨by omega, (lx_r hT.2.2.2.1 (by decide) (by decide)).mp h_130⟩
        exact ih (i + 1) _ (by omega) (by omega) (rn_u hn (by decide)) (im_u_s _ _ _ _) ((im_u_j _ _ _ _ (by decide)).trans g19) (by rw [← hl, lx_to_t (by omega) hg])
  have num : (tk_f tb z p) < z → ¬ lx_lt tb z (tk_f tb z p) = true → lx_dg tb z (tk_f tb z p) = true → ∀ (v1 : Int32) (j n : Nat) (mb : im_MI), (tk_f tb z p) + n + j = z → (tk_f tb z p) + n ≤ z → rn_ mi mb → mb 110 18 = nI ((tk_f tb z p) + n) → mb 110 19 = nI (tk_f tb z p) → mb 110 21 = nI (if n ≤ 4 then lx_num tb (tk_f tb z p) n else 0) → lx_to (lx_dg tb z) ((tk_f tb z p) + n) = (lx_to (lx_dg tb z) (tk_f tb z p)) → Ev (d + 2) 140 230 [.ref 110, .int v1, .int (nI n)] [] sh mb mr (fun r sh2 m2 r2 => sh2 = sh ∧ (r2 = mr ∧ rn_ mi m2 ∧ rk_ tb z m2 p)) := by
    intro hfz hlf hdf v1 j
    induction j with
    | zero =>
      intro n mb hij hiz hn h18 g19 g21 hl
      have hTa := re_M_n hT hn
      refine ev_s (is_aload_n rfl rfl) ?_
      refine ev_s (is_getI' rfl (pu_s hC 110 rfl rfl) rfl rfl h18) ?_
      refine ev_s (is_aload_n rfl rfl) ?_
      refine ev_s (is_getI' rfl (pu_s hC 110 rfl rfl) rfl rfl hTa.1) ?_
      refine ev_s (is_icmp_ge_t rfl (nI_le (by omega) (by omega))) ?_
      have hE : lx_to (lx_dg tb z) ((tk_f tb z p) + n) = (tk_f tb z p) + n := lx_to_f (decide_eq_false (by omega))
      have hiE : (tk_f tb z p) + n = (lx_to (lx_dg tb z) (tk_f tb z p)) := by rw [← hE]; exact hl
      refine ev_s (is_aload_n rfl rfl) ?_
      refine ev_s (is_iload_n rfl rfl) ?_
      refine ev_s (is_iconst (nI 4) rfl rfl) ?_
      refine ev_icmpN_le rfl (by omega) (by omega) (fun h_312 => ?_) (fun h_312 => ?_)
      · refine ev_s (is_iconst (nI 1) rfl rfl) ?_
        refine ev_s (is_putI rfl (pu_s hC 110 rfl rfl) rfl rfl rfl) ?_
        refine ev_s (is_goto rfl) ?_
        refine ev_ret (is_return rfl) ?_
        obtain ⟨e1, e2, e3⟩ := tk_num (tb := tb) (z := z) (p := p) hfz hlf hdf
        rw [← hiE, Nat.add_sub_cancel_left] at e1 e2
        first
          | rw [if_pos (by omega)] at e1
          | rw [if_neg (by omega)] at e1
        refine ⟨rfl, rfl, rn_u hn (by decide), by rw [e3, ← hiE]; exact ((im_u_j _ _ _ _ (by decide)).trans h18), ((im_u_j _ _ _ _ (by decide)).trans g19), ?_, ?_, ?_⟩
        · rw [im_u_s, e1]; rfl
        · intro hk
          rw [e1] at hk
          first
            | (exfalso; omega)
            | (rw [im_u_j _ _ _ _ (by decide), g21, if_pos (by omega), e2, show Nat.min 4 n = n from Nat.min_eq_right (by omega)])
        · intro hk1 hk2
          rw [e1] at hk1 hk2
          omega
      · refine ev_s (is_iconst ((-1)) rfl rfl) ?_
        refine ev_s (is_goto rfl) ?_
        refine ev_s (is_putI rfl (pu_s hC 110 rfl rfl) rfl rfl rfl) ?_
        refine ev_s (is_goto rfl) ?_
        refine ev_ret (is_return rfl) ?_
        obtain ⟨e1, e2, e3⟩ := tk_num (tb := tb) (z := z) (p := p) hfz hlf hdf
        rw [← hiE, Nat.add_sub_cancel_left] at e1 e2
        first
          | rw [if_pos (by omega)] at e1
          | rw [if_neg (by omega)] at e1
        refine ⟨rfl, rfl, rn_u hn (by decide), by rw [e3, ← hiE]; exact ((im_u_j _ _ _ _ (by decide)).trans h18), ((im_u_j _ _ _ _ (by decide)).trans g19), ?_, ?_, ?_⟩
        · rw [im_u_s, e1]; rfl
        · intro hk
          rw [e1] at hk
          first
            | (exfalso; omega)
            | (rw [im_u_j _ _ _ _ (by decide), g21, if_pos (by omega), e2, show Nat.min 4 n = n from Nat.min_eq_right (by omega)])
        · intro hk1 hk2
          rw [e1] at hk1 hk2
          omega
    | succ j ih =>
      intro n mb hij hiz hn h18 g19 g21 hl
      have hTa := re_M_n hT hn
      refine ev_s (is_aload_n rfl rfl) ?_
      refine ev_s (is_getI' rfl (pu_s hC 110 rfl rfl) rfl rfl h18) ?_
      refine ev_s (is_aload_n rfl rfl) ?_
      refine ev_s (is_getI' rfl (pu_s hC 110 rfl rfl) rfl rfl hTa.1) ?_
      refine ev_s (is_icmp_ge_f rfl (nI_ge (by omega) (by omega))) ?_
      refine ev_s (is_aload_n rfl rfl) ?_
      refine ev_s (is_getR rfl (pu_s hC 110 rfl rfl) rfl rfl (pu_r hC 110 5 rfl rfl)) ?_
      refine ev_s (is_aload_n rfl rfl) ?_
      refine ev_s (is_getI' rfl (pu_s hC 110 rfl rfl) rfl rfl h18) ?_
      refine ev_s (is_iaload' ((tk_f tb z p) + n) rfl (pu_s hC 114 rfl rfl) rfl rfl (by omega) (hTa.2.1 _ (by omega))) ?_
      refine ev_s (is_bipush (nI 48) rfl rfl) ?_
      refine ev_s (is_bipush (nI 57) rfl rfl) ?_
      refine ev_c1 (is_call0 3 [_, _, _] [] rfl rfl rfl rfl rfl (Nat.le_of_ble_eq_true rfl) rfl rfl rfl) rfl rfl (r_in' _ _ _) ?_
      refine ev_ifB_eq rfl (fun h_257 => ?_) (fun h_257 => ?_)
      · have hE : lx_to (lx_dg tb z) ((tk_f tb z p) + n) = (tk_f tb z p) + n := lx_to_f (decide_eq_false (fun q => h_257 ((lx_r hT.2.2.2.1 (by decide) (by decide)).mpr q.2)))
        have hiE : (tk_f tb z p) + n = (lx_to (lx_dg tb z) (tk_f tb z p)) := by rw [← hE]; exact hl
        refine ev_s (is_aload_n rfl rfl) ?_
        refine ev_s (is_iload_n rfl rfl) ?_
        refine ev_s (is_iconst (nI 4) rfl rfl) ?_
        refine ev_icmpN_le rfl (by omega) (by omega) (fun h_312 => ?_) (fun h_312 => ?_)
        · refine ev_s (is_iconst (nI 1) rfl rfl) ?_
          refine ev_s (is_putI rfl (pu_s hC 110 rfl rfl) rfl rfl rfl) ?_
          refine ev_s (is_goto rfl) ?_
          refine ev_ret (is_return rfl) ?_
          obtain ⟨e1, e2, e3⟩ := tk_num (tb := tb) (z := z) (p := p) hfz hlf hdf
          rw [← hiE, Nat.add_sub_cancel_left] at e1 e2
          first
            | rw [if_pos (by omega)] at e1
            | rw [if_neg (by omega)] at e1
          refine ⟨rfl, rfl, rn_u hn (by decide), by rw [e3, ← hiE]; exact ((im_u_j _ _ _ _ (by decide)).trans h18), ((im_u_j _ _ _ _ (by decide)).trans g19), ?_, ?_, ?_⟩
          · rw [im_u_s, e1]; rfl
          · intro hk
            rw [e1] at hk
            first
              | (exfalso; omega)
              | (rw [im_u_j _ _ _ _ (by decide), g21, if_pos (by omega), e2, show Nat.min 4 n = n from Nat.min_eq_right (by omega)])
          · intro hk1 hk2
            rw [e1] at hk1 hk2
            omega
        · refine ev_s (is_iconst ((-1)) rfl rfl) ?_
          refine ev_s (is_goto rfl) ?_
          refine ev_s (is_putI rfl (pu_s hC 110 rfl rfl) rfl rfl rfl) ?_
          refine ev_s (is_goto rfl) ?_
          refine ev_ret (is_return rfl) ?_
          obtain ⟨e1, e2, e3⟩ := tk_num (tb := tb) (z := z) (p := p) hfz hlf hdf
          rw [← hiE, Nat.add_sub_cancel_left] at e1 e2
          first
            | rw [if_pos (by omega)] at e1
            | rw [if_neg (by omega)] at e1
          refine ⟨rfl, rfl, rn_u hn (by decide), by rw [e3, ← hiE]; exact ((im_u_j _ _ _ _ (by decide)).trans h18), ((im_u_j _ _ _ _ (by decide)).trans g19), ?_, ?_, ?_⟩
          · rw [im_u_s, e1]; rfl
          · intro hk
            rw [e1] at hk
            first
              | (exfalso; omega)
              | (rw [im_u_j _ _ _ _ (by decide), g21, if_pos (by omega), e2, show Nat.min 4 n = n from Nat.min_eq_right (by omega)])
          · intro hk1 hk2
            rw [e1] at hk1 hk2
            omega
      · have h48 := (lx_r hT.2.2.2.1 (by decide) (by decide)).mp h_257
        refine ev_s (is_aload_n rfl rfl) ?_
        refine ev_s (is_iload_n rfl rfl) ?_
        refine ev_s (is_iconst (nI 4) rfl rfl) ?_
        refine ev_icmpN_ge rfl (by omega) (by omega) (fun h_263 => ?_) (fun h_263 => ?_)
        · refine ev_s (is_iconst (nI 0) rfl rfl) ?_
          refine ev_s (is_putI rfl (pu_s hC 110 rfl rfl) rfl rfl rfl) ?_
          refine ev_s (st_iinc_2 _ rfl rfl (nI_inc _)) ?_
          refine ev_s (is_aload_n rfl rfl) ?_
          refine ev_s (is_dup rfl rfl) ?_
          refine ev_s (is_getI' rfl (pu_s hC 110 rfl rfl) rfl rfl ((im_u_j _ _ _ _ (by decide)).trans h18)) ?_
          refine ev_s (is_iconst (nI 1) rfl rfl) ?_
          first
            | refine ev_s (is_iadd _ rfl (nI_add _ _)) ?_
            | refine ev_s (is_iadd _ rfl rfl) ?_
          refine ev_s (is_putI rfl (pu_s hC 110 rfl rfl) rfl rfl rfl) ?_
          refine ev_s (is_goto rfl) ?_
          have hg : lx_dg tb z ((tk_f tb z p) + n) = true := decide_eq_true ⟨by omega, h48⟩
          first
            | exact ih (n + 1) _ (by omega) (by omega) (rn_u (rn_u hn (by decide)) (by decide)) (im_u_s _ _ _ _) ((im_u_j _ _ _ _ (by decide)).trans ((im_u_j _ _ _ _ (by decide)).trans g19)) (by rw [im_u_j _ _ _ _ (by decide), im_u_s, if_pos (by omega), lx_num]; exact congrArg nI (by omega)) (by rw [← hl, lx_to_t (by omega) hg]; rfl)
            | exact ih (n + 1) _ (by omega) (by omega) (rn_u (rn_u hn (by decide)) (by decide)) (im_u_s _ _ _ _) ((im_u_j _ _ _ _ (by decide)).trans ((im_u_j _ _ _ _ (by decide)).trans g19)) (by rw [im_u_j _ _ _ _ (by decide), im_u_s, if_neg (by omega)]) (by rw [← hl, lx_to_t (by omega) hg]; rfl)
        · have g21b : mb 110 21 = nI (lx_num tb (tk_f tb z p) n) := by rw [g21, if_pos (by omega)]
          refine ev_s (is_bipush (nI 10) rfl rfl) ?_
          refine ev_s (is_aload_n rfl rfl) ?_
          refine ev_s (is_getI' rfl (pu_s hC 110 rfl rfl) rfl rfl g21b) ?_
          refine ev_s (is_imul _ rfl (pk_mul _ _)) ?_
          refine ev_s (is_aload_n rfl rfl) ?_
          refine ev_s (is_getR rfl (pu_s hC 110 rfl rfl) rfl rfl (pu_r hC 110 5 rfl rfl)) ?_
          refine ev_s (is_aload_n rfl rfl) ?_
          refine ev_s (is_getI' rfl (pu_s hC 110 rfl rfl) rfl rfl h18) ?_
          refine ev_s (is_iaload' ((tk_f tb z p) + n) rfl (pu_s hC 114 rfl rfl) rfl rfl (by omega) (hTa.2.1 _ (by omega))) ?_
          refine ev_s (is_iadd _ rfl (nI_add _ _)) ?_
          refine ev_s (is_bipush (nI 48) rfl rfl) ?_
          refine ev_s (is_isub _ rfl (pk_sub (by omega))) ?_
          refine ev_s (is_goto rfl) ?_
          refine ev_s (is_putI rfl (pu_s hC 110 rfl rfl) rfl rfl rfl) ?_
          refine ev_s (st_iinc_2 _ rfl rfl (nI_inc _)) ?_
          refine ev_s (is_aload_n rfl rfl) ?_
          refine ev_s (is_dup rfl rfl) ?_
          refine ev_s (is_getI' rfl (pu_s hC 110 rfl rfl) rfl rfl ((im_u_j _ _ _ _ (by decide)).trans h18)) ?_
          refine ev_s (is_iconst (nI 1) rfl rfl) ?_
          first
            | refine ev_s (is_iadd _ rfl (nI_add _ _)) ?_
            | refine ev_s (is_iadd _ rfl rfl) ?_
          refine ev_s (is_putI rfl (pu_s hC 110 rfl rfl) rfl rfl rfl) ?_
          refine ev_s (is_goto rfl) ?_
          have hg : lx_dg tb z ((tk_f tb z p) + n) = true := decide_eq_true ⟨by omega, h48⟩
          first
            | exact ih (n + 1) _ (by omega) (by omega) (rn_u (rn_u hn (by decide)) (by decide)) (im_u_s _ _ _ _) ((im_u_j _ _ _ _ (by decide)).trans ((im_u_j _ _ _ _ (by decide)).trans g19)) (by rw [im_u_j _ _ _ _ (by decide), im_u_s, if_pos (by omega), lx_num]; exact congrArg nI (by omega)) (by rw [← hl, lx_to_t (by omega) hg]; rfl)
            | exact ih (n + 1) _ (by omega) (by omega) (rn_u (rn_u hn (by decide)) (by decide)) (im_u_s _ _ _ _) ((im_u_j _ _ _ _ (by decide)).trans ((im_u_j _ _ _ _ (by decide)).trans g19)) (by rw [im_u_j _ _ _ _ (by decide), im_u_s, if_neg (by omega)]) (by rw [← hl, lx_to_t (by omega) hg]; rfl)
  have second : ∀ (ma : im_MI), rn_ mi ma → ma 110 18 = nI (tk_f tb z p) → Ev (d + 2) 140 52 [.ref 110, im_bad, im_bad] [] sh ma mr (fun r sh2 m2 r2 => sh2 = sh ∧ (r2 = mr ∧ rn_ mi m2 ∧ rk_ tb z m2 p)) := by
    intro ma hn h18
    have hn3 : rn_ mi (im_u (im_u (im_u ma 110 19 (nI (tk_f tb z p))) 110 20 (nI 0)) 110 21 (nI 0)) := rn_u (rn_u (rn_u hn (by decide)) (by decide)) (by decide)
    have hT3 := re_M_n hT hn3
    have k19 : im_u (im_u (im_u ma 110 19 (nI (tk_f tb z p))) 110 20 (nI 0)) 110 21 (nI 0) 110 19 = nI (tk_f tb z p) := ((im_u_j _ _ _ _ (by decide)).trans ((im_u_j _ _ _ _ (by decide)).trans (im_u_s _ _ _ _)))
    have hb := hT.2.2.2.1 (tk_f tb z p)
    refine ev_s (is_aload_n rfl rfl) ?_
    refine ev_s (is_aload_n rfl rfl) ?_
    refine ev_s (is_getI' rfl (pu_s hC 110 rfl rfl) rfl rfl h18) ?_
    refine ev_s (is_putI rfl (pu_s hC 110 rfl rfl) rfl rfl rfl) ?_
    refine ev_s (is_aload_n rfl rfl) ?_
    refine ev_s (is_iconst (nI 0) rfl rfl) ?_
    refine ev_s (is_putI rfl (pu_s hC 110 rfl rfl) rfl rfl rfl) ?_
    refine ev_s (is_aload_n rfl rfl) ?_
    refine ev_s (is_iconst (nI 0) rfl rfl) ?_
    refine ev_s (is_putI rfl (pu_s hC 110 rfl rfl) rfl rfl rfl) ?_
    refine ev_s (is_aload_n rfl rfl) ?_
    refine ev_s (is_getI' rfl (pu_s hC 110 rfl rfl) rfl rfl ((im_u_j _ _ _ _ (by decide)).trans ((im_u_j _ _ _ _ (by decide)).trans ((im_u_j _ _ _ _ (by decide)).trans h18)))) ?_
    refine ev_s (is_aload_n rfl rfl) ?_
    refine ev_s (is_getI' rfl (pu_s hC 110 rfl rfl) rfl rfl hT3.1) ?_
    refine ev_icmpN_ne rfl (by omega) (by omega) (fun h_78 => ?_) (fun h_78 => ?_)
    · refine ev_s (is_aload_n rfl rfl) ?_
      refine ev_s (is_getR rfl (pu_s hC 110 rfl rfl) rfl rfl (pu_r hC 110 5 rfl rfl)) ?_
      refine ev_s (is_aload_n rfl rfl) ?_
      refine ev_s (is_getI' rfl (pu_s hC 110 rfl rfl) rfl rfl ((im_u_j _ _ _ _ (by decide)).trans ((im_u_j _ _ _ _ (by decide)).trans ((im_u_j _ _ _ _ (by decide)).trans h18)))) ?_
      refine ev_s (is_iaload' (tk_f tb z p) rfl (pu_s hC 114 rfl rfl) rfl rfl (by omega) (hT3.2.1 _ (by omega))) ?_
      refine ev_s (st_istore_n_1 rfl rfl) ?_
      refine ev_s (is_iload_n rfl rfl) ?_
      refine ev_s (is_bipush (nI 97) rfl rfl) ?_
      refine ev_s (is_bipush (nI 122) rfl rfl) ?_
      refine ev_c1 (is_call0 3 [_, _, _] [] rfl rfl rfl rfl rfl (Nat.le_of_ble_eq_true rfl) rfl rfl rfl) rfl rfl (r_in' _ _ _) ?_
      refine ev_ifB_eq rfl (fun h_100 => ?_) (fun h_100 => ?_)
      · refine ev_s (is_iload_n rfl rfl) ?_
        refine ev_s (is_bipush (nI 48) rfl rfl) ?_
        refine ev_s (is_bipush (nI 57) rfl rfl) ?_
        refine ev_c1 (is_call0 3 [_, _, _] [] rfl rfl rfl rfl rfl (Nat.le_of_ble_eq_true rfl) rfl rfl rfl) rfl rfl (r_in' _ _ _) ?_
        refine ev_ifB_eq rfl (fun h_225 => ?_) (fun h_225 => ?_)
        · have hlf : ¬ lx_lt tb z (tk_f tb z p) = true := fun q => h_100 ((lx_r hT.2.2.2.1 (by decide) (by decide)).mpr (of_decide_eq_true q).2)
          have hdf : ¬ lx_dg tb z (tk_f tb z p) = true := fun q => h_225 ((lx_r hT.2.2.2.1 (by decide) (by decide)).mpr (of_decide_eq_true q).2)
          refine ev_s (is_iload_n rfl rfl) ?_
          refine ev_s (is_bipush (nI 40) rfl rfl) ?_
          refine ev_icmpN_eq rfl (by omega) (by omega) (fun h_329 => ?_) (fun h_329 => ?_)
          · refine ev_s (is_iconst (nI 1) rfl rfl) ?_
            refine ev_s (is_goto rfl) ?_
            refine ev_s (st_istore_n_2 rfl rfl) ?_
            refine ev_s (is_aload_n rfl rfl) ?_
            refine ev_s (is_iload_n rfl rfl) ?_
            refine ev_s (is_if_eq_f rfl (by decide)) ?_
            refine ev_s (is_iload_n rfl rfl) ?_
            refine ev_s (is_goto rfl) ?_
            refine ev_s (is_putI rfl (pu_s hC 110 rfl rfl) rfl rfl rfl) ?_
            refine ev_s (is_aload_n rfl rfl) ?_
            refine ev_s (is_dup rfl rfl) ?_
            refine ev_s (is_getI' rfl (pu_s hC 110 rfl rfl) rfl rfl ((im_u_j _ _ _ _ (by decide)).trans ((im_u_j _ _ _ _ (by decide)).trans ((im_u_j _ _ _ _ (by decide)).trans ((im_u_j _ _ _ _ (by decide)).trans h18))))) ?_
            refine ev_s (is_iconst (nI 1) rfl rfl) ?_
            first
              | refine ev_s (is_iadd _ rfl (nI_add _ _)) ?_
              | refine ev_s (is_iadd _ rfl rfl) ?_
            refine ev_s (is_putI rfl (pu_s hC 110 rfl rfl) rfl rfl rfl) ?_
            refine ev_ret (is_return rfl) ?_
            obtain ⟨e1, e2, e3⟩ := tk_sign (tb := tb) (z := z) (p := p) (by omega) hlf hdf
            have hsg : lx_sg (tb (tk_f tb z p)) = true := decide_eq_true (by omega)
            rw [if_pos hsg] at e1
            refine ⟨rfl, rfl, rn_u (rn_u hn3 (by decide)) (by decide), by rw [im_u_s, e3], ((im_u_j _ _ _ _ (by decide)).trans ((im_u_j _ _ _ _ (by decide)).trans k19)), ?_, ?_, ?_⟩
            · rw [im_u_j _ _ _ _ (by decide), im_u_s, e1]
              first
                | rfl
                | exact (rt_hi (k := tb (tk_f tb z p)) (by omega)).symm
            · intro hk
              rw [e1] at hk
              omega
            · intro hk1 hk2
              rw [e1] at hk1 hk2
              omega
          · refine ev_s (is_iload_n rfl rfl) ?_
            refine ev_s (is_bipush (nI 41) rfl rfl) ?_
            refine ev_icmpN_eq rfl (by omega) (by omega) (fun h_335 => ?_) (fun h_335 => ?_)
            · refine ev_s (is_iconst (nI 1) rfl rfl) ?_
              refine ev_s (is_goto rfl) ?_
              refine ev_s (st_istore_n_2 rfl rfl) ?_
              refine ev_s (is_aload_n rfl rfl) ?_
              refine ev_s (is_iload_n rfl rfl) ?_
              refine ev_s (is_if_eq_f rfl (by decide)) ?_
              refine ev_s (is_iload_n rfl rfl) ?_
              refine ev_s (is_goto rfl) ?_
              refine ev_s (is_putI rfl (pu_s hC 110 rfl rfl) rfl rfl rfl) ?_
              refine ev_s (is_aload_n rfl rfl) ?_
              refine ev_s (is_dup rfl rfl) ?_
              refine ev_s (is_getI' rfl (pu_s hC 110 rfl rfl) rfl rfl ((im_u_j _ _ _ _ (by decide)).trans ((im_u_j _ _ _ _ (by decide)).trans ((im_u_j _ _ _ _ (by decide)).trans ((im_u_j _ _ _ _ (by decide)).trans h18))))) ?_
              refine ev_s (is_iconst (nI 1) rfl rfl) ?_
              first
                | refine ev_s (is_iadd _ rfl (nI_add _ _)) ?_
                | refine ev_s (is_iadd _ rfl rfl) ?_
              refine ev_s (is_putI rfl (pu_s hC 110 rfl rfl) rfl rfl rfl) ?_
              refine ev_ret (is_return rfl) ?_
              obtain ⟨e1, e2, e3⟩ := tk_sign (tb := tb) (z := z) (p := p) (by omega) hlf hdf
              have hsg : lx_sg (tb (tk_f tb z p)) = true := decide_eq_true (by omega)
              rw [if_pos hsg] at e1
              refine ⟨rfl, rfl, rn_u (rn_u hn3 (by decide)) (by decide), by rw [im_u_s, e3], ((im_u_j _ _ _ _ (by decide)).trans ((im_u_j _ _ _ _ (by decide)).trans k19)), ?_, ?_, ?_⟩
              · rw [im_u_j _ _ _ _ (by decide), im_u_s, e1]
                first
                  | rfl
                  | exact (rt_hi (k := tb (tk_f tb z p)) (by omega)).symm
              · intro hk
                rw [e1] at hk
                omega
              · intro hk1 hk2
                rw [e1] at hk1 hk2
                omega
            · refine ev_s (is_iload_n rfl rfl) ?_
              refine ev_s (is_bipush (nI 59) rfl rfl) ?_
              refine ev_icmpN_eq rfl (by omega) (by omega) (fun h_341 => ?_) (fun h_341 => ?_)
              · refine ev_s (is_iconst (nI 1) rfl rfl) ?_
                refine ev_s (is_goto rfl) ?_
                refine ev_s (st_istore_n_2 rfl rfl) ?_
                refine ev_s (is_aload_n rfl rfl) ?_
                refine ev_s (is_iload_n rfl rfl) ?_
                refine ev_s (is_if_eq_f rfl (by decide)) ?_
                refine ev_s (is_iload_n rfl rfl) ?_
                refine ev_s (is_goto rfl) ?_
                refine ev_s (is_putI rfl (pu_s hC 110 rfl rfl) rfl rfl rfl) ?_
                refine ev_s (is_aload_n rfl rfl) ?_
                refine ev_s (is_dup rfl rfl) ?_
                refine ev_s (is_getI' rfl (pu_s hC 110 rfl rfl) rfl rfl ((im_u_j _ _ _ _ (by decide)).trans ((im_u_j _ _ _ _ (by decide)).trans ((im_u_j _ _ _ _ (by decide)).trans ((im_u_j _ _ _ _ (by decide)).trans h18))))) ?_
                refine ev_s (is_iconst (nI 1) rfl rfl) ?_
                first
                  | refine ev_s (is_iadd _ rfl (nI_add _ _)) ?_
                  | refine ev_s (is_iadd _ rfl rfl) ?_
                refine ev_s (is_putI rfl (pu_s hC 110 rfl rfl) rfl rfl rfl) ?_
                refine ev_ret (is_return rfl) ?_
                obtain ⟨e1, e2, e3⟩ := tk_sign (tb := tb) (z := z) (p := p) (by omega) hlf hdf
                have hsg : lx_sg (tb (tk_f tb z p)) = true := decide_eq_true (by omega)
                rw [if_pos hsg] at e1
                refine ⟨rfl, rfl, rn_u (rn_u hn3 (by decide)) (by decide), by rw [im_u_s, e3], ((im_u_j _ _ _ _ (by decide)).trans ((im_u_j _ _ _ _ (by decide)).trans k19)), ?_, ?_, ?_⟩
                · rw [im_u_j _ _ _ _ (by decide), im_u_s, e1]
                  first
                    | rfl
                    | exact (rt_hi (k := tb (tk_f tb z p)) (by omega)).symm
                · intro hk
                  rw [e1] at hk
                  omega
                · intro hk1 hk2
                  rw [e1] at hk1 hk2
                  omega
              · refine ev_s (is_iload_n rfl rfl) ?_
                refine ev_s (is_bipush (nI 43) rfl rfl) ?_
                refine ev_icmpN_eq rfl (by omega) (by omega) (fun h_347 => ?_) (fun h_347 => ?_)
                · refine ev_s (is_iconst (nI 1) rfl rfl) ?_
                  refine ev_s (is_goto rfl) ?_
                  refine ev_s (st_istore_n_2 rfl rfl) ?_
                  refine ev_s (is_aload_n rfl rfl) ?_
                  refine ev_s (is_iload_n rfl rfl) ?_
                  refine ev_s (is_if_eq_f rfl (by decide)) ?_
                  refine ev_s (is_iload_n rfl rfl) ?_
                  refine ev_s (is_goto rfl) ?_
                  refine ev_s (is_putI rfl (pu_s hC 110 rfl rfl) rfl rfl rfl) ?_
                  refine ev_s (is_aload_n rfl rfl) ?_
                  refine ev_s (is_dup rfl rfl) ?_
                  refine ev_s (is_getI' rfl (pu_s hC 110 rfl rfl) rfl rfl ((im_u_j _ _ _ _ (by decide)).trans ((im_u_j _ _ _ _ (by decide)).trans ((im_u_j _ _ _ _ (by decide)).trans ((im_u_j _ _ _ _ (by decide)).trans h18))))) ?_
                  refine ev_s (is_iconst (nI 1) rfl rfl) ?_
                  first
                    | refine ev_s (is_iadd _ rfl (nI_add _ _)) ?_
                    | refine ev_s (is_iadd _ rfl rfl) ?_
                  refine ev_s (is_putI rfl (pu_s hC 110 rfl rfl) rfl rfl rfl) ?_
                  refine ev_ret (is_return rfl) ?_
                  obtain ⟨e1, e2, e3⟩ := tk_sign (tb := tb) (z := z) (p := p) (by omega) hlf hdf
                  have hsg : lx_sg (tb (tk_f tb z p)) = true := decide_eq_true (by omega)
                  rw [if_pos hsg] at e1
                  refine ⟨rfl, rfl, rn_u (rn_u hn3 (by decide)) (by decide), by rw [im_u_s, e3], ((im_u_j _ _ _ _ (by decide)).trans ((im_u_j _ _ _ _ (by decide)).trans k19)), ?_, ?_, ?_⟩
                  · rw [im_u_j _ _ _ _ (by decide), im_u_s, e1]
                    first
                      | rfl
                      | exact (rt_hi (k := tb (tk_f tb z p)) (by omega)).symm
                  · intro hk
                    rw [e1] at hk
                    omega
                  · intro hk1 hk2
                    rw [e1] at hk1 hk2
                    omega
                · refine ev_s (is_iload_n rfl rfl) ?_
                  refine ev_s (is_bipush (nI 45) rfl rfl) ?_
                  refine ev_icmpN_eq rfl (by omega) (by omega) (fun h_353 => ?_) (fun h_353 => ?_)
                  · refine ev_s (is_iconst (nI 1) rfl rfl) ?_
                    refine ev_s (is_goto rfl) ?_
                    refine ev_s (st_istore_n_2 rfl rfl) ?_
                    refine ev_s (is_aload_n rfl rfl) ?_
                    refine ev_s (is_iload_n rfl rfl) ?_
                    refine ev_s (is_if_eq_f rfl (by decide)) ?_
                    refine ev_s (is_iload_n rfl rfl) ?_
                    refine ev_s (is_goto rfl) ?_
                    refine ev_s (is_putI rfl (pu_s hC 110 rfl rfl) rfl rfl rfl) ?_
                    refine ev_s (is_aload_n rfl rfl) ?_
                    refine ev_s (is_dup rfl rfl) ?_
                    refine ev_s (is_getI' rfl (pu_s hC 110 rfl rfl) rfl rfl ((im_u_j _ _ _ _ (by decide)).trans ((im_u_j _ _ _ _ (by decide)).trans ((im_u_j _ _ _ _ (by decide)).trans ((im_u_j _ _ _ _ (by decide)).trans h18))))) ?_
                    refine ev_s (is_iconst (nI 1) rfl rfl) ?_
                    first
                      | refine ev_s (is_iadd _ rfl (nI_add _ _)) ?_
                      | refine ev_s (is_iadd _ rfl rfl) ?_
                    refine ev_s (is_putI rfl (pu_s hC 110 rfl rfl) rfl rfl rfl) ?_
                    refine ev_ret (is_return rfl) ?_
                    obtain ⟨e1, e2, e3⟩ := tk_sign (tb := tb) (z := z) (p := p) (by omega) hlf hdf
                    have hsg : lx_sg (tb (tk_f tb z p)) = true := decide_eq_true (by omega)
                    rw [if_pos hsg] at e1
                    refine ⟨rfl, rfl, rn_u (rn_u hn3 (by decide)) (by decide), by rw [im_u_s, e3], ((im_u_j _ _ _ _ (by decide)).trans ((im_u_j _ _ _ _ (by decide)).trans k19)), ?_, ?_, ?_⟩
                    · rw [im_u_j _ _ _ _ (by decide), im_u_s, e1]
                      first
                        | rfl
                        | exact (rt_hi (k := tb (tk_f tb z p)) (by omega)).symm
                    · intro hk
                      rw [e1] at hk
                      omega
                    · intro hk1 hk2
                      rw [e1] at hk1 hk2
                      omega
                  · refine ev_s (is_iload_n rfl rfl) ?_
                    refine ev_s (is_bipush (nI 42) rfl rfl) ?_
                    refine ev_icmpN_eq rfl (by omega) (by omega) (fun h_359 => ?_) (fun h_359 => ?_)
                    · refine ev_s (is_iconst (nI 1) rfl rfl) ?_
                      refine ev_s (is_goto rfl) ?_
                      refine ev_s (st_istore_n_2 rfl rfl) ?_
                      refine ev_s (is_aload_n rfl rfl) ?_
                      refine ev_s (is_iload_n rfl rfl) ?_
                      refine ev_s (is_if_eq_f rfl (by decide)) ?_
                      refine ev_s (is_iload_n rfl rfl) ?_
                      refine ev_s (is_goto rfl) ?_
                      refine ev_s (is_putI rfl (pu_s hC 110 rfl rfl) rfl rfl rfl) ?_
                      refine ev_s (is_aload_n rfl rfl) ?_
                      refine ev_s (is_dup rfl rfl) ?_
                      refine ev_s (is_getI' rfl (pu_s hC 110 rfl rfl) rfl rfl ((im_u_j _ _ _ _ (by decide)).trans ((im_u_j _ _ _ _ (by decide)).trans ((im_u_j _ _ _ _ (by decide)).trans ((im_u_j _ _ _ _ (by decide)).trans h18))))) ?_
                      refine ev_s (is_iconst (nI 1) rfl rfl) ?_
                      first
                        | refine ev_s (is_iadd _ rfl (nI_add _ _)) ?_
                        | refine ev_s (is_iadd _ rfl rfl) ?_
                      refine ev_s (is_putI rfl (pu_s hC 110 rfl rfl) rfl rfl rfl) ?_
                      refine ev_ret (is_return rfl) ?_
                      obtain ⟨e1, e2, e3⟩ := tk_sign (tb := tb) (z := z) (p := p) (by omega) hlf hdf
                      have hsg : lx_sg (tb (tk_f tb z p)) = true := decide_eq_true (by omega)
                      rw [if_pos hsg] at e1
                      refine ⟨rfl, rfl, rn_u (rn_u hn3 (by decide)) (by decide), by rw [im_u_s, e3], ((im_u_j _ _ _ _ (by decide)).trans ((im_u_j _ _ _ _ (by decide)).trans k19)), ?_, ?_, ?_⟩
                      · rw [im_u_j _ _ _ _ (by decide), im_u_s, e1]
                        first
                          | rfl
                          | exact (rt_hi (k := tb (tk_f tb z p)) (by omega)).symm
                      · intro hk
                        rw [e1] at hk
                        omega
                      · intro hk1 hk2
                        rw [e1] at hk1 hk2
                        omega
                    · refine ev_s (is_iload_n rfl rfl) ?_
                      refine ev_s (is_bipush (nI 60) rfl rfl) ?_
                      refine ev_icmpN_eq rfl (by omega) (by omega) (fun h_365 => ?_) (fun h_365 => ?_)
                      · refine ev_s (is_iconst (nI 1) rfl rfl) ?_
                        refine ev_s (is_goto rfl) ?_
                        refine ev_s (st_istore_n_2 rfl rfl) ?_
                        refine ev_s (is_aload_n rfl rfl) ?_
                        refine ev_s (is_iload_n rfl rfl) ?_
                        refine ev_s (is_if_eq_f rfl (by decide)) ?_
                        refine ev_s (is_iload_n rfl rfl) ?_
                        refine ev_s (is_goto rfl) ?_
                        refine ev_s (is_putI rfl (pu_s hC 110 rfl rfl) rfl rfl rfl) ?_
                        refine ev_s (is_aload_n rfl rfl) ?_
                        refine ev_s (is_dup rfl rfl) ?_
                        refine ev_s (is_getI' rfl (pu_s hC 110 rfl rfl) rfl rfl ((im_u_j _ _ _ _ (by decide)).trans ((im_u_j _ _ _ _ (by decide)).trans ((im_u_j _ _ _ _ (by decide)).trans ((im_u_j _ _ _ _ (by decide)).trans h18))))) ?_
                        refine ev_s (is_iconst (nI 1) rfl rfl) ?_
                        first
                          | refine ev_s (is_iadd _ rfl (nI_add _ _)) ?_
                          | refine ev_s (is_iadd _ rfl rfl) ?_
                        refine ev_s (is_putI rfl (pu_s hC 110 rfl rfl) rfl rfl rfl) ?_
                        refine ev_ret (is_return rfl) ?_
                        obtain ⟨e1, e2, e3⟩ := tk_sign (tb := tb) (z := z) (p := p) (by omega) hlf hdf
                        have hsg : lx_sg (tb (tk_f tb z p)) = true := decide_eq_true (by omega)
                        rw [if_pos hsg] at e1
                        refine ⟨rfl, rfl, rn_u (rn_u hn3 (by decide)) (by decide), by rw [im_u_s, e3], ((im_u_j _ _ _ _ (by decide)).trans ((im_u_j _ _ _ _ (by decide)).trans k19)), ?_, ?_, ?_⟩
                        · rw [im_u_j _ _ _ _ (by decide), im_u_s, e1]
                          first
                            | rfl
                            | exact (rt_hi (k := tb (tk_f tb z p)) (by omega)).symm
                        · intro hk
                          rw [e1] at hk
                          omega
                        · intro hk1 hk2
                          rw [e1] at hk1 hk2
                          omega
                      · refine ev_s (is_iload_n rfl rfl) ?_
                        refine ev_s (is_bipush (nI 61) rfl rfl) ?_
                        refine ev_icmpN_ne rfl (by omega) (by omega) (fun h_371 => ?_) (fun h_371 => ?_)
                        · refine ev_s (is_iconst (nI 0) rfl rfl) ?_
                          refine ev_s (st_istore_n_2 rfl rfl) ?_
                          refine ev_s (is_aload_n rfl rfl) ?_
                          refine ev_s (is_iload_n rfl rfl) ?_
                          refine ev_s (is_if_eq_t rfl (by decide)) ?_
                          refine ev_s (is_iconst ((-1)) rfl rfl) ?_
                          refine ev_s (is_putI rfl (pu_s hC 110 rfl rfl) rfl rfl rfl) ?_
                          refine ev_s (is_aload_n rfl rfl) ?_
                          refine ev_s (is_dup rfl rfl) ?_
                          refine ev_s (is_getI' rfl (pu_s hC 110 rfl rfl) rfl rfl ((im_u_j _ _ _ _ (by decide)).trans ((im_u_j _ _ _ _ (by decide)).trans ((im_u_j _ _ _ _ (by decide)).trans ((im_u_j _ _ _ _ (by decide)).trans h18))))) ?_
                          refine ev_s (is_iconst (nI 1) rfl rfl) ?_
                          first
                            | refine ev_s (is_iadd _ rfl (nI_add _ _)) ?_
                            | refine ev_s (is_iadd _ rfl rfl) ?_
                          refine ev_s (is_putI rfl (pu_s hC 110 rfl rfl) rfl rfl rfl) ?_
                          refine ev_ret (is_return rfl) ?_
                          obtain ⟨e1, e2, e3⟩ := tk_sign (tb := tb) (z := z) (p := p) (by omega) hlf hdf
                          have hsg : ¬ lx_sg (tb (tk_f tb z p)) = true := fun q => by have := of_decide_eq_true q; omega
                          rw [if_neg hsg] at e1
                          refine ⟨rfl, rfl, rn_u (rn_u hn3 (by decide)) (by decide), by rw [im_u_s, e3], ((im_u_j _ _ _ _ (by decide)).trans ((im_u_j _ _ _ _ (by decide)).trans k19)), ?_, ?_, ?_⟩
                          · rw [im_u_j _ _ _ _ (by decide), im_u_s, e1]
                            first
                              | rfl
                              | exact (rt_hi (k := tb (tk_f tb z p)) (by omega)).symm
                          · intro hk
                            rw [e1] at hk
                            omega
                          · intro hk1 hk2
                            rw [e1] at hk1 hk2
                            omega
                        · refine ev_s (is_iconst (nI 1) rfl rfl) ?_
                          refine ev_s (is_goto rfl) ?_
                          refine ev_s (st_istore_n_2 rfl rfl) ?_
                          refine ev_s (is_aload_n rfl rfl) ?_
                          refine ev_s (is_iload_n rfl rfl) ?_
                          refine ev_s (is_if_eq_f rfl (by decide)) ?_
                          refine ev_s (is_iload_n rfl rfl) ?_
                          refine ev_s (is_goto rfl) ?_
                          refine ev_s (is_putI rfl (pu_s hC 110 rfl rfl) rfl rfl rfl) ?_
                          refine ev_s (is_aload_n rfl rfl) ?_
                          refine ev_s (is_dup rfl rfl) ?_
                          refine ev_s (is_getI' rfl (pu_s hC 110 rfl rfl) rfl rfl ((im_u_j _ _ _ _ (by decide)).trans ((im_u_j _ _ _ _ (by decide)).trans ((im_u_j _ _ _ _ (by decide)).trans ((im_u_j _ _ _ _ (by decide)).trans h18))))) ?_
                          refine ev_s (is_iconst (nI 1) rfl rfl) ?_
                          first
                            | refine ev_s (is_iadd _ rfl (nI_add _ _)) ?_
                            | refine ev_s (is_iadd _ rfl rfl) ?_
                          refine ev_s (is_putI rfl (pu_s hC 110 rfl rfl) rfl rfl rfl) ?_
                          refine ev_ret (is_return rfl) ?_
                          obtain ⟨e1, e2, e3⟩ := tk_sign (tb := tb) (z := z) (p := p) (by omega) hlf hdf
                          have hsg : lx_sg (tb (tk_f tb z p)) = true := decide_eq_true (by omega)
                          rw [if_pos hsg] at e1
                          refine ⟨rfl, rfl, rn_u (rn_u hn3 (by decide)) (by decide), by rw [im_u_s, e3], ((im_u_j _ _ _ _ (by decide)).trans ((im_u_j _ _ _ _ (by decide)).trans k19)), ?_, ?_, ?_⟩
                          · rw [im_u_j _ _ _ _ (by decide), im_u_s, e1]
                            first
                              | rfl
                              | exact (rt_hi (k := tb (tk_f tb z p)) (by omega)).symm
                          · intro hk
                            rw [e1] at hk
                            omega
                          · intro hk1 hk2
                            rw [e1] at hk1 hk2
                            omega
        · refine ev_s (is_iconst (nI 0) rfl rfl) ?_
          refine ev_s (st_istore_n_2 rfl rfl) ?_
          have hfz : (tk_f tb z p) < z := by omega
          have hlf : ¬ lx_lt tb z (tk_f tb z p) = true := fun q => h_100 ((lx_r hT.2.2.2.1 (by decide) (by decide)).mpr (of_decide_eq_true q).2)
          have hdf : lx_dg tb z (tk_f tb z p) = true := decide_eq_true ⟨hfz, (lx_r hT.2.2.2.1 (by decide) (by decide)).mp h_225⟩
          exact num hfz hlf hdf _ (z - (tk_f tb z p)) 0 _ (by omega) (by omega) hn3 ((im_u_j _ _ _ _ (by decide)).trans ((im_u_j _ _ _ _ (by decide)).trans ((im_u_j _ _ _ _ (by decide)).trans h18))) k19 (im_u_s _ _ _ _) rfl
      · have hfz : (tk_f tb z p) < z := by omega
        have hlf : lx_lt tb z (tk_f tb z p) = true := decide_eq_true ⟨hfz, (lx_r hT.2.2.2.1 (by decide) (by decide)).mp h_100⟩
        have hfE : (tk_f tb z p) < (lx_to (lx_lt tb z) (tk_f tb z p)) := by rw [lx_to_t (by omega) hlf]; have := lx_to_le (lx_lt tb z) ((tk_f tb z p) + 1); omega
        exact word hfz hlf hfE (lx_to_z (fun _ h => lx_lt_z h) (by omega)) _ (z - (tk_f tb z p)) (tk_f tb z p) _ (by omega) (by omega) hn3 ((im_u_j _ _ _ _ (by decide)).trans ((im_u_j _ _ _ _ (by decide)).trans ((im_u_j _ _ _ _ (by decide)).trans h18))) k19 rfl
    · refine ev_ret (is_return rfl) ?_
      obtain ⟨e1, e2, e3⟩ := tk_end (tb := tb) (z := z) (p := p) (by omega)
      exact ⟨rfl, rfl, hn3, by rw [e3]; exact ((im_u_j _ _ _ _ (by decide)).trans ((im_u_j _ _ _ _ (by decide)).trans ((im_u_j _ _ _ _ (by decide)).trans h18))), k19, by rw [im_u_j _ _ _ _ (by decide), im_u_s, e1]; rfl, fun hk => by rw [e1] at hk; omega, fun hk1 hk2 => by rw [e1] at hk1; omega⟩
  have loop1 : ∀ (j i : Nat) (ma : im_MI), i + j = z → i ≤ z → rn_ mi ma → ma 110 18 = nI i → lx_to (lx_bl tb z) i = (tk_f tb z p) → Ev (d + 2) 140 0 [.ref 110, im_bad, im_bad] [] sh ma mr (fun r sh2 m2 r2 => sh2 = sh ∧ (r2 = mr ∧ rn_ mi m2 ∧ rk_ tb z m2 p)) := by
    intro j
    induction j with
    | zero =>
      intro i ma hij hiz hn h18 hl
      have hTa := re_M_n hT hn
      refine ev_s (is_aload_n rfl rfl) ?_
      refine ev_s (is_getI' rfl (pu_s hC 110 rfl rfl) rfl rfl h18) ?_
      refine ev_s (is_aload_n rfl rfl) ?_
      refine ev_s (is_getI' rfl (pu_s hC 110 rfl rfl) rfl rfl hTa.1) ?_
      refine ev_s (is_icmp_ge_t rfl (nI_le (by omega) (by omega))) ?_
      have he : lx_to (lx_bl tb z) i = i := lx_to_f (decide_eq_false (by omega))
      have hif : i = (tk_f tb z p) := by rw [← he]; exact hl
      exact second ma hn (by rw [h18, ← hif])
    | succ j ih =>
      intro i ma hij hiz hn h18 hl
      have hTa := re_M_n hT hn
      have hb := hT.2.2.2.1 i
      refine ev_s (is_aload_n rfl rfl) ?_
      refine ev_s (is_getI' rfl (pu_s hC 110 rfl rfl) rfl rfl h18) ?_
      refine ev_s (is_aload_n rfl rfl) ?_
      refine ev_s (is_getI' rfl (pu_s hC 110 rfl rfl) rfl rfl hTa.1) ?_
      refine ev_s (is_icmp_ge_f rfl (nI_ge (by omega) (by omega))) ?_
      refine ev_s (is_aload_n rfl rfl) ?_
      refine ev_s (is_getR rfl (pu_s hC 110 rfl rfl) rfl rfl (pu_r hC 110 5 rfl rfl)) ?_
      refine ev_s (is_aload_n rfl rfl) ?_
      refine ev_s (is_getI' rfl (pu_s hC 110 rfl rfl) rfl rfl h18) ?_
      refine ev_s (is_iaload' (i) rfl (pu_s hC 114 rfl rfl) rfl rfl (by omega) (hTa.2.1 _ (by omega))) ?_
      refine ev_s (is_bipush (nI 32) rfl rfl) ?_
      refine ev_icmpN_eq rfl (by omega) (by omega) (fun h_22 => ?_) (fun h_22 => ?_)
      · refine ev_s (is_aload_n rfl rfl) ?_
        refine ev_s (is_dup rfl rfl) ?_
        refine ev_s (is_getI' rfl (pu_s hC 110 rfl rfl) rfl rfl h18) ?_
        refine ev_s (is_iconst (nI 1) rfl rfl) ?_
        first
          | refine ev_s (is_iadd _ rfl (nI_add _ _)) ?_
          | refine ev_s (is_iadd _ rfl rfl) ?_
        refine ev_s (is_putI rfl (pu_s hC 110 rfl rfl) rfl rfl rfl) ?_
        refine ev_s (is_goto rfl) ?_
        have hg : lx_bl tb z i = true := decide_eq_true ⟨by omega, by omega⟩
        exact ih (i + 1) _ (by omega) (by omega) (rn_u hn (by decide)) (im_u_s _ _ _ _) (by rw [← hl, lx_to_t (by omega) hg])
      · refine ev_s (is_aload_n rfl rfl) ?_
        refine ev_s (is_getR rfl (pu_s hC 110 rfl rfl) rfl rfl (pu_r hC 110 5 rfl rfl)) ?_
        refine ev_s (is_aload_n rfl rfl) ?_
        refine ev_s (is_getI' rfl (pu_s hC 110 rfl rfl) rfl rfl h18) ?_
        refine ev_s (is_iaload' (i) rfl (pu_s hC 114 rfl rfl) rfl rfl (by omega) (hTa.2.1 _ (by omega))) ?_
        refine ev_s (is_bipush (nI 10) rfl rfl) ?_
        refine ev_icmpN_ne rfl (by omega) (by omega) (fun h_36 => ?_) (fun h_36 => ?_)
        · have he : lx_to (lx_bl tb z) i = i := lx_to_f (decide_eq_false (by omega))
          have hif : i = (tk_f tb z p) := by rw [← he]; exact hl
          exact second ma hn (by rw [h18, ← hif])
        · refine ev_s (is_aload_n rfl rfl) ?_
          refine ev_s (is_dup rfl rfl) ?_
          refine ev_s (is_getI' rfl (pu_s hC 110 rfl rfl) rfl rfl h18) ?_
          refine ev_s (is_iconst (nI 1) rfl rfl) ?_
          first
            | refine ev_s (is_iadd _ rfl (nI_add _ _)) ?_
            | refine ev_s (is_iadd _ rfl rfl) ?_
          refine ev_s (is_putI rfl (pu_s hC 110 rfl rfl) rfl rfl rfl) ?_
          refine ev_s (is_goto rfl) ?_
          have hg : lx_bl tb z i = true := decide_eq_true ⟨by omega, by omega⟩
          exact ih (i + 1) _ (by omega) (by omega) (rn_u hn (by decide)) (im_u_s _ _ _ _) (by rw [← hl, lx_to_t (by omega) hg])
  exact loop1 (z - p) p mi (by omega) hp rn_rf h18 rfl
