/-! ===== PURE, the class: the reader goes on; refuses; a text's steps ===== -/
/-- the reader's token is the one at p -/
def xk_ (tb : Nat → Nat) (z : Nat) (mi : im_MI) (p : Nat) : Prop := mi 35 2 = nI (tk_k tb z p) ∧ mi 35 3 = nI (tk_v tb z p) ∧ mi 35 4 = nI (tk_f tb z p) ∧ mi 35 5 = nI (tk_t tb z p)
theorem tk_end {tb : Nat → Nat} {z p : Nat} (h : z ≤ tk_f tb z p) : tk_k tb z p = 0 ∧ tk_v tb z p = 0 ∧ tk_t tb z p = tk_f tb z p := ⟨if_pos h, if_pos h, if_pos h⟩
theorem tk_word {tb : Nat → Nat} {z p : Nat} (h : tk_f tb z p < z) (hl : lx_lt tb z (tk_f tb z p) = true) : tk_k tb z p = wk_ (wi_ tb (tk_f tb z p) (lx_to (lx_lt tb z) (tk_f tb z p))) ∧ tk_v tb z p = wv_ (wi_ tb (tk_f tb z p) (lx_to (lx_lt tb z) (tk_f tb z p))) ∧ tk_t tb z p = lx_to (lx_lt tb z) (tk_f tb z p) := by
  have ht : tk_t tb z p = lx_to (lx_lt tb z) (tk_f tb z p) := by unfold tk_t; rw [if_neg (by omega), if_pos hl]
  refine ⟨?_, ?_, ht⟩
  · unfold tk_k; rw [if_neg (by omega), if_pos hl, ht]
  · unfold tk_v; rw [if_neg (by omega), if_pos hl, ht]
theorem tk_num {tb : Nat → Nat} {z p : Nat} (h : tk_f tb z p < z) (hl : ¬ lx_lt tb z (tk_f tb z p) = true) (hd : lx_dg tb z (tk_f tb z p) = true) : tk_k tb z p = (if 4 < lx_to (lx_dg tb z) (tk_f tb z p) - tk_f tb z p then 1 else 2) ∧ tk_v tb z p = lx_num tb (tk_f tb z p) (Nat.min 4 (lx_to (lx_dg tb z) (tk_f tb z p) - tk_f tb z p)) ∧ tk_t tb z p = lx_to (lx_dg tb z) (tk_f tb z p) := by
  have ht : tk_t tb z p = lx_to (lx_dg tb z) (tk_f tb z p) := by unfold tk_t; rw [if_neg (by omega), if_neg hl, if_pos hd]
  refine ⟨?_, ?_, ht⟩
  · unfold tk_k; rw [if_neg (by omega), if_neg hl, if_pos hd, ht]
  · unfold tk_v; rw [if_neg (by omega), if_neg hl, if_pos hd, ht]
theorem tk_sign {tb : Nat → Nat} {z p : Nat} (h : tk_f tb z p < z) (hl : ¬ lx_lt tb z (tk_f tb z p) = true) (hd : ¬ lx_dg tb z (tk_f tb z p) = true) : tk_k tb z p = (if lx_sg (tb (tk_f tb z p)) = true then tb (tk_f tb z p) else 1) ∧ tk_v tb z p = 0 ∧ tk_t tb z p = tk_f tb z p + 1 := by
  refine ⟨?_, ?_, ?_⟩
  · unfold tk_k; rw [if_neg (by omega), if_neg hl, if_neg hd]
  · unfold tk_v; rw [if_neg (by omega), if_neg hl, if_neg hd]
  · unfold tk_t; rw [if_neg (by omega), if_neg hl, if_neg hd]
theorem xk_advance {d : Nat} {sh : im_Sh} {mi : im_MI} {mr : im_MR} {t z : Nat} {tb : Nat → Nat} (hC : xs_C sh mr t) (hT : xs_M mi tb z) {p : Nat} (hp : p ≤ z) (h5 : mi 35 5 = nI p) : EvM (d + 6) 60 [.ref 35] sh mi mr (fun r sh2 m2 r2 => sh2 = sh ∧ (r2 = mr ∧ sc_ xk_S mi m2 ∧ xk_ tb z m2 p ∧ m2 35 6 = mi 35 6)) := by
  show Ev (d + 6) 60 0 [.ref 35] [] sh mi mr _
  have hz1 := hT.2.2.1
  have hfz := tk_f_z (tb := tb) hp
  have second : ∀ (ma : im_MI), sc_ xk_S mi ma → ma 35 3 = nI 0 → ma 35 4 = nI (tk_f tb z p) → ma 35 5 = nI (tk_f tb z p) → ma 35 6 = mi 35 6 → Ev (d + 6) 60 58 [.ref 35] [] sh ma mr (fun r sh2 m2 r2 => sh2 = sh ∧ (r2 = mr ∧ sc_ xk_S mi m2 ∧ xk_ tb z m2 p ∧ m2 35 6 = mi 35 6)) := by
    intro ma hs h3 h4 h5 h6
    have hT1 := xs_M_S hT hs
    refine ev_s (is_aload_n rfl rfl) ?_
    refine ev_s (is_getI' rfl hC.2.2.1.1 rfl rfl h4) ?_
    refine ev_s (is_aload_n rfl rfl) ?_
    refine ev_s (is_getR rfl hC.2.2.1.1 rfl rfl hC.2.2.1.2.1) ?_
    refine ev_s (is_getI' rfl hC.1.1 rfl rfl hT1.1) ?_
    refine ev_icmpN_lt rfl (by omega) (by omega) (fun h_69 => ?_) (fun h_69 => ?_)
    · refine ev_s (is_aload_n rfl rfl) ?_
      refine ev_s (is_getR rfl hC.2.2.1.1 rfl rfl hC.2.2.1.2.1) ?_
      refine ev_s (is_aload_n rfl rfl) ?_
      refine ev_s (is_getI' rfl hC.2.2.1.1 rfl rfl h4) ?_
      refine ev_c1 (is_callR 2 [_] [] rfl rfl rfl rfl rfl (Nat.le_of_ble_eq_true rfl) rfl rfl rfl hC.1.1) rfl rfl (xt_letter hC hT1 (i := (tk_f tb z p)) (by omega)) ?_
      refine ev_ifB_eq rfl (fun h_91 => ?_) (fun h_91 => ?_)
      · refine ev_s (is_aload_n rfl rfl) ?_
        refine ev_s (is_getR rfl hC.2.2.1.1 rfl rfl hC.2.2.1.2.1) ?_
        refine ev_s (is_aload_n rfl rfl) ?_
        refine ev_s (is_getI' rfl hC.2.2.1.1 rfl rfl h4) ?_
        refine ev_c1 (is_callR 2 [_] [] rfl rfl rfl rfl rfl (Nat.le_of_ble_eq_true rfl) rfl rfl rfl hC.1.1) rfl rfl (xt_digit hC hT1 (i := (tk_f tb z p)) (by omega)) ?_
        refine ev_ifB_eq rfl (fun h_112 => ?_) (fun h_112 => ?_)
        · refine ev_s (is_aload_n rfl rfl) ?_
          refine ev_s (is_aload_n rfl rfl) ?_
          refine ev_s (is_getI' rfl hC.2.2.1.1 rfl rfl h4) ?_
          refine ev_s (is_iconst (nI 1) rfl rfl) ?_
          first
            | refine ev_s (is_iadd _ rfl (nI_add _ _)) ?_
            | refine ev_s (is_iadd _ rfl rfl) ?_
          refine ev_s (is_putI rfl hC.2.2.1.1 rfl rfl rfl) ?_
          refine ev_s (is_aload_n rfl rfl) ?_
          refine ev_s (is_aload_n rfl rfl) ?_
          refine ev_s (is_getR rfl hC.2.2.1.1 rfl rfl hC.2.2.1.2.1) ?_
          refine ev_s (is_aload_n rfl rfl) ?_
          refine ev_s (is_getI' rfl hC.2.2.1.1 rfl rfl ((im_u_j _ _ _ _ (by decide)).trans h4)) ?_
          refine ev_c1 (is_callR 2 [_] [_] rfl rfl rfl rfl rfl (Nat.le_of_ble_eq_true rfl) rfl rfl rfl hC.1.1) rfl rfl (xt_sign hC (xs_M_S hT1 (sc_.u sc_rf rfl)) (i := (tk_f tb z p)) h_69) ?_
          refine ev_ifB_eq rfl (fun h_144 => ?_) (fun h_144 => ?_)
          · refine ev_s (is_iconst (nI 1) rfl rfl) ?_
            refine ev_s (is_putI rfl hC.2.2.1.1 rfl rfl rfl) ?_
            refine ev_ret (is_return rfl) ?_
            first
              | (exact ⟨rfl, rfl, hs.trans hsc, ⟨by rw [e1]; exact g2, by rw [e2]; exact g3, g4, by rw [e3]; exact g5⟩, g6.trans h6⟩)
              | (obtain ⟨e1, e2, e3⟩ := tk_sign (tb := tb) (z := z) (p := p) (by omega) h_91 h_112
                 first
                   | exact ⟨rfl, rfl, (hs.u rfl).u rfl, ⟨by rw [im_u_s, e1, if_pos h_144], by rw [e2]; exact ((im_u_j _ _ _ _ (by decide)).trans ((im_u_j _ _ _ _ (by decide)).trans h3)), ((im_u_j _ _ _ _ (by decide)).trans ((im_u_j _ _ _ _ (by decide)).trans h4)), by rw [e3]; exact ((im_u_j _ _ _ _ (by decide)).trans (im_u_s _ _ _ _))⟩, ((im_u_j _ _ _ _ (by decide)).trans ((im_u_j _ _ _ _ (by decide)).trans h6))⟩
                   | exact ⟨rfl, rfl, (hs.u rfl).u rfl, ⟨by rw [im_u_s, e1, if_neg h_144], by rw [e2]; exact ((im_u_j _ _ _ _ (by decide)).trans ((im_u_j _ _ _ _ (by decide)).trans h3)), ((im_u_j _ _ _ _ (by decide)).trans ((im_u_j _ _ _ _ (by decide)).trans h4)), by rw [e3]; exact ((im_u_j _ _ _ _ (by decide)).trans (im_u_s _ _ _ _))⟩, ((im_u_j _ _ _ _ (by decide)).trans ((im_u_j _ _ _ _ (by decide)).trans h6))⟩
                )
              | (obtain ⟨e1, e2, e3⟩ := tk_end (tb := tb) (z := z) (p := p) (by omega)
                 exact ⟨rfl, rfl, hs.u rfl, ⟨by rw [im_u_s, e1], by rw [e2]; exact ((im_u_j _ _ _ _ (by decide)).trans h3), ((im_u_j _ _ _ _ (by decide)).trans h4), by rw [e3]; exact ((im_u_j _ _ _ _ (by decide)).trans h5)⟩, ((im_u_j _ _ _ _ (by decide)).trans h6)⟩
                )
          · refine ev_s (is_aload_n rfl rfl) ?_
            refine ev_s (is_getR rfl hC.2.2.1.1 rfl rfl hC.2.2.1.2.1) ?_
            refine ev_s (is_getR rfl hC.1.1 rfl rfl hC.1.2) ?_
            refine ev_s (is_aload_n rfl rfl) ?_
            refine ev_s (is_getI' rfl hC.2.2.1.1 rfl rfl ((im_u_j _ _ _ _ (by decide)).trans h4)) ?_
            refine ev_s (is_caload' (tk_f tb z p) rfl hC.2.1 rfl rfl (by omega) ((xs_M_S hT1 (sc_.u sc_rf rfl)).2.1 (tk_f tb z p) (by omega))) ?_
            refine ev_s (is_goto rfl) ?_
            refine ev_s (is_putI rfl hC.2.2.1.1 rfl rfl rfl) ?_
            refine ev_ret (is_return rfl) ?_
            first
              | (exact ⟨rfl, rfl, hs.trans hsc, ⟨by rw [e1]; exact g2, by rw [e2]; exact g3, g4, by rw [e3]; exact g5⟩, g6.trans h6⟩)
              | (obtain ⟨e1, e2, e3⟩ := tk_sign (tb := tb) (z := z) (p := p) (by omega) h_91 h_112
                 first
                   | exact ⟨rfl, rfl, (hs.u rfl).u rfl, ⟨by rw [im_u_s, e1, if_pos h_144], by rw [e2]; exact ((im_u_j _ _ _ _ (by decide)).trans ((im_u_j _ _ _ _ (by decide)).trans h3)), ((im_u_j _ _ _ _ (by decide)).trans ((im_u_j _ _ _ _ (by decide)).trans h4)), by rw [e3]; exact ((im_u_j _ _ _ _ (by decide)).trans (im_u_s _ _ _ _))⟩, ((im_u_j _ _ _ _ (by decide)).trans ((im_u_j _ _ _ _ (by decide)).trans h6))⟩
                   | exact ⟨rfl, rfl, (hs.u rfl).u rfl, ⟨by rw [im_u_s, e1, if_neg h_144], by rw [e2]; exact ((im_u_j _ _ _ _ (by decide)).trans ((im_u_j _ _ _ _ (by decide)).trans h3)), ((im_u_j _ _ _ _ (by decide)).trans ((im_u_j _ _ _ _ (by decide)).trans h4)), by rw [e3]; exact ((im_u_j _ _ _ _ (by decide)).trans (im_u_s _ _ _ _))⟩, ((im_u_j _ _ _ _ (by decide)).trans ((im_u_j _ _ _ _ (by decide)).trans h6))⟩
                )
              | (obtain ⟨e1, e2, e3⟩ := tk_end (tb := tb) (z := z) (p := p) (by omega)
                 exact ⟨rfl, rfl, hs.u rfl, ⟨by rw [im_u_s, e1], by rw [e2]; exact ((im_u_j _ _ _ _ (by decide)).trans h3), ((im_u_j _ _ _ _ (by decide)).trans h4), by rw [e3]; exact ((im_u_j _ _ _ _ (by decide)).trans h5)⟩, ((im_u_j _ _ _ _ (by decide)).trans h6)⟩
                )
        · refine ev_s (is_aload_n rfl rfl) ?_
          refine ev_q0 (is_callR 1 [] [] rfl rfl rfl rfl rfl (Nat.le_of_ble_eq_true rfl) rfl rfl rfl hC.2.2.1.1) rfl rfl (xk_takeNumber hC hT1 h_69 h3 h4 h5) (fun r_116 mi mr hq_116 => ?_)
          obtain ⟨hmr, hsc, g2, g3, g4, g5, g6⟩ := hq_116
          have hmr := hmr.symm
          subst hmr
          obtain ⟨e1, e2, e3⟩ := tk_num (tb := tb) (z := z) (p := p) h_69 h_91 h_112
          refine ev_s (is_goto rfl) ?_
          refine ev_ret (is_return rfl) ?_
          first
            | (exact ⟨rfl, rfl, hs.trans hsc, ⟨by rw [e1]; exact g2, by rw [e2]; exact g3, g4, by rw [e3]; exact g5⟩, g6.trans h6⟩)
            | (obtain ⟨e1, e2, e3⟩ := tk_sign (tb := tb) (z := z) (p := p) (by omega) h_91 h_112
               first
                 | exact ⟨rfl, rfl, (hs.u rfl).u rfl, ⟨by rw [im_u_s, e1, if_pos h_144], by rw [e2]; exact ((im_u_j _ _ _ _ (by decide)).trans ((im_u_j _ _ _ _ (by decide)).trans h3)), ((im_u_j _ _ _ _ (by decide)).trans ((im_u_j _ _ _ _ (by decide)).trans h4)), by rw [e3]; exact ((im_u_j _ _ _ _ (by decide)).trans (im_u_s _ _ _ _))⟩, ((im_u_j _ _ _ _ (by decide)).trans ((im_u_j _ _ _ _ (by decide)).trans h6))⟩
                 | exact ⟨rfl, rfl, (hs.u rfl).u rfl, ⟨by rw [im_u_s, e1, if_neg h_144], by rw [e2]; exact ((im_u_j _ _ _ _ (by decide)).trans ((im_u_j _ _ _ _ (by decide)).trans h3)), ((im_u_j _ _ _ _ (by decide)).trans ((im_u_j _ _ _ _ (by decide)).trans h4)), by rw [e3]; exact ((im_u_j _ _ _ _ (by decide)).trans (im_u_s _ _ _ _))⟩, ((im_u_j _ _ _ _ (by decide)).trans ((im_u_j _ _ _ _ (by decide)).trans h6))⟩
              )
            | (obtain ⟨e1, e2, e3⟩ := tk_end (tb := tb) (z := z) (p := p) (by omega)
               exact ⟨rfl, rfl, hs.u rfl, ⟨by rw [im_u_s, e1], by rw [e2]; exact ((im_u_j _ _ _ _ (by decide)).trans h3), ((im_u_j _ _ _ _ (by decide)).trans h4), by rw [e3]; exact ((im_u_j _ _ _ _ (by decide)).trans h5)⟩, ((im_u_j _ _ _ _ (by decide)).trans h6)⟩
              )
      · refine ev_s (is_aload_n rfl rfl) ?_
        refine ev_q0 (is_callR 1 [] [] rfl rfl rfl rfl rfl (Nat.le_of_ble_eq_true rfl) rfl rfl rfl hC.2.2.1.1) rfl rfl (xk_takeWord hC hT1 h_69 h3 h4 h5) (fun r_95 mi mr hq_95 => ?_)
        obtain ⟨hmr, hsc, g2, g3, g4, g5, g6⟩ := hq_95
        have hmr := hmr.symm
        subst hmr
        obtain ⟨e1, e2, e3⟩ := tk_word (tb := tb) (z := z) (p := p) h_69 h_91
        refine ev_s (is_goto rfl) ?_
        refine ev_ret (is_return rfl) ?_
        first
          | (exact ⟨rfl, rfl, hs.trans hsc, ⟨by rw [e1]; exact g2, by rw [e2]; exact g3, g4, by rw [e3]; exact g5⟩, g6.trans h6⟩)
          | (obtain ⟨e1, e2, e3⟩ := tk_sign (tb := tb) (z := z) (p := p) (by omega) h_91 h_112
             first
               | exact ⟨rfl, rfl, (hs.u rfl).u rfl, ⟨by rw [im_u_s, e1, if_pos h_144], by rw [e2]; exact ((im_u_j _ _ _ _ (by decide)).trans ((im_u_j _ _ _ _ (by decide)).trans h3)), ((im_u_j _ _ _ _ (by decide)).trans ((im_u_j _ _ _ _ (by decide)).trans h4)), by rw [e3]; exact ((im_u_j _ _ _ _ (by decide)).trans (im_u_s _ _ _ _))⟩, ((im_u_j _ _ _ _ (by decide)).trans ((im_u_j _ _ _ _ (by decide)).trans h6))⟩
               | exact ⟨rfl, rfl, (hs.u rfl).u rfl, ⟨by rw [im_u_s, e1, if_neg h_144], by rw [e2]; exact ((im_u_j _ _ _ _ (by decide)).trans ((im_u_j _ _ _ _ (by decide)).trans h3)), ((im_u_j _ _ _ _ (by decide)).trans ((im_u_j _ _ _ _ (by decide)).trans h4)), by rw [e3]; exact ((im_u_j _ _ _ _ (by decide)).trans (im_u_s _ _ _ _))⟩, ((im_u_j _ _ _ _ (by decide)).trans ((im_u_j _ _ _ _ (by decide)).trans h6))⟩
            )
          | (obtain ⟨e1, e2, e3⟩ := tk_end (tb := tb) (z := z) (p := p) (by omega)
             exact ⟨rfl, rfl, hs.u rfl, ⟨by rw [im_u_s, e1], by rw [e2]; exact ((im_u_j _ _ _ _ (by decide)).trans h3), ((im_u_j _ _ _ _ (by decide)).trans h4), by rw [e3]; exact ((im_u_j _ _ _ _ (by decide)).trans h5)⟩, ((im_u_j _ _ _ _ (by decide)).trans h6)⟩
            )
    · refine ev_s (is_aload_n rfl rfl) ?_
      refine ev_s (is_iconst (nI 0) rfl rfl) ?_
      refine ev_s (is_putI rfl hC.2.2.1.1 rfl rfl rfl) ?_
      refine ev_s (is_goto rfl) ?_
      refine ev_ret (is_return rfl) ?_
      first
        | (exact ⟨rfl, rfl, hs.trans hsc, ⟨by rw [e1]; exact g2, by rw [e2]; exact g3, g4, by rw [e3]; exact g5⟩, g6.trans h6⟩)
        | (obtain ⟨e1, e2, e3⟩ := tk_sign (tb := tb) (z := z) (p := p) (by omega) h_91 h_112
           first
             | exact ⟨rfl, rfl, (hs.u rfl).u rfl, ⟨by rw [im_u_s, e1, if_pos h_144], by rw [e2]; exact ((im_u_j _ _ _ _ (by decide)).trans ((im_u_j _ _ _ _ (by decide)).trans h3)), ((im_u_j _ _ _ _ (by decide)).trans ((im_u_j _ _ _ _ (by decide)).trans h4)), by rw [e3]; exact ((im_u_j _ _ _ _ (by decide)).trans (im_u_s _ _ _ _))⟩, ((im_u_j _ _ _ _ (by decide)).trans ((im_u_j _ _ _ _ (by decide)).trans h6))⟩
             | exact ⟨rfl, rfl, (hs.u rfl).u rfl, ⟨by rw [im_u_s, e1, if_neg h_144], by rw [e2]; exact ((im_u_j _ _ _ _ (by decide)).trans ((im_u_j _ _ _ _ (by decide)).trans h3)), ((im_u_j _ _ _ _ (by decide)).trans ((im_u_j _ _ _ _ (by decide)).trans h4)), by rw [e3]; exact ((im_u_j _ _ _ _ (by decide)).trans (im_u_s _ _ _ _))⟩, ((im_u_j _ _ _ _ (by decide)).trans ((im_u_j _ _ _ _ (by decide)).trans h6))⟩
          )
        | (obtain ⟨e1, e2, e3⟩ := tk_end (tb := tb) (z := z) (p := p) (by omega)
           exact ⟨rfl, rfl, hs.u rfl, ⟨by rw [im_u_s, e1], by rw [e2]; exact ((im_u_j _ _ _ _ (by decide)).trans h3), ((im_u_j _ _ _ _ (by decide)).trans h4), by rw [e3]; exact ((im_u_j _ _ _ _ (by decide)).trans h5)⟩, ((im_u_j _ _ _ _ (by decide)).trans h6)⟩
          )
  have loop1 : ∀ (j i : Nat) (ma : im_MI), i + j = 160 → i ≤ z → sc_ xk_S mi ma → ma 35 4 = nI i → ma 35 6 = mi 35 6 → lx_to (lx_bl tb z) i = lx_to (lx_bl tb z) p → Ev (d + 6) 60 8 [.ref 35] [] sh ma mr (fun r sh2 m2 r2 => sh2 = sh ∧ (r2 = mr ∧ sc_ xk_S mi m2 ∧ xk_ tb z m2 p ∧ m2 35 6 = mi 35 6)) := by
    intro j
    induction j with
    | zero =>
      intro i ma hi hiz0 hs h4 h6 hl
      refine ev_s (is_aload_n rfl rfl) ?_
      refine ev_s (is_getI' rfl hC.2.2.1.1 rfl rfl h4) ?_
      refine ev_s (is_sipush (nI 160) rfl rfl) ?_
      refine ev_s (is_icmp_ge_t rfl (nI_le (by omega) (by omega))) ?_
      have he : lx_to (lx_bl tb z) i = i := lx_to_e (by omega)
      have hif : i = (tk_f tb z p) := by rw [← he]; exact hl
      have h4b : ma 35 4 = nI (tk_f tb z p) := by rw [h4, ← hif]
      refine ev_s (is_aload_n rfl rfl) ?_
      refine ev_s (is_aload_n rfl rfl) ?_
      refine ev_s (is_getI' rfl hC.2.2.1.1 rfl rfl h4b) ?_
      refine ev_s (is_putI rfl hC.2.2.1.1 rfl rfl rfl) ?_
      refine ev_s (is_aload_n rfl rfl) ?_
      refine ev_s (is_iconst (nI 0) rfl rfl) ?_
      refine ev_s (is_putI rfl hC.2.2.1.1 rfl rfl rfl) ?_
      exact second _ ((hs.u rfl).u rfl) (im_u_s _ _ _ _) ((im_u_j _ _ _ _ (by decide)).trans ((im_u_j _ _ _ _ (by decide)).trans h4b)) ((im_u_j _ _ _ _ (by decide)).trans (im_u_s _ _ _ _)) ((im_u_j _ _ _ _ (by decide)).trans ((im_u_j _ _ _ _ (by decide)).trans h6))
    | succ j ih =>
      intro i ma hi hiz0 hs h4 h6 hl
      have hTa := xs_M_S hT hs
      refine ev_s (is_aload_n rfl rfl) ?_
      refine ev_s (is_getI' rfl hC.2.2.1.1 rfl rfl h4) ?_
      refine ev_s (is_sipush (nI 160) rfl rfl) ?_
      refine ev_s (is_icmp_ge_f rfl (nI_ge (by omega) (by omega))) ?_
      refine ev_s (is_aload_n rfl rfl) ?_
      refine ev_s (is_getR rfl hC.2.2.1.1 rfl rfl hC.2.2.1.2.1) ?_
      refine ev_s (is_aload_n rfl rfl) ?_
      refine ev_s (is_getI' rfl hC.2.2.1.1 rfl rfl h4) ?_
      refine ev_c1 (is_callR 2 [_] [] rfl rfl rfl rfl rfl (Nat.le_of_ble_eq_true rfl) rfl rfl rfl hC.1.1) rfl rfl (xt_blank hC hTa (i := i) (by omega)) ?_
      refine ev_ifB_eq rfl (fun h_29 => ?_) (fun h_29 => ?_)
      · have he : lx_to (lx_bl tb z) i = i := lx_to_f (Bool.eq_false_iff.mpr h_29)
        have hif : i = (tk_f tb z p) := by rw [← he]; exact hl
        have h4b : ma 35 4 = nI (tk_f tb z p) := by rw [h4, ← hif]
        refine ev_s (is_aload_n rfl rfl) ?_
        refine ev_s (is_aload_n rfl rfl) ?_
        refine ev_s (is_getI' rfl hC.2.2.1.1 rfl rfl h4b) ?_
        refine ev_s (is_putI rfl hC.2.2.1.1 rfl rfl rfl) ?_
        refine ev_s (is_aload_n rfl rfl) ?_
        refine ev_s (is_iconst (nI 0) rfl rfl) ?_
        refine ev_s (is_putI rfl hC.2.2.1.1 rfl rfl rfl) ?_
        exact second _ ((hs.u rfl).u rfl) (im_u_s _ _ _ _) ((im_u_j _ _ _ _ (by decide)).trans ((im_u_j _ _ _ _ (by decide)).trans h4b)) ((im_u_j _ _ _ _ (by decide)).trans (im_u_s _ _ _ _)) ((im_u_j _ _ _ _ (by decide)).trans ((im_u_j _ _ _ _ (by decide)).trans h6))
      · refine ev_s (is_aload_n rfl rfl) ?_
        refine ev_s (is_dup rfl rfl) ?_
        refine ev_s (is_getI' rfl hC.2.2.1.1 rfl rfl h4) ?_
        refine ev_s (is_iconst (nI 1) rfl rfl) ?_
        first
          | refine ev_s (is_iadd _ rfl (nI_add _ _)) ?_
          | refine ev_s (is_iadd _ rfl rfl) ?_
        refine ev_s (is_putI rfl hC.2.2.1.1 rfl rfl rfl) ?_
        refine ev_s (is_goto rfl) ?_
        have hg : lx_bl tb z i = true := h_29
        have hiz := lx_bl_z hg
        exact ih (i + 1) _ (by omega) (by omega) (hs.u rfl) (im_u_s _ _ _ _) ((im_u_j _ _ _ _ (by decide)).trans h6) (by rw [← hl, lx_to_t (by omega) hg])
  refine ev_s (is_aload_n rfl rfl) ?_
  refine ev_s (is_aload_n rfl rfl) ?_
  refine ev_s (is_getI' rfl hC.2.2.1.1 rfl rfl h5) ?_
  refine ev_s (is_putI rfl hC.2.2.1.1 rfl rfl rfl) ?_
  exact loop1 (160 - p) p _ (by omega) hp (sc_.u sc_rf rfl) (im_u_s _ _ _ _) (im_u_j _ _ _ _ (by decide)) rfl
