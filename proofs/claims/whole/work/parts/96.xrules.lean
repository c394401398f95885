/-! ===== PURE, the class: the rules of a text ===== -/
/-- the rule y, with n more to open, reads as X does -/
abbrev xR_ (t : Nat) (tb : Nat → Nat) (z : Nat) (sh : im_Sh) (mr : im_MR) (y n D : Nat) (X : pd_X) : Prop := ∀ (d : Nat) (mi : im_MI) (p : Nat) (C : List Nat), D ≤ d → xs_M mi tb z → xg_ t tb z mi p C → EvM d y [.ref 35, .int (nI (5 - n))] sh mi mr (fun r sh2 m2 r2 => sh2 = sh ∧ (r2 = mr ∧ sc_ (xw_S t) mi m2 ∧ xq_ t tb z C (X p) m2))
/-- behind a fault the rule y does nothing -/
abbrev xB_ (t : Nat) (tb : Nat → Nat) (z : Nat) (sh : im_Sh) (mr : im_MR) (y D : Nat) : Prop := ∀ (d : Nat) (mi : im_MI) (f i : Nat), D ≤ d → xs_M mi tb z → xb_ t mi f → EvM d y [.ref 35, .int (nI i)] sh mi mr (fun r sh2 m2 r2 => sh2 = sh ∧ (m2 = mi ∧ r2 = mr))
theorem xb_sc {t f : Nat} {mi ma : im_MI} (h : xb_ t mi f) (h2 : sc_ (xa_S t) mi ma) (h3 : ∃ n, n ≤ 160 ∧ ma (78 + 3 * t) 2 = nI n) : xb_ t ma f := ⟨by rw [h2 35 (xa_ne (by omega) (by omega))]; exact h.1, by rw [h2 35 (xa_ne (by omega) (by omega))]; exact h.2.1, h.2.2.1, h3⟩
theorem xg_sc {t : Nat} {tb : Nat → Nat} {z p : Nat} {C : List Nat} {mi ma : im_MI} {c : Nat} (h : xg_ t tb z mi p C) (h2 : sc_ (xa_S t) mi ma) (h3 : xc_ t ma (C ++ [c])) (h4 : C.length + 1 ≤ p) : xg_ t tb z ma p (C ++ [c]) := by
  obtain ⟨⟨g1, g2, g3, g4⟩, g5, g6, g7, g8⟩ := h
  have e := h2 35 (xa_ne (by omega) (by omega))
  refine ⟨⟨by rw [e]; exact g1, by rw [e]; exact g2, by rw [e]; exact g3, by rw [e]; exact g4⟩, by rw [e]; exact g5, h3, ?_, g8⟩
  rw [List.length_append]; exact h4
theorem app3 {C cs c2 : List Nat} {c : Nat} : C ++ cs ++ c2 ++ [c] = C ++ (cs ++ c2 ++ [c]) := by simp [List.append_assoc]
section RULES
variable {sh : im_Sh} {mr : im_MR} {t z : Nat} {tb : Nat → Nat}
theorem xB_one (hC : xs_C sh mr t) : xB_ t tb z sh mr 54 1 := by
  intro d mi f i hd hT hb
  obtain ⟨e, rfl⟩ : ∃ e, d = e + 1 := ⟨d - 1, by omega⟩
  show Ev (e + 1) 54 0 [.ref 35, .int (nI i)] [] sh mi mr _
  refine ev_s (is_aload_n rfl rfl) ?_
  refine ev_s (is_getI' rfl hC.2.2.1.1 rfl rfl hb.1) ?_
  refine ev_s (is_iconst (nI 2) rfl rfl) ?_
  refine ev_s (is_icmp_eq_f rfl (by decide)) ?_
  refine ev_s (is_aload_n rfl rfl) ?_
  refine ev_s (is_getI' rfl hC.2.2.1.1 rfl rfl hb.1) ?_
  refine ev_s (is_iconst (nI 3) rfl rfl) ?_
  refine ev_s (is_icmp_ne_t rfl (by decide)) ?_
  refine ev_s (is_aload_n rfl rfl) ?_
  refine ev_s (is_getI' rfl hC.2.2.1.1 rfl rfl hb.1) ?_
  refine ev_s (is_bipush (nI 45) rfl rfl) ?_
  refine ev_s (is_icmp_ne_t rfl (by decide)) ?_
  refine ev_s (is_aload_n rfl rfl) ?_
  refine ev_s (is_getI' rfl hC.2.2.1.1 rfl rfl hb.1) ?_
  refine ev_s (is_bipush (nI 40) rfl rfl) ?_
  refine ev_s (is_icmp_ne_t rfl (by decide)) ?_
  refine ev_s (is_aload_n rfl rfl) ?_
  refine ev_q0 (is_callR 1 [] [] rfl rfl rfl rfl rfl (Nat.le_of_ble_eq_true rfl) rfl rfl rfl hC.2.2.1.1) rfl rfl (xk_refuseB hC hT hb) (fun r_73 mi mr hq_73 => ?_)
  obtain ⟨hm_73, hr_73⟩ := hq_73
  subst hm_73
  subst hr_73
  refine ev_ret (is_return rfl) ?_
  exact ⟨rfl, rfl, rfl⟩
theorem xB_product (hC : xs_C sh mr t) (hB : xB_ t tb z sh mr 54 1) : xB_ t tb z sh mr 53 2 := by
  intro d mi f i hd hT hb
  obtain ⟨e, rfl⟩ : ∃ e, d = e + 1 := ⟨d - 1, by omega⟩
  show Ev (e + 1) 53 0 [.ref 35, .int (nI i), im_bad] [] sh mi mr _
  refine ev_s (is_aload_n rfl rfl) ?_
  refine ev_s (is_iload_n rfl rfl) ?_
  refine ev_q0 (is_callR 2 [_] [] rfl rfl rfl rfl rfl (Nat.le_of_ble_eq_true rfl) rfl rfl rfl hC.2.2.1.1) rfl rfl (hB _ _ _ _ (by omega) hT hb) (fun r_2 mi mr hq_2 => ?_)
  obtain ⟨hm_2, hr_2⟩ := hq_2
  subst hm_2
  subst hr_2
  refine ev_s (is_iconst (nI 0) rfl rfl) ?_
  refine ev_s (st_istore_n_2 rfl rfl) ?_
  refine ev_s (is_iload_n rfl rfl) ?_
  refine ev_s (is_sipush (nI 160) rfl rfl) ?_
  refine ev_s (is_icmp_ge_f rfl (by decide)) ?_
  refine ev_s (is_aload_n rfl rfl) ?_
  refine ev_s (is_getI' rfl hC.2.2.1.1 rfl rfl hb.1) ?_
  refine ev_s (is_bipush (nI 42) rfl rfl) ?_
  refine ev_s (is_icmp_ne_t rfl (by decide)) ?_
  refine ev_ret (is_return rfl) ?_
  exact ⟨rfl, rfl, rfl⟩
theorem xB_sum (hC : xs_C sh mr t) (hB : xB_ t tb z sh mr 53 2) : xB_ t tb z sh mr 52 3 := by
  intro d mi f i hd hT hb
  obtain ⟨e, rfl⟩ : ∃ e, d = e + 1 := ⟨d - 1, by omega⟩
  show Ev (e + 1) 52 0 [.ref 35, .int (nI i), im_bad, im_bad] [] sh mi mr _
  refine ev_s (is_aload_n rfl rfl) ?_
  refine ev_s (is_iload_n rfl rfl) ?_
  refine ev_q0 (is_callR 2 [_] [] rfl rfl rfl rfl rfl (Nat.le_of_ble_eq_true rfl) rfl rfl rfl hC.2.2.1.1) rfl rfl (hB _ _ _ _ (by omega) hT hb) (fun r_2 mi mr hq_2 => ?_)
  obtain ⟨hm_2, hr_2⟩ := hq_2
  subst hm_2
  subst hr_2
  refine ev_s (is_iconst (nI 0) rfl rfl) ?_
  refine ev_s (st_istore_n_2 rfl rfl) ?_
  refine ev_s (is_iload_n rfl rfl) ?_
  refine ev_s (is_sipush (nI 160) rfl rfl) ?_
  refine ev_s (is_icmp_ge_f rfl (by decide)) ?_
  refine ev_s (is_aload_n rfl rfl) ?_
  refine ev_s (is_getI' rfl hC.2.2.1.1 rfl rfl hb.1) ?_
  refine ev_s (is_bipush (nI 43) rfl rfl) ?_
  refine ev_s (is_icmp_eq_f rfl (by decide)) ?_
  refine ev_s (is_aload_n rfl rfl) ?_
  refine ev_s (is_getI' rfl hC.2.2.1.1 rfl rfl hb.1) ?_
  refine ev_s (is_bipush (nI 45) rfl rfl) ?_
  refine ev_s (is_icmp_ne_t rfl (by decide)) ?_
  refine ev_ret (is_return rfl) ?_
  exact ⟨rfl, rfl, rfl⟩
theorem xB_compared (hC : xs_C sh mr t) (hB : xB_ t tb z sh mr 52 3) : xB_ t tb z sh mr 51 4 := by
  intro d mi f i hd hT hb
  obtain ⟨e, rfl⟩ : ∃ e, d = e + 1 := ⟨d - 1, by omega⟩
  show Ev (e + 1) 51 0 [.ref 35, .int (nI i), im_bad] [] sh mi mr _
  refine ev_s (is_aload_n rfl rfl) ?_
  refine ev_s (is_iload_n rfl rfl) ?_
  refine ev_q0 (is_callR 2 [_] [] rfl rfl rfl rfl rfl (Nat.le_of_ble_eq_true rfl) rfl rfl rfl hC.2.2.1.1) rfl rfl (hB _ _ _ _ (by omega) hT hb) (fun r_2 mi mr hq_2 => ?_)
  obtain ⟨hm_2, hr_2⟩ := hq_2
  subst hm_2
  subst hr_2
  refine ev_s (is_aload_n rfl rfl) ?_
  refine ev_s (is_getI' rfl hC.2.2.1.1 rfl rfl hb.1) ?_
  refine ev_s (is_bipush (nI 60) rfl rfl) ?_
  refine ev_s (is_icmp_eq_f rfl (by decide)) ?_
  refine ev_s (is_aload_n rfl rfl) ?_
  refine ev_s (is_getI' rfl hC.2.2.1.1 rfl rfl hb.1) ?_
  refine ev_s (is_bipush (nI 61) rfl rfl) ?_
  refine ev_s (is_icmp_eq_f rfl (by decide)) ?_
  refine ev_ret (is_return rfl) ?_
  exact ⟨rfl, rfl, rfl⟩
theorem xB_negated (hC : xs_C sh mr t) (hB : xB_ t tb z sh mr 51 4) : xB_ t tb z sh mr 49 5 := by
  intro d mi f i hd hT hb
  obtain ⟨e, rfl⟩ : ∃ e, d = e + 1 := ⟨d - 1, by omega⟩
  show Ev (e + 1) 49 0 [.ref 35, .int (nI i)] [] sh mi mr _
  refine ev_s (is_aload_n rfl rfl) ?_
  refine ev_s (is_getI' rfl hC.2.2.1.1 rfl rfl hb.1) ?_
  refine ev_s (is_bipush (nI 9) rfl rfl) ?_
  refine ev_s (is_icmp_ne_t rfl (by decide)) ?_
  refine ev_s (is_aload_n rfl rfl) ?_
  refine ev_s (is_iload_n rfl rfl) ?_
  refine ev_q0 (is_callR 2 [_] [] rfl rfl rfl rfl rfl (Nat.le_of_ble_eq_true rfl) rfl rfl rfl hC.2.2.1.1) rfl rfl (hB _ _ _ _ (by omega) hT hb) (fun r_19 mi mr hq_19 => ?_)
  obtain ⟨hm_19, hr_19⟩ := hq_19
  subst hm_19
  subst hr_19
  refine ev_ret (is_return rfl) ?_
  exact ⟨rfl, rfl, rfl⟩
theorem xB_both (hC : xs_C sh mr t) (hB : xB_ t tb z sh mr 49 5) : xB_ t tb z sh mr 48 6 := by
  intro d mi f i hd hT hb
  obtain ⟨e, rfl⟩ : ∃ e, d = e + 1 := ⟨d - 1, by omega⟩
  show Ev (e + 1) 48 0 [.ref 35, .int (nI i), im_bad] [] sh mi mr _
  refine ev_s (is_aload_n rfl rfl) ?_
  refine ev_s (is_iload_n rfl rfl) ?_
  refine ev_q0 (is_callR 2 [_] [] rfl rfl rfl rfl rfl (Nat.le_of_ble_eq_true rfl) rfl rfl rfl hC.2.2.1.1) rfl rfl (hB _ _ _ _ (by omega) hT hb) (fun r_2 mi mr hq_2 => ?_)
  obtain ⟨hm_2, hr_2⟩ := hq_2
  subst hm_2
  subst hr_2
  refine ev_s (is_iconst (nI 0) rfl rfl) ?_
  refine ev_s (st_istore_n_2 rfl rfl) ?_
  refine ev_s (is_iload_n rfl rfl) ?_
  refine ev_s (is_sipush (nI 160) rfl rfl) ?_
  refine ev_s (is_icmp_ge_f rfl (by decide)) ?_
  refine ev_s (is_aload_n rfl rfl) ?_
  refine ev_s (is_getI' rfl hC.2.2.1.1 rfl rfl hb.1) ?_
  refine ev_s (is_bipush (nI 8) rfl rfl) ?_
  refine ev_s (is_icmp_ne_t rfl (by decide)) ?_
  refine ev_ret (is_return rfl) ?_
  exact ⟨rfl, rfl, rfl⟩
theorem xB_either (hC : xs_C sh mr t) (hB : xB_ t tb z sh mr 48 6) : xB_ t tb z sh mr 47 7 := by
  intro d mi f i hd hT hb
  obtain ⟨e, rfl⟩ : ∃ e, d = e + 1 := ⟨d - 1, by omega⟩
  show Ev (e + 1) 47 0 [.ref 35, .int (nI i), im_bad] [] sh mi mr _
  refine ev_s (is_aload_n rfl rfl) ?_
  refine ev_s (is_iload_n rfl rfl) ?_
  refine ev_q0 (is_callR 2 [_] [] rfl rfl rfl rfl rfl (Nat.le_of_ble_eq_true rfl) rfl rfl rfl hC.2.2.1.1) rfl rfl (hB _ _ _ _ (by omega) hT hb) (fun r_2 mi mr hq_2 => ?_)
  obtain ⟨hm_2, hr_2⟩ := hq_2
  subst hm_2
  subst hr_2
  refine ev_s (is_iconst (nI 0) rfl rfl) ?_
  refine ev_s (st_istore_n_2 rfl rfl) ?_
  refine ev_s (is_iload_n rfl rfl) ?_
  refine ev_s (is_sipush (nI 160) rfl rfl) ?_
  refine ev_s (is_icmp_ge_f rfl (by decide)) ?_
  refine ev_s (is_aload_n rfl rfl) ?_
  refine ev_s (is_getI' rfl hC.2.2.1.1 rfl rfl hb.1) ?_
  refine ev_s (is_bipush (nI 7) rfl rfl) ?_
  refine ev_s (is_icmp_ne_t rfl (by decide)) ?_
  refine ev_ret (is_return rfl) ?_
  exact ⟨rfl, rfl, rfl⟩
theorem xB_all (hC : xs_C sh mr t) : xB_ t tb z sh mr 53 2 ∧ xB_ t tb z sh mr 52 3 ∧ xB_ t tb z sh mr 49 5 ∧ xB_ t tb z sh mr 48 6 ∧ xB_ t tb z sh mr 47 7 := by
  have h1 := xB_product (tb := tb) (z := z) hC (xB_one hC)
  have h2 := xB_sum hC h1
  have h4 := xB_negated hC (xB_compared hC h2)
  have h5 := xB_both hC h4
  exact ⟨h1, h2, h4, h5, xB_either hC h5⟩
theorem xR_product (hC : xs_C sh mr t) {n : Nat} {k0 D0 : Nat} {x : pd_X} (h7 : 7 ≤ k0) (hR : xR_ t tb z sh mr 54 n k0 x) (hW : pd_W D0 x z) : xR_ t tb z sh mr 53 n (k0 + 1) (pd_ch (tk_k tb z) (tk_t tb z) op_mul 160 x) := by
  intro d mi p C hd hT hg
  obtain ⟨e, rfl⟩ : ∃ e, d = e + 8 := ⟨d - 8, by omega⟩
  have hz1 := hT.2.2.1
  show Ev (e + 8) 53 0 [.ref 35, .int (nI (5 - n)), im_bad] [] sh mi mr _
  have loopB : ∀ (i f : Nat) (ma : im_MI), i ≤ 160 → xb_ t ma f → Ev (e + 8) 53 7 [.ref 35, .int (nI (5 - n)), .int (nI i)] [] sh ma mr (fun r sh2 m2 r2 => sh2 = sh ∧ (m2 = ma ∧ r2 = mr)) := by
    intro i f ma hi hb
    by_cases c : i < 160
    · refine ev_s (is_iload_n rfl rfl) ?_
      refine ev_s (is_sipush (nI 160) rfl rfl) ?_
      refine ev_s (is_icmp_ge_f rfl (nI_ge (by omega) (by omega))) ?_
      refine ev_s (is_aload_n rfl rfl) ?_
      refine ev_s (is_getI' rfl hC.2.2.1.1 rfl rfl hb.1) ?_
      refine ev_s (is_bipush (nI 42) rfl rfl) ?_
      refine ev_s (is_icmp_ne_t rfl (by decide)) ?_
      refine ev_ret (is_return rfl) ?_
      exact ⟨rfl, rfl, rfl⟩
    · refine ev_s (is_iload_n rfl rfl) ?_
      refine ev_s (is_sipush (nI 160) rfl rfl) ?_
      refine ev_s (is_icmp_ge_t rfl (nI_le (by omega) (by omega))) ?_
      refine ev_ret (is_return rfl) ?_
      exact ⟨rfl, rfl, rfl⟩
  have loop : ∀ (j i : Nat) (ma : im_MI) (p2 : Nat) (cs : List Nat), i + j = 160 → sc_ (xw_S t) mi ma → xg_ t tb z ma p2 (C ++ cs) → Ev (e + 8) 53 7 [.ref 35, .int (nI (5 - n)), .int (nI i)] [] sh ma mr (fun r sh2 m2 r2 => sh2 = sh ∧ (r2 = mr ∧ sc_ (xw_S t) mi m2 ∧ xq_ t tb z C (pd_loop (tk_k tb z) (tk_t tb z) op_mul x j p2 cs) m2)) := by
    intro j
    induction j with
    | zero =>
      intro i ma p2 cs hi hs hg
      refine ev_s (is_iload_n rfl rfl) ?_
      refine ev_s (is_sipush (nI 160) rfl rfl) ?_
      refine ev_s (is_icmp_ge_t rfl (nI_le (by omega) (by omega))) ?_
      refine ev_ret (is_return rfl) ?_
      exact ⟨rfl, rfl, hs, hg⟩
    | succ j ih =>
      intro i ma p2 cs hi hs hg
      have hTa := xs_M_W hT hs
      refine ev_s (is_iload_n rfl rfl) ?_
      refine ev_s (is_sipush (nI 160) rfl rfl) ?_
      refine ev_s (is_icmp_ge_f rfl (nI_ge (by omega) (by omega))) ?_
      refine ev_s (is_aload_n rfl rfl) ?_
      refine ev_s (is_getI' rfl hC.2.2.1.1 rfl rfl hg.1.1) ?_
      refine ev_s (is_bipush (nI 42) rfl rfl) ?_
      refine ev_icmpN_ne rfl (by have := tk_lt (tb := tb) (z := z) hTa.2.2.2.1 p2; omega) (by omega) (fun h_20 => ?_) (fun h_20 => ?_)
      · refine ev_ret (is_return rfl) ?_
        have h0 : op_mul (tk_k tb z p2) = 0 := by unfold op_mul; rw [if_neg (by omega)]
        rw [pd_loop, if_pos h0]
        exact ⟨rfl, rfl, hs, hg⟩
      · have hop : ¬ op_mul (tk_k tb z p2) = 0 := by unfold op_mul; rw [if_pos h_20]; decide
        have hE : te_enc (op_mul (tk_k tb z p2)) = 0 * 64 + 42 := by unfold op_mul; rw [if_pos h_20]; rfl
        have hT2 := tk_T (tb := tb) (z := z) hz1 p2 hg.2.2.2.2 (by omega)
        have hCp := hg.2.2.2.1
        refine ev_s (is_aload_n rfl rfl) ?_
        refine ev_q0 (is_callR 1 [] [] rfl rfl rfl rfl rfl (Nat.le_of_ble_eq_true rfl) rfl rfl rfl hC.2.2.1.1) rfl rfl (xk_advance hC hTa (p := tk_t tb z p2) hT2.2 hg.1.2.2.2) (fun r_24 mi mr hq_24 => ?_)
        obtain ⟨rfl, hsc_24, hk2, h6⟩ := hq_24
        have hg2 : xg_ t tb z mi (tk_t tb z p2) (C ++ cs) := ⟨hk2, h6.trans hg.2.1, xc_S hg.2.2.1 hsc_24, by omega, hT2.2⟩
        have hs2 := hs.trans (hsc_24.mono fun _ => xs_kw)
        have hTb := xs_M_W hT hs2
        refine ev_s (is_aload_n rfl rfl) ?_
        refine ev_s (is_iload_n rfl rfl) ?_
        refine ev_q0 (is_callR 2 [_] [] rfl rfl rfl rfl rfl (Nat.le_of_ble_eq_true rfl) rfl rfl rfl hC.2.2.1.1) rfl rfl (hR _ _ _ _ (by omega) hTb hg2) (fun r_29 mi mr hq_29 => ?_)
        obtain ⟨rfl, hsc_29, hq3⟩ := hq_29
        have hs3 := hs2.trans hsc_29
        have hTc := xs_M_W hT hs3
        cases hx2 : x (tk_t tb z p2) with
        | inl f =>
          rw [hx2] at hq3
          have hb : xb_ t mi f := hq3
          refine ev_s (is_aload_n rfl rfl) ?_
          refine ev_s (is_getR rfl hC.2.2.1.1 rfl rfl hC.2.2.1.2.2) ?_
          refine ev_s (is_bipush (nI 42) rfl rfl) ?_
          refine ev_s (is_iconst (nI 0) rfl rfl) ?_
          refine ev_q0 (is_callR 3 [_, _] [] rfl rfl rfl rfl rfl (Nat.le_of_ble_eq_true rfl) rfl rfl rfl hC.2.2.2.1.1) rfl rfl (xk_addB hC hb.2.2.2 _ _) (fun r_39 mi mr hq_39 => ?_)
          obtain ⟨rfl, hsc_39, hb2⟩ := hq_39
          refine ev_s (st_iinc_2 _ rfl rfl (nI_inc _)) ?_
          refine ev_s (is_goto rfl) ?_
          have hb3 := xb_sc hb hsc_39 hb2
          refine ev_imp (loopB (i + 1) f _ (by omega) hb3) (fun r sh2 m2 r2 hh => ?_)
          obtain ⟨rfl, rfl, rfl⟩ := hh
          rw [pd_loop, if_neg hop, hx2]
          exact ⟨rfl, rfl, hs3.trans (hsc_39.mono fun _ => xs_aw), hb3⟩
        | inr q =>
          rw [hx2] at hq3
          have hg3 : xg_ t tb z mi q.1 (C ++ cs ++ q.2) := hq3
          obtain ⟨w1, w2, w3, w4⟩ := hW _ q.1 q.2 hT2.2 hx2
          have hlen : (C ++ cs ++ q.2).length + 1 ≤ q.1 := by rw [List.length_append]; omega
          refine ev_s (is_aload_n rfl rfl) ?_
          refine ev_s (is_getR rfl hC.2.2.1.1 rfl rfl hC.2.2.1.2.2) ?_
          refine ev_s (is_bipush (nI 42) rfl rfl) ?_
          refine ev_s (is_iconst (nI 0) rfl rfl) ?_
          refine ev_q0 (is_callR 3 [_, _] [] rfl rfl rfl rfl rfl (Nat.le_of_ble_eq_true rfl) rfl rfl rfl hC.2.2.2.1.1) rfl rfl (xk_add hC (c := op_mul (tk_k tb z p2)) hg3.2.2.1 (by omega) (s := 42) (v := 0) (by omega) (by decide) hE) (fun r_39 mi mr hq_39 => ?_)
          obtain ⟨rfl, hsc_39, hc4⟩ := hq_39
          refine ev_s (st_iinc_2 _ rfl rfl (nI_inc _)) ?_
          refine ev_s (is_goto rfl) ?_
          have hg4 := xg_sc hg3 hsc_39 hc4 (by omega)
          rw [app3] at hg4
          rw [pd_loop, if_neg hop, hx2]
          exact ih (i + 1) _ q.1 (cs ++ q.2 ++ [op_mul (tk_k tb z p2)]) (by omega) (hs3.trans (hsc_39.mono fun _ => xs_aw)) hg4
  refine ev_s (is_aload_n rfl rfl) ?_
  refine ev_s (is_iload_n rfl rfl) ?_
  refine ev_q0 (is_callR 2 [_] [] rfl rfl rfl rfl rfl (Nat.le_of_ble_eq_true rfl) rfl rfl rfl hC.2.2.1.1) rfl rfl (hR _ _ _ _ (by omega) hT hg) (fun r_2 mi mr hq_2 => ?_)
  obtain ⟨rfl, hsc_2, hq2⟩ := hq_2
  unfold pd_ch
  cases hx1 : x p with
  | inl f =>
    rw [hx1] at hq2
    have hb : xb_ t mi f := hq2
    refine ev_s (is_iconst (nI 0) rfl rfl) ?_
    refine ev_s (st_istore_n_2 rfl rfl) ?_
    refine ev_imp (loopB 0 f _ (by omega) hb) (fun r sh2 m2 r2 hh => ?_)
    obtain ⟨rfl, rfl, rfl⟩ := hh
    exact ⟨rfl, rfl, hsc_2, hb⟩
  | inr q =>
    rw [hx1] at hq2
    refine ev_s (is_iconst (nI 0) rfl rfl) ?_
    refine ev_s (st_istore_n_2 rfl rfl) ?_
    exact loop 160 0 mi q.1 q.2 (Nat.zero_add _) hsc_2 hq2
theorem xR_both (hC : xs_C sh mr t) {n : Nat} {k0 D0 : Nat} {x : pd_X} (h7 : 7 ≤ k0) (hR : xR_ t tb z sh mr 49 n k0 x) (hW : pd_W D0 x z) : xR_ t tb z sh mr 48 n (k0 + 1) (pd_ch (tk_k tb z) (tk_t tb z) op_and 160 x) := by
  intro d mi p C hd hT hg
  obtain ⟨e, rfl⟩ : ∃ e, d = e + 8 := ⟨d - 8, by omega⟩
  have hz1 := hT.2.2.1
  show Ev (e + 8) 48 0 [.ref 35, .int (nI (5 - n)), im_bad] [] sh mi mr _
  have loopB : ∀ (i f : Nat) (ma : im_MI), i ≤ 160 → xb_ t ma f → Ev (e + 8) 48 7 [.ref 35, .int (nI (5 - n)), .int (nI i)] [] sh ma mr (fun r sh2 m2 r2 => sh2 = sh ∧ (m2 = ma ∧ r2 = mr)) := by
    intro i f ma hi hb
    by_cases c : i < 160
    · refine ev_s (is_iload_n rfl rfl) ?_
      refine ev_s (is_sipush (nI 160) rfl rfl) ?_
      refine ev_s (is_icmp_ge_f rfl (nI_ge (by omega) (by omega))) ?_
      refine ev_s (is_aload_n rfl rfl) ?_
      refine ev_s (is_getI' rfl hC.2.2.1.1 rfl rfl hb.1) ?_
      refine ev_s (is_bipush (nI 8) rfl rfl) ?_
      refine ev_s (is_icmp_ne_t rfl (by decide)) ?_
      refine ev_ret (is_return rfl) ?_
      exact ⟨rfl, rfl, rfl⟩
    · refine ev_s (is_iload_n rfl rfl) ?_
      refine ev_s (is_sipush (nI 160) rfl rfl) ?_
      refine ev_s (is_icmp_ge_t rfl (nI_le (by omega) (by omega))) ?_
      refine ev_ret (is_return rfl) ?_
      exact ⟨rfl, rfl, rfl⟩
  have loop : ∀ (j i : Nat) (ma : im_MI) (p2 : Nat) (cs : List Nat), i + j = 160 → sc_ (xw_S t) mi ma → xg_ t tb z ma p2 (C ++ cs) → Ev (e + 8) 48 7 [.ref 35, .int (nI (5 - n)), .int (nI i)] [] sh ma mr (fun r sh2 m2 r2 => sh2 = sh ∧ (r2 = mr ∧ sc_ (xw_S t) mi m2 ∧ xq_ t tb z C (pd_loop (tk_k tb z) (tk_t tb z) op_and x j p2 cs) m2)) := by
    intro j
    induction j with
    | zero =>
      intro i ma p2 cs hi hs hg
      refine ev_s (is_iload_n rfl rfl) ?_
      refine ev_s (is_sipush (nI 160) rfl rfl) ?_
      refine ev_s (is_icmp_ge_t rfl (nI_le (by omega) (by omega))) ?_
      refine ev_ret (is_return rfl) ?_
      exact ⟨rfl, rfl, hs, hg⟩
    | succ j ih =>
      intro i ma p2 cs hi hs hg
      have hTa := xs_M_W hT hs
      refine ev_s (is_iload_n rfl rfl) ?_
      refine ev_s (is_sipush (nI 160) rfl rfl) ?_
      refine ev_s (is_icmp_ge_f rfl (nI_ge (by omega) (by omega))) ?_
      refine ev_s (is_aload_n rfl rfl) ?_
      refine ev_s (is_getI' rfl hC.2.2.1.1 rfl rfl hg.1.1) ?_
      refine ev_s (is_bipush (nI 8) rfl rfl) ?_
      refine ev_icmpN_ne rfl (by have := tk_lt (tb := tb) (z := z) hTa.2.2.2.1 p2; omega) (by omega) (fun h_20 => ?_) (fun h_20 => ?_)
      · refine ev_ret (is_return rfl) ?_
        have h0 : op_and (tk_k tb z p2) = 0 := by unfold op_and; rw [if_neg (by omega)]
        rw [pd_loop, if_pos h0]
        exact ⟨rfl, rfl, hs, hg⟩
      · have hop : ¬ op_and (tk_k tb z p2) = 0 := by unfold op_and; rw [if_pos h_20]; decide
        have hE : te_enc (op_and (tk_k tb z p2)) = 0 * 64 + 8 := by unfold op_and; rw [if_pos h_20]; rfl
        have hT2 := tk_T (tb := tb) (z := z) hz1 p2 hg.2.2.2.2 (by omega)
        have hCp := hg.2.2.2.1
        refine ev_s (is_aload_n rfl rfl) ?_
        refine ev_q0 (is_callR 1 [] [] rfl rfl rfl rfl rfl (Nat.le_of_ble_eq_true rfl) rfl rfl rfl hC.2.2.1.1) rfl rfl (xk_advance hC hTa (p := tk_t tb z p2) hT2.2 hg.1.2.2.2) (fun r_24 mi mr hq_24 => ?_)
        obtain ⟨rfl, hsc_24, hk2, h6⟩ := hq_24
        have hg2 : xg_ t tb z mi (tk_t tb z p2) (C ++ cs) := ⟨hk2, h6.trans hg.2.1, xc_S hg.2.2.1 hsc_24, by omega, hT2.2⟩
        have hs2 := hs.trans (hsc_24.mono fun _ => xs_kw)
        have hTb := xs_M_W hT hs2
        refine ev_s (is_aload_n rfl rfl) ?_
        refine ev_s (is_iload_n rfl rfl) ?_
        refine ev_q0 (is_callR 2 [_] [] rfl rfl rfl rfl rfl (Nat.le_of_ble_eq_true rfl) rfl rfl rfl hC.2.2.1.1) rfl rfl (hR _ _ _ _ (by omega) hTb hg2) (fun r_29 mi mr hq_29 => ?_)
        obtain ⟨rfl, hsc_29, hq3⟩ := hq_29
        have hs3 := hs2.trans hsc_29
        have hTc := xs_M_W hT hs3
        cases hx2 : x (tk_t tb z p2) with
        | inl f =>
          rw [hx2] at hq3
          have hb : xb_ t mi f := hq3
          refine ev_s (is_aload_n rfl rfl) ?_
          refine ev_s (is_getR rfl hC.2.2.1.1 rfl rfl hC.2.2.1.2.2) ?_
          refine ev_s (is_bipush (nI 8) rfl rfl) ?_
          refine ev_s (is_iconst (nI 0) rfl rfl) ?_
          refine ev_q0 (is_callR 3 [_, _] [] rfl rfl rfl rfl rfl (Nat.le_of_ble_eq_true rfl) rfl rfl rfl hC.2.2.2.1.1) rfl rfl (xk_addB hC hb.2.2.2 _ _) (fun r_39 mi mr hq_39 => ?_)
          obtain ⟨rfl, hsc_39, hb2⟩ := hq_39
          refine ev_s (st_iinc_2 _ rfl rfl (nI_inc _)) ?_
          refine ev_s (is_goto rfl) ?_
          have hb3 := xb_sc hb hsc_39 hb2
          refine ev_imp (loopB (i + 1) f _ (by omega) hb3) (fun r sh2 m2 r2 hh => ?_)
          obtain ⟨rfl, rfl, rfl⟩ := hh
          rw [pd_loop, if_neg hop, hx2]
          exact ⟨rfl, rfl, hs3.trans (hsc_39.mono fun _ => xs_aw), hb3⟩
        | inr q =>
          rw [hx2] at hq3
          have hg3 : xg_ t tb z mi q.1 (C ++ cs ++ q.2) := hq3
          obtain ⟨w1, w2, w3, w4⟩ := hW _ q.1 q.2 hT2.2 hx2
          have hlen : (C ++ cs ++ q.2).length + 1 ≤ q.1 := by rw [List.length_append]; omega
          refine ev_s (is_aload_n rfl rfl) ?_
          refine ev_s (is_getR rfl hC.2.2.1.1 rfl rfl hC.2.2.1.2.2) ?_
          refine ev_s (is_bipush (nI 8) rfl rfl) ?_
          refine ev_s (is_iconst (nI 0) rfl rfl) ?_
          refine ev_q0 (is_callR 3 [_, _] [] rfl rfl rfl rfl rfl (Nat.le_of_ble_eq_true rfl) rfl rfl rfl hC.2.2.2.1.1) rfl rfl (xk_add hC (c := op_and (tk_k tb z p2)) hg3.2.2.1 (by omega) (s := 8) (v := 0) (by omega) (by decide) hE) (fun r_39 mi mr hq_39 => ?_)
          obtain ⟨rfl, hsc_39, hc4⟩ := hq_39
          refine ev_s (st_iinc_2 _ rfl rfl (nI_inc _)) ?_
          refine ev_s (is_goto rfl) ?_
          have hg4 := xg_sc hg3 hsc_39 hc4 (by omega)
          rw [app3] at hg4
          rw [pd_loop, if_neg hop, hx2]
          exact ih (i + 1) _ q.1 (cs ++ q.2 ++ [op_and (tk_k tb z p2)]) (by omega) (hs3.trans (hsc_39.mono fun _ => xs_aw)) hg4
  refine ev_s (is_aload_n rfl rfl) ?_
  refine ev_s (is_iload_n rfl rfl) ?_
  refine ev_q0 (is_callR 2 [_] [] rfl rfl rfl rfl rfl (Nat.le_of_ble_eq_true rfl) rfl rfl rfl hC.2.2.1.1) rfl rfl (hR _ _ _ _ (by omega) hT hg) (fun r_2 mi mr hq_2 => ?_)
  obtain ⟨rfl, hsc_2, hq2⟩ := hq_2
  unfold pd_ch
  cases hx1 : x p with
  | inl f =>
    rw [hx1] at hq2
    have hb : xb_ t mi f := hq2
    refine ev_s (is_iconst (nI 0) rfl rfl) ?_
    refine ev_s (st_istore_n_2 rfl rfl) ?_
    refine ev_imp (loopB 0 f _ (by omega) hb) (fun r sh2 m2 r2 hh => ?_)
    obtain ⟨rfl, rfl, rfl⟩ := hh
    exact ⟨rfl, rfl, hsc_2, hb⟩
  | inr q =>
    rw [hx1] at hq2
    refine ev_s (is_iconst (nI 0) rfl rfl) ?_
    refine ev_s (st_istore_n_2 rfl rfl) ?_
    exact loop 160 0 mi q.1 q.2 (Nat.zero_add _) hsc_2 hq2
theorem xR_either (hC : xs_C sh mr t) {n : Nat} {k0 D0 : Nat} {x : pd_X} (h7 : 7 ≤ k0) (hR : xR_ t tb z sh mr 48 n k0 x) (hW : pd_W D0 x z) : xR_ t tb z sh mr 47 n (k0 + 1) (pd_ch (tk_k tb z) (tk_t tb z) op_or 160 x) := by
  intro d mi p C hd hT hg
  obtain ⟨e, rfl⟩ : ∃ e, d = e + 8 := ⟨d - 8, by omega⟩
  have hz1 := hT.2.2.1
  show Ev (e + 8) 47 0 [.ref 35, .int (nI (5 - n)), im_bad] [] sh mi mr _
  have loopB : ∀ (i f : Nat) (ma : im_MI), i ≤ 160 → xb_ t ma f → Ev (e + 8) 47 7 [.ref 35, .int (nI (5 - n)), .int (nI i)] [] sh ma mr (fun r sh2 m2 r2 => sh2 = sh ∧ (m2 = ma ∧ r2 = mr)) := by
    intro i f ma hi hb
    by_cases c : i < 160
    · refine ev_s (is_iload_n rfl rfl) ?_
      refine ev_s (is_sipush (nI 160) rfl rfl) ?_
      refine ev_s (is_icmp_ge_f rfl (nI_ge (by omega) (by omega))) ?_
      refine ev_s (is_aload_n rfl rfl) ?_
      refine ev_s (is_getI' rfl hC.2.2.1.1 rfl rfl hb.1) ?_
      refine ev_s (is_bipush (nI 7) rfl rfl) ?_
      refine ev_s (is_icmp_ne_t rfl (by decide)) ?_
      refine ev_ret (is_return rfl) ?_
      exact ⟨rfl, rfl, rfl⟩
    · refine ev_s (is_iload_n rfl rfl) ?_
      refine ev_s (is_sipush (nI 160) rfl rfl) ?_
      refine ev_s (is_icmp_ge_t rfl (nI_le (by omega) (by omega))) ?_
      refine ev_ret (is_return rfl) ?_
      exact ⟨rfl, rfl, rfl⟩
  have loop : ∀ (j i : Nat) (ma : im_MI) (p2 : Nat) (cs : List Nat), i + j = 160 → sc_ (xw_S t) mi ma → xg_ t tb z ma p2 (C ++ cs) → Ev (e + 8) 47 7 [.ref 35, .int (nI (5 - n)), .int (nI i)] [] sh ma mr (fun r sh2 m2 r2 => sh2 = sh ∧ (r2 = mr ∧ sc_ (xw_S t) mi m2 ∧ xq_ t tb z C (pd_loop (tk_k tb z) (tk_t tb z) op_or x j p2 cs) m2)) := by
    intro j
    induction j with
    | zero =>
      intro i ma p2 cs hi hs hg
      refine ev_s (is_iload_n rfl rfl) ?_
      refine ev_s (is_sipush (nI 160) rfl rfl) ?_
      refine ev_s (is_icmp_ge_t rfl (nI_le (by omega) (by omega))) ?_
      refine ev_ret (is_return rfl) ?_
      exact ⟨rfl, rfl, hs, hg⟩
    | succ j ih =>
      intro i ma p2 cs hi hs hg
      have hTa := xs_M_W hT hs
      refine ev_s (is_iload_n rfl rfl) ?_
      refine ev_s (is_sipush (nI 160) rfl rfl) ?_
      refine ev_s (is_icmp_ge_f rfl (nI_ge (by omega) (by omega))) ?_
      refine ev_s (is_aload_n rfl rfl) ?_
      refine ev_s (is_getI' rfl hC.2.2.1.1 rfl rfl hg.1.1) ?_
      refine ev_s (is_bipush (nI 7) rfl rfl) ?_
      refine ev_icmpN_ne rfl (by have := tk_lt (tb := tb) (z := z) hTa.2.2.2.1 p2; omega) (by omega) (fun h_20 => ?_) (fun h_20 => ?_)
      · refine ev_ret (is_return rfl) ?_
        have h0 : op_or (tk_k tb z p2) = 0 := by unfold op_or; rw [if_neg (by omega)]
        rw [pd_loop, if_pos h0]
        exact ⟨rfl, rfl, hs, hg⟩
      · have hop : ¬ op_or (tk_k tb z p2) = 0 := by unfold op_or; rw [if_pos h_20]; decide
        have hE : te_enc (op_or (tk_k tb z p2)) = 0 * 64 + 7 := by unfold op_or; rw [if_pos h_20]; rfl
        have hT2 := tk_T (tb := tb) (z := z) hz1 p2 hg.2.2.2.2 (by omega)
        have hCp := hg.2.2.2.1
        refine ev_s (is_aload_n rfl rfl) ?_
        refine ev_q0 (is_callR 1 [] [] rfl rfl rfl rfl rfl (Nat.le_of_ble_eq_true rfl) rfl rfl rfl hC.2.2.1.1) rfl rfl (xk_advance hC hTa (p := tk_t tb z p2) hT2.2 hg.1.2.2.2) (fun r_24 mi mr hq_24 => ?_)
        obtain ⟨rfl, hsc_24, hk2, h6⟩ := hq_24
        have hg2 : xg_ t tb z mi (tk_t tb z p2) (C ++ cs) := ⟨hk2, h6.trans hg.2.1, xc_S hg.2.2.1 hsc_24, by omega, hT2.2⟩
        have hs2 := hs.trans (hsc_24.mono fun _ => xs_kw)
        have hTb := xs_M_W hT hs2
        refine ev_s (is_aload_n rfl rfl) ?_
        refine ev_s (is_iload_n rfl rfl) ?_
        refine ev_q0 (is_callR 2 [_] [] rfl rfl rfl rfl rfl (Nat.le_of_ble_eq_true rfl) rfl rfl rfl hC.2.2.1.1) rfl rfl (hR _ _ _ _ (by omega) hTb hg2) (fun r_29 mi mr hq_29 => ?_)
        obtain ⟨rfl, hsc_29, hq3⟩ := hq_29
        have hs3 := hs2.trans hsc_29
        have hTc := xs_M_W hT hs3
        cases hx2 : x (tk_t tb z p2) with
        | inl f =>
          rw [hx2] at hq3
          have hb : xb_ t mi f := hq3
          refine ev_s (is_aload_n rfl rfl) ?_
          refine ev_s (is_getR rfl hC.2.2.1.1 rfl rfl hC.2.2.1.2.2) ?_
          refine ev_s (is_bipush (nI 7) rfl rfl) ?_
          refine ev_s (is_iconst (nI 0) rfl rfl) ?_
          refine ev_q0 (is_callR 3 [_, _] [] rfl rfl rfl rfl rfl (Nat.le_of_ble_eq_true rfl) rfl rfl rfl hC.2.2.2.1.1) rfl rfl (xk_addB hC hb.2.2.2 _ _) (fun r_39 mi mr hq_39 => ?_)
          obtain ⟨rfl, hsc_39, hb2⟩ := hq_39
          refine ev_s (st_iinc_2 _ rfl rfl (nI_inc _)) ?_
          refine ev_s (is_goto rfl) ?_
          have hb3 := xb_sc hb hsc_39 hb2
          refine ev_imp (loopB (i + 1) f _ (by omega) hb3) (fun r sh2 m2 r2 hh => ?_)
          obtain ⟨rfl, rfl, rfl⟩ := hh
          rw [pd_loop, if_neg hop, hx2]
          exact ⟨rfl, rfl, hs3.trans (hsc_39.mono fun _ => xs_aw), hb3⟩
        | inr q =>
          rw [hx2] at hq3
          have hg3 : xg_ t tb z mi q.1 (C ++ cs ++ q.2) := hq3
          obtain ⟨w1, w2, w3, w4⟩ := hW _ q.1 q.2 hT2.2 hx2
          have hlen : (C ++ cs ++ q.2).length + 1 ≤ q.1 := by rw [List.length_append]; omega
          refine ev_s (is_aload_n rfl rfl) ?_
          refine ev_s (is_getR rfl hC.2.2.1.1 rfl rfl hC.2.2.1.2.2) ?_
          refine ev_s (is_bipush (nI 7) rfl rfl) ?_
          refine ev_s (is_iconst (nI 0) rfl rfl) ?_
          refine ev_q0 (is_callR 3 [_, _] [] rfl rfl rfl rfl rfl (Nat.le_of_ble_eq_true rfl) rfl rfl rfl hC.2.2.2.1.1) rfl rfl (xk_add hC (c := op_or (tk_k tb z p2)) hg3.2.2.1 (by omega) (s := 7) (v := 0) (by omega) (by decide) hE) (fun r_39 mi mr hq_39 => ?_)
          obtain ⟨rfl, hsc_39, hc4⟩ := hq_39
          refine ev_s (st_iinc_2 _ rfl rfl (nI_inc _)) ?_
          refine ev_s (is_goto rfl) ?_
          have hg4 := xg_sc hg3 hsc_39 hc4 (by omega)
          rw [app3] at hg4
          rw [pd_loop, if_neg hop, hx2]
          exact ih (i + 1) _ q.1 (cs ++ q.2 ++ [op_or (tk_k tb z p2)]) (by omega) (hs3.trans (hsc_39.mono fun _ => xs_aw)) hg4
  refine ev_s (is_aload_n rfl rfl) ?_
  refine ev_s (is_iload_n rfl rfl) ?_
  refine ev_q0 (is_callR 2 [_] [] rfl rfl rfl rfl rfl (Nat.le_of_ble_eq_true rfl) rfl rfl rfl hC.2.2.1.1) rfl rfl (hR _ _ _ _ (by omega) hT hg) (fun r_2 mi mr hq_2 => ?_)
  obtain ⟨rfl, hsc_2, hq2⟩ := hq_2
  unfold pd_ch
  cases hx1 : x p with
  | inl f =>
    rw [hx1] at hq2
    have hb : xb_ t mi f := hq2
    refine ev_s (is_iconst (nI 0) rfl rfl) ?_
    refine ev_s (st_istore_n_2 rfl rfl) ?_
    refine ev_imp (loopB 0 f _ (by omega) hb) (fun r sh2 m2 r2 hh => ?_)
    obtain ⟨rfl, rfl, rfl⟩ := hh
    exact ⟨rfl, rfl, hsc_2, hb⟩
  | inr q =>
    rw [hx1] at hq2
    refine ev_s (is_iconst (nI 0) rfl rfl) ?_
    refine ev_s (st_istore_n_2 rfl rfl) ?_
    exact loop 160 0 mi q.1 q.2 (Nat.zero_add _) hsc_2 hq2
theorem xR_sum (hC : xs_C sh mr t) {n : Nat} {k0 D0 : Nat} {x : pd_X} (h7 : 7 ≤ k0) (hR : xR_ t tb z sh mr 53 n k0 x) (hW : pd_W D0 x z) : xR_ t tb z sh mr 52 n (k0 + 1) (pd_ch (tk_k tb z) (tk_t tb z) op_add 160 x) := by
  intro d mi p C hd hT hg
  obtain ⟨e, rfl⟩ : ∃ e, d = e + 8 := ⟨d - 8, by omega⟩
  have hz1 := hT.2.2.1
  show Ev (e + 8) 52 0 [.ref 35, .int (nI (5 - n)), im_bad, im_bad] [] sh mi mr _
  have loopB : ∀ (i f : Nat) (v3 : Value) (ma : im_MI), i ≤ 160 → xb_ t ma f → Ev (e + 8) 52 7 [.ref 35, .int (nI (5 - n)), .int (nI i), v3] [] sh ma mr (fun r sh2 m2 r2 => sh2 = sh ∧ (m2 = ma ∧ r2 = mr)) := by
    intro i f v3 ma hi hb
    by_cases c : i < 160
    · refine ev_s (is_iload_n rfl rfl) ?_
      refine ev_s (is_sipush (nI 160) rfl rfl) ?_
      refine ev_s (is_icmp_ge_f rfl (nI_ge (by omega) (by omega))) ?_
      refine ev_s (is_aload_n rfl rfl) ?_
      refine ev_s (is_getI' rfl hC.2.2.1.1 rfl rfl hb.1) ?_
      refine ev_s (is_bipush (nI 43) rfl rfl) ?_
      refine ev_s (is_icmp_eq_f rfl (by decide)) ?_
      refine ev_s (is_aload_n rfl rfl) ?_
      refine ev_s (is_getI' rfl hC.2.2.1.1 rfl rfl hb.1) ?_
      refine ev_s (is_bipush (nI 45) rfl rfl) ?_
      refine ev_s (is_icmp_ne_t rfl (by decide)) ?_
      refine ev_ret (is_return rfl) ?_
      exact ⟨rfl, rfl, rfl⟩
    · refine ev_s (is_iload_n rfl rfl) ?_
      refine ev_s (is_sipush (nI 160) rfl rfl) ?_
      refine ev_s (is_icmp_ge_t rfl (nI_le (by omega) (by omega))) ?_
      refine ev_ret (is_return rfl) ?_
      exact ⟨rfl, rfl, rfl⟩
  have loop : ∀ (j i : Nat) (v3 : Value) (ma : im_MI) (p2 : Nat) (cs : List Nat), i + j = 160 → sc_ (xw_S t) mi ma → xg_ t tb z ma p2 (C ++ cs) → Ev (e + 8) 52 7 [.ref 35, .int (nI (5 - n)), .int (nI i), v3] [] sh ma mr (fun r sh2 m2 r2 => sh2 = sh ∧ (r2 = mr ∧ sc_ (xw_S t) mi m2 ∧ xq_ t tb z C (pd_loop (tk_k tb z) (tk_t tb z) op_add x j p2 cs) m2)) := by
    intro j
    induction j with
    | zero =>
      intro i v3 ma p2 cs hi hs hg
      refine ev_s (is_iload_n rfl rfl) ?_
      refine ev_s (is_sipush (nI 160) rfl rfl) ?_
      refine ev_s (is_icmp_ge_t rfl (nI_le (by omega) (by omega))) ?_
      refine ev_ret (is_return rfl) ?_
      exact ⟨rfl, rfl, hs, hg⟩
    | succ j ih =>
      intro i v3 ma p2 cs hi hs hg
      have hTa := xs_M_W hT hs
      refine ev_s (is_iload_n rfl rfl) ?_
      refine ev_s (is_sipush (nI 160) rfl rfl) ?_
      refine ev_s (is_icmp_ge_f rfl (nI_ge (by omega) (by omega))) ?_
      refine ev_s (is_aload_n rfl rfl) ?_
      refine ev_s (is_getI' rfl hC.2.2.1.1 rfl rfl hg.1.1) ?_
      refine ev_s (is_bipush (nI 43) rfl rfl) ?_
      refine ev_icmpN_eq rfl (by have := tk_lt (tb := tb) (z := z) hTa.2.2.2.1 p2; omega) (by omega) (fun h_20 => ?_) (fun h_20 => ?_)
      · refine ev_s (is_aload_n rfl rfl) ?_
        refine ev_s (is_getI' rfl hC.2.2.1.1 rfl rfl hg.1.1) ?_
        refine ev_s (st_istore_n_3 rfl rfl) ?_
        have hop : ¬ op_add (tk_k tb z p2) = 0 := by unfold op_add; first
          | (rw [if_pos h_20]; decide)
          | (rw [if_neg (by omega), if_pos h_29]; decide)
        have hE : te_enc (op_add (tk_k tb z p2)) = 0 * 64 + tk_k tb z p2 := by unfold op_add; first
          | (rw [if_pos h_20, h_20]; rfl)
          | (rw [if_neg (by omega), if_pos h_29, h_29]; rfl)
        have hT2 := tk_T (tb := tb) (z := z) hz1 p2 hg.2.2.2.2 (by omega)
        have hCp := hg.2.2.2.1
        refine ev_s (is_aload_n rfl rfl) ?_
        refine ev_q0 (is_callR 1 [] [] rfl rfl rfl rfl rfl (Nat.le_of_ble_eq_true rfl) rfl rfl rfl hC.2.2.1.1) rfl rfl (xk_advance hC hTa (p := tk_t tb z p2) hT2.2 hg.1.2.2.2) (fun r_38 mi mr hq_38 => ?_)
        obtain ⟨rfl, hsc_38, hk2, h6⟩ := hq_38
        have hg2 : xg_ t tb z mi (tk_t tb z p2) (C ++ cs) := ⟨hk2, h6.trans hg.2.1, xc_S hg.2.2.1 hsc_38, by omega, hT2.2⟩
        have hs2 := hs.trans (hsc_38.mono fun _ => xs_kw)
        have hTb := xs_M_W hT hs2
        refine ev_s (is_aload_n rfl rfl) ?_
        refine ev_s (is_iload_n rfl rfl) ?_
        refine ev_q0 (is_callR 2 [_] [] rfl rfl rfl rfl rfl (Nat.le_of_ble_eq_true rfl) rfl rfl rfl hC.2.2.1.1) rfl rfl (hR _ _ _ _ (by omega) hTb hg2) (fun r_43 mi mr hq_43 => ?_)
        obtain ⟨rfl, hsc_43, hq3⟩ := hq_43
        have hs3 := hs2.trans hsc_43
        have hTc := xs_M_W hT hs3
        cases hx2 : x (tk_t tb z p2) with
        | inl f =>
          rw [hx2] at hq3
          have hb : xb_ t mi f := hq3
          refine ev_s (is_aload_n rfl rfl) ?_
          refine ev_s (is_getR rfl hC.2.2.1.1 rfl rfl hC.2.2.1.2.2) ?_
          refine ev_s (is_iload_n rfl rfl) ?_
          refine ev_s (is_iconst (nI 0) rfl rfl) ?_
          refine ev_q0 (is_callR 3 [_, _] [] rfl rfl rfl rfl rfl (Nat.le_of_ble_eq_true rfl) rfl rfl rfl hC.2.2.2.1.1) rfl rfl (xk_addB hC hb.2.2.2 _ _) (fun r_52 mi mr hq_52 => ?_)
          obtain ⟨rfl, hsc_52, hb2⟩ := hq_52
          refine ev_s (st_iinc_2 _ rfl rfl (nI_inc _)) ?_
          refine ev_s (is_goto rfl) ?_
          have hb3 := xb_sc hb hsc_52 hb2
          refine ev_imp (loopB (i + 1) f _ _ (by omega) hb3) (fun r sh2 m2 r2 hh => ?_)
          obtain ⟨rfl, rfl, rfl⟩ := hh
          rw [pd_loop, if_neg hop, hx2]
          exact ⟨rfl, rfl, hs3.trans (hsc_52.mono fun _ => xs_aw), hb3⟩
        | inr q =>
          rw [hx2] at hq3
          have hg3 : xg_ t tb z mi q.1 (C ++ cs ++ q.2) := hq3
          obtain ⟨w1, w2, w3, w4⟩ := hW _ q.1 q.2 hT2.2 hx2
          have hlen : (C ++ cs ++ q.2).length + 1 ≤ q.1 := by rw [List.length_append]; omega
          refine ev_s (is_aload_n rfl rfl) ?_
          refine ev_s (is_getR rfl hC.2.2.1.1 rfl rfl hC.2.2.1.2.2) ?_
          refine ev_s (is_iload_n rfl rfl) ?_
          refine ev_s (is_iconst (nI 0) rfl rfl) ?_
          refine ev_q0 (is_callR 3 [_, _] [] rfl rfl rfl rfl rfl (Nat.le_of_ble_eq_true rfl) rfl rfl rfl hC.2.2.2.1.1) rfl rfl (xk_add hC (c := op_add (tk_k tb z p2)) hg3.2.2.1 (by omega) (s := tk_k tb z p2) (v := 0) (by omega) (by decide) hE) (fun r_52 mi mr hq_52 => ?_)
          obtain ⟨rfl, hsc_52, hc4⟩ := hq_52
          refine ev_s (st_iinc_2 _ rfl rfl (nI_inc _)) ?_
          refine ev_s (is_goto rfl) ?_
          have hg4 := xg_sc hg3 hsc_52 hc4 (by omega)
          rw [app3] at hg4
          rw [pd_loop, if_neg hop, hx2]
          exact ih (i + 1) _ _ q.1 (cs ++ q.2 ++ [op_add (tk_k tb z p2)]) (by omega) (hs3.trans (hsc_52.mono fun _ => xs_aw)) hg4
      · refine ev_s (is_aload_n rfl rfl) ?_
        refine ev_s (is_getI' rfl hC.2.2.1.1 rfl rfl hg.1.1) ?_
        refine ev_s (is_bipush (nI 45) rfl rfl) ?_
        refine ev_icmpN_ne rfl (by have := tk_lt (tb := tb) (z := z) hTa.2.2.2.1 p2; omega) (by omega) (fun h_29 => ?_) (fun h_29 => ?_)
        · refine ev_ret (is_return rfl) ?_
          have h0 : op_add (tk_k tb z p2) = 0 := by unfold op_add; rw [if_neg (by omega), if_neg (by omega)]
          rw [pd_loop, if_pos h0]
          exact ⟨rfl, rfl, hs, hg⟩
        · refine ev_s (is_aload_n rfl rfl) ?_
          refine ev_s (is_getI' rfl hC.2.2.1.1 rfl rfl hg.1.1) ?_
          refine ev_s (st_istore_n_3 rfl rfl) ?_
          have hop : ¬ op_add (tk_k tb z p2) = 0 := by unfold op_add; first
            | (rw [if_pos h_20]; decide)
            | (rw [if_neg (by omega), if_pos h_29]; decide)
          have hE : te_enc (op_add (tk_k tb z p2)) = 0 * 64 + tk_k tb z p2 := by unfold op_add; first
            | (rw [if_pos h_20, h_20]; rfl)
            | (rw [if_neg (by omega), if_pos h_29, h_29]; rfl)
          have hT2 := tk_T (tb := tb) (z := z) hz1 p2 hg.2.2.2.2 (by omega)
          have hCp := hg.2.2.2.1
          refine ev_s (is_aload_n rfl rfl) ?_
          refine ev_q0 (is_callR 1 [] [] rfl rfl rfl rfl rfl (Nat.le_of_ble_eq_true rfl) rfl rfl rfl hC.2.2.1.1) rfl rfl (xk_advance hC hTa (p := tk_t tb z p2) hT2.2 hg.1.2.2.2) (fun r_38 mi mr hq_38 => ?_)
          obtain ⟨rfl, hsc_38, hk2, h6⟩ := hq_38
          have hg2 : xg_ t tb z mi (tk_t tb z p2) (C ++ cs) := ⟨hk2, h6.trans hg.2.1, xc_S hg.2.2.1 hsc_38, by omega, hT2.2⟩
          have hs2 := hs.trans (hsc_38.mono fun _ => xs_kw)
          have hTb := xs_M_W hT hs2
          refine ev_s (is_aload_n rfl rfl) ?_
          refine ev_s (is_iload_n rfl rfl) ?_
          refine ev_q0 (is_callR 2 [_] [] rfl rfl rfl rfl rfl (Nat.le_of_ble_eq_true rfl) rfl rfl rfl hC.2.2.1.1) rfl rfl (hR _ _ _ _ (by omega) hTb hg2) (fun r_43 mi mr hq_43 => ?_)
          obtain ⟨rfl, hsc_43, hq3⟩ := hq_43
          have hs3 := hs2.trans hsc_43
          have hTc := xs_M_W hT hs3
          cases hx2 : x (tk_t tb z p2) with
          | inl f =>
            rw [hx2] at hq3
            have hb : xb_ t mi f := hq3
            refine ev_s (is_aload_n rfl rfl) ?_
            refine ev_s (is_getR rfl hC.2.2.1.1 rfl rfl hC.2.2.1.2.2) ?_
            refine ev_s (is_iload_n rfl rfl) ?_
            refine ev_s (is_iconst (nI 0) rfl rfl) ?_
            refine ev_q0 (is_callR 3 [_, _] [] rfl rfl rfl rfl rfl (Nat.le_of_ble_eq_true rfl) rfl rfl rfl hC.2.2.2.1.1) rfl rfl (xk_addB hC hb.2.2.2 _ _) (fun r_52 mi mr hq_52 => ?_)
            obtain ⟨rfl, hsc_52, hb2⟩ := hq_52
            refine ev_s (st_iinc_2 _ rfl rfl (nI_inc _)) ?_
            refine ev_s (is_goto rfl) ?_
            have hb3 := xb_sc hb hsc_52 hb2
            refine ev_imp (loopB (i + 1) f _ _ (by omega) hb3) (fun r sh2 m2 r2 hh => ?_)
            obtain ⟨rfl, rfl, rfl⟩ := hh
            rw [pd_loop, if_neg hop, hx2]
            exact ⟨rfl, rfl, hs3.trans (hsc_52.mono fun _ => xs_aw), hb3⟩
          | inr q =>
            rw [hx2] at hq3
            have hg3 : xg_ t tb z mi q.1 (C ++ cs ++ q.2) := hq3
            obtain ⟨w1, w2, w3, w4⟩ := hW _ q.1 q.2 hT2.2 hx2
            have hlen : (C ++ cs ++ q.2).length + 1 ≤ q.1 := by rw [List.length_append]; omega
            refine ev_s (is_aload_n rfl rfl) ?_
            refine ev_s (is_getR rfl hC.2.2.1.1 rfl rfl hC.2.2.1.2.2) ?_
            refine ev_s (is_iload_n rfl rfl) ?_
            refine ev_s (is_iconst (nI 0) rfl rfl) ?_
            refine ev_q0 (is_callR 3 [_, _] [] rfl rfl rfl rfl rfl (Nat.le_of_ble_eq_true rfl) rfl rfl rfl hC.2.2.2.1.1) rfl rfl (xk_add hC (c := op_add (tk_k tb z p2)) hg3.2.2.1 (by omega) (s := tk_k tb z p2) (v := 0) (by omega) (by decide) hE) (fun r_52 mi mr hq_52 => ?_)
            obtain ⟨rfl, hsc_52, hc4⟩ := hq_52
            refine ev_s (st_iinc_2 _ rfl rfl (nI_inc _)) ?_
            refine ev_s (is_goto rfl) ?_
            have hg4 := xg_sc hg3 hsc_52 hc4 (by omega)
            rw [app3] at hg4
            rw [pd_loop, if_neg hop, hx2]
            exact ih (i + 1) _ _ q.1 (cs ++ q.2 ++ [op_add (tk_k tb z p2)]) (by omega) (hs3.trans (hsc_52.mono fun _ => xs_aw)) hg4
  refine ev_s (is_aload_n rfl rfl) ?_
  refine ev_s (is_iload_n rfl rfl) ?_
  refine ev_q0 (is_callR 2 [_] [] rfl rfl rfl rfl rfl (Nat.le_of_ble_eq_true rfl) rfl rfl rfl hC.2.2.1.1) rfl rfl (hR _ _ _ _ (by omega) hT hg) (fun r_2 mi mr hq_2 => ?_)
  obtain ⟨rfl, hsc_2, hq2⟩ := hq_2
  unfold pd_ch
  cases hx1 : x p with
  | inl f =>
    rw [hx1] at hq2
    have hb : xb_ t mi f := hq2
    refine ev_s (is_iconst (nI 0) rfl rfl) ?_
    refine ev_s (st_istore_n_2 rfl rfl) ?_
    refine ev_imp (loopB 0 f _ _ (by omega) hb) (fun r sh2 m2 r2 hh => ?_)
    obtain ⟨rfl, rfl, rfl⟩ := hh
    exact ⟨rfl, rfl, hsc_2, hb⟩
  | inr q =>
    rw [hx1] at hq2
    refine ev_s (is_iconst (nI 0) rfl rfl) ?_
    refine ev_s (st_istore_n_2 rfl rfl) ?_
    exact loop 160 0 _ mi q.1 q.2 (Nat.zero_add _) hsc_2 hq2
end RULES
