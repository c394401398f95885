/-! ===== PURE, the class: better, swap ===== -/

theorem x_better {d : Nat} {sh : im_Sh} {mi : im_MI} {mr : im_MR} (hC : pu_C sh mr) {H : ho_T} {G : ho_G} (hx : xa_ok H G mi mr) (m w : Int32) : EvM (d + 7) 79 [.ref 29, .int m, .int w] sh mi mr (fun r sh2 m2 r2 => sh2 = sh ∧ (r = .int (an_better H G m w) ∧ r2 = mr ∧ sc_ xQ mi m2)) := by
  show Ev (d + 7) 79 0 [.ref 29, .int m, .int w, im_bad, im_bad, im_bad, im_bad, im_bad, im_bad, im_bad, im_bad] [] sh mi mr _
  have hn6 := xa_n hx
  have hs : sc_ xQ mi mi := sc_rf
  refine ev_s (is_aload_n rfl rfl) ?_
  refine ev_s (is_iload_n rfl rfl) ?_
  refine ev_c1 (is_callR 2 [_] [] rfl rfl rfl rfl rfl (Nat.le_of_ble_eq_true rfl) rfl rfl rfl (pu_s hC 29 rfl rfl)) rfl rfl (x_noMan' hC hx _) ?_
  refine ev_ifB_eq rfl (fun h_5 => ?_) (fun h_5 => ?_)
  · have h_5 := Decidable.of_not_not h_5
    obtain ⟨m0, rfl, hm0, em0⟩ := ho_isM_n hn6 h_5
    refine ev_s (is_iload_n rfl rfl) ?_
    refine ev_s (is_iconst (nI 0) rfl rfl) ?_
    refine ev_s (is_iconst (nI 1) rfl rfl) ?_
    refine ev_c1 (is_call0 3 [_, _, _] [] rfl rfl rfl rfl rfl (Nat.le_of_ble_eq_true rfl) rfl rfl rfl) rfl rfl (x_within' _ _ _) ?_
    refine ev_ifB_ne rfl (fun h_17 => ?_) (fun h_17 => ?_)
    · rw [show an_better H G (nI m0) w = (if w = nI 0 then (be_h H G m0 12).1 else nI (be_h H G m0 12).2) by simp [an_better, h_5, h_17, em0]]
      have hal0 := ho_all_le (H := H) G hn6
      have inner : ∀ (h : Nat) (p0 : Int32 × Nat), h < 12 → p0.2 ≤ ho_all H G → (∀ (w9 w10 : Value) (ma : im_MI), xa_ok H G ma mr → sc_ xQ mi ma → Ev (d + 7) 79 134 [.ref 29, .int (nI m0), .int w, xoc (ho_mcell H m0), .int (nI (ho_all H G)), .int (nI (be_d H G m0 h 6 p0).2), .int (be_d H G m0 h 6 p0).1, .int (nI h), .int (nI (ho_all H G) - nI (md_bothO G (H 0 3) (H 0 1) (ho_row H m0) (ho_mcell H m0) (ho_mrow H m0) h)), w9, w10] [] sh ma mr (fun r sh2 m2 r2 => sh2 = sh ∧ (r = .int (if w = nI 0 then (be_h H G m0 12).1 else nI (be_h H G m0 12).2) ∧ r2 = mr ∧ sc_ xQ mi m2))) → ∀ (w10 : Value) (ma : im_MI), xa_ok H G ma mr → sc_ xQ mi ma → Ev (d + 7) 79 76 [.ref 29, .int (nI m0), .int w, xoc (ho_mcell H m0), .int (nI (ho_all H G)), .int (nI p0.2), .int p0.1, .int (nI h), .int (nI (ho_all H G) - nI (md_bothO G (H 0 3) (H 0 1) (ho_row H m0) (ho_mcell H m0) (ho_mrow H m0) h)), .int (nI 0), w10] [] sh ma mr (fun r sh2 m2 r2 => sh2 = sh ∧ (r = .int (if w = nI 0 then (be_h H G m0 12).1 else nI (be_h H G m0 12).2) ∧ r2 = mr ∧ sc_ xQ mi m2)) := by
        intro h p0 hh hp0 hk w10 ma hx hs
        have loop : ∀ (j i : Nat) (w10 : Value) (ma : im_MI), i + j = 6 → xa_ok H G ma mr → sc_ xQ mi ma → (∀ (w9 w10 : Value) (ma : im_MI), xa_ok H G ma mr → sc_ xQ mi ma → Ev (d + 7) 79 134 [.ref 29, .int (nI m0), .int w, xoc (ho_mcell H m0), .int (nI (ho_all H G)), .int (nI (be_d H G m0 h 6 p0).2), .int (be_d H G m0 h 6 p0).1, .int (nI h), .int (nI (ho_all H G) - nI (md_bothO G (H 0 3) (H 0 1) (ho_row H m0) (ho_mcell H m0) (ho_mrow H m0) h)), w9, w10] [] sh ma mr (fun r sh2 m2 r2 => sh2 = sh ∧ (r = .int (if w = nI 0 then (be_h H G m0 12).1 else nI (be_h H G m0 12).2) ∧ r2 = mr ∧ sc_ xQ mi m2))) → Ev (d + 7) 79 76 [.ref 29, .int (nI m0), .int w, xoc (ho_mcell H m0), .int (nI (ho_all H G)), .int (nI (be_d H G m0 h i p0).2), .int (be_d H G m0 h i p0).1, .int (nI h), .int (nI (ho_all H G) - nI (md_bothO G (H 0 3) (H 0 1) (ho_row H m0) (ho_mcell H m0) (ho_mrow H m0) h)), .int (nI i), w10] [] sh ma mr (fun r sh2 m2 r2 => sh2 = sh ∧ (r = .int (if w = nI 0 then (be_h H G m0 12).1 else nI (be_h H G m0 12).2) ∧ r2 = mr ∧ sc_ xQ mi m2)) := by
          intro j
          induction j with
          | zero =>
            intro i w10 ma hi hx hs hk
            refine ev_s (is_iload rfl rfl) ?_
            refine ev_s (is_bipush (nI 6) rfl rfl) ?_
            refine ev_s (is_icmp_ge_t rfl (nI_le (by omega) (by omega))) ?_
            have h6 : i = 6 := by omega
            subst h6
            exact hk _ _ _ hx hs
          | succ j ih =>
            intro i w10 ma hi hx hs hk
            refine ev_s (is_iload rfl rfl) ?_
            refine ev_s (is_bipush (nI 6) rfl rfl) ?_
            refine ev_s (is_icmp_ge_f rfl (nI_ge (by omega) (by omega))) ?_
            refine ev_s (is_iload rfl rfl) ?_
            refine ev_s (is_aload_n rfl rfl) ?_
            refine ev_s (is_getR rfl (pu_s hC 29 rfl rfl) rfl rfl (pu_r hC 29 3 rfl rfl)) ?_
            refine ev_s (is_aload_n rfl rfl) ?_
            refine ev_s (is_iload_n rfl rfl) ?_
            refine ev_s (is_iload rfl rfl) ?_
            refine ev_s (is_iload rfl rfl) ?_
            refine ev_q1 (is_callR 4 [_, _, _] [_, _] rfl rfl rfl rfl rfl (Nat.le_of_ble_eq_true rfl) rfl rfl rfl (pu_s hC 29 rfl rfl)) rfl rfl (x_dOther hC hx (m := m0) (h := h) (v := i) (by omega) (by omega) (by omega)) (fun r_95 mi mr hq_95 => ?_)
            obtain ⟨rfl, hmr, hsc, hok⟩ := hq_95
            have hmr := hmr.symm
            subst hmr
            have hsc := hsc.mono (xM2_xQ (by omega))
            have hs := hs.trans hsc
            have hx := xa_sc hx hsc
            refine ev_s (is_aload_nO rfl rfl) ?_
            refine ev_s (is_iload rfl rfl) ?_
            refine ev_q1 (is_callR 4 [_, _, _] [_] rfl rfl rfl rfl rfl (Nat.le_of_ble_eq_true rfl) rfl rfl rfl (pu_s hC 104 rfl rfl)) rfl (by cases ho_mcell H m0 <;> rfl) (x_bothO hC (xa_r hx) (h := h) (xm_Mt (m := m0) (by omega)) hok (xa_mate hx m0) (by omega)) (fun r_101 mi mr hq_101 => ?_)
            obtain ⟨rfl, hmr, hsc⟩ := hq_101
            have hmr := hmr.symm
            subst hmr
            have hsc := hsc.mono (xS_xQ (Or.inl rfl))
            have hs := hs.trans hsc
            have hx := xa_sc hx hsc
            have hpd := pu_diff (ho_all_do (xa_iv hx) G i hm0 (h := h) (by omega))
            have hal := ho_all_le (H := ho_set H (10 + m0) h i) G (by rw [ho_set_i _ _ _ _ (by omega)]; exact hn6)
            have hbd := be_d_le H G m0 h p0 i
            refine ev_s (is_iadd _ rfl hpd) ?_
            refine ev_s (st_istore_10 rfl rfl) ?_
            refine ev_s (is_iload rfl rfl) ?_
            refine ev_s (is_iload rfl rfl) ?_
            refine ev_icmpN_ge rfl (by omega) (by omega) (fun h_111 => ?_) (fun h_111 => ?_)
            · have hbe : be_d H G m0 h (i + 1) p0 = (be_d H G m0 h i p0) := by show be_s _ _ _ = _; unfold be_s; rw [if_neg (Nat.not_lt.mpr h_111)]
              refine ev_s (st_iinc_9 _ rfl rfl (nI_inc _)) ?_
              refine ev_s (is_goto rfl) ?_
              have := ih (i + 1) (.int (nI (ho_all (ho_set H (10 + m0) h i) G))) _ (by omega) hx hs hk
              rw [hbe] at this
              exact this
            · have hbe : be_d H G m0 h (i + 1) p0 = (nI (10 * h + i), ho_all (ho_set H (10 + m0) h i) G) := by show be_s _ _ _ = _; unfold be_s; rw [if_pos h_111]
              refine ev_s (is_iload rfl rfl) ?_
              refine ev_s (st_istore_5 rfl rfl) ?_
              refine ev_s (is_bipush (nI 10) rfl rfl) ?_
              refine ev_s (is_iload rfl rfl) ?_
              first
                | refine ev_s (is_imul _ rfl (pk_mul _ _)) ?_
                | refine ev_s (is_imul _ rfl rfl) ?_
              refine ev_s (is_iload rfl rfl) ?_
              first
                | refine ev_s (is_iadd _ rfl (nI_add _ _)) ?_
                | refine ev_s (is_iadd _ rfl rfl) ?_
              refine ev_s (st_istore_6 rfl rfl) ?_
              refine ev_s (st_iinc_9 _ rfl rfl (nI_inc _)) ?_
              refine ev_s (is_goto rfl) ?_
              have := ih (i + 1) (.int (nI (ho_all (ho_set H (10 + m0) h i) G))) _ (by omega) hx hs hk
              rw [hbe] at this
              exact this
        exact loop 6 0 w10 ma (by omega) hx hs hk
      have outer : ∀ (j h : Nat) (w8 w9 w10 : Value) (ma : im_MI), h + j = 12 → xa_ok H G ma mr → sc_ xQ mi ma → Ev (d + 7) 79 45 [.ref 29, .int (nI m0), .int w, xoc (ho_mcell H m0), .int (nI (ho_all H G)), .int (nI (be_h H G m0 h).2), .int (be_h H G m0 h).1, .int (nI h), w8, w9, w10] [] sh ma mr (fun r sh2 m2 r2 => sh2 = sh ∧ (r = .int (if w = nI 0 then (be_h H G m0 12).1 else nI (be_h H G m0 12).2) ∧ r2 = mr ∧ sc_ xQ mi m2)) := by
        intro j
        induction j with
        | zero =>
          intro h w8 w9 w10 ma hi hx hs
          refine ev_s (is_iload rfl rfl) ?_
          refine ev_s (is_bipush (nI 12) rfl rfl) ?_
          refine ev_s (is_icmp_ge_t rfl (nI_le (by omega) (by omega))) ?_
          refine ev_s (is_iload_n rfl rfl) ?_
          refine ev_if_ne rfl (fun h_141 => ?_) (fun h_141 => ?_)
          · refine ev_s (is_iload rfl rfl) ?_
            refine ev_ret (is_ireturn rfl rfl (by first | rfl | exact pu_b_nar | decide)) ?_
            have h12 : h = 12 := by omega
            subst h12
            first
              | (have e : w = nI 0 := Decidable.of_not_not h_141
                 exact ⟨rfl, by rw [if_pos e], rfl, hs⟩)
              | (have e : ¬ w = nI 0 := h_141
                 exact ⟨rfl, by rw [if_neg e], rfl, hs⟩)
          · refine ev_s (is_iload rfl rfl) ?_
            refine ev_s (is_goto rfl) ?_
            refine ev_ret (is_ireturn rfl rfl (by first | rfl | exact pu_b_nar | decide)) ?_
            have h12 : h = 12 := by omega
            subst h12
            first
              | (have e : w = nI 0 := Decidable.of_not_not h_141
                 exact ⟨rfl, by rw [if_pos e], rfl, hs⟩)
              | (have e : ¬ w = nI 0 := h_141
                 exact ⟨rfl, by rw [if_neg e], rfl, hs⟩)
        | succ j ih =>
          intro h w8 w9 w10 ma hi hx hs
          refine ev_s (is_iload rfl rfl) ?_
          refine ev_s (is_bipush (nI 12) rfl rfl) ?_
          refine ev_s (is_icmp_ge_f rfl (nI_ge (by omega) (by omega))) ?_
          refine ev_s (is_iload rfl rfl) ?_
          refine ev_s (is_aload_n rfl rfl) ?_
          refine ev_s (is_getR rfl (pu_s hC 29 rfl rfl) rfl rfl (pu_r hC 29 3 rfl rfl)) ?_
          refine ev_s (is_aload_n rfl rfl) ?_
          refine ev_s (is_getR rfl (pu_s hC 29 rfl rfl) rfl rfl (pu_r hC 29 0 rfl rfl)) ?_
          refine ev_s (is_iload_n rfl rfl) ?_
          refine ev_s (is_aaload (k := 1) (m0) rfl (pu_s hC 30 rfl rfl) rfl rfl rfl (by omega) (pu_rows hC (by omega)).1) ?_
          refine ev_s (is_aload_nO rfl rfl) ?_
          refine ev_s (is_iload rfl rfl) ?_
          refine ev_q1 (is_callR 4 [_, _, _] [_] rfl rfl rfl rfl rfl (Nat.le_of_ble_eq_true rfl) rfl rfl rfl (pu_s hC 104 rfl rfl)) rfl (by cases ho_mcell H m0 <;> rfl) (x_bothO hC (xa_r hx) (h := h) (xm_Mi (m := m0) (by omega)) (xa_m hx hm0) (xa_mate hx m0) (by omega)) (fun r_67 mi mr hq_67 => ?_)
          obtain ⟨rfl, hmr, hsc⟩ := hq_67
          have hmr := hmr.symm
          subst hmr
          have hsc := hsc.mono (xS_xQ (Or.inl rfl))
          have hs := hs.trans hsc
          have hx := xa_sc hx hsc
          refine ev_s (is_isub _ rfl rfl) ?_
          refine ev_s (st_istore_8 rfl rfl) ?_
          refine ev_s (is_iconst (nI 0) rfl rfl) ?_
          refine ev_s (st_istore_9 rfl rfl) ?_
          refine inner h (be_h H G m0 h) (by omega) (be_h_le H G m0 h) (fun w9 w10 ma hx hs => ?_) _ _ hx hs
          refine ev_s (st_iinc_7 _ rfl rfl (nI_inc _)) ?_
          refine ev_s (is_goto rfl) ?_
          exact ih (h + 1) _ _ _ _ (by omega) hx hs
      refine ev_s (is_aload_n rfl rfl) ?_
      refine ev_s (is_iload_n rfl rfl) ?_
      refine ev_c1 (is_callR 2 [_] [] rfl rfl rfl rfl rfl (Nat.le_of_ble_eq_true rfl) rfl rfl rfl (pu_s hC 29 rfl rfl)) rfl rfl (x_mate hC hx hm0) ?_
      refine ev_s (st_astore_nO_3 rfl rfl) ?_
      refine ev_s (is_aload_n rfl rfl) ?_
      refine ev_q1 (is_callR 1 [] [] rfl rfl rfl rfl rfl (Nat.le_of_ble_eq_true rfl) rfl rfl rfl (pu_s hC 29 rfl rfl)) rfl rfl (x_all hC hx) (fun r_30 mi mr hq_30 => ?_)
      obtain ⟨rfl, hmr, hsc⟩ := hq_30
      have hmr := hmr.symm
      subst hmr
      have hx := xa_sc hx hsc
      refine ev_s (st_istore_4 rfl (xoc_nL _)) ?_
      refine ev_s (is_iload rfl rfl) ?_
      refine ev_s (st_istore_5 rfl rfl) ?_
      refine ev_s (is_iconst ((-1)) rfl rfl) ?_
      refine ev_s (st_istore_6 rfl rfl) ?_
      refine ev_s (is_iconst (nI 0) rfl rfl) ?_
      refine ev_s (st_istore_7 rfl rfl) ?_
      exact outer 12 0 _ _ _ mi (by omega) hx hsc
    · refine ev_s (is_bipush ((-7)) rfl rfl) ?_
      refine ev_ret (is_ireturn rfl rfl (by first | rfl | exact pu_b_nar | decide)) ?_
      refine ⟨rfl, ?_, rfl, sc_rf⟩
      simp [an_better, h_5, em0, h_17]
  · refine ev_s (is_bipush ((-5)) rfl rfl) ?_
    refine ev_ret (is_ireturn rfl rfl (by first | rfl | exact pu_b_nar | decide)) ?_
    refine ⟨rfl, ?_, rfl, sc_rf⟩
    simp [an_better, h_5]
