/-! ===== PURE, the reference: better, swap, guard, coughs by lots ===== -/

theorem r_better {d : Nat} {sh : im_Sh} {mi : im_MI} {mr : im_MR} (hC : pu_C sh mr) {H K : ho_T} {G : ho_G} (hz : rz_ H K G mi mi) (m w : Int32) : EvM (d + 7) 171 [.ref 110, .int m, .int w] sh mi mr (fun r sh2 m2 r2 => sh2 = sh ∧ (r = .int (an_better H G m w) ∧ r2 = mr ∧ rz_ (H) (K) G mi m2)) := by
  show Ev (d + 7) 171 0 [.ref 110, .int m, .int w, im_bad, im_bad, im_bad, im_bad, im_bad, im_bad] [] sh mi mr _
  have hn6 := rz_n hz
  refine ev_s (is_aload_n rfl rfl) ?_
  refine ev_s (is_iload_n rfl rfl) ?_
  refine ev_c1 (is_callR 2 [_] [] rfl rfl rfl rfl rfl (Nat.le_of_ble_eq_true rfl) rfl rfl rfl (pu_s hC 110 rfl rfl)) rfl rfl (r_isMan' hC hz.1 _) ?_
  refine ev_ifB_ne rfl (fun h_5 => ?_) (fun h_5 => ?_)
  · obtain ⟨m0, rfl, hm0, em0⟩ := ho_isM_n hn6 h_5
    have hm6 : m0 < 6 := by omega
    refine ev_s (is_iload_n rfl rfl) ?_
    refine ev_s (is_iconst (nI 0) rfl rfl) ?_
    refine ev_s (is_iconst (nI 1) rfl rfl) ?_
    refine ev_c1 (is_call0 3 [_, _, _] [] rfl rfl rfl rfl rfl (Nat.le_of_ble_eq_true rfl) rfl rfl rfl) rfl rfl (r_in' _ _ _) ?_
    refine ev_ifB_ne rfl (fun h_17 => ?_) (fun h_17 => ?_)
    · rw [show an_better H G (nI m0) w = (if w = nI 0 then (be_h H G m0 12).1 else nI (be_h H G m0 12).2) by simp [an_better, h_5, h_17, em0]]
      have hal0 := ho_all_le (H := H) G hn6
      have hbd0 := rz_bd hz
      have inner : ∀ (h : Nat) (p0 : Int32 × Nat), h < 12 → p0.2 ≤ ho_all H G → (∀ (w7 w8 : Value) (Hc : ho_T) (ma : im_MI), rz_ Hc K G mi ma → (∀ u, ho_set Hc (10 + m0) h u = ho_set H (10 + m0) h u) → Ev (d + 7) 171 127 [.ref 110, .int (nI m0), .int w, .int (be_d H G m0 h 6 p0).1, .int (nI (be_d H G m0 h 6 p0).2), .int (nI h), .int (nI (H (10 + m0) h)), w7, w8] [] sh ma mr (fun r sh2 m2 r2 => sh2 = sh ∧ (r = .int (if w = nI 0 then (be_h H G m0 12).1 else nI (be_h H G m0 12).2) ∧ r2 = mr ∧ rz_ (H) (K) G mi m2))) → ∀ (w8 : Value) (ma : im_MI), rz_ H K G mi ma → Ev (d + 7) 171 58 [.ref 110, .int (nI m0), .int w, .int p0.1, .int (nI p0.2), .int (nI h), .int (nI (H (10 + m0) h)), .int (nI 0), w8] [] sh ma mr (fun r sh2 m2 r2 => sh2 = sh ∧ (r = .int (if w = nI 0 then (be_h H G m0 12).1 else nI (be_h H G m0 12).2) ∧ r2 = mr ∧ rz_ (H) (K) G mi m2)) := by
        intro h p0 hh hp0 hk w8 ma hz
        have loop : ∀ (j i : Nat) (w8 : Value) (Hc : ho_T) (ma : im_MI), i + j = 6 → rz_ Hc K G mi ma → (∀ u, ho_set Hc (10 + m0) h u = ho_set H (10 + m0) h u) → (∀ (w7 w8 : Value) (Hc : ho_T) (ma : im_MI), rz_ Hc K G mi ma → (∀ u, ho_set Hc (10 + m0) h u = ho_set H (10 + m0) h u) → Ev (d + 7) 171 127 [.ref 110, .int (nI m0), .int w, .int (be_d H G m0 h 6 p0).1, .int (nI (be_d H G m0 h 6 p0).2), .int (nI h), .int (nI (H (10 + m0) h)), w7, w8] [] sh ma mr (fun r sh2 m2 r2 => sh2 = sh ∧ (r = .int (if w = nI 0 then (be_h H G m0 12).1 else nI (be_h H G m0 12).2) ∧ r2 = mr ∧ rz_ (H) (K) G mi m2))) → Ev (d + 7) 171 58 [.ref 110, .int (nI m0), .int w, .int (be_d H G m0 h i p0).1, .int (nI (be_d H G m0 h i p0).2), .int (nI h), .int (nI (H (10 + m0) h)), .int (nI i), w8] [] sh ma mr (fun r sh2 m2 r2 => sh2 = sh ∧ (r = .int (if w = nI 0 then (be_h H G m0 12).1 else nI (be_h H G m0 12).2) ∧ r2 = mr ∧ rz_ (H) (K) G mi m2)) := by
          intro j
          induction j with
          | zero =>
            intro i w8 Hc ma hi hz hset hk
            refine ev_s (is_iload rfl rfl) ?_
            refine ev_s (is_bipush (nI 6) rfl rfl) ?_
            refine ev_s (is_icmp_ge_t rfl (nI_le (by omega) (by omega))) ?_
            have h6 : i = 6 := by omega
            subst h6
            exact hk _ _ _ _ hz hset
          | succ j ih =>
            intro i w8 Hc ma hi hz hset hk
            refine ev_s (is_iload rfl rfl) ?_
            refine ev_s (is_bipush (nI 6) rfl rfl) ?_
            refine ev_s (is_icmp_ge_f rfl (nI_ge (by omega) (by omega))) ?_
            refine ev_s (is_aload_n rfl rfl) ?_
            refine ev_s (is_getR rfl (pu_s hC 110 rfl rfl) rfl rfl (pu_r hC 110 3 rfl rfl)) ?_
            refine ev_s (is_bipush (nI 14) rfl rfl) ?_
            refine ev_s (is_iload_n rfl rfl) ?_
            first
              | refine ev_s (is_imul _ rfl (pk_mul _ _)) ?_
              | refine ev_s (is_imul _ rfl rfl) ?_
            refine ev_s (is_iload rfl rfl) ?_
            first
              | refine ev_s (is_iadd _ rfl (nI_add _ _)) ?_
              | refine ev_s (is_iadd _ rfl rfl) ?_
            refine ev_s (is_iload rfl rfl) ?_
            refine ev_s (is_iastore (14 * m0 + h) rfl (pu_s hC 113 rfl rfl) rfl rfl (by omega)) ?_
            have hz := rz_row hz (m := m0) (w := h) (v := i) hm6 (by omega) (ho_bd_put (rz_bd hz) (Or.inl ⟨hh, by omega⟩))
            rw [hset i] at hz
            refine ev_s (is_aload_n rfl rfl) ?_
            refine ev_q1 (is_callR 1 [] [] rfl rfl rfl rfl rfl (Nat.le_of_ble_eq_true rfl) rfl rfl rfl (pu_s hC 110 rfl rfl)) rfl rfl (r_allOf hC hz.1) (fun r_80 mi mr hq_80 => ?_)
            obtain ⟨rfl, hmr, hsc⟩ := hq_80
            have hmr := hmr.symm
            subst hmr
            have hz := rz_sS hz hsc
            have hal := ho_all_le (H := ho_set H (10 + m0) h i) G (by rw [ho_set_i _ _ _ _ (by omega)]; exact hn6)
            have hbd := be_d_le H G m0 h p0 i
            refine ev_s (st_istore_8 rfl rfl) ?_
            refine ev_s (is_iload rfl rfl) ?_
            refine ev_s (is_iload rfl rfl) ?_
            refine ev_icmpN_ge rfl (by omega) (by omega) (fun h_89 => ?_) (fun h_89 => ?_)
            · refine ev_s (is_iload_n rfl rfl) ?_
              refine ev_s (st_istore_n_3 rfl rfl) ?_
              refine ev_s (is_iload rfl rfl) ?_
              refine ev_s (is_iload rfl rfl) ?_
              refine ev_icmpN_ge rfl (by omega) (by omega) (fun h_109 => ?_) (fun h_109 => ?_)
              · refine ev_s (is_iload rfl rfl) ?_
                refine ev_s (st_istore_4 rfl rfl) ?_
                refine ev_s (st_iinc_7 _ rfl rfl (nI_inc _)) ?_
                refine ev_s (is_goto rfl) ?_
                first
                  | (exfalso; omega)
                  | (have hbe : be_d H G m0 h (i + 1) p0 = (be_d H G m0 h i p0) := by show be_s _ _ _ = _; unfold be_s; rw [if_neg (by omega)]
                     have := ih (i + 1) (.int (nI (ho_all (ho_set H (10 + m0) h i) G))) _ _ (by omega) hz (fun u => ho_set_set _ _ _ _ _) hk
                     rw [hbe] at this
                     exact this)
                  | (have hbe : be_d H G m0 h (i + 1) p0 = (nI (10 * h + i), ho_all (ho_set H (10 + m0) h i) G) := by show be_s _ _ _ = _; unfold be_s; rw [if_pos (by omega)]
                     have := ih (i + 1) (.int (nI (ho_all (ho_set H (10 + m0) h i) G))) _ _ (by omega) hz (fun u => ho_set_set _ _ _ _ _) hk
                     rw [hbe] at this
                     exact this)
              · refine ev_s (is_iload rfl rfl) ?_
                refine ev_s (is_goto rfl) ?_
                refine ev_s (st_istore_4 rfl rfl) ?_
                refine ev_s (st_iinc_7 _ rfl rfl (nI_inc _)) ?_
                refine ev_s (is_goto rfl) ?_
                first
                  | (exfalso; omega)
                  | (have hbe : be_d H G m0 h (i + 1) p0 = (be_d H G m0 h i p0) := by show be_s _ _ _ = _; unfold be_s; rw [if_neg (by omega)]
                     have := ih (i + 1) (.int (nI (ho_all (ho_set H (10 + m0) h i) G))) _ _ (by omega) hz (fun u => ho_set_set _ _ _ _ _) hk
                     rw [hbe] at this
                     exact this)
                  | (have hbe : be_d H G m0 h (i + 1) p0 = (nI (10 * h + i), ho_all (ho_set H (10 + m0) h i) G) := by show be_s _ _ _ = _; unfold be_s; rw [if_pos (by omega)]
                     have := ih (i + 1) (.int (nI (ho_all (ho_set H (10 + m0) h i) G))) _ _ (by omega) hz (fun u => ho_set_set _ _ _ _ _) hk
                     rw [hbe] at this
                     exact this)
            · refine ev_s (is_bipush (nI 10) rfl rfl) ?_
              refine ev_s (is_iload rfl rfl) ?_
              first
                | refine ev_s (is_imul _ rfl (pk_mul _ _)) ?_
                | refine ev_s (is_imul _ rfl rfl) ?_
              refine ev_s (is_iload rfl rfl) ?_
              first
                | refine ev_s (is_iadd _ rfl (nI_add _ _)) ?_
                | refine ev_s (is_iadd _ rfl rfl) ?_
              refine ev_s (is_goto rfl) ?_
              refine ev_s (st_istore_n_3 rfl rfl) ?_
              refine ev_s (is_iload rfl rfl) ?_
              refine ev_s (is_iload rfl rfl) ?_
              refine ev_icmpN_ge rfl (by omega) (by omega) (fun h_109 => ?_) (fun h_109 => ?_)
              · refine ev_s (is_iload rfl rfl) ?_
                refine ev_s (st_istore_4 rfl rfl) ?_
                refine ev_s (st_iinc_7 _ rfl rfl (nI_inc _)) ?_
                refine ev_s (is_goto rfl) ?_
                first
                  | (exfalso; omega)
                  | (have hbe : be_d H G m0 h (i + 1) p0 = (be_d H G m0 h i p0) := by show be_s _ _ _ = _; unfold be_s; rw [if_neg (by omega)]
                     have := ih (i + 1) (.int (nI (ho_all (ho_set H (10 + m0) h i) G))) _ _ (by omega) hz (fun u => ho_set_set _ _ _ _ _) hk
                     rw [hbe] at this
                     exact this)
                  | (have hbe : be_d H G m0 h (i + 1) p0 = (nI (10 * h + i), ho_all (ho_set H (10 + m0) h i) G) := by show be_s _ _ _ = _; unfold be_s; rw [if_pos (by omega)]
                     have := ih (i + 1) (.int (nI (ho_all (ho_set H (10 + m0) h i) G))) _ _ (by omega) hz (fun u => ho_set_set _ _ _ _ _) hk
                     rw [hbe] at this
                     exact this)
              · refine ev_s (is_iload rfl rfl) ?_
                refine ev_s (is_goto rfl) ?_
                refine ev_s (st_istore_4 rfl rfl) ?_
                refine ev_s (st_iinc_7 _ rfl rfl (nI_inc _)) ?_
                refine ev_s (is_goto rfl) ?_
                first
                  | (exfalso; omega)
                  | (have hbe : be_d H G m0 h (i + 1) p0 = (be_d H G m0 h i p0) := by show be_s _ _ _ = _; unfold be_s; rw [if_neg (by omega)]
                     have := ih (i + 1) (.int (nI (ho_all (ho_set H (10 + m0) h i) G))) _ _ (by omega) hz (fun u => ho_set_set _ _ _ _ _) hk
                     rw [hbe] at this
                     exact this)
                  | (have hbe : be_d H G m0 h (i + 1) p0 = (nI (10 * h + i), ho_all (ho_set H (10 + m0) h i) G) := by show be_s _ _ _ = _; unfold be_s; rw [if_pos (by omega)]
                     have := ih (i + 1) (.int (nI (ho_all (ho_set H (10 + m0) h i) G))) _ _ (by omega) hz (fun u => ho_set_set _ _ _ _ _) hk
                     rw [hbe] at this
                     exact this)
        exact loop 6 0 w8 H ma (by omega) hz (fun _ => rfl) hk
      have outer : ∀ (j h : Nat) (w6 w7 w8 : Value) (ma : im_MI), h + j = 12 → rz_ H K G mi ma → Ev (d + 7) 171 34 [.ref 110, .int (nI m0), .int w, .int (be_h H G m0 h).1, .int (nI (be_h H G m0 h).2), .int (nI h), w6, w7, w8] [] sh ma mr (fun r sh2 m2 r2 => sh2 = sh ∧ (r = .int (if w = nI 0 then (be_h H G m0 12).1 else nI (be_h H G m0 12).2) ∧ r2 = mr ∧ rz_ (H) (K) G mi m2)) := by
        intro j
        induction j with
        | zero =>
          intro h w6 w7 w8 ma hi hz
          refine ev_s (is_iload rfl rfl) ?_
          refine ev_s (is_bipush (nI 12) rfl rfl) ?_
          refine ev_s (is_icmp_ge_t rfl (nI_le (by omega) (by omega))) ?_
          refine ev_s (is_iload_n rfl rfl) ?_
          refine ev_if_ne rfl (fun h_148 => ?_) (fun h_148 => ?_)
          · refine ev_s (is_iload rfl rfl) ?_
            refine ev_ret (is_ireturn rfl rfl (by first | rfl | exact pu_b_nar | decide)) ?_
            have h12 : h = 12 := by omega
            subst h12
            first
              | (have e : w = nI 0 := Decidable.of_not_not h_148
                 exact ⟨rfl, by rw [if_pos e], rfl, hz⟩)
              | (have e : ¬ w = nI 0 := h_148
                 exact ⟨rfl, by rw [if_neg e], rfl, hz⟩)
          · refine ev_s (is_iload_n rfl rfl) ?_
            refine ev_s (is_goto rfl) ?_
            refine ev_ret (is_ireturn rfl rfl (by first | rfl | exact pu_b_nar | decide)) ?_
            have h12 : h = 12 := by omega
            subst h12
            first
              | (have e : w = nI 0 := Decidable.of_not_not h_148
                 exact ⟨rfl, by rw [if_pos e], rfl, hz⟩)
              | (have e : ¬ w = nI 0 := h_148
                 exact ⟨rfl, by rw [if_neg e], rfl, hz⟩)
        | succ j ih =>
          intro h w6 w7 w8 ma hi hz
          refine ev_s (is_iload rfl rfl) ?_
          refine ev_s (is_bipush (nI 12) rfl rfl) ?_
          refine ev_s (is_icmp_ge_f rfl (nI_ge (by omega) (by omega))) ?_
          refine ev_s (is_aload_n rfl rfl) ?_
          refine ev_s (is_getR rfl (pu_s hC 110 rfl rfl) rfl rfl (pu_r hC 110 3 rfl rfl)) ?_
          refine ev_s (is_bipush (nI 14) rfl rfl) ?_
          refine ev_s (is_iload_n rfl rfl) ?_
          first
            | refine ev_s (is_imul _ rfl (pk_mul _ _)) ?_
            | refine ev_s (is_imul _ rfl rfl) ?_
          refine ev_s (is_iload rfl rfl) ?_
          first
            | refine ev_s (is_iadd _ rfl (nI_add _ _)) ?_
            | refine ev_s (is_iadd _ rfl rfl) ?_
          refine ev_s (is_iaload' (14 * m0 + h) rfl (pu_s hC 113 rfl rfl) rfl rfl (by omega) (rz_at hz hm6 (by omega))) ?_
          refine ev_s (st_istore_6 rfl rfl) ?_
          refine ev_s (is_iconst (nI 0) rfl rfl) ?_
          refine ev_s (st_istore_7 rfl rfl) ?_
          refine inner h (be_h H G m0 h) (by omega) (be_h_le H G m0 h) (fun w7 w8 Hc ma hz hset => ?_) _ _ hz
          refine ev_s (is_aload_n rfl rfl) ?_
          refine ev_s (is_getR rfl (pu_s hC 110 rfl rfl) rfl rfl (pu_r hC 110 3 rfl rfl)) ?_
          refine ev_s (is_bipush (nI 14) rfl rfl) ?_
          refine ev_s (is_iload_n rfl rfl) ?_
          first
            | refine ev_s (is_imul _ rfl (pk_mul _ _)) ?_
            | refine ev_s (is_imul _ rfl rfl) ?_
          refine ev_s (is_iload rfl rfl) ?_
          first
            | refine ev_s (is_iadd _ rfl (nI_add _ _)) ?_
            | refine ev_s (is_iadd _ rfl rfl) ?_
          refine ev_s (is_iload rfl rfl) ?_
          refine ev_s (is_iastore (14 * m0 + h) rfl (pu_s hC 113 rfl rfl) rfl rfl (by omega)) ?_
          refine ev_s (st_iinc_5 _ rfl rfl (nI_inc _)) ?_
          refine ev_s (is_goto rfl) ?_
          have hz := rz_row hz (m := m0) (w := h) (v := H (10 + m0) h) hm6 (by omega) (ho_bd_put (rz_bd hz) (Or.inl ⟨by omega, hbd0.2.2.2.2.2.2.2.1 m0 h (by omega)⟩))
          rw [hset, ho_set_same] at hz
          exact ih (h + 1) _ _ _ _ (by omega) hz
      refine ev_s (is_iconst ((-1)) rfl rfl) ?_
      refine ev_s (st_istore_n_3 rfl rfl) ?_
      refine ev_s (is_aload_n rfl rfl) ?_
      refine ev_q1 (is_callR 1 [] [] rfl rfl rfl rfl rfl (Nat.le_of_ble_eq_true rfl) rfl rfl rfl (pu_s hC 110 rfl rfl)) rfl rfl (r_allOf hC hz.1) (fun r_26 mi mr hq_26 => ?_)
      obtain ⟨rfl, hmr, hsc⟩ := hq_26
      have hmr := hmr.symm
      subst hmr
      have hz := rz_sS hz hsc
      refine ev_s (st_istore_4 rfl rfl) ?_
      refine ev_s (is_iconst (nI 0) rfl rfl) ?_
      refine ev_s (st_istore_5 rfl rfl) ?_
      exact outer 12 0 _ _ _ _ (by omega) hz
    · refine ev_s (is_bipush ((-7)) rfl rfl) ?_
      refine ev_ret (is_ireturn rfl rfl (by first | rfl | exact pu_b_nar | decide)) ?_
      refine ⟨rfl, ?_, rfl, hz⟩
      simp [an_better, h_5, em0, h_17]
  · refine ev_s (is_bipush ((-5)) rfl rfl) ?_
    refine ev_ret (is_ireturn rfl rfl (by first | rfl | exact pu_b_nar | decide)) ?_
    refine ⟨rfl, ?_, rfl, hz⟩
    simp [an_better, h_5]

theorem st_sw2 (H : ho_T) {a b : Nat} (hab : a ≠ b) : st_swap (st_swap H a b) a b = H := by
  funext i j
  by_cases hj : j = 13
  · subst hj
    by_cases hi : i < 10
    · rw [st_swap_lo _ _ _ hi, st_swap_lo _ _ _ hi]
    · rw [show i = 10 + (i - 10) by omega, st_swap_at, st_swap_at, st_swap_at, st_swap_at]
      by_cases c1 : i - 10 = b
      · rw [if_pos c1, if_neg hab, if_pos rfl, c1]
      · rw [if_neg c1]
        by_cases c2 : i - 10 = a
        · rw [if_pos c2, if_pos rfl, c2]
        · rw [if_neg c2, if_neg c1, if_neg c2]
  · rw [st_swap_j _ _ _ hj, st_swap_j _ _ _ hj]

theorem r_swap {d : Nat} {sh : im_Sh} {mi : im_MI} {mr : im_MR} (hC : pu_C sh mr) {H K : ho_T} {G : ho_G} (hz : rz_ H K G mi mi) (w : Int32) : EvM (d + 7) 172 [.ref 110, .int w] sh mi mr (fun r sh2 m2 r2 => sh2 = sh ∧ (r = .int (an_swap H G w) ∧ r2 = mr ∧ rz_ (H) (K) G mi m2)) := by
  show Ev (d + 7) 172 0 [.ref 110, .int w, im_bad, im_bad, im_bad, im_bad, im_bad] [] sh mi mr _
  have hn6 := rz_n hz
  refine ev_s (is_iload_n rfl rfl) ?_
  refine ev_s (is_iconst (nI 0) rfl rfl) ?_
  refine ev_s (is_iconst (nI 1) rfl rfl) ?_
  refine ev_c1 (is_call0 3 [_, _, _] [] rfl rfl rfl rfl rfl (Nat.le_of_ble_eq_true rfl) rfl rfl rfl) rfl rfl (r_in' _ _ _) ?_
  refine ev_ifB_ne rfl (fun h_6 => ?_) (fun h_6 => ?_)
  · have hal0 := ho_all_le (H := H) G hn6
    rw [show an_swap H G w = (if w = nI 0 then (sw_a H G (H 0 0) (H 0 0)).1 else nI (sw_a H G (H 0 0) (H 0 0)).2) by rw [an_swap, if_pos h_6]]
    have inner : ∀ (a : Nat) (p0 : Int32 × Nat), a < H 0 0 → p0.2 ≤ ho_all H G → (∀ (w6 : Value) (ma : im_MI), rz_ H K G mi ma → Ev (d + 7) 172 106 [.ref 110, .int w, .int (sw_b H G a (H 0 0) p0).1, .int (nI (sw_b H G a (H 0 0) p0).2), .int (nI a), .int (nI (H 0 0)), w6] [] sh ma mr (fun r sh2 m2 r2 => sh2 = sh ∧ (r = .int (if w = nI 0 then (sw_a H G (H 0 0) (H 0 0)).1 else nI (sw_a H G (H 0 0) (H 0 0)).2) ∧ r2 = mr ∧ rz_ (H) (K) G mi m2))) → ∀ (w6 : Value) (ma : im_MI), rz_ H K G mi ma → Ev (d + 7) 172 37 [.ref 110, .int w, .int p0.1, .int (nI p0.2), .int (nI a), .int (nI (a + 1)), w6] [] sh ma mr (fun r sh2 m2 r2 => sh2 = sh ∧ (r = .int (if w = nI 0 then (sw_a H G (H 0 0) (H 0 0)).1 else nI (sw_a H G (H 0 0) (H 0 0)).2) ∧ r2 = mr ∧ rz_ (H) (K) G mi m2)) := by
      intro a p0 ha hp0 hk w6 ma hz
      have loop : ∀ (j i : Nat) (w6 : Value) (ma : im_MI), i + j = H 0 0 → a < i → rz_ H K G mi ma → (∀ (w6 : Value) (ma : im_MI), rz_ H K G mi ma → Ev (d + 7) 172 106 [.ref 110, .int w, .int (sw_b H G a (H 0 0) p0).1, .int (nI (sw_b H G a (H 0 0) p0).2), .int (nI a), .int (nI (H 0 0)), w6] [] sh ma mr (fun r sh2 m2 r2 => sh2 = sh ∧ (r = .int (if w = nI 0 then (sw_a H G (H 0 0) (H 0 0)).1 else nI (sw_a H G (H 0 0) (H 0 0)).2) ∧ r2 = mr ∧ rz_ (H) (K) G mi m2))) → Ev (d + 7) 172 37 [.ref 110, .int w, .int (sw_b H G a i p0).1, .int (nI (sw_b H G a i p0).2), .int (nI a), .int (nI i), w6] [] sh ma mr (fun r sh2 m2 r2 => sh2 = sh ∧ (r = .int (if w = nI 0 then (sw_a H G (H 0 0) (H 0 0)).1 else nI (sw_a H G (H 0 0) (H 0 0)).2) ∧ r2 = mr ∧ rz_ (H) (K) G mi m2)) := by
        intro j
        induction j with
        | zero =>
          intro i w6 ma hi hai hz hk
          refine ev_s (is_iload rfl rfl) ?_
          refine ev_s (is_aload_n rfl rfl) ?_
          refine ev_s (is_getI' rfl (pu_s hC 110 rfl rfl) rfl rfl hz.1.1) ?_
          refine ev_s (is_icmp_ge_t rfl (nI_le (by omega) (by omega))) ?_
          have h6 : i = H 0 0 := by omega
          subst h6
          exact hk _ _ hz
        | succ j ih =>
          intro i w6 ma hi hai hz hk
          refine ev_s (is_iload rfl rfl) ?_
          refine ev_s (is_aload_n rfl rfl) ?_
          refine ev_s (is_getI' rfl (pu_s hC 110 rfl rfl) rfl rfl hz.1.1) ?_
          refine ev_s (is_icmp_ge_f rfl (nI_ge (by omega) (by omega))) ?_
          refine ev_s (is_aload_n rfl rfl) ?_
          refine ev_s (is_iload rfl rfl) ?_
          refine ev_s (is_iload rfl rfl) ?_
          refine ev_q0 (is_callR 3 [_, _] [] rfl rfl rfl rfl rfl (Nat.le_of_ble_eq_true rfl) rfl rfl rfl (pu_s hC 110 rfl rfl)) rfl rfl (r_changes hC hz (a := a) (b := i) (by omega) (by omega)) (fun r_51 mi mr hq_51 => ?_)
          obtain ⟨hmr, hz⟩ := hq_51
          have hmr := hmr.symm
          subst hmr
          refine ev_s (is_aload_n rfl rfl) ?_
          refine ev_q1 (is_callR 1 [] [] rfl rfl rfl rfl rfl (Nat.le_of_ble_eq_true rfl) rfl rfl rfl (pu_s hC 110 rfl rfl)) rfl rfl (r_allOf hC hz.1) (fun r_55 mi mr hq_55 => ?_)
          obtain ⟨rfl, hmr, hsc⟩ := hq_55
          have hmr := hmr.symm
          subst hmr
          have hz := rz_sS hz hsc
          have hal := ho_all_le (H := st_swap H a i) G (by rw [st_swap_lo H a i (by decide)]; exact hn6)
          have hbd := sw_b_le H G a p0 i
          refine ev_s (st_istore_6 rfl rfl) ?_
          refine ev_s (is_aload_n rfl rfl) ?_
          refine ev_s (is_iload rfl rfl) ?_
          refine ev_s (is_iload rfl rfl) ?_
          refine ev_q0 (is_callR 3 [_, _] [] rfl rfl rfl rfl rfl (Nat.le_of_ble_eq_true rfl) rfl rfl rfl (pu_s hC 110 rfl rfl)) rfl rfl (r_changes hC hz (a := a) (b := i) (by omega) (by omega)) (fun r_65 mi mr hq_65 => ?_)
          obtain ⟨hmr, hz⟩ := hq_65
          have hmr := hmr.symm
          subst hmr
          rw [st_sw2 H (show a ≠ i by omega)] at hz
          refine ev_s (is_iload rfl rfl) ?_
          refine ev_s (is_iload_n rfl rfl) ?_
          refine ev_icmpN_ge rfl (by omega) (by omega) (fun h_71 => ?_) (fun h_71 => ?_)
          · refine ev_s (is_iload_n rfl rfl) ?_
            refine ev_s (st_istore_n_2 rfl rfl) ?_
            refine ev_s (is_iload rfl rfl) ?_
            refine ev_s (is_iload_n rfl rfl) ?_
            refine ev_icmpN_ge rfl (by omega) (by omega) (fun h_90 => ?_) (fun h_90 => ?_)
            · refine ev_s (is_iload_n rfl rfl) ?_
              refine ev_s (st_istore_n_3 rfl rfl) ?_
              refine ev_s (st_iinc_5 _ rfl rfl (nI_inc _)) ?_
              refine ev_s (is_goto rfl) ?_
              first
                | (exfalso; omega)
                | (have hbe : sw_b H G a (i + 1) p0 = (sw_b H G a i p0) := by show (if a < i then be_s _ _ _ else p0) = _; rw [if_pos hai]; unfold be_s; rw [if_neg (by omega)]
                   have := ih (i + 1) (.int (nI (ho_all (st_swap H a i) G))) _ (by omega) (by omega) hz hk
                   rw [hbe] at this
                   exact this)
                | (have hbe : sw_b H G a (i + 1) p0 = (nI (10 * a + i), ho_all (st_swap H a i) G) := by show (if a < i then be_s _ _ _ else p0) = _; rw [if_pos hai]; unfold be_s; rw [if_pos (by omega)]
                   have := ih (i + 1) (.int (nI (ho_all (st_swap H a i) G))) _ (by omega) (by omega) hz hk
                   rw [hbe] at this
                   exact this)
            · refine ev_s (is_iload rfl rfl) ?_
              refine ev_s (is_goto rfl) ?_
              refine ev_s (st_istore_n_3 rfl rfl) ?_
              refine ev_s (st_iinc_5 _ rfl rfl (nI_inc _)) ?_
              refine ev_s (is_goto rfl) ?_
              first
                | (exfalso; omega)
                | (have hbe : sw_b H G a (i + 1) p0 = (sw_b H G a i p0) := by show (if a < i then be_s _ _ _ else p0) = _; rw [if_pos hai]; unfold be_s; rw [if_neg (by omega)]
                   have := ih (i + 1) (.int (nI (ho_all (st_swap H a i) G))) _ (by omega) (by omega) hz hk
                   rw [hbe] at this
                   exact this)
                | (have hbe : sw_b H G a (i + 1) p0 = (nI (10 * a + i), ho_all (st_swap H a i) G) := by show (if a < i then be_s _ _ _ else p0) = _; rw [if_pos hai]; unfold be_s; rw [if_pos (by omega)]
                   have := ih (i + 1) (.int (nI (ho_all (st_swap H a i) G))) _ (by omega) (by omega) hz hk
                   rw [hbe] at this
                   exact this)
          · refine ev_s (is_bipush (nI 10) rfl rfl) ?_
            refine ev_s (is_iload rfl rfl) ?_
            first
              | refine ev_s (is_imul _ rfl (pk_mul _ _)) ?_
              | refine ev_s (is_imul _ rfl rfl) ?_
            refine ev_s (is_iload rfl rfl) ?_
            first
              | refine ev_s (is_iadd _ rfl (nI_add _ _)) ?_
              | refine ev_s (is_iadd _ rfl rfl) ?_
            refine ev_s (is_goto rfl) ?_
            refine ev_s (st_istore_n_2 rfl rfl) ?_
            refine ev_s (is_iload rfl rfl) ?_
            refine ev_s (is_iload_n rfl rfl) ?_
            refine ev_icmpN_ge rfl (by omega) (by omega) (fun h_90 => ?_) (fun h_90 => ?_)
            · refine ev_s (is_iload_n rfl rfl) ?_
              refine ev_s (st_istore_n_3 rfl rfl) ?_
              refine ev_s (st_iinc_5 _ rfl rfl (nI_inc _)) ?_
              refine ev_s (is_goto rfl) ?_
              first
                | (exfalso; omega)
                | (have hbe : sw_b H G a (i + 1) p0 = (sw_b H G a i p0) := by show (if a < i then be_s _ _ _ else p0) = _; rw [if_pos hai]; unfold be_s; rw [if_neg (by omega)]
                   have := ih (i + 1) (.int (nI (ho_all (st_swap H a i) G))) _ (by omega) (by omega) hz hk
                   rw [hbe] at this
                   exact this)
                | (have hbe : sw_b H G a (i + 1) p0 = (nI (10 * a + i), ho_all (st_swap H a i) G) := by show (if a < i then be_s _ _ _ else p0) = _; rw [if_pos hai]; unfold be_s; rw [if_pos (by omega)]
                   have := ih (i + 1) (.int (nI (ho_all (st_swap H a i) G))) _ (by omega) (by omega) hz hk
                   rw [hbe] at this
                   exact this)
            · refine ev_s (is_iload rfl rfl) ?_
              refine ev_s (is_goto rfl) ?_
              refine ev_s (st_istore_n_3 rfl rfl) ?_
              refine ev_s (st_iinc_5 _ rfl rfl (nI_inc _)) ?_
              refine ev_s (is_goto rfl) ?_
              first
                | (exfalso; omega)
                | (have hbe : sw_b H G a (i + 1) p0 = (sw_b H G a i p0) := by show (if a < i then be_s _ _ _ else p0) = _; rw [if_pos hai]; unfold be_s; rw [if_neg (by omega)]
                   have := ih (i + 1) (.int (nI (ho_all (st_swap H a i) G))) _ (by omega) (by omega) hz hk
                   rw [hbe] at this
                   exact this)
                | (have hbe : sw_b H G a (i + 1) p0 = (nI (10 * a + i), ho_all (st_swap H a i) G) := by show (if a < i then be_s _ _ _ else p0) = _; rw [if_pos hai]; unfold be_s; rw [if_pos (by omega)]
                   have := ih (i + 1) (.int (nI (ho_all (st_swap H a i) G))) _ (by omega) (by omega) hz hk
                   rw [hbe] at this
                   exact this)
      have := loop (H 0 0 - (a + 1)) (a + 1) w6 ma (by omega) (by omega) hz hk
      rw [sw_b_0 H G p0 (Nat.le_refl _)] at this
      exact this
    have outer : ∀ (j a : Nat) (w5 w6 : Value) (ma : im_MI), a + j = H 0 0 → rz_ H K G mi ma → Ev (d + 7) 172 22 [.ref 110, .int w, .int (sw_a H G (H 0 0) a).1, .int (nI (sw_a H G (H 0 0) a).2), .int (nI a), w5, w6] [] sh ma mr (fun r sh2 m2 r2 => sh2 = sh ∧ (r = .int (if w = nI 0 then (sw_a H G (H 0 0) (H 0 0)).1 else nI (sw_a H G (H 0 0) (H 0 0)).2) ∧ r2 = mr ∧ rz_ (H) (K) G mi m2)) := by
      intro j
      induction j with
      | zero =>
        intro a w5 w6 ma hi hz
        refine ev_s (is_iload rfl rfl) ?_
        refine ev_s (is_aload_n rfl rfl) ?_
        refine ev_s (is_getI' rfl (pu_s hC 110 rfl rfl) rfl rfl hz.1.1) ?_
        refine ev_s (is_icmp_ge_t rfl (nI_le (by omega) (by omega))) ?_
        refine ev_s (is_iload_n rfl rfl) ?_
        refine ev_if_ne rfl (fun h_113 => ?_) (fun h_113 => ?_)
        · refine ev_s (is_iload_n rfl rfl) ?_
          refine ev_ret (is_ireturn rfl rfl (by first | rfl | exact pu_b_nar | decide)) ?_
          have h12 : a = H 0 0 := by omega
          subst h12
          first
            | (have e : w = nI 0 := Decidable.of_not_not h_113
               exact ⟨rfl, by rw [if_pos e], rfl, hz⟩)
            | (have e : ¬ w = nI 0 := h_113
               exact ⟨rfl, by rw [if_neg e], rfl, hz⟩)
        · refine ev_s (is_iload_n rfl rfl) ?_
          refine ev_s (is_goto rfl) ?_
          refine ev_ret (is_ireturn rfl rfl (by first | rfl | exact pu_b_nar | decide)) ?_
          have h12 : a = H 0 0 := by omega
          subst h12
          first
            | (have e : w = nI 0 := Decidable.of_not_not h_113
               exact ⟨rfl, by rw [if_pos e], rfl, hz⟩)
            | (have e : ¬ w = nI 0 := h_113
               exact ⟨rfl, by rw [if_neg e], rfl, hz⟩)
      | succ j ih =>
        intro a w5 w6 ma hi hz
        refine ev_s (is_iload rfl rfl) ?_
        refine ev_s (is_aload_n rfl rfl) ?_
        refine ev_s (is_getI' rfl (pu_s hC 110 rfl rfl) rfl rfl hz.1.1) ?_
        refine ev_s (is_icmp_ge_f rfl (nI_ge (by omega) (by omega))) ?_
        refine ev_s (is_iload rfl rfl) ?_
        refine ev_s (is_iconst (nI 1) rfl rfl) ?_
        first
          | refine ev_s (is_iadd _ rfl (nI_add _ _)) ?_
          | refine ev_s (is_iadd _ rfl rfl) ?_
        refine ev_s (st_istore_5 rfl rfl) ?_
        refine inner a (sw_a H G (H 0 0) a) (by omega) (sw_a_le H G (H 0 0) a) (fun w6 ma hz => ?_) _ _ hz
        refine ev_s (st_iinc_4 _ rfl rfl (nI_inc _)) ?_
        refine ev_s (is_goto rfl) ?_
        exact ih (a + 1) _ _ _ (by omega) hz
    refine ev_s (is_iconst ((-1)) rfl rfl) ?_
    refine ev_s (st_istore_n_2 rfl rfl) ?_
    refine ev_s (is_aload_n rfl rfl) ?_
    refine ev_q1 (is_callR 1 [] [] rfl rfl rfl rfl rfl (Nat.le_of_ble_eq_true rfl) rfl rfl rfl (pu_s hC 110 rfl rfl)) rfl rfl (r_allOf hC hz.1) (fun r_15 mi mr hq_15 => ?_)
    obtain ⟨rfl, hmr, hsc⟩ := hq_15
    have hmr := hmr.symm
    subst hmr
    have hz := rz_sS hz hsc
    refine ev_s (st_istore_n_3 rfl rfl) ?_
    refine ev_s (is_iconst (nI 0) rfl rfl) ?_
    refine ev_s (st_istore_4 rfl rfl) ?_
    exact outer (H 0 0) 0 _ _ _ (by omega) hz
  · refine ev_s (is_bipush ((-2)) rfl rfl) ?_
    refine ev_ret (is_ireturn rfl rfl (by first | rfl | exact pu_b_nar | decide)) ?_
    rw [show an_swap H G w = -2 from if_neg h_6]
    exact ⟨rfl, rfl, rfl, hz⟩

def gd_r (p : Option (Nat × Nat)) : Int32 := match p with
  | none => -1
  | some q => nI q.1
def gd_t (p : Option (Nat × Nat)) : Int32 := match p with
  | none => nI 0
  | some q => nI q.2

theorem gd_lt (H : ho_T) (G : ho_G) (n : Nat) : ∀ N q, lo_fold (gd_f H G n) N none = some q → q.1 < N
  | 0, _, h => by cases h
  | N + 1, q, h => by
    have ih := gd_lt H G n N
    rw [lo_fold] at h
    cases e : lo_fold (gd_f H G n) N none with
    | none =>
      rw [e] at h
      unfold gd_f at h
      split at h
      · cases h; exact Nat.lt_succ_self N
      · cases h
    | some q2 =>
      have h2 := ih q2 e
      rw [e] at h
      unfold gd_f at h
      split at h
      · dsimp only at h
        split at h
        · cases h; exact Nat.lt_succ_self N
        · cases h; omega
      · cases h; omega

theorem r_guard {d : Nat} {sh : im_Sh} {mi : im_MI} {mr : im_MR} (hC : pu_C sh mr) {H K : ho_T} {G : ho_G} (hz : rz_ H K G mi mi) (n w : Int32) : EvM (d + 5) 177 [.ref 110, .int n, .int w] sh mi mr (fun r sh2 m2 r2 => sh2 = sh ∧ (r = .int (an_guard H G n w) ∧ r2 = mr ∧ rz_ (H) (K) G mi m2)) := by
  show Ev (d + 5) 177 0 [.ref 110, .int n, .int w, im_bad, im_bad, im_bad, im_bad, im_bad, im_bad] [] sh mi mr _
  have hn6 := rz_n hz
  refine ev_s (is_iload_n rfl rfl) ?_
  refine ev_s (is_iconst (nI 0) rfl rfl) ?_
  refine ev_s (is_iconst (nI 3) rfl rfl) ?_
  refine ev_c1 (is_call0 3 [_, _, _] [] rfl rfl rfl rfl rfl (Nat.le_of_ble_eq_true rfl) rfl rfl rfl) rfl rfl (r_in' _ _ _) ?_
  refine ev_ifB_eq rfl (fun h_6 => ?_) (fun h_6 => ?_)
  · refine ev_s (is_bipush ((-2)) rfl rfl) ?_
    refine ev_ret (is_ireturn rfl rfl (by first | rfl | exact pu_b_nar | decide)) ?_
    refine ⟨rfl, ?_, rfl, hz⟩
    first
      | rw [an_guard, if_neg h_6]
      | rw [an_guard, if_pos h_6, if_neg h_15]
  · obtain ⟨n0, rfl, ln0, un0, en0⟩ := ho_rng_n h_6 (by decide) (by decide)
    refine ev_s (is_iload_n rfl rfl) ?_
    refine ev_s (is_iconst (nI 0) rfl rfl) ?_
    refine ev_s (is_iconst (nI 1) rfl rfl) ?_
    refine ev_c1 (is_call0 3 [_, _, _] [] rfl rfl rfl rfl rfl (Nat.le_of_ble_eq_true rfl) rfl rfl rfl) rfl rfl (r_in' _ _ _) ?_
    refine ev_ifB_ne rfl (fun h_15 => ?_) (fun h_15 => ?_)
    · rw [show an_guard H G (nI n0) w = (if w = nI 0 then nI (gd_all H G n0).1 else nI (gd_all H G n0).2) by rw [an_guard, if_pos h_6, if_pos h_15, en0]]
      have hw0 := (rz_bd hz).2.1
      have inner : ∀ (h : Nat) (w6 w7 w8 : Value), h < 12 → ∀ (ma : im_MI), rz_ (ho_set H 0 1 4095) K G mi ma → (∀ q, q < h → ma 131 q = nI (gd_c H G q)) → ma 131 h = nI 0 → (∀ (w5 w6 w7 w8 : Value) (ma : im_MI), rz_ (ho_set H 0 1 4095) K G mi ma → (∀ q, q < h + 1 → ma 131 q = nI (gd_c H G q)) → Ev (d + 5) 177 87 [.ref 110, .int (nI n0), .int w, .int (nI (H 0 1)), .int (nI h), w5, w6, w7, w8] [] sh ma mr (fun r sh2 m2 r2 => sh2 = sh ∧ (r = .int (if w = nI 0 then nI (gd_all H G n0).1 else nI (gd_all H G n0).2) ∧ r2 = mr ∧ rz_ (H) (K) G mi m2))) → Ev (d + 5) 177 54 [.ref 110, .int (nI n0), .int w, .int (nI (H 0 1)), .int (nI h), .int (nI 0), w6, w7, w8] [] sh ma mr (fun r sh2 m2 r2 => sh2 = sh ∧ (r = .int (if w = nI 0 then nI (gd_all H G n0).1 else nI (gd_all H G n0).2) ∧ r2 = mr ∧ rz_ (H) (K) G mi m2)) := by
        intro h w6 w7 w8 hh ma hz g1 g2 hk
        have loop : ∀ (j i : Nat) (ma : im_MI), i + j = H 0 0 → rz_ (ho_set H 0 1 4095) K G mi ma → (∀ q, q < h → ma 131 q = nI (gd_c H G q)) → ma 131 h = nI (lo_sum (fun m => ho_days (ho_set H 0 1 4095) G m h) i) → (∀ (w5 w6 w7 w8 : Value) (ma : im_MI), rz_ (ho_set H 0 1 4095) K G mi ma → (∀ q, q < h + 1 → ma 131 q = nI (gd_c H G q)) → Ev (d + 5) 177 87 [.ref 110, .int (nI n0), .int w, .int (nI (H 0 1)), .int (nI h), w5, w6, w7, w8] [] sh ma mr (fun r sh2 m2 r2 => sh2 = sh ∧ (r = .int (if w = nI 0 then nI (gd_all H G n0).1 else nI (gd_all H G n0).2) ∧ r2 = mr ∧ rz_ (H) (K) G mi m2))) → Ev (d + 5) 177 54 [.ref 110, .int (nI n0), .int w, .int (nI (H 0 1)), .int (nI h), .int (nI i), w6, w7, w8] [] sh ma mr (fun r sh2 m2 r2 => sh2 = sh ∧ (r = .int (if w = nI 0 then nI (gd_all H G n0).1 else nI (gd_all H G n0).2) ∧ r2 = mr ∧ rz_ (H) (K) G mi m2)) := by
          intro j
          induction j with
          | zero =>
            intro i ma hi hz g1 g2 hk
            refine ev_s (is_iload rfl rfl) ?_
            refine ev_s (is_aload_n rfl rfl) ?_
            refine ev_s (is_getI' rfl (pu_s hC 110 rfl rfl) rfl rfl (hz.1.1.trans (by rw [(show ho_set H 0 1 4095 0 0 = H 0 0 from ho_set_j _ _ _ _ (by decide) _)]))) ?_
            refine ev_s (is_icmp_ge_t rfl (nI_le (by omega) (by omega))) ?_
            refine hk _ _ _ _ _ hz (fun q hq => ?_)
            rcases Nat.eq_or_lt_of_le (Nat.le_of_lt_succ hq) with c | c
            · rw [c, g2]
              unfold gd_c ho_col
              rw [(show ho_set H 0 1 4095 0 0 = H 0 0 from ho_set_j _ _ _ _ (by decide) _), show i = H 0 0 by omega]
            · exact g1 q c
          | succ j ih =>
            intro i ma hi hz g1 g2 hk
            refine ev_s (is_iload rfl rfl) ?_
            refine ev_s (is_aload_n rfl rfl) ?_
            refine ev_s (is_getI' rfl (pu_s hC 110 rfl rfl) rfl rfl (hz.1.1.trans (by rw [(show ho_set H 0 1 4095 0 0 = H 0 0 from ho_set_j _ _ _ _ (by decide) _)]))) ?_
            refine ev_s (is_icmp_ge_f rfl (nI_ge (by omega) (by omega))) ?_
            refine ev_s (is_aload_n rfl rfl) ?_
            refine ev_s (is_getR rfl (pu_s hC 110 rfl rfl) rfl rfl (pu_r hC 110 35 rfl rfl)) ?_
            refine ev_s (is_iload rfl rfl) ?_
            refine ev_s (is_dup2 rfl rfl rfl) ?_
            refine ev_s (is_iaload' (h) rfl (pu_s hC 131 rfl rfl) rfl rfl (by omega) g2) ?_
            refine ev_s (is_aload_n rfl rfl) ?_
            refine ev_s (is_iload rfl rfl) ?_
            refine ev_s (is_iload rfl rfl) ?_
            refine ev_q1 (is_callR 3 [_, _] [_, _, _] rfl rfl rfl rfl rfl (Nat.le_of_ble_eq_true rfl) rfl rfl rfl (pu_s hC 110 rfl rfl)) rfl rfl (r_daysOf hC hz.1 (m := i) (h := h) (by omega) (by omega)) (fun r_76 mi mr hq_76 => ?_)
            obtain ⟨rfl, hmr, hsc⟩ := hq_76
            have hmr := hmr.symm
            subst hmr
            have g1 : ∀ q, q < h → mi 131 q = nI (gd_c H G q) := fun q hq => by rw [hsc 131 rfl]; exact g1 q hq
            have hz := rz_sS hz hsc
            first
              | refine ev_s (is_iadd _ rfl (nI_add _ _)) ?_
              | refine ev_s (is_iadd _ rfl rfl) ?_
            refine ev_s (is_iastore (h) rfl (pu_s hC 131 rfl rfl) rfl rfl (by omega)) ?_
            refine ev_s (st_iinc_5 _ rfl rfl (nI_inc _)) ?_
            refine ev_s (is_goto rfl) ?_
            refine ih (i + 1) _ (by omega) (rz_s hz (Or.inl (by decide))) (fun q hq => by rw [im_u_j _ _ _ _ (by omega)]; exact g1 q hq) (im_u_s _ _ _ _) hk
        exact loop (H 0 0) 0 ma (by omega) hz g1 g2 hk
      have sets : ∀ (w7 w8 : Value) (ma : im_MI), rz_ H K G mi ma → (∀ q, q < 12 → ma 131 q = nI (gd_c H G q)) → Ev (d + 5) 177 107 [.ref 110, .int (nI n0), .int w, .int (nI (H 0 1)), .int (gd_r (lo_fold (gd_f H G n0) 0 none)), .int (gd_t (lo_fold (gd_f H G n0) 0 none)), .int (nI 0), w7, w8] [] sh ma mr (fun r sh2 m2 r2 => sh2 = sh ∧ (r = .int (if w = nI 0 then nI (gd_all H G n0).1 else nI (gd_all H G n0).2) ∧ r2 = mr ∧ rz_ (H) (K) G mi m2)) := by
        intro w7 w8 ma hz g1
        have outers : ∀ (j s : Nat) (w7 w8 : Value), s + j = 4096 → Ev (d + 5) 177 107 [.ref 110, .int (nI n0), .int w, .int (nI (H 0 1)), .int (gd_r (lo_fold (gd_f H G n0) s none)), .int (gd_t (lo_fold (gd_f H G n0) s none)), .int (nI s), w7, w8] [] sh ma mr (fun r sh2 m2 r2 => sh2 = sh ∧ (r = .int (if w = nI 0 then nI (gd_all H G n0).1 else nI (gd_all H G n0).2) ∧ r2 = mr ∧ rz_ (H) (K) G mi m2)) := by
          intro j
          induction j with
          | zero =>
            intro s w7 w8 hi
            refine ev_s (is_iload rfl rfl) ?_
            refine ev_s (is_sipush (nI 4096) rfl rfl) ?_
            refine ev_s (is_icmp_ge_t rfl (nI_le (by omega) (by omega))) ?_
            refine ev_s (is_iload_n rfl rfl) ?_
            refine ev_if_ne rfl (fun h_225 => ?_) (fun h_225 => ?_)
            · refine ev_s (is_iload rfl rfl) ?_
              refine ev_ret (is_ireturn rfl rfl (by first | rfl | exact pu_b_nar | decide)) ?_
              have h6 : s = 4096 := by omega
              obtain ⟨q, eq⟩ := gd_some' H G (n := n0) (by omega)
              have eq2 : gd_all H G n0 = q := by unfold gd_all; rw [eq]; rfl
              have eq3 : (lo_fold (gd_f H G n0) s none) = some q := by rw [h6]; exact eq
              rw [eq3, eq2]
              first
                | (have e : w = nI 0 := Decidable.of_not_not h_225
                   exact ⟨rfl, by rw [if_pos e]; rfl, rfl, hz⟩)
                | (have e : ¬ w = nI 0 := h_225
                   exact ⟨rfl, by rw [if_neg e]; rfl, rfl, hz⟩)
            · refine ev_s (is_iload rfl rfl) ?_
              refine ev_s (is_goto rfl) ?_
              refine ev_ret (is_ireturn rfl rfl (by first | rfl | exact pu_b_nar | decide)) ?_
              have h6 : s = 4096 := by omega
              obtain ⟨q, eq⟩ := gd_some' H G (n := n0) (by omega)
              have eq2 : gd_all H G n0 = q := by unfold gd_all; rw [eq]; rfl
              have eq3 : (lo_fold (gd_f H G n0) s none) = some q := by rw [h6]; exact eq
              rw [eq3, eq2]
              first
                | (have e : w = nI 0 := Decidable.of_not_not h_225
                   exact ⟨rfl, by rw [if_pos e]; rfl, rfl, hz⟩)
                | (have e : ¬ w = nI 0 := h_225
                   exact ⟨rfl, by rw [if_neg e]; rfl, rfl, hz⟩)
          | succ j ih =>
            intro s w7 w8 hi
            refine ev_s (is_iload rfl rfl) ?_
            refine ev_s (is_sipush (nI 4096) rfl rfl) ?_
            refine ev_s (is_icmp_ge_f rfl (nI_ge (by omega) (by omega))) ?_
            refine ev_s (is_iload rfl rfl) ?_
            refine ev_c1 (is_call0 1 [_] [] rfl rfl rfl rfl rfl (Nat.le_of_ble_eq_true rfl) rfl rfl rfl) rfl rfl (r_ones (s := s) (by omega)) ?_
            have hol := on_le s
            have hvl := gd_v_le (H := H) G s hn6
            refine ev_s (is_iload_n rfl rfl) ?_
            refine ev_icmpN_ne rfl (by omega) (by omega) (fun h_121 => ?_) (fun h_121 => ?_)
            · have hf : (lo_fold (gd_f H G n0) (s + 1) none) = (lo_fold (gd_f H G n0) s none) := if_neg h_121
              refine ev_s (st_iinc_6 _ rfl rfl (nI_inc _)) ?_
              refine ev_s (is_goto rfl) ?_
              have := ih (s + 1) w7 w8 (by omega)
              rw [hf] at this
              exact this
            · refine ev_s (is_iconst (nI 0) rfl rfl) ?_
              refine ev_s (st_istore_7 rfl rfl) ?_
              refine ev_s (is_iconst (nI 0) rfl rfl) ?_
              refine ev_s (st_istore_8 rfl rfl) ?_
              have loopv : ∀ (j i : Nat), i + j = 12 → Ev (d + 5) 177 170 [.ref 110, .int (nI n0), .int w, .int (nI (H 0 1)), .int (gd_r (lo_fold (gd_f H G n0) s none)), .int (gd_t (lo_fold (gd_f H G n0) s none)), .int (nI s), .int (nI (gd_v H G s)), .int (nI 12)] [] sh ma mr (fun r sh2 m2 r2 => sh2 = sh ∧ (r = .int (if w = nI 0 then nI (gd_all H G n0).1 else nI (gd_all H G n0).2) ∧ r2 = mr ∧ rz_ (H) (K) G mi m2)) → Ev (d + 5) 177 130 [.ref 110, .int (nI n0), .int w, .int (nI (H 0 1)), .int (gd_r (lo_fold (gd_f H G n0) s none)), .int (gd_t (lo_fold (gd_f H G n0) s none)), .int (nI s), .int (nI (lo_sum (fun h => if s / 2 ^ h % 2 = 1 then gd_c H G h else 0) i)), .int (nI i)] [] sh ma mr (fun r sh2 m2 r2 => sh2 = sh ∧ (r = .int (if w = nI 0 then nI (gd_all H G n0).1 else nI (gd_all H G n0).2) ∧ r2 = mr ∧ rz_ (H) (K) G mi m2)) := by
                intro j
                induction j with
                | zero =>
                  intro i  hi hk
                  refine ev_s (is_iload rfl rfl) ?_
                  refine ev_s (is_bipush (nI 12) rfl rfl) ?_
                  refine ev_s (is_icmp_ge_t rfl (nI_le (by omega) (by omega))) ?_
                  have h6 : i = 12 := by omega
                  subst h6
                  exact hk
                | succ j ih =>
                  intro i  hi hk
                  refine ev_s (is_iload rfl rfl) ?_
                  refine ev_s (is_bipush (nI 12) rfl rfl) ?_
                  refine ev_s (is_icmp_ge_f rfl (nI_ge (by omega) (by omega))) ?_
                  refine ev_s (is_iload rfl rfl) ?_
                  refine ev_s (is_iload rfl rfl) ?_
                  refine ev_s (is_iload rfl rfl) ?_
                  refine ev_s (is_ishr _ rfl (nI_shr (by omega) (by omega))) ?_
                  refine ev_s (is_iconst (nI 1) rfl rfl) ?_
                  refine ev_s (is_iand _ rfl (nI_and1 (by have := Nat.div_le_self s (2 ^ i); omega))) ?_
                  refine ev_s (is_iconst (nI 1) rfl rfl) ?_
                  have hm2 := Nat.mod_lt (s / 2 ^ i) (show 0 < 2 by decide)
                  refine ev_icmpN_ne rfl (by omega) (by omega) (fun h_147 => ?_) (fun h_147 => ?_)
                  · refine ev_s (is_iconst (nI 0) rfl rfl) ?_
                    first
                      | refine ev_s (is_iadd _ rfl (nI_add _ _)) ?_
                      | refine ev_s (is_iadd _ rfl rfl) ?_
                    refine ev_s (st_istore_7 rfl rfl) ?_
                    refine ev_s (st_iinc_8 _ rfl rfl (nI_inc _)) ?_
                    refine ev_s (is_goto rfl) ?_
                    have := ih (i + 1) (by omega) hk
                    rw [lo_sum_s] at this
                    first
                      | (rw [if_pos h_147] at this; exact this)
                      | (rw [if_neg h_147] at this; exact this)
                  · refine ev_s (is_aload_n rfl rfl) ?_
                    refine ev_s (is_getR rfl (pu_s hC 110 rfl rfl) rfl rfl (pu_r hC 110 35 rfl rfl)) ?_
                    refine ev_s (is_iload rfl rfl) ?_
                    refine ev_s (is_iaload' (i) rfl (pu_s hC 131 rfl rfl) rfl rfl (by omega) (g1 i (by omega))) ?_
                    refine ev_s (is_goto rfl) ?_
                    first
                      | refine ev_s (is_iadd _ rfl (nI_add _ _)) ?_
                      | refine ev_s (is_iadd _ rfl rfl) ?_
                    refine ev_s (st_istore_7 rfl rfl) ?_
                    refine ev_s (st_iinc_8 _ rfl rfl (nI_inc _)) ?_
                    refine ev_s (is_goto rfl) ?_
                    have := ih (i + 1) (by omega) hk
                    rw [lo_sum_s] at this
                    first
                      | (rw [if_pos h_147] at this; exact this)
                      | (rw [if_neg h_147] at this; exact this)
              refine loopv 12 0 (by omega) ?_
              rcases ep : (lo_fold (gd_f H G n0) s none) with _ | q
              · have hf : (lo_fold (gd_f H G n0) (s + 1) none) = some (s, gd_v H G s) := by show gd_f H G n0 s (lo_fold (gd_f H G n0) s none) = _; rw [ep]; unfold gd_f; rw [if_pos h_121]
                show Ev _ _ _ [_, _, _, _, .int (-1), .int (nI 0), _, _, _] _ _ _ _ _
                refine ev_s (is_iload rfl rfl) ?_
                refine ev_s (is_iconst ((-1)) rfl rfl) ?_
                refine ev_s (is_icmp_eq_t rfl rfl) ?_
                refine ev_s (is_iconst (nI 1) rfl rfl) ?_
                refine ev_s (is_goto rfl) ?_
                refine ev_s (st_istore_8 rfl rfl) ?_
                refine ev_s (is_iload rfl rfl) ?_
                refine ev_s (is_if_eq_f rfl (by decide)) ?_
                refine ev_s (is_iload rfl rfl) ?_
                refine ev_s (is_goto rfl) ?_
                refine ev_s (st_istore_4 rfl rfl) ?_
                refine ev_s (is_iload rfl rfl) ?_
                refine ev_s (is_if_eq_f rfl (by decide)) ?_
                refine ev_s (is_iload rfl rfl) ?_
                refine ev_s (is_goto rfl) ?_
                refine ev_s (st_istore_5 rfl rfl) ?_
                refine ev_s (st_iinc_6 _ rfl rfl (nI_inc _)) ?_
                refine ev_s (is_goto rfl) ?_
                have := ih (s + 1) (.int (nI (gd_v H G s))) (.int (nI 1)) (by omega)
                rw [hf] at this
                exact this
              · have hq := gd_le H G n0 hn6 s q ep
                have hqs := gd_lt H G n0 s q ep
                show Ev _ _ _ [_, _, _, _, .int (nI q.1), .int (nI q.2), _, _, _] _ _ _ _ _
                refine ev_s (is_iload rfl rfl) ?_
                refine ev_s (is_iconst ((-1)) rfl rfl) ?_
                refine ev_s (is_icmp_eq_f rfl (pu_n1 (by omega))) ?_
                refine ev_s (is_iload rfl rfl) ?_
                refine ev_s (is_iload rfl rfl) ?_
                refine ev_icmpN_le rfl (by omega) (by omega) (fun h_180 => ?_) (fun h_180 => ?_)
                · have hf : (lo_fold (gd_f H G n0) (s + 1) none) = some q := by show gd_f H G n0 s (lo_fold (gd_f H G n0) s none) = _; rw [ep]; unfold gd_f; rw [if_pos h_121]; show (if q.2 < gd_v H G s then _ else _) = _; rw [if_neg (by omega)]
                  refine ev_s (is_iconst (nI 0) rfl rfl) ?_
                  refine ev_s (st_istore_8 rfl rfl) ?_
                  refine ev_s (is_iload rfl rfl) ?_
                  refine ev_s (is_if_eq_t rfl rfl) ?_
                  refine ev_s (is_iload rfl rfl) ?_
                  refine ev_s (st_istore_4 rfl rfl) ?_
                  refine ev_s (is_iload rfl rfl) ?_
                  refine ev_s (is_if_eq_t rfl rfl) ?_
                  refine ev_s (is_iload rfl rfl) ?_
                  refine ev_s (st_istore_5 rfl rfl) ?_
                  refine ev_s (st_iinc_6 _ rfl rfl (nI_inc _)) ?_
                  refine ev_s (is_goto rfl) ?_
                  have := ih (s + 1) (.int (nI (gd_v H G s))) (.int (nI 0)) (by omega)
                  rw [hf] at this
                  exact this
                · have hf : (lo_fold (gd_f H G n0) (s + 1) none) = some (s, gd_v H G s) := by show gd_f H G n0 s (lo_fold (gd_f H G n0) s none) = _; rw [ep]; unfold gd_f; rw [if_pos h_121]; show (if q.2 < gd_v H G s then _ else _) = _; rw [if_pos (by omega)]
                  refine ev_s (is_iconst (nI 1) rfl rfl) ?_
                  refine ev_s (is_goto rfl) ?_
                  refine ev_s (st_istore_8 rfl rfl) ?_
                  refine ev_s (is_iload rfl rfl) ?_
                  refine ev_s (is_if_eq_f rfl (by decide)) ?_
                  refine ev_s (is_iload rfl rfl) ?_
                  refine ev_s (is_goto rfl) ?_
                  refine ev_s (st_istore_4 rfl rfl) ?_
                  refine ev_s (is_iload rfl rfl) ?_
                  refine ev_s (is_if_eq_f rfl (by decide)) ?_
                  refine ev_s (is_iload rfl rfl) ?_
                  refine ev_s (is_goto rfl) ?_
                  refine ev_s (st_istore_5 rfl rfl) ?_
                  refine ev_s (st_iinc_6 _ rfl rfl (nI_inc _)) ?_
                  refine ev_s (is_goto rfl) ?_
                  have := ih (s + 1) (.int (nI (gd_v H G s))) (.int (nI 1)) (by omega)
                  rw [hf] at this
                  exact this
        exact outers 4096 0 w7 w8 (by omega)
      have outer : ∀ (j h : Nat) (w5 w6 w7 w8 : Value) (ma : im_MI), h + j = 12 → rz_ (ho_set H 0 1 4095) K G mi ma → (∀ q, q < h → ma 131 q = nI (gd_c H G q)) → Ev (d + 5) 177 36 [.ref 110, .int (nI n0), .int w, .int (nI (H 0 1)), .int (nI h), w5, w6, w7, w8] [] sh ma mr (fun r sh2 m2 r2 => sh2 = sh ∧ (r = .int (if w = nI 0 then nI (gd_all H G n0).1 else nI (gd_all H G n0).2) ∧ r2 = mr ∧ rz_ (H) (K) G mi m2)) := by
        intro j
        induction j with
        | zero =>
          intro h w5 w6 w7 w8 ma hi hz g1
          refine ev_s (is_iload rfl rfl) ?_
          refine ev_s (is_bipush (nI 12) rfl rfl) ?_
          refine ev_s (is_icmp_ge_t rfl (nI_le (by omega) (by omega))) ?_
          refine ev_s (is_aload_n rfl rfl) ?_
          refine ev_s (is_iload_n rfl rfl) ?_
          refine ev_s (is_putI rfl (pu_s hC 110 rfl rfl) rfl rfl rfl) ?_
          refine ev_s (is_iconst ((-1)) rfl rfl) ?_
          refine ev_s (st_istore_4 rfl rfl) ?_
          refine ev_s (is_iconst (nI 0) rfl rfl) ?_
          refine ev_s (st_istore_5 rfl rfl) ?_
          refine ev_s (is_iconst (nI 0) rfl rfl) ?_
          refine ev_s (st_istore_6 rfl rfl) ?_
          have hz := rz_watch hz (v := H 0 1) hw0
          rw [ho_set_bk] at hz
          exact sets _ _ _ hz (fun q hq => by rw [im_u_k _ _ _ _ (by decide)]; exact g1 q (by omega))
        | succ j ih =>
          intro h w5 w6 w7 w8 ma hi hz g1
          refine ev_s (is_iload rfl rfl) ?_
          refine ev_s (is_bipush (nI 12) rfl rfl) ?_
          refine ev_s (is_icmp_ge_f rfl (nI_ge (by omega) (by omega))) ?_
          refine ev_s (is_aload_n rfl rfl) ?_
          refine ev_s (is_getR rfl (pu_s hC 110 rfl rfl) rfl rfl (pu_r hC 110 35 rfl rfl)) ?_
          refine ev_s (is_iload rfl rfl) ?_
          refine ev_s (is_iconst (nI 0) rfl rfl) ?_
          refine ev_s (is_iastore (h) rfl (pu_s hC 131 rfl rfl) rfl rfl (by omega)) ?_
          refine ev_s (is_iconst (nI 0) rfl rfl) ?_
          refine ev_s (st_istore_5 rfl rfl) ?_
          refine inner h _ _ _ (by omega) _ (rz_s hz (Or.inl (by decide))) (fun q hq => by rw [im_u_j _ _ _ _ (by omega)]; exact g1 q hq) (im_u_s _ _ _ _) (fun w5 w6 w7 w8 ma hz g1 => ?_)
          refine ev_s (st_iinc_4 _ rfl rfl (nI_inc _)) ?_
          refine ev_s (is_goto rfl) ?_
          exact ih (h + 1) _ _ _ _ _ (by omega) hz g1
      refine ev_s (is_aload_n rfl rfl) ?_
      refine ev_s (is_getI' rfl (pu_s hC 110 rfl rfl) rfl rfl hz.1.2.1) ?_
      refine ev_s (st_istore_n_3 rfl rfl) ?_
      refine ev_s (is_aload_n rfl rfl) ?_
      refine ev_s (is_sipush (nI 4095) rfl rfl) ?_
      refine ev_s (is_putI rfl (pu_s hC 110 rfl rfl) rfl rfl rfl) ?_
      refine ev_s (is_iconst (nI 0) rfl rfl) ?_
      refine ev_s (st_istore_4 rfl rfl) ?_
      exact outer 12 0 _ _ _ _ _ (by omega) (rz_watch hz (by decide)) (fun q hq => by omega)
    · refine ev_s (is_bipush ((-2)) rfl rfl) ?_
      refine ev_ret (is_ireturn rfl rfl (by first | rfl | exact pu_b_nar | decide)) ?_
      refine ⟨rfl, ?_, rfl, hz⟩
      first
        | rw [an_guard, if_neg h_6]
        | rw [an_guard, if_pos h_6, if_neg h_15]
