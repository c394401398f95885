/-! ===== PURE, the reference: count .. live ===== -/

theorem r_in' {d : Nat} {sh : im_Sh} {mi : im_MI} {mr : im_MR} (v lo hi : Int32) : EvM (d) 131 [.int v, .int lo, .int hi] sh mi mr (ev_R sh (.int (pu_b (ho_rng lo v hi = true))) mi mr) := ev_imp (r_in v lo hi) (fun r s m r2 hq => by obtain ⟨rfl, rfl, rfl, rfl⟩ := hq; exact ⟨pu_b_c' (by unfold ho_rng; rw [decide_eq_true_iff]), rfl, rfl, rfl⟩)
theorem r_isMan' {d : Nat} {sh : im_Sh} {mi : im_MI} {mr : im_MR} (hC : pu_C sh mr) {H : ho_T} {G : ho_G} (hR : rr_ok H G mi) (v : Int32) : EvM (d + 1) 133 [.ref 110, .int v] sh mi mr (ev_R sh (.int (pu_b (ho_isM H v = true))) mi mr) := ev_imp (r_isMan hC hR v) (fun r s m r2 hq => by obtain ⟨rfl, rfl, rfl, rfl⟩ := hq; exact ⟨pu_b_c' (by unfold ho_isM ho_rng; rw [decide_eq_true_iff]), rfl, rfl, rfl⟩)
theorem r_isHour' {d : Nat} {sh : im_Sh} {mi : im_MI} {mr : im_MR} (v : Int32) : EvM (d + 1) 134 [.int v] sh mi mr (ev_R sh (.int (pu_b (ho_rng (nI 0) v (nI 11) = true))) mi mr) := ev_imp (r_isHour v) (fun r s m r2 hq => by obtain ⟨rfl, rfl, rfl, rfl⟩ := hq; exact ⟨pu_b_c' (by unfold ho_rng; rw [decide_eq_true_iff]), rfl, rfl, rfl⟩)
theorem r_isByte' {d : Nat} {sh : im_Sh} {mi : im_MI} {mr : im_MR} (v : Int32) : EvM (d + 1) 137 [.int v] sh mi mr (ev_R sh (.int (pu_b (ho_rng (nI 0) v (nI 255) = true))) mi mr) := ev_imp (r_isByte v) (fun r s m r2 hq => by obtain ⟨rfl, rfl, rfl, rfl⟩ := hq; exact ⟨pu_b_c' (by unfold ho_rng; rw [decide_eq_true_iff]), rfl, rfl, rfl⟩)

theorem r_count {d : Nat} {sh : im_Sh} {mi : im_MI} {mr : im_MR} (hC : pu_C sh mr) {H K : ho_T} {G : ho_G} (hz : rz_ H K G mi mi) (v : Int32) : EvM (d) 135 [.ref 110, .int v] sh mi mr (fun r sh2 m2 r2 => sh2 = sh ∧ (r = .int (an_count H v) ∧ r2 = mr ∧ rz_ (H) (K) G mi m2)) := by
  show Ev (d) 135 0 [.ref 110, .int v] [] sh mi mr _
  refine ev_s (is_iload_n rfl rfl) ?_
  by_cases s_0 : v = nI 0
  · subst s_0
    refine ev_s (is_tsw 36 rfl (by decide)) ?_
    refine ev_s (is_aload_n rfl rfl) ?_
    refine ev_s (is_getI' rfl (pu_s hC 110 rfl rfl) rfl rfl hz.1.1) ?_
    refine ev_ret (is_ireturn rfl rfl (by first | rfl | exact pu_b_nar | decide)) ?_
    refine ⟨rfl, ?_, rfl, hz⟩
    simp [an_count, ]
  by_cases s_1 : v = nI 1
  · subst s_1
    refine ev_s (is_tsw 41 rfl (by decide)) ?_
    refine ev_s (is_aload_n rfl rfl) ?_
    refine ev_s (is_getI' rfl (pu_s hC 110 rfl rfl) rfl rfl hz.1.2.1) ?_
    refine ev_ret (is_ireturn rfl rfl (by first | rfl | exact pu_b_nar | decide)) ?_
    refine ⟨rfl, ?_, rfl, hz⟩
    simp [an_count, s_0]
  by_cases s_2 : v = nI 2
  · subst s_2
    refine ev_s (is_tsw 46 rfl (by decide)) ?_
    refine ev_s (is_aload_n rfl rfl) ?_
    refine ev_s (is_getI' rfl (pu_s hC 110 rfl rfl) rfl rfl hz.1.2.2.1) ?_
    refine ev_ret (is_ireturn rfl rfl (by first | rfl | exact pu_b_nar | decide)) ?_
    refine ⟨rfl, ?_, rfl, hz⟩
    simp [an_count, s_0, s_1]
  by_cases s_3 : v = nI 3
  · subst s_3
    refine ev_s (is_tsw 51 rfl (by decide)) ?_
    refine ev_s (is_aload_n rfl rfl) ?_
    refine ev_s (is_getI' rfl (pu_s hC 110 rfl rfl) rfl rfl hz.1.2.2.2.1) ?_
    refine ev_ret (is_ireturn rfl rfl (by first | rfl | exact pu_b_nar | decide)) ?_
    refine ⟨rfl, ?_, rfl, hz⟩
    simp [an_count, s_0, s_1, s_2]
  by_cases s_4 : v = nI 4
  · subst s_4
    refine ev_s (is_tsw 56 rfl (by decide)) ?_
    refine ev_s (is_aload_n rfl rfl) ?_
    refine ev_s (is_getI' rfl (pu_s hC 110 rfl rfl) rfl rfl hz.2.1.1) ?_
    refine ev_ret (is_ireturn rfl rfl (by first | rfl | exact pu_b_nar | decide)) ?_
    refine ⟨rfl, ?_, rfl, hz⟩
    simp [an_count, s_0, s_1, s_2, s_3]
  have t_0 := pu_ne_toInt s_0 (by decide)
  have t_1 := pu_ne_toInt s_1 (by decide)
  have t_2 := pu_ne_toInt s_2 (by decide)
  have t_3 := pu_ne_toInt s_3 (by decide)
  have t_4 := pu_ne_toInt s_4 (by decide)
  refine ev_s (is_tswD 61 rfl (by omega) (by decide)) ?_
  refine ev_s (is_bipush ((-2)) rfl rfl) ?_
  refine ev_ret (is_ireturn rfl rfl (by first | rfl | exact pu_b_nar | decide)) ?_
  refine ⟨rfl, ?_, rfl, hz⟩
  simp [an_count, s_0, s_1, s_2, s_3, s_4]

theorem r_watches {d : Nat} {sh : im_Sh} {mi : im_MI} {mr : im_MR} (hC : pu_C sh mr) {H K : ho_T} {G : ho_G} (hz : rz_ H K G mi mi) (s : Int32) : EvM (d + 1) 136 [.ref 110, .int s] sh mi mr (fun r sh2 m2 r2 => sh2 = sh ∧ (r = .int (an_watches H s) ∧ r2 = mr ∧ rz_ (st_watches H s) (K) G mi m2)) := by
  show Ev (d + 1) 136 0 [.ref 110, .int s, im_bad] [] sh mi mr _
  refine ev_s (is_iload_n rfl rfl) ?_
  refine ev_s (is_iconst (nI 0) rfl rfl) ?_
  refine ev_s (is_sipush (nI 4095) rfl rfl) ?_
  refine ev_c1 (is_call0 3 [_, _, _] [] rfl rfl rfl rfl rfl (Nat.le_of_ble_eq_true rfl) rfl rfl rfl) rfl rfl (r_in' _ _ _) ?_
  refine ev_ifB_ne rfl (fun h_8 => ?_) (fun h_8 => ?_)
  · obtain ⟨p0, rfl, lp0, up0, ep0⟩ := ho_rng_n h_8 (by decide) (by decide)
    refine ev_s (is_aload_n rfl rfl) ?_
    refine ev_s (is_getI' rfl (pu_s hC 110 rfl rfl) rfl rfl hz.1.2.1) ?_
    refine ev_s (st_istore_n_2 rfl rfl) ?_
    refine ev_s (is_aload_n rfl rfl) ?_
    refine ev_s (is_iload_n rfl rfl) ?_
    refine ev_s (is_putI rfl (pu_s hC 110 rfl rfl) rfl rfl rfl) ?_
    refine ev_s (is_iload_n rfl rfl) ?_
    refine ev_ret (is_ireturn rfl rfl (by first | rfl | exact pu_b_nar | decide)) ?_
    refine ⟨rfl, by simp [an_watches, h_8, ep0], rfl, ?_⟩
    rw [st_watches, if_pos h_8, ep0]; exact rz_watch hz (by omega)
  · refine ev_s (is_bipush ((-2)) rfl rfl) ?_
    refine ev_ret (is_ireturn rfl rfl (by first | rfl | exact pu_b_nar | decide)) ?_
    refine ⟨rfl, by simp [an_watches, h_8], rfl, ?_⟩
    rw [st_watches, if_neg h_8]; exact hz

theorem r_force {d : Nat} {sh : im_Sh} {mi : im_MI} {mr : im_MR} (hC : pu_C sh mr) {H K : ho_T} {G : ho_G} (hz : rz_ H K G mi mi) (t : Int32) : EvM (d + 1) 152 [.ref 110, .int t] sh mi mr (fun r sh2 m2 r2 => sh2 = sh ∧ (r = .int (an_force H t) ∧ r2 = mr ∧ rz_ (st_force H t) (K) G mi m2)) := by
  show Ev (d + 1) 152 0 [.ref 110, .int t, im_bad] [] sh mi mr _
  refine ev_s (is_iload_n rfl rfl) ?_
  refine ev_s (is_iconst (nI 0) rfl rfl) ?_
  refine ev_s (is_aload_n rfl rfl) ?_
  refine ev_s (is_getI' rfl (pu_s hC 110 rfl rfl) rfl rfl hz.1.2.2.1) ?_
  refine ev_s (is_iconst (nI 1) rfl rfl) ?_
  first
    | refine ev_s (is_isub _ rfl (pk_sub (by omega))) ?_
    | refine ev_s (is_isub _ rfl rfl) ?_
  refine ev_c1 (is_call0 3 [_, _, _] [] rfl rfl rfl rfl rfl (Nat.le_of_ble_eq_true rfl) rfl rfl rfl) rfl rfl (r_in' _ _ _) ?_
  refine ev_ifB_ne rfl (fun h_11 => ?_) (fun h_11 => ?_)
  · have h2 : ho_isT H t = true := h_11
    obtain ⟨t0, rfl, ht0, et0⟩ := ho_isT_n (rz_bd hz).2.2.1 h2
    refine ev_s (is_aload_n rfl rfl) ?_
    refine ev_s (is_getI' rfl (pu_s hC 110 rfl rfl) rfl rfl hz.1.2.2.2.1) ?_
    refine ev_s (st_istore_n_2 rfl rfl) ?_
    refine ev_s (is_aload_n rfl rfl) ?_
    refine ev_s (is_iload_n rfl rfl) ?_
    refine ev_s (is_putI rfl (pu_s hC 110 rfl rfl) rfl rfl rfl) ?_
    refine ev_s (is_iload_n rfl rfl) ?_
    refine ev_ret (is_ireturn rfl rfl (by first | rfl | exact pu_b_nar | decide)) ?_
    rw [show an_force H (nI t0) = nI (H 0 3) from if_pos h2, show st_force H (nI t0) = ho_set H 0 3 (jn (nI t0)) from if_pos h2, et0]
    exact ⟨rfl, rfl, rfl, rz_rule hz ht0⟩
  · refine ev_s (is_bipush ((-2)) rfl rfl) ?_
    refine ev_ret (is_ireturn rfl rfl (by first | rfl | exact pu_b_nar | decide)) ?_
    rw [show an_force H t = -2 from if_neg h_11, show st_force H t = H from if_neg h_11]
    exact ⟨rfl, rfl, rfl, hz⟩

theorem r_asks {d : Nat} {sh : im_Sh} {mi : im_MI} {mr : im_MR} (hC : pu_C sh mr) {H K : ho_T} {G : ho_G} (hz : rz_ H K G mi mi) (p m h : Int32) : EvM (d + 3) 157 [.ref 110, .int p, .int m, .int h] sh mi mr (fun r sh2 m2 r2 => sh2 = sh ∧ (r = .int (an_asks H G p m h) ∧ r2 = mr ∧ rz_ (H) (K) G mi m2)) := by
  show Ev (d + 3) 157 0 [.ref 110, .int p, .int m, .int h] [] sh mi mr _
  have hn6 := rz_n hz
  refine ev_s (is_iload_n rfl rfl) ?_
  refine ev_s (is_iconst (nI 0) rfl rfl) ?_
  refine ev_s (is_iconst (nI 2) rfl rfl) ?_
  refine ev_c1 (is_call0 3 [_, _, _] [] rfl rfl rfl rfl rfl (Nat.le_of_ble_eq_true rfl) rfl rfl rfl) rfl rfl (r_in' _ _ _) ?_
  refine ev_ifB_eq rfl (fun h_6 => ?_) (fun h_6 => ?_)
  · refine ev_s (is_bipush ((-2)) rfl rfl) ?_
    refine ev_ret (is_ireturn rfl rfl (by first | rfl | exact pu_b_nar | decide)) ?_
    refine ⟨rfl, by simp [an_asks, h_6], rfl, hz⟩
  · obtain ⟨p0, rfl, lp0, up0, ep0⟩ := ho_rng_n h_6 (by decide) (by decide)
    refine ev_s (is_aload_n rfl rfl) ?_
    refine ev_s (is_iload_n rfl rfl) ?_
    refine ev_c1 (is_callR 2 [_] [] rfl rfl rfl rfl rfl (Nat.le_of_ble_eq_true rfl) rfl rfl rfl (pu_s hC 110 rfl rfl)) rfl rfl (r_isMan' hC hz.1 _) ?_
    refine ev_ifB_eq rfl (fun h_14 => ?_) (fun h_14 => ?_)
    · refine ev_s (is_bipush ((-2)) rfl rfl) ?_
      refine ev_ret (is_ireturn rfl rfl (by first | rfl | exact pu_b_nar | decide)) ?_
      refine ⟨rfl, by simp [an_asks, h_6, ep0, h_14], rfl, hz⟩
    · obtain ⟨m0, rfl, hm0, em0⟩ := ho_isM_n hn6 h_14
      refine ev_s (is_iload_n rfl rfl) ?_
      refine ev_c1 (is_call0 1 [_] [] rfl rfl rfl rfl rfl (Nat.le_of_ble_eq_true rfl) rfl rfl rfl) rfl rfl (r_isHour' _) ?_
      refine ev_ifB_eq rfl (fun h_21 => ?_) (fun h_21 => ?_)
      · refine ev_s (is_bipush ((-2)) rfl rfl) ?_
        refine ev_ret (is_ireturn rfl rfl (by first | rfl | exact pu_b_nar | decide)) ?_
        refine ⟨rfl, by simp [an_asks, h_6, ep0, h_14, em0, h_21], rfl, hz⟩
      · obtain ⟨h0, rfl, lh0, uh0, eh0⟩ := ho_rng_n h_21 (by decide) (by decide)
        refine ev_s (is_aload_n rfl rfl) ?_
        refine ev_s (is_iload_n rfl rfl) ?_
        refine ev_s (is_iload_n rfl rfl) ?_
        refine ev_s (is_iload_n rfl rfl) ?_
        refine ev_q1 (is_callR 4 [_, _, _] [] rfl rfl rfl rfl rfl (Nat.le_of_ble_eq_true rfl) rfl rfl rfl (pu_s hC 110 rfl rfl)) rfl rfl (r_asksOf hC hz.1 (p := p0) (m := m0) (h := h0) (by omega) (by omega) (by omega)) (fun r_28 mi mr hq_28 => ?_)
        obtain ⟨rfl, hmr, hsc⟩ := hq_28
        have hmr := hmr.symm
        subst hmr
        have hz := rz_sS hz hsc
        refine ev_s (is_goto rfl) ?_
        refine ev_ret (is_ireturn rfl rfl (by first | rfl | exact pu_b_nar | decide)) ?_
        refine ⟨rfl, by simp [an_asks, h_6, ep0, h_14, em0, h_21, eh0], rfl, hz⟩

theorem r_put {d : Nat} {sh : im_Sh} {mi : im_MI} {mr : im_MR} (hC : pu_C sh mr) {H K : ho_T} {G : ho_G} (hz : rz_ H K G mi mi) (m w v : Int32) : EvM (d + 2) 159 [.ref 110, .int m, .int w, .int v] sh mi mr (fun r sh2 m2 r2 => sh2 = sh ∧ (r = .int (an_put H m w v) ∧ r2 = mr ∧ rz_ (st_put H m w v) (K) G mi m2)) := by
  show Ev (d + 2) 159 0 [.ref 110, .int m, .int w, .int v, im_bad] [] sh mi mr _
  have hn6 := rz_n hz
  refine ev_s (is_aload_n rfl rfl) ?_
  refine ev_s (is_iload_n rfl rfl) ?_
  refine ev_c1 (is_callR 2 [_] [] rfl rfl rfl rfl rfl (Nat.le_of_ble_eq_true rfl) rfl rfl rfl (pu_s hC 110 rfl rfl)) rfl rfl (r_isMan' hC hz.1 _) ?_
  refine ev_ifB_ne rfl (fun h_5 => ?_) (fun h_5 => ?_)
  · obtain ⟨m0, rfl, hm0, em0⟩ := ho_isM_n hn6 h_5
    refine ev_s (is_iload_n rfl rfl) ?_
    refine ev_s (is_iconst (nI 0) rfl rfl) ?_
    refine ev_s (is_bipush (nI 12) rfl rfl) ?_
    refine ev_c1 (is_call0 3 [_, _, _] [] rfl rfl rfl rfl rfl (Nat.le_of_ble_eq_true rfl) rfl rfl rfl) rfl rfl (r_in' _ _ _) ?_
    refine ev_ifB_eq rfl (fun h_18 => ?_) (fun h_18 => ?_)
    · refine ev_s (is_bipush ((-7)) rfl rfl) ?_
      refine ev_ret (is_ireturn rfl rfl (by first | rfl | exact pu_b_nar | decide)) ?_
      refine ⟨rfl, ?_, rfl, ?_⟩
      · rw [show an_put H (nI m0) w v = -7 by unfold an_put; rw [if_pos h_5, if_neg h_18]]
      · rw [show st_put H (nI m0) w v = H by unfold st_put; rw [if_pos h_5, if_neg h_18]]; exact hz
    · obtain ⟨w0, rfl, lw0, uw0, ew0⟩ := ho_rng_n h_18 (by decide) (by decide)
      refine ev_s (is_iload_n rfl rfl) ?_
      refine ev_s (is_iconst (nI 0) rfl rfl) ?_
      refine ev_s (is_iload_n rfl rfl) ?_
      refine ev_s (is_bipush (nI 12) rfl rfl) ?_
      refine ev_icmpN_ne rfl (by omega) (by omega) (fun h_26 => ?_) (fun h_26 => ?_)
      · have e26 : ¬ nI w0 = nI 12 := fun q => h_26 ((nI_eq (by omega) (by decide)).mp q)
        refine ev_s (is_iconst (nI 5) rfl rfl) ?_
        refine ev_c1 (is_call0 3 [_, _, _] [] rfl rfl rfl rfl rfl (Nat.le_of_ble_eq_true rfl) rfl rfl rfl) rfl rfl (r_in' _ _ _) ?_
        refine ev_ifB_ne rfl (fun h_39 => ?_) (fun h_39 => ?_)
        · obtain ⟨v0, rfl, lv0, uv0, ev0⟩ := ho_rng_n h_39 (by decide) (by decide)
          refine ev_s (is_aload_n rfl rfl) ?_
          refine ev_s (is_getR rfl (pu_s hC 110 rfl rfl) rfl rfl (pu_r hC 110 3 rfl rfl)) ?_
          refine ev_s (is_bipush (nI 14) rfl rfl) ?_
          refine ev_s (is_iload_n rfl rfl) ?_
          first
            | refine ev_s (is_imul _ rfl (pk_mul _ _)) ?_
            | refine ev_s (is_imul _ rfl rfl) ?_
          refine ev_s (is_iload_n rfl rfl) ?_
          first
            | refine ev_s (is_iadd _ rfl (nI_add _ _)) ?_
            | refine ev_s (is_iadd _ rfl rfl) ?_
          refine ev_s (is_iaload' (14 * m0 + w0) rfl (pu_s hC 113 rfl rfl) rfl rfl (by omega) (rz_at hz (by omega) (by omega))) ?_
          refine ev_s (st_istore_4 rfl rfl) ?_
          refine ev_s (is_aload_n rfl rfl) ?_
          refine ev_s (is_getR rfl (pu_s hC 110 rfl rfl) rfl rfl (pu_r hC 110 3 rfl rfl)) ?_
          refine ev_s (is_bipush (nI 14) rfl rfl) ?_
          refine ev_s (is_iload_n rfl rfl) ?_
          first
            | refine ev_s (is_imul _ rfl (pk_mul _ _)) ?_
            | refine ev_s (is_imul _ rfl rfl) ?_
          refine ev_s (is_iload_n rfl rfl) ?_
          first
            | refine ev_s (is_iadd _ rfl (nI_add _ _)) ?_
            | refine ev_s (is_iadd _ rfl rfl) ?_
          refine ev_s (is_iload_n rfl rfl) ?_
          refine ev_s (is_iastore (14 * m0 + w0) rfl (pu_s hC 113 rfl rfl) rfl rfl (by omega)) ?_
          refine ev_s (is_iload rfl rfl) ?_
          refine ev_ret (is_ireturn rfl rfl (by first | rfl | exact pu_b_nar | decide)) ?_
          rw [show an_put H (nI m0) (nI w0) (nI v0) = nI (H (10 + jn (nI m0)) (jn (nI w0))) by unfold an_put; rw [if_pos h_5, if_pos h_18, if_neg e26, if_pos h_39], show st_put H (nI m0) (nI w0) (nI v0) = ho_set H (10 + jn (nI m0)) (jn (nI w0)) (jn (nI v0)) by unfold st_put; rw [if_pos h_5, if_pos h_18, if_neg e26, if_pos h_39]]
          rw [em0, ew0, ev0]
          refine ⟨rfl, rfl, rfl, rz_row hz (by omega) (by omega) (ho_bd_put (rz_bd hz) ?_)⟩
          omega
        · refine ev_s (is_bipush ((-7)) rfl rfl) ?_
          refine ev_ret (is_ireturn rfl rfl (by first | rfl | exact pu_b_nar | decide)) ?_
          refine ⟨rfl, ?_, rfl, ?_⟩
          · rw [show an_put H (nI m0) (nI w0) v = -7 by unfold an_put; rw [if_pos h_5, if_pos h_18, if_neg e26, if_neg h_39]]
          · rw [show st_put H (nI m0) (nI w0) v = H by unfold st_put; rw [if_pos h_5, if_pos h_18, if_neg e26, if_neg h_39]]; exact hz
      · have e26 : nI w0 = nI 12 := by rw [h_26]
        refine ev_s (is_sipush (nI 9999) rfl rfl) ?_
        refine ev_s (is_goto rfl) ?_
        refine ev_c1 (is_call0 3 [_, _, _] [] rfl rfl rfl rfl rfl (Nat.le_of_ble_eq_true rfl) rfl rfl rfl) rfl rfl (r_in' _ _ _) ?_
        refine ev_ifB_ne rfl (fun h_39 => ?_) (fun h_39 => ?_)
        · obtain ⟨v0, rfl, lv0, uv0, ev0⟩ := ho_rng_n h_39 (by decide) (by decide)
          refine ev_s (is_aload_n rfl rfl) ?_
          refine ev_s (is_getR rfl (pu_s hC 110 rfl rfl) rfl rfl (pu_r hC 110 3 rfl rfl)) ?_
          refine ev_s (is_bipush (nI 14) rfl rfl) ?_
          refine ev_s (is_iload_n rfl rfl) ?_
          first
            | refine ev_s (is_imul _ rfl (pk_mul _ _)) ?_
            | refine ev_s (is_imul _ rfl rfl) ?_
          refine ev_s (is_iload_n rfl rfl) ?_
          first
            | refine ev_s (is_iadd _ rfl (nI_add _ _)) ?_
            | refine ev_s (is_iadd _ rfl rfl) ?_
          refine ev_s (is_iaload' (14 * m0 + w0) rfl (pu_s hC 113 rfl rfl) rfl rfl (by omega) (rz_at hz (by omega) (by omega))) ?_
          refine ev_s (st_istore_4 rfl rfl) ?_
          refine ev_s (is_aload_n rfl rfl) ?_
          refine ev_s (is_getR rfl (pu_s hC 110 rfl rfl) rfl rfl (pu_r hC 110 3 rfl rfl)) ?_
          refine ev_s (is_bipush (nI 14) rfl rfl) ?_
          refine ev_s (is_iload_n rfl rfl) ?_
          first
            | refine ev_s (is_imul _ rfl (pk_mul _ _)) ?_
            | refine ev_s (is_imul _ rfl rfl) ?_
          refine ev_s (is_iload_n rfl rfl) ?_
          first
            | refine ev_s (is_iadd _ rfl (nI_add _ _)) ?_
            | refine ev_s (is_iadd _ rfl rfl) ?_
          refine ev_s (is_iload_n rfl rfl) ?_
          refine ev_s (is_iastore (14 * m0 + w0) rfl (pu_s hC 113 rfl rfl) rfl rfl (by omega)) ?_
          refine ev_s (is_iload rfl rfl) ?_
          refine ev_ret (is_ireturn rfl rfl (by first | rfl | exact pu_b_nar | decide)) ?_
          rw [show an_put H (nI m0) (nI w0) (nI v0) = nI (H (10 + jn (nI m0)) (jn (nI w0))) by unfold an_put; rw [if_pos h_5, if_pos h_18, if_pos e26, if_pos h_39], show st_put H (nI m0) (nI w0) (nI v0) = ho_set H (10 + jn (nI m0)) (jn (nI w0)) (jn (nI v0)) by unfold st_put; rw [if_pos h_5, if_pos h_18, if_pos e26, if_pos h_39]]
          rw [em0, ew0, ev0]
          refine ⟨rfl, rfl, rfl, rz_row hz (by omega) (by omega) (ho_bd_put (rz_bd hz) ?_)⟩
          omega
        · refine ev_s (is_bipush ((-7)) rfl rfl) ?_
          refine ev_ret (is_ireturn rfl rfl (by first | rfl | exact pu_b_nar | decide)) ?_
          refine ⟨rfl, ?_, rfl, ?_⟩
          · rw [show an_put H (nI m0) (nI w0) v = -7 by unfold an_put; rw [if_pos h_5, if_pos h_18, if_pos e26, if_neg h_39]]
          · rw [show st_put H (nI m0) (nI w0) v = H by unfold st_put; rw [if_pos h_5, if_pos h_18, if_pos e26, if_neg h_39]]; exact hz
  · refine ev_s (is_bipush ((-5)) rfl rfl) ?_
    refine ev_ret (is_ireturn rfl rfl (by first | rfl | exact pu_b_nar | decide)) ?_
    refine ⟨rfl, ?_, rfl, ?_⟩
    · rw [show an_put H m w v = -5 from if_neg h_5]
    · rw [show st_put H m w v = H from if_neg h_5]; exact hz

theorem r_told {d : Nat} {sh : im_Sh} {mi : im_MI} {mr : im_MR} (hC : pu_C sh mr) {H K : ho_T} {G : ho_G} (hz : rz_ H K G mi mi) (m w : Int32) : EvM (d + 2) 160 [.ref 110, .int m, .int w] sh mi mr (fun r sh2 m2 r2 => sh2 = sh ∧ (r = .int (an_told H m w) ∧ r2 = mr ∧ rz_ (H) (K) G mi m2)) := by
  show Ev (d + 2) 160 0 [.ref 110, .int m, .int w] [] sh mi mr _
  have hn6 := rz_n hz
  refine ev_s (is_aload_n rfl rfl) ?_
  refine ev_s (is_iload_n rfl rfl) ?_
  refine ev_c1 (is_callR 2 [_] [] rfl rfl rfl rfl rfl (Nat.le_of_ble_eq_true rfl) rfl rfl rfl (pu_s hC 110 rfl rfl)) rfl rfl (r_isMan' hC hz.1 _) ?_
  refine ev_ifB_ne rfl (fun h_5 => ?_) (fun h_5 => ?_)
  · obtain ⟨m0, rfl, hm0, em0⟩ := ho_isM_n hn6 h_5
    refine ev_s (is_iload_n rfl rfl) ?_
    refine ev_s (is_iconst (nI 0) rfl rfl) ?_
    refine ev_s (is_bipush (nI 12) rfl rfl) ?_
    refine ev_c1 (is_call0 3 [_, _, _] [] rfl rfl rfl rfl rfl (Nat.le_of_ble_eq_true rfl) rfl rfl rfl) rfl rfl (r_in' _ _ _) ?_
    refine ev_ifB_eq rfl (fun h_18 => ?_) (fun h_18 => ?_)
    · refine ev_s (is_iload_n rfl rfl) ?_
      refine ev_s (is_bipush (nI 13) rfl rfl) ?_
      refine ev_icmp_ne rfl (fun h_36 => ?_) (fun h_36 => ?_)
      · refine ev_s (is_iload_n rfl rfl) ?_
        refine ev_s (is_bipush (nI 14) rfl rfl) ?_
        refine ev_icmp_ne rfl (fun h_51 => ?_) (fun h_51 => ?_)
        · refine ev_s (is_iload_n rfl rfl) ?_
          refine ev_s (is_bipush (nI 15) rfl rfl) ?_
          refine ev_icmp_ne rfl (fun h_66 => ?_) (fun h_66 => ?_)
          · refine ev_s (is_iload_n rfl rfl) ?_
            refine ev_s (is_bipush (nI 16) rfl rfl) ?_
            refine ev_icmp_ne rfl (fun h_87 => ?_) (fun h_87 => ?_)
            · refine ev_s (is_bipush ((-7)) rfl rfl) ?_
              refine ev_ret (is_ireturn rfl rfl (by first | rfl | exact pu_b_nar | decide)) ?_
              have hx : ∀ x : Int32, an_told H (nI m0) w = x → an_told H (nI m0) w = x := fun _ z => z
              refine ⟨rfl, ?_, rfl, hz⟩
              unfold an_told
              rw [if_pos h_5, if_neg h_18, em0]
              first
                | rw [if_pos h_36]
                | rw [if_neg h_36, if_pos h_51]
                | rw [if_neg h_36, if_neg h_51, if_pos h_66]
                | rw [if_neg h_36, if_neg h_51, if_neg h_66, if_pos h_87]
                | rw [if_neg h_36, if_neg h_51, if_neg h_66, if_neg h_87]
            · have h_87 := Decidable.of_not_not h_87
              refine ev_s (is_aload_n rfl rfl) ?_
              refine ev_s (is_iload_n rfl rfl) ?_
              refine ev_c1 (is_callR 2 [_] [] rfl rfl rfl rfl rfl (Nat.le_of_ble_eq_true rfl) rfl rfl rfl (pu_s hC 110 rfl rfl)) rfl rfl (r_mateOf hC hz.1 (m := m0) (by omega)) ?_
              refine ev_s (is_goto rfl) ?_
              refine ev_ret (is_ireturn rfl rfl (by first | rfl | exact pu_b_nar | decide)) ?_
              have hx : ∀ x : Int32, an_told H (nI m0) w = x → an_told H (nI m0) w = x := fun _ z => z
              refine ⟨rfl, ?_, rfl, hz⟩
              unfold an_told
              rw [if_pos h_5, if_neg h_18, em0]
              first
                | rw [if_pos h_36]
                | rw [if_neg h_36, if_pos h_51]
                | rw [if_neg h_36, if_neg h_51, if_pos h_66]
                | rw [if_neg h_36, if_neg h_51, if_neg h_66, if_pos h_87]
                | rw [if_neg h_36, if_neg h_51, if_neg h_66, if_neg h_87]
          · have h_66 := Decidable.of_not_not h_66
            refine ev_s (is_aload_n rfl rfl) ?_
            refine ev_s (is_getR rfl (pu_s hC 110 rfl rfl) rfl rfl (pu_r hC 110 3 rfl rfl)) ?_
            refine ev_s (is_bipush (nI 14) rfl rfl) ?_
            refine ev_s (is_iload_n rfl rfl) ?_
            first
              | refine ev_s (is_imul _ rfl (pk_mul _ _)) ?_
              | refine ev_s (is_imul _ rfl rfl) ?_
            refine ev_s (is_bipush (nI 13) rfl rfl) ?_
            first
              | refine ev_s (is_iadd _ rfl (nI_add _ _)) ?_
              | refine ev_s (is_iadd _ rfl rfl) ?_
            refine ev_s (is_iaload' (14 * m0 + 13) rfl (pu_s hC 113 rfl rfl) rfl rfl (by omega) (rz_at hz (by omega) (by decide))) ?_
            refine ev_s (is_goto rfl) ?_
            refine ev_ret (is_ireturn rfl rfl (by first | rfl | exact pu_b_nar | decide)) ?_
            have hx : ∀ x : Int32, an_told H (nI m0) w = x → an_told H (nI m0) w = x := fun _ z => z
            refine ⟨rfl, ?_, rfl, hz⟩
            unfold an_told
            rw [if_pos h_5, if_neg h_18, em0]
            first
              | rw [if_pos h_36]
              | rw [if_neg h_36, if_pos h_51]
              | rw [if_neg h_36, if_neg h_51, if_pos h_66]
              | rw [if_neg h_36, if_neg h_51, if_neg h_66, if_pos h_87]
              | rw [if_neg h_36, if_neg h_51, if_neg h_66, if_neg h_87]
        · have h_51 := Decidable.of_not_not h_51
          refine ev_s (is_aload_n rfl rfl) ?_
          refine ev_s (is_getR rfl (pu_s hC 110 rfl rfl) rfl rfl (pu_r hC 110 2 rfl rfl)) ?_
          refine ev_s (is_iload_n rfl rfl) ?_
          refine ev_s (is_iaload' (m0) rfl (pu_s hC 112 rfl rfl) rfl rfl (by omega) (rz_m hz (by omega))) ?_
          refine ev_s (is_goto rfl) ?_
          refine ev_ret (is_ireturn rfl rfl (by first | rfl | exact pu_b_nar | decide)) ?_
          have hx : ∀ x : Int32, an_told H (nI m0) w = x → an_told H (nI m0) w = x := fun _ z => z
          refine ⟨rfl, ?_, rfl, hz⟩
          unfold an_told
          rw [if_pos h_5, if_neg h_18, em0]
          first
            | rw [if_pos h_36]
            | rw [if_neg h_36, if_pos h_51]
            | rw [if_neg h_36, if_neg h_51, if_pos h_66]
            | rw [if_neg h_36, if_neg h_51, if_neg h_66, if_pos h_87]
            | rw [if_neg h_36, if_neg h_51, if_neg h_66, if_neg h_87]
      · have h_36 := Decidable.of_not_not h_36
        refine ev_s (is_aload_n rfl rfl) ?_
        refine ev_s (is_getR rfl (pu_s hC 110 rfl rfl) rfl rfl (pu_r hC 110 1 rfl rfl)) ?_
        refine ev_s (is_iload_n rfl rfl) ?_
        refine ev_s (is_iaload' (m0) rfl (pu_s hC 111 rfl rfl) rfl rfl (by omega) (rz_k hz (by omega))) ?_
        refine ev_s (is_goto rfl) ?_
        refine ev_ret (is_ireturn rfl rfl (by first | rfl | exact pu_b_nar | decide)) ?_
        have hx : ∀ x : Int32, an_told H (nI m0) w = x → an_told H (nI m0) w = x := fun _ z => z
        refine ⟨rfl, ?_, rfl, hz⟩
        unfold an_told
        rw [if_pos h_5, if_neg h_18, em0]
        first
          | rw [if_pos h_36]
          | rw [if_neg h_36, if_pos h_51]
          | rw [if_neg h_36, if_neg h_51, if_pos h_66]
          | rw [if_neg h_36, if_neg h_51, if_neg h_66, if_pos h_87]
          | rw [if_neg h_36, if_neg h_51, if_neg h_66, if_neg h_87]
    · obtain ⟨w0, rfl, lw0, uw0, ew0⟩ := ho_rng_n h_18 (by decide) (by decide)
      refine ev_s (is_aload_n rfl rfl) ?_
      refine ev_s (is_getR rfl (pu_s hC 110 rfl rfl) rfl rfl (pu_r hC 110 3 rfl rfl)) ?_
      refine ev_s (is_bipush (nI 14) rfl rfl) ?_
      refine ev_s (is_iload_n rfl rfl) ?_
      first
        | refine ev_s (is_imul _ rfl (pk_mul _ _)) ?_
        | refine ev_s (is_imul _ rfl rfl) ?_
      refine ev_s (is_iload_n rfl rfl) ?_
      first
        | refine ev_s (is_iadd _ rfl (nI_add _ _)) ?_
        | refine ev_s (is_iadd _ rfl rfl) ?_
      refine ev_s (is_iaload' (14 * m0 + w0) rfl (pu_s hC 113 rfl rfl) rfl rfl (by omega) (rz_at hz (by omega) (by omega))) ?_
      refine ev_ret (is_ireturn rfl rfl (by first | rfl | exact pu_b_nar | decide)) ?_
      rw [show an_told H (nI m0) (nI w0) = nI (H (10 + m0) w0) by unfold an_told; rw [if_pos h_5, if_pos h_18, em0, ew0]]
      exact ⟨rfl, rfl, rfl, hz⟩
  · refine ev_s (is_bipush ((-5)) rfl rfl) ?_
    refine ev_ret (is_ireturn rfl rfl (by first | rfl | exact pu_b_nar | decide)) ?_
    rw [show an_told H m w = -5 from if_neg h_5]
    exact ⟨rfl, rfl, rfl, hz⟩

theorem r_changes {d : Nat} {sh : im_Sh} {mi : im_MI} {mr : im_MR} (hC : pu_C sh mr) {H K : ho_T} {G : ho_G} {m0 : im_MI} (hz : rz_ H K G m0 mi) {a b : Nat} (ha : a < 6) (hb : b < 6) : EvM (d) 161 [.ref 110, .int (nI a), .int (nI b)] sh mi mr (fun r sh2 m2 r2 => sh2 = sh ∧ (r2 = mr ∧ rz_ (st_swap H a b) K G m0 m2)) := by
  show Ev (d) 161 0 [.ref 110, .int (nI a), .int (nI b), im_bad] [] sh mi mr _
  refine ev_s (is_aload_n rfl rfl) ?_
  refine ev_s (is_getR rfl (pu_s hC 110 rfl rfl) rfl rfl (pu_r hC 110 3 rfl rfl)) ?_
  refine ev_s (is_bipush (nI 14) rfl rfl) ?_
  refine ev_s (is_iload_n rfl rfl) ?_
  first
    | refine ev_s (is_imul _ rfl (pk_mul _ _)) ?_
    | refine ev_s (is_imul _ rfl rfl) ?_
  refine ev_s (is_bipush (nI 13) rfl rfl) ?_
  first
    | refine ev_s (is_iadd _ rfl (nI_add _ _)) ?_
    | refine ev_s (is_iadd _ rfl rfl) ?_
  refine ev_s (is_iaload' (14 * a + 13) rfl (pu_s hC 113 rfl rfl) rfl rfl (by omega) (rz_at hz ha (by decide))) ?_
  refine ev_s (st_istore_n_3 rfl rfl) ?_
  refine ev_s (is_aload_n rfl rfl) ?_
  refine ev_s (is_getR rfl (pu_s hC 110 rfl rfl) rfl rfl (pu_r hC 110 3 rfl rfl)) ?_
  refine ev_s (is_bipush (nI 14) rfl rfl) ?_
  refine ev_s (is_iload_n rfl rfl) ?_
  first
    | refine ev_s (is_imul _ rfl (pk_mul _ _)) ?_
    | refine ev_s (is_imul _ rfl rfl) ?_
  refine ev_s (is_bipush (nI 13) rfl rfl) ?_
  first
    | refine ev_s (is_iadd _ rfl (nI_add _ _)) ?_
    | refine ev_s (is_iadd _ rfl rfl) ?_
  refine ev_s (is_aload_n rfl rfl) ?_
  refine ev_s (is_getR rfl (pu_s hC 110 rfl rfl) rfl rfl (pu_r hC 110 3 rfl rfl)) ?_
  refine ev_s (is_bipush (nI 14) rfl rfl) ?_
  refine ev_s (is_iload_n rfl rfl) ?_
  first
    | refine ev_s (is_imul _ rfl (pk_mul _ _)) ?_
    | refine ev_s (is_imul _ rfl rfl) ?_
  refine ev_s (is_bipush (nI 13) rfl rfl) ?_
  first
    | refine ev_s (is_iadd _ rfl (nI_add _ _)) ?_
    | refine ev_s (is_iadd _ rfl rfl) ?_
  refine ev_s (is_iaload' (14 * b + 13) rfl (pu_s hC 113 rfl rfl) rfl rfl (by omega) (rz_at hz hb (by decide))) ?_
  refine ev_s (is_iastore (14 * a + 13) rfl (pu_s hC 113 rfl rfl) rfl rfl (by omega)) ?_
  refine ev_s (is_aload_n rfl rfl) ?_
  refine ev_s (is_getR rfl (pu_s hC 110 rfl rfl) rfl rfl (pu_r hC 110 3 rfl rfl)) ?_
  refine ev_s (is_bipush (nI 14) rfl rfl) ?_
  refine ev_s (is_iload_n rfl rfl) ?_
  first
    | refine ev_s (is_imul _ rfl (pk_mul _ _)) ?_
    | refine ev_s (is_imul _ rfl rfl) ?_
  refine ev_s (is_bipush (nI 13) rfl rfl) ?_
  first
    | refine ev_s (is_iadd _ rfl (nI_add _ _)) ?_
    | refine ev_s (is_iadd _ rfl rfl) ?_
  refine ev_s (is_iload_n rfl rfl) ?_
  refine ev_s (is_iastore (14 * b + 13) rfl (pu_s hC 113 rfl rfl) rfl rfl (by omega)) ?_
  refine ev_ret (is_return rfl) ?_
  exact ⟨rfl, rfl, rz_row (rz_row hz ha (by decide) (ho_bd_put (rz_bd hz) (Or.inr (Or.inr ⟨rfl, (rz_bd hz).2.2.2.2.2.2.2.2.2 b⟩)))) hb (by decide) (ho_bd_put (ho_bd_put (rz_bd hz) (Or.inr (Or.inr ⟨rfl, (rz_bd hz).2.2.2.2.2.2.2.2.2 b⟩))) (Or.inr (Or.inr ⟨rfl, (rz_bd hz).2.2.2.2.2.2.2.2.2 a⟩)))⟩

theorem r_move {d : Nat} {sh : im_Sh} {mi : im_MI} {mr : im_MR} (hC : pu_C sh mr) {H K : ho_T} {G : ho_G} (hz : rz_ H K G mi mi) (a b : Int32) : EvM (d + 2) 162 [.ref 110, .int a, .int b] sh mi mr (fun r sh2 m2 r2 => sh2 = sh ∧ (r = .int (an_move H a b) ∧ r2 = mr ∧ rz_ (st_move H a b) (K) G mi m2)) := by
  show Ev (d + 2) 162 0 [.ref 110, .int a, .int b] [] sh mi mr _
  have hn6 := rz_n hz
  refine ev_s (is_aload_n rfl rfl) ?_
  refine ev_s (is_iload_n rfl rfl) ?_
  refine ev_c1 (is_callR 2 [_] [] rfl rfl rfl rfl rfl (Nat.le_of_ble_eq_true rfl) rfl rfl rfl (pu_s hC 110 rfl rfl)) rfl rfl (r_isMan' hC hz.1 _) ?_
  refine ev_ifB_eq rfl (fun h_5 => ?_) (fun h_5 => ?_)
  · refine ev_s (is_bipush ((-5)) rfl rfl) ?_
    refine ev_ret (is_ireturn rfl rfl (by first | rfl | exact pu_b_nar | decide)) ?_
    rw [show an_move H a b = -5 from if_neg h_5, show st_move H a b = H from if_neg h_5]
    exact ⟨rfl, rfl, rfl, hz⟩
  · obtain ⟨a0, rfl, ha0, ea0⟩ := ho_isM_n hn6 h_5
    refine ev_s (is_aload_n rfl rfl) ?_
    refine ev_s (is_iload_n rfl rfl) ?_
    refine ev_c1 (is_callR 2 [_] [] rfl rfl rfl rfl rfl (Nat.le_of_ble_eq_true rfl) rfl rfl rfl (pu_s hC 110 rfl rfl)) rfl rfl (r_isMan' hC hz.1 _) ?_
    refine ev_ifB_ne rfl (fun h_13 => ?_) (fun h_13 => ?_)
    · obtain ⟨b0, rfl, hb0, eb0⟩ := ho_isM_n hn6 h_13
      refine ev_s (is_aload_n rfl rfl) ?_
      refine ev_s (is_iload_n rfl rfl) ?_
      refine ev_s (is_iload_n rfl rfl) ?_
      refine ev_q0 (is_callR 3 [_, _] [] rfl rfl rfl rfl rfl (Nat.le_of_ble_eq_true rfl) rfl rfl rfl (pu_s hC 110 rfl rfl)) rfl rfl (r_changes hC hz (a := a0) (b := b0) (by omega) (by omega)) (fun r_22 mi mr hq_22 => ?_)
      obtain ⟨hmr, hz⟩ := hq_22
      have hmr := hmr.symm
      subst hmr
      refine ev_s (is_aload_n rfl rfl) ?_
      refine ev_s (is_getR rfl (pu_s hC 110 rfl rfl) rfl rfl (pu_r hC 110 3 rfl rfl)) ?_
      refine ev_s (is_bipush (nI 14) rfl rfl) ?_
      refine ev_s (is_iload_n rfl rfl) ?_
      first
        | refine ev_s (is_imul _ rfl (pk_mul _ _)) ?_
        | refine ev_s (is_imul _ rfl rfl) ?_
      refine ev_s (is_bipush (nI 13) rfl rfl) ?_
      first
        | refine ev_s (is_iadd _ rfl (nI_add _ _)) ?_
        | refine ev_s (is_iadd _ rfl rfl) ?_
      refine ev_s (is_iaload' (14 * a0 + 13) rfl (pu_s hC 113 rfl rfl) rfl rfl (by omega) (rz_at hz (by omega) (by decide))) ?_
      refine ev_ret (is_ireturn rfl rfl (by first | rfl | exact pu_b_nar | decide)) ?_
      rw [show an_move H (nI a0) (nI b0) = nI (H (10 + b0) 13) by unfold an_move; rw [if_pos h_5, if_pos h_13, eb0], show st_move H (nI a0) (nI b0) = st_swap H a0 b0 by unfold st_move; rw [if_pos h_5, if_pos h_13, ea0, eb0]]
      refine ⟨rfl, ?_, rfl, hz⟩
      rw [st_swap_at]
      by_cases hab : a0 = b0
      · rw [if_pos hab, hab]
      · rw [if_neg hab, if_pos rfl]
    · refine ev_s (is_bipush ((-5)) rfl rfl) ?_
      refine ev_ret (is_ireturn rfl rfl (by first | rfl | exact pu_b_nar | decide)) ?_
      rw [show an_move H (nI a0) b = -5 by unfold an_move; rw [if_pos h_5, if_neg h_13], show st_move H (nI a0) b = H by unfold st_move; rw [if_pos h_5, if_neg h_13]]
      exact ⟨rfl, rfl, rfl, hz⟩

theorem ho_w3 {w : Int32} (h : ¬ ho_rng (nI 0) w (nI 2) = true) : ¬ w = nI 0 ∧ ¬ w = nI 1 ∧ ¬ w = nI 2 := ⟨fun q => h (by rw [q]; decide), fun q => h (by rw [q]; decide), fun q => h (by rw [q]; decide)⟩
theorem ho_w4 {w : Int32} (h : ¬ ho_rng (nI 0) w (nI 3) = true) : ¬ w = nI 0 ∧ ¬ w = nI 1 ∧ ¬ w = nI 2 ∧ ¬ w = nI 3 := ⟨fun q => h (by rw [q]; decide), fun q => h (by rw [q]; decide), fun q => h (by rw [q]; decide), fun q => h (by rw [q]; decide)⟩

theorem r_hour {d : Nat} {sh : im_Sh} {mi : im_MI} {mr : im_MR} (hC : pu_C sh mr) {H K : ho_T} {G : ho_G} (hz : rz_ H K G mi mi) (m h w : Int32) : EvM (d + 5) 167 [.ref 110, .int m, .int h, .int w] sh mi mr (fun r sh2 m2 r2 => sh2 = sh ∧ (r = .int (an_hour H G m h w) ∧ r2 = mr ∧ rz_ (H) (K) G mi m2)) := by
  show Ev (d + 5) 167 0 [.ref 110, .int m, .int h, .int w] [] sh mi mr _
  have hn6 := rz_n hz
  refine ev_s (is_aload_n rfl rfl) ?_
  refine ev_s (is_iload_n rfl rfl) ?_
  refine ev_c1 (is_callR 2 [_] [] rfl rfl rfl rfl rfl (Nat.le_of_ble_eq_true rfl) rfl rfl rfl (pu_s hC 110 rfl rfl)) rfl rfl (r_isMan' hC hz.1 _) ?_
  refine ev_ifB_ne rfl (fun h_5 => ?_) (fun h_5 => ?_)
  · obtain ⟨m0, rfl, hm0, em0⟩ := ho_isM_n hn6 h_5
    refine ev_s (is_iload_n rfl rfl) ?_
    refine ev_c1 (is_call0 1 [_] [] rfl rfl rfl rfl rfl (Nat.le_of_ble_eq_true rfl) rfl rfl rfl) rfl rfl (r_isHour' _) ?_
    refine ev_ifB_eq rfl (fun h_15 => ?_) (fun h_15 => ?_)
    · refine ev_s (is_bipush ((-7)) rfl rfl) ?_
      refine ev_ret (is_ireturn rfl rfl (by first | rfl | exact pu_b_nar | decide)) ?_
      rw [show an_hour H G (nI m0) h w = -7 by unfold an_hour; rw [if_pos h_5, if_neg h_15]]
      exact ⟨rfl, rfl, rfl, hz⟩
    · obtain ⟨h0, rfl, lh0, uh0, eh0⟩ := ho_rng_n h_15 (by decide) (by decide)
      refine ev_s (is_iload_n rfl rfl) ?_
      refine ev_s (is_iconst (nI 0) rfl rfl) ?_
      refine ev_s (is_iconst (nI 2) rfl rfl) ?_
      refine ev_c1 (is_call0 3 [_, _, _] [] rfl rfl rfl rfl rfl (Nat.le_of_ble_eq_true rfl) rfl rfl rfl) rfl rfl (r_in' _ _ _) ?_
      refine ev_ifB_ne rfl (fun h_24 => ?_) (fun h_24 => ?_)
      · obtain ⟨w0, rfl, lw0, uw0, ew0⟩ := ho_rng_n h_24 (by decide) (by decide)
        refine ev_s (is_iload_n rfl rfl) ?_
        refine ev_ifN_ne rfl (by omega) (fun h_31 => ?_) (fun h_31 => ?_)
        · refine ev_s (is_iload_n rfl rfl) ?_
          refine ev_s (is_iconst (nI 1) rfl rfl) ?_
          refine ev_icmpN_ne rfl (by omega) (by omega) (fun h_45 => ?_) (fun h_45 => ?_)
          · refine ev_s (is_aload_n rfl rfl) ?_
            refine ev_s (is_iload_n rfl rfl) ?_
            refine ev_s (is_iload_n rfl rfl) ?_
            refine ev_q1 (is_callR 3 [_, _] [] rfl rfl rfl rfl rfl (Nat.le_of_ble_eq_true rfl) rfl rfl rfl (pu_s hC 110 rfl rfl)) rfl rfl (r_daysOf hC hz.1 (m := m0) (h := h0) (by omega) (by omega)) (fun r_60 mi mr hq_60 => ?_)
            obtain ⟨rfl, hmr, hsc⟩ := hq_60
            have hmr := hmr.symm
            subst hmr
            have hz := rz_sS hz hsc
            refine ev_ret (is_ireturn rfl rfl (by first | rfl | exact pu_b_nar | decide)) ?_
            refine ⟨rfl, ?_, rfl, hz⟩
            unfold an_hour
            rw [if_pos h_5, if_pos h_15, em0, eh0]
            first
              | rw [if_pos (show nI w0 = nI 0 by rw [h_31])]
              | rw [if_neg (show ¬ nI w0 = nI 0 from fun q => h_31 ((nI_eq (by omega) (by decide)).mp q)), if_pos (show nI w0 = nI 1 by rw [h_45])]
              | rw [if_neg (show ¬ nI w0 = nI 0 from fun q => h_31 ((nI_eq (by omega) (by decide)).mp q)), if_neg (show ¬ nI w0 = nI 1 from fun q => h_45 ((nI_eq (by omega) (by decide)).mp q)), if_pos (show nI w0 = nI 2 by rw [show w0 = 2 by omega])]
          · refine ev_s (is_aload_n rfl rfl) ?_
            refine ev_s (is_iload_n rfl rfl) ?_
            refine ev_s (is_iload_n rfl rfl) ?_
            refine ev_q1 (is_callR 3 [_, _] [] rfl rfl rfl rfl rfl (Nat.le_of_ble_eq_true rfl) rfl rfl rfl (pu_s hC 110 rfl rfl)) rfl rfl (r_companyOf hC hz.1 (m := m0) (h := h0) (by omega) (by omega)) (fun r_51 mi mr hq_51 => ?_)
            obtain ⟨rfl, hmr, hsc⟩ := hq_51
            have hmr := hmr.symm
            subst hmr
            have hz := rz_sS hz hsc
            refine ev_s (is_goto rfl) ?_
            refine ev_ret (is_ireturn rfl rfl (by first | rfl | exact pu_b_nar | decide)) ?_
            refine ⟨rfl, ?_, rfl, hz⟩
            unfold an_hour
            rw [if_pos h_5, if_pos h_15, em0, eh0]
            first
              | rw [if_pos (show nI w0 = nI 0 by rw [h_31])]
              | rw [if_neg (show ¬ nI w0 = nI 0 from fun q => h_31 ((nI_eq (by omega) (by decide)).mp q)), if_pos (show nI w0 = nI 1 by rw [h_45])]
              | rw [if_neg (show ¬ nI w0 = nI 0 from fun q => h_31 ((nI_eq (by omega) (by decide)).mp q)), if_neg (show ¬ nI w0 = nI 1 from fun q => h_45 ((nI_eq (by omega) (by decide)).mp q)), if_pos (show nI w0 = nI 2 by rw [show w0 = 2 by omega])]
        · refine ev_s (is_aload_n rfl rfl) ?_
          refine ev_s (is_iload_n rfl rfl) ?_
          refine ev_s (is_iload_n rfl rfl) ?_
          refine ev_c1 (is_callR 3 [_, _] [] rfl rfl rfl rfl rfl (Nat.le_of_ble_eq_true rfl) rfl rfl rfl (pu_s hC 110 rfl rfl)) rfl rfl (r_signTo hC hz.1 (m := m0) (h := h0) (by omega) (by omega)) ?_
          refine ev_s (is_goto rfl) ?_
          refine ev_ret (is_ireturn rfl rfl (by first | rfl | exact pu_b_nar | decide)) ?_
          refine ⟨rfl, ?_, rfl, hz⟩
          unfold an_hour
          rw [if_pos h_5, if_pos h_15, em0, eh0]
          first
            | rw [if_pos (show nI w0 = nI 0 by rw [h_31])]
            | rw [if_neg (show ¬ nI w0 = nI 0 from fun q => h_31 ((nI_eq (by omega) (by decide)).mp q)), if_pos (show nI w0 = nI 1 by rw [h_45])]
            | rw [if_neg (show ¬ nI w0 = nI 0 from fun q => h_31 ((nI_eq (by omega) (by decide)).mp q)), if_neg (show ¬ nI w0 = nI 1 from fun q => h_45 ((nI_eq (by omega) (by decide)).mp q)), if_pos (show nI w0 = nI 2 by rw [show w0 = 2 by omega])]
      · refine ev_s (is_bipush ((-7)) rfl rfl) ?_
        refine ev_ret (is_ireturn rfl rfl (by first | rfl | exact pu_b_nar | decide)) ?_
        obtain ⟨z0, z1, z2⟩ := ho_w3 h_24
        rw [show an_hour H G (nI m0) (nI h0) w = -7 by unfold an_hour; rw [if_pos h_5, if_pos h_15, if_neg z0, if_neg z1, if_neg z2]]
        exact ⟨rfl, rfl, rfl, hz⟩
  · refine ev_s (is_bipush ((-5)) rfl rfl) ?_
    refine ev_ret (is_ireturn rfl rfl (by first | rfl | exact pu_b_nar | decide)) ?_
    rw [show an_hour H G m h w = -5 from if_neg h_5]
    exact ⟨rfl, rfl, rfl, hz⟩

theorem r_all {d : Nat} {sh : im_Sh} {mi : im_MI} {mr : im_MR} (hC : pu_C sh mr) {H K : ho_T} {G : ho_G} (hz : rz_ H K G mi mi) : EvM (d + 7) 169 [.ref 110] sh mi mr (fun r sh2 m2 r2 => sh2 = sh ∧ (r = .int (nI (ho_all H G)) ∧ r2 = mr ∧ rz_ (H) (K) G mi m2)) := by
  show Ev (d + 7) 169 0 [.ref 110] [] sh mi mr _
  refine ev_s (is_aload_n rfl rfl) ?_
  refine ev_q1 (is_callR 1 [] [] rfl rfl rfl rfl rfl (Nat.le_of_ble_eq_true rfl) rfl rfl rfl (pu_s hC 110 rfl rfl)) rfl rfl (r_allOf hC hz.1) (fun r_1 mi mr hq_1 => ?_)
  obtain ⟨rfl, hmr, hsc⟩ := hq_1
  have hmr := hmr.symm
  subst hmr
  have hz := rz_sS hz hsc
  refine ev_ret (is_ireturn rfl rfl (by first | rfl | exact pu_b_nar | decide)) ?_
  exact ⟨rfl, rfl, rfl, hz⟩
