/-! ===== PURE, the class: put, move, hour, day, all, live ===== -/

theorem xa_putd {H : ho_T} {G : ho_G} {mi : im_MI} {mr : im_MR} (hx : xa_ok H G mi mr) {m h v : Nat} (hm : m < H 0 0) (hh : h < 12) (hv : v < 6) : xa_ok (ho_set H (10 + m) h v) G (im_u mi (54 + 4 * m + 1) h (nI v)) mr :=
  xa_upd hx hm (fun i j hi => ho_set_i _ _ _ _ hi _) (sc_rf.u (decide_eq_true (Or.inr rfl))) (by rw [ho_row_set H m v (by omega)]; exact xm_at (xa_m hx hm) hh hv) (ho_bd_put (xa_bd hx) (Or.inl ⟨hh, hv⟩)) (ho_iv_put (xa_iv hx) (by omega))
theorem xa_putt {H : ho_T} {G : ho_G} {mi : im_MI} {mr : im_MR} (hx : xa_ok H G mi mr) {m v : Nat} (hm : m < H 0 0) (hv : v ≤ 9999) : xa_ok (ho_set H (10 + m) 12 v) G (im_u mi (54 + 4 * m) 2 (nI v)) mr :=
  xa_upd hx hm (fun i j hi => ho_set_i _ _ _ _ hi _) (sc_rf.u (decide_eq_true (Or.inl rfl))) (by rw [ho_row_set H m v (by omega)]; exact xm_term (xa_m hx hm) hv) (ho_bd_put (xa_bd hx) (Or.inr (Or.inl ⟨rfl, hv⟩))) (ho_iv_put (xa_iv hx) (by omega))
theorem xh_put {H K : ho_T} {mi mi2 : im_MI} (h : xh_ok H K mi) (hn : H 0 0 ≤ 6) {m w v : Nat} (hm : m < 6) (hs : sc_ (xM2 (54 + 4 * m)) mi mi2) : xh_ok (ho_set H (10 + m) w v) K mi2 :=
  xh_upd h hn (fun j => ho_set_i _ _ _ _ (by omega) _) (fun j => ho_set_i _ _ _ _ (by omega) _) (fun j => ho_set_i _ _ _ _ (by omega) _) (xM2_out hs hm)

theorem x_put {d : Nat} {sh : im_Sh} {mi : im_MI} {mr : im_MR} (hC : pu_C sh mr) {H K : ho_T} {G : ho_G} (hx : xa_ok H G mi mr) (hz : xh_ok H K mi) (m w v : Int32) : EvM (d + 3) 72 [.ref 29, .int m, .int w, .int v] sh mi mr (fun r sh2 m2 r2 => sh2 = sh ∧ (r = .int (an_put H m w v) ∧ r2 = mr ∧ xa_ok (st_put H m w v) G m2 mr ∧ xh_ok (st_put H m w v) K m2 ∧ sc_ xAll mi m2)) := by
  show Ev (d + 3) 72 0 [.ref 29, .int m, .int w, .int v, im_bad] [] sh mi mr _
  have hn6 := xa_n hx
  have hs : sc_ xQ mi mi := sc_rf
  refine ev_s (is_aload_n rfl rfl) ?_
  refine ev_s (is_iload_n rfl rfl) ?_
  refine ev_c1 (is_callR 2 [_] [] rfl rfl rfl rfl rfl (Nat.le_of_ble_eq_true rfl) rfl rfl rfl (pu_s hC 29 rfl rfl)) rfl rfl (x_noMan' hC hx _) ?_
  refine ev_ifB_eq rfl (fun h_5 => ?_) (fun h_5 => ?_)
  · have h_5 := Decidable.of_not_not h_5
    obtain ⟨m0, rfl, hm0, em0⟩ := ho_isM_n hn6 h_5
    refine ev_s (is_iload_n rfl rfl) ?_
    refine ev_s (is_iconst (nI 0) rfl rfl) ?_
    refine ev_s (is_bipush (nI 12) rfl rfl) ?_
    refine ev_c1 (is_call0 3 [_, _, _] [] rfl rfl rfl rfl rfl (Nat.le_of_ble_eq_true rfl) rfl rfl rfl) rfl rfl (x_within' _ _ _) ?_
    refine ev_ifB_eq rfl (fun h_18 => ?_) (fun h_18 => ?_)
    · refine ev_s (is_bipush ((-7)) rfl rfl) ?_
      refine ev_ret (is_ireturn rfl rfl (by first | rfl | exact pu_b_nar | decide)) ?_
      refine ⟨rfl, ?_, rfl, ?_, ?_, sc_rf⟩
      · simp [an_put, h_5, em0, h_18]
      · rw [show st_put H (nI m0) w v = H by simp [st_put, h_5, em0, h_18]]; exact hx
      · rw [show st_put H (nI m0) w v = H by simp [st_put, h_5, em0, h_18]]; exact hz
    · obtain ⟨w0, rfl, lw0, uw0, ew0⟩ := ho_rng_n h_18 (by decide) (by decide)
      refine ev_s (is_iload_n rfl rfl) ?_
      refine ev_s (is_iconst (nI 0) rfl rfl) ?_
      refine ev_s (is_iload_n rfl rfl) ?_
      refine ev_s (is_bipush (nI 12) rfl rfl) ?_
      by_cases hw12 : w0 = 12
      · subst hw12
        refine ev_s (is_icmp_ne_f rfl (fun q => q rfl)) ?_
        refine ev_s (is_sipush (nI 9999) rfl rfl) ?_
        refine ev_s (is_goto rfl) ?_
        refine ev_c1 (is_call0 3 [_, _, _] [] rfl rfl rfl rfl rfl (Nat.le_of_ble_eq_true rfl) rfl rfl rfl) rfl rfl (x_within' _ _ _) ?_
        refine ev_ifB_ne rfl (fun h_39 => ?_) (fun h_39 => ?_)
        · obtain ⟨v0, rfl, lv0, uv0, ev0⟩ := ho_rng_n h_39 (by decide) (by decide)
          refine ev_s (is_aload_n rfl rfl) ?_
          refine ev_s (is_iload_n rfl rfl) ?_
          refine ev_s (is_iload_n rfl rfl) ?_
          refine ev_c1 (is_callR 3 [_, _] [] rfl rfl rfl rfl rfl (Nat.le_of_ble_eq_true rfl) rfl rfl rfl (pu_s hC 29 rfl rfl)) rfl rfl (x_told hC hx _ _) ?_
          refine ev_s (st_istore_4 rfl rfl) ?_
          refine ev_s (is_iload_n rfl rfl) ?_
          refine ev_s (is_bipush (nI 12) rfl rfl) ?_
          refine ev_s (is_icmp_ne_f rfl (fun q => q rfl)) ?_
          refine ev_s (is_aload_n rfl rfl) ?_
          refine ev_s (is_getR rfl (pu_s hC 29 rfl rfl) rfl rfl (pu_r hC 29 0 rfl rfl)) ?_
          refine ev_s (is_iload_n rfl rfl) ?_
          refine ev_s (is_aaload (k := 1) (m0) rfl (pu_s hC 30 rfl rfl) rfl rfl rfl (by omega) (pu_rows hC (by omega)).1) ?_
          refine ev_s (is_iload_n rfl rfl) ?_
          refine ev_s (is_putI rfl (pu_M hC (xm_Mi (m := m0) (by omega))).1 rfl rfl rfl) ?_
          refine ev_s (is_goto rfl) ?_
          refine ev_s (is_iload rfl rfl) ?_
          refine ev_ret (is_ireturn rfl rfl (by first | rfl | exact pu_b_nar | decide)) ?_
          have ht1 : an_told H (nI m0) (nI 12) = an_put H (nI m0) (nI 12) (nI v0) := by simp [an_told, an_put, h_5, em0, h_18, ew0, h_39, ev0]
          have ht2 : st_put H (nI m0) (nI 12) (nI v0) = ho_set H (10 + m0) 12 v0 := by simp [st_put, h_5, em0, h_18, ew0, h_39, ev0]
          rw [ht2]
          have hsc : sc_ (xM2 (54 + 4 * m0)) mi _ := sc_rf.u (j := 2) (v := nI v0) (decide_eq_true (Or.inl rfl))
          exact ⟨rfl, congrArg Value.int ht1, rfl, xa_putt hx hm0 uv0, xh_put hz hn6 (by omega) hsc, hsc.mono (xM2_all (by omega))⟩
        · refine ev_s (is_bipush ((-7)) rfl rfl) ?_
          refine ev_ret (is_ireturn rfl rfl (by first | rfl | exact pu_b_nar | decide)) ?_
          refine ⟨rfl, ?_, rfl, ?_, ?_, sc_rf⟩
          · simp [an_put, h_5, em0, h_18, ew0, h_39]
          · rw [show st_put H (nI m0) (nI 12) v = H by simp [st_put, h_5, em0, h_18, ew0, h_39]]; exact hx
          · rw [show st_put H (nI m0) (nI 12) v = H by simp [st_put, h_5, em0, h_18, ew0, h_39]]; exact hz
      · refine ev_s (is_icmp_ne_t rfl (fun q => hw12 ((nI_eq (by omega) (by decide)).mp q))) ?_
        refine ev_s (is_iconst (nI 5) rfl rfl) ?_
        refine ev_c1 (is_call0 3 [_, _, _] [] rfl rfl rfl rfl rfl (Nat.le_of_ble_eq_true rfl) rfl rfl rfl) rfl rfl (x_within' _ _ _) ?_
        refine ev_ifB_ne rfl (fun h_39 => ?_) (fun h_39 => ?_)
        · obtain ⟨v0, rfl, lv0, uv0, ev0⟩ := ho_rng_n h_39 (by decide) (by decide)
          refine ev_s (is_aload_n rfl rfl) ?_
          refine ev_s (is_iload_n rfl rfl) ?_
          refine ev_s (is_iload_n rfl rfl) ?_
          refine ev_c1 (is_callR 3 [_, _] [] rfl rfl rfl rfl rfl (Nat.le_of_ble_eq_true rfl) rfl rfl rfl (pu_s hC 29 rfl rfl)) rfl rfl (x_told hC hx _ _) ?_
          refine ev_s (st_istore_4 rfl rfl) ?_
          refine ev_s (is_iload_n rfl rfl) ?_
          refine ev_s (is_bipush (nI 12) rfl rfl) ?_
          refine ev_s (is_icmp_ne_t rfl (fun q => hw12 ((nI_eq (by omega) (by decide)).mp q))) ?_
          refine ev_s (is_aload_n rfl rfl) ?_
          refine ev_s (is_getR rfl (pu_s hC 29 rfl rfl) rfl rfl (pu_r hC 29 0 rfl rfl)) ?_
          refine ev_s (is_iload_n rfl rfl) ?_
          refine ev_s (is_aaload (k := 1) (m0) rfl (pu_s hC 30 rfl rfl) rfl rfl rfl (by omega) (pu_rows hC (by omega)).1) ?_
          refine ev_s (is_getR rfl (pu_M hC (xm_Mi (m := m0) (by omega))).1 rfl rfl (pu_M hC (xm_Mi (m := m0) (by omega))).2.2) ?_
          refine ev_s (is_iload_n rfl rfl) ?_
          refine ev_s (is_iload_n rfl rfl) ?_
          refine ev_s (is_iastore (w0) rfl (pu_M hC (xm_Mi (m := m0) (by omega))).2.1 rfl rfl (by omega)) ?_
          refine ev_s (is_iload rfl rfl) ?_
          refine ev_ret (is_ireturn rfl rfl (by first | rfl | exact pu_b_nar | decide)) ?_
          have ht1 : an_told H (nI m0) (nI w0) = an_put H (nI m0) (nI w0) (nI v0) := by simp [an_told, an_put, h_5, em0, h_18, ew0, hw12, show ¬ nI w0 = nI 12 from fun q => hw12 ((nI_eq (by omega) (by decide)).mp q), h_39, ev0]
          have ht2 : st_put H (nI m0) (nI w0) (nI v0) = ho_set H (10 + m0) w0 v0 := by simp [st_put, h_5, em0, h_18, ew0, hw12, show ¬ nI w0 = nI 12 from fun q => hw12 ((nI_eq (by omega) (by decide)).mp q), h_39, ev0]
          rw [ht2]
          have hsc : sc_ (xM2 (54 + 4 * m0)) mi _ := sc_rf.u (j := w0) (v := nI v0) (decide_eq_true (Or.inr rfl))
          exact ⟨rfl, congrArg Value.int ht1, rfl, xa_putd hx hm0 (by omega) (by omega), xh_put hz hn6 (by omega) hsc, hsc.mono (xM2_all (by omega))⟩
        · refine ev_s (is_bipush ((-7)) rfl rfl) ?_
          refine ev_ret (is_ireturn rfl rfl (by first | rfl | exact pu_b_nar | decide)) ?_
          refine ⟨rfl, ?_, rfl, ?_, ?_, sc_rf⟩
          · simp [an_put, h_5, em0, h_18, ew0, hw12, show ¬ nI w0 = nI 12 from fun q => hw12 ((nI_eq (by omega) (by decide)).mp q), h_39]
          · rw [show st_put H (nI m0) (nI w0) v = H by simp [st_put, h_5, em0, h_18, ew0, hw12, show ¬ nI w0 = nI 12 from fun q => hw12 ((nI_eq (by omega) (by decide)).mp q), h_39]]; exact hx
          · rw [show st_put H (nI m0) (nI w0) v = H by simp [st_put, h_5, em0, h_18, ew0, hw12, show ¬ nI w0 = nI 12 from fun q => hw12 ((nI_eq (by omega) (by decide)).mp q), h_39]]; exact hz
  · refine ev_s (is_bipush ((-5)) rfl rfl) ?_
    refine ev_ret (is_ireturn rfl rfl (by first | rfl | exact pu_b_nar | decide)) ?_
    refine ⟨rfl, ?_, rfl, ?_, ?_, sc_rf⟩
    · simp [an_put, h_5]
    · rw [show st_put H m w v = H by simp [st_put, h_5]]; exact hx
    · rw [show st_put H m w v = H by simp [st_put, h_5]]; exact hz
