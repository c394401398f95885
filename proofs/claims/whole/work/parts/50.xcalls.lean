/-! ===== PURE, the class: put, move, hour, day, all, live ===== -/

theorem xa_putd {H : ho_T} {G : ho_G} {mi : im_MI} {mr : im_MR} (hx : xa_ok H G mi mr) {m h v : Nat} (hm : m < H 0 0) (hh : h < 12) (hv : v < 6) : xa_ok (ho_set H (10 + m) h v) G (im_u mi (54 + 4 * m + 1) h (nI v)) mr :=
  xa_upd hx hm (fun i j hi => ho_set_i _ _ _ _ hi _) (sc_rf.u (decide_eq_true (Or.inr rfl))) (by rw [ho_row_set H m v (by omega)]; exact xm_at (xa_m hx hm) hh hv) (ho_bd_put (xa_bd hx) (Or.inl ⟨hh, hv⟩)) (ho_iv_put (xa_iv hx) (by omega))
theorem xa_putt {H : ho_T} {G : ho_G} {mi : im_MI} {mr : im_MR} (hx : xa_ok H G mi mr) {m v : Nat} (hm : m < H 0 0) (hv : v ≤ 9999) : xa_ok (ho_set H (10 + m) 12 v) G (im_u mi (54 + 4 * m) 2 (nI v)) mr :=
  xa_upd hx hm (fun i j hi => ho_set_i _ _ _ _ hi _) (sc_rf.u (decide_eq_true (Or.inl rfl))) (by rw [ho_row_set H m v (by omega)]; exact xm_term (xa_m hx hm) hv) (ho_bd_put (xa_bd hx) (Or.inr (Or.inl ⟨rfl, hv⟩))) (ho_iv_put (xa_iv hx) (by omega))
theorem xh_put {H K : ho_T} {mi mi2 : im_MI} (h : xh_ok H K mi) (hn : H 0 0 ≤ 6) {m w v : Nat} (hm : m < 6) (hs : sc_ (xM2 (54 + 4 * m)) mi mi2) : xh_ok (ho_set H (10 + m) w v) K mi2 :=
  xh_upd h hn (fun j => ho_set_i _ _ _ _ (by omega) _) (fun j => ho_set_i _ _ _ _ (by omega) _) (fun j => ho_set_i _ _ _ _ (by omega) _) (xM2_out hs hm)

theorem x_put {d : Nat} {sh : im_Sh} {mi : im_MI} {mr : im_MR} (hC : pu_C sh mr) {H K : ho_T} {G : ho_G} (hx : xa_ok H G mi mr) (hz : xh_ok H K mi) (m w v : Int32) : EvM (d + 3) 72 [.ref 29, .int m, .int w, .int v] sh mi mr (fun r sh2 m2 r2 => sh2 = sh ∧ (r = .int (an_put H m w v) ∧ r2 = mr ∧ xa_ok (st_put H m w v) G m2 mr ∧ xh_ok (st_put H m w v) K m2 ∧ sc_ xAll mi m2)) := by
  show Ev (d + 3) 72 0 [.ref 29, .int m, .int w, .int v, im_bad] [] sh mi mr _
  have hn6 := xa_n hx
  have hs : sc_ xQ mi mi := sc_rf
  refine ev_s (is_aload_n rfl rfl) ?_
  refine ev_s (is_iload_n rfl rfl) ?_
  refine ev_c1 (is_callR 2 [_] [] rfl rfl rfl rfl rfl (Nat.le_of_ble_eq_true rfl) rfl rfl rfl (pu_s hC 29 rfl rfl)) rfl rfl (x_noMan' hC hx _) ?_
  refine ev_ifB_eq rfl (fun h_5 => ?_) (fun h_5 => ?_)
  · have h_5 := Decidable.of_not_not h_5
    obtain ⟨m0, rfl, hm0, em0⟩ := ho_isM_n hn6 h_5
    refine ev_s (is_iload_n rfl rfl) ?_
    refine ev_s (is_iconst (nI 0) rfl rfl) ?_
    refine ev_s (is_bipush (nI 12) rfl rfl) ?_
    refine ev_c1 (is_call0 3 [_, _, _] [] rfl rfl rfl rfl rfl (Nat.le_of_ble_eq_true rfl) rfl rfl rfl) rfl rfl (x_within' _ _ _) ?_
    refine ev_ifB_eq rfl (fun h_18 => ?_) (fun h_18 => ?_)
    · refine ev_s (is_bipush ((-7)) rfl rfl) ?_
      refine ev_ret (is_ireturn rfl rfl (by first | rfl | exact pu_b_nar | decide)) ?_
      refine ⟨rfl, ?_, rfl, ?_, ?_, sc_rf⟩
      · simp [an_put, h_5, em0, h_18]
      · rw [show st_put H (nI m0) w v = H by simp [st_put, h_5, em0, h_18]]; exact hx
      · rw [show st_put H (nI m0) w v = H by simp [st_put, h_5, em0, h_18]]; exact hz
    · obtain ⟨w0, rfl, lw0, uw0, ew0⟩ := ho_rng_n h_18 (by decide) (by decide)
      refine ev_s (is_iload_n rfl rfl) ?_
      refine ev_s (is_iconst (nI 0) rfl rfl) ?_
      refine ev_s (is_iload_n rfl rfl) ?_
      refine ev_s (is_bipush (nI 12) rfl rfl) ?_
      by_cases hw12 : w0 = 12
      · subst hw12
        refine ev_s (is_icmp_ne_f rfl (fun q => q rfl)) ?_
        refine ev_s (is_sipush (nI 9999) rfl rfl) ?_
        refine ev_s (is_goto rfl) ?_
        refine ev_c1 (is_call0 3 [_, _, _] [] rfl rfl rfl rfl rfl (Nat.le_of_ble_eq_true rfl) rfl rfl rfl) rfl rfl (x_within' _ _ _) ?_
        refine ev_ifB_ne rfl (fun h_39 => ?_) (fun h_39 => ?_)
        · obtain ⟨v0, rfl, lv0, uv0, ev0⟩ := ho_rng_n h_39 (by decide) (by decide)
          refine ev_s (is_aload_n rfl rfl) ?_
          refine ev_s (is_iload_n rfl rfl) ?_
          refine ev_s (is_iload_n rfl rfl) ?_
          refine ev_c1 (is_callR 3 [_, _] [] rfl rfl rfl rfl rfl (Nat.le_of_ble_eq_true rfl) rfl rfl rfl (pu_s hC 29 rfl rfl)) rfl rfl (x_told hC hx _ _) ?_
          refine ev_s (st_istore_4 rfl rfl) ?_
          refine ev_s (is_iload_n rfl rfl) ?_
          refine ev_s (is_bipush (nI 12) rfl rfl) ?_
          refine ev_s (is_icmp_ne_f rfl (fun q => q rfl)) ?_
          refine ev_s (is_aload_n rfl rfl) ?_
          refine ev_s (is_getR rfl (pu_s hC 29 rfl rfl) rfl rfl (pu_r hC 29 0 rfl rfl)) ?_
          refine ev_s (is_iload_n rfl rfl) ?_
          refine ev_s (is_aaload (k := 1) (m0) rfl (pu_s hC 30 rfl rfl) rfl rfl rfl (by omega) (pu_rows hC (by omega)).1) ?_
          refine ev_s (is_iload_n rfl rfl) ?_
          refine ev_s (is_putI rfl (pu_M hC (xm_Mi (m := m0) (by omega))).1 rfl rfl rfl) ?_
          refine ev_s (is_goto rfl) ?_
          refine ev_s (is_iload rfl rfl) ?_
          refine ev_ret (is_ireturn rfl rfl (by first | rfl | exact pu_b_nar | decide)) ?_
          have ht1 : an_told H (nI m0) (nI 12) = an_put H (nI m0) (nI 12) (nI v0) := by simp [an_told, an_put, h_5, em0, h_18, ew0, h_39, ev0]
          have ht2 : st_put H (nI m0) (nI 12) (nI v0) = ho_set H (10 + m0) 12 v0 := by simp [st_put, h_5, em0, h_18, ew0, h_39, ev0]
          rw [ht2]
          have hsc : sc_ (xM2 (54 + 4 * m0)) mi _ := sc_rf.u (j := 2) (v := nI v0) (decide_eq_true (Or.inl rfl))
          exact ⟨rfl, congrArg Value.int ht1, rfl, xa_putt hx hm0 uv0, xh_put hz hn6 (by omega) hsc, hsc.mono (xM2_all (by omega))⟩
        · refine ev_s (is_bipush ((-7)) rfl rfl) ?_
          refine ev_ret (is_ireturn rfl rfl (by first | rfl | exact pu_b_nar | decide)) ?_
          refine ⟨rfl, ?_, rfl, ?_, ?_, sc_rf⟩
          · simp [an_put, h_5, em0, h_18, ew0, h_39]
          · rw [show st_put H (nI m0) (nI 12) v = H by simp [st_put, h_5, em0, h_18, ew0, h_39]]; exact hx
          · rw [show st_put H (nI m0) (nI 12) v = H by simp [st_put, h_5, em0, h_18, ew0, h_39]]; exact hz
      · refine ev_s (is_icmp_ne_t rfl (fun q => hw12 ((nI_eq (by omega) (by decide)).mp q))) ?_
        refine ev_s (is_iconst (nI 5) rfl rfl) ?_
        refine ev_c1 (is_call0 3 [_, _, _] [] rfl rfl rfl rfl rfl (Nat.le_of_ble_eq_true rfl) rfl rfl rfl) rfl rfl (x_within' _ _ _) ?_
        refine ev_ifB_ne rfl (fun h_39 => ?_) (fun h_39 => ?_)
        · obtain ⟨v0, rfl, lv0, uv0, ev0⟩ := ho_rng_n h_39 (by decide) (by decide)
          refine ev_s (is_aload_n rfl rfl) ?_
          refine ev_s (is_iload_n rfl rfl) ?_
          refine ev_s (is_iload_n rfl rfl) ?_
          refine ev_c1 (is_callR 3 [_, _] [] rfl rfl rfl rfl rfl (Nat.le_of_ble_eq_true rfl) rfl rfl rfl (pu_s hC 29 rfl rfl)) rfl rfl (x_told hC hx _ _) ?_
          refine ev_s (st_istore_4 rfl rfl) ?_
          refine ev_s (is_iload_n rfl rfl) ?_
          refine ev_s (is_bipush (nI 12) rfl rfl) ?_
          refine ev_s (is_icmp_ne_t rfl (fun q => hw12 ((nI_eq (by omega) (by decide)).mp q))) ?_
          refine ev_s (is_aload_n rfl rfl) ?_
          refine ev_s (is_getR rfl (pu_s hC 29 rfl rfl) rfl rfl (pu_r hC 29 0 rfl rfl)) ?_
          refine ev_s (is_iload_n rfl rfl) ?_
          refine ev_s (is_aaload (k := 1) (m0) rfl (pu_s hC 30 rfl rfl) rfl rfl rfl (by omega) (pu_rows hC (by omega)).1) ?_
          refine ev_s (is_getR rfl (pu_M hC (xm_Mi (m := m0) (by omega))).1 rfl rfl (pu_M hC (xm_Mi (m := m0) (by omega))).2.2) ?_
          refine ev_s (is_iload_n rfl rfl) ?_
          refine ev_s (is_iload_n rfl rfl) ?_
          refine ev_s (is_iastore (w0) rfl (pu_M hC (xm_Mi (m := m0) (by omega))).2.1 rfl rfl (by omega)) ?_
          refine ev_s (is_iload rfl rfl) ?_
          refine ev_ret (is_ireturn rfl rfl (by first | rfl | exact pu_b_nar | decide)) ?_
          have ht1 : an_told H (nI m0) (nI w0) = an_put H (nI m0) (nI w0) (nI v0) := by simp [an_told, an_put, h_5, em0, h_18, ew0, hw12, show ¬ nI w0 = nI 12 from fun q => hw12 ((nI_eq (by omega) (by decide)).mp q), h_39, ev0]
          have ht2 : st_put H (nI m0) (nI w0) (nI v0) = ho_set H (10 + m0) w0 v0 := by simp [st_put, h_5, em0, h_18, ew0, hw12, show ¬ nI w0 = nI 12 from fun q => hw12 ((nI_eq (by omega) (by decide)).mp q), h_39, ev0]
          rw [ht2]
          have hsc : sc_ (xM2 (54 + 4 * m0)) mi _ := sc_rf.u (j := w0) (v := nI v0) (decide_eq_true (Or.inr rfl))
          exact ⟨rfl, congrArg Value.int ht1, rfl, xa_putd hx hm0 (by omega) (by omega), xh_put hz hn6 (by omega) hsc, hsc.mono (xM2_all (by omega))⟩
        · refine ev_s (is_bipush ((-7)) rfl rfl) ?_
          refine ev_ret (is_ireturn rfl rfl (by first | rfl | exact pu_b_nar | decide)) ?_
          refine ⟨rfl, ?_, rfl, ?_, ?_, sc_rf⟩
          · simp [an_put, h_5, em0, h_18, ew0, hw12, show ¬ nI w0 = nI 12 from fun q => hw12 ((nI_eq (by omega) (by decide)).mp q), h_39]
          · rw [show st_put H (nI m0) (nI w0) v = H by simp [st_put, h_5, em0, h_18, ew0, hw12, show ¬ nI w0 = nI 12 from fun q => hw12 ((nI_eq (by omega) (by decide)).mp q), h_39]]; exact hx
          · rw [show st_put H (nI m0) (nI w0) v = H by simp [st_put, h_5, em0, h_18, ew0, hw12, show ¬ nI w0 = nI 12 from fun q => hw12 ((nI_eq (by omega) (by decide)).mp q), h_39]]; exact hz
  · refine ev_s (is_bipush ((-5)) rfl rfl) ?_
    refine ev_ret (is_ireturn rfl rfl (by first | rfl | exact pu_b_nar | decide)) ?_
    refine ⟨rfl, ?_, rfl, ?_, ?_, sc_rf⟩
    · simp [an_put, h_5]
    · rw [show st_put H m w v = H by simp [st_put, h_5]]; exact hx
    · rw [show st_put H m w v = H by simp [st_put, h_5]]; exact hz

def xMen (k : Nat) : Bool := decide (54 ≤ k ∧ k ≤ 77)
theorem xMen_all (k : Nat) (h : xMen k = true) : xAll k = true := by
  have := of_decide_eq_true h
  exact decide_eq_true (by omega)
theorem xMen_t {k : Nat} (h : 54 ≤ k ∧ k ≤ 77) : xMen k = true := decide_eq_true h
theorem xMen_f {k : Nat} (h : ¬ (54 ≤ k ∧ k ≤ 77)) : xMen k = false := decide_eq_false h
theorem xa_men {H H' : ho_T} {G : ho_G} {mi mi' : im_MI} {mr : im_MR} (hx : xa_ok H G mi mr) (h0 : ∀ i j, i < 10 → H' i j = H i j) (hs : sc_ xMen mi mi') (hm : ∀ m, m < H 0 0 → xm_ok mi' (54 + 4 * m) (ho_row H' m)) (hbd : ho_bd H') (hiv : ho_iv H') : xa_ok H' G mi' mr := by
  obtain ⟨h1, h2, h3, h4, h5, h6, h7, h8, h9⟩ := hx
  have ht := h8.2.2.1
  have e : ∀ j, H' 0 j = H 0 j := fun j => h0 0 j (by decide)
  have e29 := hs 29 (xMen_f (by omega))
  have e104 := hs 104 (xMen_f (by omega))
  refine ⟨by rw [e29, e]; exact h1, by rw [e29, e]; exact h2, by rw [e29, e]; exact h3, by rw [e104, e]; exact h4, by rw [e]; exact h5, fun m hm2 => hm m (by rw [e] at hm2; exact hm2), fun t ht2 => ?_, hbd, hiv⟩
  rw [e] at ht2
  exact xt_row (h7 t ht2) (hs _ (xMen_f (by omega))) (hs _ (xMen_f (by omega)))
theorem xh_men {H H' K : ho_T} {mi mi2 : im_MI} (h : xh_ok H K mi) (hn : H 0 0 ≤ 6) (h0 : ∀ i j, i < 10 → H' i j = H i j) (hs : sc_ xMen mi mi2) : xh_ok H' K mi2 :=
  xh_upd h hn (fun j => h0 0 j (by decide)) (fun j => h0 1 j (by decide)) (fun j => h0 2 j (by decide)) (fun k hk => hs k (xMen_f (by omega)))
theorem ho_row_at13 (H : ho_T) (a b m : Nat) : ho_row (st_swap H a b) m = ho_at (ho_row H m) 13 (st_swap H a b (10 + m) 13) := by
  funext j
  unfold ho_row ho_at
  show (if j = 14 then _ else if j = 15 then _ else _) = (if j = 13 then _ else (if j = 14 then H 1 m else if j = 15 then H 2 m else H (10 + m) j))
  rw [st_swap_lo H a b (show 1 < 10 by decide), st_swap_lo H a b (show 2 < 10 by decide)]
  by_cases h13 : j = 13
  · rw [if_neg (by omega), if_neg (by omega), if_pos h13, h13]
  · rw [if_neg h13, st_swap_j H a b h13]
theorem xa_move {H : ho_T} {G : ho_G} {mi : im_MI} {mr : im_MR} (hx : xa_ok H G mi mr) {a b : Nat} (ha : a < H 0 0) (hb : b < H 0 0) : xa_ok (st_swap H a b) G (im_u (im_u mi (54 + 4 * a) 3 (nI (H (10 + b) 13))) (54 + 4 * b) 3 (nI (H (10 + a) 13))) mr := by
  have hn := xa_n hx
  have hbd := xa_bd hx
  have hpa := hbd.2.2.2.2.2.2.2.2.2 a
  have hpb := hbd.2.2.2.2.2.2.2.2.2 b
  refine xa_men hx (fun i j hi => st_swap_lo H a b hi j) ((sc_rf.u (xMen_t (by omega))).u (xMen_t (by omega))) (fun m hm => ?_) (ho_bd_swap hbd a b) (ho_iv_swap (xa_iv hx) ha hb)
  rw [ho_row_at13, st_swap_at]
  by_cases h1 : m = b
  · subst h1
    rw [if_pos rfl]
    by_cases h2 : m = a
    · subst h2
      rw [im_u_u]
      exact xm_place (xa_m hx hm) hpa
    · exact xm_place (xm_row (xa_m hx hm) (im_u_row' (by omega)) (im_u_row' (by omega))) hpa
  · rw [if_neg h1]
    by_cases h2 : m = a
    · subst h2
      rw [if_pos rfl]
      exact xm_row (xm_place (xa_m hx hm) hpb) (im_u_row' (by omega)) (im_u_row' (by omega))
    · rw [if_neg h2]
      have e : ho_at (ho_row H m) 13 (H (10 + m) 13) = ho_row H m := by
        funext j
        unfold ho_at
        split
        · rename_i h3; rw [h3]; rfl
        · rfl
      rw [e]
      exact xm_row (xm_row (xa_m hx hm) (im_u_row' (by omega)) (im_u_row' (by omega))) (im_u_row' (by omega)) (im_u_row' (by omega))

theorem x_move {d : Nat} {sh : im_Sh} {mi : im_MI} {mr : im_MR} (hC : pu_C sh mr) {H K : ho_T} {G : ho_G} (hx : xa_ok H G mi mr) (hz : xh_ok H K mi) (a b : Int32) : EvM (d + 2) 74 [.ref 29, .int a, .int b] sh mi mr (fun r sh2 m2 r2 => sh2 = sh ∧ (r = .int (an_move H a b) ∧ r2 = mr ∧ xa_ok (st_move H a b) G m2 mr ∧ xh_ok (st_move H a b) K m2 ∧ sc_ xAll mi m2)) := by
  show Ev (d + 2) 74 0 [.ref 29, .int a, .int b, im_bad] [] sh mi mr _
  have hn6 := xa_n hx
  have hs : sc_ xQ mi mi := sc_rf
  refine ev_s (is_aload_n rfl rfl) ?_
  refine ev_s (is_iload_n rfl rfl) ?_
  refine ev_c1 (is_callR 2 [_] [] rfl rfl rfl rfl rfl (Nat.le_of_ble_eq_true rfl) rfl rfl rfl (pu_s hC 29 rfl rfl)) rfl rfl (x_noMan' hC hx _) ?_
  refine ev_ifB_ne rfl (fun h_5 => ?_) (fun h_5 => ?_)
  · refine ev_s (is_bipush ((-5)) rfl rfl) ?_
    refine ev_ret (is_ireturn rfl rfl (by first | rfl | exact pu_b_nar | decide)) ?_
    refine ⟨rfl, ?_, rfl, ?_, ?_, sc_rf⟩
    · simp [an_move, h_5]
    · rw [show st_move H a b = H by simp [st_move, h_5]]; exact hx
    · rw [show st_move H a b = H by simp [st_move, h_5]]; exact hz
  · have h_5 := Decidable.of_not_not h_5
    obtain ⟨a0, rfl, ha0, ea0⟩ := ho_isM_n hn6 h_5
    refine ev_s (is_aload_n rfl rfl) ?_
    refine ev_s (is_iload_n rfl rfl) ?_
    refine ev_c1 (is_callR 2 [_] [] rfl rfl rfl rfl rfl (Nat.le_of_ble_eq_true rfl) rfl rfl rfl (pu_s hC 29 rfl rfl)) rfl rfl (x_noMan' hC hx _) ?_
    refine ev_ifB_eq rfl (fun h_13 => ?_) (fun h_13 => ?_)
    · have h_13 := Decidable.of_not_not h_13
      obtain ⟨b0, rfl, hb0, eb0⟩ := ho_isM_n hn6 h_13
      refine ev_s (is_aload_n rfl rfl) ?_
      refine ev_s (is_getR rfl (pu_s hC 29 rfl rfl) rfl rfl (pu_r hC 29 0 rfl rfl)) ?_
      refine ev_s (is_iload_n rfl rfl) ?_
      refine ev_s (is_aaload (k := 1) (a0) rfl (pu_s hC 30 rfl rfl) rfl rfl rfl (by omega) (pu_rows hC (by omega)).1) ?_
      refine ev_s (is_getI' rfl (pu_M hC (xm_Mi (m := a0) (by omega))).1 rfl rfl (xa_pl hx ha0)) ?_
      refine ev_s (st_istore_n_3 rfl rfl) ?_
      refine ev_s (is_aload_n rfl rfl) ?_
      refine ev_s (is_getR rfl (pu_s hC 29 rfl rfl) rfl rfl (pu_r hC 29 0 rfl rfl)) ?_
      refine ev_s (is_iload_n rfl rfl) ?_
      refine ev_s (is_aaload (k := 1) (a0) rfl (pu_s hC 30 rfl rfl) rfl rfl rfl (by omega) (pu_rows hC (by omega)).1) ?_
      refine ev_s (is_aload_n rfl rfl) ?_
      refine ev_s (is_getR rfl (pu_s hC 29 rfl rfl) rfl rfl (pu_r hC 29 0 rfl rfl)) ?_
      refine ev_s (is_iload_n rfl rfl) ?_
      refine ev_s (is_aaload (k := 1) (b0) rfl (pu_s hC 30 rfl rfl) rfl rfl rfl (by omega) (pu_rows hC (by omega)).1) ?_
      refine ev_s (is_getI' rfl (pu_M hC (xm_Mi (m := b0) (by omega))).1 rfl rfl (xa_pl hx hb0)) ?_
      refine ev_s (is_putI rfl (pu_M hC (xm_Mi (m := a0) (by omega))).1 rfl rfl rfl) ?_
      refine ev_s (is_aload_n rfl rfl) ?_
      refine ev_s (is_getR rfl (pu_s hC 29 rfl rfl) rfl rfl (pu_r hC 29 0 rfl rfl)) ?_
      refine ev_s (is_iload_n rfl rfl) ?_
      refine ev_s (is_aaload (k := 1) (b0) rfl (pu_s hC 30 rfl rfl) rfl rfl rfl (by omega) (pu_rows hC (by omega)).1) ?_
      refine ev_s (is_iload_n rfl rfl) ?_
      refine ev_s (is_putI rfl (pu_M hC (xm_Mi (m := b0) (by omega))).1 rfl rfl rfl) ?_
      have hfin : (im_u (im_u mi (54 + 4 * a0) 3 (nI (H (10 + b0) 13))) (54 + 4 * b0) 3 (nI (H (10 + a0) 13))) (54 + 4 * a0) 3 = nI (H (10 + b0) 13) := by
        by_cases hab : a0 = b0
        · subst hab; rw [im_u_s]
        · rw [im_u_k _ _ _ _ (by omega), im_u_s]
      refine ev_s (is_aload_n rfl rfl) ?_
      refine ev_s (is_getR rfl (pu_s hC 29 rfl rfl) rfl rfl (pu_r hC 29 0 rfl rfl)) ?_
      refine ev_s (is_iload_n rfl rfl) ?_
      refine ev_s (is_aaload (k := 1) (a0) rfl (pu_s hC 30 rfl rfl) rfl rfl rfl (by omega) (pu_rows hC (by omega)).1) ?_
      refine ev_s (is_getI' rfl (pu_M hC (xm_Mi (m := a0) (by omega))).1 rfl rfl hfin) ?_
      refine ev_ret (is_ireturn rfl rfl (by first | rfl | exact pu_b_nar | decide)) ?_
      rw [show st_move H (nI a0) (nI b0) = st_swap H a0 b0 by simp [st_move, h_5, ea0, h_13, eb0]]
      have hsc : sc_ xMen mi _ := (sc_rf.u (k := 54 + 4 * a0) (j := 3) (v := nI (H (10 + b0) 13)) (xMen_t (by omega))).u (k := 54 + 4 * b0) (j := 3) (v := nI (H (10 + a0) 13)) (xMen_t (by omega))
      exact ⟨rfl, congrArg Value.int (by simp [an_move, h_5, ea0, h_13, eb0]), rfl, xa_move hx ha0 hb0, xh_men hz hn6 (fun i j hi => st_swap_lo H a0 b0 hi j) hsc, hsc.mono xMen_all⟩
    · refine ev_s (is_bipush ((-5)) rfl rfl) ?_
      refine ev_ret (is_ireturn rfl rfl (by first | rfl | exact pu_b_nar | decide)) ?_
      refine ⟨rfl, ?_, rfl, ?_, ?_, sc_rf⟩
      · simp [an_move, h_5, ea0, h_13]
      · rw [show st_move H (nI a0) b = H by simp [st_move, h_5, ea0, h_13]]; exact hx
      · rw [show st_move H (nI a0) b = H by simp [st_move, h_5, ea0, h_13]]; exact hz

theorem ho_sign_md (H : ho_T) (m h : Nat) (hh : h < 12) : ho_sign H m h = (match ho_mcell H m with
    | none => 0
    | some _ => kd_signs (ho_mrow H m 14) (ho_mrow H m h)) := by
  have h1 : h ≠ 14 := by omega
  have h2 : h ≠ 15 := by omega
  unfold ho_sign ho_mcell ho_mrow
  cases ho_mate H m with
  | none => rfl
  | some o => simp [ho_row, h1, h2]
theorem lo_max_eq {f g : Nat → Nat} : ∀ n, (∀ i, i < n → f i = g i) → lo_max f n = lo_max g n
  | 0, _ => rfl
  | n + 1, h => by rw [lo_max, lo_max, lo_max_eq n (fun i hi => h i (by omega)), h n (by omega)]
theorem lo_one_eq {p q : Nat → Bool} (n : Nat) (h : ∀ i, i < n → p i = q i) : lo_one p n = lo_one q n := lo_sum_eq n fun i hi => by rw [h i hi]

theorem x_hour {d : Nat} {sh : im_Sh} {mi : im_MI} {mr : im_MR} (hC : pu_C sh mr) {H : ho_T} {G : ho_G} (hx : xa_ok H G mi mr) (m h w : Int32) : EvM (d + 5) 75 [.ref 29, .int m, .int h, .int w] sh mi mr (fun r sh2 m2 r2 => sh2 = sh ∧ (r = .int (an_hour H G m h w) ∧ r2 = mr ∧ sc_ xQ mi m2)) := by
  show Ev (d + 5) 75 0 [.ref 29, .int m, .int h, .int w, im_bad] [] sh mi mr _
  have hn6 := xa_n hx
  have hs : sc_ xQ mi mi := sc_rf
  refine ev_s (is_aload_n rfl rfl) ?_
  refine ev_s (is_iload_n rfl rfl) ?_
  refine ev_c1 (is_callR 2 [_] [] rfl rfl rfl rfl rfl (Nat.le_of_ble_eq_true rfl) rfl rfl rfl (pu_s hC 29 rfl rfl)) rfl rfl (x_noMan' hC hx _) ?_
  refine ev_ifB_eq rfl (fun h_5 => ?_) (fun h_5 => ?_)
  · have h_5 := Decidable.of_not_not h_5
    obtain ⟨m0, rfl, hm0, em0⟩ := ho_isM_n hn6 h_5
    refine ev_s (is_iload_n rfl rfl) ?_
    refine ev_c1 (is_call0 1 [_] [] rfl rfl rfl rfl rfl (Nat.le_of_ble_eq_true rfl) rfl rfl rfl) rfl rfl (x_noHour' _) ?_
    refine ev_ifB_eq rfl (fun h_15 => ?_) (fun h_15 => ?_)
    · have h_15 := Decidable.of_not_not h_15
      obtain ⟨h0, rfl, lh0, uh0, eh0⟩ := ho_rng_n h_15 (by decide) (by decide)
      refine ev_s (is_aload_n rfl rfl) ?_
      refine ev_s (is_iload_n rfl rfl) ?_
      refine ev_c1 (is_callR 2 [_] [] rfl rfl rfl rfl rfl (Nat.le_of_ble_eq_true rfl) rfl rfl rfl (pu_s hC 29 rfl rfl)) rfl rfl (x_mate hC hx (by omega)) ?_
      refine ev_s (st_astoreO_4 rfl rfl) ?_
      refine ev_s (is_iload_n rfl rfl) ?_
      by_cases s_0 : w = nI 0
      · subst s_0
        refine ev_s (is_tsw 56 rfl (by decide)) ?_
        refine ev_s (is_aloadO rfl rfl) ?_
        rcases eo : ho_mcell H m0 with _ | q
        · refine ev_s (is_ifnonnullN rfl) ?_
          refine ev_s (is_iconst (nI 0) rfl rfl) ?_
          refine ev_s (is_goto rfl) ?_
          refine ev_ret (is_ireturn rfl rfl (by first | rfl | exact pu_b_nar | decide)) ?_
          refine ⟨rfl, ?_, rfl, hs⟩
          simp [an_hour, h_5, em0, h_15, eh0, ho_sign_md H m0 h0 (by omega), eo]
        · refine ev_s (is_ifnonnull rfl) ?_
          have hmt := xa_mate hx m0 q eo
          refine ev_s (is_aload rfl rfl) ?_
          refine ev_s (is_iload_n rfl rfl) ?_
          refine ev_c1 (is_callR 2 [_] [] rfl rfl rfl rfl rfl (Nat.le_of_ble_eq_true rfl) rfl rfl rfl (pu_M hC hmt.1).1) rfl rfl (x_signIn hC hmt.1 hmt.2 (by omega)) ?_
          refine ev_ret (is_ireturn rfl rfl (by first | rfl | exact pu_b_nar | decide)) ?_
          refine ⟨rfl, ?_, rfl, hs⟩
          simp [an_hour, h_5, em0, h_15, eh0, ho_sign_md H m0 h0 (by omega), eo]
      by_cases s_1 : w = nI 1
      · subst s_1
        refine ev_s (is_tsw 72 rfl (by decide)) ?_
        refine ev_s (is_aload_n rfl rfl) ?_
        refine ev_s (is_getR rfl (pu_s hC 29 rfl rfl) rfl rfl (pu_r hC 29 3 rfl rfl)) ?_
        refine ev_s (is_aload_n rfl rfl) ?_
        refine ev_s (is_getR rfl (pu_s hC 29 rfl rfl) rfl rfl (pu_r hC 29 0 rfl rfl)) ?_
        refine ev_s (is_iload_n rfl rfl) ?_
        refine ev_s (is_aaload (k := 1) (m0) rfl (pu_s hC 30 rfl rfl) rfl rfl rfl (by omega) (pu_rows hC (by omega)).1) ?_
        refine ev_s (is_aloadO rfl rfl) ?_
        refine ev_s (is_iload_n rfl rfl) ?_
        refine ev_q1 (is_callR 4 [_, _, _] [] rfl rfl rfl rfl rfl (Nat.le_of_ble_eq_true rfl) rfl rfl rfl (pu_s hC 104 rfl rfl)) rfl (by cases ho_mcell H m0 <;> rfl) (x_compO hC (xa_r hx) (h := h0) (xm_Mi (m := m0) (by omega)) (xa_m hx (by omega)) (xa_mate hx m0) (by omega)) (fun r_85 mi mr hq_85 => ?_)
        obtain ⟨rfl, hmr, hsc⟩ := hq_85
        have hmr := hmr.symm
        subst hmr
        have hs := hsc.mono (xS_xQ (Or.inl rfl))
        refine ev_ret (is_ireturn rfl rfl (by first | rfl | exact pu_b_nar | decide)) ?_
        refine ⟨rfl, ?_, rfl, hs⟩
        simp [an_hour, h_5, em0, h_15, eh0, s_0, ho_comp_md H G m0 h0 (by omega)]
      by_cases s_2 : w = nI 2
      · subst s_2
        refine ev_s (is_tsw 89 rfl (by decide)) ?_
        refine ev_s (is_aload_n rfl rfl) ?_
        refine ev_s (is_getR rfl (pu_s hC 29 rfl rfl) rfl rfl (pu_r hC 29 3 rfl rfl)) ?_
        refine ev_s (is_aload_n rfl rfl) ?_
        refine ev_s (is_getR rfl (pu_s hC 29 rfl rfl) rfl rfl (pu_r hC 29 0 rfl rfl)) ?_
        refine ev_s (is_iload_n rfl rfl) ?_
        refine ev_s (is_aaload (k := 1) (m0) rfl (pu_s hC 30 rfl rfl) rfl rfl rfl (by omega) (pu_rows hC (by omega)).1) ?_
        refine ev_s (is_aloadO rfl rfl) ?_
        refine ev_s (is_iload_n rfl rfl) ?_
        refine ev_q1 (is_callR 4 [_, _, _] [] rfl rfl rfl rfl rfl (Nat.le_of_ble_eq_true rfl) rfl rfl rfl (pu_s hC 104 rfl rfl)) rfl (by cases ho_mcell H m0 <;> rfl) (x_daysO hC (xa_r hx) (h := h0) (xm_Mi (m := m0) (by omega)) (xa_m hx (by omega)) (xa_mate hx m0) (by omega)) (fun r_102 mi mr hq_102 => ?_)
        obtain ⟨rfl, hmr, hsc⟩ := hq_102
        have hmr := hmr.symm
        subst hmr
        have hs := hsc.mono (xS_xQ (Or.inl rfl))
        refine ev_ret (is_ireturn rfl rfl (by first | rfl | exact pu_b_nar | decide)) ?_
        refine ⟨rfl, ?_, rfl, hs⟩
        simp [an_hour, h_5, em0, h_15, eh0, s_0, s_1, ho_days_md H G m0 h0 (by omega)]
      have t_0 := pu_ne_toInt s_0 (by decide)
      have t_1 := pu_ne_toInt s_1 (by decide)
      have t_2 := pu_ne_toInt s_2 (by decide)
      refine ev_s (is_tswD 106 rfl (by omega) (by decide)) ?_
      refine ev_s (is_bipush ((-7)) rfl rfl) ?_
      refine ev_ret (is_ireturn rfl rfl (by first | rfl | exact pu_b_nar | decide)) ?_
      refine ⟨rfl, ?_, rfl, hs⟩
      simp [an_hour, h_5, em0, h_15, eh0, s_0, s_1, s_2]
    · refine ev_s (is_bipush ((-7)) rfl rfl) ?_
      refine ev_ret (is_ireturn rfl rfl (by first | rfl | exact pu_b_nar | decide)) ?_
      refine ⟨rfl, ?_, rfl, hs⟩
      simp [an_hour, h_5, em0, h_15]
  · refine ev_s (is_bipush ((-5)) rfl rfl) ?_
    refine ev_ret (is_ireturn rfl rfl (by first | rfl | exact pu_b_nar | decide)) ?_
    refine ⟨rfl, ?_, rfl, hs⟩
    simp [an_hour, h_5]

theorem x_dayc {d : Nat} {sh : im_Sh} {mi : im_MI} {mr : im_MR} (hC : pu_C sh mr) {H : ho_T} {G : ho_G} (hx : xa_ok H G mi mr) (m w : Int32) : EvM (d + 6) 76 [.ref 29, .int m, .int w] sh mi mr (fun r sh2 m2 r2 => sh2 = sh ∧ (r = .int (an_day H G m w) ∧ r2 = mr ∧ sc_ xQ mi m2)) := by
  show Ev (d + 6) 76 0 [.ref 29, .int m, .int w, im_bad] [] sh mi mr _
  have hn6 := xa_n hx
  have hs : sc_ xQ mi mi := sc_rf
  refine ev_s (is_aload_n rfl rfl) ?_
  refine ev_s (is_iload_n rfl rfl) ?_
  refine ev_c1 (is_callR 2 [_] [] rfl rfl rfl rfl rfl (Nat.le_of_ble_eq_true rfl) rfl rfl rfl (pu_s hC 29 rfl rfl)) rfl rfl (x_noMan' hC hx _) ?_
  refine ev_ifB_eq rfl (fun h_5 => ?_) (fun h_5 => ?_)
  · have h_5 := Decidable.of_not_not h_5
    obtain ⟨m0, rfl, hm0, em0⟩ := ho_isM_n hn6 h_5
    refine ev_s (is_aload_n rfl rfl) ?_
    refine ev_s (is_iload_n rfl rfl) ?_
    refine ev_c1 (is_callR 2 [_] [] rfl rfl rfl rfl rfl (Nat.le_of_ble_eq_true rfl) rfl rfl rfl (pu_s hC 29 rfl rfl)) rfl rfl (x_mate hC hx (by omega)) ?_
    refine ev_s (st_astore_nO_3 rfl rfl) ?_
    refine ev_s (is_iload_n rfl rfl) ?_
    by_cases s_0 : w = nI 0
    · subst s_0
      refine ev_s (is_tsw 48 rfl (by decide)) ?_
      refine ev_s (is_aload_n rfl rfl) ?_
      refine ev_s (is_getR rfl (pu_s hC 29 rfl rfl) rfl rfl (pu_r hC 29 3 rfl rfl)) ?_
      refine ev_s (is_aload_n rfl rfl) ?_
      refine ev_s (is_getR rfl (pu_s hC 29 rfl rfl) rfl rfl (pu_r hC 29 0 rfl rfl)) ?_
      refine ev_s (is_iload_n rfl rfl) ?_
      refine ev_s (is_aaload (k := 1) (m0) rfl (pu_s hC 30 rfl rfl) rfl rfl rfl (by omega) (pu_rows hC (by omega)).1) ?_
      refine ev_s (is_aload_nO rfl rfl) ?_
      refine ev_q1 (is_callR 3 [_, _] [] rfl rfl rfl rfl rfl (Nat.le_of_ble_eq_true rfl) rfl rfl rfl (pu_s hC 104 rfl rfl)) rfl (by cases ho_mcell H m0 <;> rfl) (x_dayO hC (xa_r hx) (xm_Mi (m := m0) (by omega)) (xa_m hx (by omega)) (xa_mate hx m0)) (fun r_59 mi mr hq_59 => ?_)
      obtain ⟨rfl, hmr, hsc⟩ := hq_59
      have hmr := hmr.symm
      subst hmr
      have hs := hsc.mono (xS_xQ (Or.inl rfl))
      refine ev_ret (is_ireturn rfl rfl (by first | rfl | exact pu_b_nar | decide)) ?_
      refine ⟨rfl, ?_, rfl, hs⟩
      simp [an_day, h_5, em0, ho_day_md]
    by_cases s_1 : w = nI 1
    · subst s_1
      refine ev_s (is_tsw 63 rfl (by decide)) ?_
      refine ev_s (is_aload_n rfl rfl) ?_
      refine ev_s (is_aload_n rfl rfl) ?_
      refine ev_s (is_getR rfl (pu_s hC 29 rfl rfl) rfl rfl (pu_r hC 29 0 rfl rfl)) ?_
      refine ev_s (is_iload_n rfl rfl) ?_
      refine ev_s (is_aaload (k := 1) (m0) rfl (pu_s hC 30 rfl rfl) rfl rfl rfl (by omega) (pu_rows hC (by omega)).1) ?_
      refine ev_s (is_aload_nO rfl rfl) ?_
      refine ev_q1 (is_callR 3 [_, _] [] rfl rfl rfl rfl rfl (Nat.le_of_ble_eq_true rfl) rfl rfl rfl (pu_s hC 29 rfl rfl)) rfl (by cases ho_mcell H m0 <;> rfl) (x_hours hC hx (xm_Mi (m := m0) (by omega)) (xa_m hx (by omega)) (xa_mate hx m0)) (fun r_71 mi mr hq_71 => ?_)
      obtain ⟨rfl, hmr, hsc⟩ := hq_71
      have hmr := hmr.symm
      subst hmr
      have hs := hsc.mono (xS_xQ (Or.inl rfl))
      refine ev_ret (is_ireturn rfl rfl (by first | rfl | exact pu_b_nar | decide)) ?_
      refine ⟨rfl, ?_, rfl, hs⟩
      simp [an_day, h_5, em0, s_0, lo_one_eq 12 (fun h hh => show decide (0 < ho_comp H G m0 h) = decide (0 < md_compO G (H 0 3) (H 0 1) (ho_row H m0) (ho_mcell H m0) (ho_mrow H m0) h) by rw [ho_comp_md H G m0 h hh])]
    by_cases s_2 : w = nI 2
    · subst s_2
      refine ev_s (is_tsw 75 rfl (by decide)) ?_
      refine ev_s (is_aload_n rfl rfl) ?_
      refine ev_s (is_aload_n rfl rfl) ?_
      refine ev_s (is_getR rfl (pu_s hC 29 rfl rfl) rfl rfl (pu_r hC 29 0 rfl rfl)) ?_
      refine ev_s (is_iload_n rfl rfl) ?_
      refine ev_s (is_aaload (k := 1) (m0) rfl (pu_s hC 30 rfl rfl) rfl rfl rfl (by omega) (pu_rows hC (by omega)).1) ?_
      refine ev_s (is_aload_nO rfl rfl) ?_
      refine ev_q1 (is_callR 3 [_, _] [] rfl rfl rfl rfl rfl (Nat.le_of_ble_eq_true rfl) rfl rfl rfl (pu_s hC 29 rfl rfl)) rfl (by cases ho_mcell H m0 <;> rfl) (x_firstC hC hx (xm_Mi (m := m0) (by omega)) (xa_m hx (by omega)) (xa_mate hx m0)) (fun r_83 mi mr hq_83 => ?_)
      obtain ⟨rfl, hmr, hsc⟩ := hq_83
      have hmr := hmr.symm
      subst hmr
      have hs := hsc.mono (xS_xQ (Or.inl rfl))
      refine ev_ret (is_ireturn rfl rfl (by first | rfl | exact pu_b_nar | decide)) ?_
      refine ⟨rfl, ?_, rfl, hs⟩
      simp [an_day, h_5, em0, s_0, s_1, lo_find_eq 12 0 (fun h _ hh => show decide (0 < ho_comp H G m0 h) = decide (0 < md_compO G (H 0 3) (H 0 1) (ho_row H m0) (ho_mcell H m0) (ho_mrow H m0) h) by rw [ho_comp_md H G m0 h (by omega)])]
    by_cases s_3 : w = nI 3
    · subst s_3
      refine ev_s (is_tsw 87 rfl (by decide)) ?_
      refine ev_s (is_aload_n rfl rfl) ?_
      refine ev_s (is_aload_n rfl rfl) ?_
      refine ev_s (is_getR rfl (pu_s hC 29 rfl rfl) rfl rfl (pu_r hC 29 0 rfl rfl)) ?_
      refine ev_s (is_iload_n rfl rfl) ?_
      refine ev_s (is_aaload (k := 1) (m0) rfl (pu_s hC 30 rfl rfl) rfl rfl rfl (by omega) (pu_rows hC (by omega)).1) ?_
      refine ev_s (is_aload_nO rfl rfl) ?_
      refine ev_q1 (is_callR 3 [_, _] [] rfl rfl rfl rfl rfl (Nat.le_of_ble_eq_true rfl) rfl rfl rfl (pu_s hC 29 rfl rfl)) rfl (by cases ho_mcell H m0 <;> rfl) (x_mostC hC hx (xm_Mi (m := m0) (by omega)) (xa_m hx (by omega)) (xa_mate hx m0)) (fun r_95 mi mr hq_95 => ?_)
      obtain ⟨rfl, hmr, hsc⟩ := hq_95
      have hmr := hmr.symm
      subst hmr
      have hs := hsc.mono (xS_xQ (Or.inl rfl))
      refine ev_ret (is_ireturn rfl rfl (by first | rfl | exact pu_b_nar | decide)) ?_
      refine ⟨rfl, ?_, rfl, hs⟩
      simp [an_day, h_5, em0, s_0, s_1, s_2, lo_max_eq 12 (fun h hh => ho_comp_md H G m0 h hh)]
    have t_0 := pu_ne_toInt s_0 (by decide)
    have t_1 := pu_ne_toInt s_1 (by decide)
    have t_2 := pu_ne_toInt s_2 (by decide)
    have t_3 := pu_ne_toInt s_3 (by decide)
    refine ev_s (is_tswD 99 rfl (by omega) (by decide)) ?_
    refine ev_s (is_bipush ((-7)) rfl rfl) ?_
    refine ev_ret (is_ireturn rfl rfl (by first | rfl | exact pu_b_nar | decide)) ?_
    refine ⟨rfl, ?_, rfl, hs⟩
    simp [an_day, h_5, em0, s_0, s_1, s_2, s_3]
  · refine ev_s (is_bipush ((-5)) rfl rfl) ?_
    refine ev_ret (is_ireturn rfl rfl (by first | rfl | exact pu_b_nar | decide)) ?_
    refine ⟨rfl, ?_, rfl, hs⟩
    simp [an_day, h_5]

theorem x_all {d : Nat} {sh : im_Sh} {mi : im_MI} {mr : im_MR} (hC : pu_C sh mr) {H : ho_T} {G : ho_G} (hx : xa_ok H G mi mr) : EvM (d + 6) 77 [.ref 29] sh mi mr (fun r sh2 m2 r2 => sh2 = sh ∧ (r = .int (nI (ho_all H G)) ∧ r2 = mr ∧ sc_ xQ mi m2)) := by
  show Ev (d + 6) 77 0 [.ref 29, im_bad, im_bad] [] sh mi mr _
  have hn6 := xa_n hx
  have loop : ∀ (j i : Nat) (ma : im_MI), i + j = H 0 0 → sc_ xQ mi ma → Ev (d + 6) 77 4 [.ref 29, .int (nI (lo_sum (fun m => ho_day H G m) i)), .int (nI i)] [] sh ma mr (fun r sh2 m2 r2 => sh2 = sh ∧ (r = .int (nI (ho_all H G)) ∧ r2 = mr ∧ sc_ xQ mi m2)) := by
    intro j
    induction j with
    | zero =>
      intro i ma hi hs
      have hx := xa_sc hx hs
      refine ev_s (is_iload_n rfl rfl) ?_
      refine ev_s (is_aload_n rfl rfl) ?_
      refine ev_s (is_getI' rfl (pu_s hC 29 rfl rfl) rfl rfl hx.1) ?_
      refine ev_s (is_icmp_ge_t rfl (nI_le (by omega) (by omega))) ?_
      refine ev_s (is_iload_n rfl rfl) ?_
      refine ev_ret (is_ireturn rfl rfl (by first | rfl | exact pu_b_nar | decide)) ?_
      exact ⟨rfl, by rw [show i = H 0 0 by omega]; rfl, rfl, hs⟩
    | succ j ih =>
      intro i ma hi hs
      have hx := xa_sc hx hs
      refine ev_s (is_iload_n rfl rfl) ?_
      refine ev_s (is_aload_n rfl rfl) ?_
      refine ev_s (is_getI' rfl (pu_s hC 29 rfl rfl) rfl rfl hx.1) ?_
      refine ev_s (is_icmp_ge_f rfl (nI_ge (by omega) (by omega))) ?_
      refine ev_s (is_iload_n rfl rfl) ?_
      refine ev_s (is_aload_n rfl rfl) ?_
      refine ev_s (is_getR rfl (pu_s hC 29 rfl rfl) rfl rfl (pu_r hC 29 3 rfl rfl)) ?_
      refine ev_s (is_aload_n rfl rfl) ?_
      refine ev_s (is_getR rfl (pu_s hC 29 rfl rfl) rfl rfl (pu_r hC 29 0 rfl rfl)) ?_
      refine ev_s (is_iload_n rfl rfl) ?_
      refine ev_s (is_aaload (k := 1) (i) rfl (pu_s hC 30 rfl rfl) rfl rfl rfl (by omega) (pu_rows hC (by omega)).1) ?_
      refine ev_s (is_aload_n rfl rfl) ?_
      refine ev_s (is_iload_n rfl rfl) ?_
      refine ev_c1 (is_callR 2 [_] [_, _, _] rfl rfl rfl rfl rfl (Nat.le_of_ble_eq_true rfl) rfl rfl rfl (pu_s hC 29 rfl rfl)) rfl rfl (x_mate hC hx (by omega)) ?_
      refine ev_q1 (is_callR 3 [_, _] [_] rfl rfl rfl rfl rfl (Nat.le_of_ble_eq_true rfl) rfl rfl rfl (pu_s hC 104 rfl rfl)) rfl (by cases ho_mcell H i <;> rfl) (x_dayO hC (xa_r hx) (xm_Mi (m := i) (by omega)) (xa_m hx (by omega)) (xa_mate hx i)) (fun r_28 mi mr hq_28 => ?_)
      obtain ⟨rfl, hmr, hsc⟩ := hq_28
      have hmr := hmr.symm
      subst hmr
      have hsc := hsc.mono (xS_xQ (Or.inl rfl))
      have hs := hs.trans hsc
      rw [← ho_day_md]
      first
        | refine ev_s (is_iadd _ rfl (nI_add _ _)) ?_
        | refine ev_s (is_iadd _ rfl rfl) ?_
      refine ev_s (st_istore_n_1 rfl rfl) ?_
      refine ev_s (st_iinc_2 _ rfl rfl (nI_inc _)) ?_
      refine ev_s (is_goto rfl) ?_
      exact ih (i + 1) _ (by omega) hs
  refine ev_s (is_iconst (nI 0) rfl rfl) ?_
  refine ev_s (st_istore_n_1 rfl rfl) ?_
  refine ev_s (is_iconst (nI 0) rfl rfl) ?_
  refine ev_s (st_istore_n_2 rfl rfl) ?_
  exact loop (H 0 0) 0 mi (by omega) sc_rf
