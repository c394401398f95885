/-! ===== PURE, the class: copy, taken ===== -/

theorem xh_copy {H K : ho_T} {mi : im_MI} (h : xh_ok H K mi) (hn6 : H 0 0 ≤ 6) {s o i j n : Nat} (hs : s < 4) (ho : o < 4) (hi : i + n ≤ 40) (hj : j + n ≤ 40) : xh_ok H (cp_K K s i o j n) (im_row mi (97 + 2 * o) (va_cpy (mi (97 + 2 * s)) (mi (97 + 2 * o)) i j n)) := by
  have hb := h.2.2.2.2.2
  have hg := h.1 o ho
  have hgs := h.1 s hs
  have e : im_row mi (97 + 2 * o) (va_cpy (mi (97 + 2 * s)) (mi (97 + 2 * o)) i j n) (96 + 2 * o) = mi (96 + 2 * o) := im_row_ne _ _ _ (by omega)
  refine xh_sheet h hn6 ho (hb.1 o) (hb.2.1 o) (fun k hk => im_row_ne _ _ _ (by have := of_decide_eq_false hk; omega)) (by rw [e]; exact hg.1) (by rw [e]; exact hg.2.1) (f := fun q => if j ≤ q ∧ q < j + n then K (20 + s) (i + (q - j)) else K (20 + o) q) (fun q => ?_) (fun q hq => ?_) (fun q => ?_) (fun q => ?_) (fun q b hq => ?_) (fun a b h4 h5 hi => if_neg (by omega))
  · show (if j ≤ q ∧ q < j + n then _ else _) < _
    split
    · exact hb.2.2.1 s _ hs
    · exact hb.2.2.1 o q ho
  · show _ = nI (if j ≤ q ∧ q < j + n then K (20 + s) (i + (q - j)) else K (20 + o) q)
    rw [im_row_eq]
    by_cases hqj : j ≤ q ∧ q < j + n
    · rw [if_pos hqj, pk_cpy_in hqj.1 hqj.2]
      exact hgs.2.2 _ (by omega)
    · rw [if_neg hqj, pk_cpy_out (by omega)]
      exact hg.2.2 q hq
  · show (if 4 = 20 + o ∧ _ then _ else _) = _
    rw [if_neg (by omega)]
    by_cases h1 : q = o
    · rw [if_pos h1, h1]
    · rw [if_neg h1]
  · show (if 5 = 20 + o ∧ _ then _ else _) = _
    rw [if_neg (by omega)]
    by_cases h1 : q = o
    · rw [if_pos h1, h1]
    · rw [if_neg h1]
  · unfold cp_K
    by_cases h1 : q = o
    · subst h1
      rw [if_pos rfl]
      by_cases h2 : j ≤ b ∧ b < j + n
      · rw [if_pos ⟨rfl, h2⟩, if_pos h2]
      · rw [if_neg (by omega), if_neg h2]
    · rw [if_neg h1, if_neg (by omega)]
theorem pu_sub1 {a b : Nat} (ha : a < 4) (hb : b < 4) : (nI a - 1 = nI b - 1) ↔ a = b := by
  rcases (show a = 0 ∨ a = 1 ∨ a = 2 ∨ a = 3 by omega) with rfl | rfl | rfl | rfl <;> rcases (show b = 0 ∨ b = 1 ∨ b = 2 ∨ b = 3 by omega) with rfl | rfl | rfl | rfl <;> decide

theorem x_copy {d : Nat} {sh : im_Sh} {mi : im_MI} {mr : im_MR} (hC : pu_C sh mr) {H K : ho_T} {G : ho_G} (hx : xa_ok H G mi mr) (hz : xh_ok H K mi) (s i o j n : Int32) : EvM (d + 2) 100 [.ref 29, .int s, .int i, .int o, .int j, .int n] sh mi mr (fun r sh2 m2 r2 => sh2 = sh ∧ (r = .int (an_copy K s i o j n) ∧ r2 = mr ∧ xa_ok (H) G m2 mr ∧ xh_ok (H) (st_copy K s i o j n) m2 ∧ sc_ xAll mi m2)) := by
  show Ev (d + 2) 100 0 [.ref 29, .int s, .int i, .int o, .int j, .int n] [] sh mi mr _
  have hn6 := xa_n hx
  have hs : sc_ xQ mi mi := sc_rf
  refine ev_s (is_iload_n rfl rfl) ?_
  refine ev_c1 (is_call0 1 [_] [] rfl rfl rfl rfl rfl (Nat.le_of_ble_eq_true rfl) rfl rfl rfl) rfl rfl (x_noSheet _) ?_
  refine ev_ifB_ne rfl (fun h_4 => ?_) (fun h_4 => ?_)
  · refine ev_s (is_bipush ((-2)) rfl rfl) ?_
    refine ev_ret (is_ireturn rfl rfl (by first | rfl | exact pu_b_nar | decide)) ?_
    refine ⟨rfl, by simp [an_copy, h_4], rfl, hx, ?_, sc_rf⟩
    rw [show st_copy K s i o j n = K by simp [st_copy, h_4]]; exact hz
  · have h_4 := Decidable.of_not_not h_4
    obtain ⟨s0, rfl, ls0, us0, es0⟩ := ho_rng_n h_4 (by decide) (by decide)
    refine ev_s (is_iload_n rfl rfl) ?_
    refine ev_c1 (is_call0 1 [_] [] rfl rfl rfl rfl rfl (Nat.le_of_ble_eq_true rfl) rfl rfl rfl) rfl rfl (x_noSheet _) ?_
    refine ev_ifB_eq rfl (fun h_11 => ?_) (fun h_11 => ?_)
    · have h_11 := Decidable.of_not_not h_11
      obtain ⟨o0, rfl, lo0, uo0, eo0⟩ := ho_rng_n h_11 (by decide) (by decide)
      have hbs := hz.2.2.2.2.2.2.1 s0
      have hbo := hz.2.2.2.2.2.2.1 o0
      refine ev_s (is_aload_n rfl rfl) ?_
      refine ev_s (is_getR rfl (pu_s hC 29 rfl rfl) rfl rfl (pu_r hC 29 12 rfl rfl)) ?_
      refine ev_s (is_iload_n rfl rfl) ?_
      refine ev_s (is_aaload (k := 4) (s0) rfl (pu_s hC 39 rfl rfl) rfl rfl rfl (by omega) (pu_sheet hC (by omega)).1) ?_
      refine ev_c1 (is_callR 1 [] [] rfl rfl rfl rfl rfl (Nat.le_of_ble_eq_true rfl) rfl rfl rfl (pu_sheet hC (j := s0) (by omega)).2.1) rfl rfl (x_missing hC hz (s := s0) (by omega)) ?_
      refine ev_ifB_ne rfl (fun h_26 => ?_) (fun h_26 => ?_)
      · refine ev_s (is_bipush ((-11)) rfl rfl) ?_
        refine ev_ret (is_ireturn rfl rfl (by first | rfl | exact pu_b_nar | decide)) ?_
        refine ⟨rfl, by simp [an_copy, h_4, es0, h_11, eo0, h_26], rfl, hx, ?_, sc_rf⟩
        rw [show st_copy K (nI s0) i (nI o0) j n = K by simp [st_copy, h_4, es0, h_11, eo0, h_26]]; exact hz
      · refine ev_s (is_aload_n rfl rfl) ?_
        refine ev_s (is_getR rfl (pu_s hC 29 rfl rfl) rfl rfl (pu_r hC 29 12 rfl rfl)) ?_
        refine ev_s (is_iload_n rfl rfl) ?_
        refine ev_s (is_aaload (k := 4) (o0) rfl (pu_s hC 39 rfl rfl) rfl rfl rfl (by omega) (pu_sheet hC (by omega)).1) ?_
        refine ev_c1 (is_callR 1 [] [] rfl rfl rfl rfl rfl (Nat.le_of_ble_eq_true rfl) rfl rfl rfl (pu_sheet hC (j := o0) (by omega)).2.1) rfl rfl (x_missing hC hz (s := o0) (by omega)) ?_
        refine ev_ifB_eq rfl (fun h_38 => ?_) (fun h_38 => ?_)
        · refine ev_s (is_aload_n rfl rfl) ?_
          refine ev_s (is_getR rfl (pu_s hC 29 rfl rfl) rfl rfl (pu_r hC 29 12 rfl rfl)) ?_
          refine ev_s (is_iload_n rfl rfl) ?_
          refine ev_s (is_aaload (k := 4) (s0) rfl (pu_s hC 39 rfl rfl) rfl rfl rfl (by omega) (pu_sheet hC (by omega)).1) ?_
          refine ev_s (is_getI' rfl (pu_sheet hC (j := s0) (by omega)).2.1 rfl rfl ((hz.1 s0 (by omega)).1)) ?_
          refine ev_s (is_aload_n rfl rfl) ?_
          refine ev_s (is_getR rfl (pu_s hC 29 rfl rfl) rfl rfl (pu_r hC 29 12 rfl rfl)) ?_
          refine ev_s (is_iload_n rfl rfl) ?_
          refine ev_s (is_aaload (k := 4) (o0) rfl (pu_s hC 39 rfl rfl) rfl rfl rfl (by omega) (pu_sheet hC (by omega)).1) ?_
          refine ev_s (is_getI' rfl (pu_sheet hC (j := o0) (by omega)).2.1 rfl rfl ((hz.1 o0 (by omega)).1)) ?_
          refine ev_icmp_eq rfl (fun h_62 => ?_) (fun h_62 => ?_)
          · have e62 : K 4 s0 = K 4 o0 := (pu_sub1 (hz.2.2.2.2.2.1 s0) (hz.2.2.2.2.2.1 o0)).mp h_62
            refine ev_s (is_aload_n rfl rfl) ?_
            refine ev_s (is_getR rfl (pu_s hC 29 rfl rfl) rfl rfl (pu_r hC 29 12 rfl rfl)) ?_
            refine ev_s (is_iload_n rfl rfl) ?_
            refine ev_s (is_aaload (k := 4) (s0) rfl (pu_s hC 39 rfl rfl) rfl rfl rfl (by omega) (pu_sheet hC (by omega)).1) ?_
            refine ev_s (is_iload_n rfl rfl) ?_
            refine ev_s (is_iload rfl rfl) ?_
            refine ev_c1 (is_callR 3 [_, _] [] rfl rfl rfl rfl rfl (Nat.le_of_ble_eq_true rfl) rfl rfl rfl (pu_sheet hC (j := s0) (by omega)).2.1) rfl rfl (x_hasRoom hC hz (s := s0) (by omega) _ _) ?_
            refine ev_ifB_eq rfl (fun h_80 => ?_) (fun h_80 => ?_)
            · refine ev_s (is_bipush ((-12)) rfl rfl) ?_
              refine ev_ret (is_ireturn rfl rfl (by first | rfl | exact pu_b_nar | decide)) ?_
              refine ⟨rfl, by simp [an_copy, h_4, es0, h_11, eo0, h_26, h_38, e62, h_80], rfl, hx, ?_, sc_rf⟩
              rw [show st_copy K (nI s0) i (nI o0) j n = K by simp [st_copy, h_4, es0, h_11, eo0, h_26, h_38, e62, h_80]]; exact hz
            · refine ev_s (is_aload_n rfl rfl) ?_
              refine ev_s (is_getR rfl (pu_s hC 29 rfl rfl) rfl rfl (pu_r hC 29 12 rfl rfl)) ?_
              refine ev_s (is_iload_n rfl rfl) ?_
              refine ev_s (is_aaload (k := 4) (o0) rfl (pu_s hC 39 rfl rfl) rfl rfl rfl (by omega) (pu_sheet hC (by omega)).1) ?_
              refine ev_s (is_iload rfl rfl) ?_
              refine ev_s (is_iload rfl rfl) ?_
              refine ev_c1 (is_callR 3 [_, _] [] rfl rfl rfl rfl rfl (Nat.le_of_ble_eq_true rfl) rfl rfl rfl (pu_sheet hC (j := o0) (by omega)).2.1) rfl rfl (x_hasRoom hC hz (s := o0) (by omega) _ _) ?_
              refine ev_ifB_ne rfl (fun h_96 => ?_) (fun h_96 => ?_)
              · have r1 := h_80
                have r2 := h_96
                obtain ⟨i0, n0, rfl, rfl, hin, ei0, en0⟩ := sh_room_n hbs h_80
                obtain ⟨j0, n1, rfl, en, hjn, ej0, en1⟩ := sh_room_n hbo h_96
                have hn01 : n0 = n1 := by rw [← en0, en, en1]
                subst hn01
                refine ev_s (is_aload_n rfl rfl) ?_
                refine ev_s (is_getR rfl (pu_s hC 29 rfl rfl) rfl rfl (pu_r hC 29 12 rfl rfl)) ?_
                refine ev_s (is_iload_n rfl rfl) ?_
                refine ev_s (is_aaload (k := 4) (s0) rfl (pu_s hC 39 rfl rfl) rfl rfl rfl (by omega) (pu_sheet hC (by omega)).1) ?_
                refine ev_s (is_getR rfl (pu_sheet hC (j := s0) (by omega)).2.1 rfl rfl (pu_sheet hC (j := s0) (by omega)).2.2.2) ?_
                refine ev_s (is_iload_n rfl rfl) ?_
                refine ev_s (is_aload_n rfl rfl) ?_
                refine ev_s (is_getR rfl (pu_s hC 29 rfl rfl) rfl rfl (pu_r hC 29 12 rfl rfl)) ?_
                refine ev_s (is_iload_n rfl rfl) ?_
                refine ev_s (is_aaload (k := 4) (o0) rfl (pu_s hC 39 rfl rfl) rfl rfl rfl (by omega) (pu_sheet hC (by omega)).1) ?_
                refine ev_s (is_getR rfl (pu_sheet hC (j := o0) (by omega)).2.1 rfl rfl (pu_sheet hC (j := o0) (by omega)).2.2.2) ?_
                refine ev_s (is_iload rfl rfl) ?_
                refine ev_s (is_iload rfl rfl) ?_
                refine ev_s (is_acopy n0 j0 i0 rfl (pu_sheet hC (j := s0) (by omega)).2.2.1 (pu_sheet hC (j := o0) (by omega)).2.2.1 rfl rfl rfl rfl rfl (by omega) (by omega) (by decide)) ?_
                refine ev_s (is_iload rfl rfl) ?_
                refine ev_ret (is_ireturn rfl rfl (by first | rfl | exact pu_b_nar | decide)) ?_
                have hst : st_copy K (nI s0) (nI i0) (nI o0) (nI j0) (nI n0) = cp_K K s0 i0 o0 j0 n0 := by simp [st_copy, h_4, es0, h_11, eo0, h_26, h_38, e62, h_80, h_96, ei0, ej0, en0]
                have hsc : sc_ (xM2 (96 + 2 * o0)) mi (im_row mi (97 + 2 * o0) (va_cpy (mi (97 + 2 * s0)) (mi (97 + 2 * o0)) i0 j0 n0)) := fun k hk => im_row_ne _ _ _ (by have := of_decide_eq_false hk; omega)
                refine ⟨rfl, by simp [an_copy, h_4, es0, h_11, eo0, h_26, h_38, e62, h_80, h_96], rfl, xa_host' hx (hsc.mono (xM2_host (by omega))), ?_, (hsc.mono (xM2_host (by omega))).mono xHost_all⟩
                rw [hst]
                exact xh_copy hz hn6 (by omega) (by omega) (by omega) (by omega)
              · refine ev_s (is_bipush ((-12)) rfl rfl) ?_
                refine ev_ret (is_ireturn rfl rfl (by first | rfl | exact pu_b_nar | decide)) ?_
                refine ⟨rfl, by simp [an_copy, h_4, es0, h_11, eo0, h_26, h_38, e62, h_80, h_96], rfl, hx, ?_, sc_rf⟩
                rw [show st_copy K (nI s0) i (nI o0) j n = K by simp [st_copy, h_4, es0, h_11, eo0, h_26, h_38, e62, h_80, h_96]]; exact hz
          · have e62 : ¬ K 4 s0 = K 4 o0 := fun q => h_62 ((pu_sub1 (hz.2.2.2.2.2.1 s0) (hz.2.2.2.2.2.1 o0)).mpr q)
            refine ev_s (is_bipush ((-13)) rfl rfl) ?_
            refine ev_ret (is_ireturn rfl rfl (by first | rfl | exact pu_b_nar | decide)) ?_
            refine ⟨rfl, by simp [an_copy, h_4, es0, h_11, eo0, h_26, h_38, e62], rfl, hx, ?_, sc_rf⟩
            rw [show st_copy K (nI s0) i (nI o0) j n = K by simp [st_copy, h_4, es0, h_11, eo0, h_26, h_38, e62]]; exact hz
        · refine ev_s (is_bipush ((-11)) rfl rfl) ?_
          refine ev_ret (is_ireturn rfl rfl (by first | rfl | exact pu_b_nar | decide)) ?_
          refine ⟨rfl, by simp [an_copy, h_4, es0, h_11, eo0, h_26, h_38], rfl, hx, ?_, sc_rf⟩
          rw [show st_copy K (nI s0) i (nI o0) j n = K by simp [st_copy, h_4, es0, h_11, eo0, h_26, h_38]]; exact hz
    · refine ev_s (is_bipush ((-2)) rfl rfl) ?_
      refine ev_ret (is_ireturn rfl rfl (by first | rfl | exact pu_b_nar | decide)) ?_
      refine ⟨rfl, by simp [an_copy, h_4, es0, h_11], rfl, hx, ?_, sc_rf⟩
      rw [show st_copy K (nI s0) i o j n = K by simp [st_copy, h_4, es0, h_11]]; exact hz
