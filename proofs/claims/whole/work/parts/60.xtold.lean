/-! ===== PURE, the class: told days: judge, whose, laws ===== -/

theorem x_refS {d : Nat} {sh : im_Sh} {mi : im_MI} {mr : im_MR} (hC : pu_C sh mr) {H K : ho_T} {G : ho_G} (hx : xa_ok H G mi mr) (hz : xh_ok H K mi) (s : Int32) : EvM (d + 2) 125 [.ref 29, .int s] sh mi mr (ev_R sh (.int (rf_s K s)) mi mr) := by
  show Ev (d + 2) 125 0 [.ref 29, .int s] [] sh mi mr _
  have hn6 := xa_n hx
  have hs : sc_ xQ mi mi := sc_rf
  refine ev_s (is_iload_n rfl rfl) ?_
  refine ev_c1 (is_call0 1 [_] [] rfl rfl rfl rfl rfl (Nat.le_of_ble_eq_true rfl) rfl rfl rfl) rfl rfl (x_noSheet _) ?_
  refine ev_ifB_eq rfl (fun h_4 => ?_) (fun h_4 => ?_)
  · have h_4 := Decidable.of_not_not h_4
    obtain ⟨s0, rfl, ls0, us0, es0⟩ := ho_rng_n h_4 (by decide) (by decide)
    have hbs := hz.2.2.2.2.2.2.1 s0
    refine ev_s (is_aload_n rfl rfl) ?_
    refine ev_s (is_getR rfl (pu_s hC 29 rfl rfl) rfl rfl (pu_r hC 29 12 rfl rfl)) ?_
    refine ev_s (is_iload_n rfl rfl) ?_
    refine ev_s (is_aaload (k := 4) (s0) rfl (pu_s hC 39 rfl rfl) rfl rfl rfl (by omega) (pu_sheet hC (by omega)).1) ?_
    refine ev_c1 (is_callR 1 [] [] rfl rfl rfl rfl rfl (Nat.le_of_ble_eq_true rfl) rfl rfl rfl (pu_sheet hC (j := s0) (by omega)).2.1) rfl rfl (x_missing hC hz (s := s0) (by omega)) ?_
    refine ev_ifB_eq rfl (fun h_19 => ?_) (fun h_19 => ?_)
    · refine ev_s (is_aload_n rfl rfl) ?_
      refine ev_s (is_getR rfl (pu_s hC 29 rfl rfl) rfl rfl (pu_r hC 29 12 rfl rfl)) ?_
      refine ev_s (is_iload_n rfl rfl) ?_
      refine ev_s (is_aaload (k := 4) (s0) rfl (pu_s hC 39 rfl rfl) rfl rfl rfl (by omega) (pu_sheet hC (by omega)).1) ?_
      refine ev_s (is_getI' rfl (pu_sheet hC (j := s0) (by omega)).2.1 rfl rfl ((hz.1 s0 (by omega)).2.1)) ?_
      refine ev_s (is_bipush (nI 12) rfl rfl) ?_
      first
        | refine ev_icmpN_le rfl (by omega) (by omega) (fun h_36 => ?_) (fun h_36 => ?_)
        | refine ev_icmp_le rfl (fun h_36 => ?_) (fun h_36 => ?_)
      · have e36 : ¬ 12 < K 5 s0 := by omega
        refine ev_s (is_iconst (nI 0) rfl rfl) ?_
        refine ev_ret (is_ireturn rfl rfl (by first | rfl | exact pu_b_nar | decide)) ?_
        refine ⟨?_, rfl, rfl, rfl⟩
        simp [rf_s, h_4, es0, h_19, e36]
      · have e36 : 12 < K 5 s0 := by omega
        refine ev_s (is_bipush ((-2)) rfl rfl) ?_
        refine ev_s (is_goto rfl) ?_
        refine ev_ret (is_ireturn rfl rfl (by first | rfl | exact pu_b_nar | decide)) ?_
        refine ⟨?_, rfl, rfl, rfl⟩
        simp [rf_s, h_4, es0, h_19, e36]
    · refine ev_s (is_bipush ((-11)) rfl rfl) ?_
      refine ev_ret (is_ireturn rfl rfl (by first | rfl | exact pu_b_nar | decide)) ?_
      refine ⟨?_, rfl, rfl, rfl⟩
      simp [rf_s, h_4, es0, h_19]
  · refine ev_s (is_bipush ((-2)) rfl rfl) ?_
    refine ev_ret (is_ireturn rfl rfl (by first | rfl | exact pu_b_nar | decide)) ?_
    refine ⟨?_, rfl, rfl, rfl⟩
    simp [rf_s, h_4]

theorem x_refD {d : Nat} {sh : im_Sh} {mi : im_MI} {mr : im_MR} (hC : pu_C sh mr) {H K : ho_T} {G : ho_G} (hx : xa_ok H G mi mr) (hz : xh_ok H K mi) (s m : Int32) : EvM (d + 3) 126 [.ref 29, .int s, .int m] sh mi mr (ev_R sh (.int (rf_d H K s m)) mi mr) := by
  show Ev (d + 3) 126 0 [.ref 29, .int s, .int m, im_bad] [] sh mi mr _
  have hn6 := xa_n hx
  have hs : sc_ xQ mi mi := sc_rf
  refine ev_s (is_aload_n rfl rfl) ?_
  refine ev_s (is_iload_n rfl rfl) ?_
  refine ev_c1 (is_callR 2 [_] [] rfl rfl rfl rfl rfl (Nat.le_of_ble_eq_true rfl) rfl rfl rfl (pu_s hC 29 rfl rfl)) rfl rfl (x_refS hC hx hz _) ?_
  refine ev_s (st_istore_n_3 rfl rfl) ?_
  refine ev_s (is_iload_n rfl rfl) ?_
  refine ev_if_eq rfl (fun h_7 => ?_) (fun h_7 => ?_)
  · have e7 : rf_s K s = nI 0 := h_7
    refine ev_s (is_aload_n rfl rfl) ?_
    refine ev_s (is_iload_n rfl rfl) ?_
    refine ev_c1 (is_callR 2 [_] [] rfl rfl rfl rfl rfl (Nat.le_of_ble_eq_true rfl) rfl rfl rfl (pu_s hC 29 rfl rfl)) rfl rfl (x_noMan' hC hx _) ?_
    refine ev_ifB_eq rfl (fun h_17 => ?_) (fun h_17 => ?_)
    · have h_17 := Decidable.of_not_not h_17
      refine ev_s (is_iconst (nI 0) rfl rfl) ?_
      refine ev_ret (is_ireturn rfl rfl (by first | rfl | exact pu_b_nar | decide)) ?_
      refine ⟨?_, rfl, rfl, rfl⟩
      simp [rf_d, e7, h_17]
    · refine ev_s (is_bipush ((-5)) rfl rfl) ?_
      refine ev_s (is_goto rfl) ?_
      refine ev_ret (is_ireturn rfl rfl (by first | rfl | exact pu_b_nar | decide)) ?_
      refine ⟨?_, rfl, rfl, rfl⟩
      simp [rf_d, e7, h_17]
  · have e7 : ¬ rf_s K s = nI 0 := h_7
    refine ev_s (is_iload_n rfl rfl) ?_
    refine ev_ret (is_ireturn rfl rfl (by first | rfl | exact pu_b_nar | decide)) ?_
    refine ⟨?_, rfl, rfl, rfl⟩
    simp [rf_d, e7]

theorem ho_agr_md {H K : ho_T} {G : ho_G} {s m : Nat} (h12 : K 5 s ≤ 12) : ho_agr H K G s m = decide (fo_ K s (fun h => md_compO G (H 0 3) (H 0 1) (ho_row H m) (ho_mcell H m) (ho_mrow H m) h) = none) := by
  unfold ho_agr ho_fo
  rw [fo_eq h12 (fun q hq => ho_comp_md H G m q hq)]

theorem x_judge {d : Nat} {sh : im_Sh} {mi : im_MI} {mr : im_MR} (hC : pu_C sh mr) {H K : ho_T} {G : ho_G} (hx : xa_ok H G mi mr) (hz : xh_ok H K mi) (s m : Int32) : EvM (d + 5) 88 [.ref 29, .int s, .int m] sh mi mr (fun r sh2 m2 r2 => sh2 = sh ∧ (r = .int (an_judge H K G s m) ∧ r2 = mr ∧ sc_ xQ mi m2)) := by
  show Ev (d + 5) 88 0 [.ref 29, .int s, .int m, im_bad] [] sh mi mr _
  have hn6 := xa_n hx
  have hs : sc_ xQ mi mi := sc_rf
  refine ev_s (is_aload_n rfl rfl) ?_
  refine ev_s (is_iload_n rfl rfl) ?_
  refine ev_s (is_iload_n rfl rfl) ?_
  refine ev_c1 (is_callR 3 [_, _] [] rfl rfl rfl rfl rfl (Nat.le_of_ble_eq_true rfl) rfl rfl rfl (pu_s hC 29 rfl rfl)) rfl rfl (x_refD hC hx hz _ _) ?_
  refine ev_s (st_istore_n_3 rfl rfl) ?_
  refine ev_s (is_iload_n rfl rfl) ?_
  refine ev_if_eq rfl (fun h_8 => ?_) (fun h_8 => ?_)
  · have e0 : rf_d H K s m = nI 0 := h_8
    obtain ⟨hrs, hrm⟩ := rf_d_0 e0
    obtain ⟨s0, rfl, hs4, hk4, hs12, es0⟩ := rf_s_0 hrs
    obtain ⟨m0, rfl, hm0, em0⟩ := ho_isM_n hn6 hrm
    refine ev_s (is_aload_n rfl rfl) ?_
    refine ev_s (is_getR rfl (pu_s hC 29 rfl rfl) rfl rfl (pu_r hC 29 3 rfl rfl)) ?_
    refine ev_s (is_aload_n rfl rfl) ?_
    refine ev_s (is_getR rfl (pu_s hC 29 rfl rfl) rfl rfl (pu_r hC 29 12 rfl rfl)) ?_
    refine ev_s (is_iload_n rfl rfl) ?_
    refine ev_s (is_aaload (k := 4) (s0) rfl (pu_s hC 39 rfl rfl) rfl rfl rfl (by omega) (pu_sheet hC (by omega)).1) ?_
    refine ev_s (is_aload_n rfl rfl) ?_
    refine ev_s (is_getR rfl (pu_s hC 29 rfl rfl) rfl rfl (pu_r hC 29 0 rfl rfl)) ?_
    refine ev_s (is_iload_n rfl rfl) ?_
    refine ev_s (is_aaload (k := 1) (m0) rfl (pu_s hC 30 rfl rfl) rfl rfl rfl (by omega) (pu_rows hC (by omega)).1) ?_
    refine ev_s (is_aload_n rfl rfl) ?_
    refine ev_s (is_iload_n rfl rfl) ?_
    refine ev_c1 (is_callR 2 [_] [_, _, _] rfl rfl rfl rfl rfl (Nat.le_of_ble_eq_true rfl) rfl rfl rfl (pu_s hC 29 rfl rfl)) rfl rfl (x_mate hC hx (by omega)) ?_
    refine ev_q1 (is_call0 4 [_, _, _, _] [] rfl rfl rfl rfl rfl (Nat.le_of_ble_eq_true rfl) rfl rfl rfl) rfl (by cases ho_mcell H m0 <;> rfl) (x_firstO hC (xa_r hx) (xm_Mi (m := m0) (by omega)) (xa_m hx hm0) (s := s0) hs4 (hz.1 s0 hs4).2.1 hs12 (hz.1 s0 hs4).2.2 (fun j => hz.2.2.2.2.2.2.2.1 s0 j hs4) (o := ho_mcell H m0) (xa_mate hx m0)) (fun r_36 mi mr hq_36 => ?_)
    obtain ⟨rfl, hmr, hsc⟩ := hq_36
    have hmr := hmr.symm
    subst hmr
    have hsc := hsc.mono (xS_xQ (Or.inl rfl))
    refine ev_ret (is_ireturn rfl rfl (by first | rfl | exact pu_b_nar | decide)) ?_
    first
      | (rw [show an_judge H K G s m = rf_d H K s m from if_neg h_8]
         exact ⟨rfl, rfl, rfl, sc_rf⟩)
      | (have efo : ho_fo H K G s0 m0 = fo_ K s0 (fun h => md_compO G (H 0 3) (H 0 1) (ho_row H m0) (ho_mcell H m0) (ho_mrow H m0) h) := fo_eq hs12 (fun q hq => ho_comp_md H G m0 q hq)
         have ea : an_judge H K G (nI s0) (nI m0) = pu_o (ho_fo H K G s0 m0) := by simp only [an_judge, if_pos e0, es0, em0]
         rw [ea, efo]
         exact ⟨rfl, rfl, rfl, hsc⟩)
  · refine ev_s (is_iload_n rfl rfl) ?_
    refine ev_s (is_goto rfl) ?_
    refine ev_ret (is_ireturn rfl rfl (by first | rfl | exact pu_b_nar | decide)) ?_
    first
      | (rw [show an_judge H K G s m = rf_d H K s m from if_neg h_8]
         exact ⟨rfl, rfl, rfl, sc_rf⟩)
      | (have efo : ho_fo H K G s0 m0 = fo_ K s0 (fun h => md_compO G (H 0 3) (H 0 1) (ho_row H m0) (ho_mcell H m0) (ho_mrow H m0) h) := fo_eq hs12 (fun q hq => ho_comp_md H G m0 q hq)
         have ea : an_judge H K G (nI s0) (nI m0) = pu_o (ho_fo H K G s0 m0) := by simp only [an_judge, if_pos e0, es0, em0]
         rw [ea, efo]
         exact ⟨rfl, rfl, rfl, hsc⟩)

theorem x_whose {d : Nat} {sh : im_Sh} {mi : im_MI} {mr : im_MR} (hC : pu_C sh mr) {H K : ho_T} {G : ho_G} (hx : xa_ok H G mi mr) (hz : xh_ok H K mi) (s : Int32) : EvM (d + 5) 92 [.ref 29, .int s] sh mi mr (fun r sh2 m2 r2 => sh2 = sh ∧ (r = .int (an_whose H K G s) ∧ r2 = mr ∧ sc_ xQ mi m2)) := by
  show Ev (d + 5) 92 0 [.ref 29, .int s, im_bad, im_bad, im_bad] [] sh mi mr _
  have hn6 := xa_n hx
  have hs : sc_ xQ mi mi := sc_rf
  refine ev_s (is_aload_n rfl rfl) ?_
  refine ev_s (is_iload_n rfl rfl) ?_
  refine ev_c1 (is_callR 2 [_] [] rfl rfl rfl rfl rfl (Nat.le_of_ble_eq_true rfl) rfl rfl rfl (pu_s hC 29 rfl rfl)) rfl rfl (x_refS hC hx hz _) ?_
  refine ev_s (st_istore_n_2 rfl rfl) ?_
  refine ev_s (is_iload_n rfl rfl) ?_
  refine ev_if_eq rfl (fun h_7 => ?_) (fun h_7 => ?_)
  · have e0 : rf_s K s = nI 0 := h_7
    obtain ⟨s0, rfl, hs4, hk4, hs12, es0⟩ := rf_s_0 e0
    rw [show an_whose H K G (nI s0) = nI (lo_bits (fun m => ho_agr H K G s0 m) (H 0 0)) by simp only [an_whose, if_pos e0, es0]]
    have loop : ∀ (j i : Nat) (v2 : Int32) (ma : im_MI), i + j = H 0 0 → sc_ xQ mi ma → Ev (d + 5) 92 17 [.ref 29, .int (nI s0), .int v2, .int (nI (lo_bits (fun m => ho_agr H K G s0 m) i)), .int (nI i)] [] sh ma mr (fun r sh2 m2 r2 => sh2 = sh ∧ (r = .int (nI (lo_bits (fun m => ho_agr H K G s0 m) (H 0 0))) ∧ r2 = mr ∧ sc_ xQ mi m2)) := by
      intro j
      induction j with
      | zero =>
        intro i v2 ma hi hs
        have hz := xh_sc hx hz hs
        have hx := xa_sc hx hs
        refine ev_s (is_iload rfl rfl) ?_
        refine ev_s (is_aload_n rfl rfl) ?_
        refine ev_s (is_getI' rfl (pu_s hC 29 rfl rfl) rfl rfl hx.1) ?_
        refine ev_s (is_icmp_ge_t rfl (nI_le (by omega) (by omega))) ?_
        refine ev_s (is_iload_n rfl rfl) ?_
        refine ev_ret (is_ireturn rfl rfl (by first | rfl | exact pu_b_nar | decide)) ?_
        exact ⟨rfl, by rw [show i = H 0 0 by omega], rfl, hs⟩
      | succ j ih =>
        intro i v2 ma hi hs
        have hz := xh_sc hx hz hs
        have hx := xa_sc hx hs
        refine ev_s (is_iload rfl rfl) ?_
        refine ev_s (is_aload_n rfl rfl) ?_
        refine ev_s (is_getI' rfl (pu_s hC 29 rfl rfl) rfl rfl hx.1) ?_
        refine ev_s (is_icmp_ge_f rfl (nI_ge (by omega) (by omega))) ?_
        refine ev_s (is_aload_n rfl rfl) ?_
        refine ev_s (is_getR rfl (pu_s hC 29 rfl rfl) rfl rfl (pu_r hC 29 3 rfl rfl)) ?_
        refine ev_s (is_aload_n rfl rfl) ?_
        refine ev_s (is_getR rfl (pu_s hC 29 rfl rfl) rfl rfl (pu_r hC 29 12 rfl rfl)) ?_
        refine ev_s (is_iload_n rfl rfl) ?_
        refine ev_s (is_aaload (k := 4) (s0) rfl (pu_s hC 39 rfl rfl) rfl rfl rfl (by omega) (pu_sheet hC (by omega)).1) ?_
        refine ev_s (is_aload_n rfl rfl) ?_
        refine ev_s (is_getR rfl (pu_s hC 29 rfl rfl) rfl rfl (pu_r hC 29 0 rfl rfl)) ?_
        refine ev_s (is_iload rfl rfl) ?_
        refine ev_s (is_aaload (k := 1) (i) rfl (pu_s hC 30 rfl rfl) rfl rfl rfl (by omega) (pu_rows hC (by omega)).1) ?_
        refine ev_s (is_aload_n rfl rfl) ?_
        refine ev_s (is_iload rfl rfl) ?_
        refine ev_c1 (is_callR 2 [_] [_, _, _] rfl rfl rfl rfl rfl (Nat.le_of_ble_eq_true rfl) rfl rfl rfl (pu_s hC 29 rfl rfl)) rfl rfl (x_mate hC hx (by omega)) ?_
        refine ev_q1 (is_call0 4 [_, _, _, _] [] rfl rfl rfl rfl rfl (Nat.le_of_ble_eq_true rfl) rfl rfl rfl) rfl (by cases ho_mcell H i <;> rfl) (x_firstO hC (xa_r hx) (xm_Mi (m := i) (by omega)) (xa_m hx (by omega)) (s := s0) hs4 (hz.1 s0 hs4).2.1 hs12 (hz.1 s0 hs4).2.2 (fun j => hz.2.2.2.2.2.2.2.1 s0 j hs4) (o := ho_mcell H i) (xa_mate hx i)) (fun r_49 mi mr hq_49 => ?_)
        obtain ⟨rfl, hmr, hsc⟩ := hq_49
        have hmr := hmr.symm
        subst hmr
        have hsc := hsc.mono (xS_xQ (Or.inl rfl))
        have hs := hs.trans hsc
        have hz := xh_sc hx hz hsc
        have hx := xa_sc hx hsc
        refine ev_s (is_iconst ((-1)) rfl rfl) ?_
        refine ev_icmp_ne rfl (fun h_53 => ?_) (fun h_53 => ?_)
        · have hp : ho_agr H K G s0 i = false := by rw [ho_agr_md hs12]; exact decide_eq_false (fun q => h_53 ((pu_o_none _ (fo_lt (f := (fun h => md_compO G (H 0 3) (H 0 1) (ho_row H i) (ho_mcell H i) (ho_mrow H i) h)) hs12)).mpr q))
          refine ev_s (st_iinc_4 _ rfl rfl (nI_inc _)) ?_
          refine ev_s (is_goto rfl) ?_
          have := ih (i + 1) v2 _ (by omega) hs
          rw [lo_bits_s] at this
          first
            | (rw [if_pos hp] at this; exact this)
            | (rw [if_neg (by rw [hp]; decide)] at this; exact this)
        · have hp : ho_agr H K G s0 i = true := by rw [ho_agr_md hs12]; exact decide_eq_true ((pu_o_none _ (fo_lt (f := (fun h => md_compO G (H 0 3) (H 0 1) (ho_row H i) (ho_mcell H i) (ho_mrow H i) h)) hs12)).mp (Decidable.of_not_not h_53))
          refine ev_s (is_iload_n rfl rfl) ?_
          refine ev_s (is_iconst (nI 1) rfl rfl) ?_
          refine ev_s (is_iload rfl rfl) ?_
          refine ev_s (is_ishl _ rfl (pu_shl1 (by omega))) ?_
          have hbl := lo_bits_lt (fun m => ho_agr H K G s0 m) i
          refine ev_s (is_ior _ rfl (pu_or hbl)) ?_
          refine ev_s (st_istore_n_3 rfl rfl) ?_
          refine ev_s (st_iinc_4 _ rfl rfl (nI_inc _)) ?_
          refine ev_s (is_goto rfl) ?_
          have := ih (i + 1) v2 _ (by omega) hs
          rw [lo_bits_s] at this
          first
            | (rw [if_pos hp] at this; exact this)
            | (rw [if_neg (by rw [hp]; decide)] at this; exact this)
    refine ev_s (is_iconst (nI 0) rfl rfl) ?_
    refine ev_s (st_istore_n_3 rfl rfl) ?_
    refine ev_s (is_iconst (nI 0) rfl rfl) ?_
    refine ev_s (st_istore_4 rfl rfl) ?_
    exact loop (H 0 0) 0 _ mi (by omega) sc_rf
  · refine ev_s (is_iload_n rfl rfl) ?_
    refine ev_ret (is_ireturn rfl rfl (by first | rfl | exact pu_b_nar | decide)) ?_
    rw [show an_whose H K G s = rf_s K s from if_neg h_7]
    exact ⟨rfl, rfl, rfl, sc_rf⟩

theorem xa_mr {H : ho_T} {G : ho_G} {mi : im_MI} {mr mr2 : im_MR} (h : xa_ok H G mi mr) (e : mr2 104 0 = mr 104 0) : xa_ok H G mi mr2 := by
  obtain ⟨h1, h2, h3, h4, h5, h6⟩ := h
  exact ⟨h1, h2, h3, h4, e.trans h5, h6⟩
theorem ho_agr_law {H K : ho_T} {G : ho_G} {s m t : Nat} (h12 : K 5 s ≤ 12) : ho_agr (ho_set H 0 3 t) K G s m = decide (fo_ K s (fun h => md_compO G t (H 0 1) (ho_row H m) (ho_mcell H m) (ho_mrow H m) h) = none) := by
  unfold ho_agr ho_fo
  rw [fo_eq h12 (fun q hq => ho_comp_law H G t m q hq)]

theorem x_laws {d : Nat} {sh : im_Sh} {mi : im_MI} {mr : im_MR} (hC : pu_C sh mr) {H K : ho_T} {G : ho_G} (hx : xa_ok H G mi mr) (hz : xh_ok H K mi) (s m : Int32) : EvM (d + 5) 91 [.ref 29, .int s, .int m] sh mi mr (fun r sh2 m2 r2 => sh2 = sh ∧ (r = .int (an_laws H K G s m) ∧ pu_C sh r2 ∧ xa_ok H G m2 r2 ∧ xh_ok H K m2 ∧ sc_ xAll mi m2)) := by
  show Ev (d + 5) 91 0 [.ref 29, .int s, .int m, im_bad, im_bad, im_bad, im_bad] [] sh mi mr _
  have hn6 := xa_n hx
  have hs : sc_ xQ mi mi := sc_rf
  refine ev_s (is_aload_n rfl rfl) ?_
  refine ev_s (is_iload_n rfl rfl) ?_
  refine ev_s (is_iload_n rfl rfl) ?_
  refine ev_c1 (is_callR 3 [_, _] [] rfl rfl rfl rfl rfl (Nat.le_of_ble_eq_true rfl) rfl rfl rfl (pu_s hC 29 rfl rfl)) rfl rfl (x_refD hC hx hz _ _) ?_
  refine ev_s (st_istore_n_3 rfl rfl) ?_
  refine ev_s (is_iload_n rfl rfl) ?_
  refine ev_if_eq rfl (fun h_8 => ?_) (fun h_8 => ?_)
  · have e0 : rf_d H K s m = nI 0 := h_8
    obtain ⟨hrs, hrm⟩ := rf_d_0 e0
    obtain ⟨s0, rfl, hs4, hk4, hs12, es0⟩ := rf_s_0 hrs
    obtain ⟨m0, rfl, hm0, em0⟩ := ho_isM_n hn6 hrm
    have ea : an_laws H K G (nI s0) (nI m0) = nI (lo_bits (fun t => ho_agr (ho_set H 0 3 t) K G s0 m0) (H 0 2)) := by simp only [an_laws, if_pos e0, es0, em0]
    rw [ea]
    have loop : ∀ (j i : Nat) (ma : im_MI) (mra : im_MR), i + j = H 0 2 → pu_C sh mra → xa_ok H G ma mra → xh_ok H K ma → sc_ xQ mi ma → ma 107 1 = nI (H 0 1) → Ev (d + 5) 91 40 [.ref 29, .int (nI s0), .int (nI m0), .int (rf_d H K (nI s0) (nI m0)), xoc (ho_mcell H m0), .int (nI (lo_bits (fun t => ho_agr (ho_set H 0 3 t) K G s0 m0) i)), .int (nI i)] [] sh ma mra (fun r sh2 m2 r2 => sh2 = sh ∧ (r = .int (nI (lo_bits (fun t => ho_agr (ho_set H 0 3 t) K G s0 m0) (H 0 2))) ∧ pu_C sh r2 ∧ xa_ok H G m2 r2 ∧ xh_ok H K m2 ∧ sc_ xAll mi m2)) := by
      intro j
      induction j with
      | zero =>
        intro i ma mra hi hC hx hz hs h107
        have ht6 := (xa_bd hx).2.2.1
        refine ev_s (is_iload rfl rfl) ?_
        refine ev_s (is_aload_n rfl rfl) ?_
        refine ev_s (is_getI' rfl (pu_s hC 29 rfl rfl) rfl rfl hx.2.1) ?_
        refine ev_s (is_icmp_ge_t rfl (nI_le (by omega) (by omega))) ?_
        refine ev_s (is_iload rfl rfl) ?_
        refine ev_ret (is_ireturn rfl rfl (by first | rfl | exact pu_b_nar | decide)) ?_
        exact ⟨rfl, by rw [show i = H 0 2 by omega], hC, hx, hz, hs.mono xQ_all⟩
      | succ j ih =>
        intro i ma mra hi hC hx hz hs h107
        have ht6 := (xa_bd hx).2.2.1
        refine ev_s (is_iload rfl rfl) ?_
        refine ev_s (is_aload_n rfl rfl) ?_
        refine ev_s (is_getI' rfl (pu_s hC 29 rfl rfl) rfl rfl hx.2.1) ?_
        refine ev_s (is_icmp_ge_f rfl (nI_ge (by omega) (by omega))) ?_
        refine ev_s (is_aload_n rfl rfl) ?_
        refine ev_s (is_getR rfl (pu_s hC 29 rfl rfl) rfl rfl (pu_r hC 29 4 rfl rfl)) ?_
        refine ev_s (is_aload_n rfl rfl) ?_
        refine ev_s (is_getR rfl (pu_s hC 29 rfl rfl) rfl rfl (pu_r hC 29 5 rfl rfl)) ?_
        refine ev_s (is_iload rfl rfl) ?_
        refine ev_s (is_aaload (k := 6) (i) rfl (pu_s hC 32 rfl rfl) rfl rfl rfl (by omega) (pu_rows hC (by omega)).2.2.1) ?_
        have hra : ∀ k j, im_mut k j = false → im_u mra 107 0 (some (78 + 3 * i)) k j = mra k j := fun k j hkj => by
          unfold im_u; split
          · rename_i hq; rw [hq.1, hq.2] at hkj; exact absurd hkj (by decide)
          · rfl
        refine ev_s (is_putR rfl (pu_s hC 107 rfl rfl) rfl rfl rfl (by rw [hC.2.1]; omega)) ?_
        have hC := pu_C_u hC (k := 107) (j := 0) (v := some (78 + 3 * i)) rfl
        have hx := xa_mr hx (mr2 := im_u mra 107 0 (some (78 + 3 * i))) (im_u_k _ _ _ _ (by decide))
        refine ev_s (is_aload_n rfl rfl) ?_
        refine ev_s (is_getR rfl (pu_s hC 29 rfl rfl) rfl rfl (pu_r hC 29 4 rfl rfl)) ?_
        refine ev_s (is_aload_n rfl rfl) ?_
        refine ev_s (is_getR rfl (pu_s hC 29 rfl rfl) rfl rfl (pu_r hC 29 12 rfl rfl)) ?_
        refine ev_s (is_iload_n rfl rfl) ?_
        refine ev_s (is_aaload (k := 4) (s0) rfl (pu_s hC 39 rfl rfl) rfl rfl rfl (by omega) (pu_sheet hC (by omega)).1) ?_
        refine ev_s (is_aload_n rfl rfl) ?_
        refine ev_s (is_getR rfl (pu_s hC 29 rfl rfl) rfl rfl (pu_r hC 29 0 rfl rfl)) ?_
        refine ev_s (is_iload_n rfl rfl) ?_
        refine ev_s (is_aaload (k := 1) (m0) rfl (pu_s hC 30 rfl rfl) rfl rfl rfl (by omega) (pu_rows hC (by omega)).1) ?_
        refine ev_s (is_aloadO rfl rfl) ?_
        refine ev_q1 (is_call0 4 [_, _, _, _] [] rfl rfl rfl rfl rfl (Nat.le_of_ble_eq_true rfl) rfl rfl rfl) rfl (by cases ho_mcell H m0 <;> rfl) (x_firstO hC (show xr_ok ma (im_u mra 107 0 (some (78 + 3 * i))) 107 G i (H 0 1) from ⟨Or.inr rfl, im_u_s _ _ _ _, by omega, xa_t hx (by omega), h107, xa_w hx⟩) (xm_Mi (m := m0) (by omega)) (xa_m hx hm0) (s := s0) hs4 (hz.1 s0 hs4).2.1 hs12 (hz.1 s0 hs4).2.2 (fun j => hz.2.2.2.2.2.2.2.1 s0 j hs4) (o := ho_mcell H m0) (xa_mate hx m0)) (fun r_81 mi mr hq_81 => ?_)
        obtain ⟨rfl, hmr, hsc⟩ := hq_81
        have hmr := hmr.symm
        subst hmr
        have h107 := (congrFun (hsc 107 (xS_f (by decide) (by decide))) 1).trans h107
        have hsc := hsc.mono (xS_xQ (Or.inr rfl))
        have hs := hs.trans hsc
        have hz := xh_sc hx hz hsc
        have hx := xa_sc hx hsc
        refine ev_s (is_iconst ((-1)) rfl rfl) ?_
        refine ev_icmp_ne rfl (fun h_85 => ?_) (fun h_85 => ?_)
        · have hp : ho_agr (ho_set H 0 3 i) K G s0 m0 = false := by rw [ho_agr_law hs12]; exact decide_eq_false (fun q => h_85 ((pu_o_none _ (fo_lt (f := (fun h => md_compO G i (H 0 1) (ho_row H m0) (ho_mcell H m0) (ho_mrow H m0) h)) hs12)).mpr q))
          refine ev_s (st_iinc_6 _ rfl rfl (nI_inc _)) ?_
          refine ev_s (is_goto rfl) ?_
          have := ih (i + 1) _ _ (by omega) hC hx hz hs h107
          rw [lo_bits_s] at this
          first
            | (rw [if_pos hp] at this; exact this)
            | (rw [if_neg (by rw [hp]; decide)] at this; exact this)
        · have hp : ho_agr (ho_set H 0 3 i) K G s0 m0 = true := by rw [ho_agr_law hs12]; exact decide_eq_true ((pu_o_none _ (fo_lt (f := (fun h => md_compO G i (H 0 1) (ho_row H m0) (ho_mcell H m0) (ho_mrow H m0) h)) hs12)).mp (Decidable.of_not_not h_85))
          refine ev_s (is_iload rfl rfl) ?_
          refine ev_s (is_iconst (nI 1) rfl rfl) ?_
          refine ev_s (is_iload rfl rfl) ?_
          refine ev_s (is_ishl _ rfl (pu_shl1 (by omega))) ?_
          have hbl := lo_bits_lt (fun t => ho_agr (ho_set H 0 3 t) K G s0 m0) i
          refine ev_s (is_ior _ rfl (pu_or hbl)) ?_
          refine ev_s (st_istore_5 rfl (xoc_nL _)) ?_
          refine ev_s (st_iinc_6 _ rfl rfl (nI_inc _)) ?_
          refine ev_s (is_goto rfl) ?_
          have := ih (i + 1) _ _ (by omega) hC hx hz hs h107
          rw [lo_bits_s] at this
          first
            | (rw [if_pos hp] at this; exact this)
            | (rw [if_neg (by rw [hp]; decide)] at this; exact this)
    refine ev_s (is_aload_n rfl rfl) ?_
    refine ev_s (is_iload_n rfl rfl) ?_
    refine ev_c1 (is_callR 2 [_] [] rfl rfl rfl rfl rfl (Nat.le_of_ble_eq_true rfl) rfl rfl rfl (pu_s hC 29 rfl rfl)) rfl rfl (x_mate hC hx (by omega)) ?_
    refine ev_s (st_astoreO_4 rfl rfl) ?_
    refine ev_s (is_aload_n rfl rfl) ?_
    refine ev_s (is_getR rfl (pu_s hC 29 rfl rfl) rfl rfl (pu_r hC 29 4 rfl rfl)) ?_
    refine ev_s (is_aload_n rfl rfl) ?_
    refine ev_s (is_getR rfl (pu_s hC 29 rfl rfl) rfl rfl (pu_r hC 29 3 rfl rfl)) ?_
    refine ev_s (is_getI' rfl (pu_s hC 104 rfl rfl) rfl rfl hx.2.2.2.1) ?_
    refine ev_s (is_putI rfl (pu_s hC 107 rfl rfl) rfl rfl rfl) ?_
    refine ev_s (is_iconst (nI 0) rfl rfl) ?_
    refine ev_s (st_istore_5 rfl (xoc_nL _)) ?_
    refine ev_s (is_iconst (nI 0) rfl rfl) ?_
    refine ev_s (st_istore_6 rfl rfl) ?_
    have hs1 : sc_ xQ mi (im_u mi 107 1 (nI (H 0 1))) := sc_rf.u (xQ_t (by decide))
    exact loop (H 0 2) 0 _ _ (by omega) hC (xa_sc hx hs1) (xh_sc hx hz hs1) hs1 (im_u_s _ _ _ _)
  · refine ev_s (is_iload_n rfl rfl) ?_
    refine ev_ret (is_ireturn rfl rfl (by first | rfl | exact pu_b_nar | decide)) ?_
    rw [show an_laws H K G s m = rf_d H K s m from if_neg h_8]
    exact ⟨rfl, rfl, hC, hx, hz, sc_rf⟩
