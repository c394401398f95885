/-! ===== PURE, the class: cell, copy, taken ===== -/

theorem nI_tn (v : Int32) : nI v.toBitVec.toNat = v := by
  obtain ⟨n, hn, rfl⟩ := nI_sur v
  rw [pk_tn hn]
theorem xh_cell {H K : ho_T} {mi : im_MI} (h : xh_ok H K mi) (hn6 : H 0 0 ≤ 6) {s j : Nat} (hs : s < 4) (hj : j < 40) (v : Int32) : xh_ok H (ho_set K (20 + s) j v.toBitVec.toNat) (im_u mi (97 + 2 * s) j v) := by
  have hb := h.2.2.2.2.2
  have hg := h.1 s hs
  have e : ∀ q, im_u mi (97 + 2 * s) j v (96 + 2 * s) q = mi (96 + 2 * s) q := fun q => im_u_k _ _ _ _ (by omega)
  refine xh_sheet h hn6 hs (hb.1 s) (hb.2.1 s) (sc_rf.u (decide_eq_true (Or.inr (by omega)))) (by rw [e]; exact hg.1) (by rw [e]; exact hg.2.1) (f := fun q => if q = j then v.toBitVec.toNat else K (20 + s) q) (fun q => ?_) (fun q hq => ?_) (fun q => ?_) (fun q => ?_) (fun q i hq => ?_) (fun i q h4 h5 hi => ho_set_i _ _ _ _ (by omega) _)
  · show (if q = j then v.toBitVec.toNat else K (20 + s) q) < _
    split
    · exact v.toBitVec.isLt
    · exact hb.2.2.1 s q hs
  · show _ = nI (if q = j then v.toBitVec.toNat else K (20 + s) q)
    by_cases hqj : q = j
    · rw [if_pos hqj, hqj, im_u_s, nI_tn]
    · rw [if_neg hqj, im_u_j _ _ _ _ hqj]
      exact hg.2.2 q hq
  · rw [ho_set_i _ _ _ _ (by omega)]
    by_cases h1 : q = s
    · rw [if_pos h1, h1]
    · rw [if_neg h1]
  · rw [ho_set_i _ _ _ _ (by omega)]
    by_cases h1 : q = s
    · rw [if_pos h1, h1]
    · rw [if_neg h1]
  · by_cases h1 : q = s
    · subst h1
      rw [if_pos rfl]
      unfold ho_set
      by_cases h2 : i = j
      · rw [if_pos ⟨rfl, h2⟩, if_pos h2]
      · rw [if_neg (by omega), if_neg h2]
    · rw [if_neg h1, ho_set_i _ _ _ _ (by omega)]
theorem ho_inS_n {K : ho_T} {s : Nat} {v : Int32} (hn : K 5 s ≤ 40) (h : ho_inS K s v = true) : ∃ j, v = nI j ∧ j < K 5 s ∧ jn (nI j) = j := by
  obtain ⟨j, e, h1⟩ := pu_man (by omega) (of_decide_eq_true h)
  exact ⟨j, e, h1, jn_n (by omega)⟩
theorem sh_room_n {K : ho_T} {s : Nat} {i n : Int32} (hz : K 5 s ≤ 40) (h : sh_room K s i n = true) : ∃ a b, i = nI a ∧ n = nI b ∧ a + b ≤ K 5 s ∧ jn (nI a) = a ∧ jn (nI b) = b := by
  obtain ⟨h1, h2, h3⟩ := of_decide_eq_true h
  obtain ⟨a, ha, rfl⟩ := nI_of (Int32.not_lt.mpr h1)
  obtain ⟨b, hb, rfl⟩ := nI_of (Int32.not_lt.mpr h2)
  refine ⟨a, b, rfl, rfl, ?_, jn_n ha, jn_n hb⟩
  rcases Nat.lt_or_ge (K 5 s) b with q | q
  · exfalso
    have h4 := Int32.le_iff_toInt_le.mp h3
    have h5 : (nI (K 5 s) - nI b).toInt = (K 5 s : Int) - b := by
      rw [Int32.toInt_sub, nI_toInt (by omega), nI_toInt hb]
      rw [Int.bmod_def]
      omega
    rw [h5, nI_toInt ha] at h4
    omega
  · rw [pk_sub q] at h3
    have := (nI_leI ha (by omega)).mp h3
    omega

theorem x_cell {d : Nat} {sh : im_Sh} {mi : im_MI} {mr : im_MR} (hC : pu_C sh mr) {H K : ho_T} {G : ho_G} (hx : xa_ok H G mi mr) (hz : xh_ok H K mi) (s i v : Int32) : EvM (d + 3) 99 [.ref 29, .int s, .int i, .int v] sh mi mr (fun r sh2 m2 r2 => sh2 = sh ∧ (r = .int (an_cell K s i) ∧ r2 = mr ∧ xa_ok (H) G m2 mr ∧ xh_ok (H) (st_cell K s i v) m2 ∧ sc_ xAll mi m2)) := by
  show Ev (d + 3) 99 0 [.ref 29, .int s, .int i, .int v] [] sh mi mr _
  have hn6 := xa_n hx
  have hs : sc_ xQ mi mi := sc_rf
  refine ev_s (is_iload_n rfl rfl) ?_
  refine ev_c1 (is_call0 1 [_] [] rfl rfl rfl rfl rfl (Nat.le_of_ble_eq_true rfl) rfl rfl rfl) rfl rfl (x_noSheet _) ?_
  refine ev_ifB_eq rfl (fun h_4 => ?_) (fun h_4 => ?_)
  · have h_4 := Decidable.of_not_not h_4
    obtain ⟨s0, rfl, ls0, us0, es0⟩ := ho_rng_n h_4 (by decide) (by decide)
    refine ev_s (is_aload_n rfl rfl) ?_
    refine ev_s (is_getR rfl (pu_s hC 29 rfl rfl) rfl rfl (pu_r hC 29 12 rfl rfl)) ?_
    refine ev_s (is_iload_n rfl rfl) ?_
    refine ev_s (is_aaload (k := 4) (s0) rfl (pu_s hC 39 rfl rfl) rfl rfl rfl (by omega) (pu_sheet hC (by omega)).1) ?_
    refine ev_c1 (is_callR 1 [] [] rfl rfl rfl rfl rfl (Nat.le_of_ble_eq_true rfl) rfl rfl rfl (pu_sheet hC (j := s0) (by omega)).2.1) rfl rfl (x_missing hC hz (s := s0) (by omega)) ?_
    refine ev_ifB_eq rfl (fun h_19 => ?_) (fun h_19 => ?_)
    · refine ev_s (is_aload_n rfl rfl) ?_
      refine ev_s (is_getR rfl (pu_s hC 29 rfl rfl) rfl rfl (pu_r hC 29 12 rfl rfl)) ?_
      refine ev_s (is_iload_n rfl rfl) ?_
      refine ev_s (is_aaload (k := 4) (s0) rfl (pu_s hC 39 rfl rfl) rfl rfl rfl (by omega) (pu_sheet hC (by omega)).1) ?_
      refine ev_s (is_iload_n rfl rfl) ?_
      refine ev_c1 (is_callR 2 [_] [] rfl rfl rfl rfl rfl (Nat.le_of_ble_eq_true rfl) rfl rfl rfl (pu_sheet hC (j := s0) (by omega)).2.1) rfl rfl (x_hasPlace hC hz (s := s0) (by omega) _) ?_
      refine ev_ifB_ne rfl (fun h_35 => ?_) (fun h_35 => ?_)
      · obtain ⟨i0, rfl, hi0, ei0⟩ := ho_inS_n (hz.2.2.2.2.2.2.1 s0) h_35
        refine ev_s (is_aload_n rfl rfl) ?_
        refine ev_s (is_getR rfl (pu_s hC 29 rfl rfl) rfl rfl (pu_r hC 29 12 rfl rfl)) ?_
        refine ev_s (is_iload_n rfl rfl) ?_
        refine ev_s (is_aaload (k := 4) (s0) rfl (pu_s hC 39 rfl rfl) rfl rfl rfl (by omega) (pu_sheet hC (by omega)).1) ?_
        refine ev_s (is_iload_n rfl rfl) ?_
        refine ev_s (is_iload_n rfl rfl) ?_
        refine ev_c0 (is_callR 3 [_, _] [] rfl rfl rfl rfl rfl (Nat.le_of_ble_eq_true rfl) rfl rfl rfl (pu_sheet hC (j := s0) (by omega)).2.1) rfl rfl (x_setc hC (s := s0) (n := K 5 s0) (j := i0) (z := K 4 s0) (by omega) (hz.1 s0 (by omega)).2.1 (hz.2.2.2.2.2.2.1 s0) (by omega) (hz.2.2.2.2.2.1 s0) (hz.1 s0 (by omega)).1 _) ?_
        refine ev_s (is_iconst (nI 1) rfl rfl) ?_
        refine ev_ret (is_ireturn rfl rfl (by first | rfl | exact pu_b_nar | decide)) ?_
        have hb5 := hz.2.2.2.2.2.2.1 s0
        have hst : st_cell K (nI s0) (nI i0) v = ho_set K (20 + s0) i0 (sh_v (K 4 s0) v).toBitVec.toNat := by simp [st_cell, h_4, es0, h_19, h_35, ei0]
        have hsc : sc_ (xM2 (96 + 2 * s0)) mi _ := sc_rf.u (k := 97 + 2 * s0) (j := i0) (v := sh_v (K 4 s0) v) (decide_eq_true (Or.inr (by omega)))
        refine ⟨rfl, by simp [an_cell, h_4, es0, h_19, h_35, ei0], rfl, xa_host' hx (hsc.mono (xM2_host (by omega))), ?_, (hsc.mono (xM2_host (by omega))).mono xHost_all⟩
        rw [hst]
        exact xh_cell hz hn6 (by omega) (by omega) _
      · refine ev_s (is_bipush ((-12)) rfl rfl) ?_
        refine ev_ret (is_ireturn rfl rfl (by first | rfl | exact pu_b_nar | decide)) ?_
        refine ⟨rfl, by simp [an_cell, h_4, es0, h_19, h_35], rfl, hx, ?_, sc_rf⟩
        rw [show st_cell K (nI s0) i v = K by simp [st_cell, h_4, es0, h_19, h_35]]; exact hz
    · refine ev_s (is_bipush ((-11)) rfl rfl) ?_
      refine ev_ret (is_ireturn rfl rfl (by first | rfl | exact pu_b_nar | decide)) ?_
      refine ⟨rfl, by simp [an_cell, h_4, es0, h_19], rfl, hx, ?_, sc_rf⟩
      rw [show st_cell K (nI s0) i v = K by simp [st_cell, h_4, es0, h_19]]; exact hz
  · refine ev_s (is_bipush ((-2)) rfl rfl) ?_
    refine ev_ret (is_ireturn rfl rfl (by first | rfl | exact pu_b_nar | decide)) ?_
    refine ⟨rfl, by simp [an_cell, h_4], rfl, hx, ?_, sc_rf⟩
    rw [show st_cell K s i v = K by simp [st_cell, h_4]]; exact hz
