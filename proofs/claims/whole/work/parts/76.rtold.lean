/-! ===== PURE, the reference: told days ===== -/

theorem pu_or0 (s : Nat) : nI s ||| nI 0 = nI s := by rw [nI_or, Nat.or_zero]
theorem ho_set_sm {f : ho_T} {i j v : Nat} (h : f i j = v) : ho_set f i j v = f := by rw [← h, ho_set_same]
theorem kd_12 (H : ho_T) (W u : Nat) : ho_set (ho_set H 1 W u) 2 W (H 2 W) = ho_set H 1 W u := ho_set_sm (ho_set_i _ _ _ _ (by decide) _)
theorem kd_21 (H : ho_T) (W u : Nat) : ho_set (ho_set H 1 W (H 1 W)) 2 W u = ho_set H 2 W u := by rw [ho_set_same]
theorem kd_sw (H : ho_T) (W u v : Nat) : ho_set (ho_set H 2 W u) 1 W v = ho_set (ho_set H 1 W v) 2 W u := by
  funext a b
  unfold ho_set
  by_cases h1 : a = 1 ∧ b = W
  · rw [if_pos h1, if_neg (by omega), if_pos h1]
  · rw [if_neg h1]
    by_cases h2 : a = 2 ∧ b = W
    · rw [if_pos h2, if_pos h2]
    · rw [if_neg h2, if_neg h2, if_neg h1]
theorem kd_0 (H : ho_T) (W v i : Nat) : ho_set (ho_set (ho_set H 1 W i) 1 W v) 2 W (H 2 W) = ho_set H 1 W v := by rw [ho_set_set, kd_12]
theorem kd_1 (H : ho_T) (W v i : Nat) : ho_set (ho_set (ho_set H 2 W i) 1 W (H 1 W)) 2 W v = ho_set H 2 W v := by rw [kd_sw, ho_set_set, kd_21]
theorem dd_in : ∀ w, w < 112 → dd_h (nI w) = decide (w % 100 < 12) := by decide
theorem dd_out {w : Int32} (h : ¬ ho_rng (nI 0) w (nI 111) = true) : dd_h w = false := by
  unfold dd_h
  rw [Bool.or_eq_false_iff]
  constructor
  · cases e : ho_rng (nI 0) w (nI 11) with
    | false => rfl
    | true =>
      obtain ⟨j, rfl, l1, l2, _⟩ := ho_rng_n e (by decide) (by decide)
      exact absurd (ho_rng_t (lo := 0) (hi := 111) (by omega) (by omega) (by decide)) h
  · cases e : ho_rng (nI 100) w (nI 111) with
    | false => rfl
    | true =>
      obtain ⟨j, rfl, l1, l2, _⟩ := ho_rng_n e (by decide) (by decide)
      exact absurd (ho_rng_t (lo := 0) (hi := 111) (by omega) (by omega) (by decide)) h
theorem rz_hs {H K : ho_T} {G : ho_G} {m0 mi : im_MI} (h : rz_ H K G m0 mi) (s : Nat) : K 4 s < 4 ∧ K 5 s ≤ 40 := ⟨(rz_hb h).1 s, (rz_hb h).2.1 s⟩
theorem pu_srt {z : Nat} (h : z < 4) : nI z - 1 = -1 ↔ z = 0 := (pu_sort h).1

theorem r_shW {d : Nat} {sh : im_Sh} {mi : im_MI} {mr : im_MR} (hC : pu_C sh mr) {H K : ho_T} {G : ho_G} {m0 : im_MI} (hz : rz_ H K G m0 mi) (s : Int32) : EvM (d + 1) 187 [.ref 110, .int s] sh mi mr (ev_R sh (.int (rf_s K s)) mi mr) := by
  show Ev (d + 1) 187 0 [.ref 110, .int s] [] sh mi mr _
  refine ev_s (is_iload_n rfl rfl) ?_
  refine ev_s (is_iconst (nI 0) rfl rfl) ?_
  refine ev_s (is_iconst (nI 3) rfl rfl) ?_
  refine ev_c1 (is_call0 3 [_, _, _] [] rfl rfl rfl rfl rfl (Nat.le_of_ble_eq_true rfl) rfl rfl rfl) rfl rfl (r_in' _ _ _) ?_
  refine ev_ifB_ne rfl (fun h_6 => ?_) (fun h_6 => ?_)
  · obtain ⟨s0, rfl, ls0, us0, es0⟩ := ho_rng_n h_6 (by decide) (by decide)
    have hbs := rz_hs hz s0
    refine ev_s (is_aload_n rfl rfl) ?_
    refine ev_s (is_getR rfl (pu_s hC 110 rfl rfl) rfl rfl (pu_r hC 110 14 rfl rfl)) ?_
    refine ev_s (is_iload_n rfl rfl) ?_
    refine ev_s (is_iaload' (s0) rfl (pu_s hC 119 rfl rfl) rfl rfl (by omega) (rz_sort hz (by omega))) ?_
    refine ev_s (is_iconst ((-1)) rfl rfl) ?_
    refine ev_icmp_ne rfl (fun h_19 => ?_) (fun h_19 => ?_)
    · have e19 : ¬ K 4 s0 = 0 := fun q => h_19 ((pu_srt hbs.1).mpr q)
      refine ev_s (is_aload_n rfl rfl) ?_
      refine ev_s (is_getR rfl (pu_s hC 110 rfl rfl) rfl rfl (pu_r hC 110 15 rfl rfl)) ?_
      refine ev_s (is_iload_n rfl rfl) ?_
      refine ev_s (is_iaload' (s0) rfl (pu_s hC 120 rfl rfl) rfl rfl (by omega) (rz_size hz (by omega))) ?_
      refine ev_s (is_bipush (nI 12) rfl rfl) ?_
      refine ev_icmpN_le rfl (by omega) (by omega) (fun h_33 => ?_) (fun h_33 => ?_)
      · have e33 : ¬ 12 < K 5 s0 := by omega
        refine ev_s (is_iconst (nI 0) rfl rfl) ?_
        refine ev_ret (is_ireturn rfl rfl (by first | rfl | exact pu_b_nar | decide)) ?_
        refine ⟨?_, rfl, rfl, rfl⟩
        simp [rf_s, h_6, es0, e19, e33]
      · have e33 : 12 < K 5 s0 := by omega
        refine ev_s (is_bipush ((-2)) rfl rfl) ?_
        refine ev_s (is_goto rfl) ?_
        refine ev_ret (is_ireturn rfl rfl (by first | rfl | exact pu_b_nar | decide)) ?_
        refine ⟨?_, rfl, rfl, rfl⟩
        simp [rf_s, h_6, es0, e19, e33]
    · have e19 : K 4 s0 = 0 := (pu_srt hbs.1).mp (Decidable.of_not_not h_19)
      refine ev_s (is_bipush ((-11)) rfl rfl) ?_
      refine ev_ret (is_ireturn rfl rfl (by first | rfl | exact pu_b_nar | decide)) ?_
      refine ⟨?_, rfl, rfl, rfl⟩
      simp [rf_s, h_6, es0, e19]
  · refine ev_s (is_bipush ((-2)) rfl rfl) ?_
    refine ev_ret (is_ireturn rfl rfl (by first | rfl | exact pu_b_nar | decide)) ?_
    refine ⟨?_, rfl, rfl, rfl⟩
    simp [rf_s, h_6]

theorem r_toW {d : Nat} {sh : im_Sh} {mi : im_MI} {mr : im_MR} (hC : pu_C sh mr) {H K : ho_T} {G : ho_G} {m0 : im_MI} (hz : rz_ H K G m0 mi) (s m : Int32) : EvM (d + 2) 188 [.ref 110, .int s, .int m] sh mi mr (ev_R sh (.int (rf_d H K s m)) mi mr) := by
  show Ev (d + 2) 188 0 [.ref 110, .int s, .int m, im_bad] [] sh mi mr _
  refine ev_s (is_aload_n rfl rfl) ?_
  refine ev_s (is_iload_n rfl rfl) ?_
  refine ev_c1 (is_callR 2 [_] [] rfl rfl rfl rfl rfl (Nat.le_of_ble_eq_true rfl) rfl rfl rfl (pu_s hC 110 rfl rfl)) rfl rfl (r_shW hC hz _) ?_
  refine ev_s (st_istore_n_3 rfl rfl) ?_
  refine ev_s (is_iload_n rfl rfl) ?_
  refine ev_if_eq rfl (fun h_7 => ?_) (fun h_7 => ?_)
  · have e7 : rf_s K s = nI 0 := h_7
    refine ev_s (is_aload_n rfl rfl) ?_
    refine ev_s (is_iload_n rfl rfl) ?_
    refine ev_c1 (is_callR 2 [_] [] rfl rfl rfl rfl rfl (Nat.le_of_ble_eq_true rfl) rfl rfl rfl (pu_s hC 110 rfl rfl)) rfl rfl (r_isMan' hC hz.1 _) ?_
    refine ev_ifB_eq rfl (fun h_19 => ?_) (fun h_19 => ?_)
    · refine ev_s (is_bipush ((-5)) rfl rfl) ?_
      refine ev_ret (is_ireturn rfl rfl (by first | rfl | exact pu_b_nar | decide)) ?_
      refine ⟨?_, rfl, rfl, rfl⟩
      simp [rf_d, e7, h_19]
    · refine ev_s (is_iconst (nI 0) rfl rfl) ?_
      refine ev_s (is_goto rfl) ?_
      refine ev_ret (is_ireturn rfl rfl (by first | rfl | exact pu_b_nar | decide)) ?_
      refine ⟨?_, rfl, rfl, rfl⟩
      simp [rf_d, e7, h_19]
  · have e7 : ¬ rf_s K s = nI 0 := h_7
    refine ev_s (is_iload_n rfl rfl) ?_
    refine ev_s (is_goto rfl) ?_
    refine ev_ret (is_ireturn rfl rfl (by first | rfl | exact pu_b_nar | decide)) ?_
    refine ⟨?_, rfl, rfl, rfl⟩
    simp [rf_d, e7]

theorem r_unlike {d : Nat} {sh : im_Sh} {mi : im_MI} {mr : im_MR} (hC : pu_C sh mr) {H K : ho_T} {G : ho_G} {m0 : im_MI} (hz : rz_ H K G m0 mi) {s m : Nat} (hs4 : s < 4) (h12 : K 5 s ≤ 12) (hm : m < 6) : EvM (d + 4) 189 [.ref 110, .int (nI s), .int (nI m)] sh mi mr (fun r sh2 m2 r2 => sh2 = sh ∧ (r = .int (pu_o (ho_fo H K G s m)) ∧ r2 = mr ∧ sc_ sS mi m2)) := by
  show Ev (d + 4) 189 0 [.ref 110, .int (nI s), .int (nI m), im_bad] [] sh mi mr _
  have loop : ∀ (j i : Nat) (ma : im_MI), i + j = K 5 s → rz_ H K G m0 ma → sc_ sS mi ma → Ev (d + 4) 189 2 [.ref 110, .int (nI s), .int (nI m), .int (nI i)] [] sh ma mr (fun r sh2 m2 r2 => sh2 = sh ∧ (r = .int (pu_o (lo_find (fun h => decide (K (20 + s) h ≠ ho_comp H G m h)) j i)) ∧ r2 = mr ∧ sc_ sS mi m2)) := by
    intro j
    induction j with
    | zero =>
      intro i ma hi hz hs
      refine ev_s (is_iload_n rfl rfl) ?_
      refine ev_s (is_aload_n rfl rfl) ?_
      refine ev_s (is_getR rfl (pu_s hC 110 rfl rfl) rfl rfl (pu_r hC 110 15 rfl rfl)) ?_
      refine ev_s (is_iload_n rfl rfl) ?_
      refine ev_s (is_iaload' (s) rfl (pu_s hC 120 rfl rfl) rfl rfl (by omega) (rz_size hz (by omega))) ?_
      refine ev_s (is_icmp_ge_t rfl (nI_le (by omega) (by omega))) ?_
      refine ev_s (is_iconst ((-1)) rfl rfl) ?_
      refine ev_ret (is_ireturn rfl rfl (by first | rfl | exact pu_b_nar | decide)) ?_
      exact ⟨rfl, rfl, rfl, hs⟩
    | succ j ih =>
      intro i ma hi hz hs
      refine ev_s (is_iload_n rfl rfl) ?_
      refine ev_s (is_aload_n rfl rfl) ?_
      refine ev_s (is_getR rfl (pu_s hC 110 rfl rfl) rfl rfl (pu_r hC 110 15 rfl rfl)) ?_
      refine ev_s (is_iload_n rfl rfl) ?_
      refine ev_s (is_iaload' (s) rfl (pu_s hC 120 rfl rfl) rfl rfl (by omega) (rz_size hz (by omega))) ?_
      refine ev_s (is_icmp_ge_f rfl (nI_ge (by omega) (by omega))) ?_
      refine ev_s (is_aload_n rfl rfl) ?_
      refine ev_s (is_getR rfl (pu_s hC 110 rfl rfl) rfl rfl (pu_r hC 110 16 rfl rfl)) ?_
      refine ev_s (is_bipush (nI 40) rfl rfl) ?_
      refine ev_s (is_iload_n rfl rfl) ?_
      first
        | refine ev_s (is_imul _ rfl (pk_mul _ _)) ?_
        | refine ev_s (is_imul _ rfl rfl) ?_
      refine ev_s (is_iload_n rfl rfl) ?_
      first
        | refine ev_s (is_iadd _ rfl (nI_add _ _)) ?_
        | refine ev_s (is_iadd _ rfl rfl) ?_
      refine ev_s (is_iaload' (40 * s + i) rfl (pu_s hC 121 rfl rfl) rfl rfl (by omega) (rz_cell hz (by omega) (by omega))) ?_
      refine ev_s (is_aload_n rfl rfl) ?_
      refine ev_s (is_iload_n rfl rfl) ?_
      refine ev_s (is_iload_n rfl rfl) ?_
      refine ev_s (is_iconst (nI 0) rfl rfl) ?_
      refine ev_s (is_bipush (nI 11) rfl rfl) ?_
      refine ev_c1 (is_call0 3 [_, _, _] [_, _, _] rfl rfl rfl rfl rfl (Nat.le_of_ble_eq_true rfl) rfl rfl rfl) rfl rfl (r_within _ _ _) ?_
      rw [pu_cl_in (lo := 0) (v := i) (hi := 11) (by omega) (by omega) (by decide)]
      refine ev_q1 (is_callR 3 [_, _] [_] rfl rfl rfl rfl rfl (Nat.le_of_ble_eq_true rfl) rfl rfl rfl (pu_s hC 110 rfl rfl)) rfl rfl (r_companyOf hC hz.1 (m := m) (h := i) (by omega) (by omega)) (fun r_32 mi mr hq_32 => ?_)
      obtain ⟨rfl, hmr, hsc⟩ := hq_32
      have hmr := hmr.symm
      subst hmr
      have hz := rz_sS hz hsc
      have hs := hs.trans hsc
      have hcl := ho_comp_le H G (rz_bd hz) m i
      have hv2 := (rz_hb hz).2.2.1 s i hs4
      refine ev_icmpN_eq32 rfl hv2 (by omega) (fun h_35 => ?_) (fun h_35 => ?_)
      · refine ev_s (st_iinc_3 _ rfl rfl (nI_inc _)) ?_
        refine ev_s (is_goto rfl) ?_
        rw [lo_find_f (by simpa using h_35)]
        exact ih (i + 1) _ (by omega) hz hs
      · refine ev_s (is_iload_n rfl rfl) ?_
        refine ev_ret (is_ireturn rfl rfl (by first | rfl | exact pu_b_nar | decide)) ?_
        exact ⟨rfl, by rw [lo_find_t (by simpa using h_35)]; rfl, rfl, hs⟩
  refine ev_s (is_iconst (nI 0) rfl rfl) ?_
  refine ev_s (st_istore_n_3 rfl rfl) ?_
  exact loop (K 5 s) 0 mi (by omega) hz sc_rf

theorem r_judge {d : Nat} {sh : im_Sh} {mi : im_MI} {mr : im_MR} (hC : pu_C sh mr) {H K : ho_T} {G : ho_G} (hz : rz_ H K G mi mi) (s m : Int32) : EvM (d + 5) 190 [.ref 110, .int s, .int m] sh mi mr (fun r sh2 m2 r2 => sh2 = sh ∧ (r = .int (an_judge H K G s m) ∧ r2 = mr ∧ rz_ (H) (K) G mi m2)) := by
  show Ev (d + 5) 190 0 [.ref 110, .int s, .int m, im_bad] [] sh mi mr _
  have hn6 := rz_n hz
  refine ev_s (is_aload_n rfl rfl) ?_
  refine ev_s (is_iload_n rfl rfl) ?_
  refine ev_s (is_iload_n rfl rfl) ?_
  refine ev_c1 (is_callR 3 [_, _] [] rfl rfl rfl rfl rfl (Nat.le_of_ble_eq_true rfl) rfl rfl rfl (pu_s hC 110 rfl rfl)) rfl rfl (r_toW hC hz _ _) ?_
  refine ev_s (st_istore_n_3 rfl rfl) ?_
  refine ev_s (is_iload_n rfl rfl) ?_
  refine ev_if_ne rfl (fun h_8 => ?_) (fun h_8 => ?_)
  · refine ev_s (is_iload_n rfl rfl) ?_
    refine ev_ret (is_ireturn rfl rfl (by first | rfl | exact pu_b_nar | decide)) ?_
    first
      | (rw [show an_judge H K G s m = rf_d H K s m from if_neg h_8]
         exact ⟨rfl, rfl, rfl, hz⟩)
      | (have ea : an_judge H K G (nI s0) (nI m0) = pu_o (ho_fo H K G s0 m0) := by simp only [an_judge, if_pos e0, es0, em0]
         rw [ea]
         exact ⟨rfl, rfl, rfl, hz⟩)
  · have h_8 := Decidable.of_not_not h_8
    have e0 : rf_d H K s m = nI 0 := h_8
    obtain ⟨hrs, hrm⟩ := rf_d_0 e0
    obtain ⟨s0, rfl, hs4, hk4, hs12, es0⟩ := rf_s_0 hrs
    obtain ⟨m0, rfl, hm0, em0⟩ := ho_isM_n hn6 hrm
    have hm6 : m0 < 6 := by omega
    refine ev_s (is_aload_n rfl rfl) ?_
    refine ev_s (is_iload_n rfl rfl) ?_
    refine ev_s (is_iload_n rfl rfl) ?_
    refine ev_q1 (is_callR 3 [_, _] [] rfl rfl rfl rfl rfl (Nat.le_of_ble_eq_true rfl) rfl rfl rfl (pu_s hC 110 rfl rfl)) rfl rfl (r_unlike hC hz (s := s0) (m := m0) hs4 hs12 hm6) (fun r_14 mi mr hq_14 => ?_)
    obtain ⟨rfl, hmr, hsc⟩ := hq_14
    have hmr := hmr.symm
    subst hmr
    have hz := rz_sS hz hsc
    refine ev_s (is_goto rfl) ?_
    refine ev_ret (is_ireturn rfl rfl (by first | rfl | exact pu_b_nar | decide)) ?_
    first
      | (rw [show an_judge H K G s m = rf_d H K s m from if_neg h_8]
         exact ⟨rfl, rfl, rfl, hz⟩)
      | (have ea : an_judge H K G (nI s0) (nI m0) = pu_o (ho_fo H K G s0 m0) := by simp only [an_judge, if_pos e0, es0, em0]
         rw [ea]
         exact ⟨rfl, rfl, rfl, hz⟩)

theorem r_whose {d : Nat} {sh : im_Sh} {mi : im_MI} {mr : im_MR} (hC : pu_C sh mr) {H K : ho_T} {G : ho_G} (hz : rz_ H K G mi mi) (s : Int32) : EvM (d + 5) 194 [.ref 110, .int s] sh mi mr (fun r sh2 m2 r2 => sh2 = sh ∧ (r = .int (an_whose H K G s) ∧ r2 = mr ∧ rz_ (H) (K) G mi m2)) := by
  show Ev (d + 5) 194 0 [.ref 110, .int s, im_bad, im_bad, im_bad] [] sh mi mr _
  have hn6 := rz_n hz
  refine ev_s (is_aload_n rfl rfl) ?_
  refine ev_s (is_iload_n rfl rfl) ?_
  refine ev_c1 (is_callR 2 [_] [] rfl rfl rfl rfl rfl (Nat.le_of_ble_eq_true rfl) rfl rfl rfl (pu_s hC 110 rfl rfl)) rfl rfl (r_shW hC hz _) ?_
  refine ev_s (st_istore_n_2 rfl rfl) ?_
  refine ev_s (is_iload_n rfl rfl) ?_
  refine ev_if_eq rfl (fun h_7 => ?_) (fun h_7 => ?_)
  · have e0 : rf_s K s = nI 0 := h_7
    obtain ⟨s0, rfl, hs4, hk4, hs12, es0⟩ := rf_s_0 e0
    rw [show an_whose H K G (nI s0) = nI (lo_bits (fun m => ho_agr H K G s0 m) (H 0 0)) by simp only [an_whose, if_pos e0, es0]]
    have loop : ∀ (j i : Nat) (v2 : Int32) (ma : im_MI), i + j = H 0 0 → rz_ H K G mi ma → Ev (d + 5) 194 17 [.ref 110, .int (nI s0), .int v2, .int (nI (lo_bits (fun m => ho_agr H K G s0 m) i)), .int (nI i)] [] sh ma mr (fun r sh2 m2 r2 => sh2 = sh ∧ (r = .int (nI (lo_bits (fun m => ho_agr H K G s0 m) (H 0 0))) ∧ r2 = mr ∧ rz_ (H) (K) G mi m2)) := by
      intro j
      induction j with
      | zero =>
        intro i v2 ma hi hz
        refine ev_s (is_iload rfl rfl) ?_
        refine ev_s (is_aload_n rfl rfl) ?_
        refine ev_s (is_getI' rfl (pu_s hC 110 rfl rfl) rfl rfl hz.1.1) ?_
        refine ev_s (is_icmp_ge_t rfl (nI_le (by omega) (by omega))) ?_
        refine ev_s (is_iload_n rfl rfl) ?_
        refine ev_ret (is_ireturn rfl rfl (by first | rfl | exact pu_b_nar | decide)) ?_
        exact ⟨rfl, by rw [show i = H 0 0 by omega], rfl, hz⟩
      | succ j ih =>
        intro i v2 ma hi hz
        refine ev_s (is_iload rfl rfl) ?_
        refine ev_s (is_aload_n rfl rfl) ?_
        refine ev_s (is_getI' rfl (pu_s hC 110 rfl rfl) rfl rfl hz.1.1) ?_
        refine ev_s (is_icmp_ge_f rfl (nI_ge (by omega) (by omega))) ?_
        refine ev_s (is_iload_n rfl rfl) ?_
        refine ev_s (is_aload_n rfl rfl) ?_
        refine ev_s (is_iload_n rfl rfl) ?_
        refine ev_s (is_iload rfl rfl) ?_
        refine ev_q1 (is_callR 3 [_, _] [_] rfl rfl rfl rfl rfl (Nat.le_of_ble_eq_true rfl) rfl rfl rfl (pu_s hC 110 rfl rfl)) rfl rfl (r_unlike hC hz (s := s0) (m := i) hs4 hs12 (by omega)) (fun r_31 mi mr hq_31 => ?_)
        obtain ⟨rfl, hmr, hsc⟩ := hq_31
        have hmr := hmr.symm
        subst hmr
        have hz := rz_sS hz hsc
        refine ev_s (is_iconst ((-1)) rfl rfl) ?_
        refine ev_icmp_ne rfl (fun h_35 => ?_) (fun h_35 => ?_)
        · have hp : ho_agr H K G s0 i = false := decide_eq_false (fun q => h_35 ((pu_o_none _ (fo_lt (f := fun h => ho_comp H G i h) hs12)).mpr q))
          refine ev_s (is_iconst (nI 0) rfl rfl) ?_
          have hbl := lo_bits_lt (fun m => ho_agr H K G s0 m) i
          first
            | refine ev_s (is_ior _ rfl (pu_or hbl)) ?_
            | refine ev_s (is_ior _ rfl (pu_or0 _)) ?_
          refine ev_s (st_istore_n_3 rfl rfl) ?_
          refine ev_s (st_iinc_4 _ rfl rfl (nI_inc _)) ?_
          refine ev_s (is_goto rfl) ?_
          have := ih (i + 1) v2 _ (by omega) hz
          rw [lo_bits_s] at this
          first
            | (rw [if_pos hp] at this; exact this)
            | (rw [if_neg (fun q => absurd (hp.symm.trans q) (by decide)), Nat.add_zero] at this; exact this)
        · have hp : ho_agr H K G s0 i = true := decide_eq_true ((pu_o_none _ (fo_lt (f := fun h => ho_comp H G i h) hs12)).mp (Decidable.of_not_not h_35))
          refine ev_s (is_iconst (nI 1) rfl rfl) ?_
          refine ev_s (is_iload rfl rfl) ?_
          refine ev_s (is_ishl _ rfl (pu_shl1 (by omega))) ?_
          refine ev_s (is_goto rfl) ?_
          have hbl := lo_bits_lt (fun m => ho_agr H K G s0 m) i
          first
            | refine ev_s (is_ior _ rfl (pu_or hbl)) ?_
            | refine ev_s (is_ior _ rfl (pu_or0 _)) ?_
          refine ev_s (st_istore_n_3 rfl rfl) ?_
          refine ev_s (st_iinc_4 _ rfl rfl (nI_inc _)) ?_
          refine ev_s (is_goto rfl) ?_
          have := ih (i + 1) v2 _ (by omega) hz
          rw [lo_bits_s] at this
          first
            | (rw [if_pos hp] at this; exact this)
            | (rw [if_neg (fun q => absurd (hp.symm.trans q) (by decide)), Nat.add_zero] at this; exact this)
    refine ev_s (is_iconst (nI 0) rfl rfl) ?_
    refine ev_s (st_istore_n_3 rfl rfl) ?_
    refine ev_s (is_iconst (nI 0) rfl rfl) ?_
    refine ev_s (st_istore_4 rfl rfl) ?_
    exact loop (H 0 0) 0 _ mi (by omega) hz
  · refine ev_s (is_iload_n rfl rfl) ?_
    refine ev_ret (is_ireturn rfl rfl (by first | rfl | exact pu_b_nar | decide)) ?_
    rw [show an_whose H K G s = rf_s K s from if_neg h_7]
    exact ⟨rfl, rfl, rfl, hz⟩

theorem r_laws {d : Nat} {sh : im_Sh} {mi : im_MI} {mr : im_MR} (hC : pu_C sh mr) {H K : ho_T} {G : ho_G} (hz : rz_ H K G mi mi) (s m : Int32) : EvM (d + 5) 193 [.ref 110, .int s, .int m] sh mi mr (fun r sh2 m2 r2 => sh2 = sh ∧ (r = .int (an_laws H K G s m) ∧ r2 = mr ∧ rz_ (H) (K) G mi m2)) := by
  show Ev (d + 5) 193 0 [.ref 110, .int s, .int m, im_bad, im_bad, im_bad, im_bad] [] sh mi mr _
  have hn6 := rz_n hz
  have hr3 := (rz_bd hz).2.2.2.1
  refine ev_s (is_aload_n rfl rfl) ?_
  refine ev_s (is_iload_n rfl rfl) ?_
  refine ev_s (is_iload_n rfl rfl) ?_
  refine ev_c1 (is_callR 3 [_, _] [] rfl rfl rfl rfl rfl (Nat.le_of_ble_eq_true rfl) rfl rfl rfl (pu_s hC 110 rfl rfl)) rfl rfl (r_toW hC hz _ _) ?_
  refine ev_s (st_istore_n_3 rfl rfl) ?_
  refine ev_s (is_iload_n rfl rfl) ?_
  refine ev_if_eq rfl (fun h_8 => ?_) (fun h_8 => ?_)
  · have e0 : rf_d H K s m = nI 0 := h_8
    obtain ⟨hrs, hrm⟩ := rf_d_0 e0
    obtain ⟨s0, rfl, hs4, hk4, hs12, es0⟩ := rf_s_0 hrs
    obtain ⟨m0, rfl, hm0, em0⟩ := ho_isM_n hn6 hrm
    have hm6 : m0 < 6 := by omega
    have ea : an_laws H K G (nI s0) (nI m0) = nI (lo_bits (fun t => ho_agr (ho_set H 0 3 t) K G s0 m0) (H 0 2)) := by simp only [an_laws, if_pos e0, es0, em0]
    rw [ea]
    have loop : ∀ (j i : Nat) (v3 : Int32) (Hc : ho_T) (ma : im_MI), i + j = H 0 2 → rz_ Hc K G mi ma → Hc 0 2 = H 0 2 → (∀ u, ho_set Hc 0 3 u = ho_set H 0 3 u) → Ev (d + 5) 193 25 [.ref 110, .int (nI s0), .int (nI m0), .int v3, .int (nI (H 0 3)), .int (nI (lo_bits (fun t => ho_agr (ho_set H 0 3 t) K G s0 m0) i)), .int (nI i)] [] sh ma mr (fun r sh2 m2 r2 => sh2 = sh ∧ (r = .int (nI (lo_bits (fun t => ho_agr (ho_set H 0 3 t) K G s0 m0) (H 0 2))) ∧ r2 = mr ∧ rz_ (H) (K) G mi m2)) := by
      intro j
      induction j with
      | zero =>
        intro i v3 Hc ma hi hz h02 hset
        have ht6 := (rz_bd hz).2.2.1
        rw [h02] at ht6
        refine ev_s (is_iload rfl rfl) ?_
        refine ev_s (is_aload_n rfl rfl) ?_
        refine ev_s (is_getI' rfl (pu_s hC 110 rfl rfl) rfl rfl (hz.1.2.2.1.trans (by rw [h02]))) ?_
        refine ev_s (is_icmp_ge_t rfl (nI_le (by omega) (by omega))) ?_
        refine ev_s (is_aload_n rfl rfl) ?_
        refine ev_s (is_iload rfl rfl) ?_
        refine ev_s (is_putI rfl (pu_s hC 110 rfl rfl) rfl rfl rfl) ?_
        refine ev_s (is_iload rfl rfl) ?_
        refine ev_ret (is_ireturn rfl rfl (by first | rfl | exact pu_b_nar | decide)) ?_
        have hzf := rz_rule hz (v := H 0 3) (by rw [h02]; exact hr3)
        rw [hset, ho_set_same] at hzf
        exact ⟨rfl, by rw [show i = H 0 2 by omega], rfl, hzf⟩
      | succ j ih =>
        intro i v3 Hc ma hi hz h02 hset
        have ht6 := (rz_bd hz).2.2.1
        rw [h02] at ht6
        refine ev_s (is_iload rfl rfl) ?_
        refine ev_s (is_aload_n rfl rfl) ?_
        refine ev_s (is_getI' rfl (pu_s hC 110 rfl rfl) rfl rfl (hz.1.2.2.1.trans (by rw [h02]))) ?_
        refine ev_s (is_icmp_ge_f rfl (nI_ge (by omega) (by omega))) ?_
        refine ev_s (is_aload_n rfl rfl) ?_
        refine ev_s (is_iload rfl rfl) ?_
        refine ev_s (is_putI rfl (pu_s hC 110 rfl rfl) rfl rfl rfl) ?_
        have hz := rz_rule hz (v := i) (by rw [h02]; omega)
        rw [hset i] at hz
        refine ev_s (is_iload rfl rfl) ?_
        refine ev_s (is_aload_n rfl rfl) ?_
        refine ev_s (is_iload_n rfl rfl) ?_
        refine ev_s (is_iload_n rfl rfl) ?_
        refine ev_q1 (is_callR 3 [_, _] [_] rfl rfl rfl rfl rfl (Nat.le_of_ble_eq_true rfl) rfl rfl rfl (pu_s hC 110 rfl rfl)) rfl rfl (r_unlike hC hz (s := s0) (m := m0) hs4 hs12 hm6) (fun r_45 mi mr hq_45 => ?_)
        obtain ⟨rfl, hmr, hsc⟩ := hq_45
        have hmr := hmr.symm
        subst hmr
        have hz := rz_sS hz hsc
        refine ev_s (is_iconst ((-1)) rfl rfl) ?_
        refine ev_icmp_ne rfl (fun h_49 => ?_) (fun h_49 => ?_)
        · have hp : ho_agr (ho_set H 0 3 i) K G s0 m0 = false := decide_eq_false (fun q => h_49 ((pu_o_none _ (fo_lt (f := fun h => ho_comp (ho_set H 0 3 i) G m0 h) hs12)).mpr q))
          refine ev_s (is_iconst (nI 0) rfl rfl) ?_
          have hbl := lo_bits_lt (fun t => ho_agr (ho_set H 0 3 t) K G s0 m0) i
          first
            | refine ev_s (is_ior _ rfl (pu_or hbl)) ?_
            | refine ev_s (is_ior _ rfl (pu_or0 _)) ?_
          refine ev_s (st_istore_5 rfl rfl) ?_
          refine ev_s (st_iinc_6 _ rfl rfl (nI_inc _)) ?_
          refine ev_s (is_goto rfl) ?_
          have := ih (i + 1) v3 _ _ (by omega) hz (ho_set_j _ _ _ _ (by decide) _) (fun u => ho_set_set _ _ _ _ _)
          rw [lo_bits_s] at this
          first
            | (rw [if_pos hp] at this; exact this)
            | (rw [if_neg (fun q => absurd (hp.symm.trans q) (by decide)), Nat.add_zero] at this; exact this)
        · have hp : ho_agr (ho_set H 0 3 i) K G s0 m0 = true := decide_eq_true ((pu_o_none _ (fo_lt (f := fun h => ho_comp (ho_set H 0 3 i) G m0 h) hs12)).mp (Decidable.of_not_not h_49))
          refine ev_s (is_iconst (nI 1) rfl rfl) ?_
          refine ev_s (is_iload rfl rfl) ?_
          refine ev_s (is_ishl _ rfl (pu_shl1 (by omega))) ?_
          refine ev_s (is_goto rfl) ?_
          have hbl := lo_bits_lt (fun t => ho_agr (ho_set H 0 3 t) K G s0 m0) i
          first
            | refine ev_s (is_ior _ rfl (pu_or hbl)) ?_
            | refine ev_s (is_ior _ rfl (pu_or0 _)) ?_
          refine ev_s (st_istore_5 rfl rfl) ?_
          refine ev_s (st_iinc_6 _ rfl rfl (nI_inc _)) ?_
          refine ev_s (is_goto rfl) ?_
          have := ih (i + 1) v3 _ _ (by omega) hz (ho_set_j _ _ _ _ (by decide) _) (fun u => ho_set_set _ _ _ _ _)
          rw [lo_bits_s] at this
          first
            | (rw [if_pos hp] at this; exact this)
            | (rw [if_neg (fun q => absurd (hp.symm.trans q) (by decide)), Nat.add_zero] at this; exact this)
    refine ev_s (is_aload_n rfl rfl) ?_
    refine ev_s (is_getI' rfl (pu_s hC 110 rfl rfl) rfl rfl hz.1.2.2.2.1) ?_
    refine ev_s (st_istore_4 rfl rfl) ?_
    refine ev_s (is_iconst (nI 0) rfl rfl) ?_
    refine ev_s (st_istore_5 rfl rfl) ?_
    refine ev_s (is_iconst (nI 0) rfl rfl) ?_
    refine ev_s (st_istore_6 rfl rfl) ?_
    exact loop (H 0 2) 0 _ H mi (by omega) hz rfl (fun _ => rfl)
  · refine ev_s (is_iload_n rfl rfl) ?_
    refine ev_ret (is_ireturn rfl rfl (by first | rfl | exact pu_b_nar | decide)) ?_
    rw [show an_laws H K G s m = rf_d H K s m from if_neg h_8]
    exact ⟨rfl, rfl, rfl, hz⟩
